/-! the acts of a show, read by both sides -/
def rdA (y l a : Nat) (sg : Nat → Int32) (a' k r h t f : Nat) : Prop := acB k r h t f ∧ a' ≤ l ∧ a + 1 ≤ a' ∧ ∀ k0 r0 h0 t0 f0, Rt (f_X0_read (nI l) (nI a) k0 r0 h0 t0 f0 sg) (fun s => s.1 = 1 ∧ s.2.1 = nI a' ∧ okAct k r h t f s.2.2.1 s.2.2.2.1 s.2.2.2.2.1 s.2.2.2.2.2.1 s.2.2.2.2.2.2)
def runs (y l : Nat) (tc : Nat → Nat) (sg : Nat → Int32) : Nat → List (Nat × Nat × Nat × Nat × Nat) → Prop
  | _, [] => False
  | a, x :: [] => a < y ∧ rdA y l a sg y x.1 x.2.1 x.2.2.1 x.2.2.2.1 x.2.2.2.2
  | a, x :: z :: r => a < y ∧ ∃ a', rdA y l a sg a' x.1 x.2.1 x.2.2.1 x.2.2.2.1 x.2.2.2.2 ∧ sn tc l a' = 59 ∧ runs y l tc sg (a' + 1) (z :: r)
def acL (g : Nat → Int32) : Nat → List (Nat × Nat × Nat × Nat × Nat) → Prop
  | _, [] => True
  | i, x :: r => okAct x.1 x.2.1 x.2.2.1 x.2.2.2.1 x.2.2.2.2 (g (5 * i)) (g (5 * i + 1)) (g (5 * i + 2)) (g (5 * i + 3)) (g (5 * i + 4)) ∧ acL g (i + 1) r
section
variable {y l : Nat} {tc : Nat → Nat} {sg mx : Nat → Int32}
theorem prs (h : okRd y 60 l tc sg mx) (KK : Int32 → Int32 → Int32 → (Nat → Int32) → Option (Int32 × Int32 × Int32 × Int32 × Int32 × Int32 × Int32 × Int32 × Int32 × Int32 × Int32 × Int32 × Int32 × Int32 × Int32 × Int32 × Int32 × Int32 × Int32 × (Nat → Int32) × (Nat → Int32) × (Nat → Int32) × (Nat → Int32) × (Nat → Int64))) : ∀ N a k, l - a ≤ N → a ≤ l → 2 * k ≤ a → (∃ q, q ≤ 80 ∧ (∀ f k0 r0 h0 t0 f0, N + 2 ≤ f → Rt (ml7 (s_X0_check_17 (nI y) sg (nI l) (k_X0_check_17 (nI l))) f (nI k) (nI a) k0 r0 h0 t0 f0) (fun s => s.1 = -1 - nI q)) ∧ ∀ f ac, N + 3 ≤ f → ∃ n' at' w ac', ml5 (s_X12_show_39 mx (nI y) 60 KK) f (nI k) 1 (nI a) (-1) ac = KK n' at' w ac' ∧ (w = nI q ∨ (w = -1 ∧ at' = nI q ∧ q < y))) ∨ (∃ L, runs y l tc sg a L ∧ (∀ f k0 r0 h0 t0 f0, N + 2 ≤ f → Rt (ml7 (s_X0_check_17 (nI y) sg (nI l) (k_X0_check_17 (nI l))) f (nI k) (nI a) k0 r0 h0 t0 f0) (fun s => s.1 = 0)) ∧ ∀ f ac, N + 3 ≤ f → ∃ ac', ml5 (s_X12_show_39 mx (nI y) 60 KK) f (nI k) 1 (nI a) (-1) ac = KK (nI (k + L.length)) (nI y) (-1) ac' ∧ (∀ j, j < 5 * k → ac' j = ac j) ∧ acL ac' k L) := by
  have hl := rd_l h
  have step : ∀ N a k, l - a ≤ N → a ≤ l → 2 * k ≤ a → (∀ a', a' + 1 ≤ l → a + 1 ≤ a' → ((∃ q, q ≤ 80 ∧ (∀ f k0 r0 h0 t0 f0, (N - 1) + 2 ≤ f → Rt (ml7 (s_X0_check_17 (nI y) sg (nI l) (k_X0_check_17 (nI l))) f (nI (k + 1)) (nI (a' + 1)) k0 r0 h0 t0 f0) (fun s => s.1 = -1 - nI q)) ∧ ∀ f ac, (N - 1) + 3 ≤ f → ∃ n' at' w ac', ml5 (s_X12_show_39 mx (nI y) 60 KK) f (nI (k + 1)) 1 (nI (a' + 1)) (-1) ac = KK n' at' w ac' ∧ (w = nI q ∨ (w = -1 ∧ at' = nI q ∧ q < y))) ∨ (∃ L, runs y l tc sg (a' + 1) L ∧ (∀ f k0 r0 h0 t0 f0, (N - 1) + 2 ≤ f → Rt (ml7 (s_X0_check_17 (nI y) sg (nI l) (k_X0_check_17 (nI l))) f (nI (k + 1)) (nI (a' + 1)) k0 r0 h0 t0 f0) (fun s => s.1 = 0)) ∧ ∀ f ac, (N - 1) + 3 ≤ f → ∃ ac', ml5 (s_X12_show_39 mx (nI y) 60 KK) f (nI (k + 1)) 1 (nI (a' + 1)) (-1) ac = KK (nI (k + 1 + L.length)) (nI y) (-1) ac' ∧ (∀ j, j < 5 * (k + 1) → ac' j = ac j) ∧ acL ac' (k + 1) L))) → ((∃ q, q ≤ 80 ∧ (∀ f k0 r0 h0 t0 f0, N + 2 ≤ f → Rt (ml7 (s_X0_check_17 (nI y) sg (nI l) (k_X0_check_17 (nI l))) f (nI (k)) (nI (a)) k0 r0 h0 t0 f0) (fun s => s.1 = -1 - nI q)) ∧ ∀ f ac, N + 3 ≤ f → ∃ n' at' w ac', ml5 (s_X12_show_39 mx (nI y) 60 KK) f (nI (k)) 1 (nI (a)) (-1) ac = KK n' at' w ac' ∧ (w = nI q ∨ (w = -1 ∧ at' = nI q ∧ q < y))) ∨ (∃ L, runs y l tc sg (a) L ∧ (∀ f k0 r0 h0 t0 f0, N + 2 ≤ f → Rt (ml7 (s_X0_check_17 (nI y) sg (nI l) (k_X0_check_17 (nI l))) f (nI (k)) (nI (a)) k0 r0 h0 t0 f0) (fun s => s.1 = 0)) ∧ ∀ f ac, N + 3 ≤ f → ∃ ac', ml5 (s_X12_show_39 mx (nI y) 60 KK) f (nI (k)) 1 (nI (a)) (-1) ac = KK (nI (k + L.length)) (nI y) (-1) ac' ∧ (∀ j, j < 5 * (k) → ac' j = ac j) ∧ acL ac' (k) L)) := by
    intro N a k h1 h2 h3 ih
    have hck : ¬ (60 : Int32) ≤ nI k := nI_ge (b := 60) (by omega) (by omega)
    have hx : ∀ f k0 r0 h0 t0 f0, ml7 (s_X0_check_17 (nI y) sg (nI l) (k_X0_check_17 (nI l))) (f + 1) (nI k) (nI a) k0 r0 h0 t0 f0 = bd7 (f_X0_read (nI l) (nI a) k0 r0 h0 t0 f0 sg) (fun r5 a6 k7 r8 h9 t10 f11 => if r5 = 0 then bd1 (f_X9_fault a6) (fun r17 => some (r17, nI l, a6, k7, r8, h9, t10, f11)) else bd1 (f_X9_isDone (nI y) a6) (fun r12 => if r12 = 0 then bd2 (f_X9_take 59 (nI l) a6 sg) (fun r13 a14 => if r13 = 0 then bd1 (f_X9_fault a14) (fun r16 => some (r16, nI l, a14, k7, r8, h9, t10, f11)) else ml7 (s_X0_check_17 (nI y) sg (nI l) (k_X0_check_17 (nI l))) f (nI (k + 1)) a14 k7 r8 h9 t10 f11) else some (0, nI l, a6, k7, r8, h9, t10, f11))) := by
      intro f k0 r0 h0 t0 f0
      show s_X0_check_17 (nI y) sg (nI l) (k_X0_check_17 (nI l)) (ml7 (s_X0_check_17 (nI y) sg (nI l) (k_X0_check_17 (nI l))) f) (nI k) (nI a) k0 r0 h0 t0 f0 = _
      unfold s_X0_check_17
      rw [if_neg hck, nI_1]
      rfl
    have hm : ∀ f ac, ml5 (s_X12_show_39 mx (nI y) 60 KK) (f + 1) (nI k) 1 (nI a) (-1) ac = bd3 (f_X12_readAct_t (nI (5 * k)) (nI y) 60 (nI a) (-1) mx ac) (fun a36 w37 ac38 => bd2 (f_X12_passes_t 59 (nI y) 60 a36 w37 mx) (fun r40 a41 => ml5 (s_X12_show_39 mx (nI y) 60 KK) f (nI (k + 1)) r40 a41 w37 ac38)) := by
      intro f ac
      show s_X12_show_39 mx (nI y) 60 KK (ml5 (s_X12_show_39 mx (nI y) 60 KK) f) (nI k) 1 (nI a) (-1) ac = _
      unfold s_X12_show_39
      rw [if_neg i10n, bd1_t m_fine_t, if_neg i10n, c_5, pk_mul, nI_1]
      rfl
    have hz : ∀ f n' at' w ac, ml5 (s_X12_show_39 mx (nI y) 60 KK) (f + 1) n' 0 at' w ac = KK n' at' w ac := by
      intro f n' at' w ac
      show s_X12_show_39 mx (nI y) 60 KK (ml5 (s_X12_show_39 mx (nI y) 60 KK) f) n' 0 at' w ac = _
      unfold s_X12_show_39
      rw [if_pos rfl]
    rcases rd_act h h2 with ⟨q, hq, g1, g2⟩ | ⟨a', kk, r, hh, t, ff, b1, b2, b3, g1, g2⟩
    · refine .inl ⟨q, hq, fun f k0 r0 h0 t0 f0 hf => ?_, fun f ac hf => ?_⟩
      · obtain ⟨f, rfl⟩ : ∃ x, f = x + 1 := ⟨f - 1, by omega⟩
        rw [hx]
        refine rb7 (g1 k0 r0 h0 t0 f0) ?_
        rintro s1 s2 s3 s4 s5 s6 s7 ⟨rfl, rfl⟩
        exact rt_t rfl (re1 rfl (rt_some rfl))
      · obtain ⟨f, rfl⟩ : ∃ x, f = x + 1 + 1 := ⟨f - 2, by omega⟩
        obtain ⟨⟨s1, s2, s3⟩, es, e2⟩ := g2 k ac (by omega)
        have e2' : s2 = nI q := e2
        refine ⟨nI (k + 1), s1, s2, s3, ?_, .inl e2'⟩
        rw [hm, bd3_t es, bd2_t (m_passes_f (by rw [e2']; exact m1_ne (by omega)) _ _ _ _ _), hz]
    · have hrd : rdA y l a sg a' kk r hh t ff := ⟨b3, b2, b1, g1⟩
      by_cases cdn : a' = y
      · refine .inr ⟨[(kk, r, hh, t, ff)], ⟨by omega, by rw [← cdn]; exact hrd⟩, fun f k0 r0 h0 t0 f0 hf => ?_, fun f ac hf => ?_⟩
        · obtain ⟨f, rfl⟩ : ∃ x, f = x + 1 := ⟨f - 1, by omega⟩
          rw [hx]
          refine rb7 (g1 k0 r0 h0 t0 f0) ?_
          rintro s1 s2 s3 s4 s5 s6 s7 ⟨rfl, rfl, _⟩
          exact rt_f i10n (re1 ((x_done (a := a') h.1 (by omega)).trans (by rw [if_pos cdn])) (rt_f i10n (rt_some rfl)))
        · obtain ⟨f, rfl⟩ : ∃ x, f = x + 1 + 1 := ⟨f - 2, by omega⟩
          obtain ⟨⟨s1, s2, s3⟩, es, e1, e2, e3, e4⟩ := g2 k ac (by omega)
          have e1' : s1 = nI a' := e1
          have e2' : s2 = -1 := e2
          refine ⟨s3, ?_, e3, e4, trivial⟩
          rw [hm, bd3_t es, e1', e2', bd2_t (show f_X12_passes_t 59 (nI y) 60 (nI a') (-1) mx = some (0, nI a') from m_passF (c := 59) (T := 60) h (by omega) (by omega) (by unfold sn; rw [if_neg (by omega)]; omega)), hz, cdn]
          rfl
      · by_cases cs : sn tc l a' = 59
        · have hlt := (sn_lt h (by omega) cs).1
          have hpT : f_X12_passes_t 59 (nI y) 60 (nI a') (-1) mx = some (1, nI (a' + 1)) := m_passT (c := 59) (T := 60) h (by omega) cs
          rcases ih a' (by omega) b1 with ⟨q, hq, i1, i2⟩ | ⟨L, i0, i1, i2⟩
          · refine .inl ⟨q, hq, fun f k0 r0 h0 t0 f0 hf => ?_, fun f ac hf => ?_⟩
            · obtain ⟨f, rfl⟩ : ∃ x, f = x + 1 := ⟨f - 1, by omega⟩
              rw [hx]
              refine rb7 (g1 k0 r0 h0 t0 f0) ?_
              rintro s1 s2 s3 s4 s5 s6 s7 ⟨rfl, rfl, _⟩
              exact rt_f i10n (re1 ((x_done (a := a') h.1 (by omega)).trans (by rw [if_neg cdn])) (rt_t rfl (re2 (x_takeT (c := 59) h (by omega) cs) (rt_f i10n (i1 f _ _ _ _ _ (by omega))))))
            · obtain ⟨f, rfl⟩ : ∃ x, f = x + 1 := ⟨f - 1, by omega⟩
              obtain ⟨⟨s1, s2, s3⟩, es, e1, e2, e3, e4⟩ := g2 k ac (by omega)
              have e1' : s1 = nI a' := e1
              have e2' : s2 = -1 := e2
              obtain ⟨n', at', w, ac', j1, j2⟩ := i2 f s3 (by omega)
              refine ⟨n', at', w, ac', ?_, j2⟩
              rw [hm, bd3_t es, e1', e2', bd2_t hpT]
              exact j1
          · match L, i0, i1, i2 with
            | [], i0, _, _ => exact absurd i0 (fun z => z)
            | z :: L, i0, i1, i2 =>
              refine .inr ⟨(kk, r, hh, t, ff) :: z :: L, ⟨by omega, a', hrd, cs, i0⟩, fun f k0 r0 h0 t0 f0 hf => ?_, fun f ac hf => ?_⟩
              · obtain ⟨f, rfl⟩ : ∃ x, f = x + 1 := ⟨f - 1, by omega⟩
                rw [hx]
                refine rb7 (g1 k0 r0 h0 t0 f0) ?_
                rintro s1 s2 s3 s4 s5 s6 s7 ⟨rfl, rfl, _⟩
                exact rt_f i10n (re1 ((x_done (a := a') h.1 (by omega)).trans (by rw [if_neg cdn])) (rt_t rfl (re2 (x_takeT (c := 59) h (by omega) cs) (rt_f i10n (i1 f _ _ _ _ _ (by omega))))))
              · obtain ⟨f, rfl⟩ : ∃ x, f = x + 1 := ⟨f - 1, by omega⟩
                obtain ⟨⟨s1, s2, s3⟩, es, e1, e2, e3, e4⟩ := g2 k ac (by omega)
                have e1' : s1 = nI a' := e1
                have e2' : s2 = -1 := e2
                obtain ⟨ac', j1, j2, j3⟩ := i2 f s3 (by omega)
                refine ⟨ac', ?_, fun j hj => (j2 j (by omega)).trans (e3 j hj), ?_, j3⟩
                · rw [hm, bd3_t es, e1', e2', bd2_t hpT, j1]
                  congr 2
                  simp
                  omega
                · rw [j2 _ (by omega), j2 _ (by omega), j2 _ (by omega), j2 _ (by omega), j2 _ (by omega)]
                  exact e4
        · refine .inl ⟨a', by omega, fun f k0 r0 h0 t0 f0 hf => ?_, fun f ac hf => ?_⟩
          · obtain ⟨f, rfl⟩ : ∃ x, f = x + 1 := ⟨f - 1, by omega⟩
            rw [hx]
            refine rb7 (g1 k0 r0 h0 t0 f0) ?_
            rintro s1 s2 s3 s4 s5 s6 s7 ⟨rfl, rfl, _⟩
            exact rt_f i10n (re1 ((x_done (a := a') h.1 (by omega)).trans (by rw [if_neg cdn])) (rt_t rfl (re2 (x_takeF (c := 59) h (by omega) (by omega) cs) (rt_t rfl (re1 rfl (rt_some rfl))))))
          · obtain ⟨f, rfl⟩ : ∃ x, f = x + 1 + 1 := ⟨f - 2, by omega⟩
            obtain ⟨⟨s1, s2, s3⟩, es, e1, e2, e3, e4⟩ := g2 k ac (by omega)
            have e1' : s1 = nI a' := e1
            have e2' : s2 = -1 := e2
            refine ⟨nI (k + 1), nI a', -1, s3, ?_, .inr ⟨rfl, rfl, by omega⟩⟩
            rw [hm, bd3_t es, e1', e2', bd2_t (show f_X12_passes_t 59 (nI y) 60 (nI a') (-1) mx = some (0, nI a') from m_passF (c := 59) (T := 60) h (by omega) (by omega) cs), hz]
  intro N
  induction N with
  | zero =>
    intro a k h1 h2 h3
    exact step 0 a k h1 h2 h3 (fun a' hx _ => absurd hx (by omega))
  | succ N ih =>
    intro a k h1 h2 h3
    exact step (N + 1) a k h1 h2 h3 (fun a' hx hy => ih (a' + 1) (k + 1) (by omega) hx (by omega))
end
