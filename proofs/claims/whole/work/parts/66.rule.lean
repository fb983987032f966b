/-! rule -/
theorem exe_cg {th th' : Nat → Int32} (h : ∀ k, k < 8 → th k = th' k) : ∀ (cs : List Nat) (st : List Int32), (∀ c, c ∈ cs → vcd c) → exe th cs st = exe th' cs st
  | [], _, _ => rfl
  | c :: r, st, hv => by
    show exe th r (exe1 th st c) = exe th' r (exe1 th' st c)
    have e : exe1 th st c = exe1 th' st c := by
      unfold exe1
      by_cases c2 : 2000 ≤ c
      · rw [if_pos c2, if_pos c2]
      · rw [if_neg c2, if_neg c2]
        by_cases c1 : 1000 ≤ c
        · rw [if_pos c1, if_pos c1, h (c - 1000) (by rcases hv c (by simp) with z | z <;> omega)]
        · rw [if_neg c1, if_neg c1]
    rw [e]
    exact exe_cg h r _ (fun c' hc' => hv c' (by simp [hc']))
def th8 (a0 a1 a2 a3 a4 a5 a6 a7 : Nat) (k : Nat) : Int32 := if k = 0 then nI a0 else if k = 1 then nI a1 else if k = 2 then nI a2 else if k = 3 then nI a3 else if k = 4 then nI a4 else if k = 5 then nI a5 else if k = 6 then nI a6 else nI a7
def VE (E : (Nat → Int32) → Int32) (a0 a1 a2 a3 a4 a5 a6 a7 : Nat) : Nat := (cl100 (E (th8 a0 a1 a2 a3 a4 a5 a6 a7))).toNatClampNeg
theorem VE_s (E : (Nat → Int32) → Int32) (a0 a1 a2 a3 a4 a5 a6 a7 : Nat) : VE E a0 a1 a2 a3 a4 a5 a6 a7 ≤ 100 ∧ cl100 (E (th8 a0 a1 a2 a3 a4 a5 a6 a7)) = nI (VE E a0 a1 a2 a3 a4 a5 a6 a7) := by
  obtain ⟨n, hn, e⟩ := cl100_n (E (th8 a0 a1 a2 a3 a4 a5 a6 a7))
  unfold VE
  rw [e, nI_clamp (by omega)]
  exact ⟨hn, rfl⟩
theorem VE_ok (E : (Nat → Int32) → Int32) : okV (VE E) := fun a b c d e f g h => (VE_s E a b c d e f g h).1
theorem th8_e {t : Nat → Int32} {a0 a1 a2 a3 a4 a5 a6 a7 : Nat} (h0 : t 0 = nI a0) (h1 : t 1 = nI a1) (h2 : t 2 = nI a2) (h3 : t 3 = nI a3) (h4 : t 4 = nI a4) (h5 : t 5 = nI a5) (h6 : t 6 = nI a6) (h7 : t 7 = nI a7) : ∀ k, k < 8 → t k = th8 a0 a1 a2 a3 a4 a5 a6 a7 k := by
  intro k hk
  obtain rfl | rfl | rfl | rfl | rfl | rfl | rfl | rfl : k = 0 ∨ k = 1 ∨ k = 2 ∨ k = 3 ∨ k = 4 ∨ k = 5 ∨ k = 6 ∨ k = 7 := by omega
  · exact h0
  · exact h1
  · exact h2
  · exact h3
  · exact h4
  · exact h5
  · exact h6
  · exact h7
/-- the usual rule -/
def usE (t : Nat → Int32) : Int32 := t 0 * 3 - t 1 * 2 - t 2 + t 3 * t 3 + t 4 * 4 + t 5 * 2 + 5
theorem us_x (rk : Nat → Int32) : okRx (VE usE) 0 rk := by
  intro t a0 a1 a2 a3 a4 a5 a6 a7 h0 h1 h2 h3 h4 h5 h6 h7 sk
  have ht := th8_e h0 h1 h2 h3 h4 h5 h6 h7
  have hv := (VE_s usE a0 a1 a2 a3 a4 a5 a6 a7).2
  have he : usE t = usE (th8 a0 a1 a2 a3 a4 a5 a6 a7) := by
    unfold usE
    rw [ht 0 (by omega), ht 1 (by omega), ht 2 (by omega), ht 3 (by omega), ht 4 (by omega), ht 5 (by omega)]
  have hu : f_X7_usual t = some (usE t) := by
    unfold f_X7_usual
    rfl
  have : Rt (f_X7_odds 0 rk sk t) (fun r => r = (nI (VE usE a0 a1 a2 a3 a4 a5 a6 a7), sk)) := by
    unfold f_X7_odds
    refine rl3 0 (fun k v1 v2 g => v1 = 0 ∧ v2 = 0 ∧ g = sk) (by omega) ⟨rfl, rfl, rfl⟩ ?_
    rintro rc k v1 v2 g ⟨rfl, rfl, rfl⟩ _
    unfold s_X7_odds_4
    refine rt_t (by decide) ?_
    unfold k_X7_odds_4
    refine rt_t (by decide) (re1 hu (rt_some ?_))
    show (cl100 (usE t), g) = _
    rw [he, hv]
  exact ⟨sk, rt_get this⟩
theorem us_m (ml : Nat → Int32) : okRm (VE usE) 0 ml := by
  intro F H kd ft st sc ca mk mf ms mc ma hC hS h f l hi hh hf hl q1 q2 q3 q4 q5 q6 q7 q8 q9 q10
  have hv := (VE_s usE hi (sc h) (ca (4 * h + kd f)) (l % 4) (l / 4) (ln (ft f) (st h)) f (ft f)).2
  obtain ⟨⟨b1, b2, b3⟩, e1, e2⟩ := hC.2 f hf
  obtain ⟨g1, g2, g3⟩ := hS.2 h hh
  have h6 := hS.1.1
  have h8 := hC.1
  have : Rt (f_X12_oddsOf (nI h) (nI f) (nI l) (nI hi) q1 q2 q3 q4 q5 0 q6 q7 q8 q9 q10 mk mf ms mc ma ml) (fun r => r.1 = nI (od (VE usE) kd ft st sc ca h f l hi)) := by
    unfold f_X12_oddsOf
    refine rt_t rfl (rt_lt (rt_gx (by omega) (by omega) (rt_gx (by omega) (by omega) ?_)))
    rw [nI_clamp (by omega), nI_clamp (by omega), e1, e2, c_4, pk_mul, nI_add, g2]
    refine rt_gx (by omega) (by omega) (rt_gx (by omega) (by omega) (re1 (m_leanOf hS hh (by omega)) (rt_lt (rt_some ?_))))
    rw [nI_clamp (by omega), g3 (kd f) (by omega), pk_rem (by omega) (by omega) (by omega), pk_div (by omega) (by omega) (by omega)]
    unfold od
    exact hv
  obtain ⟨⟨r1, r2⟩, er, rfl⟩ := this
  exact ⟨r2, er⟩
theorem m_ask {F H : Nat} {kd ft st sc ca : Nat → Nat} {mk mf ms mc ma mx : Nat → Int32} (hC : okC F kd ft mk mf) (hS : okS H st sc ca ms mc ma) {h f l hi : Nat} (hh : h < H) (hf : f < F) (hl : l < 8) : okAsk (mx, 1, nI h, nI f, nI l, nI hi, mk, mf, ms, mc, ma, th8 hi (sc h) (ca (4 * h + kd f)) (l % 4) (l / 4) (ln (ft f) (st h)) f (ft f)) := by
  intro k hk
  obtain ⟨⟨b1, b2, b3⟩, e1, e2⟩ := hC.2 f hf
  obtain ⟨g1, g2, g3⟩ := hS.2 h hh
  have h6 := hS.1.1
  have h8 := hC.1
  show (if (1 : Int32) = 0 then _ else f_X12_valueOf (nI (lt8 k)) (nI h) (nI f) (nI l) (nI hi) mk mf ms mc ma = some (th8 hi (sc h) (ca (4 * h + kd f)) (l % 4) (l / 4) (ln (ft f) (st h)) f (ft f) k))
  rw [if_neg i10n]
  refine rt_get ?_
  unfold f_X12_valueOf
  obtain rfl | rfl | rfl | rfl | rfl | rfl | rfl | rfl : k = 0 ∨ k = 1 ∨ k = 2 ∨ k = 3 ∨ k = 4 ∨ k = 5 ∨ k = 6 ∨ k = 7 := by omega
  · repeat (first | refine rt_t rfl ?_ | refine rt_f (by decide) ?_)
    exact rt_some rfl
  · repeat (first | refine rt_t rfl ?_ | refine rt_f (by decide) ?_)
    refine rt_gx (by omega) (by omega) (rt_some ?_)
    rw [nI_clamp (by omega)]; exact g2
  · repeat (first | refine rt_t rfl ?_ | refine rt_f (by decide) ?_)
    refine rt_gx (by omega) (by omega) ?_
    rw [nI_clamp (by omega), e1, c_4, pk_mul, nI_add]
    refine rt_gx (by omega) (by omega) (rt_some ?_)
    rw [nI_clamp (by omega)]; exact g3 (kd f) (by omega)
  · repeat (first | refine rt_t rfl ?_ | refine rt_f (by decide) ?_)
    refine rt_some ?_
    rw [c_4, pk_rem (by omega) (by omega) (by omega)]; rfl
  · repeat (first | refine rt_t rfl ?_ | refine rt_f (by decide) ?_)
    refine rt_some ?_
    rw [c_4, pk_div (by omega) (by omega) (by omega)]; rfl
  · repeat (first | refine rt_t rfl ?_ | refine rt_f (by decide) ?_)
    refine rt_gx (by omega) (by omega) ?_
    rw [nI_clamp (by omega), e2]
    exact re1 (m_leanOf hS hh (by omega)) (rt_some rfl)
  · repeat (first | refine rt_t rfl ?_ | refine rt_f (by decide) ?_)
    exact rt_some rfl
  · repeat (first | refine rt_t rfl ?_ | refine rt_f (by decide) ?_)
    refine rt_gx (by omega) (by omega) (rt_some ?_)
    rw [nI_clamp (by omega)]; exact e2
section
variable {y : Nat} {tc : Nat → Nat} {ts mt tw : Int32} {sg mx : Nat → Int32} {V : Nat → Nat → Nat → Nat → Nat → Nat → Nat → Nat → Nat} {rz mz : Int32} {rk ml mk mf ms mc ma : Nat → Int32}
theorem m_copyR (hy : y ≤ 40) (hk : ∀ k, k < y → tc k < 256 ∧ sg k = nI (tc k) ∧ mx k = byt (tc k)) (L M A W : Int32) : Rt (j_X12_rule_71 (nI y) mx ml L M A W) (fun b => b.1 = 0 ∧ b.2.1 = 0 ∧ b.2.2.1 = 0 ∧ b.2.2.2.2.2.2.2.1 = nI y ∧ b.2.2.2.2.2.2.2.2.1 = 0 ∧ ∀ k, k < y → b.2.2.2.2.2.2.2.2.2 k = byt (tc k)) := by
  unfold j_X12_rule_71
  refine rl2 40 (fun k v g => v = nI k ∧ k ≤ y ∧ ∀ j, j < k → g j = byt (tc j)) (by omega) ⟨rfl, by omega, by omega⟩ ?_
  rintro rc k v g ⟨rfl, hky, hI⟩ ih
  unfold s_X12_rule_73
  by_cases c : y ≤ k
  · obtain rfl : y = k := by omega
    refine rt_t (nI_le (Nat.le_refl _) (by omega)) ?_
    unfold k_X12_rule_73
    exact rt_some ⟨rfl, rfl, rfl, rfl, rfl, hI⟩
  · refine rt_f (nI_ge (by omega) (by omega)) (rt_gx (by omega) (by omega) (rt_gx (by omega) (by omega) (rt_lt (ih (by omega) _ _ ⟨nI_1 _, by omega, fun j hj => ?_⟩))))
    rw [nI_clamp (by omega), (hk k (by omega)).2.2]
    by_cases e : j = k
    · subst e; rw [upd_s]; exact pk_vb _
    · rw [upd_n e]; exact hI j (by omega)
theorem pr_rule (hT : okTx y tc ts sg mt mx) (hV : okV V) (hX : okRx V rz rk) (hM : okRm V mz ml) (tl ta ds : Int32) (rd : Nat → Int32) (q1 q2 q3 q4 q5 q6 q7 q8 q9 q10 : Int32) : Rt (f_X11_rule ts tl ta rz ds sg rk rd) (fun a => Rt (f_X12_rule mt tw q1 q2 q3 q4 q5 mz q6 q7 q8 q9 q10 mk mf ms mc ma mx ml) (fun b => (a.1 = b.1 ∧ b.2.2.1 = 0 ∧ a.2.1 = 0 ∧ b.2.1 = 0 ∧ ∃ V', okV V' ∧ okRx V' a.2.2.2.2.1 a.2.2.2.2.2.2.1 ∧ okRm V' b.2.2.2.2.2.2.2.1 b.2.2.2.2.2.2.2.2.2))) := by
  have hR := okTx_R (T := 40) hT (by omega)
  obtain ⟨hy, rfl, rfl, hk⟩ := hT
  have hl := rd_l hR
  unfold f_X11_rule f_X7_readRule
  generalize hlm : min y 40 = l at *
  have hop : f_X9_open 40 (nI y) tl ta = some (nI l, 0) := by rw [← hlm]; exact x_open (k := 40) (by omega) hy tl ta
  have hbg : f_X12_begin_m_text (nI y) 40 q1 q2 q3 q4 q5 = some (nI y, 40, 0, -1) := rfl
  have hcl : f_X9_clear (nI y) = some 0 := rfl
  by_cases y0 : y = 0
  · subst y0
    have cR := m_copyR (y := 0) (ml := ml) (by omega) hk (nI 0) 40 0 (-1)
    refine rb7 (P := fun r => r.1 = 0 ∧ r.2.2.2.1 = 0) ?_ ?_
    · refine re2 hop (re1 (show f_X9_isDone (nI 0) 0 = some 1 from rfl) (rt_f i10n ?_))
      unfold j_X7_readRule_40
      exact rt_gd (by decide) (rt_some ⟨rfl, rfl⟩)
    · rintro r1 r2 r3 r4 r5 r6 r7 ⟨rfl, rfl⟩
      refine re1 hcl (rt_some ?_)
      unfold f_X12_rule
      refine re4 hbg (rt_t (by decide) (rt_mono cR ?_))
      rintro b ⟨b1, b2, b3, b4, b5, b6⟩
      refine ⟨b1.symm, b3, rfl, b2, VE usE, VE_ok _, us_x _, ?_⟩
      rw [b4]; exact us_m _
  · have hsame : ∀ (q : Nat) (r2 r3 r5 : Int32) (r7 : Nat → Int32), q ≤ l → Rt (f_X12_rule (nI y) tw q1 q2 q3 q4 q5 mz q6 q7 q8 q9 q10 mk mf ms mc ma mx ml) (fun b => b.1 = -1 - nI q ∧ b.2.1 = 0 ∧ b.2.2.1 = 0 ∧ b.2.2.2.2.2.2.2.1 = mz ∧ b.2.2.2.2.2.2.2.2.2 = ml) → Rt (f_X12_rule (nI y) tw q1 q2 q3 q4 q5 mz q6 q7 q8 q9 q10 mk mf ms mc ma mx ml) (fun b => (-1 : Int32) - nI q = b.1 ∧ b.2.2.1 = 0 ∧ (0 : Int32) = 0 ∧ b.2.1 = 0 ∧ ∃ V', okV V' ∧ okRx V' rz rk ∧ okRm V' b.2.2.2.2.2.2.2.1 b.2.2.2.2.2.2.2.2.2) := by
      intro q r2 r3 r5 r7 hq hb
      refine rt_mono hb ?_
      rintro b ⟨b1, b2, b3, b4, b5⟩
      refine ⟨b1.symm, b3, rfl, b2, V, hV, hX, ?_⟩
      rw [b4, b5]; exact hM
    have hE0 : okE y l tc sg (mx, 0, q7, q8, q9, q10, mk, mf, ms, mc, ma, fun _ => 0) := ⟨hR, fun k hk => by show (if (0 : Int32) = 0 then _ else _); rw [if_pos rfl]; rfl⟩
    have hdn : f_X9_isDone (nI y) 0 = some 0 := (x_done (a := 0) hy (by omega)).trans (by rw [if_neg (fun z => y0 z.symm)])
    have hne0 : ¬ nI y ≤ 0 := nI_nle (by omega) (by omega)
    have hO : Out y l tc sg 0 (fun _ => []) 0 (fun d g => f_X7_readLevel 200 0 0 (nI l) 0 d sg g) (fun e => f_X12_held_t 200 0 (nI y) 40 0 (-1) e.ia e.ah e.af e.al e.ai e.mk e.mf e.ms e.mc e.ma e.mx) := out_all hR 4 0 rfl 170 0 200 (by omega) (by omega)
    rcases hO with ⟨q, i1, i2, i3⟩ | ⟨a', cs, E, i1, i2, i3, i4, i5, i6, i7⟩
    · have i2' : Rt (f_X7_readLevel 200 0 0 (nI l) 0 0 sg rd) (fun r => r.1 = 0 ∧ r.2.1 = nI q) := i2 0 rd (by omega)
      have i3' := i3 _ hE0
      dsimp only [Ev.ia, Ev.ah, Ev.af, Ev.al, Ev.ai, Ev.mk, Ev.mf, Ev.ms, Ev.mc, Ev.ma, Ev.mx, Ev.t] at i3'
      refine rb7 (P := fun r => r.1 = -1 - nI q ∧ r.2.2.2.1 = rz ∧ r.2.2.2.2.2.1 = rk) ?_ ?_
      · refine re2 hop (re1 hdn (rt_t rfl (rb4 i2' ?_)))
        rintro r1 r2 r3 r4 ⟨rfl, rfl⟩
        exact rt_t rfl (re1 rfl (rt_some ⟨rfl, rfl, rfl⟩))
      · rintro r1 r2 r3 r4 r5 r6 r7 ⟨rfl, rfl, rfl⟩
        refine re1 hcl (rt_some (hsame q r2 r3 r5 r7 i1 ?_))
        unfold f_X12_rule
        refine re4 hbg (rt_f hne0 (rb3 i3' ?_))
        rintro v at' w rfl
        have hw : nI q ≠ -1 := m1_ne (by omega)
        exact rt_if (fun _ => re1 (m_fine_f hw) (rt_t rfl (rt_some ⟨rfl, rfl, rfl, rfl, rfl⟩))) (fun _ => re1 (m_fault_f _ hw) (re1 (m_fine_f hw) (rt_t rfl (rt_some ⟨rfl, rfl, rfl, rfl, rfl⟩))))
    · have i6' : Rt (f_X7_readLevel 200 0 0 (nI l) 0 0 sg rd) (fun r => r.1 = 1 ∧ r.2.1 = nI a' ∧ r.2.2.1 = nI cs.length ∧ (∀ i, i < 0 → r.2.2.2 i = rd i) ∧ apd 0 r.2.2.2 cs) := by
        have := i6 0 rd (by omega)
        rw [Nat.zero_add] at this
        exact this
      have i7' := i7 _ hE0
      dsimp only [Ev.ia, Ev.ah, Ev.af, Ev.al, Ev.ai, Ev.mk, Ev.mf, Ev.ms, Ev.mc, Ev.ma, Ev.mx, Ev.t] at i7'
      by_cases cdn : a' = y
      · subst cdn
        have h40 : a' ≤ 40 := by omega
        have cR := m_copyR (y := a') (ml := ml) h40 hk (nI a') 40 (nI a') (-1)
        have hcs : cs.length ≤ 40 := by omega
        refine rb7 (P := fun r => r.1 = 0 ∧ r.2.2.2.1 = nI cs.length ∧ apd 0 r.2.2.2.2.2.1 cs) ?_ ?_
        · refine re2 hop (re1 hdn (rt_t rfl (rb4 i6' ?_)))
          rintro r1 r2 r3 r4 ⟨rfl, rfl, rfl, j1, j2⟩
          refine rt_f i10n (re1 ((x_done (a := a') hy (by omega)).trans (by rw [if_pos rfl])) (rt_f i10n ?_))
          unfold j_X7_readRule_40
          refine rt_gd ?_ (rt_some ⟨rfl, rfl, ?_⟩)
          · unfold cpok
            rw [nI_clamp (by omega)]
            exact decide_eq_true ⟨by decide, by decide, nI_pos (by omega), by show 0 + _ ≤ _; omega, by show 0 + _ ≤ _; omega⟩
          · refine apd_cg j2 (fun i _ hi => ?_)
            rw [nI_clamp (by omega)]
            exact (cpy_i (b := 0) (i := i) (by omega) (by omega)).trans (by rw [show (0 : Int32).toNatClampNeg = 0 from rfl, Nat.zero_add])
        · rintro r1 r2 r3 r4 r5 r6 r7 ⟨rfl, rfl, hap⟩
          refine re1 hcl (rt_some ?_)
          unfold f_X12_rule
          refine re4 hbg (rt_f hne0 (re3 i7' (rt_t (nI_le (Nat.le_refl _) (by omega)) (re1 m_fine_t (rt_f i10n (rt_mono cR ?_))))))
          rintro b ⟨b1, b2, b3, b4, b5, b6⟩
          have hEe : ∀ t, exe t cs [] = [E t] := fun t => i5 t []
          refine ⟨b1.symm, b3, rfl, b2, VE E, VE_ok _, ?_, ?_⟩
          · intro t a0 a1 a2 a3 a4 a5 a6 a7 h0 h1 h2 h3 h4 h5 h6 h7 sk
            have ht := th8_e h0 h1 h2 h3 h4 h5 h6 h7
            have e1 : E t = E (th8 a0 a1 a2 a3 a4 a5 a6 a7) := by
              have := exe_cg ht cs [] i4
              rw [hEe, hEe] at this
              exact (List.cons.inj this).1
            obtain ⟨⟨r1, r2⟩, er, e2⟩ := x_odds (t := t) hcs hap i4 (hEe t) sk
            have e2' : r1 = cl100 (E t) := e2
            rw [e1, (VE_s E a0 a1 a2 a3 a4 a5 a6 a7).2] at e2'
            exact ⟨r2, er.trans (by rw [e2'])⟩
          · rw [b4]
            intro F H kd ft st sc ca mk mf ms mc ma hC hS h f l' hi hh hf hl' w1 w2 w3 w4 w5 w6 w7 w8 w9 w10
            have hE1 : okE a' l tc sg (b.2.2.2.2.2.2.2.2.2, 1, nI h, nI f, nI l', nI hi, mk, mf, ms, mc, ma, th8 hi (sc h) (ca (4 * h + kd f)) (l' % 4) (l' / 4) (ln (ft f) (st h)) f (ft f)) := by
              refine ⟨⟨hy, by omega, hR.2.2.1, fun k hk' => ⟨(hk k hk').1, (hk k hk').2.1, b6 k hk'⟩⟩, m_ask hC hS hh hf hl'⟩
            have hev := i7 _ hE1
            dsimp only [Ev.ia, Ev.ah, Ev.af, Ev.al, Ev.ai, Ev.mk, Ev.mf, Ev.ms, Ev.mc, Ev.ma, Ev.mx, Ev.t] at hev
            have : Rt (f_X12_oddsOf (nI h) (nI f) (nI l') (nI hi) w1 w2 w3 w4 w5 (nI a') w6 w7 w8 w9 w10 mk mf ms mc ma b.2.2.2.2.2.2.2.2.2) (fun r => r.1 = nI (od (VE E) kd ft st sc ca h f l' hi)) := by
              unfold f_X12_oddsOf
              refine rt_f (fun z => y0 ((nI_eq (b := 0) (by omega) (by omega)).mp z)) (re4 (show f_X12_begin_m_rule (nI a') 40 w1 w2 w3 w4 w5 = some (nI a', 40, 0, -1) from rfl) (re3 ((held_rt _ _ _ _ _ _ _ _ _ _ _ _ _ _ _ _).trans hev) (rt_some ?_)))
              exact (VE_s E hi (sc h) (ca (4 * h + kd f)) (l' % 4) (l' / 4) (ln (ft f) (st h)) f (ft f)).2
            obtain ⟨⟨r1, r2⟩, er, rfl⟩ := this
            exact ⟨r2, er⟩
      · refine rb7 (P := fun r => r.1 = -1 - nI a' ∧ r.2.2.2.1 = rz ∧ r.2.2.2.2.2.1 = rk) ?_ ?_
        · refine re2 hop (re1 hdn (rt_t rfl (rb4 i6' ?_)))
          rintro r1 r2 r3 r4 ⟨rfl, rfl, rfl, j1, j2⟩
          exact rt_f i10n (re1 ((x_done (a := a') hy (by omega)).trans (by rw [if_neg cdn])) (rt_t rfl (re1 rfl (rt_some ⟨rfl, rfl, rfl⟩))))
        · rintro r1 r2 r3 r4 r5 r6 r7 ⟨rfl, rfl, rfl⟩
          refine re1 hcl (rt_some (hsame a' r2 r3 r5 r7 i2 ?_))
          unfold f_X12_rule
          refine re4 hbg (rt_f hne0 (re3 i7' (rt_f (nI_ge (by omega) (by omega)) (re1 (m_fault_t _) (re1 (m_fine_f (m1_ne (by omega))) (rt_t rfl (rt_some ⟨rfl, rfl, rfl, rfl, rfl⟩)))))))
end
