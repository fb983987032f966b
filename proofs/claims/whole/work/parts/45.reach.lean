/-! THE CURVE: what can be reached; the class's side -/
def Ac (F : Nat) (T E : Nat → Nat → Nat) : Nat → Nat → Nat → Prop
  | 0, t, e => t = 0 ∧ e = 0
  | b + 1, t, e => ∃ l t' e', l < 8 ∧ Ac F T E b t' e' ∧ t = t' + T (F - 1 - b) l ∧ e = e' + E (F - 1 - b) l
theorem Ac_sw {F : Nat} {T E : Nat → Nat → Nat} : ∀ b t e, Ac F T E b t e → Ac F E T b e t
  | 0, _, _, h => ⟨h.2, h.1⟩
  | b + 1, t, e, ⟨l, t', e', hl, h, h1, h2⟩ => ⟨l, e', t', hl, Ac_sw b t' e' h, h2, h1⟩
theorem Ac_le {F B : Nat} {T E : Nat → Nat → Nat} (hT : ∀ f l, f < F → l < 8 → T f l ≤ B) : ∀ b t e, b ≤ F → Ac F T E b t e → t ≤ B * b
  | 0, t, e, _, h => by rw [h.1]; exact Nat.zero_le _
  | b + 1, t, e, hb, ⟨l, t', e', hl, h, h1, h2⟩ => by
    have i1 := Ac_le hT b t' e' (by omega) h
    have i2 := hT (F - 1 - b) l (by omega) hl
    rw [Nat.mul_succ]; omega
/-- the letter l can stand at the fence f -/
def Pl (F : Nat) (T E : Nat → Nat → Nat) (f t e l : Nat) : Prop := l < 8 ∧ ∃ t' e', Ac F T E (F - 1 - f) t' e' ∧ t = t' + T f l ∧ e = e' + E f l
theorem Ac_P {F : Nat} {T E : Nat → Nat → Nat} {f t e : Nat} (hf : f < F) : Ac F T E (F - f) t e ↔ ∃ l, Pl F T E f t e l := by
  rw [show F - f = (F - 1 - f) + 1 by omega]
  constructor
  · rintro ⟨l, t', e', hl, h, h1, h2⟩
    rw [show F - 1 - (F - 1 - f) = f by omega] at h1 h2
    exact ⟨l, hl, t', e', h, h1, h2⟩
  · rintro ⟨l, hl, t', e', h, h1, h2⟩
    refine ⟨l, t', e', hl, h, ?_, ?_⟩
    · rw [show F - 1 - (F - 1 - f) = f by omega]; exact h1
    · rw [show F - 1 - (F - 1 - f) = f by omega]; exact h2
theorem Pl_sw {F : Nat} {T E : Nat → Nat → Nat} {f t e l : Nat} (h : Pl F T E f t e l) : Pl F E T f e t l := by
  obtain ⟨hl, t', e', h, h1, h2⟩ := h
  exact ⟨hl, e', t', Ac_sw _ _ _ h, h2, h1⟩
/-- letters, each the first that can stand -/
def chn (F : Nat) (T E : Nat → Nat → Nat) (t e : Nat) (w tt ee : Nat → Nat) (k : Nat) : Prop := tt 0 = t ∧ ee 0 = e ∧ ∀ f, f < k → (Pl F T E f (tt f) (ee f) (w f) ∧ ∀ j, j < w f → ¬ Pl F T E f (tt f) (ee f) j) ∧ tt f = tt (f + 1) + T f (w f) ∧ ee f = ee (f + 1) + E f (w f)
theorem chn_u {F : Nat} {T E : Nat → Nat → Nat} {t e : Nat} {w tt ee w' tt' ee' : Nat → Nat} {k : Nat} (h : chn F T E t e w tt ee k) (h' : chn F T E t e w' tt' ee' k) : ∀ f, f ≤ k → tt f = tt' f ∧ ee f = ee' f ∧ ∀ g, g < f → w g = w' g := by
  intro f
  induction f with
  | zero => intro _; exact ⟨h.1.trans h'.1.symm, h.2.1.trans h'.2.1.symm, fun g hg => absurd hg (by omega)⟩
  | succ f ih =>
    intro hf
    obtain ⟨i1, i2, i3⟩ := ih (by omega)
    obtain ⟨⟨a1, a2⟩, a3, a4⟩ := h.2.2 f (by omega)
    obtain ⟨⟨b1, b2⟩, b3, b4⟩ := h'.2.2 f (by omega)
    rw [← i1, ← i2] at b1 b2
    have hw : w f = w' f := by
      rcases Nat.lt_trichotomy (w f) (w' f) with q | q | q
      · exact absurd a1 (b2 _ q)
      · exact q
      · exact absurd b1 (a2 _ q)
    rw [← hw] at b3 b4
    refine ⟨by omega, by omega, fun g hg => ?_⟩
    by_cases e : g = f
    · rw [e]; exact hw
    · exact i3 g (by omega)
theorem chn_sw {F : Nat} {T E : Nat → Nat → Nat} {t e : Nat} {w tt ee : Nat → Nat} {k : Nat} (h : chn F T E t e w tt ee k) : chn F E T e t w ee tt k := by
  refine ⟨h.2.1, h.1, fun f hf => ?_⟩
  obtain ⟨⟨a1, a2⟩, a3, a4⟩ := h.2.2 f hf
  exact ⟨⟨Pl_sw a1, fun j hj q => a2 j hj (Pl_sw q)⟩, a4, a3⟩
/-- the row from 1 on -/
def rwl (g : Nat → Int64) : Nat → (Nat → Int64) → Nat → Int64
  | 0, t => t
  | k + 1, t => vp_updL (rwl g k t) (k + 1) (g k)
theorem rowE_l {g g' : Nat → Int64} {nt mt : Nat → Int64} : ∀ k, (∀ j, j < k → g j = g' j) → k ≤ 11 → rowE 1 nt mt → rowE (k + 1) (rwl g k nt) (rwl g' k mt)
  | 0, _, _, h => h
  | k + 1, hg, hk, h => by
    rw [rwl, rwl, hg k (by omega)]
    exact rowE_s _ (rowE_l k (fun j hj => hg j (by omega)) (by omega) h) (by omega)
def mnP (R : Nat → Prop) (v : Int32) : Prop := (v = -1 ∧ ∀ e, ¬ R e) ∨ (∃ e, v = nI e ∧ R e ∧ e ≤ 100000 ∧ ∀ e', R e' → e ≤ e')
theorem mnP_of {R R' : Nat → Prop} {v : Int32} (h : mnP R v) (h1 : ∀ e, R e → R' e) (h2 : ∀ e, R' e → ∃ e', e' ≤ e ∧ R e') : mnP R' v := by
  rcases h with ⟨rfl, h⟩ | ⟨e, rfl, a1, a2, a3⟩
  · refine .inl ⟨rfl, fun e he => ?_⟩
    obtain ⟨e', _, q⟩ := h2 e he
    exact h e' q
  · refine .inr ⟨e, rfl, h1 e a1, a2, fun e' he' => ?_⟩
    obtain ⟨e'', q1, q2⟩ := h2 e' he'
    have := a3 e'' q2
    omega
theorem mnP_cg {R R' : Nat → Prop} {v : Int32} (h : mnP R v) (hh : ∀ e, R e ↔ R' e) : mnP R' v := mnP_of h (fun e => (hh e).mp) (fun e he => ⟨e, Nat.le_refl _, (hh e).mpr he⟩)
def fmo (b : Nat) : Nat := 75 * b * (b - 1) + b
theorem fmo_s : ∀ b, b < 9 → fmo (b + 1) = fmo b + 150 * b + 1 := by decide
theorem fmo_le : ∀ b, b < 9 → fmo b + 150 * b < 5409 := by decide
theorem fmo_mono {c b : Nat} (h : c < b) (hb : b < 10) : fmo c + 150 * c < fmo b := by
  induction b with
  | zero => omega
  | succ b ih =>
    have hs := fmo_s b (by omega)
    by_cases e : c = b
    · subst e; omega
    · have := ih (by omega) (by omega)
      omega
theorem x_from' : ∀ b, b < 9 → f_X4_from (nI b) = some (nI (fmo b)) := by decide +kernel
/-- the longest that so many fences can take -/
def spn (F : Nat) (T : Nat → Nat → Nat) : Nat → Nat
  | 0 => 0
  | b + 1 => spn F T b + mxl (T (F - 1 - b)) 8
theorem mxl_ge {g : Nat → Nat} : ∀ n k, k < n → g k ≤ mxl g n
  | 0, k, h => absurd h (by omega)
  | n + 1, k, h => by
    rw [mxl]
    by_cases e : k = n
    · rw [e]; omega
    · have := mxl_ge (g := g) n k (by omega); omega
theorem Ac_sp {F : Nat} {T E : Nat → Nat → Nat} : ∀ b t e, Ac F T E b t e → t ≤ spn F T b
  | 0, t, e, h => by rw [h.1]; exact Nat.zero_le _
  | b + 1, t, e, ⟨l, t', e', hl, h, h1, h2⟩ => by
    have i1 := Ac_sp b t' e' h
    have i2 := mxl_ge (g := T (F - 1 - b)) 8 l hl
    rw [spn]; omega
theorem spn_le {F : Nat} {T : Nat → Nat → Nat} (hT : ∀ f l, f < F → l < 8 → T f l ≤ 150) : ∀ b, b ≤ F → spn F T b ≤ 150 * b
  | 0, _ => Nat.le_refl _
  | b + 1, hb => by
    have i1 := spn_le hT b (by omega)
    have i2 := mxl_le (g := T (F - 1 - b)) (b := 150) 8 (fun k hk => hT _ k (by omega) hk)
    rw [spn, Nat.mul_succ]; omega
/-- what the class has laid for the last so many fences -/
def okL (F : Nat) (T E : Nat → Nat → Nat) (b : Nat) (G z : Nat → Int32) : Prop := (∀ c, c ≤ b → z c = nI (spn F T c)) ∧ ∀ c, c ≤ b → ∀ t, t ≤ spn F T c → mnP (Ac F T E c t) (G (fmo c + t))
def okTE (F : Nat) (T E : Nat → Nat → Nat) (tt ee : Nat → Int32) : Prop := F ≤ 8 ∧ ∀ f, f < F → ∀ l, l < 8 → (T f l ≤ 150 ∧ E f l ≤ 161) ∧ tt (8 * f + l) = nI (T f l) ∧ ee (8 * f + l) = nI (E f l)
def Qs (F : Nat) (T E : Nat → Nat → Nat) (b s l t e : Nat) : Prop := ∃ l' s' e', l' < 8 ∧ (Ac F T E b s' e' ∧ ∀ e2, Ac F T E b s' e2 → e' ≤ e2) ∧ t = s' + T (F - 1 - b) l' ∧ e = e' + E (F - 1 - b) l' ∧ (s' < s ∨ (s' = s ∧ l' < l))
section
variable {F h : Nat} {T E : Nat → Nat → Nat} {tt ee G z : Nat → Int32}
theorem x_layBehind (hO : okTE F T E tt ee) {b : Nat} (hb : b < F) (hL : okL F T E b G z) : Rt (f_X4_layBehind (nI (b + 1)) (nI F) ee tt G z) (fun r => okL F T E (b + 1) r.1 r.2) := by
  have hF := hO.1
  have hT : ∀ f l, f < F → l < 8 → T f l ≤ 150 := fun f l hf hl => (hO.2 f hf l hl).1.1
  have hE : ∀ f l, f < F → l < 8 → E f l ≤ 161 := fun f l hf hl => (hO.2 f hf l hl).1.2
  have hsp := spn_le hT b (by omega)
  have hsp' := spn_le hT (b + 1) (by omega)
  have hfs := fmo_s b (by omega)
  have hfl := fmo_le (b + 1) (by omega)
  unfold f_X4_layBehind
  rw [pk_sub (by omega), c_8, pk_mul, show F - (b + 1) = F - 1 - b by omega]
  refine rt_lt ?_
  refine rl2 8 (fun k v3 v4 => v3 = nI (mxl (T (F - 1 - b)) k) ∧ v4 = nI k ∧ k ≤ 8) (by omega) ⟨rfl, rfl, by omega⟩ ?_
  rintro rc k v3 v4 ⟨rfl, rfl, hk⟩ ih
  have hm := mxl_le (g := T (F - 1 - b)) (b := 150) k (fun j hj => hT _ j (by omega) (by omega))
  unfold s_X4_layBehind_15
  by_cases hk8 : 8 ≤ k
  · obtain rfl : k = 8 := by omega
    refine rt_t (by decide) ?_
    clear ih rc
    unfold k_X4_layBehind_15
    rw [nI_pred]
    refine rt_gx (by omega) (by omega) (rt_gx (by omega) (by omega) (re1 (x_from' (b + 1) (by omega)) ?_))
    have ez : z b = nI (spn F T b) := hL.1 b (by omega)
    have ez2 : upd z (b + 1) (z b + nI (mxl (T (F - 1 - b)) 8)) (b + 1) = nI (spn F T (b + 1)) := by
      rw [upd_s, ez, nI_add]; rfl
    have ez3 : upd z (b + 1) (z b + nI (mxl (T (F - 1 - b)) 8)) b = nI (spn F T b) := by
      rw [upd_n (by omega), ez]
    have hzA : ∀ c, c ≤ b + 1 → upd z (b + 1) (z b + nI (mxl (T (F - 1 - b)) 8)) c = nI (spn F T c) := fun c hc => by
      by_cases e : c = b + 1
      · subst e; exact ez2
      · rw [upd_n e]; exact hL.1 c (by omega)
    refine rl2 1300 (fun k v5 g => v5 = nI k ∧ k ≤ spn F T (b + 1) + 1 ∧ (∀ j, j < fmo (b + 1) → g j = G j) ∧ ∀ j, j < k → g (fmo (b + 1) + j) = -1) (by omega) ⟨rfl, by omega, fun _ _ => rfl, by omega⟩ ?_
    rintro rc k v5 g ⟨rfl, hk, hg0, hg1⟩ ih
    unfold s_X4_layBehind_67
    rw [nI_pred, nI_clamp (by omega), nI_clamp (by omega), ez2]
    refine rt_gx (by omega) (by omega) ?_
    by_cases hks : spn F T (b + 1) < k
    · obtain rfl : k = spn F T (b + 1) + 1 := by omega
      refine rt_t (nI_lt (by omega) (by omega)) ?_
      clear ih rc
      unfold k_X4_layBehind_67
      refine rl2 1300 (fun s v5 g => v5 = nI s ∧ s ≤ spn F T b + 1 ∧ (∀ j, j < fmo (b + 1) → g j = G j) ∧ ∀ t, t ≤ spn F T (b + 1) → mnP (Qs F T E b s 0 t) (g (fmo (b + 1) + t))) (by omega) ⟨rfl, by omega, hg0, fun t ht => .inl ⟨hg1 t (by omega), ?_⟩⟩ ?_
      · rintro e ⟨l', s', e', _, _, _, _, q⟩
        omega
      rintro rc s v5 g ⟨rfl, hs, hg0, hg1⟩ ih
      unfold s_X4_layBehind_98
      rw [nI_pred, nI_clamp (by omega), nI_clamp (by omega), ez3]
      refine rt_gx (by omega) (by omega) ?_
      by_cases hss : spn F T b < s
      · obtain rfl : s = spn F T b + 1 := by omega
        refine rt_t (nI_lt (by omega) (by omega)) ?_
        unfold k_X4_layBehind_98
        rw [nI_pred, nI_clamp (by omega), nI_clamp (by omega)]
        refine rt_some ⟨hzA, fun c hc t ht => ?_⟩
        by_cases e : c = b + 1
        · subst e
          refine mnP_of (hg1 t ht) ?_ ?_
          · rintro e ⟨l', s', e', hl', ⟨q1, _⟩, q2, q3, _⟩
            exact ⟨l', s', e', hl', q1, q2, q3⟩
          · rintro e ⟨l', s', e', hl', q1, q2, q3⟩
            obtain ⟨em, hm1, hm2⟩ := pk_least (fun x => Ac F T E b s' x) ⟨e', q1⟩
            have hmle : ∀ e2, Ac F T E b s' e2 → em ≤ e2 := fun e2 he2 => Nat.le_of_not_lt (fun q => hm2 e2 q he2)
            have h1 := hmle e' q1
            have h2 := Ac_sp b s' e' q1
            exact ⟨em + E (F - 1 - b) l', by omega, l', s', em, hl', ⟨hm1, hmle⟩, q2, rfl, .inl (by omega)⟩
        · have hcb : c ≤ b := by omega
          have h1 := spn_le hT c (by omega)
          have h2 := fmo_mono (show c < b + 1 by omega) (by omega)
          show mnP _ (g (fmo c + t))
          rw [hg0 _ (by omega)]
          exact hL.2 c hcb t ht
      · have hfb := fmo_le b (by omega)
        refine rt_f (nI_nlt (by omega) (by omega)) (re1 (x_from' b (by omega)) ?_)
        rw [nI_add, gx (by omega) (by omega), nI_clamp (by omega), hg0 _ (by omega)]
        refine rt_lt ?_
        have hv := hL.2 b (by omega) s (by omega)
        refine rl2 8 (fun l v7 g => v7 = nI l ∧ l ≤ 8 ∧ (∀ j, j < fmo (b + 1) → g j = G j) ∧ ∀ t, t ≤ spn F T (b + 1) → mnP (Qs F T E b s l t) (g (fmo (b + 1) + t))) (by omega) ⟨rfl, by omega, hg0, hg1⟩ ?_
        rintro rc2 l v7 g2 ⟨rfl, hl, hg2, hg3⟩ ih2
        unfold s_X4_layBehind_130
        by_cases hl8 : 8 ≤ l
        · obtain rfl : l = 8 := by omega
          refine rt_t (by decide) ?_
          unfold k_X4_layBehind_130
          refine rt_lt (ih (by omega) _ _ ⟨nI_1 _, by omega, hg2, fun t ht => mnP_cg (hg3 t ht) (fun e => ?_)⟩)
          constructor
          · rintro ⟨l', s', e', q1, q2, q3, q4, q5⟩
            exact ⟨l', s', e', q1, q2, q3, q4, .inl (by omega)⟩
          · rintro ⟨l', s', e', q1, q2, q3, q4, q5⟩
            exact ⟨l', s', e', q1, q2, q3, q4, by omega⟩
        · refine rt_f (nI_ge (b := 8) (by omega) (by omega)) ?_
          rcases hv with ⟨hv1, hv2⟩ | ⟨ev, hv1, hv2, hv3, hv4⟩
          · refine rt_t hv1 ?_
            unfold k_X4_layBehind_130
            refine rt_lt (ih (by omega) _ _ ⟨nI_1 _, by omega, hg2, fun t ht => mnP_cg (hg3 t ht) (fun e => ?_)⟩)
            constructor
            · rintro ⟨l', s', e', q1, q2, q3, q4, q5⟩
              exact ⟨l', s', e', q1, q2, q3, q4, .inl (by
                rcases q5 with q5 | q5
                · omega
                · exact absurd (q5.1 ▸ q2.1) (hv2 e'))⟩
            · rintro ⟨l', s', e', q1, q2, q3, q4, q5⟩
              refine ⟨l', s', e', q1, q2, q3, q4, .inl ?_⟩
              rcases q5 with q5 | q5
              · by_cases e : s' = s
                · exact absurd (e ▸ q2.1) (hv2 e')
                · omega
              · omega
          · obtain ⟨⟨t1, t2⟩, t3, t4⟩ := hO.2 (F - 1 - b) (by omega) l (by omega)
            have hml := mxl_ge (g := T (F - 1 - b)) 8 l (by omega)
            have hspn : spn F T (b + 1) = spn F T b + mxl (T (F - 1 - b)) 8 := rfl
            rw [hv1]
            refine rt_f (m1_ne (by omega)) ?_
            simp (disch := omega) only [nI_add, gx, nI_clamp, Nat.mul_comm (F - 1 - b) 8, t3, t4, lt1_e]
            have ec : fmo (b + 1) + s + T (F - 1 - b) l = fmo (b + 1) + (s + T (F - 1 - b) l) := by omega
            rw [ec]
            have hcell := hg3 (s + T (F - 1 - b) l) (by omega)
            have hQ : ∀ t e, Qs F T E b s (l + 1) t e ↔ (Qs F T E b s l t e ∨ (t = s + T (F - 1 - b) l ∧ e = ev + E (F - 1 - b) l)) := by
              intro t e
              constructor
              · rintro ⟨l', s', e', q1, q2, q3, q4, q5⟩
                by_cases hq : s' = s ∧ l' = l
                · obtain ⟨rfl, rfl⟩ := hq
                  have h1 := q2.2 ev hv2
                  have h2 := hv4 e' q2.1
                  exact .inr ⟨q3, by omega⟩
                · exact .inl ⟨l', s', e', q1, q2, q3, q4, by omega⟩
              · rintro (⟨l', s', e', q1, q2, q3, q4, q5⟩ | ⟨q1, q2⟩)
                · exact ⟨l', s', e', q1, q2, q3, q4, by omega⟩
                · exact ⟨l, s, ev, by omega, ⟨hv2, hv4⟩, q1, q2, .inr ⟨rfl, by omega⟩⟩
            have hkeep : ∀ g' : Nat → Int32, (∀ j, j ≠ fmo (b + 1) + (s + T (F - 1 - b) l) → g' j = g2 j) → mnP (Qs F T E b s (l + 1) (s + T (F - 1 - b) l)) (g' (fmo (b + 1) + (s + T (F - 1 - b) l))) → (∀ j, j < fmo (b + 1) → g' j = G j) ∧ ∀ t, t ≤ spn F T (b + 1) → mnP (Qs F T E b s (l + 1) t) (g' (fmo (b + 1) + t)) := by
              intro g' h1 h2
              refine ⟨fun j hj => by rw [h1 j (by omega)]; exact hg2 j hj, fun t ht => ?_⟩
              by_cases e : t = s + T (F - 1 - b) l
              · subst e; exact h2
              · rw [h1 _ (by omega)]
                refine mnP_cg (hg3 t ht) (fun e' => ?_)
                rw [hQ]
                exact ⟨.inl, fun q => q.elim id (fun q => absurd q.1 e)⟩
            have hnew : mnP (Qs F T E b s (l + 1) (s + T (F - 1 - b) l)) (nI (ev + E (F - 1 - b) l)) ∨ ∃ c, g2 (fmo (b + 1) + (s + T (F - 1 - b) l)) = nI c ∧ c ≤ ev + E (F - 1 - b) l := by
              rcases hcell with ⟨c1, c2⟩ | ⟨c, c1, c2, c3, c4⟩
              · refine .inl (.inr ⟨_, rfl, (hQ _ _).mpr (.inr ⟨rfl, rfl⟩), ?_, fun e' he' => ?_⟩)
                · have := Ac_le (B := 161) (fun f l hf hl => (hO.2 f hf l hl).1.2) b ev s (by omega) (Ac_sw _ _ _ hv2)
                  omega
                · rcases (hQ _ _).mp he' with q | q
                  · exact absurd q (c2 e')
                  · omega
              · by_cases hce : c ≤ ev + E (F - 1 - b) l
                · exact .inr ⟨c, c1, hce⟩
                · refine .inl (.inr ⟨_, rfl, (hQ _ _).mpr (.inr ⟨rfl, rfl⟩), by omega, fun e' he' => ?_⟩)
                  rcases (hQ _ _).mp he' with q | q
                  · have := c4 e' q; omega
                  · omega
            have hev : ev + E (F - 1 - b) l < 2 ^ 31 := by
              have := Ac_le (B := 161) (fun f l hf hl => (hO.2 f hf l hl).1.2) b ev s (by omega) (Ac_sw _ _ _ hv2)
              omega
            refine rt_if (fun q => ?_) (fun q => rt_if (fun q2 => ?_) (fun q2 => ?_))
            · have hn : mnP (Qs F T E b s (l + 1) (s + T (F - 1 - b) l)) (nI (ev + E (F - 1 - b) l)) := by
                rcases hnew with hn | ⟨c, c1, c2⟩
                · exact hn
                · rw [q] at c1
                  exact absurd c1.symm (m1_ne (by omega))
              obtain ⟨k1, k2⟩ := hkeep (upd g2 (fmo (b + 1) + (s + T (F - 1 - b) l)) (nI (ev + E (F - 1 - b) l))) (fun j hj => upd_n hj) (by rw [upd_s]; exact hn)
              exact ih2 (by omega) _ _ ⟨nI_1 _, by omega, k1, k2⟩
            · obtain ⟨k1, k2⟩ := hkeep g2 (fun _ _ => rfl) (by
                rcases hcell with ⟨c1, c2⟩ | ⟨c, c1, c2, c3, c4⟩
                · exact absurd c1 q
                · rw [c1, nI_leI (by omega) (by omega)] at q2
                  refine .inr ⟨c, c1, (hQ _ _).mpr (.inl c2), c3, fun e' he' => ?_⟩
                  rcases (hQ _ _).mp he' with q' | q'
                  · exact c4 e' q'
                  · omega)
              exact ih2 (by omega) _ _ ⟨nI_1 _, by omega, k1, k2⟩
            · have hn : mnP (Qs F T E b s (l + 1) (s + T (F - 1 - b) l)) (nI (ev + E (F - 1 - b) l)) := by
                rcases hnew with hn | ⟨c, c1, c2⟩
                · exact hn
                · rw [c1, nI_leI (by omega) (by omega)] at q2
                  exact absurd c2 q2
              obtain ⟨k1, k2⟩ := hkeep (upd g2 (fmo (b + 1) + (s + T (F - 1 - b) l)) (nI (ev + E (F - 1 - b) l))) (fun j hj => upd_n hj) (by rw [upd_s]; exact hn)
              exact ih2 (by omega) _ _ ⟨nI_1 _, by omega, k1, k2⟩
    · refine rt_f (nI_nlt (by omega) (by omega)) ?_
      rw [nI_add, gx (by omega) (by omega), nI_clamp (by omega)]
      refine rt_lt (ih (by omega) _ _ ⟨nI_1 _, by omega, fun j hj => ?_, fun j hj => ?_⟩)
      · rw [upd_n (by omega)]; exact hg0 j hj
      · by_cases e : j = k
        · subst e; rw [upd_s]
        · rw [upd_n (by omega)]; exact hg1 j (by omega)
  · obtain ⟨⟨t1, t2⟩, t3, t4⟩ := hO.2 (F - 1 - b) (by omega) k (by omega)
    refine rt_f (nI_ge (b := 8) (by omega) (by omega)) ?_
    simp (disch := omega) only [nI_add, gx, nI_clamp, Nat.mul_comm (F - 1 - b) 8, t3, lt1_e]
    refine ih (by omega) _ _ ⟨?_, nI_1 _, by omega⟩
    rw [nI_mx (by omega) (by omega)]; rfl
end
