/-! RIDER OR HORSE: riders, parts -/
theorem jI_divx {z w : Int} {g : Nat} (h : z = g * w) (hz : z.natAbs < 2 ^ 62) (hg : 0 < g) (hg2 : g < 2 ^ 62) : jI z / lN g = jI w := by
  have hw : w.natAbs ≤ z.natAbs := by
    rw [h, Int.natAbs_mul, Int.natAbs_natCast]
    exact Nat.le_mul_of_pos_left _ hg
  rw [jI_lN, ← Int64.toInt_inj, Int64.toInt_div, jI_t (by omega), jI_t (by omega), jI_t (by omega), h, Int.mul_tdiv_cancel_left _ (by omega)]
  exact Int.bmod_eq_of_le (by omega) (by omega)
theorem fr_eq {z1 z2 : Int} {d1 d2 : Nat} (h : z1 * d2 = z2 * d1) (h1 : z1.natAbs < 2 ^ 62) (h2 : z2.natAbs < 2 ^ 62) (hd1 : 0 < d1) (hd2 : 0 < d2) (hb1 : d1 < 2 ^ 62) (hb2 : d2 < 2 ^ 62) : fz z1 d1 = fz z2 d2 ∧ fd z1 d1 = fd z2 d2 := by
  have p1 := gcd_pd (a := z1.natAbs) hd1
  have p2 := gcd_pd (a := z2.natAbs) hd2
  have c1 : Nat.Coprime (z1.natAbs / Nat.gcd z1.natAbs d1) (d1 / Nat.gcd z1.natAbs d1) := Nat.coprime_div_gcd_div_gcd p1.1
  have c2 : Nat.Coprime (z2.natAbs / Nat.gcd z2.natAbs d2) (d2 / Nat.gcd z2.natAbs d2) := Nat.coprime_div_gcd_div_gcd p2.1
  obtain ⟨x1, ex1⟩ := Nat.gcd_dvd_left z1.natAbs d1
  obtain ⟨y1, ey1⟩ := Nat.gcd_dvd_right z1.natAbs d1
  obtain ⟨x2, ex2⟩ := Nat.gcd_dvd_left z2.natAbs d2
  obtain ⟨y2, ey2⟩ := Nat.gcd_dvd_right z2.natAbs d2
  unfold fz fd
  generalize hg1 : Nat.gcd z1.natAbs d1 = g1 at *
  generalize hg2 : Nat.gcd z2.natAbs d2 = g2 at *
  have q1 : z1.natAbs / g1 = x1 := by rw [ex1, Nat.mul_div_cancel_left _ p1.1]
  have q2 : d1 / g1 = y1 := by rw [ey1, Nat.mul_div_cancel_left _ p1.1]
  have q3 : z2.natAbs / g2 = x2 := by rw [ex2, Nat.mul_div_cancel_left _ p2.1]
  have q4 : d2 / g2 = y2 := by rw [ey2, Nat.mul_div_cancel_left _ p2.1]
  rw [q1, q2] at c1
  rw [q3, q4] at c2
  have hn : z1.natAbs * d2 = z2.natAbs * d1 := by
    have := congrArg Int.natAbs h
    rw [Int.natAbs_mul, Int.natAbs_mul, Int.natAbs_natCast, Int.natAbs_natCast] at this
    exact this
  have hxy : x1 * y2 = x2 * y1 := by
    have e : (g1 * g2) * (x1 * y2) = (g1 * g2) * (x2 * y1) := by
      have e1 : (g1 * g2) * (x1 * y2) = (g1 * x1) * (g2 * y2) := by
        rw [Nat.mul_assoc, Nat.mul_assoc, Nat.mul_left_comm g2 x1 y2]
      have e2 : (g1 * g2) * (x2 * y1) = (g2 * x2) * (g1 * y1) := by
        rw [Nat.mul_comm g1 g2, Nat.mul_assoc, Nat.mul_assoc, Nat.mul_left_comm g1 x2 y1]
      rw [e1, e2, ← ex1, ← ey2, ← ex2, ← ey1, hn]
    exact Nat.eq_of_mul_eq_mul_left (Nat.mul_pos p1.1 p2.1) e
  have y1p : 0 < y1 := Nat.pos_of_ne_zero (fun q => by rw [q, Nat.mul_zero] at ey1; omega)
  have y2p : 0 < y2 := Nat.pos_of_ne_zero (fun q => by rw [q, Nat.mul_zero] at ey2; omega)
  have hy : y1 = y2 := by
    refine Nat.dvd_antisymm ?_ ?_
    · refine c1.symm.dvd_of_dvd_mul_left (n := y2) ?_
      rw [hxy]; exact Nat.dvd_mul_left _ _
    · refine c2.symm.dvd_of_dvd_mul_left (n := y1) ?_
      rw [← hxy]; exact Nat.dvd_mul_left _ _
  subst hy
  have hx : x1 = x2 := Nat.eq_of_mul_eq_mul_right y1p hxy
  subst hx
  have hs : ∃ w : Int, z1 = g1 * w ∧ z2 = g2 * w := by
    rcases Int.natAbs_eq z1 with e1 | e1
    · refine ⟨(x1 : Int), ?_, ?_⟩
      · rw [e1, ex1, Int.natCast_mul]
      · rcases Int.natAbs_eq z2 with e2 | e2
        · rw [e2, ex2, Int.natCast_mul]
        · have p : 0 ≤ z2 * (d1 : Int) := by
            rw [← h]; exact Int.mul_nonneg (by omega) (by omega)
          have p0 : 0 ≤ z2 := Int.nonneg_of_mul_nonneg_left p (by omega)
          have : z2.natAbs = 0 := by omega
          rw [this, Nat.zero_eq_mul] at ex2
          rcases ex2 with q | q
          · omega
          · rw [q, e2, this]; simp
    · refine ⟨-(x1 : Int), ?_, ?_⟩
      · rw [Int.mul_neg, e1, ex1, Int.natCast_mul]
      · rw [Int.mul_neg]
        rcases Int.natAbs_eq z2 with e2 | e2
        · have p : z2 * (d1 : Int) ≤ 0 := by
            rw [← h]; exact Int.mul_nonpos_of_nonpos_of_nonneg (by omega) (by omega)
          have p0 : z2 ≤ 0 := Int.nonpos_of_mul_nonpos_left p (by omega)
          have : z2.natAbs = 0 := by omega
          rw [this, Nat.zero_eq_mul] at ex2
          rcases ex2 with q | q
          · omega
          · rw [q, e2, this]; simp
        · rw [e2, ex2, Int.natCast_mul]
  obtain ⟨w, hw1, hw2⟩ := hs
  refine ⟨?_, ?_⟩
  · rw [jI_divx hw1 h1 p1.1 (by omega), jI_divx hw2 h2 p2.1 (by omega)]
  · rw [pk_lDiv (by omega) (by omega) (by omega), pk_lDiv (by omega) (by omega) (by omega), q2, q4]
theorem sm_add {g1 g2 g : Nat → Nat} : ∀ n, (∀ k, k < n → g1 k + g2 k = g k) → sm g1 n + sm g2 n = sm g n
  | 0, _ => rfl
  | n + 1, h => by
    have h1 := sm_add n (fun k hk => h k (by omega))
    have h2 := h n (by omega)
    rw [sm, sm, sm]; omega
theorem fB_lt {g : Nat → Nat} : ∀ {k}, 0 < k → fB g k < k
  | 0, h => absurd h (by omega)
  | k + 1, _ => by
    rw [fB]; split
    · omega
    · have := fB_lt (g := g) (show 0 < k by omega)
      omega
theorem fB_min {g : Nat → Nat} : ∀ k, 0 < k → (∀ j, j < k → g (fB g k) ≤ g j) ∧ ∀ j, j < fB g k → g (fB g k) < g j
  | 0, h => absurd h (by omega)
  | k + 1, _ => by
    by_cases k0 : k = 0
    · subst k0
      rw [fB_t (.inl rfl)]
      exact ⟨fun j hj => by rw [show j = 0 by omega]; exact Nat.le_refl _, fun j hj => absurd hj (by omega)⟩
    · obtain ⟨i1, i2⟩ := fB_min (g := g) k (by omega)
      have hlt := fB_lt (g := g) (show 0 < k by omega)
      by_cases h : g k < g (fB g k)
      · rw [fB_t (.inr h)]
        refine ⟨fun j hj => ?_, fun j hj => ?_⟩
        · by_cases e : j = k
          · rw [e]; exact Nat.le_refl _
          · have := i1 j (by omega); omega
        · have := i1 j hj; omega
      · rw [fB_f (by omega)]
        refine ⟨fun j hj => ?_, i2⟩
        by_cases e : j = k
        · rw [e]; omega
        · exact i1 j (by omega)
theorem fB_u {g : Nat → Nat} {k b : Nat} (hb : b < k) (h1 : ∀ j, j < k → g b ≤ g j) (h2 : ∀ j, j < b → g b < g j) : b = fB g k := by
  obtain ⟨i1, i2⟩ := fB_min (g := g) k (by omega)
  have hlt := fB_lt (g := g) (show 0 < k by omega)
  rcases Nat.lt_trichotomy b (fB g k) with h | h | h
  · have := i2 b h
    have := h1 _ hlt
    omega
  · exact h
  · have := h2 _ h
    have := i1 b hb
    omega
def wd (w r : Nat) : Nat := if r = 0 then w / 25 else if r = 1 then w / 5 % 5 else w % 5
def Dw (n : Nat) (rd hs fa : Nat → Nat) (w h p : Nat) : Nat := sm (fun i => if hs i = h ∧ rd i < 3 then ds (fa i) (wd w (rd i) + p) else 0) n
def pB (n : Nat) (rd hs fa : Nat → Nat) (w h : Nat) : Nat := fB (Dw n rd hs fa w h) 5
def Sw (n : Nat) (rd hs fa : Nat → Nat) (w : Nat) : Nat := Dw n rd hs fa w 0 (pB n rd hs fa w 0) + Dw n rd hs fa w 1 (pB n rd hs fa w 1) + Dw n rd hs fa w 2 (pB n rd hs fa w 2)
def offC (n : Nat) (rd hs fa : Nat → Nat) (c : Nat) : Nat := Dw n rd hs fa (c / 125) 0 (c / 25 % 5) + Dw n rd hs fa (c / 125) 1 (c / 5 % 5) + Dw n rd hs fa (c / 125) 2 (c % 5)
theorem offC_best {n : Nat} {rd hs fa : Nat → Nat} : fB (offC n rd hs fa) 15625 = 125 * fB (Sw n rd hs fa) 125 + 25 * pB n rd hs fa (fB (Sw n rd hs fa) 125) 0 + 5 * pB n rd hs fa (fB (Sw n rd hs fa) 125) 1 + pB n rd hs fa (fB (Sw n rd hs fa) 125) 2 := by
  have hp : ∀ w h, pB n rd hs fa w h < 5 := fun w h => fB_lt (by omega)
  have hm : ∀ w h, (∀ j, j < 5 → Dw n rd hs fa w h (pB n rd hs fa w h) ≤ Dw n rd hs fa w h j) ∧ ∀ j, j < pB n rd hs fa w h → Dw n rd hs fa w h (pB n rd hs fa w h) < Dw n rd hs fa w h j := fun w h => fB_min 5 (by omega)
  obtain ⟨s1, s2⟩ := fB_min (g := (Sw n rd hs fa)) 125 (by omega)
  have hW := fB_lt (g := (Sw n rd hs fa)) (k := 125) (by omega)
  generalize fB (Sw n rd hs fa) 125 = W at *
  have a0 := hp W 0
  have a1 := hp W 1
  have a2 := hp W 2
  have hS : ∀ c, c < 15625 → (Sw n rd hs fa) (c / 125) ≤ offC n rd hs fa c := fun c hc => by
    have b0 := (hm (c / 125) 0).1 (c / 25 % 5) (by omega)
    have b1 := (hm (c / 125) 1).1 (c / 5 % 5) (by omega)
    have b2 := (hm (c / 125) 2).1 (c % 5) (by omega)
    unfold Sw offC; omega
  have hc : offC n rd hs fa (125 * W + 25 * pB n rd hs fa W 0 + 5 * pB n rd hs fa W 1 + pB n rd hs fa W 2) = (Sw n rd hs fa) W := by
    unfold offC Sw
    rw [show (125 * W + 25 * pB n rd hs fa W 0 + 5 * pB n rd hs fa W 1 + pB n rd hs fa W 2) / 125 = W by omega, show (125 * W + 25 * pB n rd hs fa W 0 + 5 * pB n rd hs fa W 1 + pB n rd hs fa W 2) / 25 % 5 = pB n rd hs fa W 0 by omega, show (125 * W + 25 * pB n rd hs fa W 0 + 5 * pB n rd hs fa W 1 + pB n rd hs fa W 2) / 5 % 5 = pB n rd hs fa W 1 by omega, show (125 * W + 25 * pB n rd hs fa W 0 + 5 * pB n rd hs fa W 1 + pB n rd hs fa W 2) % 5 = pB n rd hs fa W 2 by omega]
  refine (fB_u (by omega) (fun j hj => ?_) (fun j hj => ?_)).symm
  · rw [hc]
    have := hS j hj
    have := s1 (j / 125) (by omega)
    omega
  · rw [hc]
    have h1 := hS j (by omega)
    by_cases e : j / 125 = W
    · have b0 := hm W 0
      have b1 := hm W 1
      have b2 := hm W 2
      have d0 := b0.1 (j / 25 % 5) (by omega)
      have d1 := b1.1 (j / 5 % 5) (by omega)
      have d2 := b2.1 (j % 5) (by omega)
      unfold offC Sw
      rw [e]
      have hl : j / 25 % 5 < pB n rd hs fa W 0 ∨ (j / 25 % 5 = pB n rd hs fa W 0 ∧ j / 5 % 5 < pB n rd hs fa W 1) ∨ (j / 25 % 5 = pB n rd hs fa W 0 ∧ j / 5 % 5 = pB n rd hs fa W 1 ∧ j % 5 < pB n rd hs fa W 2) := by omega
      rcases hl with h | ⟨_, h⟩ | ⟨_, _, h⟩
      · have := b0.2 _ h; omega
      · have := b1.2 _ h; omega
      · have := b2.2 _ h; omega
    · have := s2 (j / 125) (by omega)
      omega
theorem nI_ss (a b c : Nat) : nI a - nI b - nI c = nI a - nI (b + c) := by
  rw [iI_nI, iI_nI, iI_nI, iI_nI, iI_sub, iI_sub, iI_sub]
  exact congrArg iI (by omega)
section
variable {n r H : Nat} {rd hs fa te : Nat → Nat} {cz : Int32} {tr to tf tx mn : Nat → Int32} {nt mt : Nat → Int64}
theorem Dw_le (hB : ∀ i, i < n → fa i ≤ 2000) (hn : n ≤ 12) {w h p : Nat} (hw : w < 125) (hp : p ≤ 5) : Dw n rd hs fa w h p ≤ 36000 := by
  have := sm_le (g := fun i => if hs i = h ∧ rd i < 3 then ds (fa i) (wd w (rd i) + p) else 0) (b := 3000) n (fun k hk => by
    have := hB k hk
    try simp only
    split
    · unfold ds wd
      split
      · omega
      · split <;> omega
    · omega)
  unfold Dw; omega
theorem x_fit (hT : tE n rd hs fa te cz tr to tf tx mn) {w h : Nat} (hw : w < 125) (hh : h < 3) (t0 : Nat → Int32) (ht : ∀ j, j < 3 → t0 j = nI (wd w j)) : Rt (f_X5_fitHorse (nI h) (nI n) tr to tf t0) (fun a => a.1 = nI (Dw n rd hs fa w h (pB n rd hs fa w h)) ∧ a.2 (3 + h) = nI (pB n rd hs fa w h) ∧ ∀ j, j ≠ 3 + h → a.2 j = t0 j) := by
  have hn := hT.1
  have hB : ∀ i, i < n → fa i ≤ 2000 := fun i hi => (tE_B hT i hi).1
  unfold f_X5_fitHorse
  refine rl3 5 (fun k v3 v4 t => v4 = nI k ∧ k ≤ 5 ∧ (∀ j, j ≠ 3 + h → t j = t0 j) ∧ ((k = 0 ∧ v3 = -1) ∨ (0 < k ∧ v3 = nI (Dw n rd hs fa w h (fB (Dw n rd hs fa w h) k)) ∧ t (3 + h) = nI (fB (Dw n rd hs fa w h) k)))) (by omega) ⟨rfl, by omega, fun _ _ => rfl, .inl ⟨rfl, rfl⟩⟩ ?_
  rintro rc k v3 v4 t ⟨rfl, hk, hto, hI⟩ ih
  unfold s_X5_fitHorse_5
  by_cases hk5 : 5 ≤ k
  · obtain rfl : k = 5 := by omega
    rcases hI with ⟨q, _⟩ | ⟨_, rfl, q⟩
    · omega
    · exact rt_t (by decide) (rt_some ⟨rfl, q, hto⟩)
  · refine rt_f (nI_ge (b := 5) (by omega) (by omega)) ?_
    have hDk := Dw_le (rd := rd) (hs := hs) hB hn (h := h) hw (show k ≤ 5 by omega)
    have hDf := Dw_le (rd := rd) (hs := hs) (p := fB (Dw n rd hs fa w h) k) hB hn (h := h) hw (by
      by_cases k0 : k = 0
      · subst k0; exact Nat.zero_le _
      · have := fB_lt (g := Dw n rd hs fa w h) (show 0 < k by omega); omega)
    refine rl2 12 (fun i v5 v6 => v5 = nI (sm (fun i => if hs i = h ∧ rd i < 3 then ds (fa i) (wd w (rd i) + k) else 0) i) ∧ v6 = nI i ∧ i ≤ n) (by omega) ⟨rfl, rfl, by omega⟩ ?_
    rintro rc2 i v5 v6 ⟨rfl, rfl, hi⟩ ih2
    unfold s_X5_fitHorse_17
    by_cases hin : n ≤ i
    · obtain rfl : n = i := by omega
      refine rt_t (nI_le (Nat.le_refl _) (by omega)) ?_
      show Rt (k_X5_fitHorse_17 (nI h) rc v3 (nI k) t (nI (Dw n rd hs fa w h k))) _
      unfold k_X5_fitHorse_17
      rw [c_3, nI_add]
      rcases hI with ⟨rfl, rfl⟩ | ⟨k0, rfl, q⟩
      · refine rt_t rfl (rt_gx (by omega) (by omega) (rt_lt (ih (by omega) _ _ _ ⟨rfl, by omega, fun j hj => ?_, .inr ⟨by omega, ?_, ?_⟩⟩)))
        · rw [nI_clamp (by omega), upd_n hj]; exact hto j hj
        · rw [fB_t (.inl rfl)]
        · rw [nI_clamp (by omega), upd_s, fB_t (.inl rfl)]
      · refine rt_f (m1_ne (by omega)) (rt_if (fun z => ?_) (fun z => rt_gx (by omega) (by omega) ?_))
        · rw [nI_leI (by omega) (by omega)] at z
          refine rt_lt (ih (by omega) _ _ _ ⟨nI_1 _, by omega, hto, .inr ⟨by omega, ?_, ?_⟩⟩)
          · rw [fB_f (by omega)]
          · rw [fB_f (by omega)]; exact q
        · rw [nI_leI (by omega) (by omega)] at z
          refine rt_lt (ih (by omega) _ _ _ ⟨nI_1 _, by omega, fun j hj => ?_, .inr ⟨by omega, ?_, ?_⟩⟩)
          · rw [nI_clamp (by omega), upd_n hj]; exact hto j hj
          · rw [fB_t (by omega)]
          · rw [nI_clamp (by omega), upd_s, fB_t (by omega)]
    · obtain ⟨⟨b1, b2, b3, b4⟩, ⟨e1, e2, e3, e4⟩, _⟩ := hT.2.2.2 i (by omega)
      have hsm : sm (fun i => if hs i = h ∧ rd i < 3 then ds (fa i) (wd w (rd i) + k) else 0) (i + 1) = sm (fun i => if hs i = h ∧ rd i < 3 then ds (fa i) (wd w (rd i) + k) else 0) i + (if hs i = h ∧ rd i < 3 then ds (fa i) (wd w (rd i) + k) else 0) := rfl
      refine rt_f (nI_ge (by omega) (by omega)) (rt_gx (by omega) (by omega) ?_)
      rw [nI_clamp (by omega), e2]
      refine rt_if (fun z => rt_gx (by omega) (by omega) ?_) (fun z => ?_)
      · rw [nI_eq (by omega) (by omega)] at z
        rw [e1]
        refine rt_if (fun y => ?_) (fun y => ?_)
        · rw [c_3, nI_leI (by omega) (by omega)] at y
          rw [if_neg (by omega)] at hsm
          exact rt_lt (ih2 (by omega) _ _ ⟨congrArg nI hsm.symm, nI_1 _, by omega⟩)
        · rw [c_3, nI_leI (by omega) (by omega)] at y
          rw [if_pos ⟨z, by omega⟩] at hsm
          have hwd : wd w (rd i) ≤ 5 := by
            unfold wd
            split
            · omega
            · split <;> omega
          have et : t (rd i) = nI (wd w (rd i)) := (hto _ (by omega)).trans (ht _ (by omega))
          rw [nI_clamp (by omega), e3]
          refine rt_gx (by omega) (by omega) (rt_gx (by omega) (by omega) (rt_gx (by omega) (by omega) (rt_lt (rt_lt ?_))))
          rw [et, nI_ss, nI_abs (by omega) (by omega), nI_add]
          exact ih2 (by omega) _ _ ⟨congrArg nI hsm.symm, nI_1 _, by omega⟩
      · rw [nI_eq (by omega) (by omega)] at z
        rw [if_neg (by omega)] at hsm
        exact rt_lt (ih2 (by omega) _ _ ⟨congrArg nI hsm.symm, nI_1 _, by omega⟩)
/-- the parts of a way -/
def pts (n : Nat) (rd hs fa : Nat → Nat) (w j : Nat) : Nat := if j < 3 then wd w j else pB n rd hs fa w (j - 3)
def cEx (n : Nat) (rd hs : Nat → Nat) : Nat := ct (fun i => decide (rd i < 3 ∧ hs i < 3)) n
/-- a row of those six and a seventh -/
def rw6 (g : Nat → Int64) : Nat → (Nat → Int64) → Nat → Int64
  | 0, t => t
  | k + 1, t => vp_updL (rw6 g k t) k (g k)
theorem rowE_6 {g : Nat → Int64} {nt mt : Nat → Int64} : ∀ k, k ≤ 12 → rowE k (rw6 g k nt) (rw6 g k mt)
  | 0, _ => rowE_0
  | k + 1, h => rowE_s _ (rowE_6 k (by omega)) (by omega)
theorem x_cEx (hT : tE n rd hs fa te cz tr to tf tx mn) : f_X5_countExplained (nI n) tr to = some (nI (cEx n rd hs)) := by
  have hn := hT.1
  refine rt_get ?_
  unfold f_X5_countExplained
  refine rl2 12 (fun k v1 v2 => v1 = nI (ct (fun i => decide (rd i < 3 ∧ hs i < 3)) k) ∧ v2 = nI k ∧ k ≤ n) (by omega) ⟨rfl, rfl, by omega⟩ ?_
  rintro rc k v1 v2 ⟨rfl, rfl, hk⟩ ih
  unfold s_X5_countExplained_4
  by_cases hkn : n ≤ k
  · obtain rfl : n = k := by omega
    exact rt_t (nI_le (Nat.le_refl _) (by omega)) (rt_some rfl)
  · obtain ⟨⟨b1, b2, b3, b4⟩, ⟨e1, e2, e3, e4⟩, _⟩ := hT.2.2.2 k (by omega)
    simp (disch := omega) only [nI_leI, gx, nI_clamp, e1, e2, c_3, lt1_e, nI_add, c_1, c_0]
    refine rt_f hkn ?_
    repeat' (refine rt_if (fun _ => ?_) (fun _ => ?_))
    all_goals
      refine ih (by omega) _ _ ⟨congrArg nI ?_, rfl, by omega⟩
      rw [ct]
      simp only [decide_eq_true_eq]
      split <;> omega
theorem Sw_le (hB : ∀ i, i < n → fa i ≤ 2000) (hn : n ≤ 12) {w : Nat} (hw : w < 125) : (Sw n rd hs fa) w ≤ 108000 := by
  have hp : ∀ h, pB n rd hs fa w h ≤ 5 := fun h => Nat.le_of_lt (fB_lt (by omega))
  have h0 := Dw_le (rd := rd) (hs := hs) hB hn (h := 0) hw (hp 0)
  have h1 := Dw_le (rd := rd) (hs := hs) hB hn (h := 1) hw (hp 1)
  have h2 := Dw_le (rd := rd) (hs := hs) hB hn (h := 2) hw (hp 2)
  unfold Sw; omega
theorem x_parts (hT : tE n rd hs fa te cz tr to tf tx mn) (sz : Int32) (t0 b0 : Nat → Int32) : Rt (f_X11_parts sz (nI n) tr to tf t0 b0 nt) (fun a => a.1 = nI ((Sw n rd hs fa) (fB (Sw n rd hs fa) 125)) ∧ a.2.1 = nI 7 ∧ a.2.2.2.2 = vp_updL (rw6 (fun j => (nI (pts n rd hs fa (fB (Sw n rd hs fa) 125) j)).toInt64) 6 nt) 6 (nI (cEx n rd hs)).toInt64) := by
  have hn := hT.1
  have hB : ∀ i, i < n → fa i ≤ 2000 := fun i hi => (tE_B hT i hi).1
  unfold f_X11_parts
  refine rb5 (P := fun a => a.1 = nI ((Sw n rd hs fa) (fB (Sw n rd hs fa) 125)) ∧ a.2.1 = nI 7 ∧ a.2.2.2.2 = vp_updL (rw6 (fun j => (nI (pts n rd hs fa (fB (Sw n rd hs fa) 125) j)).toInt64) 6 nt) 6 (nI (cEx n rd hs)).toInt64) ?_ (fun a1 a2 a3 a4 a5 h => rt_some h)
  unfold f_X5_explain
  refine rl4 125 (fun k v3 v4 t b => v4 = nI k ∧ k ≤ 125 ∧ ((k = 0 ∧ v3 = -1) ∨ (0 < k ∧ v3 = nI ((Sw n rd hs fa) (fB (Sw n rd hs fa) k)) ∧ ∀ j, j < 6 → b j = nI (pts n rd hs fa (fB (Sw n rd hs fa) k) j)))) (by omega) ⟨rfl, by omega, .inl ⟨rfl, rfl⟩⟩ ?_
  rintro rc k v3 v4 t b ⟨rfl, hk, hI⟩ ih
  unfold s_X5_explain_5
  by_cases hk5 : 125 ≤ k
  · obtain rfl : k = 125 := by omega
    rcases hI with ⟨q, _⟩ | ⟨_, rfl, hb⟩
    · omega
    · refine rt_t (by decide) ?_
      unfold k_X5_explain_5
      refine re1 (x_start _) ?_
      refine rl3 6 (fun i v4 v1 v2 => v4 = nI i ∧ v1 = nI i ∧ v2 = rw6 (fun j => (nI (pts n rd hs fa (fB (Sw n rd hs fa) 125) j)).toInt64) i nt ∧ i ≤ 6) (by omega) ⟨rfl, rfl, rfl, by omega⟩ ?_
      rintro rc2 i v4 v1 v2 ⟨rfl, rfl, rfl, hi⟩ ih2
      unfold s_X5_explain_117
      by_cases hi6 : 6 ≤ i
      · obtain rfl : i = 6 := by omega
        refine rt_t (by decide) ?_
        unfold k_X5_explain_117
        exact re1 (x_cEx hT) (re2 (x_putk (by omega) _ _) (rt_some ⟨rfl, rfl, rfl⟩))
      · refine rt_f (nI_ge (b := 6) (by omega) (by omega)) (rt_gx (by omega) (by omega) (re2 (x_putk (by omega) _ _) (rt_lt (ih2 (by omega) _ _ _ ⟨nI_1 _, rfl, ?_, by omega⟩))))
        rw [rw6, nI_clamp (by omega), hb i (by omega)]
  · refine rt_f (nI_ge (b := 125) (by omega) (by omega)) (rt_gd (by decide) (rt_gd (by decide) (rt_gd (by decide) ?_)))
    rw [show (0 : Int32).toNatClampNeg = 0 from rfl, show (1 : Int32).toNatClampNeg = 1 from rfl, show (2 : Int32).toNatClampNeg = 2 from rfl, c_25, c_5]
    rw [pk_div (show k < 2 ^ 31 by omega) (show 0 < 25 by omega) (by omega), pk_rem (show k < 2 ^ 31 by omega) (show 0 < 5 by omega) (by omega), pk_div (show k < 2 ^ 31 by omega) (show 0 < 5 by omega) (by omega), pk_rem (show k / 5 < 2 ^ 31 by omega) (show 0 < 5 by omega) (by omega)]
    have hk125 : k < 125 := by omega
    have hS := Sw_le (rd := rd) (hs := hs) hB hn hk125
    refine rl3 3 (fun h v5 v6 t => v6 = nI h ∧ h ≤ 3 ∧ v5 = nI (sm (fun h => Dw n rd hs fa k h (pB n rd hs fa k h)) h) ∧ (∀ j, j < 3 → t j = nI (wd k j)) ∧ ∀ j, j < h → t (3 + j) = nI (pB n rd hs fa k j)) (by omega) ⟨rfl, by omega, rfl, fun j hj => ?_, by omega⟩ ?_
    · have : j = 0 ∨ j = 1 ∨ j = 2 := by omega
      rcases this with rfl | rfl | rfl
      · rw [upd_n (by omega), upd_n (by omega), upd_s]; rfl
      · rw [upd_n (by omega), upd_s]; rfl
      · rw [upd_s]; rfl
    rintro rc2 h v5 v6 t ⟨rfl, hh, rfl, hw, hp⟩ ih2
    unfold s_X5_explain_51
    by_cases hh3 : 3 ≤ h
    · obtain rfl : h = 3 := by omega
      refine rt_t (by decide) ?_
      have hsum : sm (fun h => Dw n rd hs fa k h (pB n rd hs fa k h)) 3 = (Sw n rd hs fa) k := by
        show 0 + Dw n rd hs fa k 0 (pB n rd hs fa k 0) + Dw n rd hs fa k 1 (pB n rd hs fa k 1) + Dw n rd hs fa k 2 (pB n rd hs fa k 2) = _
        unfold Sw; omega
      rw [hsum]
      have hcp : ∀ j, j < 6 → va_cpy t b 0 0 6 j = nI (pts n rd hs fa k j) := fun j hj => by
        rw [cpy_i (i := j) (by omega) hj, Nat.zero_add]
        unfold pts
        by_cases j3 : j < 3
        · rw [if_pos j3]; exact hw j j3
        · rw [if_neg j3, ← hp (j - 3) (by omega)]
          exact congrArg t (by omega)
      unfold k_X5_explain_51
      rcases hI with ⟨rfl, rfl⟩ | ⟨k0, rfl, hb⟩
      · refine rt_t rfl (rt_gd (by decide) (rt_lt (ih (by omega) _ _ _ _ ⟨rfl, by omega, .inr ⟨by omega, ?_, fun j hj => ?_⟩⟩)))
        · rw [fB_t (.inl rfl)]
        · rw [fB_t (.inl rfl)]; exact hcp j hj
      · have hSf := Sw_le (rd := rd) (hs := hs) hB hn (w := fB (Sw n rd hs fa) k) (by have := fB_lt (g := (Sw n rd hs fa)) k0; omega)
        refine rt_f (m1_ne (by omega)) (rt_if (fun z => ?_) (fun z => rt_gd (by decide) ?_))
        · rw [nI_leI (by omega) (by omega)] at z
          refine rt_lt (ih (by omega) _ _ _ _ ⟨nI_1 _, by omega, .inr ⟨by omega, ?_, ?_⟩⟩)
          · rw [fB_f (by omega)]
          · rw [fB_f (by omega)]; exact hb
        · rw [nI_leI (by omega) (by omega)] at z
          refine rt_lt (ih (by omega) _ _ _ _ ⟨nI_1 _, by omega, .inr ⟨by omega, ?_, fun j hj => ?_⟩⟩)
          · rw [fB_t (by omega)]
          · rw [fB_t (by omega)]; exact hcp j hj
    · refine rt_f (nI_ge (b := 3) (by omega) (by omega)) (rb2 (x_fit hT hk125 (by omega) t hw) ?_)
      rintro a1 t2 ⟨rfl, q1, q2⟩
      refine rt_lt (rt_lt (ih2 (by omega) _ _ _ ⟨nI_1 _, by omega, ?_, fun j hj => ?_, fun j hj => ?_⟩))
      · rw [nI_add]; rfl
      · exact (q2 j (by omega)).trans (hw j hj)
      · by_cases e : j = h
        · subst e; exact q1
        · exact (q2 (3 + j) (by omega)).trans (hp j (by omega))
theorem m_off (hT : tE n rd hs fa te cz tr to tf tx mn) {c : Nat} (hc : c < 15625) (t0 : Nat → Int32) : Rt (f_X12_offBy (nI c) mn t0) (fun a => a.1 = nI (offC n rd hs fa c) ∧ (∀ j, j < 3 → a.2 j = nI (wd (c / 125) j)) ∧ a.2 3 = nI (c / 25 % 5) ∧ a.2 4 = nI (c / 5 % 5) ∧ a.2 5 = nI (c % 5)) := by
  have hn := hT.1
  have hN := hT.2.2.1
  unfold f_X12_offBy
  refine rl3 6 (fun k v2 v3 t => v3 = nI (6 - k) - 1 ∧ k ≤ 6 ∧ v2 = nI (c / 5 ^ k) ∧ ∀ j, j < k → t (5 - j) = nI (c / 5 ^ j % 5)) (by omega) ⟨by decide, by omega, by rw [Nat.pow_zero, Nat.div_one], by omega⟩ ?_
  rintro rc k v2 v3 t ⟨rfl, hk, rfl, hI⟩ ih
  have hck : c / 5 ^ k ≤ c := Nat.div_le_self _ _
  unfold s_X12_offBy_4
  by_cases hk6 : 6 ≤ k
  · obtain rfl : k = 6 := by omega
    refine rt_t (by decide) ?_
    unfold k_X12_offBy_4
    have d5 := hI 0 (by omega)
    have d4 := hI 1 (by omega)
    have d3 := hI 2 (by omega)
    have d2 := hI 3 (by omega)
    have d1 := hI 4 (by omega)
    have d0 := hI 5 (by omega)
    have e5 : t 5 = nI (c % 5) := by rw [show c % 5 = c / 5 ^ 0 % 5 by rw [Nat.pow_zero, Nat.div_one]]; exact d5
    have e4 : t 4 = nI (c / 5 % 5) := d4
    have e3 : t 3 = nI (c / 25 % 5) := d3
    have e2 : t 2 = nI (c / 125 % 5) := d2
    have e1 : t 1 = nI (c / 625 % 5) := d1
    have e0 : t 0 = nI (c / 3125 % 5) := d0
    have hw : ∀ j, j < 3 → t j = nI (wd (c / 125) j) := fun j hj => by
      have : j = 0 ∨ j = 1 ∨ j = 2 := by omega
      rcases this with rfl | rfl | rfl
      · rw [e0]; exact congrArg nI (show c / 3125 % 5 = c / 125 / 25 by omega)
      · rw [e1]; exact congrArg nI (show c / 625 % 5 = c / 125 / 5 % 5 by omega)
      · rw [e2]; rfl
    have hh : ∀ h, h < 3 → t (3 + h) = nI (if h = 0 then c / 25 % 5 else if h = 1 then c / 5 % 5 else c % 5) := fun h hh => by
      have : h = 0 ∨ h = 1 ∨ h = 2 := by omega
      rcases this with rfl | rfl | rfl
      · exact e3
      · exact e4
      · exact e5
    have hoff : ∀ m, sm (fun i => if hs i = 0 ∧ rd i < 3 then ds (fa i) (wd (c / 125) (rd i) + c / 25 % 5) else 0) m + sm (fun i => if hs i = 1 ∧ rd i < 3 then ds (fa i) (wd (c / 125) (rd i) + c / 5 % 5) else 0) m + sm (fun i => if hs i = 2 ∧ rd i < 3 then ds (fa i) (wd (c / 125) (rd i) + c % 5) else 0) m = sm (fun i => if rd i < 3 ∧ hs i < 3 then ds (fa i) (wd (c / 125) (rd i) + (if hs i = 0 then c / 25 % 5 else if hs i = 1 then c / 5 % 5 else c % 5)) else 0) m := by
      intro m
      rw [sm_add (g1 := fun i => if hs i = 0 ∧ rd i < 3 then ds (fa i) (wd (c / 125) (rd i) + c / 25 % 5) else 0) (g2 := fun i => if hs i = 1 ∧ rd i < 3 then ds (fa i) (wd (c / 125) (rd i) + c / 5 % 5) else 0) (g := fun i => if hs i < 2 ∧ rd i < 3 then ds (fa i) (wd (c / 125) (rd i) + (if hs i = 0 then c / 25 % 5 else c / 5 % 5)) else 0) m (fun k _ => ?_), sm_add (g := fun i => if rd i < 3 ∧ hs i < 3 then ds (fa i) (wd (c / 125) (rd i) + (if hs i = 0 then c / 25 % 5 else if hs i = 1 then c / 5 % 5 else c % 5)) else 0) m (fun k _ => ?_)]
      · try simp only
        repeat' split
        all_goals first | omega | rfl
      · try simp only
        repeat' split
        all_goals first | omega | rfl
    have hoff2 : offC n rd hs fa c = sm (fun i => if rd i < 3 ∧ hs i < 3 then ds (fa i) (wd (c / 125) (rd i) + (if hs i = 0 then c / 25 % 5 else if hs i = 1 then c / 5 % 5 else c % 5)) else 0) n := hoff n
    rw [hoff2]
    refine rl2 12 (fun i v3 v4 => v3 = nI (sm (fun i => if rd i < 3 ∧ hs i < 3 then ds (fa i) (wd (c / 125) (rd i) + (if hs i = 0 then c / 25 % 5 else if hs i = 1 then c / 5 % 5 else c % 5)) else 0) i) ∧ v4 = nI i ∧ i ≤ n) (by omega) ⟨rfl, rfl, by omega⟩ ?_
    rintro rc2 i v3 v4 ⟨rfl, rfl, hi⟩ ih2
    unfold s_X12_offBy_32
    simp (disch := omega) only [c_48, gx, nI_clamp, hN]
    by_cases hin : n ≤ i
    · obtain rfl : n = i := by omega
      exact rt_t (nI_le (Nat.le_refl _) (by omega)) (rt_some ⟨rfl, hw, e3, e4, e5⟩)
    · obtain ⟨⟨b1, b2, b3, b4⟩, _, ⟨g1, g2, g3, g4⟩⟩ := hT.2.2.2 i (by omega)
      have hsm : sm (fun i => if rd i < 3 ∧ hs i < 3 then ds (fa i) (wd (c / 125) (rd i) + (if hs i = 0 then c / 25 % 5 else if hs i = 1 then c / 5 % 5 else c % 5)) else 0) (i + 1) = sm (fun i => if rd i < 3 ∧ hs i < 3 then ds (fa i) (wd (c / 125) (rd i) + (if hs i = 0 then c / 25 % 5 else if hs i = 1 then c / 5 % 5 else c % 5)) else 0) i + (if rd i < 3 ∧ hs i < 3 then ds (fa i) (wd (c / 125) (rd i) + (if hs i = 0 then c / 25 % 5 else if hs i = 1 then c / 5 % 5 else c % 5)) else 0) := rfl
      refine rt_f (nI_ge (by omega) (by omega)) ?_
      simp (disch := omega) only [c_4, c_1, c_2, pk_mul, nI_add, gx, nI_clamp, g1, g2, g3, c_3, nI_leI]
      refine rt_if (fun z => ?_) (fun z => rt_if (fun y => ?_) (fun y => ?_))
      · rw [if_neg (by omega)] at hsm
        exact rt_lt (ih2 (by omega) _ _ ⟨congrArg nI hsm.symm, rfl, by omega⟩)
      · rw [if_neg (by omega)] at hsm
        exact rt_lt (ih2 (by omega) _ _ ⟨congrArg nI hsm.symm, rfl, by omega⟩)
      · rw [if_pos (by omega)] at hsm
        have hwd : wd (c / 125) (rd i) ≤ 5 := by
          unfold wd
          split
          · omega
          · split <;> omega
        have hxx : (if hs i = 0 then c / 25 % 5 else if hs i = 1 then c / 5 % 5 else c % 5) ≤ 5 := by
          split
          · omega
          · split <;> omega
        refine rt_lt (rt_lt ?_)
        rw [hw _ (by omega), hh _ (by omega), nI_ss, nI_abs (by omega) (by omega), nI_add]
        exact ih2 (by omega) _ _ ⟨congrArg nI hsm.symm, rfl, by omega⟩
  · rw [m1_s (by omega)]
    refine rt_f (nI_pos (by omega)) (rt_gx (by omega) (by omega) (rt_lt (rt_lt ?_)))
    rw [c_5, pk_rem (by omega) (by omega) (by omega), pk_div (by omega) (by omega) (by omega), nI_clamp (by omega), nI_bd]
    refine ih (by omega) _ _ _ ⟨?_, by omega, ?_, fun j hj => ?_⟩
    · rw [show 6 - (k + 1) = 6 - k - 1 by omega]
    · rw [Nat.div_div_eq_div_mul, Nat.pow_succ]
    · by_cases e : j = k
      · subst e; rw [show 5 - j = 6 - j - 1 by omega, upd_s]
      · rw [upd_n (by omega)]; exact hI j (by omega)
theorem offC_le (hB : ∀ i, i < n → fa i ≤ 2000) (hn : n ≤ 12) {c : Nat} (hc : c < 15625) : offC n rd hs fa c ≤ 108000 := by
  have h0 := Dw_le (rd := rd) (hs := hs) hB hn (h := 0) (show c / 125 < 125 by omega) (show c / 25 % 5 ≤ 5 by omega)
  have h1 := Dw_le (rd := rd) (hs := hs) hB hn (h := 1) (show c / 125 < 125 by omega) (show c / 5 % 5 ≤ 5 by omega)
  have h2 := Dw_le (rd := rd) (hs := hs) hB hn (h := 2) (show c / 125 < 125 by omega) (show c % 5 ≤ 5 by omega)
  unfold offC; omega
theorem m_parts (hT : tE n rd hs fa te cz tr to tf tx mn) (sz tw : Int32) (t0 : Nat → Int32) : Rt (f_X12_parts sz tw mn t0 mt) (fun a => a.1 = nI ((Sw n rd hs fa) (fB (Sw n rd hs fa) 125)) ∧ a.2.1 = nI 7 ∧ a.2.2.1 = 0 ∧ a.2.2.2.2 = vp_updL (rw6 (fun j => (nI (pts n rd hs fa (fB (Sw n rd hs fa) 125) j)).toInt64) 6 mt) 6 (nI (cEx n rd hs)).toInt64) := by
  have hn := hT.1
  have hN := hT.2.2.1
  have hB : ∀ i, i < n → fa i ≤ 2000 := fun i hi => (tE_B hT i hi).1
  unfold f_X12_parts
  refine rl4 15625 (fun k v1 v2 v3 _ => v3 = nI k ∧ k ≤ 15625 ∧ v1 = nI (fB (offC n rd hs fa) k) ∧ ((k = 0 ∧ v2 = nI 100000000) ∨ (0 < k ∧ v2 = nI (offC n rd hs fa (fB (offC n rd hs fa) k))))) (by omega) ⟨rfl, by omega, rfl, .inl ⟨rfl, rfl⟩⟩ ?_
  rintro rc k v1 v2 v3 t ⟨rfl, hk, rfl, hI⟩ ih
  unfold s_X12_parts_13
  by_cases hk5 : 15625 ≤ k
  · obtain rfl : k = 15625 := by omega
    rcases hI with ⟨q, _⟩ | ⟨_, rfl⟩
    · omega
    · refine rt_t (by decide) ?_
      unfold k_X12_parts_13
      have hb := fB_lt (g := offC n rd hs fa) (k := 15625) (by omega)
      have hp : ∀ w h, pB n rd hs fa w h < 5 := fun w h => fB_lt (by omega)
      have hW := fB_lt (g := (Sw n rd hs fa)) (k := 125) (by omega)
      have eb := offC_best (n := n) (rd := rd) (hs := hs) (fa := fa)
      refine rb2 (m_off hT hb t) ?_
      rintro a1 t2 ⟨_, q0, q3, q4, q5⟩
      have a0 := hp (fB (Sw n rd hs fa) 125) 0
      have a1 := hp (fB (Sw n rd hs fa) 125) 1
      have a2 := hp (fB (Sw n rd hs fa) 125) 2
      have hval : offC n rd hs fa (fB (offC n rd hs fa) 15625) = (Sw n rd hs fa) (fB (Sw n rd hs fa) 125) := by
        rw [eb]
        unfold offC
        rw [show (125 * fB (Sw n rd hs fa) 125 + 25 * pB n rd hs fa (fB (Sw n rd hs fa) 125) 0 + 5 * pB n rd hs fa (fB (Sw n rd hs fa) 125) 1 + pB n rd hs fa (fB (Sw n rd hs fa) 125) 2) / 125 = fB (Sw n rd hs fa) 125 by omega, show (125 * fB (Sw n rd hs fa) 125 + 25 * pB n rd hs fa (fB (Sw n rd hs fa) 125) 0 + 5 * pB n rd hs fa (fB (Sw n rd hs fa) 125) 1 + pB n rd hs fa (fB (Sw n rd hs fa) 125) 2) / 25 % 5 = pB n rd hs fa (fB (Sw n rd hs fa) 125) 0 by omega, show (125 * fB (Sw n rd hs fa) 125 + 25 * pB n rd hs fa (fB (Sw n rd hs fa) 125) 0 + 5 * pB n rd hs fa (fB (Sw n rd hs fa) 125) 1 + pB n rd hs fa (fB (Sw n rd hs fa) 125) 2) / 5 % 5 = pB n rd hs fa (fB (Sw n rd hs fa) 125) 1 by omega, show (125 * fB (Sw n rd hs fa) 125 + 25 * pB n rd hs fa (fB (Sw n rd hs fa) 125) 0 + 5 * pB n rd hs fa (fB (Sw n rd hs fa) 125) 1 + pB n rd hs fa (fB (Sw n rd hs fa) 125) 2) % 5 = pB n rd hs fa (fB (Sw n rd hs fa) 125) 2 by omega]
        rfl
      have hpt : ∀ j, j < 6 → t2 j = nI (pts n rd hs fa (fB (Sw n rd hs fa) 125) j) := fun j hj => by
        have hj6 : j < 3 ∨ j = 3 ∨ j = 4 ∨ j = 5 := by omega
        rcases hj6 with h | rfl | rfl | rfl
        · rw [show t2 j = _ from q0 j h]
          unfold pts
          rw [if_pos h, show fB (offC n rd hs fa) 15625 / 125 = fB (Sw n rd hs fa) 125 by rw [eb]; omega]
        · refine q3.trans (congrArg nI ?_)
          rw [eb]; show _ = pB n rd hs fa _ 0; omega
        · refine q4.trans (congrArg nI ?_)
          rw [eb]; show _ = pB n rd hs fa _ 1; omega
        · refine q5.trans (congrArg nI ?_)
          rw [eb]; show _ = pB n rd hs fa _ 2; omega
      rw [hval]
      refine rl2 12 (fun k v1 v2 => v1 = nI (ct (fun i => decide (rd i < 3 ∧ hs i < 3)) k) ∧ v2 = nI k ∧ k ≤ n) (by omega) ⟨rfl, rfl, by omega⟩ ?_
      rintro rc3 i v1 v2 ⟨rfl, rfl, hi⟩ ih3
      unfold s_X12_parts_58
      simp (disch := omega) only [c_48, gx, nI_clamp, hN]
      by_cases hin : n ≤ i
      · obtain rfl : n = i := by omega
        refine rt_t (nI_le (Nat.le_refl _) (by omega)) ?_
        unfold k_X12_parts_58
        refine rl3 6 (fun i v4 v1 v2 => v4 = nI i ∧ v1 = nI i ∧ v2 = rw6 (fun j => (nI (pts n rd hs fa (fB (Sw n rd hs fa) 125) j)).toInt64) i mt ∧ i ≤ 6) (by omega) ⟨rfl, rfl, rfl, by omega⟩ ?_
        rintro rc2 i v4 v1 v2 ⟨rfl, rfl, rfl, hi⟩ ih2
        unfold s_X12_parts_120
        by_cases hi6 : 6 ≤ i
        · obtain rfl : i = 6 := by omega
          refine rt_t (by decide) ?_
          unfold k_X12_parts_120
          exact re2 (m_tellk (by omega) _ _) (rt_some ⟨rfl, rfl, rfl, rfl⟩)
        · refine rt_f (nI_ge (b := 6) (by omega) (by omega)) (rt_gx (by omega) (by omega) (re2 (m_tellk (by omega) _ _) (rt_lt (ih2 (by omega) _ _ _ ⟨nI_1 _, rfl, ?_, by omega⟩))))
          rw [rw6, nI_clamp (by omega), hpt i (by omega)]
      · obtain ⟨⟨b1, b2, b3, b4⟩, _, ⟨g1, g2, g3, g4⟩⟩ := hT.2.2.2 i (by omega)
        simp (disch := omega) only [nI_leI, c_4, c_1, pk_mul, nI_add, gx, nI_clamp, g1, g2, c_3, lt1_e, c_0]
        refine rt_f hin ?_
        repeat' (refine rt_if (fun _ => ?_) (fun _ => ?_))
        all_goals
          refine ih3 (by omega) _ _ ⟨congrArg nI ?_, rfl, by omega⟩
          rw [ct]
          simp only [decide_eq_true_eq]
          split <;> omega
  · have hk15 : k < 15625 := by omega
    have ho := offC_le (rd := rd) (hs := hs) hB hn hk15
    refine rt_f (nI_ge (b := 15625) (by omega) (by omega)) (rb2 (m_off hT hk15 t) ?_)
    rintro a1 t2 ⟨rfl, _⟩
    rcases hI with ⟨rfl, rfl⟩ | ⟨k0, rfl⟩
    · refine rt_t (nI_lt (by omega) (by omega)) (rt_lt (ih (by omega) _ _ _ _ ⟨rfl, by omega, ?_, .inr ⟨by omega, ?_⟩⟩))
      · rw [fB_t (.inl rfl)]
      · rw [fB_t (.inl rfl)]
    · have hof := offC_le (rd := rd) (hs := hs) hB hn (c := fB (offC n rd hs fa) k) (by have := fB_lt (g := offC n rd hs fa) k0; omega)
      refine rt_if (fun z => ?_) (fun z => ?_)
      · rw [nI_ltI (by omega) (by omega)] at z
        refine rt_lt (ih (by omega) _ _ _ _ ⟨nI_1 _, by omega, ?_, .inr ⟨by omega, ?_⟩⟩)
        · rw [fB_t (by omega)]
        · rw [fB_t (by omega)]
      · rw [nI_ltI (by omega) (by omega)] at z
        refine rt_lt (ih (by omega) _ _ _ _ ⟨nI_1 _, by omega, ?_, .inr ⟨by omega, ?_⟩⟩)
        · rw [fB_f (by omega)]
        · rw [fB_f (by omega)]
theorem pr_parts (hT : tX cz tr to tf tx mn) (sz mz tw : Int32) (t0 b0 m0 : Nat → Int32) : Rt (f_X11_parts sz cz tr to tf t0 b0 nt) (fun a => Rt (f_X12_parts mz tw mn m0 mt) (fun b => a.1 = b.1 ∧ b.2.2.1 = 0 ∧ ∃ r, a.2.1 = nI r ∧ b.2.1 = nI r ∧ rowE r a.2.2.2.2 b.2.2.2.2)) := by
  obtain ⟨n, rd, hs, fa, te, hE⟩ := hT
  obtain ⟨_, rfl, _⟩ := id hE
  refine rt_and (x_parts hE sz t0 b0) (m_parts hE mz tw m0) ?_
  rintro a b ⟨a1, a2, a3⟩ ⟨b1, b2, b3, b4⟩
  refine ⟨a1.trans b1.symm, b3, 7, a2, b2, ?_⟩
  rw [a3, b4]
  exact rowE_s _ (rowE_6 6 (by omega)) (by omega)
end
