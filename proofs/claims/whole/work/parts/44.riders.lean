/-! riders -/
def rC (n : Nat) (rd hs : Nat → Nat) (a h : Nat) : Nat := ct (fun i => decide (rd i = a ∧ hs i = h)) n
def rF (n : Nat) (rd hs fa : Nat → Nat) (a h : Nat) : Nat := sm (fun i => if rd i = a ∧ hs i = h then fa i else 0) n
def rM (n : Nat) (rd hs fa : Nat → Nat) (a h : Nat) : Nat := rF n rd hs fa a h * 27720 / rC n rd hs a h
def rBo (n : Nat) (rd hs : Nat → Nat) (a b h : Nat) : Bool := decide (rC n rd hs a h ≠ 0 ∧ rC n rd hs b h ≠ 0)
def rS (n : Nat) (rd hs fa : Nat → Nat) (a b : Nat) : Nat → Int
  | 0 => 0
  | k + 1 => if rBo n rd hs a b k = true then rS n rd hs fa a b k + ((rM n rd hs fa a k : Int) - (rM n rd hs fa b k : Int)) else rS n rd hs fa a b k
theorem dv12 : ∀ c, c < 13 → 1 ≤ c → 27720 % c = 0 := by decide
section
variable {n r H a b : Nat} {rd hs fa te : Nat → Nat} {cz : Int32} {tr to tf tx mn : Nat → Int32} {nt mt : Nat → Int64}
theorem rF_le (hT : tE n rd hs fa te cz tr to tf tx mn) {h : Nat} : rF n rd hs fa a h ≤ 24000 := by
  have hn := hT.1
  have := sm_le (g := fun i => if rd i = a ∧ hs i = h then fa i else 0) (b := 2000) n (fun k hk => by
    have := (tE_B hT k hk).1
    try simp only
    split <;> omega)
  unfold rF; omega
theorem rC_le (hT : tE n rd hs fa te cz tr to tf tx mn) {h : Nat} : rC n rd hs a h ≤ 12 := Nat.le_trans (ct_le _) hT.1
theorem rM_m (hT : tE n rd hs fa te cz tr to tf tx mn) {h : Nat} (h0 : rC n rd hs a h ≠ 0) : rM n rd hs fa a h * rC n rd hs a h = rF n rd hs fa a h * 27720 ∧ rM n rd hs fa a h ≤ 665280000 := by
  have h12 := rC_le (a := a) (h := h) hT
  have hf := rF_le (a := a) (h := h) hT
  have hd := dv12 (rC n rd hs a h) (by omega) (by omega)
  have hdv : rC n rd hs a h ∣ rF n rd hs fa a h * 27720 := Nat.dvd_trans (Nat.dvd_of_mod_eq_zero hd) (Nat.dvd_mul_left _ _)
  unfold rM
  refine ⟨Nat.div_mul_cancel hdv, ?_⟩
  have : rF n rd hs fa a h * 27720 / rC n rd hs a h ≤ rF n rd hs fa a h * 27720 := Nat.div_le_self _ _
  omega
theorem rS_le (hT : tE n rd hs fa te cz tr to tf tx mn) : ∀ k, (rS n rd hs fa a b k).natAbs ≤ 665280000 * k
  | 0 => by rw [rS]; exact Nat.le_refl _
  | k + 1 => by
    have ih := rS_le hT k
    rw [rS]
    split
    · rename_i q
      unfold rBo at q
      rw [decide_eq_true_eq] at q
      have h1 := (rM_m (a := a) hT q.1).2
      have h2 := (rM_m (a := b) hT q.2).2
      omega
    · omega
theorem x_scaled (hT : tE n rd hs fa te cz tr to tf tx mn) (ha : a < 6) {h : Nat} (hh : h < 6) : f_X10_scaledMean (nI a) (nI h) (nI n) tr to tf = some (if rC n rd hs a h = 0 then -1 else lN (rM n rd hs fa a h)) := by
  have hn := hT.1
  have h12 := rC_le (a := a) (h := h) hT
  have hf := rF_le (a := a) (h := h) hT
  refine rt_get ?_
  unfold f_X10_scaledMean
  refine rl3 12 (fun k v3 v5 v6 => v3 = lN (sm (fun i => if rd i = a ∧ hs i = h then fa i else 0) k) ∧ v5 = nI (ct (fun i => decide (rd i = a ∧ hs i = h)) k) ∧ v6 = nI k ∧ k ≤ n) (by omega) ⟨rfl, rfl, rfl, by omega⟩ ?_
  rintro rc k v3 v5 v6 ⟨rfl, rfl, rfl, hk⟩ ih
  unfold s_X10_scaledMean_8
  by_cases hkn : n ≤ k
  · obtain rfl : n = k := by omega
    refine rt_t (nI_le (Nat.le_refl _) (by omega)) ?_
    show Rt (k_X10_scaledMean_8 (lN (rF n rd hs fa a h)) (nI (rC n rd hs a h))) _
    unfold k_X10_scaledMean_8
    by_cases c0 : rC n rd hs a h = 0
    · rw [if_pos c0, c0]
      exact rt_t rfl (rt_some rfl)
    · rw [if_neg c0]
      refine rt_f (nI_ne0 (by omega) (by omega)) ?_
      rw [nI_l (by omega), gzl (by omega) (by omega), l_27720, lN_mul, pk_lDiv (by omega) (by omega) (by omega)]
      exact rt_some rfl
  · obtain ⟨⟨b1, b2, b3, b4⟩, ⟨e1, e2, e3, e4⟩, _⟩ := hT.2.2.2 k (by omega)
    have hc : ct (fun i => decide (rd i = a ∧ hs i = h)) (k + 1) = ct (fun i => decide (rd i = a ∧ hs i = h)) k + (if decide (rd k = a ∧ hs k = h) = true then 1 else 0) := rfl
    have hs' : sm (fun i => if rd i = a ∧ hs i = h then fa i else 0) (k + 1) = sm (fun i => if rd i = a ∧ hs i = h then fa i else 0) k + (if rd k = a ∧ hs k = h then fa k else 0) := rfl
    simp only [decide_eq_true_eq] at hc
    simp (disch := omega) only [nI_leI, gx, nI_clamp, e1, e2, e3, nI_eq, nI_l, lN_add, lt1_e, nI_1]
    refine rt_f hkn (rt_if (fun z => rt_if (fun y => ?_) (fun y => ?_)) (fun z => ?_))
    · rw [if_pos ⟨z, y⟩] at hc hs'
      exact ih (by omega) _ _ _ ⟨congrArg lN hs'.symm, congrArg nI hc.symm, rfl, by omega⟩
    · rw [if_neg (fun q => y q.2)] at hc hs'
      exact ih (by omega) _ _ _ ⟨congrArg lN hs'.symm, congrArg nI hc.symm, rfl, by omega⟩
    · rw [if_neg (fun q => z q.1)] at hc hs'
      exact ih (by omega) _ _ _ ⟨congrArg lN hs'.symm, congrArg nI hc.symm, rfl, by omega⟩
theorem m_ridden (hT : tE n rd hs fa te cz tr to tf tx mn) (ha : a < 6) {h : Nat} (hh : h < 6) (q1 q2 : Int32) : f_X12_ridden (nI a) (nI h) q1 q2 mn = some (nI (rC n rd hs a h), nI (rF n rd hs fa a h)) := by
  have hn := hT.1
  have hN := hT.2.2.1
  refine rt_get ?_
  unfold f_X12_ridden
  refine rl3 12 (fun k v6 v5 v3 => v3 = nI (sm (fun i => if rd i = a ∧ hs i = h then fa i else 0) k) ∧ v5 = nI (ct (fun i => decide (rd i = a ∧ hs i = h)) k) ∧ v6 = nI k ∧ k ≤ n) (by omega) ⟨rfl, rfl, rfl, by omega⟩ ?_
  rintro rc k v6 v5 v3 ⟨rfl, rfl, rfl, hk⟩ ih
  unfold s_X12_ridden_12
  simp (disch := omega) only [c_48, gx, nI_clamp, hN]
  by_cases hkn : n ≤ k
  · obtain rfl : n = k := by omega
    exact rt_t (nI_le (Nat.le_refl _) (by omega)) (rt_some rfl)
  · obtain ⟨⟨b1, b2, b3, b4⟩, _, ⟨e1, e2, e3, e4⟩⟩ := hT.2.2.2 k (by omega)
    have hc : ct (fun i => decide (rd i = a ∧ hs i = h)) (k + 1) = ct (fun i => decide (rd i = a ∧ hs i = h)) k + (if decide (rd k = a ∧ hs k = h) = true then 1 else 0) := rfl
    have hs' : sm (fun i => if rd i = a ∧ hs i = h then fa i else 0) (k + 1) = sm (fun i => if rd i = a ∧ hs i = h then fa i else 0) k + (if rd k = a ∧ hs k = h then fa k else 0) := rfl
    simp only [decide_eq_true_eq] at hc
    simp (disch := omega) only [nI_leI, c_4, c_2, c_1, pk_mul, nI_add, gx, nI_clamp, e1, e2, e3, nI_eq, lt1_e]
    refine rt_f hkn (rt_if (fun z => rt_if (fun y => ?_) (fun y => ?_)) (fun z => ?_))
    · rw [if_pos ⟨z, y⟩] at hc hs'
      exact ih (by omega) _ _ _ ⟨congrArg nI hs'.symm, congrArg nI hc.symm, rfl, by omega⟩
    · rw [if_neg (fun q => y q.2)] at hc hs'
      exact ih (by omega) _ _ _ ⟨congrArg nI hs'.symm, congrArg nI hc.symm, rfl, by omega⟩
    · rw [if_neg (fun q => z q.1)] at hc hs'
      exact ih (by omega) _ _ _ ⟨congrArg nI hs'.symm, congrArg nI hc.symm, rfl, by omega⟩
theorem lg_m1 {m : Nat} (h : m < 2 ^ 63) : ¬ lg_cmp (lN m) (-1) = 0 := by
  unfold lg_cmp
  rw [if_pos]
  · decide
  · show (-1 : Int64) < lN m
    rw [Int64.lt_iff_toInt_lt, pk_lT h, show (-1 : Int64).toInt = -1 by decide]; omega
theorem lg_mm : lg_cmp (-1) (-1) = 0 := by decide
theorem x_riders (hT : tE n rd hs fa te cz tr to tf tx mn) (ha : a < 6) (hb : b < 6) (hab : a ≠ b) (hH : H ≤ 6) : Rt (f_X11_riders (nI a) (nI b) (nI r) (nI H) (nI n) tr to tf nt) (fun x => (ct (rBo n rd hs a b) H = 0 ∧ x = (-2, nI r, nt)) ∨ (0 < ct (rBo n rd hs a b) H ∧ x = (nI (ct (rBo n rd hs a b) H), nI 2, vp_updL (vp_updL nt 0 (fz (rS n rd hs fa a b H) (ct (rBo n rd hs a b) H * 27720))) 1 (fd (rS n rd hs fa a b H) (ct (rBo n rd hs a b) H * 27720))))) := by
  unfold f_X11_riders
  refine re1 (x_isRiderT ha) (rt_f i10n (re1 (x_isRiderT hb) (rt_f i10n (rt_f (fun q => hab ((nI_eq (by omega) (by omega)).mp q)) ?_))))
  refine rl3 6 (fun k v3 v5 v6 => v3 = jI (rS n rd hs fa a b k) ∧ v5 = nI (ct (rBo n rd hs a b) k) ∧ v6 = nI k ∧ k ≤ H) (by omega) ⟨rfl, rfl, rfl, by omega⟩ ?_
  rintro rc k v3 v5 v6 ⟨rfl, rfl, rfl, hk⟩ ih
  unfold s_X11_riders_29
  by_cases hkH : H ≤ k
  · obtain rfl : H = k := by omega
    refine rt_t (nI_le (Nat.le_refl _) (by omega)) ?_
    unfold k_X11_riders_29
    have h1 := ct_le (p := rBo n rd hs a b) H
    have h2 := rS_le (a := a) (b := b) hT H
    by_cases c0 : ct (rBo n rd hs a b) H = 0
    · rw [c0]
      exact rt_t rfl (rt_some (.inl ⟨rfl, rfl⟩))
    · refine rt_f (nI_ne0 (by omega) (by omega)) (re1 (x_start _) ?_)
      rw [nI_l (by omega), l_27720, lN_mul]
      exact re2 (x_frac (k := 0) (by omega) (by omega) (by omega) (by omega)) (rt_some (.inr ⟨by omega, rfl⟩))
  · refine rt_f (nI_ge (by omega) (by omega)) (re1 (x_scaled hT ha (by omega)) (re1 (x_scaled hT hb (by omega)) ?_))
    by_cases a0 : rC n rd hs a k = 0
    · have hn : ¬ rBo n rd hs a b k = true := by
        unfold rBo; rw [decide_eq_true_eq]; exact fun q => q.1 a0
      rw [if_pos a0]
      refine rt_t lg_mm (rt_lt (ih (by omega) _ _ _ ⟨?_, ?_, nI_1 _, by omega⟩))
      · rw [rS, if_neg hn]
      · rw [ct_f hn]
    · have m1 := (rM_m (a := a) hT a0).2
      rw [if_neg a0]
      refine rt_f (lg_m1 (by omega)) ?_
      by_cases b0 : rC n rd hs b k = 0
      · have hn : ¬ rBo n rd hs a b k = true := by
          unfold rBo; rw [decide_eq_true_eq]; exact fun q => q.2 b0
        rw [if_pos b0]
        refine rt_t lg_mm (rt_lt (ih (by omega) _ _ _ ⟨?_, ?_, nI_1 _, by omega⟩))
        · rw [rS, if_neg hn]
        · rw [ct_f hn]
      · have m2 := (rM_m (a := b) hT b0).2
        have hn : rBo n rd hs a b k = true := by
          unfold rBo; rw [decide_eq_true_eq]; exact ⟨a0, b0⟩
        rw [if_neg b0]
        refine rt_f (lg_m1 (by omega)) (rt_lt (rt_lt (rt_lt (ih (by omega) _ _ _ ⟨?_, ?_, nI_1 _, by omega⟩))))
        · rw [rS, if_pos hn, jI_lN, jI_lN, jI_sub, jI_add]
        · rw [ct_t hn, nI_1]
theorem m_riders (hT : tE n rd hs fa te cz tr to tf tx mn) (ha : a < 6) (hb : b < 6) (hab : a ≠ b) (hH : H ≤ 6) (tw q1 q2 : Int32) : Rt (f_X12_riders (nI a) (nI b) (nI H) (nI r) tw q1 q2 mn mt) (fun x => x.2.2.1 = 0 ∧ ((ct (rBo n rd hs a b) H = 0 ∧ x.1 = -2 ∧ x.2.1 = nI r ∧ x.2.2.2.2.2 = mt) ∨ (0 < ct (rBo n rd hs a b) H ∧ x.1 = nI (ct (rBo n rd hs a b) H) ∧ x.2.1 = nI 2 ∧ x.2.2.2.2.2 = vp_updL (vp_updL mt 0 (fz (rS n rd hs fa a b H) (ct (rBo n rd hs a b) H * 27720))) 1 (fd (rS n rd hs fa a b H) (ct (rBo n rd hs a b) H * 27720))))) := by
  unfold f_X12_riders
  refine re1 (m_inT (n := 5) (by omega) (by omega)) (rt_f i10n (re1 (m_inT (n := 5) (by omega) (by omega)) (rt_f i10n (rt_f (fun q => hab ((nI_eq (by omega) (by omega)).mp q)) ?_))))
  refine rl6 6 (fun k v3 v4 v6 v8 _ _ => ∃ (up : Int) (low : Nat), v3 = nI (ct (rBo n rd hs a b) k) ∧ v4 = jI up ∧ v6 = lN low ∧ v8 = nI k ∧ k ≤ H ∧ up * 27720 = rS n rd hs fa a b k * low ∧ 0 < low ∧ low ≤ 27720) (by omega) ⟨0, 1, rfl, rfl, rfl, rfl, by omega, rfl, by omega, by omega⟩ ?_
  rintro rc k v3 v4 v6 v8 q1 q2 ⟨up, low, rfl, rfl, rfl, rfl, hk, hu, hl0, hl⟩ ih
  have h1 := ct_le (p := rBo n rd hs a b) k
  have h2 := rS_le (a := a) (b := b) hT k
  have hup : up.natAbs ≤ (rS n rd hs fa a b k).natAbs := by
    have e := congrArg Int.natAbs hu
    rw [Int.natAbs_mul, Int.natAbs_mul, Int.natAbs_natCast] at e
    have e2 : (27720 : Int).natAbs = 27720 := rfl
    rw [e2] at e
    have e3 : (rS n rd hs fa a b k).natAbs * low ≤ (rS n rd hs fa a b k).natAbs * 27720 := Nat.mul_le_mul_left _ hl
    omega
  unfold s_X12_riders_41
  by_cases hkH : H ≤ k
  · obtain rfl : H = k := by omega
    refine rt_t (nI_le (Nat.le_refl _) (by omega)) ?_
    unfold k_X12_riders_41
    by_cases c0 : ct (rBo n rd hs a b) H = 0
    · rw [c0]
      exact rt_t rfl (rt_some ⟨rfl, .inl ⟨rfl, rfl, rfl, rfl⟩⟩)
    · refine rt_f (nI_ne0 (by omega) (by omega)) ?_
      have hlb : low * ct (rBo n rd hs a b) H ≤ 27720 * 6 := Nat.mul_le_mul hl (by omega)
      have hlp : 0 < low * ct (rBo n rd hs a b) H := Nat.mul_pos hl0 (by omega)
      have hq := fr_eq (z1 := up) (z2 := rS n rd hs fa a b H) (d1 := low * ct (rBo n rd hs a b) H) (d2 := ct (rBo n rd hs a b) H * 27720) (by
        rw [Int.natCast_mul, Int.natCast_mul]
        have : up * ((ct (rBo n rd hs a b) H : Int) * ((27720 : Nat) : Int)) = (up * 27720) * (ct (rBo n rd hs a b) H : Int) := by
          rw [Int.mul_comm (ct (rBo n rd hs a b) H : Int), ← Int.mul_assoc]; rfl
        rw [this, hu, Int.mul_assoc]) (by omega) (by omega) hlp (by omega) (by omega) (by omega)
      rw [nI_l (by omega), lN_mul]
      refine re2 (m_part (k := 0) (by omega) hlp (by omega) (by omega)) (rt_some ⟨rfl, .inr ⟨by omega, rfl, rfl, ?_⟩⟩)
      show vp_updL (vp_updL mt 0 (fz up (low * ct (rBo n rd hs a b) H))) 1 (fd up (low * ct (rBo n rd hs a b) H)) = _
      rw [hq.1, hq.2]
  · refine rt_f (nI_ge (by omega) (by omega)) (re2 (m_ridden hT ha (by omega) q1 q2) (re2 (m_ridden hT hb (by omega) _ _) ?_))
    by_cases a0 : rC n rd hs a k = 0
    · have hn : ¬ rBo n rd hs a b k = true := by
        unfold rBo; rw [decide_eq_true_eq]; exact fun q => q.1 a0
      rw [a0]
      refine rt_t rfl (rt_lt (ih (by omega) _ _ _ _ _ _ ⟨up, low, ?_, rfl, rfl, nI_1 _, by omega, ?_, hl0, hl⟩))
      · rw [ct_f hn]
      · rw [rS, if_neg hn]; exact hu
    · have c1 := rC_le (a := a) (h := k) hT
      have f1 := rF_le (a := a) (h := k) hT
      have m1 := rM_m (a := a) hT a0
      refine rt_f (nI_ne0 (by omega) (by omega)) ?_
      by_cases b0 : rC n rd hs b k = 0
      · have hn : ¬ rBo n rd hs a b k = true := by
          unfold rBo; rw [decide_eq_true_eq]; exact fun q => q.2 b0
        rw [b0]
        refine rt_t rfl (rt_lt (ih (by omega) _ _ _ _ _ _ ⟨up, low, ?_, rfl, rfl, nI_1 _, by omega, ?_, hl0, hl⟩))
        · rw [ct_f hn]
        · rw [rS, if_neg hn]; exact hu
      · have c2 := rC_le (a := b) (h := k) hT
        have f2 := rF_le (a := b) (h := k) hT
        have m2 := rM_m (a := b) hT b0
        have hn : rBo n rd hs a b k = true := by
          unfold rBo; rw [decide_eq_true_eq]; exact ⟨a0, b0⟩
        refine rt_f (nI_ne0 (by omega) (by omega)) ?_
        have hS' : rS n rd hs fa a b (k + 1) = rS n rd hs fa a b k + ((rM n rd hs fa a k : Int) - (rM n rd hs fa b k : Int)) := by rw [rS, if_pos hn]
        have hSl := rS_le (a := a) (b := b) hT (k + 1)
        rw [nI_l (by omega), nI_l (by omega), nI_l (by omega), nI_l (by omega), lN_mul, lN_mul, lN_mul]
        generalize rC n rd hs a k = x at *
        generalize rC n rd hs b k = y at *
        generalize rF n rd hs fa a k = f at *
        generalize rF n rd hs fa b k = g at *
        generalize rM n rd hs fa a k = M1 at *
        generalize rM n rd hs fa b k = M2 at *
        generalize rS n rd hs fa a b k = S at *
        generalize rS n rd hs fa a b (k + 1) = S' at *
        refine rt_lt ?_
        have hxy : x * y ≤ 144 := Nat.mul_le_mul (show x ≤ 12 by omega) (show y ≤ 12 by omega)
        have hxy0 : 0 < x * y := Nat.mul_pos (by omega) (by omega)
        have hlow' : low * (x * y) ≤ 27720 * 144 := Nat.mul_le_mul hl hxy
        have hlow0 : 0 < low * (x * y) := Nat.mul_pos hl0 hxy0
        have hfy : f * y ≤ 24000 * 12 := Nat.mul_le_mul f1 (by omega)
        have hgx : g * x ≤ 24000 * 12 := Nat.mul_le_mul f2 (by omega)
        have eup : jI up * lN (x * y) + lN low * (lN (f * y) - lN (g * x)) = jI (up * ((x * y : Nat) : Int) + (low : Int) * (((f * y : Nat) : Int) - ((g * x : Nat) : Int))) := by
          rw [jI_lN, jI_lN, jI_lN, jI_lN, jI_mul, jI_sub, jI_mul, jI_add]
        have hkey : (up * ((x * y : Nat) : Int) + (low : Int) * (((f * y : Nat) : Int) - ((g * x : Nat) : Int))) * 27720 = S' * ((low * (x * y) : Nat) : Int) := by
          have e1 : (M1 : Int) * x = (f : Int) * 27720 := by
            have := congrArg (fun z : Nat => (z : Int)) m1.1
            simpa using this
          have e2 : (M2 : Int) * y = (g : Int) * 27720 := by
            have := congrArg (fun z : Nat => (z : Int)) m2.1
            simpa using this
          rw [hS']
          push_cast
          have t1 : (up * (x * y) + low * (f * y - g * x) : Int) * 27720 = (up * 27720) * (x * y) + low * ((f * 27720) * y - (g * 27720) * x) := by
            simp only [Int.add_mul, Int.mul_add, Int.mul_sub, Int.sub_mul, Int.mul_assoc, Int.mul_left_comm, Int.mul_comm]
          rw [t1, hu, ← e1, ← e2]
          simp only [Int.add_mul, Int.mul_add, Int.mul_sub, Int.sub_mul, Int.mul_assoc, Int.mul_left_comm, Int.mul_comm]
        have hab1 : (up * ((x * y : Nat) : Int)).natAbs ≤ (665280000 * 6) * 144 := by
          rw [Int.natAbs_mul, Int.natAbs_natCast]
          exact Nat.mul_le_mul (by omega) hxy
        have hab2 : ((low : Int) * (((f * y : Nat) : Int) - ((g * x : Nat) : Int))).natAbs ≤ 27720 * 288000 := by
          rw [Int.natAbs_mul, Int.natAbs_natCast]
          exact Nat.mul_le_mul hl (by omega)
        generalize hU : up * ((x * y : Nat) : Int) + (low : Int) * (((f * y : Nat) : Int) - ((g * x : Nat) : Int)) = U at *
        have hUb : U.natAbs < 2 ^ 62 := by omega
        rw [eup, lN_mul]
        refine rt_lt (rt_lt ?_)
        rw [abs_jI hUb]
        have hg := gcd_pd (a := U.natAbs) hlow0
        refine re1 (m_common hUb (by omega)) ?_
        rw [gzl (by omega) (by omega)]
        refine rt_lt ?_
        rw [gzl (by omega) (by omega)]
        refine rt_lt (rt_lt (rt_lt ?_))
        have cop : Nat.Coprime (U.natAbs / Nat.gcd U.natAbs (low * (x * y))) (low * (x * y) / Nat.gcd U.natAbs (low * (x * y))) := Nat.coprime_div_gcd_div_gcd hg.1
        obtain ⟨w0, ew0⟩ := Nat.gcd_dvd_left U.natAbs (low * (x * y))
        obtain ⟨l2, el2⟩ := Nat.gcd_dvd_right U.natAbs (low * (x * y))
        generalize Nat.gcd U.natAbs (low * (x * y)) = G at *
        have q1' : U.natAbs / G = w0 := by rw [ew0, Nat.mul_div_cancel_left _ hg.1]
        have q2' : low * (x * y) / G = l2 := by rw [el2, Nat.mul_div_cancel_left _ hg.1]
        rw [q1', q2'] at cop
        obtain ⟨W, hW, hWa⟩ : ∃ W : Int, U = G * W ∧ W.natAbs = w0 := by
          rcases Int.natAbs_eq U with e | e
          · exact ⟨w0, by rw [e, ew0, Int.natCast_mul], Int.natAbs_natCast _⟩
          · exact ⟨-(w0 : Int), by rw [Int.mul_neg, e, ew0, Int.natCast_mul], by rw [Int.natAbs_neg, Int.natAbs_natCast]⟩
        have hl2 : 0 < l2 := Nat.pos_of_ne_zero (fun q => by rw [q, Nat.mul_zero] at el2; omega)
        have hkey2 : W * 27720 = S' * (l2 : Int) := by
          have : (G : Int) * (W * 27720) = (G : Int) * (S' * (l2 : Int)) := by
            rw [← Int.mul_assoc, ← hW, hkey, el2, Int.natCast_mul, Int.mul_left_comm]
          exact Int.eq_of_mul_eq_mul_left (by omega) this
        have hdvd : l2 ∣ 27720 := by
          refine cop.symm.dvd_of_dvd_mul_left (n := 27720) ?_
          have e := congrArg Int.natAbs hkey2
          rw [Int.natAbs_mul, Int.natAbs_mul, Int.natAbs_natCast, hWa] at e
          have e2 : (27720 : Int).natAbs = 27720 := rfl
          rw [e2] at e
          rw [e]
          exact Nat.dvd_mul_left _ _
        refine ih (by omega) _ _ _ _ _ _ ⟨W, l2, ?_, ?_, ?_, nI_1 _, by omega, hkey2, hl2, Nat.le_of_dvd (by omega) hdvd⟩
        · rw [ct_t hn, nI_1]
        · exact jI_divx hW hUb hg.1 (by omega)
        · rw [pk_lDiv (by omega) hg.1 (by omega), q2']
theorem pr_riders (hT : tX cz tr to tf tx mn) (hH : H ≤ 6) (hR : rowE r nt mt) (p1 p2 tw q1 q2 : Int32) : Rt (f_X11_riders p1 p2 (nI r) (nI H) cz tr to tf nt) (fun x => Rt (f_X12_riders p1 p2 (nI H) (nI r) tw q1 q2 mn mt) (fun y => x.1 = y.1 ∧ y.2.2.1 = 0 ∧ ∃ r, x.2.1 = nI r ∧ y.2.1 = nI r ∧ rowE r x.2.2 y.2.2.2.2.2)) := by
  obtain ⟨n, rd, hs, fa, te, hE⟩ := hT
  obtain ⟨_, rfl, _⟩ := id hE
  rcases bel p1 6 (by omega) with ⟨a, ha, rfl⟩ | ho
  · rcases bel p2 6 (by omega) with ⟨b, hb, rfl⟩ | ho
    · by_cases hab : a = b
      · subst hab
        unfold f_X11_riders
        refine re1 (x_isRiderT ha) (rt_f i10n (re1 (x_isRiderT hb) (rt_f i10n (rt_t rfl (rt_some ?_)))))
        unfold f_X12_riders
        exact re1 (m_inT (n := 5) (by omega) (by omega)) (rt_f i10n (re1 (m_inT (n := 5) (by omega) (by omega)) (rt_f i10n (rt_t rfl (rt_some ⟨rfl, rfl, r, rfl, rfl, hR⟩)))))
      · refine rt_and (x_riders (r := r) (nt := nt) hE ha hb hab hH) (m_riders (r := r) (mt := mt) hE ha hb hab hH tw q1 q2) ?_
        rintro x y hx ⟨y0, hy⟩
        rcases hx with ⟨c0, rfl⟩ | ⟨c0, rfl⟩
        · rcases hy with ⟨_, y1, y2, y3⟩ | ⟨d0, _⟩
          · exact ⟨y1.symm, y0, r, rfl, y2, by rw [y3]; exact hR⟩
          · omega
        · rcases hy with ⟨d0, _⟩ | ⟨_, y1, y2, y3⟩
          · omega
          · exact ⟨y1.symm, y0, 2, rfl, y2, by rw [y3]; exact rowE_f rowE_0 (by omega)⟩
    · unfold f_X11_riders
      refine re1 (x_isRiderT ha) (rt_f i10n (re1 (x_isRiderF ho) (rt_t rfl (rt_some ?_))))
      unfold f_X12_riders
      exact re1 (m_inT (n := 5) (by omega) (by omega)) (rt_f i10n (re1 (m_inF (n := 5) ho (by omega)) (rt_t rfl (rt_some ⟨rfl, rfl, r, rfl, rfl, hR⟩))))
  · unfold f_X11_riders
    refine re1 (x_isRiderF ho) (rt_t rfl (rt_some ?_))
    unfold f_X12_riders
    exact re1 (m_inF (n := 5) ho (by omega)) (rt_t rfl (rt_some ⟨rfl, rfl, r, rfl, rfl, hR⟩))
end
