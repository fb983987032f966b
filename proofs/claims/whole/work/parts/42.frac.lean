/-! FRACTIONS; wind -/
def eS : Nat → Nat → Nat → Prop
  | 0, _, b => b = 0
  | m + 1, a, b => b = 0 ∨ eS m b (a % b)
theorem eS_k : ∀ k a b, b < 2 ^ k → eS (2 * k) a b := by
  intro k
  induction k with
  | zero => intro a b h; exact (show b = 0 by omega)
  | succ k ih =>
    intro a b h
    show eS (2 * k + 1 + 1) a b
    by_cases b0 : b = 0
    · exact .inl b0
    · refine .inr ?_
      by_cases r0 : a % b = 0
      · exact .inl r0
      · refine .inr (ih _ _ ?_)
        have h1 : a % b < b := Nat.mod_lt _ (by omega)
        have h2 : b % (a % b) < a % b := Nat.mod_lt _ (by omega)
        have h3 : (a % b) + b % (a % b) ≤ b := by
          have := Nat.div_add_mod b (a % b)
          have h4 : 1 ≤ b / (a % b) := (Nat.le_div_iff_mul_le (by omega)).mpr (by omega)
          have h5 : (a % b) * 1 ≤ (a % b) * (b / (a % b)) := Nat.mul_le_mul_left _ h4
          omega
        have : 2 ^ (k + 1) = 2 * 2 ^ k := by rw [Nat.pow_succ, Nat.mul_comm]
        omega
theorem gcd_st {a b : Nat} : Nat.gcd b (a % b) = Nat.gcd a b := by
  rw [Nat.gcd_comm a b, Nat.gcd_rec b a, Nat.gcd_comm]
theorem lg_lN {a b : Nat} (ha : a < 2 ^ 63) (hb : b < 2 ^ 63) : lg_cmp (lN a) (lN b) = if b < a then 1 else if a = b then 0 else -1 := by
  unfold lg_cmp
  simp only [gt_iff_lt, pk_lLT hb ha, pk_lEQ ha hb]
theorem lg_0 {b : Nat} (hb : b < 2 ^ 63) : (lg_cmp (lN b) 0 = 0) ↔ b = 0 := by
  have := lg_lN (a := b) (b := 0) hb (by omega)
  rw [l_0, this]
  by_cases h : 0 < b
  · rw [if_pos h]; exact ⟨fun q => absurd q (by decide), fun q => by omega⟩
  · rw [if_neg h, if_pos (by omega)]; exact ⟨fun _ => by omega, fun _ => rfl⟩
theorem lg_le {a b : Nat} (ha : a < 2 ^ 63) (hb : b < 2 ^ 63) : (lg_cmp (lN a) (lN b) ≤ 0) ↔ a ≤ b := by
  rw [lg_lN ha hb]
  by_cases h : b < a
  · rw [if_pos h]; exact ⟨fun q => absurd q (by decide), fun q => by omega⟩
  · rw [if_neg h]
    by_cases e : a = b
    · rw [if_pos e]; exact ⟨fun _ => by omega, fun _ => by decide⟩
    · rw [if_neg e]; exact ⟨fun _ => by omega, fun _ => by decide⟩
theorem x_common {a b : Nat} (ha : a < 2 ^ 62) (hb : b < 2 ^ 62) : f_X6_common (lN a) (lN b) = some (lN (Nat.gcd a b)) := by
  refine rt_get ?_
  unfold f_X6_common
  refine rl3 124 (fun j x1 x2 x3 => ∃ c d, x1 = lN c ∧ x2 = lN d ∧ x3 = nI j ∧ j ≤ 124 ∧ Nat.gcd c d = Nat.gcd a b ∧ c < 2 ^ 62 ∧ d < 2 ^ 62 ∧ eS (124 - j) c d) (by omega) ⟨a, b, rfl, rfl, rfl, by omega, rfl, ha, hb, eS_k 62 a b hb⟩ ?_
  rintro rc j x1 x2 x3 ⟨c, d, rfl, rfl, rfl, hj, hg, hc, hd, hE⟩ ih
  unfold s_X6_common_9
  refine rt_f (nI_ge (b := 200) (by omega) (by omega)) ?_
  by_cases d0 : d = 0
  · refine rt_t ((lg_0 (by omega)).mpr d0) (rt_some ?_)
    rw [← hg, d0, Nat.gcd_zero_right]
  · refine rt_f (fun q => d0 ((lg_0 (by omega)).mp q)) ?_
    have hr : c % d < d := Nat.mod_lt _ (by omega)
    rw [gzl (by omega) (by omega), pk_lRem (by omega) (by omega) (by omega)]
    refine rt_lt (rt_lt ?_)
    by_cases hj2 : j = 124
    · subst hj2
      exact absurd hE d0
    · obtain ⟨m, hm⟩ : ∃ m, 124 - j = m + 1 := ⟨124 - j - 1, by omega⟩
      rw [hm] at hE
      rcases hE with h | h
      · exact absurd h d0
      · refine ih (by omega) _ _ _ ⟨d, c % d, rfl, rfl, nI_1 _, by omega, gcd_st.trans hg, by omega, by omega, ?_⟩
        rw [show 124 - (j + 1) = m by omega]; exact h
theorem m_common' : ∀ (m n a b : Nat), m < n → a < 2 ^ 62 → b < 2 ^ 62 → eS m a b → G_X12_common n (lN a) (lN b) = some (lN (Nat.gcd a b)) := by
  intro m
  induction m with
  | zero =>
    intro n a b hn ha hb hE
    obtain ⟨n, rfl⟩ : ∃ q, n = q + 1 := ⟨n - 1, by omega⟩
    have b0 : b = 0 := hE
    show g_X12_common _ _ _ = _
    unfold g_X12_common
    rw [if_pos ((lg_0 (by omega)).mpr b0), b0, Nat.gcd_zero_right]
  | succ m ih =>
    intro n a b hn ha hb hE
    obtain ⟨n, rfl⟩ : ∃ q, n = q + 1 := ⟨n - 1, by omega⟩
    show g_X12_common _ _ _ = _
    unfold g_X12_common
    by_cases b0 : b = 0
    · rw [if_pos ((lg_0 (by omega)).mpr b0), b0, Nat.gcd_zero_right]
    · have hr : a % b < b := Nat.mod_lt _ (by omega)
      rw [if_neg (fun q => b0 ((lg_0 (by omega)).mp q)), gzl (by omega) (by omega), pk_lRem (by omega) (by omega) (by omega)]
      rcases hE with h | h
      · exact absurd h b0
      · rw [bd1_t (ih n b (a % b) (by omega) (by omega) (by omega) h), gcd_st]
theorem m_common {a b : Nat} (ha : a < 2 ^ 62) (hb : b < 2 ^ 62) : f_X12_common 200 (lN a) (lN b) = some (lN (Nat.gcd a b)) := m_common' 124 200 a b (by omega) ha hb (eS_k 62 a b hb)
theorem jI_lN (n : Nat) : lN n = jI (n : Int) := (Int64.ofInt_eq_ofNat (n := n)).symm
theorem abs_jI {z : Int} (h : z.natAbs < 2 ^ 62) : (if 0 < jI z then jI z else -jI z) = lN z.natAbs := by
  rw [jI_lN, jI_0]
  by_cases h0 : 0 < z
  · rw [if_pos ((jI_lt (by omega) (by omega)).mpr h0)]
    exact congrArg jI (by omega)
  · rw [if_neg (fun q => h0 ((jI_lt (by omega) (by omega)).mp q)), jI_neg]
    exact congrArg jI (by omega)
/-- upper and lower of a fraction, made small -/
def fz (z : Int) (d : Nat) : Int64 := jI z / lN (Nat.gcd z.natAbs d)
def fd (z : Int) (d : Nat) : Int64 := lN d / lN (Nat.gcd z.natAbs d)
theorem gcd_pd {a b : Nat} (hb : 0 < b) : 0 < Nat.gcd a b ∧ Nat.gcd a b ≤ b := ⟨Nat.gcd_pos_of_pos_right _ hb, Nat.gcd_le_right _ hb⟩
theorem x_frac {z : Int} {d k : Nat} {nt : Nat → Int64} (hz : z.natAbs < 2 ^ 62) (hd : 0 < d) (hd2 : d < 2 ^ 62) (hk : k + 2 ≤ 12) : f_X6_putFraction (jI z) (lN d) (nI k) nt = some (nI (k + 2), vp_updL (vp_updL nt k (fz z d)) (k + 1) (fd z d)) := by
  have hg := gcd_pd (a := z.natAbs) hd
  have h1 : ¬ lg_cmp (lN (Nat.gcd z.natAbs d)) 0 ≤ 0 := fun q => by
    have := (lg_le (b := 0) (by omega) (by omega)).mp q
    omega
  refine rt_get ?_
  unfold f_X6_putFraction
  rw [abs_jI hz]
  refine re1 (x_common hz hd2) (rt_f h1 ?_)
  rw [gzl (by omega) (by omega)]
  refine re2 (x_putk (by omega) _ _) (rt_f h1 ?_)
  rw [gzl (by omega) (by omega)]
  exact re2 (x_putk (by omega) _ _) (rt_some rfl)
theorem m_part {z : Int} {d k : Nat} {mt : Nat → Int64} (hz : z.natAbs < 2 ^ 62) (hd : 0 < d) (hd2 : d < 2 ^ 62) (hk : k + 2 ≤ 12) : f_X12_tellPart (jI z) (lN d) (nI k) mt = some (nI (k + 2), vp_updL (vp_updL mt k (fz z d)) (k + 1) (fd z d)) := by
  have hg := gcd_pd (a := z.natAbs) hd
  refine rt_get ?_
  unfold f_X12_tellPart
  rw [abs_jI hz]
  refine re1 (m_common hz hd2) ?_
  rw [gzl (by omega) (by omega)]
  refine re2 (m_tellk (by omega) _ _) ?_
  rw [gzl (by omega) (by omega)]
  exact re2 (m_tellk (by omega) _ _) (rt_some rfl)
theorem x_fracN {u d k : Nat} {nt : Nat → Int64} (hz : u < 2 ^ 62) (hd : 0 < d) (hd2 : d < 2 ^ 62) (hk : k + 2 ≤ 12) : f_X6_putFraction (lN u) (lN d) (nI k) nt = some (nI (k + 2), vp_updL (vp_updL nt k (fz u d)) (k + 1) (fd u d)) := by
  rw [jI_lN u]; exact x_frac (by omega) hd hd2 hk
theorem m_partN {u d k : Nat} {mt : Nat → Int64} (hz : u < 2 ^ 62) (hd : 0 < d) (hd2 : d < 2 ^ 62) (hk : k + 2 ≤ 12) : f_X12_tellPart (lN u) (lN d) (nI k) mt = some (nI (k + 2), vp_updL (vp_updL mt k (fz u d)) (k + 1) (fd u d)) := by
  rw [jI_lN u]; exact m_part (by omega) hd hd2 hk
theorem rowE_f {n : Nat} {nt mt : Nat → Int64} {a b : Int64} (h : rowE n nt mt) (hn : n + 2 ≤ 12) : rowE (n + 2) (vp_updL (vp_updL nt n a) (n + 1) b) (vp_updL (vp_updL mt n a) (n + 1) b) := rowE_s b (rowE_s a h (by omega)) (by omega)
/-- in how many of 100 to the k just j fall -/
def wf (o : Nat → Nat) : Nat → Nat → Nat
  | 0, j => if j = 0 then 1 else 0
  | k + 1, j => wf o k j * (100 - o k) + (if j = 0 then 0 else wf o k (j - 1) * o k)
theorem wf_le {o : Nat → Nat} (ho : ∀ k, o k ≤ 100) : ∀ k j, wf o k j ≤ 100 ^ k
  | 0, j => by rw [wf]; split <;> omega
  | k + 1, j => by
    have h1 := wf_le ho k j
    have h2 := wf_le ho k (j - 1)
    have h3 : wf o k j * (100 - o k) ≤ 100 ^ k * (100 - o k) := Nat.mul_le_mul_right _ h1
    have h4 : wf o k (j - 1) * o k ≤ 100 ^ k * o k := Nat.mul_le_mul_right _ h2
    have h5 : 100 ^ (k + 1) = 100 ^ k * (100 - o k) + 100 ^ k * o k := by
      rw [← Nat.mul_add, Nat.pow_succ, Nat.sub_add_cancel (ho k)]
    rw [wf]
    split <;> omega
theorem wf_le6 {o : Nat → Nat} (ho : ∀ k, o k ≤ 100) {k : Nat} (hk : k ≤ 6) (j : Nat) : wf o k j ≤ 1000000000000 := by
  have h1 := wf_le ho k j
  have h2 : 100 ^ k ≤ 100 ^ 6 := Nat.pow_le_pow_right (by omega) hk
  omega
def ow (V : Nat → Nat → Nat → Nat → Nat → Nat → Nat → Nat → Nat) (kd ht ft st sc ca pl : Nat → Nat) (f w h : Nat) : Nat := min (od V kd ft st sc ca h f (pl (8 * 0 + f)) (ht f) + w) 100
section
variable {F H P : Nat} {kd ht ft st sc ca pl : Nat → Nat} {V : Nat → Nat → Nat → Nat → Nat → Nat → Nat → Nat → Nat} {ck ch cf cd cp rk mk mh mf ms mc ma mp ml : Nat → Int32} {rz mz : Int32} {r f w : Nat} {nt mt : Nat → Int64}
theorem ow_le : ∀ h, (ow V kd ht ft st sc ca pl f w) h ≤ 100 := fun h => Nat.min_le_right _ _
theorem x_justFall (hX : okX F H P kd ht ft st sc ca pl V ck ch cf cd cp rz rk) (hf : f < F) (hP0 : 0 < P) {q m : Nat} (hm : m ≤ H) (hq : q ≤ m) (hw : w ≤ 100) (sk th : Nat → Int32) (cn : Nat → Int64) : Rt (f_X11_justFall (nI f) (nI q) (nI m) (nI w) rz ck ch cf cd cp rk sk th cn) (fun a => a.1 = lN (wf (ow V kd ht ft st sc ca pl f w) m q)) := by
  have hF := hX.1.1
  have hH := hX.2.2.1.1.1
  have hV := hX.2.2.2.2.1
  have ho := ow_le (V := V) (kd := kd) (ht := ht) (ft := ft) (st := st) (sc := sc) (ca := ca) (pl := pl) (f := f) (w := w)
  unfold f_X11_justFall
  obtain ⟨g, eg, hg⟩ := fill_ch 0 cn
  refine re1 eg (rt_gd (by decide) ?_)
  refine rl4 6 (fun k v5 _ _ c => v5 = nI k ∧ k ≤ m ∧ ∀ j, j < 7 → c j = lN (wf (ow V kd ht ft st sc ca pl f w) k j)) (by omega) ⟨rfl, by omega, fun j hj => ?_⟩ ?_
  · rw [show (0 : Int32).toNatClampNeg = 0 from rfl]
    by_cases e : j = 0
    · subst e; rw [updL_s]; rfl
    · rw [updL_n e, hg j (by omega), wf, if_neg e]; rfl
  rintro rc k v5 s1 t1 c ⟨rfl, hk, hI⟩ ih
  unfold s_X11_justFall_18
  by_cases hkm : m ≤ k
  · obtain rfl : m = k := by omega
    refine rt_t (nI_le (Nat.le_refl _) (by omega)) ?_
    unfold k_X11_justFall_18
    refine rt_f (nI_pos (by omega)) (rt_f (nI_nlt (a := 6) (by omega) (by omega)) (rt_gx (by omega) (by omega) (rt_some ?_)))
    show c (nI q).toNatClampNeg = _
    rw [nI_clamp (by omega)]
    exact hI q (by omega)
  · have hl := (hX.2.2.2.1.2 0 hP0 f hf).1
    refine rt_f (nI_ge (by omega) (by omega)) (re1 (x_letter (p := 0) hX.2.2.2.1 hP0 hf hF) (rb3 (x_poleR hX (show k < H by omega) hf (show pl (8 * 0 + f) < 8 by omega) s1 t1) ?_))
    rintro a1 s2 t2 rfl
    have b1 : od V kd ft st sc ca k f (pl (8 * 0 + f)) (ht f) ≤ 100 := od_le hV
    have e1 : (if nI (od V kd ft st sc ca k f (pl (8 * 0 + f)) (ht f)) + nI w < 100 then nI (od V kd ft st sc ca k f (pl (8 * 0 + f)) (ht f)) + nI w else 100) = nI ((ow V kd ht ft st sc ca pl f w) k) := by
      rw [nI_add, c_100, nI_mn (by omega) (by omega), Nat.min_comm]; rfl
    refine rt_lt ?_
    rw [e1]
    have b2 := ho k
    refine rl2 6 (fun t v7 c => ∃ z, t + z = 6 ∧ v7 = nI z ∧ ∀ j, j < 7 → c j = lN (if z < j then wf (ow V kd ht ft st sc ca pl f w) (k + 1) j else wf (ow V kd ht ft st sc ca pl f w) k j)) (by omega) ⟨6, by omega, rfl, fun j hj => by rw [if_neg (by omega)]; exact hI j hj⟩ ?_
    rintro rc2 t v7 c2 ⟨z, hz, rfl, hI2⟩ ih2
    unfold s_X11_justFall_57
    by_cases z0 : z = 0
    · subst z0
      refine rt_t (by decide) ?_
      unfold k_X11_justFall_57
      have c1 := hI2 0 (by omega)
      rw [if_neg (by omega)] at c1
      simp (disch := omega) only [gx, c_0, nI_clamp, c1, c_100, pk_sub, nI_l, lN_mul, lt1_e, nI_1]
      refine ih (by omega) _ _ _ _ ⟨rfl, by omega, fun j hj => ?_⟩
      by_cases e : j = 0
      · subst e
        rw [updL_s, wf, if_pos rfl]; rfl
      · rw [updL_n e, hI2 j hj, if_pos (by omega)]
    · obtain ⟨z, rfl⟩ : ∃ y, z = y + 1 := ⟨z - 1, by omega⟩
      have c1 := hI2 (z + 1) (by omega)
      have c3 := hI2 z (by omega)
      rw [if_neg (by omega)] at c1 c3
      refine rt_f (nI_nle (by omega) (by omega)) ?_
      simp (disch := omega) only [gx, nI_pred, lt1_e, pk_m1, nI_clamp, c1, c3, c_100, pk_sub, nI_l, lN_mul, lN_add]
      refine ih2 (by omega) _ _ ⟨z, by omega, rfl, fun j hj => ?_⟩
      by_cases e : j = z + 1
      · subst e
        rw [updL_s, if_pos (by omega), wf, if_neg (by omega)]
        rfl
      · rw [updL_n e, hI2 j hj]
        by_cases e2 : z + 1 < j
        · rw [if_pos e2, if_pos (by omega)]
        · rw [if_neg e2, if_neg (by omega)]
theorem m_justFall (hM : okM F H P kd ht ft st sc ca pl V mk mh mf ms mc ma mp mz ml) (hf : f < F) (hP0 : 0 < P) {q m : Nat} (hm : m ≤ H) (hq : q ≤ m) (hw : w ≤ 100) (q1 q2 q3 q4 q5 q6 q7 q8 q9 q10 : Int32) (fl : Nat → Int64) : Rt (f_X12_justFall (nI f) (nI q) (nI m) (nI w) q1 q2 q3 q4 q5 mz q6 q7 q8 q9 q10 mk mh mf ms mc ma mp ml fl) (fun a => a.1 = lN (wf (ow V kd ht ft st sc ca pl f w) m q)) := by
  have hF := hM.1.1
  have hH := hM.2.2.1.1.1
  have hV := hM.2.2.2.2.1
  have ho := ow_le (V := V) (kd := kd) (ht := ht) (ft := ft) (st := st) (sc := sc) (ca := ca) (pl := pl) (f := f) (w := w)
  unfold f_X12_justFall
  refine rl2 7 (fun k v5 c => v5 = nI k ∧ k ≤ 7 ∧ ∀ j, j < k → c j = lN (wf (ow V kd ht ft st sc ca pl f w) 0 j)) (by omega) ⟨rfl, by omega, by omega⟩ ?_
  rintro rc k v5 c ⟨rfl, hk, hI⟩ ih
  unfold s_X12_justFall_3
  by_cases hk7 : 7 ≤ k
  · obtain rfl : k = 7 := by omega
    refine rt_t (by decide) ?_
    unfold k_X12_justFall_3
    clear ih rc
    refine rl12 6 (fun k v5 _ _ _ _ _ _ _ _ _ _ c => v5 = nI k ∧ k ≤ m ∧ ∀ j, j < 7 → c j = lN (wf (ow V kd ht ft st sc ca pl f w) k j)) (by omega) ⟨rfl, by omega, hI⟩ ?_
    rintro rc k v5 u1 u2 u3 u4 u5 u6 u7 u8 u9 u10 c ⟨rfl, hk, hI⟩ ih
    unfold s_X12_justFall_36
    by_cases hkm : m ≤ k
    · obtain rfl : m = k := by omega
      refine rt_t (nI_le (Nat.le_refl _) (by omega)) ?_
      unfold k_X12_justFall_36
      refine rt_gx (by omega) (by omega) (rt_some ?_)
      show c (nI q).toNatClampNeg = _
      rw [nI_clamp (by omega)]
      exact hI q (by omega)
    · have hl := (hM.2.2.2.1.2 0 hP0 f hf).1
      refine rt_f (nI_ge (by omega) (by omega)) (re1 (m_letter (p := 0) hM.2.2.2.1 hP0 hf hF) (rb11 (m_oddsR hM (show k < H by omega) hf (show pl (8 * 0 + f) < 8 by omega) _ _ _ _ _ _ _ _ _ _) ?_))
      rintro a1 w1 w2 w3 w4 w5 w6 w7 w8 w9 w10 rfl
      have b1 : od V kd ft st sc ca k f (pl (8 * 0 + f)) (ht f) ≤ 100 := od_le hV
      have e1 : (if nI (od V kd ft st sc ca k f (pl (8 * 0 + f)) (ht f)) + nI w < 100 then nI (od V kd ft st sc ca k f (pl (8 * 0 + f)) (ht f)) + nI w else 100) = nI ((ow V kd ht ft st sc ca pl f w) k) := by
        rw [nI_add, c_100, nI_mn (by omega) (by omega), Nat.min_comm]; rfl
      refine rt_lt ?_
      rw [e1]
      have b2 := ho k
      refine rl2 7 (fun t v7 c => ∃ z, t + z = 7 ∧ v7 = nI z - 1 ∧ ∀ j, j < 7 → c j = lN (if z ≤ j then wf (ow V kd ht ft st sc ca pl f w) (k + 1) j else wf (ow V kd ht ft st sc ca pl f w) k j)) (by omega) ⟨7, by omega, by decide, fun j hj => by rw [if_neg (by omega)]; exact hI j hj⟩ ?_
      rintro rc2 t v7 c2 ⟨z, hz, rfl, hI2⟩ ih2
      unfold s_X12_justFall_69
      by_cases z0 : z = 0
      · subst z0
        refine rt_t (by decide) ?_
        unfold k_X12_justFall_69
        refine rt_lt (ih (by omega) _ _ _ _ _ _ _ _ _ _ _ _ ⟨nI_1 _, by omega, fun j hj => ?_⟩)
        rw [hI2 j hj, if_pos (by omega)]
      · obtain ⟨z, rfl⟩ : ∃ y, z = y + 1 := ⟨z - 1, by omega⟩
        have c1 := hI2 z (by omega)
        rw [if_neg (by omega)] at c1
        rw [nI_pred]
        refine rt_f (nI_pos (by omega)) (rt_gx (by omega) (by omega) ?_)
        by_cases y0 : z = 0
        · subst y0
          refine rt_t rfl ?_
          simp (disch := omega) only [gx, nI_clamp, c1, c_100, pk_sub, nI_l, lN_mul, lt1_e, l_0, lN_add, Nat.add_zero]
          refine ih2 (by omega) _ _ ⟨0, by omega, by decide, fun j hj => ?_⟩
          by_cases e : j = 0
          · subst e
            rw [updL_s, if_pos (by omega), wf, if_pos rfl]; rfl
          · rw [updL_n e, hI2 j hj, if_pos (by omega), if_pos (by omega)]
        · have c3 := hI2 (z - 1) (by omega)
          rw [if_neg (by omega)] at c3
          refine rt_f (nI_ne0 (by omega) (by omega)) ?_
          rw [m1_s (by omega)]
          simp (disch := omega) only [gx, lt1_e, nI_bd, nI_clamp, c1, c3, c_100, pk_sub, nI_l, lN_mul, lN_add]
          refine ih2 (by omega) _ _ ⟨z, by omega, rfl, fun j hj => ?_⟩
          by_cases e : j = z
          · subst e
            rw [updL_s, if_pos (by omega), wf, if_neg y0]
          · rw [updL_n e, hI2 j hj]
            by_cases e2 : z + 1 ≤ j
            · rw [if_pos e2, if_pos (by omega)]
            · rw [if_neg e2, if_neg (by omega)]
  · refine rt_f (nI_nlt (a := 6) (by omega) (by omega)) ?_
    by_cases k0 : k = 0
    · subst k0
      refine rt_t rfl (rt_gx (by omega) (by omega) (rt_lt (ih (by omega) _ _ ⟨rfl, by omega, fun j hj => ?_⟩)))
      obtain rfl : j = 0 := by omega
      rw [nI_clamp (by omega), updL_s]; rfl
    · refine rt_f (nI_ne0 (by omega) (by omega)) (rt_gx (by omega) (by omega) (rt_lt (ih (by omega) _ _ ⟨nI_1 _, by omega, fun j hj => ?_⟩)))
      rw [nI_clamp (by omega)]
      by_cases e : j = k
      · subst e; rw [updL_s, wf, if_neg k0]; rfl
      · rw [updL_n e]; exact hI j (by omega)
theorem m_power {v m : Nat} (hm : m ≤ 6) : f_X12_power (lN v) (nI m) = some (lN (v ^ m)) := by
  refine rt_get ?_
  unfold f_X12_power
  refine rl2 6 (fun k v3 v5 => v3 = lN (v ^ k) ∧ v5 = nI k ∧ k ≤ m) (by omega) ⟨rfl, rfl, by omega⟩ ?_
  rintro rc k v3 v5 ⟨rfl, rfl, hk⟩ ih
  unfold s_X12_power_5
  by_cases hkm : m ≤ k
  · obtain rfl : k = m := by omega
    exact rt_t (nI_le (Nat.le_refl _) (by omega)) (rt_some rfl)
  · refine rt_f (nI_ge (by omega) (by omega)) (rt_lt (rt_lt (ih (by omega) _ _ ⟨?_, nI_1 _, by omega⟩)))
    rw [lN_mul, Nat.pow_succ]
theorem wind_f (hR : rowE r nt mt) {p1 p2 p3 p4 : Int32} {sk th : Nat → Int32} {cn : Nat → Int64} {q1 q2 q3 q4 q5 q6 q7 q8 q9 q10 tw : Int32} {fl : Nat → Int64} (h1 : Rt (f_X11_wind p1 p2 p3 p4 (nI r) (nI F) (nI H) (nI P) rz ck ch cf cd cp rk sk th nt cn) (fun a => a = (-1, nI r, sk, th, nt, cn))) (h2 : Rt (f_X12_wind p1 p2 p3 p4 (nI F) (nI H) (nI P) (nI r) tw q1 q2 q3 q4 q5 mz q6 q7 q8 q9 q10 mk mh mf ms mc ma mp ml mt fl) (fun b => b.1 = -1 ∧ b.2.1 = nI r ∧ b.2.2.1 = 0 ∧ b.2.2.2.2.2.2.2.2.2.2.2.2.2.1 = mt)) : Rt (f_X11_wind p1 p2 p3 p4 (nI r) (nI F) (nI H) (nI P) rz ck ch cf cd cp rk sk th nt cn) (fun a => Rt (f_X12_wind p1 p2 p3 p4 (nI F) (nI H) (nI P) (nI r) tw q1 q2 q3 q4 q5 mz q6 q7 q8 q9 q10 mk mh mf ms mc ma mp ml mt fl) (fun b => a.1 = b.1 ∧ b.2.2.1 = 0 ∧ ∃ r, a.2.1 = nI r ∧ b.2.1 = nI r ∧ rowE r a.2.2.2.2.1 b.2.2.2.2.2.2.2.2.2.2.2.2.2.1)) := by
  refine rt_and h1 h2 ?_
  rintro a b rfl ⟨b1, b2, b3, b4⟩
  exact ⟨b1.symm, b3, r, rfl, b2, by rw [b4]; exact hR⟩
theorem pr_wind (hX : okX F H P kd ht ft st sc ca pl V ck ch cf cd cp rz rk) (hM : okM F H P kd ht ft st sc ca pl V mk mh mf ms mc ma mp mz ml) (hR : rowE r nt mt) (p1 p2 p3 p4 : Int32) (sk th : Nat → Int32) (cn : Nat → Int64) (q1 q2 q3 q4 q5 q6 q7 q8 q9 q10 tw : Int32) (fl : Nat → Int64) : Rt (f_X11_wind p1 p2 p3 p4 (nI r) (nI F) (nI H) (nI P) rz ck ch cf cd cp rk sk th nt cn) (fun a => Rt (f_X12_wind p1 p2 p3 p4 (nI F) (nI H) (nI P) (nI r) tw q1 q2 q3 q4 q5 mz q6 q7 q8 q9 q10 mk mh mf ms mc ma mp ml mt fl) (fun b => a.1 = b.1 ∧ b.2.2.1 = 0 ∧ ∃ r, a.2.1 = nI r ∧ b.2.1 = nI r ∧ rowE r a.2.2.2.2.1 b.2.2.2.2.2.2.2.2.2.2.2.2.2.1)) := by
  have hF := hX.1.1
  have hH := hX.2.2.1.1.1
  have hP := hX.2.2.2.1.1
  rcases bel p1 F (by omega) with ⟨f, hf, rfl⟩ | ho
  · rcases bel p3 (H + 1) (by omega) with ⟨m, hm, rfl⟩ | ho
    · rcases bel p2 (m + 1) (by omega) with ⟨q, hq, rfl⟩ | ho
      · rcases bel p4 101 (by omega) with ⟨w, hw, rfl⟩ | ho
        · by_cases hP0 : P = 0
          · subst hP0
            refine wind_f hR ?_ ?_
            · unfold f_X11_wind
              exact re1 (x_hasT hf (by omega)) (rt_f i10n (rt_f (nI_pos (by omega)) (rt_f (nI_nlt (by omega) (by omega)) (rt_t (nI_le (by omega) (by omega)) (rt_f (nI_pos (by omega)) (rt_f (nI_nlt (a := 100) (by omega) (by omega)) (rt_t rfl (rt_some rfl))))))))
            · unfold f_X12_wind
              exact re1 (m_isT hf (by omega)) (rt_f i10n (re1 (m_inT (n := 6) (by omega) (by omega)) (rt_f i10n (re1 (m_inT (by omega) (by omega)) (rt_f i10n (re1 (m_inT (n := 100) (by omega) (by omega)) (rt_f i10n (rt_f (nI_nlt (by omega) (by omega)) (rt_t rfl (rt_some ⟨rfl, rfl, rfl, rfl⟩))))))))))
          · have hsc : 100 ^ m ≤ 100 ^ 6 := Nat.pow_le_pow_right (by omega) (by omega)
            have hs0 : 0 < 100 ^ m := Nat.pow_pos (by omega)
            have hw0 := wf_le6 (ow_le (V := V) (kd := kd) (ht := ht) (ft := ft) (st := st) (sc := sc) (ca := ca) (pl := pl) (f := f) (w := 0)) (show m ≤ 6 by omega) q
            have hw1 := wf_le6 (ow_le (V := V) (kd := kd) (ht := ht) (ft := ft) (st := st) (sc := sc) (ca := ca) (pl := pl) (f := f) (w := w)) (show m ≤ 6 by omega) q
            unfold f_X11_wind
            refine re1 (x_hasT hf (by omega)) (rt_f i10n (rt_f (nI_pos (by omega)) (rt_f (nI_nlt (by omega) (by omega)) (rt_t (nI_le (by omega) (by omega)) (rt_f (nI_pos (by omega)) (rt_f (nI_nlt (a := 100) (by omega) (by omega)) (rt_f (nI_ne0 (by omega) (by omega)) ?_)))))))
            refine rl2 6 (fun k v5 v7 => v5 = lN (100 ^ k) ∧ v7 = nI k ∧ k ≤ m) (by omega) ⟨rfl, rfl, by omega⟩ ?_
            rintro rc k v5 v7 ⟨rfl, rfl, hk⟩ ih
            unfold s_X11_wind_63
            by_cases hkm : m ≤ k
            · obtain rfl : m = k := by omega
              refine rt_t (nI_le (Nat.le_refl _) (by omega)) ?_
              unfold k_X11_wind_63
              refine rb4 (x_justFall (w := 0) hX hf (by omega) (show m ≤ H by omega) (show q ≤ m by omega) (by omega) sk th cn) ?_
              rintro a1 s2 t2 c2 rfl
              refine rb4 (x_justFall (w := w) hX hf (by omega) (show m ≤ H by omega) (show q ≤ m by omega) (by omega) s2 t2 c2) ?_
              rintro a1 s3 t3 c3 rfl
              refine re1 (x_start _) (re2 (x_fracN (k := 0) (by omega) (by omega) (by omega) (by omega)) (re2 (x_fracN (k := 2) (by omega) (by omega) (by omega) (by omega)) ?_))
              have hm2 : Rt (f_X12_wind (nI f) (nI q) (nI m) (nI w) (nI F) (nI H) (nI P) (nI r) tw q1 q2 q3 q4 q5 mz q6 q7 q8 q9 q10 mk mh mf ms mc ma mp ml mt fl) (fun b => b.1 = (if wf (ow V kd ht ft st sc ca pl f w) m q ≤ wf (ow V kd ht ft st sc ca pl f 0) m q then 0 else 1) ∧ b.2.1 = nI 4 ∧ b.2.2.1 = 0 ∧ b.2.2.2.2.2.2.2.2.2.2.2.2.2.1 = vp_updL (vp_updL (vp_updL (vp_updL mt 0 (fz (wf (ow V kd ht ft st sc ca pl f 0) m q) (100 ^ m))) 1 (fd (wf (ow V kd ht ft st sc ca pl f 0) m q) (100 ^ m))) 2 (fz (wf (ow V kd ht ft st sc ca pl f w) m q) (100 ^ m))) 3 (fd (wf (ow V kd ht ft st sc ca pl f w) m q) (100 ^ m))) := by
                unfold f_X12_wind
                refine re1 (m_isT hf (by omega)) (rt_f i10n (re1 (m_inT (n := 6) (by omega) (by omega)) (rt_f i10n (re1 (m_inT (by omega) (by omega)) (rt_f i10n (re1 (m_inT (n := 100) (by omega) (by omega)) (rt_f i10n (rt_f (nI_nlt (by omega) (by omega)) (rt_f (nI_ne0 (by omega) (by omega)) (rb12 (m_justFall (w := 0) hM hf (by omega) (show m ≤ H by omega) (show q ≤ m by omega) (by omega) _ _ _ _ _ _ _ _ _ _ fl) ?_))))))))))
                rintro a1 w1 w2 w3 w4 w5 w6 w7 w8 w9 w10 f2 rfl
                refine rb12 (m_justFall (w := w) hM hf (by omega) (show m ≤ H by omega) (show q ≤ m by omega) (by omega) _ _ _ _ _ _ _ _ _ _ f2) ?_
                rintro a1 u1 u2 u3 u4 u5 u6 u7 u8 u9 u10 f3 rfl
                refine re1 (m_power (v := 100) (by omega)) (re2 (m_partN (k := 0) (by omega) (by omega) (by omega) (by omega)) (re1 (m_power (v := 100) (by omega)) (re2 (m_partN (k := 2) (by omega) (by omega) (by omega) (by omega)) ?_)))
                refine rt_if (fun z => rt_some ⟨?_, rfl, rfl, rfl⟩) (fun z => rt_some ⟨?_, rfl, rfl, rfl⟩)
                · rw [if_pos ((lg_le (by omega) (by omega)).mp z)]
                · rw [if_neg (fun y => z ((lg_le (by omega) (by omega)).mpr y))]
              have hrow : rowE 4 (vp_updL (vp_updL (vp_updL (vp_updL nt 0 (fz (wf (ow V kd ht ft st sc ca pl f 0) m q) (100 ^ m))) 1 (fd (wf (ow V kd ht ft st sc ca pl f 0) m q) (100 ^ m))) 2 (fz (wf (ow V kd ht ft st sc ca pl f w) m q) (100 ^ m))) 3 (fd (wf (ow V kd ht ft st sc ca pl f w) m q) (100 ^ m))) (vp_updL (vp_updL (vp_updL (vp_updL mt 0 (fz (wf (ow V kd ht ft st sc ca pl f 0) m q) (100 ^ m))) 1 (fd (wf (ow V kd ht ft st sc ca pl f 0) m q) (100 ^ m))) 2 (fz (wf (ow V kd ht ft st sc ca pl f w) m q) (100 ^ m))) 3 (fd (wf (ow V kd ht ft st sc ca pl f w) m q) (100 ^ m))) := rowE_f (rowE_f rowE_0 (by omega)) (by omega)
              refine rt_if (fun z => rt_some (rt_mono hm2 ?_)) (fun z => rt_some (rt_mono hm2 ?_))
              · rintro b ⟨b1, b2, b3, b4⟩
                rw [if_pos ((lg_le (by omega) (by omega)).mp z)] at b1
                exact ⟨b1.symm, b3, 4, rfl, b2, by rw [b4]; exact hrow⟩
              · rintro b ⟨b1, b2, b3, b4⟩
                rw [if_neg (fun y => z ((lg_le (by omega) (by omega)).mpr y))] at b1
                exact ⟨b1.symm, b3, 4, rfl, b2, by rw [b4]; exact hrow⟩
            · refine rt_f (nI_ge (by omega) (by omega)) (rt_lt (rt_lt (ih (by omega) _ _ ⟨?_, nI_1 _, by omega⟩)))
              rw [l_100, lN_mul, Nat.pow_succ]
        · refine wind_f hR ?_ ?_
          · unfold f_X11_wind
            exact re1 (x_hasT hf (by omega)) (rt_f i10n (rt_f (nI_pos (by omega)) (rt_f (nI_nlt (by omega) (by omega)) (rt_t (nI_le (by omega) (by omega)) (rt_if (fun _ => rt_some rfl) (fun h0 => rt_t (out_lt2 (n := 100) ho h0 (by omega)) (rt_some rfl)))))))
          · unfold f_X12_wind
            exact re1 (m_isT hf (by omega)) (rt_f i10n (re1 (m_inT (n := 6) (by omega) (by omega)) (rt_f i10n (re1 (m_inT (by omega) (by omega)) (rt_f i10n (re1 (m_inF (n := 100) ho (by omega)) (rt_t rfl (rt_some ⟨rfl, rfl, rfl, rfl⟩))))))))
      · refine wind_f hR ?_ ?_
        · unfold f_X11_wind
          exact re1 (x_hasT hf (by omega)) (rt_f i10n (rt_if (fun _ => rt_some rfl) (fun h0 => rt_t (out_lt2 (n := m) ho h0 (by omega)) (rt_some rfl))))
        · unfold f_X12_wind
          exact re1 (m_isT hf (by omega)) (rt_f i10n (re1 (m_inT (n := 6) (by omega) (by omega)) (rt_f i10n (re1 (m_inF (n := m) ho (by omega)) (rt_t rfl (rt_some ⟨rfl, rfl, rfl, rfl⟩))))))
    · refine wind_f hR ?_ ?_
      · unfold f_X11_wind
        refine re1 (x_hasT hf (by omega)) (rt_f i10n (rt_if (fun _ => rt_some rfl) (fun h0 => rt_if (fun _ => rt_some rfl) (fun h1 => ?_))))
        by_cases h3 : p3 < 0
        · refine absurd ?_ h1
          rw [Int32.lt_iff_toInt_lt] at h3 ⊢
          rw [Int32.lt_iff_toInt_lt] at h0
          omega
        · exact rt_f (out_le (n := H) ho h3 (by omega)) (rt_some rfl)
      · unfold f_X12_wind
        refine re1 (m_isT hf (by omega)) (rt_f i10n ?_)
        rcases bel p3 7 (by omega) with ⟨m, hm, rfl⟩ | ho2
        · refine re1 (m_inT (n := 6) (by omega) (by omega)) (rt_f i10n (?_))
          have hmH : H < m := by
            rcases ho with ho | ho
            · exact absurd ho (nI_pos (by omega))
            · rw [nI_leI (by omega) (by omega)] at ho; omega
          rcases bel p2 (m + 1) (by omega) with ⟨q, hq, rfl⟩ | ho3
          · refine re1 (m_inT (by omega) (by omega)) (rt_f i10n ?_)
            rcases bel p4 101 (by omega) with ⟨w, hw, rfl⟩ | ho4
            · exact re1 (m_inT (n := 100) (by omega) (by omega)) (rt_f i10n (rt_t (nI_lt hmH (by omega)) (rt_some ⟨rfl, rfl, rfl, rfl⟩)))
            · exact re1 (m_inF (n := 100) ho4 (by omega)) (rt_t rfl (rt_some ⟨rfl, rfl, rfl, rfl⟩))
          · exact re1 (m_inF (n := m) ho3 (by omega)) (rt_t rfl (rt_some ⟨rfl, rfl, rfl, rfl⟩))
        · exact re1 (m_inF (n := 6) ho2 (by omega)) (rt_t rfl (rt_some ⟨rfl, rfl, rfl, rfl⟩))
  · refine wind_f hR ?_ ?_
    · unfold f_X11_wind
      exact re1 (x_hasF ho) (rt_t rfl (rt_some rfl))
    · unfold f_X12_wind
      exact re1 (m_isF ho (by omega)) (rt_t rfl (rt_some ⟨rfl, rfl, rfl, rfl⟩))
end
