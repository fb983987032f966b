/-! acts of a show -/
def okAct (k r h t f : Nat) (v1 v2 v3 v4 v5 : Int32) : Prop := v1 = nI k ∧ (k ≠ 120 → v2 = nI r ∧ v3 = nI h ∧ v4 = nI t ∧ v5 = nI f)
def acB (k r h t f : Nat) : Prop := k = 120 ∨ ((k = 114 ∨ k = 116) ∧ r ≤ 9 ∧ h ≤ 9 ∧ t ≤ 99 ∧ f ≤ 9999)
section
variable {y l a : Nat} {tc : Nat → Nat} {sg mx : Nat → Int32}
theorem x_pairT (h : okRd y 60 l tc sg mx) (d1 : isDg tc l a 0 10) (d2 : isDg tc l (a + 1) 0 10) (r0 h0 : Int32) : f_X0_readPair (nI l) (nI a) r0 h0 sg = some (1, nI (a + 2), nI (tc a - 48), nI (tc (a + 1) - 48)) := by
  have hl := rd_l h
  have b1 := d1.2
  have b2 := d2.2
  refine rt_get ?_
  unfold f_X0_readPair
  exact re2 (x_dT (lo := 0) h (by omega) d1) (rt_f (m1_ne (by omega)) (re2 (x_dT (lo := 0) h (by omega) d2) (rt_f (m1_ne (by omega)) (rt_some rfl))))
theorem x_pairF (h : okRd y 60 l tc sg mx) {q : Nat} (hq : (q = a ∧ a ≤ l ∧ ¬ isDg tc l a 0 10) ∨ (q = a + 1 ∧ isDg tc l a 0 10 ∧ ¬ isDg tc l (a + 1) 0 10)) (r0 h0 : Int32) : Rt (f_X0_readPair (nI l) (nI a) r0 h0 sg) (fun s => s.1 = 0 ∧ s.2.1 = nI q) := by
  have hl := rd_l h
  unfold f_X0_readPair
  rcases hq with ⟨rfl, h1, d⟩ | ⟨rfl, d1, d⟩
  · exact re2 (x_dF (lo := 0) h (by omega) (by omega) d) (rt_t rfl (rt_some ⟨rfl, rfl⟩))
  · have b1 := d1.2
    have l1 := d1.1
    exact re2 (x_dT (lo := 0) h (by omega) d1) (rt_f (m1_ne (by omega)) (re2 (x_dF (lo := 0) h (by omega) (by omega) d) (rt_t rfl (rt_some ⟨rfl, rfl⟩))))
theorem x_rideT (h : okRd y 60 l tc sg mx) (d1 : isDg tc l a 0 10) (c : sn tc l (a + 1) = 42) (d2 : isDg tc l (a + 2) 0 10) (r0 h0 : Int32) : f_X0_readRide (nI l) (nI a) r0 h0 sg = some (1, nI (a + 3), nI (tc a - 48), nI (tc (a + 2) - 48)) := by
  have hl := rd_l h
  have b1 := d1.2
  have b2 : 48 + 0 ≤ tc (a + 1 + 1) ∧ tc (a + 1 + 1) < 48 + 10 := d2.2
  refine rt_get ?_
  unfold f_X0_readRide
  exact re2 (x_dT (lo := 0) h (by omega) d1) (rt_f (m1_ne (by omega)) (re2 (x_takeT (c := 42) h (by omega) c) (rt_f i10n (re2 (x_dT (lo := 0) h (by omega) d2) (rt_f (m1_ne (by omega)) (rt_some rfl))))))
theorem x_rideF (h : okRd y 60 l tc sg mx) {q : Nat} (hq : (q = a ∧ a ≤ l ∧ ¬ isDg tc l a 0 10) ∨ (q = a + 1 ∧ isDg tc l a 0 10 ∧ ¬ sn tc l (a + 1) = 42) ∨ (q = a + 2 ∧ isDg tc l a 0 10 ∧ sn tc l (a + 1) = 42 ∧ ¬ isDg tc l (a + 2) 0 10)) (r0 h0 : Int32) : Rt (f_X0_readRide (nI l) (nI a) r0 h0 sg) (fun s => s.1 = 0 ∧ s.2.1 = nI q) := by
  have hl := rd_l h
  unfold f_X0_readRide
  rcases hq with ⟨rfl, h1, d⟩ | ⟨rfl, d1, d⟩ | ⟨rfl, d1, c, d⟩
  · exact re2 (x_dF (lo := 0) h (by omega) (by omega) d) (rt_t rfl (rt_some ⟨rfl, rfl⟩))
  · have b1 := d1.2
    have l1 := d1.1
    exact re2 (x_dT (lo := 0) h (by omega) d1) (rt_f (m1_ne (by omega)) (re2 (x_takeF (c := 42) h (by omega) (by omega) d) (rt_t rfl (rt_some ⟨rfl, rfl⟩))))
  · have b1 := d1.2
    have l1 := (sn_lt h (by omega) c).1
    exact re2 (x_dT (lo := 0) h (by omega) d1) (rt_f (m1_ne (by omega)) (re2 (x_takeT (c := 42) h (by omega) c) (rt_f i10n (re2 (x_dF (lo := 0) h (by omega) (by omega) d) (rt_t rfl (rt_some ⟨rfl, rfl⟩))))))
theorem x_numT (h : okRd y 60 l tc sg mx) (ha : a ≤ 80) {k : Nat} (hk1 : 1 ≤ k) (hk : k ≤ 4) (d : ¬ nd tc l k a = 0) : f_X9_number (nI k) (nI l) (nI a) sg = some (nI (nv tc a (nd tc l k a)), nI (a + nd tc l k a)) := by
  rw [x_num h ha hk1 hk, if_neg d]
theorem x_numF (h : okRd y 60 l tc sg mx) (ha : a ≤ 80) {k : Nat} (hk1 : 1 ≤ k) (hk : k ≤ 4) (d : nd tc l k a = 0) : f_X9_number (nI k) (nI l) (nI a) sg = some (-1, nI a) := by
  rw [x_num h ha hk1 hk, if_pos d]
theorem nv_lt4 {k : Nat} (hk : k ≤ 4) : nv tc a (nd tc l k a) < 10 ^ k := by
  have h1 := nv_b (tc := tc) (l := l) (a := a) (k := k) hk (nd tc l k a) (Nat.le_refl _)
  have h2 := nd_le (tc := tc) (l := l) k a
  exact Nat.lt_of_lt_of_le h1 (Nat.pow_le_pow_right (by omega) h2)
theorem nd_in {k : Nat} (d : ¬ nd tc l k a = 0) : a + nd tc l k a ≤ l := by
  have := (nd_dg (tc := tc) (l := l) k a (nd tc l k a - 1) (by omega)).1
  omega
theorem x_toldT (h : okRd y 60 l tc sg mx) (c : sn tc l a = 58) (n1 : ¬ nd tc l 2 (a + 1) = 0) (c2 : sn tc l (a + 1 + nd tc l 2 (a + 1)) = 43) (n2 : ¬ nd tc l 4 (a + 1 + nd tc l 2 (a + 1) + 1) = 0) (r0 h0 : Int32) : f_X0_readTold (nI l) (nI a) r0 h0 sg = some (1, nI (a + 1 + nd tc l 2 (a + 1) + 1 + nd tc l 4 (a + 1 + nd tc l 2 (a + 1) + 1)), nI (nv tc (a + 1) (nd tc l 2 (a + 1))), nI (nv tc (a + 1 + nd tc l 2 (a + 1) + 1) (nd tc l 4 (a + 1 + nd tc l 2 (a + 1) + 1)))) := by
  have hl := rd_l h
  have l1 := (sn_lt h (by omega) c).1
  have l2 := (sn_lt h (by omega) c2).1
  have v1 := nv_lt4 (tc := tc) (l := l) (a := a + 1) (k := 2) (by omega)
  have v2 := nv_lt4 (tc := tc) (l := l) (a := a + 1 + nd tc l 2 (a + 1) + 1) (k := 4) (by omega)
  refine rt_get ?_
  unfold f_X0_readTold
  exact re2 (x_takeT (c := 58) h (by omega) c) (rt_f i10n (re2 (x_numT (k := 2) h (by omega) (by omega) (by omega) n1) (rt_f (m1_ne (by omega)) (re2 (x_takeT (c := 43) h (by omega) c2) (rt_f i10n (re2 (x_numT (k := 4) h (by omega) (by omega) (by omega) n2) (rt_f (m1_ne (by omega)) (rt_some rfl))))))))
theorem x_toldF (h : okRd y 60 l tc sg mx) {q : Nat} (hq : (q = a ∧ a ≤ l ∧ ¬ sn tc l a = 58) ∨ (q = a + 1 ∧ sn tc l a = 58 ∧ nd tc l 2 (a + 1) = 0) ∨ (q = a + 1 + nd tc l 2 (a + 1) ∧ sn tc l a = 58 ∧ ¬ nd tc l 2 (a + 1) = 0 ∧ ¬ sn tc l (a + 1 + nd tc l 2 (a + 1)) = 43) ∨ (q = a + 1 + nd tc l 2 (a + 1) + 1 ∧ sn tc l a = 58 ∧ ¬ nd tc l 2 (a + 1) = 0 ∧ sn tc l (a + 1 + nd tc l 2 (a + 1)) = 43 ∧ nd tc l 4 (a + 1 + nd tc l 2 (a + 1) + 1) = 0)) (r0 h0 : Int32) : Rt (f_X0_readTold (nI l) (nI a) r0 h0 sg) (fun s => s.1 = 0 ∧ s.2.1 = nI q) := by
  have hl := rd_l h
  unfold f_X0_readTold
  have v1 := nv_lt4 (tc := tc) (l := l) (a := a + 1) (k := 2) (by omega)
  rcases hq with ⟨rfl, h1, c⟩ | ⟨rfl, c, n1⟩ | ⟨rfl, c, n1, c2⟩ | ⟨rfl, c, n1, c2, n2⟩
  · exact re2 (x_takeF (c := 58) h (by omega) (by omega) c) (rt_t rfl (rt_some ⟨rfl, rfl⟩))
  · have l1 := (sn_lt h (by omega) c).1
    exact re2 (x_takeT (c := 58) h (by omega) c) (rt_f i10n (re2 (x_numF (k := 2) h (by omega) (by omega) (by omega) n1) (rt_t rfl (rt_some ⟨rfl, rfl⟩))))
  · have l1 := (sn_lt h (by omega) c).1
    have l2 := nd_in n1
    exact re2 (x_takeT (c := 58) h (by omega) c) (rt_f i10n (re2 (x_numT (k := 2) h (by omega) (by omega) (by omega) n1) (rt_f (m1_ne (by omega)) (re2 (x_takeF (c := 43) h (by omega) (by omega) c2) (rt_t rfl (rt_some ⟨rfl, rfl⟩))))))
  · have l1 := (sn_lt h (by omega) c).1
    have l2 := (sn_lt h (by omega) c2).1
    exact re2 (x_takeT (c := 58) h (by omega) c) (rt_f i10n (re2 (x_numT (k := 2) h (by omega) (by omega) (by omega) n1) (rt_f (m1_ne (by omega)) (re2 (x_takeT (c := 43) h (by omega) c2) (rt_f i10n (re2 (x_numF (k := 4) h (by omega) (by omega) (by omega) n2) (rt_t rfl (rt_some ⟨rfl, rfl⟩))))))))
end
