/-! THE COURSE: what is ahead of a horse at a fence, both sides -/
def ln (y s : Nat) : Nat := min (y % s) (s - y % s)
def tn (y k l : Nat) : Nat := max 1 (y * (6 - l % 4) / 4 - (if l < 4 then 0 else y / 4) + (if k = 2 then 2 else 0))
def rf (y s k c : Nat) : Nat := 8 * (ln y s - 2) + (if k = 3 ∧ c < 5 then 5 else 0)
/-- fences, either side -/
def okC (F : Nat) (kd ft : Nat → Nat) (ck cf : Nat → Int32) : Prop := F ≤ 8 ∧ ∀ f, f < F → (kd f ≤ 3 ∧ 10 ≤ ft f ∧ ft f ≤ 99) ∧ ck f = nI (kd f) ∧ cf f = nI (ft f)
def okT (F : Nat) (ht : Nat → Nat) (ch : Nat → Int32) : Prop := ∀ f, f < F → ht f ≤ 9 ∧ ch f = nI (ht f)
/-- horses, what they are -/
def okG (H : Nat) (st sc ca : Nat → Nat) : Prop := H ≤ 6 ∧ ∀ h, h < H → (3 ≤ st h ∧ st h ≤ 9) ∧ sc h ≤ 9 ∧ ∀ k, k < 4 → ca (4 * h + k) ≤ 9
/-- horses of the class -/
def okD (H : Nat) (st sc ca : Nat → Nat) (cd : Nat → Int32) : Prop := okG H st sc ca ∧ ∀ h, h < H → cd (6 * h) = nI (st h) ∧ cd (6 * h + 1) = nI (sc h) ∧ ∀ k, k < 4 → cd (6 * h + (2 + k)) = nI (ca (4 * h + k))
/-- horses of the reference -/
def okS (H : Nat) (st sc ca : Nat → Nat) (ms mc ma : Nat → Int32) : Prop := okG H st sc ca ∧ ∀ h, h < H → ms h = nI (st h) ∧ mc h = nI (sc h) ∧ ∀ k, k < 4 → ma (4 * h + k) = nI (ca (4 * h + k))
/-- plans, either side -/
def okP (P F : Nat) (pl : Nat → Nat) (cp : Nat → Int32) : Prop := P ≤ 6 ∧ ∀ p, p < P → ∀ f, f < F → pl (8 * p + f) ≤ 7 ∧ cp (8 * p + f) = nI (pl (8 * p + f))
theorem ln_le {y s : Nat} (hs : 0 < s) : ln y s ≤ s := by
  unfold ln; have := Nat.mod_lt y hs; omega
section
variable {F H P h f l p : Nat} {kd ht ft st sc ca pl : Nat → Nat} {ck cf ch cd cp ms mc ma : Nat → Int32}
theorem x_ofHorse {w : Nat} (hh : h < 6) (hw : w < 6) : f_X1_ofHorse (nI h) (nI w) cd = some (cd (6 * h + w)) := by
  unfold f_X1_ofHorse
  rw [c_6, pk_mul, nI_add, gx (by omega) (by omega), nI_clamp (by omega), Nat.mul_comm]
theorem x_leanV {y s : Nat} (hs : 0 < s) (hs9 : s ≤ 9) (hy : y < 1000) : f_X1_lean (nI y) (nI s) = some (nI (ln y s)) := by
  have hm := Nat.mod_lt y hs
  unfold f_X1_lean
  simp (disch := omega) only [← nI_0, nI_ltI, hs, if_true, gz, pk_rem, lt1_e, pk_sub]
  unfold ln
  split <;> exact congrArg (fun z => some (nI z)) (by omega)
theorem x_leanAt (hC : okC F kd ft ck cf) (hD : okD H st sc ca cd) (hh : h < H) (hf : f < F) : f_X1_leanAt (nI h) (nI f) cf cd = some (nI (ln (ft f) (st h))) := by
  obtain ⟨⟨h1, h2⟩, h3⟩ := hD
  obtain ⟨g1, g2⟩ := hC
  have a1 := h2 h hh
  have a2 := g2 f hf
  unfold f_X1_leanAt
  rw [gx (by omega) (by omega), c_0, bd1_t (x_ofHorse (by omega) (by omega)), nI_clamp (by omega), a2.2.2, Nat.add_zero, (h3 h hh).1, bd1_t (x_leanV (by omega) (by omega) (by omega))]
theorem x_tenths (hC : okC F kd ft ck cf) (hf : f < F) (hl : l < 8) : f_X1_fenceTenths (nI f) (nI l) ck cf = some (nI (tn (ft f) (kd f) l)) := by
  obtain ⟨g1, g2⟩ := hC
  have a2 := g2 f hf
  have hb : ft f * (6 - l % 4) / 4 < 1000 := by
    have : ft f * (6 - l % 4) ≤ 99 * 6 := Nat.mul_le_mul (by omega) (by omega)
    omega
  have hq : ft f / 4 ≤ ft f * (6 - l % 4) / 4 := Nat.div_le_div_right (Nat.le_mul_of_pos_right _ (by omega))
  have hm : ft f * (6 - l % 4) < 2 ^ 31 := by
    have : ft f * (6 - l % 4) ≤ 99 * 6 := Nat.mul_le_mul (by omega) (by omega)
    omega
  unfold f_X1_fenceTenths f_X1_isCut tn
  simp (disch := omega) only [gx, nI_clamp, a2.2.1, a2.2.2, c_4, c_6, c_2, c_1, md, pk_sub, pk_mul, pk_div, lt1_e, nI_ltI, nI_eq, nI_add, bd1_e]
  generalize ft f * (6 - l % 4) / 4 = q at *
  by_cases h4 : l < 4
  · simp (disch := omega) only [h4, if_true, bd1_e, nI_add, c_0]
    repeat' split
    all_goals exact congrArg (fun z => some (nI z)) (by omega)
  · simp (disch := omega) only [h4, if_false, bd1_e, nI_add, c_0, nI_eq, pk_sub]
    repeat' split
    all_goals exact congrArg (fun z => some (nI z)) (by omega)
theorem m_leanOf (hS : okS H st sc ca ms mc ma) (hh : h < H) {y : Nat} (hy : y < 1000) : f_X12_leanOf (nI h) (nI y) ms = some (nI (ln y (st h))) := by
  obtain ⟨⟨h1, h2⟩, h3⟩ := hS
  have a1 := h2 h hh
  have hm := Nat.mod_lt y (show 0 < st h by omega)
  unfold f_X12_leanOf
  simp (disch := omega) only [gx, nI_clamp, (h3 h hh).1, gz, pk_rem, lt1_e, pk_sub, nI_ltI]
  unfold ln
  split <;> exact congrArg (fun z => some (nI z)) (by omega)
theorem m_tenths (hC : okC F kd ft ck cf) (hf : f < F) (hl : l < 8) : f_X12_tenthsOf (nI f) (nI l) ck cf = some (nI (tn (ft f) (kd f) l)) := by
  obtain ⟨g1, g2⟩ := hC
  have a2 := g2 f hf
  have hb : ft f * (6 - l % 4) / 4 < 1000 := by
    have : ft f * (6 - l % 4) ≤ 99 * 6 := Nat.mul_le_mul (by omega) (by omega)
    omega
  have hq : ft f / 4 ≤ ft f * (6 - l % 4) / 4 := Nat.div_le_div_right (Nat.le_mul_of_pos_right _ (by omega))
  have hm : ft f * (6 - l % 4) < 2 ^ 31 := by
    have : ft f * (6 - l % 4) ≤ 99 * 6 := Nat.mul_le_mul (by omega) (by omega)
    omega
  unfold f_X12_tenthsOf j_X12_tenthsOf_32 tn
  simp (disch := omega) only [gx, nI_clamp, a2.2.1, a2.2.2, c_4, c_6, c_2, c_1, c_0, md, pk_sub, pk_mul, pk_div, lt1_e, nI_ltI, nI_eq, nI_add, bd1_e]
  generalize ft f * (6 - l % 4) / 4 = q at *
  repeat' split
  all_goals exact congrArg (fun z => some (nI z)) (by omega)
theorem x_refusal (hC : okC F kd ft ck cf) (hD : okD H st sc ca cd) (hh : h < H) (hf : f < F) : f_X1_refusalOdds (nI h) (nI f) ck cf cd = some (nI (rf (ft f) (st h) (kd f) (ca (4 * h + 3)))) := by
  have e := x_leanAt hC hD hh hf
  obtain ⟨⟨h1, h2⟩, h3⟩ := hD
  obtain ⟨g1, g2⟩ := hC
  have a1 := h2 h hh
  have a2 := g2 f hf
  have a3 := (h3 h hh).2.2 3 (by omega)
  have hl := ln_le (y := ft f) (s := st h) (by omega)
  unfold f_X1_refusalOdds rf
  rw [bd1_t e, c_5, x_ofHorse (by omega) (by omega), a3]
  have a4 := a1.2.2 3 (by omega)
  generalize ln (ft f) (st h) = q at *
  have hmx : (if (0 : Int32) < 8 * (nI q - 2) then 8 * (nI q - 2) else 0) = nI (8 * (q - 2)) := by
    by_cases hq : 2 ≤ q
    · rw [c_2, c_8, c_0, pk_sub hq, pk_mul, nI_mx (by omega) (by omega)]
      exact congrArg nI (by omega)
    · have : q = 0 ∨ q = 1 := by omega
      rcases this with rfl | rfl <;> decide
  simp (disch := omega) only [hmx, lt1_e, gx, nI_clamp, a2.2.1, c_3, nI_eq, bd1_e, nI_leI, nI_add]
  by_cases hk : kd f = 3
  · by_cases hc : 5 ≤ ca (4 * h + 3)
    · rw [if_pos hk, if_pos hc, if_neg (by omega)]; rfl
    · rw [if_pos hk, if_neg hc, if_pos (by omega)]
  · rw [if_neg hk, if_neg (by omega)]; rfl
theorem m_refusal (hC : okC F kd ft ck cf) (hS : okS H st sc ca ms mc ma) (hh : h < H) (hf : f < F) : f_X12_refusalOf (nI h) (nI f) ck cf ms ma = some (nI (rf (ft f) (st h) (kd f) (ca (4 * h + 3)))) := by
  have a2 := hC.2 f hf
  have e := m_leanOf hS hh (y := ft f) (by omega)
  obtain ⟨⟨h1, h2⟩, h3⟩ := hS
  obtain ⟨g1, g2⟩ := hC
  have a1 := h2 h hh
  have a3 := (h3 h hh).2.2 3 (by omega)
  have hl := ln_le (y := ft f) (s := st h) (by omega)
  have a4 := a1.2.2 3 (by omega)
  unfold f_X12_refusalOf rf
  rw [gx (by omega) (by omega), nI_clamp (by omega), a2.2.2, bd1_t e]
  generalize ln (ft f) (st h) = q at *
  have hmx : (if (0 : Int32) < nI q - 2 then nI q - 2 else 0) = nI (q - 2) := by
    by_cases hq : 2 ≤ q
    · rw [c_2, c_0, pk_sub hq, nI_mx (by omega) (by omega)]
      exact congrArg nI (by omega)
    · have : q = 0 ∨ q = 1 := by omega
      rcases this with rfl | rfl <;> decide
  simp only [hmx]
  simp (disch := omega) only [gx, a2.2.1, c_3, c_4, c_5, c_8, c_0, nI_eq, pk_mul, nI_add, nI_clamp, a3, nI_leI]
  by_cases hk : kd f = 3
  · by_cases hc : 5 ≤ ca (4 * h + 3)
    · rw [if_pos hk, if_pos hc, if_neg (by omega)]
    · rw [if_pos hk, if_neg hc, if_pos (by omega)]
  · rw [if_neg hk, if_neg (by omega)]
theorem x_letter (hP : okP P F pl cp) (hp : p < P) (hf : f < F) (h8 : F ≤ 8) : f_X1_letterAt (nI p) (nI f) cp = some (nI (pl (8 * p + f))) := by
  obtain ⟨h1, h2⟩ := hP
  unfold f_X1_letterAt
  simp (disch := omega) only [c_8, pk_mul, nI_add, gx, nI_clamp, Nat.mul_comm p 8, (h2 p hp f hf).2]
theorem m_letter (hP : okP P F pl cp) (hp : p < P) (hf : f < F) (h8 : F ≤ 8) : f_X12_letterOf (nI p) (nI f) cp = some (nI (pl (8 * p + f))) := by
  obtain ⟨h1, h2⟩ := hP
  unfold f_X12_letterOf
  simp (disch := omega) only [c_8, pk_mul, nI_add, gx, nI_clamp, (h2 p hp f hf).2]
end
