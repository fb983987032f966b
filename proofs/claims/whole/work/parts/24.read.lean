/-! READING A TEXT: the sign at a place, both sides -/
/-- the sign at a, or -1 where there is none to be read -/
def hr (sg : Nat → Int32) (l a : Nat) : Int32 := if a < l then sg a else -1
theorem hr_in {sg : Nat → Int32} {l a : Nat} (h : a < l) : hr sg l a = sg a := if_pos h
theorem hr_out {sg : Nat → Int32} {l a : Nat} (h : ¬ a < l) : hr sg l a = -1 := if_neg h
/-- signs are 0 .. 255 -/
def isS (n : Nat) (sg : Nat → Int32) : Prop := ∀ k, k < n → 0 ≤ (sg k).toInt ∧ (sg k).toInt ≤ 255
theorem ivT_S {n : Nat} {ts mt : Int32} {sg mx : Nat → Int32} (h : ivT n ts sg mt mx) : isS n sg := by
  intro k hk
  rw [(h.2.2.2 k hk).2, pk_and (mx k) 8 (by decide)]
  have hq : (mx k).toBitVec.toNat % 2 ^ 8 < 256 := Nat.mod_lt _ (by decide)
  rw [nI_toInt (by omega)]
  omega
theorem x_take {sg : Nat → Int32} {l a : Nat} (hl : l ≤ 80) (ha : a ≤ 80) {c : Int32} (hc : c ≠ -1) : f_X9_take c (iI (l : Int)) (iI (a : Int)) sg = some (if hr sg l a = c then (1, iI ((a + 1 : Nat) : Int)) else (0, iI (a : Int))) := by
  unfold f_X9_take
  by_cases h : a < l
  · rw [if_neg (fun q => absurd ((iI_len (by omega) (by omega)).mp q) (by omega)), gd_t (ix_n (by omega) (by omega)), iI_cn (by omega), iI_s, hr_in h]
    split <;> rfl
  · rw [if_pos ((iI_len (by omega) (by omega)).mpr (by omega)), hr_out h, if_neg (fun q => hc q.symm)]
theorem m_here {n T a : Nat} {sg mx : Nat → Int32} (hn : n ≤ 80) (hT : T ≤ 80) (ha : a < 2147483648) (hs : ∀ k, k < n → sg k = mx k &&& 255) : f_X12_here_t (iI (n : Int)) (iI (T : Int)) (iI (a : Int)) mx = some (hr sg (min n T) a) := by
  unfold f_X12_here_t
  by_cases h1 : n ≤ a
  · rw [if_pos ((iI_len (by omega) ha).mpr h1), hr_out (by omega)]
  · rw [if_neg (fun q => h1 ((iI_len (by omega) ha).mp q))]
    by_cases h2 : T ≤ a
    · rw [if_pos ((iI_len (by omega) ha).mpr h2), hr_out (by omega)]
    · rw [if_neg (fun q => h2 ((iI_len (by omega) ha).mp q)), gd_t (ix_n (by omega) (by omega)), iI_cn ha, hr_in (by omega), hs a (by omega)]
theorem m_fine_t : f_X12_fine (-1) = some 1 := rfl
theorem m_fine_f {w : Int32} (h : w ≠ -1) : f_X12_fine w = some 0 := by
  unfold f_X12_fine; rw [if_neg h]
theorem m_fault_t (p : Int32) : f_X12_fault p (-1) = some p := rfl
theorem m_fault_f (p : Int32) {w : Int32} (h : w ≠ -1) : f_X12_fault p w = some w := by
  unfold f_X12_fault; rw [bd1_t (m_fine_f h), if_pos rfl]
theorem m_passes {n T a : Nat} {sg mx : Nat → Int32} (hn : n ≤ 80) (hT : T ≤ 80) (ha : a < 2147483648) (hs : ∀ k, k < n → sg k = mx k &&& 255) (c : Int32) : f_X12_passes_t c (iI (n : Int)) (iI (T : Int)) (iI (a : Int)) (-1) mx = some (if hr sg (min n T) a = c then (1, iI ((a + 1 : Nat) : Int)) else (0, iI (a : Int))) := by
  unfold f_X12_passes_t
  rw [bd1_t m_fine_t, if_neg (by decide), bd1_t (m_here hn hT ha hs), iI_s]
  split <;> rfl
theorem m_passes_f {w : Int32} (h : w ≠ -1) (c L T a : Int32) (mx : Nat → Int32) : f_X12_passes_t c L T a w mx = some (0, a) := by
  unfold f_X12_passes_t; rw [bd1_t (m_fine_f h), if_pos rfl]
/-! digits -/
theorem fa_byte_low (x : Int32) : (x &&& 255).toInt8 = x.toInt8 := by
  apply Int8.toBitVec_inj.1
  apply BitVec.eq_of_getLsbD_eq
  intro i hi
  have h2 : (255 : Int32).toBitVec.getLsbD i = true := by
    have : ∀ j : Fin 8, (255 : Int32).toBitVec.getLsbD j.val = true := by decide +kernel
    exact this ⟨i, hi⟩
  have h4 : (x &&& 255).toBitVec.getLsbD i = x.toBitVec.getLsbD i := by
    show (x.toBitVec &&& (255 : Int32).toBitVec).getLsbD i = _
    rw [BitVec.getLsbD_and, h2, Bool.and_true]
  have h3 : i < 32 := by omega
  first
    | (show (((x &&& 255).toBitVec).signExtend 8).getLsbD i = (x.toBitVec.signExtend 8).getLsbD i; rw [BitVec.getLsbD_signExtend, BitVec.getLsbD_signExtend, if_pos h3, if_pos h3, h4])
    | (show (((x &&& 255).toBitVec).setWidth 8).getLsbD i = (x.toBitVec.setWidth 8).getLsbD i; rw [BitVec.getLsbD_setWidth, BitVec.getLsbD_setWidth, h4])
    | (simp [hi, h3, h4]; done)
theorem byte_pos {x : Int32} (h : x = x.toInt8.toInt32) {q : Nat} (hq : q < 128) (he : x &&& 255 = nI q) : x = nI q := by
  rw [h, ← fa_byte_low, he]
  exact (by decide +kernel : ∀ q, q < 128 → (nI q).toInt8.toInt32 = nI q) q hq
/-- a digit from lo to hi -/
def isD (lo hi : Nat) (h : Int32) : Prop := 48 + (lo : Int) ≤ h.toInt ∧ h.toInt ≤ 48 + (hi : Int)
theorem isD_out {lo hi : Nat} : ¬ isD lo hi (-1) := fun h => by
  have : (-1 : Int32).toInt = -1 := by decide
  rw [isD, this] at h
  omega
theorem x_digit {sg : Nat → Int32} {l n a : Nat} (hl : l ≤ n) (hn : n ≤ 80) (ha : a ≤ 80) (hS : isS n sg) {lo hi : Nat} (hlo : lo < 1000) (h9 : hi ≤ 9) :
    (isD lo hi (hr sg l a) ∧ f_X9_digit (iI (lo : Int)) (iI (hi : Int)) (iI (l : Int)) (iI (a : Int)) sg = some (hr sg l a - 48, iI ((a + 1 : Nat) : Int))) ∨ (¬ isD lo hi (hr sg l a) ∧ f_X9_digit (iI (lo : Int)) (iI (hi : Int)) (iI (l : Int)) (iI (a : Int)) sg = some (-1, iI (a : Int))) := by
  unfold f_X9_digit
  by_cases h : a < l
  · have hs := hS a (by omega)
    rw [if_neg (fun q => absurd ((iI_len (by omega) (by omega)).mp q) (by omega)), gd_t (ix_n (by omega) (by omega)), iI_cn (by omega), iI_s, hr_in h]
    have e48 : (48 : Int32) = iI 48 := rfl
    have e1 : iI ((a + 1 : Nat) : Int) - 1 = iI (a : Int) := by
      rw [iI_1, iI_sub]; congr 1; omega
    rw [e1, iI_cn (by omega)]
    by_cases h1 : sg a - 48 < iI (lo : Int)
    · right
      rw [if_pos h1]
      refine ⟨fun q => ?_, rfl⟩
      rw [← iI_of (sg a), e48, iI_sub, iI_lt (by omega) (by omega)] at h1
      have := q.1
      omega
    · rw [if_neg h1, gd_t (ix_n (by omega) (by omega))]
      by_cases h2 : sg a - 48 ≤ iI (hi : Int)
      · rw [if_pos h2, gd_t (ix_n (by omega) (by omega))]
        left
        refine ⟨?_, rfl⟩
        rw [← iI_of (sg a), e48, iI_sub, iI_lt (by omega) (by omega)] at h1
        rw [← iI_of (sg a), e48, iI_sub, iI_le (by omega) (by omega)] at h2
        exact ⟨by omega, by omega⟩
      · right
        rw [if_neg h2]
        refine ⟨fun q => ?_, rfl⟩
        rw [← iI_of (sg a), e48, iI_sub, iI_le (by omega) (by omega)] at h2
        have := q.2
        omega
  · right
    rw [if_pos ((iI_len (by omega) (by omega)).mpr (by omega)), hr_out h]
    exact ⟨isD_out, rfl⟩
