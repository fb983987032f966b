/-! Int32 by its bits (rows of the kit's BITS.to-paste) -/
def bt (x : Int32) (i : Nat) : Bool := x.toBitVec.getLsbD i
theorem b_ext {x y : Int32} (h : ∀ i, i < 32 → bt x i = bt y i) : x = y := Int32.toBitVec_inj.mp (BitVec.eq_of_getLsbD_eq (fun i hi => h i hi))
theorem b_or (x y : Int32) (i : Nat) : bt (x ||| y) i = (bt x i || bt y i) := by unfold bt; rw [Int32.toBitVec_or, BitVec.getLsbD_or]
theorem b_and (x y : Int32) (i : Nat) : bt (x &&& y) i = (bt x i && bt y i) := by unfold bt; rw [Int32.toBitVec_and, BitVec.getLsbD_and]
theorem b_xor (x y : Int32) (i : Nat) : bt (x ^^^ y) i = (bt x i ^^ bt y i) := by unfold bt; rw [Int32.toBitVec_xor, BitVec.getLsbD_xor]
theorem b_big {x : Int32} {i : Nat} (h : 32 ≤ i) : bt x i = false := BitVec.getLsbD_of_ge _ _ h
theorem b_255 (i : Nat) : bt 255 i = decide (i < 8) := by
  rcases Nat.lt_or_ge i 32 with h | h
  · exact (by decide +kernel : ∀ i, i < 32 → bt 255 i = decide (i < 8)) i h
  · rw [b_big h, decide_eq_false (by omega)]
theorem b_65535 (i : Nat) : bt 65535 i = decide (i < 16) := by
  rcases Nat.lt_or_ge i 32 with h | h
  · exact (by decide +kernel : ∀ i, i < 32 → bt 65535 i = decide (i < 16)) i h
  · rw [b_big h, decide_eq_false (by omega)]
theorem b_m1 : ∀ i, i < 32 → bt (-1) i = true := by decide +kernel
theorem b_0 (i : Nat) : bt 0 i = false := BitVec.getLsbD_zero
theorem s_l : ∀ n, n < 32 → ((nI n &&& 31).toBitVec.smod 32).toNat = n := by decide +kernel
theorem s_u : ∀ n, n < 32 → (((nI n).toUInt32 &&& Int32.toUInt32 31).toBitVec % 32).toNat = n := by decide +kernel
theorem b_shl (n : Nat) (hn : n < 32) (x : Int32) {i : Nat} (hi : i < 32) : bt (x <<< (nI n &&& 31)) i = (decide (n ≤ i) && bt x (i - n)) := by
  unfold bt
  rw [Int32.toBitVec_shiftLeft]
  show (x.toBitVec <<< ((nI n &&& 31).toBitVec.smod 32).toNat).getLsbD i = _
  rw [s_l n hn, BitVec.getLsbD_shiftLeft]
  rcases Nat.lt_or_ge i n with h | h
  · simp [h, Nat.not_le.mpr h]
  · simp [hi, h, Nat.not_lt.mpr h]
theorem b_ushr (n : Nat) (hn : n < 32) (x : Int32) (i : Nat) : bt ((x.toUInt32 >>> ((nI n).toUInt32 &&& Int32.toUInt32 31)).toInt32) i = bt x (n + i) := by
  show (x.toUInt32 >>> ((nI n).toUInt32 &&& Int32.toUInt32 31)).toBitVec.getLsbD i = x.toUInt32.toBitVec.getLsbD (n + i)
  rw [UInt32.toBitVec_shiftRight]
  show (x.toUInt32.toBitVec >>> (((nI n).toUInt32 &&& Int32.toUInt32 31).toBitVec % 32).toNat).getLsbD i = _
  rw [s_u n hn, BitVec.getLsbD_ushiftRight]
theorem b_sshr (n : Nat) (hn : n < 32) (x : Int32) {i : Nat} (hi : i < 32) : bt (x >>> (nI n &&& 31)) i = if n + i < 32 then bt x (n + i) else bt x 31 := by
  unfold bt
  rw [Int32.toBitVec_shiftRight]
  show (x.toBitVec.sshiftRight ((nI n &&& 31).toBitVec.smod 32).toNat).getLsbD i = _
  rw [s_l n hn, BitVec.getLsbD_sshiftRight, BitVec.msb_eq_getLsbD_last]
  simp [hi]
theorem b_shl8 (x : Int32) {i : Nat} (hi : i < 32) : bt (x <<< ((8 : Int32) &&& 31)) i = (decide (8 ≤ i) && bt x (i - 8)) := b_shl 8 (by omega) x hi
theorem b_shl16 (x : Int32) {i : Nat} (hi : i < 32) : bt (x <<< ((16 : Int32) &&& 31)) i = (decide (16 ≤ i) && bt x (i - 16)) := b_shl 16 (by omega) x hi
theorem b_shl24 (x : Int32) {i : Nat} (hi : i < 32) : bt (x <<< ((24 : Int32) &&& 31)) i = (decide (24 ≤ i) && bt x (i - 24)) := b_shl 24 (by omega) x hi
theorem b_sshr8 (x : Int32) {i : Nat} (hi : i < 32) : bt (x >>> ((8 : Int32) &&& 31)) i = if 8 + i < 32 then bt x (8 + i) else bt x 31 := b_sshr 8 (by omega) x hi
theorem bp_b (x : Int32) : x.toInt8.toInt32 &&& 255 = x &&& 255 := by
  apply Int32.toBitVec_inj.mp
  rw [Int32.toBitVec_and, Int32.toBitVec_and, Int8.toBitVec_toInt32, Int32.toBitVec_toInt8]
  apply BitVec.eq_of_getLsbD_eq
  intro i hi
  rw [BitVec.getLsbD_and, BitVec.getLsbD_and]
  have hm : ∀ i < 32, 8 ≤ i → (255 : Int32).toBitVec.getLsbD i = false := by decide
  rcases Nat.lt_or_ge i 8 with z | z
  · rw [BitVec.getLsbD_signExtend, BitVec.getLsbD_signExtend, if_pos z, if_pos hi]
    simp only [z, hi, decide_true, Bool.true_and]
  · rw [hm i hi z]; simp
/-! counters -/
theorem iI_cn {n : Nat} (h : n < 2147483648) : (iI (n : Int)).toNatClampNeg = n := by
  rw [iI_cl (by omega)]
  exact Int.toNat_natCast n
theorem ix_n {k n : Nat} (h : k < n) (hn : n ≤ 2147483648) : ix (iI (k : Int)) n = true := ix_iI (by omega) (by omega)
theorem iI_ltn {a b : Nat} (ha : a < 2147483648) (hb : b < 2147483648) : iI (a : Int) < iI (b : Int) ↔ a < b := by
  rw [iI_lt (by omega) (by omega)]; omega
theorem iI_len {a b : Nat} (ha : a < 2147483648) (hb : b < 2147483648) : iI (a : Int) ≤ iI (b : Int) ↔ a ≤ b := by
  rw [iI_le (by omega) (by omega)]; omega
theorem iI_eqn {a b : Nat} (ha : a < 2147483648) (hb : b < 2147483648) : iI (a : Int) = iI (b : Int) ↔ a = b := by
  rw [iI_eq (by omega) (by omega)]; omega
theorem iI_s (n : Nat) : iI (n : Int) + 1 = iI ((n + 1 : Nat) : Int) := by
  rw [iI_1, iI_add]; rfl
/-! THE TEXT: sign, end -/
/-- class and reference hold the same text, of n signs -/
def ivT (n : Nat) (ts : Int32) (sg : Nat → Int32) (mt : Int32) (mx : Nat → Int32) : Prop := n ≤ 80 ∧ ts = iI (n : Int) ∧ mt = iI (n : Int) ∧ ∀ k, k < n → mx k = (mx k).toInt8.toInt32 ∧ sg k = mx k &&& 255
def cby (v : Int32) (s : Nat) : Int32 := (v.toUInt32 >>> ((nI s).toUInt32 &&& Int32.toUInt32 31)).toInt32 &&& 255
def mby (v : Int32) (s : Nat) : Int32 := (v >>> (nI s &&& 31)).toInt8.toInt32
theorem cby_nar (x : Int32) : vp_nar .char ((x &&& (255 : Int32)).toUInt32 % 65536).toInt32 = x &&& 255 := by
  rw [pk_vc, pk_char, pk_and x 8 (by decide)]
  have h : x.toBitVec.toNat % 2 ^ 8 < 256 := Nat.mod_lt _ (by decide)
  generalize x.toBitVec.toNat % 2 ^ 8 = q at h ⊢
  rw [pk_tn (by omega), Nat.mod_eq_of_lt (by omega)]
theorem mby_nar (v : Int32) (s : Nat) : vp_nar .byte (mby v s) = mby v s := pk_vb _
theorem toInt8_idem (x : Int32) : x.toInt8.toInt32.toInt8.toInt32 = x.toInt8.toInt32 := by rw [Int8.toInt8_toInt32]
theorem mby_cby (v : Int32) (s : Nat) (hs : s ≤ 24) : cby v s = mby v s &&& 255 := by
  unfold cby mby
  rw [bp_b]
  apply b_ext
  intro i hi
  rw [b_and, b_and, b_255, b_ushr s (by omega), b_sshr s (by omega) v hi]
  by_cases h8 : i < 8
  · rw [if_pos (by omega)]
  · simp [h8]
theorem add_step {kk : Int32 → (Nat → Int32) → Option (Int32 × Int32 × (Nat → Int32))} {rc : Int32 → Int32 → (Nat → Int32) → Option (Int32 × Int32 × (Nat → Int32))} (v : Int32) (s : Nat) (hs : s < 32) {n : Nat} (hn : n < 80) (sg : Nat → Int32) :
    s_X9_add_14 v kk rc (nI s) (iI (n : Int)) sg = rc (nI s + (-8)) (iI ((n + 1 : Nat) : Int)) (upd sg n (cby v s)) := by
  unfold s_X9_add_14
  rw [if_neg (nI_pos (by omega)), gd_t (ix_n hn (by omega))]
  show rc (nI s + (-8)) (iI (n : Int) + 1) (upd sg (iI (n : Int)).toNatClampNeg _) = _
  rw [iI_s, iI_cn (by omega), cby_nar]
  rfl
theorem x_add (v : Int32) {n : Nat} (hn : n ≤ 76) (sg : Nat → Int32) : f_X9_add v (iI (n : Int)) sg = some (iI ((n + 4 : Nat) : Int), iI ((n + 4 : Nat) : Int), upd (upd (upd (upd sg n (cby v 24)) (n + 1) (cby v 16)) (n + 2) (cby v 8)) (n + 3) (cby v 0)) := by
  unfold f_X9_add
  rw [if_pos (show iI (n : Int) ≤ (76 : Int32) from (iI_len (b := 76) (by omega) (by omega)).mpr hn)]
  show s_X9_add_14 v k_X9_add_14 (ml3 (s_X9_add_14 v k_X9_add_14) 99999) (nI 24) _ _ = _
  rw [add_step v 24 (by omega) (by omega), show nI 24 + (-8 : Int32) = nI 16 from by decide]
  show s_X9_add_14 v k_X9_add_14 (ml3 (s_X9_add_14 v k_X9_add_14) 99998) (nI 16) _ _ = _
  rw [add_step v 16 (by omega) (by omega), show nI 16 + (-8 : Int32) = nI 8 from by decide]
  show s_X9_add_14 v k_X9_add_14 (ml3 (s_X9_add_14 v k_X9_add_14) 99997) (nI 8) _ _ = _
  rw [add_step v 8 (by omega) (by omega), show nI 8 + (-8 : Int32) = nI 0 from by decide]
  show s_X9_add_14 v k_X9_add_14 (ml3 (s_X9_add_14 v k_X9_add_14) 99996) (nI 0) _ _ = _
  rw [add_step v 0 (by omega) (by omega)]
  show s_X9_add_14 v k_X9_add_14 (ml3 (s_X9_add_14 v k_X9_add_14) 99995) (nI 0 + (-8)) _ _ = _
  unfold s_X9_add_14
  rw [if_pos (by decide)]
  rfl
theorem sign_step {kk : Int32 → (Nat → Int32) → Option (Int32 × Int32 × Int32 × (Nat → Int32))} {rc : Int32 → Int32 → (Nat → Int32) → Option (Int32 × Int32 × Int32 × (Nat → Int32))} (v : Int32) (s : Nat) (hs : s < 4) {n : Nat} (hn : n < 80) (mx : Nat → Int32) :
    s_X12_sign_20 v kk rc (nI s) (iI (n : Int)) mx = rc (nI s + (-1)) (iI ((n + 1 : Nat) : Int)) (upd mx n (mby v (8 * s))) := by
  unfold s_X12_sign_20
  rw [if_neg (nI_pos (by omega)), gd_t (ix_n hn (by omega))]
  show rc (nI s + (-1)) (iI (n : Int) + 1) (upd mx (iI (n : Int)).toNatClampNeg (vp_nar .byte (v >>> ((nI 8 * nI s) &&& 31)).toInt8.toInt32)) = _
  rw [iI_s, iI_cn (by omega), pk_mul]
  exact congrArg _ (congrArg _ (mby_nar v (8 * s)))
theorem m_sign (v : Int32) {n : Nat} (hn : n ≤ 76) (th : Int32) (mx : Nat → Int32) : f_X12_sign v (iI (n : Int)) th mx = some (iI ((n + 4 : Nat) : Int), iI ((n + 4 : Nat) : Int), 0, upd (upd (upd (upd mx n (mby v 24)) (n + 1) (mby v 16)) (n + 2) (mby v 8)) (n + 3) (mby v 0)) := by
  unfold f_X12_sign
  rw [if_pos (show iI (n : Int) + (4 : Int32) ≤ (80 : Int32) from by
    rw [show (4 : Int32) = iI 4 from rfl, iI_add, show (80 : Int32) = iI 80 from rfl, iI_le (by omega) (by omega)]; omega)]
  show s_X12_sign_20 v k_X12_sign_20 (ml3 (s_X12_sign_20 v k_X12_sign_20) 99999) (nI 3) _ _ = _
  rw [sign_step v 3 (by omega) (by omega), show nI 3 + (-1 : Int32) = nI 2 from by decide]
  show s_X12_sign_20 v k_X12_sign_20 (ml3 (s_X12_sign_20 v k_X12_sign_20) 99998) (nI 2) _ _ = _
  rw [sign_step v 2 (by omega) (by omega), show nI 2 + (-1 : Int32) = nI 1 from by decide]
  show s_X12_sign_20 v k_X12_sign_20 (ml3 (s_X12_sign_20 v k_X12_sign_20) 99997) (nI 1) _ _ = _
  rw [sign_step v 1 (by omega) (by omega), show nI 1 + (-1 : Int32) = nI 0 from by decide]
  show s_X12_sign_20 v k_X12_sign_20 (ml3 (s_X12_sign_20 v k_X12_sign_20) 99996) (nI 0) _ _ = _
  rw [sign_step v 0 (by omega) (by omega)]
  show s_X12_sign_20 v k_X12_sign_20 (ml3 (s_X12_sign_20 v k_X12_sign_20) 99995) (nI 0 + (-1)) _ _ = _
  unfold s_X12_sign_20
  rw [if_pos (by decide)]
  rfl
/-- sign -/
theorem pr_sign {n : Nat} {ts mt : Int32} {sg mx : Nat → Int32} (h : ivT n ts sg mt mx) (v th : Int32) :
    ∃ (r ts' mt' : Int32) (sg' mx' : Nat → Int32) (n' : Nat), f_X11_sign v ts sg = some (r, ts', sg') ∧ f_X12_sign v mt th mx = some (r, mt', 0, mx') ∧ ivT n' ts' sg' mt' mx' := by
  obtain ⟨hn, rfl, rfl, hk⟩ := h
  by_cases h76 : n ≤ 76
  · have hx : f_X11_sign v (iI (n : Int)) sg = some (iI ((n + 4 : Nat) : Int), iI ((n + 4 : Nat) : Int), upd (upd (upd (upd sg n (cby v 24)) (n + 1) (cby v 16)) (n + 2) (cby v 8)) (n + 3) (cby v 0)) := by
      unfold f_X11_sign
      rw [bd3_t (x_add v h76 sg)]
    refine ⟨_, _, _, _, _, n + 4, hx, m_sign v h76 th mx, by omega, rfl, rfl, ?_⟩
    · intro k hk4
      have key : ∀ (s : Nat), s ≤ 24 → mby v s = (mby v s).toInt8.toInt32 ∧ cby v s = mby v s &&& 255 := fun s hs => ⟨(toInt8_idem _).symm, mby_cby v s hs⟩
      by_cases e3 : k = n + 3
      · subst e3; rw [upd_s, upd_s]; exact key 0 (by omega)
      · rw [upd_n e3, upd_n e3]
        by_cases e2 : k = n + 2
        · subst e2; rw [upd_s, upd_s]; exact key 8 (by omega)
        · rw [upd_n e2, upd_n e2]
          by_cases e1 : k = n + 1
          · subst e1; rw [upd_s, upd_s]; exact key 16 (by omega)
          · rw [upd_n e1, upd_n e1]
            by_cases e0 : k = n
            · subst e0; rw [upd_s, upd_s]; exact key 24 (by omega)
            · rw [upd_n e0, upd_n e0]
              exact hk k (by omega)
  · refine ⟨-1, iI (n : Int), iI (n : Int), sg, mx, n, ?_, ?_, hn, rfl, rfl, hk⟩
    · unfold f_X11_sign f_X9_add
      rw [if_neg (show ¬ iI (n : Int) ≤ (76 : Int32) from fun q => h76 ((iI_len (b := 76) (by omega) (by omega)).mp q))]
      rfl
    · unfold f_X12_sign
      rw [if_neg (show ¬ iI (n : Int) + (4 : Int32) ≤ (80 : Int32) from by
        rw [show (4 : Int32) = iI 4 from rfl, iI_add, show (80 : Int32) = iI 80 from rfl, iI_le (by omega) (by omega)]; omega)]
/-- end -/
theorem m_in {a b c : Int32} : f_X12_in a b c = some (if a < b then 0 else if c < a then 0 else 1) := by
  unfold f_X12_in
  split
  · rfl
  · split <;> rfl
theorem pr_end {n : Nat} {ts mt : Int32} {sg mx : Nat → Int32} (h : ivT n ts sg mt mx) (v th : Int32) :
    ∃ (r ts' mt' : Int32) (n' : Nat), f_X11_end v ts = some (r, ts') ∧ f_X12_end v mt th = some (r, mt', 0) ∧ ivT n' ts' sg mt' mx := by
  obtain ⟨hn, rfl, rfl, hk⟩ := h
  by_cases h0 : v < 0
  · refine ⟨0, iI (n : Int), iI (n : Int), n, ?_, ?_, hn, rfl, rfl, hk⟩
    · unfold f_X11_end f_X9_cut
      rw [if_pos h0]; rfl
    · unfold f_X12_end
      rw [bd1_t (m_in), if_pos h0]; rfl
  · obtain ⟨j, hj, rfl⟩ := nI_of h0
    rw [iI_nI] at h0 ⊢
    by_cases hjn : j ≤ n
    · refine ⟨1, iI (j : Int), iI (j : Int), j, ?_, ?_, by omega, rfl, rfl, fun k hk' => hk k (by omega)⟩
      · unfold f_X11_end f_X9_cut
        rw [if_neg h0, if_pos ((iI_len (by omega) (by omega)).mpr hjn)]; rfl
      · unfold f_X12_end
        rw [bd1_t (m_in), if_neg h0, if_neg (fun q => absurd ((iI_ltn (by omega) (by omega)).mp q) (by omega))]; rfl
    · refine ⟨0, iI (n : Int), iI (n : Int), n, ?_, ?_, hn, rfl, rfl, hk⟩
      · unfold f_X11_end f_X9_cut
        rw [if_neg h0, if_neg (fun q => hjn ((iI_len (by omega) (by omega)).mp q))]; rfl
      · unfold f_X12_end
        rw [bd1_t (m_in), if_neg h0, if_pos ((iI_ltn (by omega) (by omega)).mpr (by omega))]; rfl
