/-! the reference reads its rule as it reads text -/
theorem ix_48 {A : Int32} (h : ¬ (40 : Int32) ≤ A) : ix A 40 = ix A 80 := by
  unfold ix
  have h2 := Int32.not_le.mp h
  have h3 : A.toInt < 40 := Int32.lt_iff_toInt_lt.mp h2
  by_cases c : 0 ≤ A.toInt
  · have e1 : A.toInt < ((40 : Nat) : Int) := by omega
    have e2 : A.toInt < ((80 : Nat) : Int) := by omega
    simp only [c, e1, e2]
  · simp [c]
theorem here_rt (L A : Int32) (R : Nat → Int32) : f_X12_here_r L 40 A R = f_X12_here_t L 40 A R := by
  unfold f_X12_here_r f_X12_here_t
  by_cases c1 : L ≤ A
  · rw [if_pos c1, if_pos c1]
  · rw [if_neg c1, if_neg c1]
    by_cases c2 : (40 : Int32) ≤ A
    · rw [if_pos c2, if_pos c2]
    · rw [if_neg c2, if_neg c2, ix_48 c2]
theorem passes_rt (c L A w : Int32) (R : Nat → Int32) : f_X12_passes_r c L 40 A w R = f_X12_passes_t c L 40 A w R := by
  unfold f_X12_passes_r f_X12_passes_t
  simp only [here_rt]
theorem need_rt (c L A w : Int32) (R : Nat → Int32) : f_X12_need_r c L 40 A w R = f_X12_need_t c L 40 A w R := by
  unfold f_X12_need_r f_X12_need_t
  simp only [passes_rt]
theorem digit_rt (L A w : Int32) (R : Nat → Int32) : f_X12_digit_r 0 9 L 40 A w R = f_X12_digit_t 0 9 L 40 A w R := by
  unfold f_X12_digit_r f_X12_digit_t
  simp only [here_rt]
  by_cases c1 : L ≤ A
  · have e : f_X12_here_t L 40 A R = some (-1) := by unfold f_X12_here_t; rw [if_pos c1]
    rw [e]; rfl
  · by_cases c2 : (40 : Int32) ≤ A
    · have e : f_X12_here_t L 40 A R = some (-1) := by unfold f_X12_here_t; rw [if_neg c1, if_pos c2]
      rw [e]; rfl
    · have e : A + 1 - 1 = A := Int32.add_sub_cancel _ _
      rw [e, ix_48 c2]
theorem number_rt (k L A w : Int32) (R : Nat → Int32) : f_X12_number_r k L 40 A w R = f_X12_number_t k L 40 A w R := by
  unfold f_X12_number_r f_X12_number_t
  have hk : k_X12_number_r_10 = k_X12_number_t_10 := rfl
  have hs : s_X12_number_r_10 k L 40 R k_X12_number_r_10 = s_X12_number_t_10 k L 40 R k_X12_number_t_10 := by
    funext rc v1 v2 a w
    unfold s_X12_number_r_10 s_X12_number_t_10
    simp only [here_rt, digit_rt, hk]
  rw [hs, digit_rt]
theorem G_rt : ∀ n, (∀ p L A w b1 b2 b3 b4 b5 mk mf ms mc ma R, (G_X12_held_r n).1 p L 40 A w b1 b2 b3 b4 b5 mk mf ms mc ma R = (G_X12_held_t n).1 p L 40 A w b1 b2 b3 b4 b5 mk mf ms mc ma R) ∧ (∀ p L A w b1 b2 b3 b4 b5 mk mf ms mc ma R, (G_X12_held_r n).2.1 p L 40 A w b1 b2 b3 b4 b5 mk mf ms mc ma R = (G_X12_held_t n).2.1 p L 40 A w b1 b2 b3 b4 b5 mk mf ms mc ma R) ∧ (∀ p L A w b1 b2 b3 b4 b5 mk mf ms mc ma R, (G_X12_held_r n).2.2.1 p L 40 A w b1 b2 b3 b4 b5 mk mf ms mc ma R = (G_X12_held_t n).2.2.1 p L 40 A w b1 b2 b3 b4 b5 mk mf ms mc ma R) ∧ (∀ p L A w b1 b2 b3 b4 b5 mk mf ms mc ma R, (G_X12_held_r n).2.2.2 p L 40 A w b1 b2 b3 b4 b5 mk mf ms mc ma R = (G_X12_held_t n).2.2.2 p L 40 A w b1 b2 b3 b4 b5 mk mf ms mc ma R)
  | 0 => ⟨fun _ _ _ _ _ _ _ _ _ _ _ _ _ _ _ => rfl, fun _ _ _ _ _ _ _ _ _ _ _ _ _ _ _ => rfl, fun _ _ _ _ _ _ _ _ _ _ _ _ _ _ _ => rfl, fun _ _ _ _ _ _ _ _ _ _ _ _ _ _ _ => rfl⟩
  | n + 1 => by
    obtain ⟨h1, h2, h3, h4⟩ := G_rt n
    refine ⟨?_, ?_, ?_, ?_⟩
    · intro p L A w b1 b2 b3 b4 b5 mk mf ms mc ma R
      show g_X12_held_r (G_X12_held_r n).1 (G_X12_held_r n).2.1 (G_X12_held_r n).2.2.1 (G_X12_held_r n).2.2.2 p L 40 A w b1 b2 b3 b4 b5 mk mf ms mc ma R = g_X12_held_t (G_X12_held_t n).1 (G_X12_held_t n).2.1 (G_X12_held_t n).2.2.1 (G_X12_held_t n).2.2.2 p L 40 A w b1 b2 b3 b4 b5 mk mf ms mc ma R
      unfold g_X12_held_r g_X12_held_t
      simp only [passes_rt, h3]
    · intro p L A w b1 b2 b3 b4 b5 mk mf ms mc ma R
      show g_X12_product_r (G_X12_held_r n).1 (G_X12_held_r n).2.1 (G_X12_held_r n).2.2.1 (G_X12_held_r n).2.2.2 p L 40 A w b1 b2 b3 b4 b5 mk mf ms mc ma R = g_X12_product_t (G_X12_held_t n).1 (G_X12_held_t n).2.1 (G_X12_held_t n).2.2.1 (G_X12_held_t n).2.2.2 p L 40 A w b1 b2 b3 b4 b5 mk mf ms mc ma R
      unfold g_X12_product_r g_X12_product_t
      have hs : s_X12_product_r_6 (G_X12_held_r n).2.2.2 p L 40 b1 b2 b3 b4 b5 mk mf ms mc ma R k_X12_product_r_6 = s_X12_product_t_6 (G_X12_held_t n).2.2.2 p L 40 b1 b2 b3 b4 b5 mk mf ms mc ma R k_X12_product_t_6 := by
        funext rc v a w
        unfold s_X12_product_r_6 s_X12_product_t_6 j_X12_product_r_31 j_X12_product_t_31 j_X12_product_r_45 j_X12_product_t_45
        simp only [here_rt, h4, show k_X12_product_r_6 = k_X12_product_t_6 from rfl]
      rw [hs, h4]
    · intro p L A w b1 b2 b3 b4 b5 mk mf ms mc ma R
      show g_X12_sum_r (G_X12_held_r n).1 (G_X12_held_r n).2.1 (G_X12_held_r n).2.2.1 (G_X12_held_r n).2.2.2 p L 40 A w b1 b2 b3 b4 b5 mk mf ms mc ma R = g_X12_sum_t (G_X12_held_t n).1 (G_X12_held_t n).2.1 (G_X12_held_t n).2.2.1 (G_X12_held_t n).2.2.2 p L 40 A w b1 b2 b3 b4 b5 mk mf ms mc ma R
      unfold g_X12_sum_r g_X12_sum_t
      have hs : s_X12_sum_r_6 (G_X12_held_r n).2.1 p L 40 b1 b2 b3 b4 b5 mk mf ms mc ma R k_X12_sum_r_6 = s_X12_sum_t_6 (G_X12_held_t n).2.1 p L 40 b1 b2 b3 b4 b5 mk mf ms mc ma R k_X12_sum_t_6 := by
        funext rc v a w
        unfold s_X12_sum_r_6 s_X12_sum_t_6 j_X12_sum_r_31 j_X12_sum_t_31 j_X12_sum_r_45 j_X12_sum_t_45
        simp only [here_rt, h2, show k_X12_sum_r_6 = k_X12_sum_t_6 from rfl]
      rw [hs, h2]
    · intro p L A w b1 b2 b3 b4 b5 mk mf ms mc ma R
      show g_X12_thing_r (G_X12_held_r n).1 (G_X12_held_r n).2.1 (G_X12_held_r n).2.2.1 (G_X12_held_r n).2.2.2 p L 40 A w b1 b2 b3 b4 b5 mk mf ms mc ma R = g_X12_thing_t (G_X12_held_t n).1 (G_X12_held_t n).2.1 (G_X12_held_t n).2.2.1 (G_X12_held_t n).2.2.2 p L 40 A w b1 b2 b3 b4 b5 mk mf ms mc ma R
      unfold g_X12_thing_r g_X12_thing_t j_X12_thing_r_67 j_X12_thing_t_67 j_X12_thing_r_142 j_X12_thing_t_142
      simp only [passes_rt, here_rt, need_rt, number_rt, h1, h4]
theorem held_rt (n : Nat) (p L A w b1 b2 b3 b4 b5 : Int32) (mk mf ms mc ma R : Nat → Int32) : f_X12_held_r n p L 40 A w b1 b2 b3 b4 b5 mk mf ms mc ma R = f_X12_held_t n p L 40 A w b1 b2 b3 b4 b5 mk mf ms mc ma R := (G_rt n).1 _ _ _ _ _ _ _ _ _ _ _ _ _ _ _
