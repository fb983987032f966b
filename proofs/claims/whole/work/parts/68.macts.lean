/-! acts of a show, the reference -/
section
variable {y l a i : Nat} {tc : Nat → Nat} {sg mx ac : Nat → Int32}
theorem m_actP (h : okRd y 60 l tc sg mx) {K : Nat} (hK : K = 114 ∨ K = 116 ∨ K = 120) (c : sn tc l a = K) {Q : Int32 × Int32 × (Nat → Int32) → Prop} (hQ : Rt (j_X12_readAct_t_31 (nI (5 * i)) (nI y) 60 (nI a) mx ac (nI K) (-1)) Q) : Rt (f_X12_readAct_t (nI (5 * i)) (nI y) 60 (nI a) (-1) mx ac) Q := by
  have hl := rd_l h
  obtain ⟨c1, c2⟩ := sn_lt h (by omega) c
  unfold f_X12_readAct_t
  refine re1 (m_hereN (T := 60) h (by omega)) ?_
  rw [if_pos c1, c2]
  rcases hK with rfl | rfl | rfl
  · exact rt_t rfl hQ
  · exact rt_f (by decide) (rt_t rfl hQ)
  · exact rt_f (by decide) (rt_f (by decide) (rt_t rfl hQ))
theorem m_jW (hi : i < 60) {w v : Int32} (hw : w ≠ -1) : Rt (j_X12_readAct_t_31 (nI (5 * i)) (nI y) 60 (nI a) mx ac v w) (fun s => s.2.1 = w) := by
  unfold j_X12_readAct_t_31
  rw [nI_1, nI_1, c_2, c_3, c_4, nI_add, nI_add, nI_add]
  refine rt_gx (by omega) (by omega) (rt_if (fun _ => rt_some rfl) (fun _ => ?_))
  refine re3 (m_dW hw _ _ _ _ _) (rt_gx (by omega) (by omega) (re3 (m_dW hw _ _ _ _ _) (rt_gx (by omega) (by omega) (rt_if (fun _ => ?_) (fun _ => ?_)))))
  · repeat (first | refine re3 (m_dW hw _ _ _ _ _) ?_ | refine re2 (m_needW hw _ _ _ _) ?_ | refine re3 (m_numW hw _ _ _ _) ?_ | refine rt_gx (by omega) (by omega) ?_)
    exact rt_some rfl
  · repeat (first | refine re3 (m_dW hw _ _ _ _ _) ?_ | refine re2 (m_needW hw _ _ _ _) ?_ | refine re3 (m_numW hw _ _ _ _) ?_ | refine rt_gx (by omega) (by omega) ?_)
    exact rt_some rfl
theorem m_actN (h : okRd y 60 l tc sg mx) (ha : a ≤ l) (hi : i < 60) (n1 : ¬ sn tc l a = 114) (n2 : ¬ sn tc l a = 116) (n3 : ¬ sn tc l a = 120) : Rt (f_X12_readAct_t (nI (5 * i)) (nI y) 60 (nI a) (-1) mx ac) (fun s => s.2.1 = nI a) := by
  have hl := rd_l h
  unfold f_X12_readAct_t
  refine re1 (m_hereN (T := 60) h (by omega)) ?_
  have hne : ∀ c : Nat, c < 256 → ¬ sn tc l a = c → ¬ (if a < l then nI (tc a) else -1) = nI c := by
    intro c hc hs
    unfold sn at hs
    by_cases z : a < l
    · rw [if_pos z] at hs ⊢
      intro w
      exact hs ((nI_eq (by have := (rd_s h a z).1; omega) (by omega)).mp w)
    · rw [if_neg z]
      exact fun w => m1_ne (k := c) (by omega) w.symm
  exact rt_f (hne 114 (by omega) n1) (rt_f (hne 116 (by omega) n2) (rt_f (hne 120 (by omega) n3) (re1 (m_fault_t _) (m_jW hi (m1_ne (by omega))))))
theorem m_actX (h : okRd y 60 l tc sg mx) (hi : i < 60) (c : sn tc l a = 120) : f_X12_readAct_t (nI (5 * i)) (nI y) 60 (nI a) (-1) mx ac = some (nI (a + 1), -1, upd ac (5 * i) (nI 120)) := by
  refine rt_get (m_actP h (.inr (.inr rfl)) c ?_)
  unfold j_X12_readAct_t_31
  refine rt_gx (by omega) (by omega) (rt_t rfl (rt_some ?_))
  rw [nI_1, nI_clamp (by omega)]
/-- behind rider and horse -/
theorem m_actH (h : okRd y 60 l tc sg mx) (hi : i < 60) {K : Nat} (hK : K = 114 ∨ K = 116) (c : sn tc l a = K) (d1 : isDg tc l (a + 1) 0 10) (d2 : isDg tc l (a + 2) 0 10) {Q : Int32 × Int32 × (Nat → Int32) → Prop} (hQ : ∀ g, g = upd (upd (upd ac (5 * i) (nI K)) (5 * i + 1) (nI (tc (a + 1) - 48))) (5 * i + 2) (nI (tc (a + 2) - 48)) → Rt (if nI K = 114 then bd3 (f_X12_digit_t 0 9 (nI y) 60 (nI (a + 3)) (-1) mx) (fun r18 a19 w20 => gd (ix (nI (5 * i + 3)) 400) (bd2 (f_X12_need_t 42 (nI y) 60 a19 w20 mx) (fun a21 w22 => bd3 (f_X12_digit_t 0 9 (nI y) 60 a21 w22 mx) (fun r23 a24 w25 => gd (ix (nI (5 * i + 4)) 400) (some (a24, w25, upd (upd g (nI (5 * i + 3)).toNatClampNeg r18) (nI (5 * i + 4)).toNatClampNeg r23)))))) else bd2 (f_X12_need_t 58 (nI y) 60 (nI (a + 3)) (-1) mx) (fun a8 w9 => bd3 (f_X12_number_t (nI 2) (nI y) 60 a8 w9 mx) (fun r10 a11 w12 => gd (ix (nI (5 * i + 3)) 400) (bd2 (f_X12_need_t 43 (nI y) 60 a11 w12 mx) (fun a13 w14 => bd3 (f_X12_number_t (nI 4) (nI y) 60 a13 w14 mx) (fun r15 a16 w17 => gd (ix (nI (5 * i + 4)) 400) (some (a16, w17, upd (upd g (nI (5 * i + 3)).toNatClampNeg r10) (nI (5 * i + 4)).toNatClampNeg r15)))))))) Q) : Rt (f_X12_readAct_t (nI (5 * i)) (nI y) 60 (nI a) (-1) mx ac) Q := by
  refine m_actP h (by omega) c ?_
  have hn : ¬ nI K = 120 := fun z => by have := (nI_eq (b := 120) (by omega) (by omega)).mp z; omega
  unfold j_X12_readAct_t_31
  rw [nI_1, nI_1, c_2, c_3, c_4, nI_add, nI_add, nI_add]
  refine rt_gx (by omega) (by omega) (rt_f hn (re3 (m_dT (lo := 0) (T := 60) h (by omega) d1) (rt_gx (by omega) (by omega) (re3 (m_dT (lo := 0) (T := 60) h (by omega) d2) (rt_gx (by omega) (by omega) (hQ _ ?_))))))
  rw [nI_clamp (by omega), nI_clamp (by omega), nI_clamp (by omega)]
theorem m_pairF (h : okRd y 60 l tc sg mx) (hi : i < 60) {K q : Nat} (hK : K = 114 ∨ K = 116) (c : sn tc l a = K) (hq : (q = a + 1 ∧ ¬ isDg tc l (a + 1) 0 10) ∨ (q = a + 2 ∧ isDg tc l (a + 1) 0 10 ∧ ¬ isDg tc l (a + 2) 0 10)) : Rt (f_X12_readAct_t (nI (5 * i)) (nI y) 60 (nI a) (-1) mx ac) (fun s => s.2.1 = nI q) := by
  have hl := rd_l h
  have l0 := (sn_lt h (by omega) c).1
  refine m_actP h (by omega) c ?_
  have hn : ¬ nI K = 120 := fun z => by have := (nI_eq (b := 120) (by omega) (by omega)).mp z; omega
  unfold j_X12_readAct_t_31
  rw [nI_1, nI_1, c_2, c_3, c_4, nI_add, nI_add, nI_add]
  refine rt_gx (by omega) (by omega) (rt_f hn ?_)
  rcases hq with ⟨rfl, d⟩ | ⟨rfl, d1, d⟩
  · have hw : nI (a + 1) ≠ -1 := m1_ne (by omega)
    refine re3 (m_dF (lo := 0) (T := 60) h (by omega) (by omega) d) (rt_gx (by omega) (by omega) (re3 (m_dW hw _ _ _ _ _) (rt_gx (by omega) (by omega) (rt_if (fun _ => ?_) (fun _ => ?_)))))
    · repeat (first | refine re3 (m_dW hw _ _ _ _ _) ?_ | refine re2 (m_needW hw _ _ _ _) ?_ | refine re3 (m_numW hw _ _ _ _) ?_ | refine rt_gx (by omega) (by omega) ?_)
      exact rt_some rfl
    · repeat (first | refine re3 (m_dW hw _ _ _ _ _) ?_ | refine re2 (m_needW hw _ _ _ _) ?_ | refine re3 (m_numW hw _ _ _ _) ?_ | refine rt_gx (by omega) (by omega) ?_)
      exact rt_some rfl
  · have l1 := d1.1
    have hw : nI (a + 2) ≠ -1 := m1_ne (by omega)
    refine re3 (m_dT (lo := 0) (T := 60) h (by omega) d1) (rt_gx (by omega) (by omega) (re3 (m_dF (lo := 0) (T := 60) h (by omega) (by omega) d) (rt_gx (by omega) (by omega) (rt_if (fun _ => ?_) (fun _ => ?_)))))
    · repeat (first | refine re3 (m_dW hw _ _ _ _ _) ?_ | refine re2 (m_needW hw _ _ _ _) ?_ | refine re3 (m_numW hw _ _ _ _) ?_ | refine rt_gx (by omega) (by omega) ?_)
      exact rt_some rfl
    · repeat (first | refine re3 (m_dW hw _ _ _ _ _) ?_ | refine re2 (m_needW hw _ _ _ _) ?_ | refine re3 (m_numW hw _ _ _ _) ?_ | refine rt_gx (by omega) (by omega) ?_)
      exact rt_some rfl
end
