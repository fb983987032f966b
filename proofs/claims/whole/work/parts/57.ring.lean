/-! ring -/
def kk8 (q : Nat) : Int32 := if q = 117 then 0 else if q = 119 then 1 else if q = 100 then 2 else if q = 108 then 3 else -1
theorem kk8_c (q : Nat) : kk8 q = -1 ∨ ∃ k, k ≤ 3 ∧ kk8 q = nI k := by
  unfold kk8
  split
  · exact .inr ⟨0, by omega, rfl⟩
  · split
    · exact .inr ⟨1, by omega, rfl⟩
    · split
      · exact .inr ⟨2, by omega, rfl⟩
      · split
        · exact .inr ⟨3, by omega, rfl⟩
        · exact .inl rfl
theorem kk8_m : ∀ q, q < 256 → f_X12_kindOf (nI q) = some (kk8 q) := by decide +kernel
theorem kk8_x (q : Nat) (h : q < 256) : sidx 88 (nI q) = kk8 q := ix88 q h
def u3 (g : Nat → Int32) (i k h f : Nat) : Nat → Int32 := upd (upd (upd g (3 * i) (nI k)) (3 * i + 1) (nI h)) (3 * i + 2) (nI f)
def okDf (n : Nat) (kd ht ft : Nat → Nat) (g : Nat → Int32) : Prop := ∀ j, j < n → (kd j ≤ 3 ∧ ht j ≤ 9 ∧ 10 ≤ ft j ∧ ft j ≤ 99) ∧ g (3 * j) = nI (kd j) ∧ g (3 * j + 1) = nI (ht j) ∧ g (3 * j + 2) = nI (ft j)
theorem okDf_s {n k h f : Nat} {kd ht ft : Nat → Nat} {g : Nat → Int32} (hd : okDf n kd ht ft g) (b1 : k ≤ 3) (b2 : h ≤ 9) (b3 : 10 ≤ f) (b4 : f ≤ 99) : okDf (n + 1) (uN kd n k) (uN ht n h) (uN ft n f) (u3 g n k h f) := by
  intro j hj
  unfold u3
  by_cases e : j = n
  · subst e
    rw [uN_s, uN_s, uN_s]
    refine ⟨⟨b1, b2, b3, b4⟩, ?_, ?_, upd_s⟩
    · rw [upd_n (by omega), upd_n (by omega), upd_s]
    · rw [upd_n (by omega), upd_s]
  · rw [uN_n e, uN_n e, uN_n e, upd_n (by omega), upd_n (by omega), upd_n (by omega), upd_n (by omega), upd_n (by omega), upd_n (by omega), upd_n (by omega), upd_n (by omega), upd_n (by omega)]
    exact hd j (by omega)
section
variable {y T l a i : Nat} {tc : Nat → Nat} {sg mx : Nat → Int32}
theorem rd_fence (h : okRd y T l tc sg mx) (ha : a ≤ l) (hi : i < 8) (dr nf : Nat → Int32) : (∃ q, q ≤ 80 ∧ Rt (f_X1_readFence (nI i) (nI l) (nI a) sg dr) (fun r => r.1 = 0 ∧ r.2.1 = nI q) ∧ Rt (f_X12_readFence_t (nI (3 * i)) (nI y) (nI T) (nI a) (-1) mx nf) (fun r => r.2.1 = nI q)) ∨ (∃ k h f, k ≤ 3 ∧ h ≤ 9 ∧ 10 ≤ f ∧ f ≤ 99 ∧ a + 5 ≤ l ∧ f_X1_readFence (nI i) (nI l) (nI a) sg dr = some (1, nI (a + 5), u3 dr i k h f) ∧ f_X12_readFence_t (nI (3 * i)) (nI y) (nI T) (nI a) (-1) mx nf = some (nI (a + 5), -1, u3 nf i k h f)) := by
  have hl := rd_l h
  have hw : ∀ q : Nat, q < 1000 → nI q ≠ -1 := fun q hq => m1_ne (by omega)
  -- the reference behind the kind
  have hjr : ∀ (v w : Int32), Rt (j_X12_readFence_t_31 (nI (3 * i)) (nI y) (nI T) (nI a) mx nf v w) (fun r => w ≠ -1 → r.2.1 = w) ∨ w = -1 := by
    intro v w
    by_cases e : w = -1
    · exact .inr e
    · left
      unfold j_X12_readFence_t_31
      refine re3 (m_dW e _ _ _ _ _) ?_
      rw [nI_1, gx (by omega) (by omega), c_2, nI_add, nI_clamp (by omega)]
      refine re2 (m_needW e _ _ _ _) (re3 (m_dW e _ _ _ _ _) (re3 (m_dW e _ _ _ _ _) (rt_gx (by omega) (by omega) (rt_some (fun _ => rfl)))))
  have hkF : (¬ a < l ∨ kk8 (tc a) = -1) → (∃ q, q ≤ 80 ∧ Rt (f_X1_readFence (nI i) (nI l) (nI a) sg dr) (fun r => r.1 = 0 ∧ r.2.1 = nI q) ∧ Rt (f_X12_readFence_t (nI (3 * i)) (nI y) (nI T) (nI a) (-1) mx nf) (fun r => r.2.1 = nI q)) := by
    intro hc
    refine ⟨a, by omega, ?_, ?_⟩
    · obtain ⟨v, hv, e⟩ := x_oneF (a := a) (s := 88) h (by omega) (by decide) (fun z => by
        rw [kk8_x _ (rd_s h a z).1, hc.resolve_left (fun w => w z)]; decide)
      unfold f_X1_readFence
      exact re2 e (rt_f (Int32.not_le.mpr hv) (rt_some ⟨rfl, rfl⟩))
    · unfold f_X12_readFence_t
      refine re1 (m_hereN h (by omega)) ?_
      have ek : f_X12_kindOf (if a < l then nI (tc a) else -1) = some (-1) := by
        by_cases z : a < l
        · rw [if_pos z, kk8_m _ (rd_s h a z).1, hc.resolve_left (fun w => w z)]
        · rw [if_neg z]; decide
      refine re1 ek (rt_gx (by omega) (by omega) (rt_gx (by omega) (by omega) (rt_t (by rw [upd_s]) (re1 (m_fault_t _) ?_))))
      rcases hjr (-1) (nI a) with z | z
      · exact rt_mono z (fun r hr => hr (hw a (by omega)))
      · exact absurd z (hw a (by omega))
  by_cases c0 : a < l
  · rcases kk8_c (tc a) with c1 | ⟨k, hk, c1⟩
    · exact .inl (hkF (.inr c1))
    · -- both have the kind
      have hx0 : f_X9_oneOf 88 (nI l) (nI a) sg = some (nI k, nI (a + 1)) := x_oneT h (by decide) c0 (by omega) (by rw [kk8_x _ (rd_s h a c0).1, c1])
      have hm0 : ∀ Q : _ → Prop, Rt (j_X12_readFence_t_31 (nI (3 * i)) (nI y) (nI T) (nI a) mx nf (nI k) (-1)) Q → Rt (f_X12_readFence_t (nI (3 * i)) (nI y) (nI T) (nI a) (-1) mx nf) Q := by
        intro Q hQ
        unfold f_X12_readFence_t
        refine re1 (m_hereN h (by omega)) ?_
        rw [if_pos c0]
        refine re1 ((kk8_m _ (rd_s h a c0).1).trans (congrArg some c1)) (rt_gx (by omega) (by omega) (rt_gx (by omega) (by omega) (rt_f (by rw [upd_s]; exact m1_ne (by omega)) hQ)))
      by_cases d1 : isDg tc l (a + 1) 0 10
      · have l1 := d1.1
        by_cases c2 : sn tc l (a + 2) = 64
        · have l2 := (sn_lt h (by omega) c2).1
          by_cases d3 : isDg tc l (a + 3) 1 10
          · have l3 := d3.1
            by_cases d4 : isDg tc l (a + 4) 0 10
            · have l4 := d4.1
              have b1 := d1.2.2
              have b3 := d3.2
              have b4 := d4.2.2
              refine .inr ⟨k, tc (a + 1) - 48, 10 * (tc (a + 3) - 48) + (tc (a + 4) - 48), hk, by omega, by omega, by omega, by omega, ?_, ?_⟩
              · refine rt_get ?_
                unfold f_X1_readFence
                refine re2 hx0 (rt_t (nI_le (a := 0) (by omega) (by omega)) (re2 (x_dT (lo := 0) h (by omega) d1) (rt_f (m1_ne (by omega)) (re2 (x_takeT (c := 64) h (by omega) c2) (rt_f i10n (re2 (x_dT (lo := 1) h (by omega) d3) (rt_f (m1_ne (by have : tc (a + 1 + 1 + 1) = tc (a + 3) := rfl; omega)) (re2 (x_dT (lo := 0) h (by omega) d4) ?_))))))))
                unfold j_X1_readFence_65
                rw [c_3, pk_mul, gx (by omega) (by omega), nI_1, gx (by omega) (by omega), c_2, nI_add, gx (by omega) (by omega)]
                refine rt_f (m1_ne (by have : tc (a + 1 + 1 + 1 + 1) = tc (a + 4) := rfl; omega)) (rt_some ?_)
                rw [nI_clamp (by omega), nI_clamp (by omega), nI_clamp (by omega), c_10, pk_mul, nI_add, Nat.mul_comm _ 10]
                rfl
              · refine rt_get (hm0 _ ?_)
                unfold j_X12_readFence_t_31
                rw [nI_1]
                refine re3 (m_dT (lo := 0) h (by omega) d1) ?_
                rw [nI_1, gx (by omega) (by omega)]
                refine re2 (m_needT (c := 64) h (by omega) c2) (re3 (m_dT (lo := 1) h (by omega) d3) (re3 (m_dT (lo := 0) h (by omega) d4) ?_))
                rw [c_2, nI_add, gx (by omega) (by omega), nI_clamp (by omega), nI_clamp (by omega), nI_clamp (by omega), c_10, pk_mul, nI_add]
                exact rt_some rfl
            · refine .inl ⟨a + 4, by omega, ?_, hm0 _ ?_⟩
              · unfold f_X1_readFence
                refine re2 hx0 (rt_t (nI_le (a := 0) (by omega) (by omega)) (re2 (x_dT (lo := 0) h (by omega) d1) (rt_f (m1_ne (by have := d1.2; omega)) (re2 (x_takeT (c := 64) h (by omega) c2) (rt_f i10n (re2 (x_dT (lo := 1) h (by omega) d3) (rt_f (m1_ne (by have := d3.2; have : tc (a + 1 + 1 + 1) = tc (a + 3) := rfl; omega)) (re2 (x_dF (lo := 0) h (by omega) (by omega) d4) ?_))))))))
                unfold j_X1_readFence_65
                rw [c_3, pk_mul, gx (by omega) (by omega), nI_1, gx (by omega) (by omega), c_2, nI_add, gx (by omega) (by omega)]
                exact rt_t rfl (rt_some ⟨rfl, rfl⟩)
              · unfold j_X12_readFence_t_31
                rw [nI_1]
                refine re3 (m_dT (lo := 0) h (by omega) d1) ?_
                rw [nI_1, gx (by omega) (by omega)]
                refine re2 (m_needT (c := 64) h (by omega) c2) (re3 (m_dT (lo := 1) h (by omega) d3) (re3 (m_dF (lo := 0) h (by omega) (by omega) d4) ?_))
                rw [c_2, nI_add, gx (by omega) (by omega)]
                exact rt_some rfl
          · refine .inl ⟨a + 3, by omega, ?_, hm0 _ ?_⟩
            · unfold f_X1_readFence
              refine re2 hx0 (rt_t (nI_le (a := 0) (by omega) (by omega)) (re2 (x_dT (lo := 0) h (by omega) d1) (rt_f (m1_ne (by have := d1.2; omega)) (re2 (x_takeT (c := 64) h (by omega) c2) (rt_f i10n (re2 (x_dF (lo := 1) h (by omega) (by omega) d3) (rt_t rfl ?_)))))))
              unfold j_X1_readFence_65
              rw [c_3, pk_mul, gx (by omega) (by omega), nI_1, gx (by omega) (by omega), c_2, nI_add, gx (by omega) (by omega)]
              exact rt_t rfl (rt_some ⟨rfl, rfl⟩)
            · unfold j_X12_readFence_t_31
              rw [nI_1]
              refine re3 (m_dT (lo := 0) h (by omega) d1) ?_
              rw [nI_1, gx (by omega) (by omega)]
              refine re2 (m_needT (c := 64) h (by omega) c2) (re3 (m_dF (lo := 1) h (by omega) (by omega) d3) (re3 (m_dW (hw _ (by omega)) _ _ _ _ _) ?_))
              rw [c_2, nI_add, gx (by omega) (by omega)]
              exact rt_some rfl
        · refine .inl ⟨a + 2, by omega, ?_, hm0 _ ?_⟩
          · unfold f_X1_readFence
            exact re2 hx0 (rt_t (nI_le (a := 0) (by omega) (by omega)) (re2 (x_dT (lo := 0) h (by omega) d1) (rt_f (m1_ne (by have := d1.2; omega)) (re2 (x_takeF (c := 64) h (by omega) (by omega) c2) (rt_t rfl (rt_some ⟨rfl, rfl⟩))))))
          · unfold j_X12_readFence_t_31
            rw [nI_1]
            refine re3 (m_dT (lo := 0) h (by omega) d1) ?_
            rw [nI_1, gx (by omega) (by omega)]
            refine re2 (m_needF (c := 64) h (by omega) (by omega) c2) (re3 (m_dW (hw _ (by omega)) _ _ _ _ _) (re3 (m_dW (hw _ (by omega)) _ _ _ _ _) ?_))
            rw [c_2, nI_add, gx (by omega) (by omega)]
            exact rt_some rfl
      · refine .inl ⟨a + 1, by omega, ?_, hm0 _ ?_⟩
        · unfold f_X1_readFence
          exact re2 hx0 (rt_t (nI_le (a := 0) (by omega) (by omega)) (re2 (x_dF (lo := 0) h (by omega) (by omega) d1) (rt_t rfl (rt_some ⟨rfl, rfl⟩))))
        · unfold j_X12_readFence_t_31
          rw [nI_1]
          refine re3 (m_dF (lo := 0) h (by omega) (by omega) d1) ?_
          rw [nI_1, gx (by omega) (by omega)]
          refine re2 (m_needW (hw _ (by omega)) _ _ _ _) (re3 (m_dW (hw _ (by omega)) _ _ _ _ _) (re3 (m_dW (hw _ (by omega)) _ _ _ _ _) ?_))
          rw [c_2, nI_add, gx (by omega) (by omega)]
          exact rt_some rfl
  · exact .inl (hkF (.inl c0))
end
section
variable {y F P c : Nat} {tc : Nat → Nat} {ts mt tw cz kz0 : Int32} {sg mx ck ch cf mk mh mf tr to tf tx hc hz un mn kc kz ke ik : Nat → Int32}
theorem x_takeDraft {n : Nat} (hn : n ≤ 8) {kd ht ft : Nat → Nat} {dr : Nat → Int32} (hd : okDf n kd ht ft dr) (f0 p0 : Int32) : Rt (f_X1_takeDraft (nI n) f0 p0 ck ch cf dr) (fun r => r.1 = nI n ∧ r.2.1 = 0 ∧ okC n kd ft r.2.2.1 r.2.2.2.2 ∧ okT n ht r.2.2.2.1) := by
  unfold f_X1_takeDraft
  refine rl4 8 (fun k v2 a1 a2 a3 => v2 = nI k ∧ k ≤ n ∧ ∀ j, j < k → a1 j = nI (kd j) ∧ a2 j = nI (ht j) ∧ a3 j = nI (ft j)) (by omega) ⟨rfl, by omega, by omega⟩ ?_
  rintro rc k v2 a1 a2 a3 ⟨rfl, hk, hI⟩ ih
  unfold s_X1_takeDraft_2
  by_cases ckn : n ≤ k
  · obtain rfl : n = k := by omega
    refine rt_t (nI_le (Nat.le_refl _) (by omega)) (rt_some ⟨rfl, rfl, ⟨hn, fun f hf => ⟨?_, (hI f hf).1, (hI f hf).2.2⟩⟩, fun f hf => ⟨?_, (hI f hf).2.1⟩⟩)
    · obtain ⟨⟨b1, b2, b3, b4⟩, _⟩ := hd f hf
      exact ⟨b1, b3, b4⟩
    · exact (hd f hf).1.2.1
  · obtain ⟨_, e1, e2, e3⟩ := hd k (by omega)
    refine rt_f (nI_ge (by omega) (by omega)) ?_
    simp (disch := omega) only [c_3, c_2, pk_mul, nI_1, nI_add, gx, nI_clamp, e1, e2, e3, lt1_e]
    refine ih (by omega) _ _ _ _ ⟨rfl, by omega, fun j hj => ?_⟩
    by_cases e : j = k
    · subst e; rw [upd_s, upd_s, upd_s]; exact ⟨rfl, rfl, rfl⟩
    · rw [upd_n e, upd_n e, upd_n e]; exact hI j (by omega)
theorem m_ringK {n1 at' w : Int32} {nf : Nat → Int32} (hw : w ≠ -1) : Rt (k_X12_ring_28 (nI F) (nI P) (nI c) mn mk mh mf ik (nI y) (nI 76) n1 at' w nf) (fun b => b.1 = -1 - w ∧ b.2.2.2.1 = 0 ∧ b.2.2.2.2.1 = 0 ∧ (b.2.1 = nI F ∧ b.2.2.1 = nI P ∧ b.2.2.2.2.2.2.2.2.2.1 = nI c ∧ b.2.2.2.2.2.2.2.2.2.2.1 = mn ∧ b.2.2.2.2.2.2.2.2.2.2.2.1 = mk ∧ b.2.2.2.2.2.2.2.2.2.2.2.2.1 = mh ∧ b.2.2.2.2.2.2.2.2.2.2.2.2.2.1 = mf ∧ b.2.2.2.2.2.2.2.2.2.2.2.2.2.2.2 = ik)) := by
  have hj : Rt (j_X12_ring_95 (nI F) (nI P) (nI c) mn mk mh mf ik (nI y) (nI 76) n1 at' nf w) (fun b => b.1 = -1 - w ∧ b.2.2.2.1 = 0 ∧ b.2.2.2.2.1 = 0 ∧ (b.2.1 = nI F ∧ b.2.2.1 = nI P ∧ b.2.2.2.2.2.2.2.2.2.1 = nI c ∧ b.2.2.2.2.2.2.2.2.2.2.1 = mn ∧ b.2.2.2.2.2.2.2.2.2.2.2.1 = mk ∧ b.2.2.2.2.2.2.2.2.2.2.2.2.1 = mh ∧ b.2.2.2.2.2.2.2.2.2.2.2.2.2.1 = mf ∧ b.2.2.2.2.2.2.2.2.2.2.2.2.2.2.2 = ik)) := by
    unfold j_X12_ring_95
    exact re1 (m_fine_f hw) (rt_t rfl (rt_some ⟨rfl, rfl, rfl, rfl, rfl, rfl, rfl, rfl, rfl, rfl, rfl⟩))
  unfold k_X12_ring_28
  exact rt_if (fun _ => hj) (fun _ => re1 (m_fault_f _ hw) hj)
theorem rg_pair (hT : okTx y tc ts sg mt mx) (hF : F ≤ 8) (tl ta q1 q2 q3 q4 q5 : Int32) (dr nf : Nat → Int32) : Rt (f_X1_readRing ts tl ta (nI F) (nI P) sg ck ch cf dr) (fun a => Rt (f_X12_ring (nI F) (nI P) mt tw q1 q2 q3 q4 q5 (nI c) mn mk mh mf mx nf ik) (fun b => (a.1 = b.1 ∧ b.2.2.2.1 = 0 ∧ b.2.2.2.2.1 = 0 ∧ ((a.1 < 0 ∧ (a.2.2.2.1 = nI F ∧ a.2.2.2.2.1 = nI P ∧ a.2.2.2.2.2.1 = ck ∧ a.2.2.2.2.2.2.1 = ch ∧ a.2.2.2.2.2.2.2.1 = cf) ∧ (b.2.1 = nI F ∧ b.2.2.1 = nI P ∧ b.2.2.2.2.2.2.2.2.2.1 = nI c ∧ b.2.2.2.2.2.2.2.2.2.2.1 = mn ∧ b.2.2.2.2.2.2.2.2.2.2.2.1 = mk ∧ b.2.2.2.2.2.2.2.2.2.2.2.2.1 = mh ∧ b.2.2.2.2.2.2.2.2.2.2.2.2.2.1 = mf ∧ b.2.2.2.2.2.2.2.2.2.2.2.2.2.2.2 = ik)) ∨ (∃ n kd ht ft, 1 ≤ n ∧ n ≤ 8 ∧ a.1 = nI n ∧ (a.2.2.2.1 = nI n ∧ a.2.2.2.2.1 = 0 ∧ okC n kd ft a.2.2.2.2.2.1 a.2.2.2.2.2.2.2.1 ∧ okT n ht a.2.2.2.2.2.2.1) ∧ b.2.1 = nI n ∧ b.2.2.1 = 0 ∧ b.2.2.2.2.2.2.2.2.2.1 = 0 ∧ b.2.2.2.2.2.2.2.2.2.2.1 48 = 0 ∧ okC n kd ft b.2.2.2.2.2.2.2.2.2.2.2.1 b.2.2.2.2.2.2.2.2.2.2.2.2.2.1 ∧ okT n ht b.2.2.2.2.2.2.2.2.2.2.2.2.1 ∧ ∀ s, s < 2 → b.2.2.2.2.2.2.2.2.2.2.2.2.2.2.2 s = 0))))) := by
  have hR := okTx_R (T := 76) hT (by omega)
  obtain ⟨hy, rfl, rfl, hk⟩ := hT
  have hl := rd_l hR
  unfold f_X1_readRing
  refine re2 (x_open (k := 76) (by omega) hy tl ta) ?_
  generalize hlm : min y 76 = l at *
  have hm0 : f_X12_ring (nI F) (nI P) (nI y) tw q1 q2 q3 q4 q5 (nI c) mn mk mh mf mx nf ik = ml5 (s_X12_ring_28 mx (nI y) (nI 76) (k_X12_ring_28 (nI F) (nI P) (nI c) mn mk mh mf ik (nI y) (nI 76))) zN 0 1 0 (-1) nf := by
    unfold f_X12_ring
    rw [bd4_t (show f_X12_begin_m_text (nI y) 76 q1 q2 q3 q4 q5 = some (nI y, nI 76, 0, -1) from rfl)]
  rw [hm0]
  refine rs3_5 8 (fun k v2 at' d n1 more at2 w nf => ∃ (a : Nat) (kd ht ft : Nat → Nat), v2 = nI k ∧ at' = nI a ∧ n1 = nI k ∧ more = 1 ∧ at2 = nI a ∧ w = -1 ∧ k ≤ 8 ∧ a ≤ l ∧ okDf k kd ht ft d ∧ okDf k kd ht ft nf) (by omega) ⟨0, fun _ => 0, fun _ => 0, fun _ => 0, rfl, rfl, rfl, rfl, rfl, rfl, by omega, by omega, fun j hj => absurd hj (by omega), fun j hj => absurd hj (by omega)⟩ ?_
  rintro rc rc' k v2 at' d n1 more at2 w nf ⟨a, kd, ht, ft, rfl, rfl, rfl, rfl, rfl, rfl, hk8, hal, hd, hnf⟩ hr ih
  have hbad : ∀ (q : Nat) (n2 a2 : Int32) (nf2 : Nat → Int32), q < 1000 → Rt (rc' n2 0 a2 (nI q) nf2) (fun b => b.1 = -1 - nI q ∧ b.2.2.2.1 = 0 ∧ b.2.2.2.2.1 = 0 ∧ (b.2.1 = nI F ∧ b.2.2.1 = nI P ∧ b.2.2.2.2.2.2.2.2.2.1 = nI c ∧ b.2.2.2.2.2.2.2.2.2.2.1 = mn ∧ b.2.2.2.2.2.2.2.2.2.2.2.1 = mk ∧ b.2.2.2.2.2.2.2.2.2.2.2.2.1 = mh ∧ b.2.2.2.2.2.2.2.2.2.2.2.2.2.1 = mf ∧ b.2.2.2.2.2.2.2.2.2.2.2.2.2.2.2 = ik)) := by
    intro q n2 a2 nf2 hq
    obtain ⟨rc2, e⟩ := hr n2 0 a2 (nI q) nf2
    rw [e]
    unfold s_X12_ring_28
    exact rt_t rfl (m_ringK (m1_ne (by omega)))
  unfold s_X1_readRing_8
  by_cases c8 : 8 ≤ k
  · obtain rfl : k = 8 := by omega
    refine rt_t (by decide) ?_
    unfold k_X1_readRing_8
    refine re1 rfl (rt_some ?_)
    unfold s_X12_ring_28
    refine rt_f i10n (re1 m_fine_t (rt_f i10n (rt_t rfl (re1 (m_fault_t _) (rt_lt (re2 (m_passes_f (m1_ne (by omega)) _ _ _ _ _) ?_))))))
    refine rt_mono (hbad a _ _ _ (by omega)) ?_
    rintro b ⟨b1, b2, b3, b4⟩
    exact ⟨b1.symm, b2, b3, .inl ⟨mf_neg (by omega), ⟨rfl, rfl, rfl, rfl, rfl⟩, b4⟩⟩
  · refine rt_f (nI_ge (b := 8) (by omega) (by omega)) ?_
    have href : ∀ (Q : _ → Prop), Rt (bd3 (f_X12_readFence_t (nI (3 * k)) (nI y) (nI 76) (nI a) (-1) mx nf) (fun at3 w3 nf3 => bd2 (f_X12_passes_t 59 (nI y) (nI 76) at3 w3 mx) (fun r at4 => rc' (nI k + 1) r at4 w3 nf3))) Q → Rt (s_X12_ring_28 mx (nI y) (nI 76) (k_X12_ring_28 (nI F) (nI P) (nI c) mn mk mh mf ik (nI y) (nI 76)) rc' (nI k) 1 (nI a) (-1) nf) Q := by
      intro Q hQ
      unfold s_X12_ring_28
      refine rt_f i10n (re1 m_fine_t (rt_f i10n (rt_f (fun z => by have := (nI_eq (b := 8) (by omega) (by omega)).mp z; omega) ?_)))
      rw [c_3, pk_mul]
      exact hQ
    rcases rd_fence hR hal (show k < 8 by omega) d nf with ⟨q, hq, g1, g2⟩ | ⟨k', h', f', b1, b2, b3, b4, b5, g1, g2⟩
    · refine rb3 g1 ?_
      rintro r1 r2 r3 ⟨rfl, rfl⟩
      refine rt_t rfl (re1 rfl (rt_some (href _ (rb3 g2 ?_))))
      rintro s1 s2 s3 rfl
      refine re2 (m_passes_f (m1_ne (by omega)) _ _ _ _ _) (rt_mono (hbad q _ _ _ (by omega)) ?_)
      rintro b ⟨b1, b2, b3, b4⟩
      exact ⟨b1.symm, b2, b3, .inl ⟨mf_neg (by omega), ⟨rfl, rfl, rfl, rfl, rfl⟩, b4⟩⟩
    · have hd2 := okDf_s hd b1 b2 b3 b4
      have hn2 := okDf_s hnf b1 b2 b3 b4
      refine re3 g1 (rt_f i10n (re1 (x_done hy (by omega)) ?_))
      by_cases cdn : a + 5 = y
      · rw [if_pos cdn]
        refine rt_f i10n ?_
        rw [nI_1]
        refine rb5 (x_takeDraft (show k + 1 ≤ 8 by omega) hd2 _ _) ?_
        rintro t1 t2 t3 t4 t5 ⟨rfl, rfl, ht3, ht4⟩
        refine rt_some (href _ (re3 g2 (re2 (m_passF (c := 59) hR (by omega) (by omega) (by unfold sn; rw [if_neg (by omega)]; omega)) ?_)))
        obtain ⟨rc2, er⟩ := hr (nI k + 1) 0 (nI (a + 5)) (-1) (u3 nf k k' h' f')
        rw [er]
        unfold s_X12_ring_28
        refine rt_t rfl ?_
        unfold k_X12_ring_28
        refine rt_t (nI_le (by omega) (by omega)) ?_
        unfold j_X12_ring_95
        refine re1 m_fine_t (rt_f i10n ?_)
        rw [nI_1]
        refine rl4 8 (fun j v3 a1 a2 a3 => v3 = nI j ∧ j ≤ k + 1 ∧ ∀ i, i < j → a1 i = nI (uN kd k k' i) ∧ a2 i = nI (uN ht k h' i) ∧ a3 i = nI (uN ft k f' i)) (by omega) ⟨rfl, by omega, by omega⟩ ?_
        rintro rc3 j v3 a1 a2 a3 ⟨rfl, hj, hI⟩ ih3
        unfold s_X12_ring_111
        by_cases cj : k + 1 ≤ j
        · obtain rfl : j = k + 1 := by omega
          refine rt_t (nI_le (Nat.le_refl _) (by omega)) ?_
          unfold k_X12_ring_111
          refine rt_gd (by decide) ?_
          refine rl2 2 (fun i v3 g => v3 = nI i ∧ i ≤ 2 ∧ ∀ s, s < i → g s = 0) (by omega) ⟨rfl, by omega, by omega⟩ ?_
          rintro rc4 i v3 g ⟨rfl, hi, hg⟩ ih4
          unfold s_X12_ring_193
          by_cases ci : 2 ≤ i
          · obtain rfl : i = 2 := by omega
            refine rt_t (by decide) (rt_some ⟨rfl, rfl, rfl, .inr ⟨k + 1, _, _, _, by omega, by omega, rfl, ⟨rfl, rfl, ht3, ht4⟩, rfl, rfl, rfl, ?_, ⟨by omega, fun f hf => ⟨?_, (hI f hf).1, (hI f hf).2.2⟩⟩, fun f hf => ⟨(hn2 f hf).1.2.1, (hI f hf).2.1⟩, hg⟩⟩)
            · show upd mn (48 : Int32).toNatClampNeg 0 48 = 0
              rw [c_48, nI_clamp (by omega), upd_s]
            · obtain ⟨⟨e1, e2, e3, e4⟩, _⟩ := hn2 f hf
              exact ⟨e1, e3, e4⟩
          · refine rt_f (nI_ge (b := 2) (by omega) (by omega)) (rt_gx (by omega) (by omega) (rt_lt (ih4 (by omega) _ _ ⟨nI_1 _, by omega, fun s hs => ?_⟩)))
            rw [nI_clamp (by omega)]
            by_cases e : s = i
            · subst e; rw [upd_s]; rfl
            · rw [upd_n e]; exact hg s (by omega)
        · obtain ⟨_, e1, e2, e3⟩ := hn2 j (by omega)
          refine rt_f (nI_ge (by omega) (by omega)) ?_
          rw [c_3, pk_mul, nI_1, c_2, nI_add]
          refine rt_gx (by omega) (by omega) (rt_gx (by omega) (by omega) (rt_gx (by omega) (by omega) (rt_gx (by omega) (by omega) (rt_gx (by omega) (by omega) (rt_gx (by omega) (by omega) (rt_lt ?_))))))
          rw [nI_clamp (by omega), nI_clamp (by omega), nI_clamp (by omega), nI_clamp (by omega), e1, e2, e3]
          refine ih3 (by omega) _ _ _ _ ⟨nI_1 _, by omega, fun i hi => ?_⟩
          by_cases e : i = j
          · subst e; rw [upd_s, upd_s, upd_s]; exact ⟨rfl, rfl, rfl⟩
          · rw [upd_n e, upd_n e, upd_n e]; exact hI i (by omega)
      · rw [if_neg cdn]
        refine rt_t rfl ?_
        by_cases cs : sn tc l (a + 5) = 59
        · have hlt := (sn_lt hR (by omega) cs).1
          refine re2 (x_takeT (c := 59) hR (by omega) cs) (rt_f i10n (rt_lt (rt_mono (ih (by omega) _ _ _ (nI k + 1) 1 (nI (a + 5 + 1)) (-1) (u3 nf k k' h' f') ⟨a + 5 + 1, _, _, _, nI_1 _, rfl, nI_1 _, rfl, rfl, rfl, by omega, by omega, hd2, hn2⟩) ?_)))
          intro p hp
          exact href _ (re3 g2 (re2 (m_passT (c := 59) hR (by omega) cs) hp))
        · refine re2 (x_takeF (c := 59) hR (by omega) (by omega) cs) (rt_t rfl (re1 rfl (rt_some (href _ (re3 g2 (re2 (m_passF (c := 59) hR (by omega) (by omega) cs) ?_))))))
          obtain ⟨rc2, er⟩ := hr (nI k + 1) 0 (nI (a + 5)) (-1) (u3 nf k k' h' f')
          rw [er]
          unfold s_X12_ring_28
          refine rt_t rfl ?_
          unfold k_X12_ring_28
          refine rt_f (nI_ge (by omega) (by omega)) (re1 (m_fault_t _) ?_)
          unfold j_X12_ring_95
          exact re1 (m_fine_f (m1_ne (by omega))) (rt_t rfl (rt_some ⟨rfl, rfl, rfl, .inl ⟨mf_neg (by omega), ⟨rfl, rfl, rfl, rfl, rfl⟩, rfl, rfl, rfl, rfl, rfl, rfl, rfl, rfl⟩⟩))
theorem pr_ring (hT : okTx y tc ts sg mt mx) {kd ht ft : Nat → Nat} (hC : okC F kd ft ck cf) (hH : okT F ht ch) (hC2 : okC F kd ft mk mf) (hH2 : okT F ht mh) (hX : tX cz tr to tf tx mn) (hHi : okHi c hc hz un) (hKe : okKe kc kz ke ik) (tl ta kc0 q1 q2 q3 q4 q5 : Int32) (dr nf : Nat → Int32) : Rt (f_X11_ring ts tl ta (nI F) (nI P) cz (nI c) kc0 sg ck ch cf dr hz kz) (fun a => Rt (f_X12_ring (nI F) (nI P) mt tw q1 q2 q3 q4 q5 (nI c) mn mk mh mf mx nf ik) (fun b => (a.1 = b.1 ∧ b.2.2.2.2.1 = 0 ∧ (a.2.1 = 0 ∧ b.2.2.2.1 = 0) ∧ (∃ F' P' kd' ht' ft', (P' = 0 ∨ (P' = P ∧ F' = F)) ∧ (a.2.2.2.2.1 = nI F' ∧ b.2.1 = nI F') ∧ (a.2.2.2.2.2.1 = nI P' ∧ b.2.2.1 = nI P') ∧ okC F' kd' ft' a.2.2.2.2.2.2.2.2.2.1 a.2.2.2.2.2.2.2.2.2.2.2.1 ∧ okT F' ht' a.2.2.2.2.2.2.2.2.2.2.1 ∧ okC F' kd' ft' b.2.2.2.2.2.2.2.2.2.2.2.1 b.2.2.2.2.2.2.2.2.2.2.2.2.2.1 ∧ okT F' ht' b.2.2.2.2.2.2.2.2.2.2.2.2.1 ∧ (P' = P ∧ F' = F → kd' = kd ∧ ht' = ht ∧ ft' = ft ∨ P' = 0)) ∧ (∃ c', a.2.2.2.2.2.2.2.1 = nI c' ∧ b.2.2.2.2.2.2.2.2.2.1 = nI c' ∧ okHi c' hc a.2.2.2.2.2.2.2.2.2.2.2.2.2.1 un) ∧ okKe kc a.2.2.2.2.2.2.2.2.2.2.2.2.2.2 ke b.2.2.2.2.2.2.2.2.2.2.2.2.2.2.2 ∧ tX a.2.2.2.2.2.2.1 tr to tf tx b.2.2.2.2.2.2.2.2.2.2.1))) := by
  unfold f_X11_ring
  refine rb9 (rg_pair (P := P) (c := c) (ck := ck) (ch := ch) (cf := cf) (mk := mk) (mh := mh) (mf := mf) (mn := mn) (ik := ik) (tw := tw) hT hC.1 tl ta q1 q2 q3 q4 q5 dr nf) ?_
  rintro a1 a2 a3 a4 a5 a6 a7 a8 a9 ⟨b, eb, e1, e2, e3, hq⟩
  have e1' : a1 = b.1 := e1
  refine re1 (show f_X9_clear ts = some 0 from rfl) ?_
  rcases hq with ⟨hneg, ⟨k1, k2, k3, k4, k5⟩, m1, m2, m3, m4, m5, m6, m7, m8⟩ | ⟨n, kd', ht', ft', hn1, hn8, k0, ⟨k1, k2, k3, k4⟩, m1, m2, m3, m4, m5, m6, m7⟩
  · have hneg' : a1 < 0 := hneg
    subst k1 k2 k3 k4 k5
    refine rt_t (Int32.le_of_lt hneg') (rt_some (rt_e eb ⟨e1', e3, ⟨rfl, e2⟩, ⟨F, P, kd, ht, ft, .inr ⟨rfl, rfl⟩, ⟨rfl, m1⟩, ⟨rfl, m2⟩, hC, hH, ?_, ?_, fun _ => .inl ⟨rfl, rfl, rfl⟩⟩, ⟨c, rfl, m3, hHi⟩, ?_, ?_⟩))
    · rw [m5, m7]; exact hC2
    · rw [m6]; exact hH2
    · rw [m8]; exact hKe
    · rw [m4]; exact hX
  · have k0' : a1 = nI n := k0
    have hle : ¬ a1 ≤ 0 := by rw [k0']; exact nI_nle (by omega) (by omega)
    subst k1 k2
    refine rt_f hle (rb2 (x_forgetH _ _) ?_)
    rintro h1 h2 rfl
    refine rb2 (x_forgetK _ _) ?_
    rintro j1 j2 ⟨rfl, hj2⟩
    refine rt_some (rt_e eb ⟨e1', e3, ⟨rfl, e2⟩, ⟨n, 0, kd', ht', ft', .inl rfl, ⟨rfl, m1⟩, ⟨rfl, m2⟩, k3, k4, m5, m6, fun _ => .inr rfl⟩, ⟨0, rfl, m3, by omega, fun s hs => absurd hs (by omega)⟩, fun s hs => .inl ⟨hj2 s hs, m7 s hs⟩, ?_⟩)
    exact ⟨0, fun _ => 0, fun _ => 0, fun _ => 0, fun _ => 0, by omega, rfl, m4, fun i hi => absurd hi (by omega)⟩
end
