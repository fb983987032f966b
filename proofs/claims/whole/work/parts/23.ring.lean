/-! THE RING's numbers: allow, raise, move -/
def ivA (a : Int) (ca ma : Int32) : Prop := (0 ≤ a ∧ a ≤ 9999) ∧ ca = iI a ∧ ma = iI a
theorem pr_allow {a : Int} {ca ma : Int32} (h : ivA a ca ma) (v th : Int32) : ∃ (r ca' ma' : Int32) (a' : Int), f_X11_allow v ca = some (r, ca') ∧ f_X12_allow v ma th = some (r, ma', 0) ∧ ivA a' ca' ma' := by
  obtain ⟨ha, rfl, rfl⟩ := h
  have hr := iI_rng v
  have e9 : (9999 : Int32) = iI 9999 := rfl
  have hm : f_X12_isMost v = some (if (0 : Int32) ≤ v ∧ v ≤ 9999 then 1 else 0) := by
    unfold f_X12_isMost
    rw [bd1_t m_in01, gd_t bit_if]
  by_cases h0 : v < 0
  · refine ⟨-1, iI a, iI a, a, ?_, ?_, ha, rfl, rfl⟩
    · unfold f_X11_allow; rw [if_pos h0]
    · have q : ¬ ((0 : Int32) ≤ v ∧ v ≤ 9999) := fun q => absurd q.1 (Int32.not_le.mpr h0)
      unfold f_X12_allow; rw [bd1_t hm, if_neg q, if_pos rfl]
  · by_cases h9 : v ≤ (9999 : Int32)
    · refine ⟨iI a, v, v, v.toInt, ?_, ?_, ?_, (iI_of v).symm, (iI_of v).symm⟩
      · unfold f_X11_allow; rw [if_neg h0, if_pos h9]
      · have q : (0 : Int32) ≤ v ∧ v ≤ 9999 := ⟨Int32.not_lt.mp h0, h9⟩
        unfold f_X12_allow; rw [bd1_t hm, if_pos q, if_neg (by decide)]
      · rw [← iI_of v, iI_0, iI_lt (by omega) (by omega)] at h0
        rw [← iI_of v, e9, iI_le (by omega) (by omega)] at h9
        omega
    · refine ⟨-1, iI a, iI a, a, ?_, ?_, ha, rfl, rfl⟩
      · unfold f_X11_allow; rw [if_neg h0, if_neg h9]
      · have q : ¬ ((0 : Int32) ≤ v ∧ v ≤ 9999) := fun q => h9 q.2
        unfold f_X12_allow; rw [bd1_t hm, if_neg q, if_pos rfl]
/-- the ring: F fences, of kinds kd, heights ht, feet ft -/
def ivC (F : Nat) (kd ht ft : Nat → Int) (cf : Int32) (ck ch cft : Nat → Int32) (mf : Int32) (mk mh mft : Nat → Int32) : Prop :=
  F ≤ 8 ∧ cf = iI (F : Int) ∧ mf = iI (F : Int) ∧ ∀ f, f < F → ((0 ≤ kd f ∧ kd f ≤ 3) ∧ (0 ≤ ht f ∧ ht f ≤ 9) ∧ (10 ≤ ft f ∧ ft f ≤ 99)) ∧ (ck f = iI (kd f) ∧ mk f = iI (kd f)) ∧ (ch f = iI (ht f) ∧ mh f = iI (ht f)) ∧ (cft f = iI (ft f) ∧ mft f = iI (ft f))
def updI (g : Nat → Int) (k : Nat) (z : Int) : Nat → Int := fun j => if j = k then z else g j
theorem updI_s {g : Nat → Int} {k : Nat} {z : Int} : updI g k z k = z := by simp [updI]
theorem updI_n {g : Nat → Int} {k j : Nat} {z : Int} (h : j ≠ k) : updI g k z j = g j := by simp [updI, h]
theorem pr_raise {F : Nat} {kd ht ft : Nat → Int} {cf mf : Int32} {ck ch cft mk mh mft : Nat → Int32} (h : ivC F kd ht ft cf ck ch cft mf mk mh mft) (p v th : Int32) :
    ∃ (r : Int32) (ch' mh' : Nat → Int32) (ht' : Nat → Int), f_X11_raise p v cf ch = some (r, ch') ∧ f_X12_raise p v mf th mh = some (r, 0, mh') ∧ ivC F kd ht' ft cf ck ch' cft mf mk mh' mft := by
  obtain ⟨hF, rfl, rfl, hf⟩ := id h
  have hr := iI_rng v
  rcases x_has (v := p) (n := F) (by omega) with ⟨hb, hx⟩ | ⟨hb, hx⟩
  · rcases m_is (v := p) (n := F) (by omega) with ⟨-, hm⟩ | ⟨hb', -⟩
    · obtain ⟨k, hk, rfl⟩ := hb
      by_cases h9 : (0 : Int32) ≤ v ∧ v ≤ 9
      · refine ⟨ch k, upd ch k v, upd mh k v, updI ht k v.toInt, ?_, ?_, hF, rfl, rfl, fun f hf' => ?_⟩
        · unfold f_X11_raise
          rw [bd1_t hx, if_neg (by decide), if_neg (Int32.not_lt.mpr h9.1), if_pos h9.2, gd_t (ix_n (by omega) (by omega)), iI_cn (by omega)]
          show gd (ix (iI (k : Int)) 8) _ = _
          rw [gd_t (ix_n (by omega) (by omega))]
        · unfold f_X12_raise
          rw [bd1_t hm, if_neg (by decide), bd1_t m_in01, if_pos h9, if_neg (by decide), gd_t (ix_n (by omega) (by omega)), iI_cn (by omega)]
          show gd (ix (iI (k : Int)) 8) _ = _
          rw [gd_t (ix_n (by omega) (by omega)), (hf k hk).2.2.1.1, (hf k hk).2.2.1.2]
        · obtain ⟨⟨a1, a2, a3⟩, a4, a5, a6⟩ := hf f hf'
          have hv : 0 ≤ v.toInt ∧ v.toInt ≤ 9 := by
            have e1 := h9.1
            have e2 := h9.2
            rw [← iI_of v, iI_0, iI_le (by omega) (by omega)] at e1
            rw [← iI_of v, show (9 : Int32) = iI 9 from rfl, iI_le (by omega) (by omega)] at e2
            omega
          by_cases e : f = k
          · subst e
            rw [updI_s, upd_s, upd_s]
            exact ⟨⟨a1, hv, a3⟩, a4, ⟨(iI_of v).symm, (iI_of v).symm⟩, a6⟩
          · rw [updI_n e, upd_n e, upd_n e]
            exact ⟨⟨a1, a2, a3⟩, a4, a5, a6⟩
      · refine ⟨-1, ch, mh, ht, ?_, ?_, h⟩
        · unfold f_X11_raise
          rw [bd1_t hx, if_neg (by decide)]
          by_cases q1 : v < 0
          · rw [if_pos q1]
          · rw [if_neg q1, if_neg (fun q2 => h9 ⟨Int32.not_lt.mp q1, q2⟩)]
        · unfold f_X12_raise
          rw [bd1_t hm, if_neg (by decide), bd1_t m_in01, if_neg h9, if_pos rfl]
    · exact absurd hb hb'
  · rcases m_is (v := p) (n := F) (by omega) with ⟨hb', -⟩ | ⟨-, hm⟩
    · exact absurd hb' hb
    · refine ⟨-1, ch, mh, ht, ?_, ?_, h⟩
      · unfold f_X11_raise; rw [bd1_t hx, if_pos rfl]
      · unfold f_X12_raise; rw [bd1_t hm, if_pos rfl]
theorem pr_move {F : Nat} {kd ht ft : Nat → Int} {cf mf : Int32} {ck ch cft mk mh mft : Nat → Int32} (h : ivC F kd ht ft cf ck ch cft mf mk mh mft) (p v th : Int32) :
    ∃ (r : Int32) (cft' mft' : Nat → Int32) (ft' : Nat → Int), f_X11_move p v cf cft = some (r, cft') ∧ f_X12_move p v mf th mft = some (r, 0, mft') ∧ ivC F kd ht ft' cf ck ch cft' mf mk mh mft' := by
  obtain ⟨hF, rfl, rfl, hf⟩ := id h
  have hr := iI_rng v
  rcases x_has (v := p) (n := F) (by omega) with ⟨hb, hx⟩ | ⟨hb, hx⟩
  · rcases m_is (v := p) (n := F) (by omega) with ⟨-, hm⟩ | ⟨hb', -⟩
    · obtain ⟨k, hk, rfl⟩ := hb
      by_cases h9 : (10 : Int32) ≤ v ∧ v ≤ 99
      · refine ⟨cft k, upd cft k v, upd mft k v, updI ft k v.toInt, ?_, ?_, hF, rfl, rfl, fun f hf' => ?_⟩
        · unfold f_X11_move
          rw [bd1_t hx, if_neg (by decide), if_neg (Int32.not_lt.mpr h9.1), if_pos h9.2, gd_t (ix_n (by omega) (by omega)), iI_cn (by omega)]
          show gd (ix (iI (k : Int)) 8) _ = _
          rw [gd_t (ix_n (by omega) (by omega))]
        · unfold f_X12_move
          rw [bd1_t hm, if_neg (by decide), bd1_t m_in01, if_pos h9, if_neg (by decide), gd_t (ix_n (by omega) (by omega)), iI_cn (by omega)]
          show gd (ix (iI (k : Int)) 8) _ = _
          rw [gd_t (ix_n (by omega) (by omega)), (hf k hk).2.2.2.1, (hf k hk).2.2.2.2]
        · obtain ⟨⟨a1, a2, a3⟩, a4, a5, a6⟩ := hf f hf'
          have hv : 10 ≤ v.toInt ∧ v.toInt ≤ 99 := by
            have e1 := h9.1
            have e2 := h9.2
            rw [← iI_of v, show (10 : Int32) = iI 10 from rfl, iI_le (by omega) (by omega)] at e1
            rw [← iI_of v, show (99 : Int32) = iI 99 from rfl, iI_le (by omega) (by omega)] at e2
            omega
          by_cases e : f = k
          · subst e
            rw [updI_s, upd_s, upd_s]
            exact ⟨⟨a1, a2, hv⟩, a4, a5, ⟨(iI_of v).symm, (iI_of v).symm⟩⟩
          · rw [updI_n e, upd_n e, upd_n e]
            exact ⟨⟨a1, a2, a3⟩, a4, a5, a6⟩
      · refine ⟨-1, cft, mft, ft, ?_, ?_, h⟩
        · unfold f_X11_move
          rw [bd1_t hx, if_neg (by decide)]
          by_cases q1 : v < 10
          · rw [if_pos q1]
          · rw [if_neg q1, if_neg (fun q2 => h9 ⟨Int32.not_lt.mp q1, q2⟩)]
        · unfold f_X12_move
          rw [bd1_t hm, if_neg (by decide), bd1_t m_in01, if_neg h9, if_pos rfl]
    · exact absurd hb hb'
  · rcases m_is (v := p) (n := F) (by omega) with ⟨hb', -⟩ | ⟨-, hm⟩
    · exact absurd hb' hb
    · refine ⟨-1, cft, mft, ft, ?_, ?_, h⟩
      · unfold f_X11_move; rw [bd1_t hx, if_pos rfl]
      · unfold f_X12_move; rw [bd1_t hm, if_pos rfl]
