/-! a whole rule -/
theorem ix91 : ∀ q, q < 256 → sidx 91 (nI q) = if q = 60 then 0 else if q = 62 then 1 else if q = 61 then 2 else -1 := by decide +kernel
theorem ix92 : ∀ q, q < 256 → sidx 92 (nI q) = if q = 43 then 0 else if q = 45 then 1 else -1 := by decide +kernel
theorem ix93 : ∀ q, q < 256 → sidx 93 (nI q) = if q = 42 then 0 else if q = 47 then 1 else -1 := by decide +kernel
section
variable {y l p : Nat} {tc : Nat → Nat} {sg mx0 : Nat → Int32}
theorem m_hr {e : Ev} {a : Nat} (he : okE y l tc sg e) (ha : a ≤ l) : f_X12_here_t (nI y) 40 (nI a) e.mx = some (if a < l then nI (tc a) else -1) := m_hereN (T := 40) he.1 (by have := rd_l he.1; omega)
theorem hr_ne {e : Ev} {a c : Nat} (he : okE y l tc sg e) (hc : c < 256) (h : sn tc l a ≠ c) : ¬ (if a < l then nI (tc a) else -1) = nI c := by
  unfold sn at h
  by_cases z : a < l
  · rw [if_pos z] at h ⊢
    intro w
    exact h ((nI_eq (by have := (rd_s he.1 a z).1; omega) (by omega)).mp w)
  · rw [if_neg z]
    exact fun w => m1_ne (k := c) (by omega) w.symm
theorem hr_eq {e : Ev} {a c : Nat} (he : okE y l tc sg e) (hc : c < 256) (h : sn tc l a = c) : (if a < l then nI (tc a) else -1) = nI c := by
  obtain ⟨h1, h2⟩ := sn_lt he.1 hc h
  rw [if_pos h1, h2]
theorem out_prod (h0 : okRd y 40 l tc sg mx0) {n m b : Nat} (hsub : ∀ a, a ≤ l → b ≤ a → Out y l tc sg 0 (fun _ => []) a (fun d g => f_X7_readLevel n 3 (nI p) (nI l) (nI a) d sg g) (fun e => f_X12_thing_t m (nI p) (nI y) 40 (nI a) (-1) e.ia e.ah e.af e.al e.ai e.mk e.mf e.ms e.mc e.ma e.mx)) (a : Nat) (ha : a ≤ l) (hb : b ≤ a) : Out y l tc sg 0 (fun _ => []) a (fun d g => f_X7_readLevel (n + 1) 2 (nI p) (nI l) (nI a) d sg g) (fun e => f_X12_product_t (m + 1) (nI p) (nI y) 40 (nI a) (-1) e.ia e.ah e.af e.al e.ai e.mk e.mf e.ms e.mc e.ma e.mx) := by
  refine out_level (lv := 2) (c0 := 42) (c1 := 47) h0 (.inr rfl) (by omega) (by omega) (by omega) ix93 (fun e => s_X12_product_t_6 (f_X12_thing_t m) (nI p) (nI y) 40 e.ia e.ah e.af e.al e.ai e.mk e.mf e.ms e.mc e.ma e.mx k_X12_product_t_6) (fun a e => f_X12_thing_t m (nI p) (nI y) 40 (nI a) (-1) e.ia e.ah e.af e.al e.ai e.mk e.mf e.ms e.mc e.ma e.mx) hsub ?_ ?_ ?_ a ha hb
  · intro e rc v at' w hw
    unfold s_X12_product_t_6
    rw [bd1_t (m_fine_f hw), if_pos rfl]; rfl
  · intro e rc v a he ha z0 z1
    unfold s_X12_product_t_6
    rw [bd1_t m_fine_t, if_neg i10n, bd1_t (m_hr he ha), if_neg (show ¬ (if a < l then nI (tc a) else -1) = 42 from hr_ne (c := 42) he (by omega) z0), bd1_t (m_hr he ha), if_neg (show ¬ (if a < l then nI (tc a) else -1) = 47 from hr_ne (c := 47) he (by omega) z1)]; rfl
  · intro e rc v a i he hi hc
    have hlt : a < l := (sn_lt he.1 (show (if i = 0 then 42 else 47) < 256 by split <;> omega) hc).1
    unfold s_X12_product_t_6
    obtain rfl | rfl : i = 0 ∨ i = 1 := by omega
    · have e1 : (if a < l then nI (tc a) else -1) = 42 := hr_eq (c := 42) he (by omega) hc
      rw [bd1_t m_fine_t, if_neg i10n, bd1_t (m_hr he (by omega)), e1, if_pos rfl]
      unfold j_X12_product_t_31
      rw [bd1_t (m_hr he (by omega)), e1, if_pos rfl]
      unfold j_X12_product_t_45
      rw [nI_1]
      rfl
    · have e1 : (if a < l then nI (tc a) else -1) = 47 := hr_eq (c := 47) he (by omega) hc
      rw [bd1_t m_fine_t, if_neg i10n, bd1_t (m_hr he (by omega)), e1, if_neg (by decide), bd1_t (m_hr he (by omega)), e1, if_pos rfl]
      unfold j_X12_product_t_31
      rw [bd1_t (m_hr he (by omega)), e1, if_neg (by decide)]
      unfold j_X12_product_t_45
      rw [nI_1]
      congr 1
      funext r at' w
      rw [if_pos rfl]
      show _ = rc (if r = 0 then 0 else v / r) at' w
      by_cases z : r = 0
      · rw [if_pos z, if_pos z]
      · rw [if_neg z, if_neg z, gd_t (by unfold nz; simp [z])]; rfl
theorem out_sum (h0 : okRd y 40 l tc sg mx0) {n m b : Nat} (hsub : ∀ a, a ≤ l → b ≤ a → Out y l tc sg 0 (fun _ => []) a (fun d g => f_X7_readLevel n 2 (nI p) (nI l) (nI a) d sg g) (fun e => f_X12_product_t m (nI p) (nI y) 40 (nI a) (-1) e.ia e.ah e.af e.al e.ai e.mk e.mf e.ms e.mc e.ma e.mx)) (a : Nat) (ha : a ≤ l) (hb : b ≤ a) : Out y l tc sg 0 (fun _ => []) a (fun d g => f_X7_readLevel (n + 1) 1 (nI p) (nI l) (nI a) d sg g) (fun e => f_X12_sum_t (m + 1) (nI p) (nI y) 40 (nI a) (-1) e.ia e.ah e.af e.al e.ai e.mk e.mf e.ms e.mc e.ma e.mx) := by
  refine out_level (lv := 1) (c0 := 43) (c1 := 45) h0 (.inl rfl) (by omega) (by omega) (by omega) ix92 (fun e => s_X12_sum_t_6 (f_X12_product_t m) (nI p) (nI y) 40 e.ia e.ah e.af e.al e.ai e.mk e.mf e.ms e.mc e.ma e.mx k_X12_sum_t_6) (fun a e => f_X12_product_t m (nI p) (nI y) 40 (nI a) (-1) e.ia e.ah e.af e.al e.ai e.mk e.mf e.ms e.mc e.ma e.mx) hsub ?_ ?_ ?_ a ha hb
  · intro e rc v at' w hw
    unfold s_X12_sum_t_6
    rw [bd1_t (m_fine_f hw), if_pos rfl]; rfl
  · intro e rc v a he ha z0 z1
    unfold s_X12_sum_t_6
    rw [bd1_t m_fine_t, if_neg i10n, bd1_t (m_hr he ha), if_neg (show ¬ (if a < l then nI (tc a) else -1) = 43 from hr_ne (c := 43) he (by omega) z0), bd1_t (m_hr he ha), if_neg (show ¬ (if a < l then nI (tc a) else -1) = 45 from hr_ne (c := 45) he (by omega) z1)]; rfl
  · intro e rc v a i he hi hc
    have hlt : a < l := (sn_lt he.1 (show (if i = 0 then 43 else 45) < 256 by split <;> omega) hc).1
    unfold s_X12_sum_t_6
    obtain rfl | rfl : i = 0 ∨ i = 1 := by omega
    · have e1 : (if a < l then nI (tc a) else -1) = 43 := hr_eq (c := 43) he (by omega) hc
      rw [bd1_t m_fine_t, if_neg i10n, bd1_t (m_hr he (by omega)), e1, if_pos rfl]
      unfold j_X12_sum_t_31
      rw [bd1_t (m_hr he (by omega)), e1, if_pos rfl]
      unfold j_X12_sum_t_45
      rw [nI_1]
      rfl
    · have e1 : (if a < l then nI (tc a) else -1) = 45 := hr_eq (c := 45) he (by omega) hc
      rw [bd1_t m_fine_t, if_neg i10n, bd1_t (m_hr he (by omega)), e1, if_neg (by decide), bd1_t (m_hr he (by omega)), e1, if_pos rfl]
      unfold j_X12_sum_t_31
      rw [bd1_t (m_hr he (by omega)), e1, if_neg (by decide)]
      unfold j_X12_sum_t_45
      rw [nI_1]
      rfl
/-- behind the first sum -/
def hRest (m : Nat) (p y : Nat) (e : Ev) (v at' w : Int32) : Option (Int32 × Int32 × Int32) :=
  bd2 (f_X12_passes_t 60 (nI y) 40 at' w e.mx) (fun r4 a5 => if r4 = 0 then bd2 (f_X12_passes_t 62 (nI y) 40 a5 w e.mx) (fun r6 a7 => if r6 = 0 then bd2 (f_X12_passes_t 61 (nI y) 40 a7 w e.mx) (fun r8 a9 => if r8 = 0 then some (v, a9, w) else bd3 (f_X12_sum_t m (nI p) (nI y) 40 a9 w e.ia e.ah e.af e.al e.ai e.mk e.mf e.ms e.mc e.ma e.mx) (fun r a w => if v = r then some (1, a, w) else some (0, a, w))) else bd3 (f_X12_sum_t m (nI p) (nI y) 40 a7 w e.ia e.ah e.af e.al e.ai e.mk e.mf e.ms e.mc e.ma e.mx) (fun r a w => if v ≤ r then some (0, a, w) else some (1, a, w))) else bd3 (f_X12_sum_t m (nI p) (nI y) 40 a5 w e.ia e.ah e.af e.al e.ai e.mk e.mf e.ms e.mc e.ma e.mx) (fun r a w => if r ≤ v then some (0, a, w) else some (1, a, w)))
def cp3 (i : Nat) : Nat := if i = 0 then 60 else if i = 1 then 62 else 61
theorem out_held (h0 : okRd y 40 l tc sg mx0) {n m b : Nat} (hsub : ∀ a, a ≤ l → b ≤ a → Out y l tc sg 0 (fun _ => []) a (fun d g => f_X7_readLevel n 1 (nI p) (nI l) (nI a) d sg g) (fun e => f_X12_sum_t m (nI p) (nI y) 40 (nI a) (-1) e.ia e.ah e.af e.al e.ai e.mk e.mf e.ms e.mc e.ma e.mx)) (a : Nat) (ha : a ≤ l) (hb : b ≤ a) : Out y l tc sg 0 (fun _ => []) a (fun d g => f_X7_readLevel (n + 1) 0 (nI p) (nI l) (nI a) d sg g) (fun e => f_X12_held_t (m + 1) (nI p) (nI y) 40 (nI a) (-1) e.ia e.ah e.af e.al e.ai e.mk e.mf e.ms e.mc e.ma e.mx) := by
  have hl := rd_l h0
  obtain ⟨f, hf⟩ : ∃ f, zN = f + 1 + 1 := ⟨99998, by unfold zN; omega⟩
  refine out_cg (out_seq (δ := 0) (pre := fun _ => []) (rest := fun _ => []) (fun at' d' g' => ml4 (s_X7_readLevel_41 (f_X7_readLevel n) 0 (nI p) (nI l) sg 1 k_X7_readLevel_41) zN 0 at' d' g') (hRest m p y) (hsub a ha hb) (by omega) (fun e v at' w hw => ?_) (fun a1 E0 g1 g2 => ?_)) (fun d g => ?_) (fun e he => rfl)
  · unfold hRest
    exact re2 (m_passes_f hw _ _ _ _ _) (rt_t rfl (re2 (m_passes_f hw _ _ _ _ _) (rt_t rfl (re2 (m_passes_f hw _ _ _ _ _) (rt_t rfl (rt_some rfl))))))
  · rw [hf]
    by_cases hc : ∃ i, i < 3 ∧ sn tc l a1 = cp3 i
    · obtain ⟨i, hi, hc⟩ := hc
      have hcb : cp3 i < 256 := by unfold cp3; split <;> (try split) <;> omega
      obtain ⟨hlt, htc⟩ := sn_lt h0 hcb hc
      have ev : f_X9_oneOf 91 (nI l) (nI a1) sg = some (nI i, nI (a1 + 1)) := x_oneT h0 (by decide) hlt (by omega) (by
        rw [ix91 _ (rd_s h0 a1 hlt).1, htc]
        obtain rfl | rfl | rfl : i = 0 ∨ i = 1 ∨ i = 2 := by omega
        all_goals rfl)
      refine out_cg (out_step (out_seq (δ := 1) (pre := fun _ => []) (rest := fun th => [E0 th]) (fun at' d' g' => bd2 (f_X7_emit (nI (2000 + i)) d' g') (fun d2 g2 => some (1, at', d2, g2))) (fun e v at' w => some (jnv (nI i) (E0 e.t) v, at', w)) (hsub (a1 + 1) (by omega) (by omega)) (by omega) (fun e v at' w hw' => rt_some rfl) (fun a2 E1 k1 k2 => ?_))) (fun d g => ?_) (fun e he => ?_)
      · refine out_emit (c := 2000 + i) (pre' := fun th => [jnv (nI i) (E0 th) (E1 th)]) (X := fun d g => some (1, nI a2, d, g)) (out_end (a' := a2) (E0 := fun th => jnv (nI i) (E0 th) (E1 th)) (Nat.le_refl _) k2 (fun _ => rfl) (fun _ _ => rfl) (fun _ _ => rfl)) (by omega) k2 (.inr ⟨by omega, by omega⟩) (fun th st => ?_)
        unfold exe1
        rw [if_pos (by omega), if_neg (by omega), Nat.add_sub_cancel_left]
        rfl
      · show s_X7_readLevel_41 (f_X7_readLevel n) 0 (nI p) (nI l) sg 1 k_X7_readLevel_41 (ml4 (s_X7_readLevel_41 (f_X7_readLevel n) 0 (nI p) (nI l) sg 1 k_X7_readLevel_41) (f + 1)) 0 (nI a1) d g = _
        have hk : ∀ at' d' g', ml4 (s_X7_readLevel_41 (f_X7_readLevel n) 0 (nI p) (nI l) sg 1 k_X7_readLevel_41) (f + 1) (0 + 1) at' d' g' = some (1, at', d', g') := by
          intro at' d' g'
          show s_X7_readLevel_41 (f_X7_readLevel n) 0 (nI p) (nI l) sg 1 k_X7_readLevel_41 _ (0 + 1) at' d' g' = _
          unfold s_X7_readLevel_41
          rw [if_pos (by decide)]; rfl
        unfold s_X7_readLevel_41
        rw [if_neg (by decide), bd1_t (show f_X7_signsOf 0 = some 91 from rfl), bd2_t ev, if_pos (show (0 : Int32) ≤ nI i from nI_le (a := 0) (by omega) (by omega))]
        have e2 : (2000 : Int32) + 0 * 3 + nI i = nI (2000 + i) := by
          rw [show (2000 : Int32) + 0 * 3 = nI 2000 from rfl, nI_add]
        rw [e2]
        simp only [lt1_e, hk]
        rfl
      · show hRest m p y e (E0 e.t) (nI a1) (-1) = _
        unfold hRest
        obtain rfl | rfl | rfl : i = 0 ∨ i = 1 ∨ i = 2 := by omega
        · have hc' : sn tc l a1 = 60 := hc
          rw [bd2_t (show f_X12_passes_t 60 (nI y) 40 (nI a1) (-1) e.mx = some (1, nI (a1 + 1)) from m_passT (c := 60) (T := 40) he.1 (by omega) hc'), if_neg i10n]
          congr 1
          funext r at' w
          show _ = some ((if r ≤ E0 e.t then 0 else 1), at', w)
          by_cases z : r ≤ E0 e.t
          · rw [if_pos z, if_pos z]
          · rw [if_neg z, if_neg z]
        · have hc' : sn tc l a1 = 62 := hc
          rw [bd2_t (show f_X12_passes_t 60 (nI y) 40 (nI a1) (-1) e.mx = some (0, nI a1) from m_passF (c := 60) (T := 40) he.1 (by omega) (by omega) (by omega)), if_pos rfl, bd2_t (show f_X12_passes_t 62 (nI y) 40 (nI a1) (-1) e.mx = some (1, nI (a1 + 1)) from m_passT (c := 62) (T := 40) he.1 (by omega) hc'), if_neg i10n]
          congr 1
          funext r at' w
          show _ = some ((if E0 e.t ≤ r then 0 else 1), at', w)
          by_cases z : E0 e.t ≤ r
          · rw [if_pos z, if_pos z]
          · rw [if_neg z, if_neg z]
        · have hc' : sn tc l a1 = 61 := hc
          rw [bd2_t (show f_X12_passes_t 60 (nI y) 40 (nI a1) (-1) e.mx = some (0, nI a1) from m_passF (c := 60) (T := 40) he.1 (by omega) (by omega) (by omega)), if_pos rfl, bd2_t (show f_X12_passes_t 62 (nI y) 40 (nI a1) (-1) e.mx = some (0, nI a1) from m_passF (c := 62) (T := 40) he.1 (by omega) (by omega) (by omega)), if_pos rfl, bd2_t (show f_X12_passes_t 61 (nI y) 40 (nI a1) (-1) e.mx = some (1, nI (a1 + 1)) from m_passT (c := 61) (T := 40) he.1 (by omega) hc'), if_neg i10n]
          congr 1
          funext r at' w
          show _ = some ((if E0 e.t = r then 1 else 0), at', w)
          by_cases z : E0 e.t = r
          · rw [if_pos z, if_pos z]
          · rw [if_neg z, if_neg z]
    · have n0 : ¬ sn tc l a1 = 60 := fun z => hc ⟨0, by omega, z⟩
      have n1 : ¬ sn tc l a1 = 62 := fun z => hc ⟨1, by omega, z⟩
      have n2 : ¬ sn tc l a1 = 61 := fun z => hc ⟨2, by omega, z⟩
      refine out_end (a' := a1) (E0 := E0) (Nat.le_refl _) g2 (fun _ => rfl) (fun d g => ?_) (fun e he => ?_)
      · show s_X7_readLevel_41 (f_X7_readLevel n) 0 (nI p) (nI l) sg 1 k_X7_readLevel_41 (ml4 (s_X7_readLevel_41 (f_X7_readLevel n) 0 (nI p) (nI l) sg 1 k_X7_readLevel_41) (f + 1)) 0 (nI a1) d g = _
        obtain ⟨v, hv, ev⟩ := x_oneF (a := a1) (s := 91) h0 (by omega) (by decide) (fun z => by
          unfold sn at n0 n1 n2
          rw [if_pos z] at n0 n1 n2
          rw [ix91 _ (rd_s h0 a1 z).1, if_neg n0, if_neg n1, if_neg n2]; decide)
        unfold s_X7_readLevel_41
        rw [if_neg (by decide), bd1_t (show f_X7_signsOf 0 = some 91 from rfl), bd2_t ev, if_neg (Int32.not_le.mpr hv)]
      · show hRest m p y e (E0 e.t) (nI a1) (-1) = _
        unfold hRest
        rw [bd2_t (show f_X12_passes_t 60 (nI y) 40 (nI a1) (-1) e.mx = some (0, nI a1) from m_passF (c := 60) (T := 40) he.1 (by omega) (by omega) n0), if_pos rfl, bd2_t (show f_X12_passes_t 62 (nI y) 40 (nI a1) (-1) e.mx = some (0, nI a1) from m_passF (c := 62) (T := 40) he.1 (by omega) (by omega) n1), if_pos rfl, bd2_t (show f_X12_passes_t 61 (nI y) 40 (nI a1) (-1) e.mx = some (0, nI a1) from m_passF (c := 61) (T := 40) he.1 (by omega) (by omega) n2), if_pos rfl]
  · show g_X7_readLevel (G_X7_readBareThing n).1 (G_X7_readBareThing n).2.1 (G_X7_readBareThing n).2.2 0 (nI p) (nI l) (nI a) d sg g = _
    unfold g_X7_readLevel j_X7_readLevel_36
    rw [if_pos (by decide)]
    have hz : ((0 : Int32) = 0) = True := eq_true rfl
    simp only [hz, if_true]
    rfl
theorem out_all (h0 : okRd y 40 l tc sg mx0) : ∀ k p, p + k = 4 → ∀ j a m, a ≤ l → 4 * k + (l - a) + 4 ≤ m → Out y l tc sg 0 (fun _ => []) a (fun d g => f_X7_readLevel (6 * k + 6 + j) 0 (nI p) (nI l) (nI a) d sg g) (fun e => f_X12_held_t m (nI p) (nI y) 40 (nI a) (-1) e.ia e.ah e.af e.al e.ai e.mk e.mf e.ms e.mc e.ma e.mx) := by
  have top : ∀ k p n, p + k = 4 → (∀ a m, a ≤ l → ¬ sn tc l a = 45 → 4 * k + 1 + (l - a) ≤ m → Out y l tc sg 0 (fun _ => []) a (fun d g => f_X7_readBareThing n (nI p) (nI l) (nI a) d sg g) (fun e => f_X12_thing_t m (nI p) (nI y) 40 (nI a) (-1) e.ia e.ah e.af e.al e.ai e.mk e.mf e.ms e.mc e.ma e.mx)) → ∀ a m, a ≤ l → 4 * k + (l - a) + 4 ≤ m → Out y l tc sg 0 (fun _ => []) a (fun d g => f_X7_readLevel (n + 5) 0 (nI p) (nI l) (nI a) d sg g) (fun e => f_X12_held_t m (nI p) (nI y) 40 (nI a) (-1) e.ia e.ah e.af e.al e.ai e.mk e.mf e.ms e.mc e.ma e.mx) := by
    intro k p n hp HB a m ha hm
    obtain ⟨m, rfl⟩ : ∃ m', m = m' + 1 + 1 + 1 := ⟨m - 3, by omega⟩
    have s3 : ∀ a1, a1 ≤ l → a ≤ a1 → Out y l tc sg 0 (fun _ => []) a1 (fun d g => f_X7_readLevel (n + 2) 3 (nI p) (nI l) (nI a1) d sg g) (fun e => f_X12_thing_t m (nI p) (nI y) 40 (nI a1) (-1) e.ia e.ah e.af e.al e.ai e.mk e.mf e.ms e.mc e.ma e.mx) := fun a1 h1 h2 => out_thing h0 (by omega) (by omega) HB a1 m h1 (by omega)
    have s2 := fun a1 h1 h2 => out_prod (b := a) h0 s3 a1 h1 h2
    have s1 := fun a1 h1 h2 => out_sum (b := a) h0 s2 a1 h1 h2
    exact out_held (b := a) h0 s1 a ha (Nat.le_refl _)
  intro k
  induction k with
  | zero =>
    intro p hp j a m ha hm
    have := top 0 p (j + 1) hp (fun a m ha' hm' h4 => by
      obtain ⟨m, rfl⟩ : ∃ m', m = m' + 1 := ⟨m - 1, by omega⟩
      exact out_bare h0 ha' (by omega) hm' (fun z => absurd z (by omega))) a m ha hm
    rw [show 6 * 0 + 6 + j = j + 1 + 5 by omega]
    exact this
  | succ k ih =>
    intro p hp j a m ha hm
    have := top (k + 1) p (6 * k + 6 + j + 1) hp (fun a m ha' hm' h4 => by
      obtain ⟨m, rfl⟩ : ∃ m', m = m' + 1 := ⟨m - 1, by omega⟩
      exact out_bare h0 ha' (by omega) hm' (fun _ hb => ih (p + 1) (by omega) j (a + 1) m hb (by omega))) a m ha hm
    rw [show 6 * (k + 1) + 6 + j = 6 * k + 6 + j + 1 + 5 by omega]
    exact this
end
