/-! things of a rule -/
def k8 (q : Nat) : Int32 := if q = 104 then 0 else if q = 115 then 1 else if q = 99 then 2 else if q = 112 then 3 else if q = 120 then 4 else if q = 102 then 5 else if q = 107 then 6 else if q = 121 then 7 else -1
theorem ix90 : ∀ q, q < 256 → sidx 90 (nI q) = k8 q := by decide +kernel
theorem k8_c (q : Nat) : (k8 q = -1 ∧ ∀ k, k < 8 → q ≠ lt8 k) ∨ ∃ k, k < 8 ∧ k8 q = nI k ∧ q = lt8 k := by
  by_cases c : ∃ k, k < 8 ∧ q = lt8 k
  · obtain ⟨k, hk, rfl⟩ := c
    refine .inr ⟨k, hk, ?_, rfl⟩
    obtain rfl | rfl | rfl | rfl | rfl | rfl | rfl | rfl : k = 0 ∨ k = 1 ∨ k = 2 ∨ k = 3 ∨ k = 4 ∨ k = 5 ∨ k = 6 ∨ k = 7 := by omega
    all_goals rfl
  · have h : ∀ k, k < 8 → q ≠ lt8 k := fun k hk z => c ⟨k, hk, z⟩
    refine .inl ⟨?_, h⟩
    unfold k8
    rw [if_neg (show ¬ q = 104 from h 0 (by omega)), if_neg (show ¬ q = 115 from h 1 (by omega)), if_neg (show ¬ q = 99 from h 2 (by omega)), if_neg (show ¬ q = 112 from h 3 (by omega)), if_neg (show ¬ q = 120 from h 4 (by omega)), if_neg (show ¬ q = 102 from h 5 (by omega)), if_neg (show ¬ q = 107 from h 6 (by omega)), if_neg (show ¬ q = 121 from h 7 (by omega))]
section
variable {y l a p : Nat} {tc : Nat → Nat} {sg mx0 : Nat → Int32}
theorem nd_z {k : Nat} (hk : 1 ≤ k) : nd tc l k a = 0 ↔ ¬ isDg tc l a 0 10 := by
  constructor
  · intro z d
    have := nd_end (tc := tc) (l := l) k a (by omega)
    rw [z] at this
    exact this d
  · intro z
    by_cases c : nd tc l k a = 0
    · exact c
    · exact absurd (nd_dg (tc := tc) (l := l) k a 0 (by omega)) z
theorem m_th0 {e : Ev} (he : okE y l tc sg e) (ha : a ≤ l) (hm : ¬ sn tc l a = 45) (m : Nat) {Q : Int32 × Int32 × Int32 → Prop} (hQ : Rt (if (if a < l then nI (tc a) else -1) = 40 then (if 4 ≤ nI p then j_X12_thing_t_67 (nI y) 40 e.ia e.ah e.af e.al e.ai e.mk e.mf e.ms e.mc e.ma e.mx (if a < l then nI (tc a) else -1) (nI a) (-1) else bd3 (f_X12_held_t m (nI p + 1) (nI y) 40 (nI a + 1) (-1) e.ia e.ah e.af e.al e.ai e.mk e.mf e.ms e.mc e.ma e.mx) (fun v at' w => bd2 (f_X12_need_t 41 (nI y) 40 at' w e.mx) (fun at2 w2 => some (v, at2, w2)))) else j_X12_thing_t_67 (nI y) 40 e.ia e.ah e.af e.al e.ai e.mk e.mf e.ms e.mc e.ma e.mx (if a < l then nI (tc a) else -1) (nI a) (-1)) Q) : Rt (f_X12_thing_t (m + 1) (nI p) (nI y) 40 (nI a) (-1) e.ia e.ah e.af e.al e.ai e.mk e.mf e.ms e.mc e.ma e.mx) Q := by
  have hl := rd_l he.1
  show Rt (g_X12_thing_t (G_X12_held_t m).1 (G_X12_held_t m).2.1 (G_X12_held_t m).2.2.1 (G_X12_held_t m).2.2.2 (nI p) (nI y) 40 (nI a) (-1) e.ia e.ah e.af e.al e.ai e.mk e.mf e.ms e.mc e.ma e.mx) Q
  unfold g_X12_thing_t
  exact re2 (m_passF (c := 45) (T := 40) he.1 (by omega) (by omega) hm) (rt_t rfl (re1 m_fine_t (rt_f i10n (re1 (m_hereN (T := 40) he.1 (by omega)) hQ))))
theorem m_thD {e : Ev} (he : okE y l tc sg e) (ha : a ≤ l) (d : isDg tc l a 0 10) (m : Nat) : f_X12_thing_t (m + 1) (nI p) (nI y) 40 (nI a) (-1) e.ia e.ah e.af e.al e.ai e.mk e.mf e.ms e.mc e.ma e.mx = some (nI (nv tc a (nd tc l 3 a)), nI (a + nd tc l 3 a), -1) := by
  have hl := rd_l he.1
  have d2 := d.2
  have s := rd_s he.1 a d.1
  refine rt_get (m_th0 he ha (by unfold sn; rw [if_pos d.1]; omega) m ?_)
  rw [if_pos d.1]
  refine rt_f (fun z => by have := (nI_eq (b := 40) (by omega) (by omega)).mp z; omega) ?_
  unfold j_X12_thing_t_67
  refine re1 (show f_X12_in (nI (tc a)) 48 57 = some 1 by rw [m_inD s.1, if_pos ⟨by omega, by omega⟩]) (rt_f i10n ?_)
  have hn := m_num (T := 40) (k := 3) he.1 (show a < 900 by omega) (by omega) (by omega)
  rw [if_neg (fun z => (nd_z (by omega)).mp z d)] at hn
  exact re3 hn (rt_some rfl)
theorem m_thV {e : Ev} (he : okE y l tc sg e) (c : a < l) {k : Nat} (hk : k < 8) (hc : tc a = lt8 k) (m : Nat) : f_X12_thing_t (m + 1) (nI p) (nI y) 40 (nI a) (-1) e.ia e.ah e.af e.al e.ai e.mk e.mf e.ms e.mc e.ma e.mx = some (e.t k, nI (a + 1), -1) := by
  have hl := rd_l he.1
  have hv := he.2 k hk
  have hb : lt8 k ≠ 45 ∧ lt8 k ≠ 40 := by
    obtain rfl | rfl | rfl | rfl | rfl | rfl | rfl | rfl : k = 0 ∨ k = 1 ∨ k = 2 ∨ k = 3 ∨ k = 4 ∨ k = 5 ∨ k = 6 ∨ k = 7 := by omega
    all_goals decide
  have h142 : Rt (j_X12_thing_t_142 e.ia e.ah e.af e.al e.ai e.mk e.mf e.ms e.mc e.ma (nI (lt8 k)) (nI a) (-1)) (fun r => r = (e.t k, nI (a + 1), -1)) := by
    unfold j_X12_thing_t_142
    by_cases c : e.ia = 0
    · rw [if_pos c] at hv
      refine rt_t c (rt_some ?_)
      rw [hv, nI_1]
    · rw [if_neg c] at hv
      refine rt_f c (re1 hv (rt_some ?_))
      rw [nI_1]
  refine rt_get (m_th0 he (by omega) (by unfold sn; rw [if_pos c, hc]; exact hb.1) m ?_)
  rw [if_pos c, hc]
  refine rt_f (fun z => by have := (nI_eq (b := 40) (by have := (rd_s he.1 a c).1; omega) (by omega)).mp z; exact hb.2 this) ?_
  unfold j_X12_thing_t_67
  obtain rfl | rfl | rfl | rfl | rfl | rfl | rfl | rfl : k = 0 ∨ k = 1 ∨ k = 2 ∨ k = 3 ∨ k = 4 ∨ k = 5 ∨ k = 6 ∨ k = 7 := by omega
  all_goals refine re1 (a1 := 0) rfl (rt_t rfl ?_)
  · exact rt_t rfl h142
  · exact rt_f (by decide) (rt_t rfl h142)
  · exact rt_f (by decide) (rt_f (by decide) (rt_t rfl h142))
  · exact rt_f (by decide) (rt_f (by decide) (rt_f (by decide) (rt_t rfl h142)))
  · exact rt_f (by decide) (rt_f (by decide) (rt_f (by decide) (rt_f (by decide) (rt_t rfl h142))))
  · exact rt_f (by decide) (rt_f (by decide) (rt_f (by decide) (rt_f (by decide) (rt_f (by decide) (rt_t rfl h142)))))
  · exact rt_f (by decide) (rt_f (by decide) (rt_f (by decide) (rt_f (by decide) (rt_f (by decide) (rt_f (by decide) (rt_t rfl h142))))))
  · exact rt_f (by decide) (rt_f (by decide) (rt_f (by decide) (rt_f (by decide) (rt_f (by decide) (rt_f (by decide) (rt_f (by decide) (rt_t rfl h142)))))))
theorem m_thP {e : Ev} (he : okE y l tc sg e) (c : sn tc l a = 40) (hp : p < 4) (m : Nat) : f_X12_thing_t (m + 1) (nI p) (nI y) 40 (nI a) (-1) e.ia e.ah e.af e.al e.ai e.mk e.mf e.ms e.mc e.ma e.mx = bd3 (f_X12_held_t m (nI (p + 1)) (nI y) 40 (nI (a + 1)) (-1) e.ia e.ah e.af e.al e.ai e.mk e.mf e.ms e.mc e.ma e.mx) (fun v at' w => bd2 (f_X12_need_t 41 (nI y) 40 at' w e.mx) (fun at2 w2 => some (v, at2, w2))) := by
  have hl := rd_l he.1
  obtain ⟨c1, c2⟩ := sn_lt he.1 (by omega) c
  show g_X12_thing_t (G_X12_held_t m).1 (G_X12_held_t m).2.1 (G_X12_held_t m).2.2.1 (G_X12_held_t m).2.2.2 (nI p) (nI y) 40 (nI a) (-1) e.ia e.ah e.af e.al e.ai e.mk e.mf e.ms e.mc e.ma e.mx = _
  unfold g_X12_thing_t
  rw [bd2_t (show f_X12_passes_t 45 (nI y) 40 (nI a) (-1) e.mx = some (0, nI a) from m_passF (c := 45) (T := 40) (a := a) he.1 (by omega) (by omega) (by omega)), if_pos rfl, bd1_t m_fine_t, if_neg i10n, bd1_t (show f_X12_here_t (nI y) 40 (nI a) e.mx = some (if a < l then nI (tc a) else -1) from m_hereN (T := 40) he.1 (by omega)), if_pos c1, c2, if_pos (show nI 40 = 40 from rfl), if_neg (show ¬ (4 : Int32) ≤ nI p from nI_ge (b := 4) (by omega) (by omega)), nI_1, nI_1]
  rfl
theorem m_thN {e : Ev} (he : okE y l tc sg e) (ha : a ≤ l) (hm : ¬ sn tc l a = 45) (d : ¬ isDg tc l a 0 10) (hv : a < l → ∀ k, k < 8 → tc a ≠ lt8 k) (hp : sn tc l a = 40 → 4 ≤ p) (hp4 : p ≤ 4) (m : Nat) : Rt (f_X12_thing_t (m + 1) (nI p) (nI y) 40 (nI a) (-1) e.ia e.ah e.af e.al e.ai e.mk e.mf e.ms e.mc e.ma e.mx) (fun r => r.2.2 = nI a) := by
  have hl := rd_l he.1
  have hj : Rt (j_X12_thing_t_67 (nI y) 40 e.ia e.ah e.af e.al e.ai e.mk e.mf e.ms e.mc e.ma e.mx (if a < l then nI (tc a) else -1) (nI a) (-1)) (fun r => r.2.2 = nI a) := by
    unfold j_X12_thing_t_67
    have hin : f_X12_in (if a < l then nI (tc a) else -1) 48 57 = some 0 := by
      by_cases c : a < l
      · rw [if_pos c, m_inD (rd_s he.1 a c).1, if_neg (fun z => d ⟨c, z.1, z.2⟩)]
      · rw [if_neg c]; decide
    have hne : ∀ k, k < 8 → ¬ (if a < l then nI (tc a) else -1) = nI (lt8 k) := by
      intro k hk
      by_cases c : a < l
      · rw [if_pos c]
        intro z
        have hb : lt8 k < 256 := by
          obtain rfl | rfl | rfl | rfl | rfl | rfl | rfl | rfl : k = 0 ∨ k = 1 ∨ k = 2 ∨ k = 3 ∨ k = 4 ∨ k = 5 ∨ k = 6 ∨ k = 7 := by omega
          all_goals decide
        exact hv c k hk ((nI_eq (by have := (rd_s he.1 a c).1; omega) (by omega)).mp z)
      · rw [if_neg c]
        obtain rfl | rfl | rfl | rfl | rfl | rfl | rfl | rfl : k = 0 ∨ k = 1 ∨ k = 2 ∨ k = 3 ∨ k = 4 ∨ k = 5 ∨ k = 6 ∨ k = 7 := by omega
        all_goals decide
    exact re1 hin (rt_t rfl (rt_f (hne 0 (by omega)) (rt_f (hne 1 (by omega)) (rt_f (hne 2 (by omega)) (rt_f (hne 3 (by omega)) (rt_f (hne 4 (by omega)) (rt_f (hne 5 (by omega)) (rt_f (hne 6 (by omega)) (rt_f (hne 7 (by omega)) (re1 (m_fault_t _) (rt_some rfl)))))))))))
  refine m_th0 he ha hm m ?_
  refine rt_if (fun c => ?_) (fun _ => hj)
  have c' : sn tc l a = 40 := by
    unfold sn
    by_cases z : a < l
    · rw [if_pos z] at c ⊢
      exact (nI_eq (b := 40) (by have := (rd_s he.1 a z).1; omega) (by omega)).mp c
    · rw [if_neg z] at c
      exact absurd c (by decide)
  exact rt_t (nI_le (a := 4) (hp c') (by omega)) hj
theorem out_bare (h0 : okRd y 40 l tc sg mx0) (ha : a ≤ l) (hp : p ≤ 4) (hm : ¬ sn tc l a = 45) {n m : Nat} (H : p < 4 → a + 1 ≤ l → Out y l tc sg 0 (fun _ => []) (a + 1) (fun d g => f_X7_readLevel n 0 (nI (p + 1)) (nI l) (nI (a + 1)) d sg g) (fun e => f_X12_held_t m (nI (p + 1)) (nI y) 40 (nI (a + 1)) (-1) e.ia e.ah e.af e.al e.ai e.mk e.mf e.ms e.mc e.ma e.mx)) : Out y l tc sg 0 (fun _ => []) a (fun d g => f_X7_readBareThing (n + 1) (nI p) (nI l) (nI a) d sg g) (fun e => f_X12_thing_t (m + 1) (nI p) (nI y) 40 (nI a) (-1) e.ia e.ah e.af e.al e.ai e.mk e.mf e.ms e.mc e.ma e.mx) := by
  have hl := rd_l h0
  have hX : ∀ d g, f_X7_readBareThing (n + 1) (nI p) (nI l) (nI a) d sg g = g_X7_readBareThing (G_X7_readBareThing n).1 (G_X7_readBareThing n).2.1 (G_X7_readBareThing n).2.2 (nI p) (nI l) (nI a) d sg g := fun _ _ => rfl
  have hnum : f_X9_number 3 (nI l) (nI a) sg = some (if nd tc l 3 a = 0 then (-1, nI a) else (nI (nv tc a (nd tc l 3 a)), nI (a + nd tc l 3 a))) := x_num (k := 3) h0 (show a ≤ 80 by omega) (by omega) (by omega)
  by_cases d : isDg tc l a 0 10
  · have hnd : ¬ nd tc l 3 a = 0 := fun z => (nd_z (by omega)).mp z d
    have hnl : a + nd tc l 3 a ≤ l := by
      have := (nd_dg (tc := tc) (l := l) 3 a (nd tc l 3 a - 1) (by omega)).1
      omega
    have hv : nv tc a (nd tc l 3 a) < 1000 := by
      have h1 := nv_b (tc := tc) (l := l) (a := a) (k := 3) (by omega) (nd tc l 3 a) (Nat.le_refl _)
      have h2 := nd_le (tc := tc) (l := l) 3 a
      have h3 : 10 ^ nd tc l 3 a ≤ 10 ^ 3 := Nat.pow_le_pow_right (by omega) h2
      omega
    rw [if_neg hnd] at hnum
    refine out_cg (out_step (out_emit (c := nv tc a (nd tc l 3 a)) (pre' := fun _ => [nI (nv tc a (nd tc l 3 a))]) (X := fun d g => some (1, nI (a + nd tc l 3 a), d, g)) (Y := fun e => some (nI (nv tc a (nd tc l 3 a)), nI (a + nd tc l 3 a), -1)) (out_end (a' := a + nd tc l 3 a) (E0 := fun _ => nI (nv tc a (nd tc l 3 a))) (by omega) hnl (fun _ => rfl) (fun _ _ => rfl) (fun _ _ => rfl)) (by omega) (by omega) (.inl (by omega)) (fun th st => ?_))) (fun d g => ?_) (fun e he => m_thD he ha d m)
    · unfold exe1
      rw [if_neg (by omega), if_neg (by omega)]; rfl
    · rw [hX]
      unfold g_X7_readBareThing
      rw [bd2_t hnum, if_neg (m1_ne (by omega))]
  · rw [if_pos ((nd_z (by omega)).mpr d)] at hnum
    by_cases c : a < l
    · rcases k8_c (tc a) with ⟨e1, e2⟩ | ⟨k, hk, e1, e2⟩
      · obtain ⟨v, hv, ev⟩ := x_oneF (a := a) (s := 90) h0 (by omega) (by decide) (fun z => by
          rw [ix90 _ (rd_s h0 a z).1, e1]; decide)
        by_cases hpar : sn tc l a = 40 ∧ p < 4
        · obtain ⟨c40, hp4⟩ := hpar
          refine out_cg (out_step (out_slack (out_seq (rest := fun _ => []) (fun at' d' g' => bd2 (f_X9_take 41 (nI l) at' sg) (fun r2 at2 => if r2 = 0 then some (0, at2, d', g') else some (1, at2, d', g'))) (fun e v at' w => bd2 (f_X12_need_t 41 (nI y) 40 at' w e.mx) (fun at2 w2 => some (v, at2, w2))) (H hp4 (by omega)) (by omega) (fun e v at' w hw => re2 (m_needW hw _ _ _ _) (rt_some rfl)) (fun a1 E0 h1 h2 => ?_)))) (fun d g => ?_) (fun e he => m_thP he c40 hp4 m)
          · by_cases c41 : sn tc l a1 = 41
            · have hlt := (sn_lt h0 (by omega) c41).1
              refine out_end (a' := a1 + 1) (E0 := E0) (by omega) (by omega) (fun _ => rfl) (fun d g => ?_) (fun e he => ?_)
              · rw [bd2_t (show f_X9_take 41 (nI l) (nI a1) sg = some (1, nI (a1 + 1)) from x_takeT (c := 41) h0 (by omega) c41), if_neg i10n]
              · rw [bd2_t (show f_X12_need_t 41 (nI y) 40 (nI a1) (-1) e.mx = some (nI (a1 + 1), -1) from m_needT (c := 41) (T := 40) he.1 (by omega) c41)]
            · refine out_fail (q := a1) h2 (fun d g => ⟨d, g, ?_⟩) (fun e he => ?_)
              · rw [bd2_t (show f_X9_take 41 (nI l) (nI a1) sg = some (0, nI a1) from x_takeF (c := 41) h0 (by omega) (by omega) c41), if_pos rfl]
              · exact re2 (m_needF (c := 41) (T := 40) he.1 (by omega) (by omega) c41) (rt_some rfl)
          · rw [hX]
            unfold g_X7_readBareThing
            rw [bd2_t hnum, if_pos rfl, bd2_t ev, if_pos hv, if_neg (show ¬ (4 : Int32) ≤ nI p from nI_ge (b := 4) (by omega) (by omega)), bd2_t (show f_X9_take 40 (nI l) (nI a) sg = some (1, nI (a + 1)) from x_takeT (c := 40) h0 (by omega) c40), if_neg i10n, nI_1]
            rfl
        · refine out_fail (q := a) ha (fun d g => ⟨d, g, ?_⟩) (fun e he => m_thN he ha hm ‹_› (fun _ => e2) (fun z => by omega) hp m)
          rw [hX]
          unfold g_X7_readBareThing
          rw [bd2_t hnum, if_pos rfl, bd2_t ev, if_pos hv]
          by_cases c4 : 4 ≤ p
          · rw [if_pos (show (4 : Int32) ≤ nI p from nI_le (a := 4) c4 (by omega))]
          · rw [if_neg (show ¬ (4 : Int32) ≤ nI p from nI_ge (b := 4) (by omega) (by omega)), bd2_t (show f_X9_take 40 (nI l) (nI a) sg = some (0, nI a) from x_takeF (c := 40) h0 (by omega) (by omega) (fun z => hpar ⟨z, by omega⟩)), if_pos rfl]
      · have ev := x_oneT (s := 90) (v := k) h0 (by decide) c (by omega) (by rw [ix90 _ (rd_s h0 a c).1, e1])
        refine out_cg (out_step (out_emit (c := 1000 + k) (pre' := fun th => [th k]) (X := fun d g => some (1, nI (a + 1), d, g)) (Y := fun e => some (e.t k, nI (a + 1), -1)) (out_end (a' := a + 1) (E0 := fun th => th k) (by omega) (by omega) (fun _ => rfl) (fun _ _ => rfl) (fun _ _ => rfl)) (by omega) (by omega) (.inl (by omega)) (fun th st => ?_))) (fun d g => ?_) (fun e he => m_thV he c hk e2 m)
        · unfold exe1
          rw [if_neg (by omega), if_pos (by omega), Nat.add_sub_cancel_left]; rfl
        · rw [hX]
          unfold g_X7_readBareThing
          rw [bd2_t hnum, if_pos rfl, bd2_t ev, if_neg (show ¬ nI k < 0 from nI_pos (by omega)), c_1000, nI_add]
    · obtain ⟨v, hv, ev⟩ := x_oneF (a := a) (s := 90) h0 (by omega) (by decide) (fun z => absurd z c)
      have hs : sn tc l a = 1000 := by unfold sn; rw [if_neg c]
      refine out_fail (q := a) ha (fun d g => ⟨d, g, ?_⟩) (fun e he => m_thN he ha hm ‹_› (fun z => absurd z c) (fun z => by omega) hp m)
      rw [hX]
      unfold g_X7_readBareThing
      rw [bd2_t hnum, if_pos rfl, bd2_t ev, if_pos hv]
      by_cases c4 : 4 ≤ p
      · rw [if_pos (show (4 : Int32) ≤ nI p from nI_le (a := 4) c4 (by omega))]
      · rw [if_neg (show ¬ (4 : Int32) ≤ nI p from nI_ge (b := 4) (by omega) (by omega)), bd2_t (show f_X9_take 40 (nI l) (nI a) sg = some (0, nI a) from x_takeF (c := 40) h0 (by omega) (by omega) (fun z => by omega)), if_pos rfl]
end
