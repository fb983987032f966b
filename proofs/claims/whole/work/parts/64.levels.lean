/-! levels of a rule -/
section
variable {y l p : Nat} {tc : Nat → Nat} {sg mx0 : Nat → Int32}
theorem m_thM {e : Ev} {a : Nat} (he : okE y l tc sg e) (c : sn tc l a = 45) (m : Nat) : f_X12_thing_t (m + 1) (nI p) (nI y) 40 (nI a) (-1) e.ia e.ah e.af e.al e.ai e.mk e.mf e.ms e.mc e.ma e.mx = bd3 (f_X12_thing_t m (nI p) (nI y) 40 (nI (a + 1)) (-1) e.ia e.ah e.af e.al e.ai e.mk e.mf e.ms e.mc e.ma e.mx) (fun v at' w => some (-v, at', w)) := by
  show g_X12_thing_t (G_X12_held_t m).1 (G_X12_held_t m).2.1 (G_X12_held_t m).2.2.1 (G_X12_held_t m).2.2.2 (nI p) (nI y) 40 (nI a) (-1) e.ia e.ah e.af e.al e.ai e.mk e.mf e.ms e.mc e.ma e.mx = _
  unfold g_X12_thing_t
  rw [bd2_t (show f_X12_passes_t 45 (nI y) 40 (nI a) (-1) e.mx = some (1, nI (a + 1)) from m_passT (c := 45) (T := 40) (a := a) he.1 (by omega) c), if_neg i10n]
  rfl
theorem bd3_bd3 (x : Option (Int32 × Int32 × Int32)) (k1 k2 k3 : Int32 → Int32) (h : ∀ v, k2 (k1 v) = k3 v) : bd3 (bd3 x (fun v at' w => some (k1 v, at', w))) (fun v at' w => some (k2 v, at', w)) = bd3 x (fun v at' w => some (k3 v, at', w)) := by
  cases x with
  | none => rfl
  | some r => obtain ⟨r1, r2, r3⟩ := r; show some (k2 (k1 r1), r2, r3) = some (k3 r1, r2, r3); rw [h]
def ngf (s : Nat) (v : Int32) : Int32 := if s = 1 then -v else v
theorem out_minus (h0 : okRd y 40 l tc sg mx0) (hp : p ≤ 4) {n m0 : Nat} (HB : ∀ a m, a ≤ l → ¬ sn tc l a = 45 → m0 + (l - a) ≤ m → Out y l tc sg 0 (fun _ => []) a (fun d g => f_X7_readBareThing n (nI p) (nI l) (nI a) d sg g) (fun e => f_X12_thing_t m (nI p) (nI y) 40 (nI a) (-1) e.ia e.ah e.af e.al e.ai e.mk e.mf e.ms e.mc e.ma e.mx)) : ∀ N a s k f m, l - a ≤ N → N + 1 < f → k ≤ a → a ≤ l → s ≤ 1 → 1 ≤ m0 → m0 + (l - a) ≤ m → Out y l tc sg s (fun _ => []) a (fun d g => ml3 (s_X7_readThing_5 (nI l) sg (k_X7_readThing_5 (f_X7_readBareThing n) (nI p) (nI l) d sg g)) f (nI s) (nI k) (nI a)) (fun e => bd3 (f_X12_thing_t m (nI p) (nI y) 40 (nI a) (-1) e.ia e.ah e.af e.al e.ai e.mk e.mf e.ms e.mc e.ma e.mx) (fun v at' w => some (ngf s v, at', w))) := by
  have hl := rd_l h0
  have base : ∀ a s k f m, k ≤ a → a ≤ l → s ≤ 1 → m0 + (l - a) ≤ m → ¬ sn tc l a = 45 → Out y l tc sg s (fun _ => []) a (fun d g => ml3 (s_X7_readThing_5 (nI l) sg (k_X7_readThing_5 (f_X7_readBareThing n) (nI p) (nI l) d sg g)) (f + 1) (nI s) (nI k) (nI a)) (fun e => bd3 (f_X12_thing_t m (nI p) (nI y) 40 (nI a) (-1) e.ia e.ah e.af e.al e.ai e.mk e.mf e.ms e.mc e.ma e.mx) (fun v at' w => some (ngf s v, at', w))) := by
    intro a s k f m hk ha hs hm0 hm
    refine out_cg (out_seq (δ := s) (rest := fun _ => []) (fun at' d' g' => if nI s = 0 then some (1, at', d', g') else bd2 (f_X7_emit 3000 d' g') (fun d2 g2 => some (1, at', d2, g2))) (fun e v at' w => some (ngf s v, at', w)) (HB a m ha hm hm0) (by omega) (fun e v at' w hw => rt_some rfl) (fun a1 E0 h1 h2 => ?_)) (fun d g => ?_) (fun e he => rfl)
    · obtain rfl | rfl : s = 0 ∨ s = 1 := by omega
      · exact out_end (a' := a1) (E0 := E0) (Nat.le_refl _) h2 (fun _ => rfl) (fun _ _ => rfl) (fun _ _ => rfl)
      · exact out_cg (out_emit (c := 3000) (pre' := fun th => [-(E0 th)]) (X := fun d g => some (1, nI a1, d, g)) (Y := fun e => some (-(E0 e.t), nI a1, -1)) (out_end (a' := a1) (E0 := fun th => -(E0 th)) (Nat.le_refl _) h2 (fun _ => rfl) (fun _ _ => rfl) (fun _ _ => rfl)) (by omega) h2 (.inr ⟨by omega, by omega⟩) (fun th st => rfl)) (fun d g => rfl) (fun e he => rfl)
    · show s_X7_readThing_5 (nI l) sg (k_X7_readThing_5 (f_X7_readBareThing n) (nI p) (nI l) d sg g) _ (nI s) (nI k) (nI a) = _
      have hk2 : k_X7_readThing_5 (f_X7_readBareThing n) (nI p) (nI l) d sg g (nI s) (nI a) = bd4 (f_X7_readBareThing n (nI p) (nI l) (nI a) d sg g) (fun r at' d' g' => if r = 0 then some (0, at', d', g') else if nI s = 0 then some (1, at', d', g') else bd2 (f_X7_emit 3000 d' g') (fun d2 g2 => some (1, at', d2, g2))) := rfl
      unfold s_X7_readThing_5
      by_cases c : 40 ≤ k
      · rw [if_pos (show (40 : Int32) ≤ nI k from nI_le (a := 40) c (by omega)), hk2]
      · rw [if_neg (show ¬ (40 : Int32) ≤ nI k from nI_ge (b := 40) (by omega) (by omega)), bd2_t (show f_X9_take 45 (nI l) (nI a) sg = some (0, nI a) from x_takeF (c := 45) h0 (by omega) (by omega) hm), if_pos rfl, hk2]
  intro N
  induction N with
  | zero =>
    intro a s k f m h1 h2 h3 h4 h5 h6 h7
    obtain ⟨f, rfl⟩ : ∃ f', f = f' + 1 := ⟨f - 1, by omega⟩
    exact base a s k f m h3 h4 h5 h7 (by unfold sn; rw [if_neg (by omega)]; omega)
  | succ N ih =>
    intro a s k f m h1 h2 h3 h4 h5 h6 h7
    obtain ⟨f, rfl⟩ : ∃ f', f = f' + 1 := ⟨f - 1, by omega⟩
    by_cases hm : sn tc l a = 45
    · have hlt := (sn_lt h0 (by omega) hm).1
      obtain ⟨m, rfl⟩ : ∃ m', m = m' + 1 := ⟨m - 1, by omega⟩
      have I := ih (a + 1) (1 - s) (k + 1) f m (by omega) (by omega) (by omega) (by omega) (by omega) h6 (by omega)
      have I2 : Out y l tc sg s (fun _ => []) a (fun d g => ml3 (s_X7_readThing_5 (nI l) sg (k_X7_readThing_5 (f_X7_readBareThing n) (nI p) (nI l) d sg g)) f (nI (1 - s)) (nI (k + 1)) (nI (a + 1))) (fun e => bd3 (f_X12_thing_t m (nI p) (nI y) 40 (nI (a + 1)) (-1) e.ia e.ah e.af e.al e.ai e.mk e.mf e.ms e.mc e.ma e.mx) (fun v at' w => some (ngf (1 - s) v, at', w))) := by
        obtain rfl | rfl : s = 0 ∨ s = 1 := by omega
        · exact out_step I
        · exact out_step (out_slack I)
      refine out_cg I2 (fun d g => ?_) (fun e he => ?_)
      · show s_X7_readThing_5 (nI l) sg (k_X7_readThing_5 (f_X7_readBareThing n) (nI p) (nI l) d sg g) (ml3 (s_X7_readThing_5 (nI l) sg (k_X7_readThing_5 (f_X7_readBareThing n) (nI p) (nI l) d sg g)) f) (nI s) (nI k) (nI a) = _
        unfold s_X7_readThing_5
        rw [if_neg (show ¬ (40 : Int32) ≤ nI k from nI_ge (b := 40) (by omega) (by omega)), bd2_t (show f_X9_take 45 (nI l) (nI a) sg = some (1, nI (a + 1)) from x_takeT (c := 45) h0 (by omega) hm), if_neg i10n, nI_1]
        obtain rfl | rfl : s = 0 ∨ s = 1 := by omega
        · rw [if_pos (show nI 0 = 0 from rfl)]; rfl
        · rw [if_neg (show ¬ nI 1 = 0 by decide)]; rfl
      · show bd3 (f_X12_thing_t (m + 1) (nI p) (nI y) 40 (nI a) (-1) e.ia e.ah e.af e.al e.ai e.mk e.mf e.ms e.mc e.ma e.mx) _ = _
        rw [m_thM he hm m]
        exact bd3_bd3 _ (fun v => -v) (ngf s) (ngf (1 - s)) (fun v => by
          obtain rfl | rfl : s = 0 ∨ s = 1 := by omega
          · rfl
          · exact Int32.neg_neg)
    · exact base a s k f m h3 h4 h5 h7 hm
theorem out_thing (h0 : okRd y 40 l tc sg mx0) (hp : p ≤ 4) {n m0 : Nat} (h1 : 1 ≤ m0) (HB : ∀ a m, a ≤ l → ¬ sn tc l a = 45 → m0 + (l - a) ≤ m → Out y l tc sg 0 (fun _ => []) a (fun d g => f_X7_readBareThing n (nI p) (nI l) (nI a) d sg g) (fun e => f_X12_thing_t m (nI p) (nI y) 40 (nI a) (-1) e.ia e.ah e.af e.al e.ai e.mk e.mf e.ms e.mc e.ma e.mx)) (a m : Nat) (ha : a ≤ l) (hm : m0 + (l - a) ≤ m) : Out y l tc sg 0 (fun _ => []) a (fun d g => f_X7_readLevel (n + 2) 3 (nI p) (nI l) (nI a) d sg g) (fun e => f_X12_thing_t m (nI p) (nI y) 40 (nI a) (-1) e.ia e.ah e.af e.al e.ai e.mk e.mf e.ms e.mc e.ma e.mx) := by
  have hl := rd_l h0
  have I := out_minus h0 hp HB 80 a 0 0 zN m (by omega) (by unfold zN; omega) (by omega) ha (by omega) h1 hm
  have hx : ∀ d g, f_X7_readLevel (n + 2) 3 (nI p) (nI l) (nI a) d sg g = bd4 (ml3 (s_X7_readThing_5 (nI l) sg (k_X7_readThing_5 (f_X7_readBareThing n) (nI p) (nI l) d sg g)) zN 0 0 (nI a)) (fun r at' d' g' => gd (bit r) (some (r, at', d', g'))) := by
    intro d g
    show g_X7_readLevel (G_X7_readBareThing (n + 1)).1 (G_X7_readBareThing (n + 1)).2.1 (G_X7_readBareThing (n + 1)).2.2 3 (nI p) (nI l) (nI a) d sg g = _
    unfold g_X7_readLevel
    rw [if_neg (by decide)]
    rfl
  have hy : ∀ e : Ev, bd3 (f_X12_thing_t m (nI p) (nI y) 40 (nI a) (-1) e.ia e.ah e.af e.al e.ai e.mk e.mf e.ms e.mc e.ma e.mx) (fun v at' w => some (ngf 0 v, at', w)) = f_X12_thing_t m (nI p) (nI y) 40 (nI a) (-1) e.ia e.ah e.af e.al e.ai e.mk e.mf e.ms e.mc e.ma e.mx := by
    intro e
    cases f_X12_thing_t m (nI p) (nI y) 40 (nI a) (-1) e.ia e.ah e.af e.al e.ai e.mk e.mf e.ms e.mc e.ma e.mx with
    | none => rfl
    | some r => rfl
  rcases I with ⟨q, i1, i2, i3⟩ | ⟨a', cs, E, i1, i2, i3, i4, i5, i6, i7⟩
  · refine .inl ⟨q, i1, fun d g hd => ?_, fun e he => ?_⟩
    · show Rt (f_X7_readLevel (n + 2) 3 (nI p) (nI l) (nI a) (nI d) sg g) _
      rw [hx]
      refine rb4 (i2 d g hd) ?_
      rintro r1 r2 r3 r4 ⟨rfl, rfl⟩
      exact rt_gd rfl (rt_some ⟨rfl, rfl⟩)
    · show Rt (f_X12_thing_t m (nI p) (nI y) 40 (nI a) (-1) e.ia e.ah e.af e.al e.ai e.mk e.mf e.ms e.mc e.ma e.mx) _
      rw [← hy e]; exact i3 e he
  · refine .inr ⟨a', cs, E, i1, i2, i3, i4, i5, fun d g hd => ?_, fun e he => ?_⟩
    · show Rt (f_X7_readLevel (n + 2) 3 (nI p) (nI l) (nI a) (nI d) sg g) _
      rw [hx]
      refine rb4 (i6 d g hd) ?_
      rintro r1 r2 r3 r4 ⟨rfl, j⟩
      exact rt_gd rfl (rt_some ⟨rfl, j⟩)
    · exact (hy e).symm.trans (i7 e he)
theorem out_tail (h0 : okRd y 40 l tc sg mx0) {n b lv c0 c1 : Nat} (hlv : lv = 1 ∨ lv = 2) (hb0 : c0 < 256) (hb1 : c1 < 256) (hne : c0 ≠ c1) (hix : ∀ q, q < 256 → sidx (91 + lv) (nI q) = if q = c0 then 0 else if q = c1 then 1 else -1) (T : Ev → (Int32 → Int32 → Int32 → Option (Int32 × Int32 × Int32)) → Int32 → Int32 → Int32 → Option (Int32 × Int32 × Int32)) (Ys : Nat → Ev → Option (Int32 × Int32 × Int32)) (hsub : ∀ a, a ≤ l → b ≤ a → Out y l tc sg 0 (fun _ => []) a (fun d g => f_X7_readLevel n (nI (lv + 1)) (nI p) (nI l) (nI a) d sg g) (Ys a)) (hw : ∀ e rc v at' w, w ≠ -1 → T e rc v at' w = some (v, at', w)) (hN : ∀ e rc v a, okE y l tc sg e → a ≤ l → sn tc l a ≠ c0 → sn tc l a ≠ c1 → T e rc v (nI a) (-1) = some (v, nI a, -1)) (hS : ∀ e rc v a i, okE y l tc sg e → i < 2 → sn tc l a = (if i = 0 then c0 else c1) → T e rc v (nI a) (-1) = bd3 (Ys (a + 1) e) (fun r at' w => rc (jnv (nI (3 * lv + i)) v r) at' w)) : ∀ N a k f f' (E0 : (Nat → Int32) → Int32), l - a ≤ N → N + 1 < f → N + 2 < f' → k ≤ a → b ≤ a → a ≤ l → Out y l tc sg 0 (fun th => [E0 th]) a (fun d g => ml4 (s_X7_readLevel_41 (f_X7_readLevel n) (nI lv) (nI p) (nI l) sg 40 k_X7_readLevel_41) f (nI k) (nI a) d g) (fun e => ml3 (T e) f' (E0 e.t) (nI a) (-1)) := by
  have hl := rd_l h0
  have hso : f_X7_signsOf (nI lv) = some (91 + lv) := by
    rcases hlv with rfl | rfl <;> rfl
  have hok : sok (91 + lv) = true := by
    rcases hlv with rfl | rfl <;> rfl
  have base : ∀ a k f f' (E0 : (Nat → Int32) → Int32), k ≤ a → a ≤ l → sn tc l a ≠ c0 → sn tc l a ≠ c1 → Out y l tc sg 0 (fun th => [E0 th]) a (fun d g => ml4 (s_X7_readLevel_41 (f_X7_readLevel n) (nI lv) (nI p) (nI l) sg 40 k_X7_readLevel_41) (f + 1) (nI k) (nI a) d g) (fun e => ml3 (T e) (f' + 1) (E0 e.t) (nI a) (-1)) := by
    intro a k f f' E0 hk ha z0 z1
    refine out_end (a' := a) (E0 := E0) (Nat.le_refl _) ha (fun _ => rfl) (fun d g => ?_) (fun e he => hN e _ _ a he ha z0 z1)
    show s_X7_readLevel_41 (f_X7_readLevel n) (nI lv) (nI p) (nI l) sg 40 k_X7_readLevel_41 _ (nI k) (nI a) d g = _
    unfold s_X7_readLevel_41
    by_cases c : 40 ≤ k
    · rw [if_pos (show (40 : Int32) ≤ nI k from nI_le (a := 40) c (by omega))]; rfl
    · obtain ⟨v, hv, ev⟩ := x_oneF (a := a) (s := 91 + lv) h0 (by omega) hok (fun z => by
        unfold sn at z0 z1
        rw [if_pos z] at z0 z1
        rw [hix _ (rd_s h0 a z).1, if_neg z0, if_neg z1]; decide)
      rw [if_neg (show ¬ (40 : Int32) ≤ nI k from nI_ge (b := 40) (by omega) (by omega)), bd1_t hso, bd2_t ev, if_neg (Int32.not_le.mpr hv)]
  intro N
  induction N with
  | zero =>
    intro a k f f' E0 h1 h2 h3 h4 h5 h6
    obtain ⟨f, rfl⟩ : ∃ x, f = x + 1 := ⟨f - 1, by omega⟩
    obtain ⟨f', rfl⟩ : ∃ x, f' = x + 1 := ⟨f' - 1, by omega⟩
    exact base a k f f' E0 h4 h6 (by unfold sn; rw [if_neg (by omega)]; omega) (by unfold sn; rw [if_neg (by omega)]; omega)
  | succ N ih =>
    intro a k f f' E0 h1 h2 h3 h4 h5 h6
    obtain ⟨f, rfl⟩ : ∃ x, f = x + 1 := ⟨f - 1, by omega⟩
    obtain ⟨f', rfl⟩ : ∃ x, f' = x + 1 := ⟨f' - 1, by omega⟩
    by_cases hc : ∃ i, i < 2 ∧ sn tc l a = (if i = 0 then c0 else c1)
    · obtain ⟨i, hi, hc⟩ := hc
      have hcb : (if i = 0 then c0 else c1) < 256 := by split <;> omega
      obtain ⟨hlt, htc⟩ := sn_lt h0 hcb hc
      have ev : f_X9_oneOf (91 + lv) (nI l) (nI a) sg = some (nI i, nI (a + 1)) := x_oneT h0 hok hlt (by omega) (by
        rw [hix _ (rd_s h0 a hlt).1, htc]
        obtain rfl | rfl : i = 0 ∨ i = 1 := by omega
        · rw [if_pos rfl, if_pos rfl]; rfl
        · show (if c1 = c0 then (0 : Int32) else if c1 = c1 then 1 else -1) = nI 1
          rw [if_neg (fun z => hne z.symm), if_pos rfl]; rfl)
      refine out_cg (out_step (out_seq (δ := 1) (pre := fun _ => []) (rest := fun th => [E0 th]) (fun at' d' g' => bd2 (f_X7_emit (nI (2000 + 3 * lv + i)) d' g') (fun d2 g2 => ml4 (s_X7_readLevel_41 (f_X7_readLevel n) (nI lv) (nI p) (nI l) sg 40 k_X7_readLevel_41) f (nI (k + 1)) at' d2 g2)) (fun e v at' w => ml3 (T e) f' (jnv (nI (3 * lv + i)) (E0 e.t) v) at' w) (hsub (a + 1) (by omega) (by omega)) (by omega) (fun e v at' w hw' => ?_) (fun a1 E1 g1 g2 => ?_))) (fun d g => ?_) (fun e he => ?_)
      · obtain ⟨f', rfl⟩ : ∃ x, f' = x + 1 := ⟨f' - 1, by omega⟩
        exact rt_e (hw e _ _ _ _ hw') rfl
      · refine out_emit (c := 2000 + 3 * lv + i) (pre' := fun th => [jnv (nI (3 * lv + i)) (E0 th) (E1 th)]) (ih a1 (k + 1) f f' (fun th => jnv (nI (3 * lv + i)) (E0 th) (E1 th)) (by omega) (by omega) (by omega) (by omega) (by omega) g2) (by omega) g2 (.inr ⟨by omega, by omega⟩) (fun th st => ?_)
        unfold exe1
        rw [if_pos (by omega), if_neg (by omega), show 2000 + 3 * lv + i - 2000 = 3 * lv + i by omega]
        rfl
      · show s_X7_readLevel_41 (f_X7_readLevel n) (nI lv) (nI p) (nI l) sg 40 k_X7_readLevel_41 (ml4 _ f) (nI k) (nI a) d g = _
        unfold s_X7_readLevel_41
        rw [if_neg (show ¬ (40 : Int32) ≤ nI k from nI_ge (b := 40) (by omega) (by omega)), bd1_t hso, bd2_t ev, if_pos (show (0 : Int32) ≤ nI i from nI_le (a := 0) (by omega) (by omega)), nI_1, nI_1, c_2000, c_3, pk_mul, nI_add, nI_add, Nat.mul_comm lv 3]
        rfl
      · exact hS e _ _ a i he hi hc
    · exact base a k f f' E0 h4 h6 (fun z => hc ⟨0, by omega, z⟩) (fun z => hc ⟨1, by omega, z⟩)
/-- a level that goes on, from the level below and the loop -/
theorem out_level (h0 : okRd y 40 l tc sg mx0) {n b lv c0 c1 : Nat} (hlv : lv = 1 ∨ lv = 2) (hb0 : c0 < 256) (hb1 : c1 < 256) (hne : c0 ≠ c1) (hix : ∀ q, q < 256 → sidx (91 + lv) (nI q) = if q = c0 then 0 else if q = c1 then 1 else -1) (T : Ev → (Int32 → Int32 → Int32 → Option (Int32 × Int32 × Int32)) → Int32 → Int32 → Int32 → Option (Int32 × Int32 × Int32)) (Ys : Nat → Ev → Option (Int32 × Int32 × Int32)) (hsub : ∀ a, a ≤ l → b ≤ a → Out y l tc sg 0 (fun _ => []) a (fun d g => f_X7_readLevel n (nI (lv + 1)) (nI p) (nI l) (nI a) d sg g) (Ys a)) (hw : ∀ e rc v at' w, w ≠ -1 → T e rc v at' w = some (v, at', w)) (hN : ∀ e rc v a, okE y l tc sg e → a ≤ l → sn tc l a ≠ c0 → sn tc l a ≠ c1 → T e rc v (nI a) (-1) = some (v, nI a, -1)) (hS : ∀ e rc v a i, okE y l tc sg e → i < 2 → sn tc l a = (if i = 0 then c0 else c1) → T e rc v (nI a) (-1) = bd3 (Ys (a + 1) e) (fun r at' w => rc (jnv (nI (3 * lv + i)) v r) at' w)) (a : Nat) (ha : a ≤ l) (hb : b ≤ a) : Out y l tc sg 0 (fun _ => []) a (fun d g => f_X7_readLevel (n + 1) (nI lv) (nI p) (nI l) (nI a) d sg g) (fun e => bd3 (Ys a e) (fun v at' w => ml3 (T e) zN v at' w)) := by
  have hl := rd_l h0
  refine out_cg (out_seq (δ := 0) (pre := fun _ => []) (rest := fun _ => []) (fun at' d' g' => ml4 (s_X7_readLevel_41 (f_X7_readLevel n) (nI lv) (nI p) (nI l) sg 40 k_X7_readLevel_41) zN 0 at' d' g') (fun e v at' w => ml3 (T e) zN v at' w) (hsub a ha hb) (by omega) (fun e v at' w hw' => rt_e (hw e _ _ _ _ hw') rfl) (fun a1 E0 g1 g2 => ?_)) (fun d g => ?_) (fun e he => rfl)
  · exact out_tail h0 hlv hb0 hb1 hne hix T Ys hsub hw hN hS 80 a1 0 zN zN E0 (by omega) (by unfold zN; omega) (by unfold zN; omega) (by omega) (by omega) g2
  · show g_X7_readLevel (G_X7_readBareThing n).1 (G_X7_readBareThing n).2.1 (G_X7_readBareThing n).2.2 (nI lv) (nI p) (nI l) (nI a) d sg g = _
    unfold g_X7_readLevel j_X7_readLevel_36
    rw [if_pos (show nI lv < 3 from Int32.not_le.mp (nI_ge (b := 3) (by omega) (by omega))), nI_1]
    have hz : (nI lv = 0) = False := eq_false (fun z => by have := (nI_eq (b := 0) (by omega) (by omega)).mp z; omega)
    simp only [hz, if_false]
    rfl
end
