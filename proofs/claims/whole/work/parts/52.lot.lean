/-! lot, share -/
def lvG (V : Nat → Nat → Nat → Nat → Nat → Nat → Nat → Nat → Nat) (F P n al : Nat) (kd ht ft st sc ca pl fa te mo nm : Nat → Nat) (y s : Nat) : Nat := gv y P (gc V F kd ht ft st sc ca pl (nmO nm s)) (pyG y n F al kd ft pl fa te mo) y (fun _ => 0) s
theorem lg_lt {a b : Nat} (ha : a < 2 ^ 63) (hb : b < 2 ^ 63) : (lg_cmp (lN a) (lN b) < 0) ↔ a < b := by
  rw [lg_lN ha hb]
  by_cases h : b < a
  · rw [if_pos h]; exact ⟨fun q => absurd q (by decide), fun q => by omega⟩
  · rw [if_neg h]
    by_cases e : a = b
    · rw [if_pos e]; exact ⟨fun q => absurd q (by decide), fun q => by omega⟩
    · rw [if_neg e]; exact ⟨fun _ => by omega, fun _ => by decide⟩
theorem lg_gm {m : Nat} (h : m < 2 ^ 63) : 0 < lg_cmp (lN m) (-1) := by
  unfold lg_cmp
  rw [if_pos]
  · decide
  · show (-1 : Int64) < lN m
    rw [Int64.lt_iff_toInt_lt, pk_lT h, show (-1 : Int64).toInt = -1 by decide]; omega
section
variable {F H P : Nat} {kd ht ft st sc ca pl : Nat → Nat} {V : Nat → Nat → Nat → Nat → Nat → Nat → Nat → Nat → Nat} {ck ch cf cd cp rk mk mh mf ms mc ma mp ml : Nat → Int32} {rz mz : Int32} {n r al y : Nat} {fa te mo nm tc : Nat → Nat} {tf tx tm mm mn sg mx : Nat → Int32} {ts mt' : Int32} {nt mt : Nat → Int64}
theorem pr_lot (hX : okX F H P kd ht ft st sc ca pl V ck ch cf cd cp rz rk) (hM : okM F H P kd ht ft st sc ca pl V mk mh mf ms mc ma mp mz ml) (hT : tC n fa te tf tx) (hN : tN n fa te mn) (hY : okY mo tm) (hZ : okY mo mm) (ha : al ≤ 9999) (hR : rowE r nt mt) (hTx : okTx y tc ts sg mt' mx) (tl ta pp pz fp : Int32) (sk th nd a1 a2 a3 a4 a5 : Nat → Int32) (pw ptr : Nat → Int64) (q1 q2 q3 q4 q5 q6 q7 q8 q9 q10 tw cm : Int32) (co pn ex at' : Nat → Int32) (wi : Nat → Int64) : Rt (f_X11_lot ts tl ta (nI r) (nI F) (nI H) (nI P) (nI al) rz (nI n) pp pz fp sg ck ch cf cd cp rk sk th tf tx tm nd a1 a2 a3 a4 a5 nt pw ptr) (fun a => Rt (f_X12_lot (nI F) (nI al) (nI H) (nI P) mt' (nI r) tw q1 q2 q3 q4 q5 mz q6 q7 q8 q9 q10 cm mn mk mh mf ms mc ma mp mm mx ml co pn ex at' mt wi) (fun b => (a.1 = b.1 ∧ b.2.2.2.1 = 0 ∧ (a.2.1 = 0 ∧ b.2.1 = 0) ∧ ∃ r, a.2.2.2.2.1 = nI r ∧ b.2.2.1 = nI r ∧ rowE r a.2.2.2.2.2.2.2.2.2.2.2.2.2.2.2.2.1 b.2.2.2.2.2.2.2.2.2.2.2.2.2.2.2.2.2.2.2.1))) := by
  have hP := hX.2.2.2.1.1
  have hH := hX.2.2.1.1.1
  by_cases hP0 : P = 0
  · subst hP0
    unfold f_X11_lot
    refine re6 (show f_X11_readPlayers 2 3 ts tl ta (nI H) (nI 0) pp sg nd = some (-100, 0, tl, ta, pp, nd) from rfl) (rt_f (by decide) (rt_some ?_))
    unfold f_X12_lot
    exact re4 (show f_X12_readComing 2 3 (nI H) (nI 0) mt' cm mx co = some (-100, 0, cm, co) from rfl) (rt_f (by decide) (rt_some ⟨rfl, rfl, ⟨rfl, rfl⟩, r, rfl, rfl, hR⟩))
  · rcases rd_players hTx hH (show 0 < P by omega) hP (show 1 ≤ 2 by omega) (show 2 ≤ 3 by omega) (Nat.le_refl 3) tl ta pp cm nd co with ⟨v, hv, g1, g2⟩ | ⟨nm, h1, h2, h3, g1, g2⟩
    · unfold f_X11_lot
      refine rb6 g1 ?_
      rintro x1 x2 x3 x4 x5 x6 ⟨rfl, rfl⟩
      refine rt_f (Int32.not_le.mpr hv) (rt_some ?_)
      unfold f_X12_lot
      refine rb4 g2 ?_
      rintro y1 y2 y3 y4 ⟨rfl, rfl⟩
      exact rt_f (Int32.not_le.mpr hv) (rt_some ⟨rfl, rfl, ⟨rfl, rfl⟩, r, rfl, rfl, hR⟩)
    · have hs := sc_b h2
      have hbd : ∀ s, (lvG V F P n al kd ht ft st sc ca pl fa te mo nm y) s ≤ 99000000000000 := fun s => gvN_le (a := s) (nm := nm) hY h2
      unfold f_X11_lot
      refine rb6 g1 ?_
      rintro x1 x2 x3 x4 x5 x6 ⟨rfl, rfl, rfl, hx6⟩
      refine rt_t (by decide) (rb4 (x_begin hX hT ha pz a1 a2 a3) ?_)
      rintro z1 z2 z3 z4 ⟨rfl, hG⟩
      refine rl10 3 (fun s v2 v3 v5 _ _ _ _ _ _ _ => v5 = nI s ∧ s ≤ y ∧ v2 = nI (fM (lvG V F P n al kd ht ft st sc ca pl fa te mo nm y) s) ∧ ((s = 0 ∧ v3 = -1) ∨ (0 < s ∧ v3 = lN ((lvG V F P n al kd ht ft st sc ca pl fa te mo nm y) (fM (lvG V F P n al kd ht ft st sc ca pl fa te mo nm y) s))))) (by omega) ⟨rfl, by omega, rfl, .inl ⟨rfl, rfl⟩⟩ ?_
      rintro rc s v2 v3 v5 fp s1 t1 pc pe pw ptr ⟨rfl, hsy, rfl, hI⟩ ih
      unfold s_X11_lot_37
      by_cases hss : y ≤ s
      · obtain rfl : y = s := by omega
        refine rt_t (nI_le (Nat.le_refl _) (by omega)) ?_
        rcases hI with ⟨q, _⟩ | ⟨_, rfl⟩
        · omega
        clear ih rc
        have hb := hbd (fM (lvG V F P n al kd ht ft st sc ca pl fa te mo nm y) y)
        unfold k_X11_lot_37
        refine re1 (x_start _) (re1 (x_scale h2) (re2 (x_fracN (k := 0) (by omega) hs.1 (by omega) (by omega)) (rt_some ?_)))
        unfold f_X12_lot
        refine rb4 g2 ?_
        rintro y1 y2 y3 y4 ⟨rfl, rfl, rfl, hy4⟩
        refine rt_t (by decide) ?_
        refine rl2 3 (fun k v2 g => v2 = nI k ∧ k ≤ y ∧ ∀ j, j < k → g j = nI (nm j)) (by omega) ⟨rfl, by omega, by omega⟩ ?_
        rintro rc k v2 at2 ⟨rfl, hk, hat⟩ ih
        unfold s_X12_lot_20
        by_cases hky : y ≤ k
        · obtain rfl : y = k := by omega
          refine rt_t (nI_le (Nat.le_refl _) (by omega)) ?_
          clear ih rc
          unfold k_X12_lot_20
          refine rl17 3 (fun s v2 v3 v5 _ _ _ _ _ _ _ _ _ _ _ _ _ _ => v5 = nI s ∧ s ≤ y ∧ v2 = nI (fM (lvG V F P n al kd ht ft st sc ca pl fa te mo nm y) s) ∧ ((s = 0 ∧ v3 = -1) ∨ (0 < s ∧ v3 = lN ((lvG V F P n al kd ht ft st sc ca pl fa te mo nm y) (fM (lvG V F P n al kd ht ft st sc ca pl fa te mo nm y) s))))) (by omega) ⟨rfl, by omega, rfl, .inl ⟨rfl, rfl⟩⟩ ?_
          rintro rc s v2 v3 v5 u1 u2 u3 u4 u5 u6 u7 u8 u9 u10 co2 pn2 ex2 wi2 ⟨rfl, hsy, rfl, hI⟩ ih
          unfold s_X12_lot_55
          by_cases hss : y ≤ s
          · obtain rfl : y = s := by omega
            refine rt_t (nI_le (Nat.le_refl _) (by omega)) ?_
            rcases hI with ⟨q, _⟩ | ⟨_, rfl⟩
            · omega
            unfold k_X12_lot_55
            exact re1 (m_power (v := 10000) (by omega)) (re2 (m_partN (k := 0) (by omega) hs.1 (by omega) (by omega)) (rt_some ⟨rfl, rfl, ⟨rfl, rfl⟩, 2, rfl, rfl, rowE_f rowE_0 (by omega)⟩))
          · refine rt_f (nI_ge (by omega) (by omega)) ?_
            refine rl3 3 (fun i v6 v7 g => v7 = nI i ∧ i ≤ y ∧ v6 = nI (if i ≤ s then i + 1 else i) ∧ ∀ j, j < i → g j = nI (nmO nm s j)) (by omega) ⟨rfl, by omega, by rw [if_pos (by omega)]; rfl, by omega⟩ ?_
            rintro rc2 i v6 v7 g ⟨rfl, hi, rfl, hg⟩ ih2
            unfold s_X12_lot_70
            by_cases hiy : y ≤ i
            · obtain rfl : y = i := by omega
              refine rt_t (nI_le (Nat.le_refl _) (by omega)) ?_
              unfold k_X12_lot_70
              refine rb13 (m_go0 (a := s) hM hN hZ ha (by omega) (by omega) h2 (by omega) h3 hg _ _ _ _ _ _ _ _ _ _ pn2 ex2 wi2) ?_
              rintro w1 w2 w3 w4 w5 w6 w7 w8 w9 w10 pn3 ex3 wi3 ⟨_, hw3⟩
              have hws : wi3 s = lN ((lvG V F P n al kd ht ft st sc ca pl fa te mo nm y) s) := hw3 s (by omega)
              have hbs := hbd s
              have hbf := hbd (fM (lvG V F P n al kd ht ft st sc ca pl fa te mo nm y) s)
              refine rt_gx (by omega) (by omega) ?_
              rw [nI_clamp (by omega), hws]
              rcases hI with ⟨rfl, rfl⟩ | ⟨s0, rfl⟩
              · have hf : fM (lvG V F P n al kd ht ft st sc ca pl fa te mo nm y) (0 + 1) = 0 := fM_t (.inl rfl)
                refine rt_t (lg_gm (by omega)) (rt_gx (by omega) (by omega) (rt_lt (rt_lt (ih (by omega) _ _ _ _ _ _ _ _ _ _ _ _ _ _ _ _ _ ⟨nI_1 _, by omega, ?_, .inr ⟨by omega, ?_⟩⟩))))
                · rw [hf]
                · rw [hf]
              · refine rt_if (fun z => rt_gx (by omega) (by omega) ?_) (fun z => ?_)
                · have z' : (lvG V F P n al kd ht ft st sc ca pl fa te mo nm y) (fM (lvG V F P n al kd ht ft st sc ca pl fa te mo nm y) s) < (lvG V F P n al kd ht ft st sc ca pl fa te mo nm y) s := Nat.lt_of_not_le (fun q => absurd ((lg_le (by omega) (by omega)).mpr q) (Int32.not_le.mpr z))
                  have hf : fM (lvG V F P n al kd ht ft st sc ca pl fa te mo nm y) (s + 1) = s := fM_t (.inr z')
                  refine rt_lt (rt_lt (ih (by omega) _ _ _ _ _ _ _ _ _ _ _ _ _ _ _ _ _ ⟨nI_1 _, by omega, ?_, .inr ⟨by omega, ?_⟩⟩))
                  · rw [hf]
                  · rw [hf]
                · have z' : ¬ (lvG V F P n al kd ht ft st sc ca pl fa te mo nm y) (fM (lvG V F P n al kd ht ft st sc ca pl fa te mo nm y) s) < (lvG V F P n al kd ht ft st sc ca pl fa te mo nm y) s := fun q => z (Int32.not_le.mp (fun w => by
                    have := (lg_le (by omega) (by omega)).mp w; omega))
                  have hf : fM (lvG V F P n al kd ht ft st sc ca pl fa te mo nm y) (s + 1) = fM (lvG V F P n al kd ht ft st sc ca pl fa te mo nm y) s := fM_f (fun q => q.elim (fun q => by omega) z')
                  refine rt_lt (ih (by omega) _ _ _ _ _ _ _ _ _ _ _ _ _ _ _ _ _ ⟨nI_1 _, by omega, ?_, .inr ⟨by omega, ?_⟩⟩)
                  · rw [hf]
                  · rw [hf]
            · refine rt_f (nI_ge (by omega) (by omega)) ?_
              by_cases e : i = s
              · subst e
                refine rt_t rfl (rt_gd (by decide) (rt_gx (by omega) (by omega) (rt_t rfl (rt_lt (ih2 (by omega) _ _ _ ⟨nI_1 _, by omega, ?_, fun j hj => ?_⟩)))))
                · rw [if_pos (Nat.le_refl _), if_neg (by omega)]
                · rw [nI_clamp (by omega), show (0 : Int32).toNatClampNeg = 0 from rfl]
                  by_cases q : j = i
                  · subst q; rw [upd_s, hat 0 (by omega)]; unfold nmO; rw [if_pos rfl]
                  · rw [upd_n q]; exact hg j (by omega)
              · have hne : ¬ nI i = nI s := fun q => e ((nI_eq (by omega) (by omega)).mp q)
                have hx3 : (if i ≤ s then i + 1 else i) < 3 := by split <;> omega
                refine rt_f hne (rt_gx hx3 (by omega) (rt_gx (by omega) (by omega) (rt_f hne (rt_lt (rt_lt (ih2 (by omega) _ _ _ ⟨nI_1 _, by omega, ?_, fun j hj => ?_⟩))))))
                · rw [nI_1]
                  refine congrArg nI ?_
                  split <;> split <;> omega
                · rw [nI_clamp (by omega), nI_clamp (by omega)]
                  by_cases q : j = i
                  · subst q
                    rw [upd_s, hat _ (by split <;> omega)]
                    unfold nmO
                    rw [if_neg e]
                    refine congrArg (fun z => nI (nm z)) ?_
                    split <;> split <;> omega
                  · rw [upd_n q]; exact hg j (by omega)
        · refine rt_f (nI_ge (by omega) (by omega)) (rt_gx (by omega) (by omega) (rt_gx (by omega) (by omega) (rt_lt (ih (by omega) _ _ ⟨nI_1 _, by omega, fun j hj => ?_⟩))))
          rw [nI_clamp (by omega)]
          by_cases e : j = k
          · subst e; rw [upd_s]; exact hy4 j (by omega)
          · rw [upd_n e]; exact hat j (by omega)
      · refine rt_f (nI_ge (by omega) (by omega)) (rb7 (x_start' (N := y) (a := s) (nm := nm) hX hG hY hT.1 (by omega) (by omega) h2 (by omega) (fun i hi => ⟨h3 i hi, hx6 i hi⟩) fp s1 t1 pc pe pw ptr) ?_)
        rintro w1 w2 w3 w4 w5 w6 w7 ⟨rfl, hw⟩
        have hws : w6 s = lN ((lvG V F P n al kd ht ft st sc ca pl fa te mo nm y) s) := hw s (by omega)
        have hbs := hbd s
        have hbf := hbd (fM (lvG V F P n al kd ht ft st sc ca pl fa te mo nm y) s)
        refine re1 (x_won (by omega) h2) ?_
        rw [hws]
        rcases hI with ⟨rfl, rfl⟩ | ⟨s0, rfl⟩
        · have hf : fM (lvG V F P n al kd ht ft st sc ca pl fa te mo nm y) (0 + 1) = 0 := fM_t (.inl rfl)
          refine rt_f (Int32.not_le.mpr (lg_gm (by omega))) (re1 (x_won (by omega) h2) (rt_lt (ih (by omega) _ _ _ _ _ _ _ _ _ _ ⟨nI_1 _, by omega, ?_, .inr ⟨by omega, ?_⟩⟩)))
          · rw [hf]
          · rw [hf]; exact hws
        · refine rt_if (fun z => ?_) (fun z => ?_)
          · have z' := (lg_le (by omega) (by omega)).mp z
            have hf : fM (lvG V F P n al kd ht ft st sc ca pl fa te mo nm y) (s + 1) = fM (lvG V F P n al kd ht ft st sc ca pl fa te mo nm y) s := fM_f (by omega)
            refine rt_lt (ih (by omega) _ _ _ _ _ _ _ _ _ _ ⟨nI_1 _, by omega, ?_, .inr ⟨by omega, ?_⟩⟩)
            · rw [hf]
            · rw [hf]
          · have z' : (lvG V F P n al kd ht ft st sc ca pl fa te mo nm y) (fM (lvG V F P n al kd ht ft st sc ca pl fa te mo nm y) s) < (lvG V F P n al kd ht ft st sc ca pl fa te mo nm y) s := Nat.lt_of_not_le (fun q => z ((lg_le (by omega) (by omega)).mpr q))
            have hf : fM (lvG V F P n al kd ht ft st sc ca pl fa te mo nm y) (s + 1) = s := fM_t (.inr z')
            refine re1 (x_won (by omega) h2) (rt_lt (ih (by omega) _ _ _ _ _ _ _ _ _ _ ⟨nI_1 _, by omega, ?_, .inr ⟨by omega, ?_⟩⟩))
            · rw [hf]
            · rw [hf]; exact hws
theorem sh_j (hX : okX F H P kd ht ft st sc ca pl V ck ch cf cd cp rz rk) (hM : okM F H P kd ht ft st sc ca pl V mk mh mf ms mc ma mp mz ml) (hT : tC n fa te tf tx) (hN : tN n fa te mn) (hY : okY mo tm) (hZ : okY mo mm) (ha : al ≤ 9999) (hR : rowE r nt mt) (hTx : okTx y tc ts sg mt' mx) (p1 : Int32) (hp1 : P = 0 ∨ ∃ q, 1 ≤ q ∧ q ≤ 5 ∧ p1 = nI q) (tl ta pp pz fp : Int32) (sk th nd a1 a2 a3 a4 a5 : Nat → Int32) (pw ptr : Nat → Int64) (q1 q2 q3 q4 q5 q6 q7 q8 q9 q10 cm : Int32) (co pn ex : Nat → Int32) (wi : Nat → Int64) : Rt (j_X11_share_31 p1 tl ta (nI r) (nI F) (nI H) (nI P) (nI al) rz (nI n) pp pz fp sg ck ch cf cd cp rk sk th tf tx tm nd a1 a2 a3 a4 a5 nt pw ptr ts) (fun a => Rt (j_X12_share_30 p1 (nI F) (nI al) (nI H) (nI P) (nI r) q1 q2 q3 q4 q5 mz q6 q7 q8 q9 q10 cm mn mk mh mf ms mc ma mp mm mx ml co pn ex mt wi mt') (fun b => (a.1 = b.1 ∧ b.2.2.2.1 = 0 ∧ (a.2.1 = 0 ∧ b.2.1 = 0) ∧ ∃ r, a.2.2.2.2.1 = nI r ∧ b.2.2.1 = nI r ∧ rowE r a.2.2.2.2.2.2.2.2.2.2.2.2.2.2.2.2.1 b.2.2.2.2.2.2.2.2.2.2.2.2.2.2.2.2.2.2.1))) := by
  have hP := hX.2.2.2.1.1
  have hH := hX.2.2.1.1.1
  by_cases hP0 : P = 0
  · subst hP0
    unfold j_X11_share_31
    refine re6 (show f_X11_readPlayers 2 2 ts tl ta (nI H) (nI 0) pp sg nd = some (-100, 0, tl, ta, pp, nd) from rfl) (rt_f (by decide) (rt_some ?_))
    unfold j_X12_share_30
    exact re4 (show f_X12_readComing 2 2 (nI H) (nI 0) mt' cm mx co = some (-100, 0, cm, co) from rfl) (rt_f (by decide) (rt_some ⟨rfl, rfl, ⟨rfl, rfl⟩, r, rfl, rfl, hR⟩))
  · obtain ⟨q, hq1, hq5, rfl⟩ : ∃ q, 1 ≤ q ∧ q ≤ 5 ∧ p1 = nI q := hp1.resolve_left hP0
    rcases rd_players hTx hH (show 0 < P by omega) hP (show 1 ≤ 2 by omega) (Nat.le_refl 2) (show 2 ≤ 3 by omega) tl ta pp cm nd co with ⟨v, hv, g1, g2⟩ | ⟨nm, h1, h2, h3, g1, g2⟩
    · unfold j_X11_share_31
      refine rb6 g1 ?_
      rintro x1 x2 x3 x4 x5 x6 ⟨rfl, rfl⟩
      refine rt_f (Int32.not_le.mpr hv) (rt_some ?_)
      unfold j_X12_share_30
      refine rb4 g2 ?_
      rintro y1 y2 y3 y4 ⟨rfl, rfl⟩
      exact rt_f (Int32.not_le.mpr hv) (rt_some ⟨rfl, rfl, ⟨rfl, rfl⟩, r, rfl, rfl, hR⟩)
    · obtain rfl : y = 2 := by omega
      have m1 := mny_le hY hq1
      have m2 := mny_le hY (show 1 ≤ q + 1 by omega)
      have hbd : ∀ i, gv 2 P (gc V F kd ht ft st sc ca pl (nmO nm 0)) (pyG 2 n F al kd ft pl fa te mo) 2 (fun _ => 0) i ≤ 99000000000000 := fun i => gvN_le (N := 2) (a := 0) (nm := nm) hY (by omega)
      unfold j_X11_share_31
      refine rb6 g1 ?_
      rintro x1 x2 x3 x4 x5 x6 ⟨rfl, rfl, rfl, hx6⟩
      refine rt_t (by decide) (rb4 (x_begin hX hT ha pz a1 a2 a3) ?_)
      rintro z1 z2 z3 z4 ⟨rfl, hG⟩
      refine rb7 (x_start' (N := 2) (a := 0) (nm := nm) hX hG hY hT.1 (by omega) (by omega) (by omega) (by omega) (fun i hi => ⟨h3 i hi, hx6 i hi⟩) fp sk th a4 a5 pw ptr) ?_
      rintro w1 w2 w3 w4 w5 w6 w7 ⟨rfl, hw⟩
      have e1 : nI q + 1 = nI (q + 1) := nI_1 q
      rw [e1]
      refine re1 (x_moneyAt hY hq1 (by omega)) (re1 (x_moneyAt hY (show 1 ≤ q + 1 by omega) (by omega)) ?_)
      rw [nI_add]
      refine rt_lt (re1 (x_start _) (re2 (x_put0 _ _) ?_))
      generalize hW : gv 2 P (gc V F kd ht ft st sc ca pl (nmO nm 0)) (pyG 2 n F al kd ft pl fa te mo) 2 (fun _ => 0) = W at *
      generalize hB : mny mo q + mny mo (q + 1) = B at *
      have hBl : B ≤ 198 := by omega
      have hBm : ∀ x, x * 100000000 ≤ 198 * 100000000 ∨ 198 < x := fun x => by omega
      -- the reference
      have hm2 : Rt (j_X12_share_30 (nI q) (nI F) (nI al) (nI H) (nI P) (nI r) q1 q2 q3 q4 q5 mz q6 q7 q8 q9 q10 cm mn mk mh mf ms mc ma mp mm mx ml co pn ex mt wi mt') (fun b => b.1 = (if 2 * W 0 ≤ B * 100000000 ∧ 2 * W 1 ≤ B * 100000000 then 1 else 0) ∧ b.2.2.2.1 = 0 ∧ b.2.1 = 0 ∧ b.2.2.1 = nI 5 ∧ b.2.2.2.2.2.2.2.2.2.2.2.2.2.2.2.2.2.2.1 = rwF 1 W 100000000 2 (vp_updL mt 0 (lN B))) := by
        unfold j_X12_share_30
        refine rb4 g2 ?_
        rintro y1 y2 y3 y4 ⟨rfl, rfl, rfl, hy4⟩
        have hco : ∀ k, k < 2 → y4 k = nI (nmO nm 0 k) := fun k hk => by
          rw [show y4 k = _ from hy4 k hk]
          unfold nmO
          by_cases e : k = 0
          · rw [if_pos e, e]
          · rw [if_neg e, if_neg (by omega)]
        refine rt_t (by decide) (rb13 (m_go0 (N := 2) (a := 0) hM hN hZ ha (by omega) (by omega) (by omega) (by omega) h3 hco _ _ _ _ _ _ _ _ _ _ pn ex wi) ?_)
        rintro w1 w2 w3 w4 w5 w6 w7 w8 w9 w10 pn2 ex2 wi2 ⟨_, hw2⟩
        rw [hW] at hw2
        have b0 := hbd 0
        have b1 := hbd 1
        have k0 : wi2 0 = lN (W 0) := hw2 0 (by omega)
        have k1 : wi2 1 = lN (W 1) := hw2 1 (by omega)
        rw [e1]
        refine re1 (m_moneyOf hZ hq1 (by omega)) (re1 (m_moneyOf hZ (show 1 ≤ q + 1 by omega) (by omega)) ?_)
        rw [nI_add, hB, nI_l (by omega)]
        have hj : ∀ t0 : Int32, (t0 = 0 ∨ t0 = 1) → Rt (j_X12_share_109 mt 0 (nI 2) y4 w1 w2 w3 w4 w5 w6 w7 w8 w9 w10 pn2 ex2 wi2 (lN B) t0) (fun b => b.1 = t0 ∧ b.2.2.2.1 = 0 ∧ b.2.1 = 0 ∧ b.2.2.1 = nI 5 ∧ b.2.2.2.2.2.2.2.2.2.2.2.2.2.2.2.2.2.2.1 = rwF 1 W 100000000 2 (vp_updL mt 0 (lN B))) := by
          intro t0 ht0
          unfold j_X12_share_109
          refine re2 (m_tell0 _ _) (rt_gd (by decide) ?_)
          rw [show (0 : Int32).toNatClampNeg = 0 from rfl, k0, l_100000000]
          refine re2 (m_partN (k := 1) (by omega) (by omega) (by omega) (by omega)) (rt_gd (by decide) ?_)
          rw [show (1 : Int32).toNatClampNeg = 1 from rfl, k1]
          refine re2 (m_partN (k := 3) (by omega) (by omega) (by omega) (by omega)) ?_
          rcases ht0 with rfl | rfl
          · exact rt_t rfl (rt_some ⟨rfl, rfl, rfl, rfl, rfl⟩)
          · exact rt_f i10n (rt_some ⟨rfl, rfl, rfl, rfl, rfl⟩)
        refine rt_lt (rt_gd (by decide) ?_)
        rw [show (0 : Int32).toNatClampNeg = 0 from rfl, k0, l_100000000, l_2, lN_mul, lN_mul]
        refine rt_if (fun z => rt_mono (hj 0 (.inl rfl)) ?_) (fun z => rt_gd (by decide) ?_)
        · rintro b ⟨q1, q2⟩
          have z' := (lg_lt (by omega) (by omega)).mp z
          exact ⟨by rw [q1, if_neg (by omega)], q2⟩
        · have z' := fun w => z ((lg_lt (by omega) (by omega)).mpr w)
          have z2 := Nat.le_of_not_lt z'
          rw [show (1 : Int32).toNatClampNeg = 1 from rfl, k1, lN_mul]
          refine rt_if (fun u => rt_mono (hj 0 (.inl rfl)) ?_) (fun u => rt_mono (hj 1 (.inr rfl)) ?_)
          · rintro b ⟨q1, q2⟩
            have u' := (lg_lt (by omega) (by omega)).mp u
            exact ⟨by rw [q1, if_neg (by omega)], q2⟩
          · rintro b ⟨q1, q2⟩
            have u' := fun w => u ((lg_lt (by omega) (by omega)).mpr w)
            have u2 := Nat.le_of_not_lt u'
            exact ⟨by rw [q1, if_pos ⟨z2, u2⟩], q2⟩
      rw [nI_l (show B < 2 ^ 31 by omega)]
      refine rl4 2 (fun k v4 v5 v1 v3 => v5 = nI k ∧ k ≤ 2 ∧ v1 = nI (1 + 2 * k) ∧ v3 = rwF 1 W 100000000 k (vp_updL nt 0 (lN B)) ∧ ((v4 = 1 ∧ ∀ i, i < k → 2 * W i ≤ B * 100000000) ∨ (v4 = 0 ∧ ∃ i, i < k ∧ ¬ 2 * W i ≤ B * 100000000))) (by omega) ⟨rfl, by omega, rfl, rfl, .inl ⟨rfl, by omega⟩⟩ ?_
      rintro rc k v4 v5 v1 v3 ⟨rfl, hk, rfl, rfl, hI⟩ ih
      unfold s_X11_share_117
      by_cases hky : 2 ≤ k
      · obtain rfl : k = 2 := by omega
        refine rt_t (nI_le (Nat.le_refl _) (by omega)) ?_
        unfold k_X11_share_117
        have hrow : rowE 5 (rwF 1 W 100000000 2 (vp_updL nt 0 (lN B))) (rwF 1 W 100000000 2 (vp_updL mt 0 (lN B))) := rowE_F (o := 1) rowE_r1 2 (by omega)
        rcases hI with ⟨rfl, hI⟩ | ⟨rfl, i, hi, hI⟩
        · refine rt_f i10n (rt_some (rt_mono hm2 ?_))
          rintro b ⟨q1, q2, q3, q4, q5⟩
          rw [if_pos ⟨hI 0 (by omega), hI 1 (by omega)⟩] at q1
          exact ⟨q1.symm, q2, ⟨rfl, q3⟩, 5, rfl, q4, by rw [q5]; exact hrow⟩
        · refine rt_t rfl (rt_some (rt_mono hm2 ?_))
          rintro b ⟨q1, q2, q3, q4, q5⟩
          have hne : ¬ (2 * W 0 ≤ B * 100000000 ∧ 2 * W 1 ≤ B * 100000000) := fun z => by
            have : i = 0 ∨ i = 1 := by omega
            rcases this with rfl | rfl
            · exact hI z.1
            · exact hI z.2
          rw [if_neg hne] at q1
          exact ⟨q1.symm, q2, ⟨rfl, q3⟩, 5, rfl, q4, by rw [q5]; exact hrow⟩
      · have hb := hbd k
        have hwk : w6 k = lN (W k) := hw k (by omega)
        have hsc : f_X3_scale (nI 2) = some (lN 100000000) := x_scale (N := 2) (by omega)
        have hrw' : ∀ v4, ((v4 = 1 ∧ ∀ i, i < k + 1 → 2 * W i ≤ B * 100000000) ∨ (v4 = 0 ∧ ∃ i, i < k + 1 ∧ ¬ 2 * W i ≤ B * 100000000)) → Rt (rc v4 (nI k + 1) (nI (1 + 2 * k + 2)) (vp_updL (vp_updL (rwF 1 W 100000000 k (vp_updL nt 0 (lN B))) (1 + 2 * k) (fz (W k) 100000000)) (1 + 2 * k + 1) (fd (W k) 100000000))) (fun a => Rt (j_X12_share_30 (nI q) (nI F) (nI al) (nI H) (nI P) (nI r) q1 q2 q3 q4 q5 mz q6 q7 q8 q9 q10 cm mn mk mh mf ms mc ma mp mm mx ml co pn ex mt wi mt') (fun b => (a.1 = b.1 ∧ b.2.2.2.1 = 0 ∧ (a.2.1 = 0 ∧ b.2.1 = 0) ∧ ∃ r, a.2.2.2.2.1 = nI r ∧ b.2.2.1 = nI r ∧ rowE r a.2.2.2.2.2.2.2.2.2.2.2.2.2.2.2.2.1 b.2.2.2.2.2.2.2.2.2.2.2.2.2.2.2.2.2.2.1))) := fun v4 hx => ih (by omega) _ _ _ _ ⟨nI_1 _, by omega, rfl, rfl, hx⟩
        refine rt_f (nI_ge (by omega) (by omega)) (re1 (x_won (N := 2) (by omega) (by omega)) (re1 hsc ?_))
        rw [hwk]
        refine re2 (x_fracN (by omega) (by omega) (by omega) (by omega)) ?_
        rcases hI with ⟨rfl, hI⟩ | ⟨rfl, i, hi, hI⟩
        · refine rt_f i10n (re1 hsc (re1 (x_won (N := 2) (by omega) (by omega)) ?_))
          rw [hwk, nI_l (by omega), l_2, lN_mul, lN_mul]
          refine rt_if (fun z => rt_lt (hrw' 0 (.inr ⟨rfl, k, by omega, ?_⟩))) (fun z => rt_lt (hrw' 1 (.inl ⟨rfl, fun i hi => ?_⟩)))
          · have z' := (lg_lt (by omega) (by omega)).mp z
            omega
          · by_cases e : i = k
            · subst e
              exact Nat.le_of_not_lt (fun w => z ((lg_lt (by omega) (by omega)).mpr w))
            · exact hI i (by omega)
        · exact rt_t rfl (rt_lt (hrw' 0 (.inr ⟨rfl, i, by omega, hI⟩)))
theorem pr_share (hX : okX F H P kd ht ft st sc ca pl V ck ch cf cd cp rz rk) (hM : okM F H P kd ht ft st sc ca pl V mk mh mf ms mc ma mp mz ml) (hT : tC n fa te tf tx) (hN : tN n fa te mn) (hY : okY mo tm) (hZ : okY mo mm) (ha : al ≤ 9999) (hR : rowE r nt mt) (hTx : okTx y tc ts sg mt' mx) (p1 tl ta pp pz fp : Int32) (sk th nd a1 a2 a3 a4 a5 : Nat → Int32) (pw ptr : Nat → Int64) (q1 q2 q3 q4 q5 q6 q7 q8 q9 q10 tw cm : Int32) (co pn ex : Nat → Int32) (wi : Nat → Int64) : Rt (f_X11_share p1 ts tl ta (nI r) (nI F) (nI H) (nI P) (nI al) rz (nI n) pp pz fp sg ck ch cf cd cp rk sk th tf tx tm nd a1 a2 a3 a4 a5 nt pw ptr) (fun a => Rt (f_X12_share p1 (nI F) (nI al) (nI H) (nI P) mt' (nI r) tw q1 q2 q3 q4 q5 mz q6 q7 q8 q9 q10 cm mn mk mh mf ms mc ma mp mm mx ml co pn ex mt wi) (fun b => (a.1 = b.1 ∧ b.2.2.2.1 = 0 ∧ (a.2.1 = 0 ∧ b.2.1 = 0) ∧ ∃ r, a.2.2.2.2.1 = nI r ∧ b.2.2.1 = nI r ∧ rowE r a.2.2.2.2.2.2.2.2.2.2.2.2.2.2.2.2.1 b.2.2.2.2.2.2.2.2.2.2.2.2.2.2.2.2.2.2.1))) := by
  have hP := hX.2.2.2.1.1
  by_cases hP0 : P = 0
  · subst hP0
    refine rt_mono (rt_eq (show f_X11_share p1 ts tl ta (nI r) (nI F) (nI H) (nI 0) (nI al) rz (nI n) pp pz fp sg ck ch cf cd cp rk sk th tf tx tm nd a1 a2 a3 a4 a5 nt pw ptr = _ from if_pos (by decide)) (sh_j hX hM hT hN hY hZ ha hR hTx p1 (.inl rfl) tl ta pp pz fp sk th nd a1 a2 a3 a4 a5 pw ptr q1 q2 q3 q4 q5 q6 q7 q8 q9 q10 cm co pn ex wi)) ?_
    intro a hq
    unfold f_X12_share
    exact rt_t (by decide) hq
  · have hc : ¬ nI P ≤ 0 := nI_nle (by omega) (by omega)
    by_cases c1 : p1 < 1
    · unfold f_X11_share
      refine rt_f hc (rt_t c1 (re1 rfl (rt_some ?_)))
      unfold f_X12_share
      exact rt_f hc (re1 (show f_X12_in p1 1 5 = some 0 by unfold f_X12_in; rw [if_pos c1]) (rt_t rfl (rt_some ⟨rfl, rfl, ⟨rfl, rfl⟩, r, rfl, rfl, hR⟩)))
    · by_cases c2 : p1 ≤ 5
      · obtain ⟨q, hq, rfl⟩ : ∃ q, q < 2 ^ 31 ∧ p1 = nI q := nI_of (fun z => c1 (by
          rw [Int32.lt_iff_toInt_lt] at z ⊢
          rw [show (0 : Int32).toInt = 0 from rfl] at z
          rw [show (1 : Int32).toInt = 1 from rfl]; omega))
        have h1 : 1 ≤ q := Nat.le_of_not_lt (fun z => c1 (nI_lt (b := 1) z (by omega)))
        have h5 : q ≤ 5 := (nI_leI (b := 5) hq (by omega)).mp c2
        unfold f_X11_share
        refine rt_f hc (rt_f c1 (rt_t c2 (rt_mono (sh_j hX hM hT hN hY hZ ha hR hTx (nI q) (.inr ⟨q, h1, h5, rfl⟩) tl ta pp pz fp sk th nd a1 a2 a3 a4 a5 pw ptr q1 q2 q3 q4 q5 q6 q7 q8 q9 q10 cm co pn ex wi) ?_)))
        intro a hq
        unfold f_X12_share
        exact rt_f hc (re1 (show f_X12_in (nI q) 1 5 = some 1 by unfold f_X12_in; rw [if_neg c1, if_neg (Int32.not_lt.mpr c2)]) (rt_f i10n hq))
      · unfold f_X11_share
        refine rt_f hc (rt_f c1 (rt_f c2 (re1 rfl (rt_some ?_))))
        unfold f_X12_share
        exact rt_f hc (re1 (show f_X12_in p1 1 5 = some 0 by unfold f_X12_in; rw [if_neg c1, if_pos (Int32.not_le.mp c2)]) (rt_t rfl (rt_some ⟨rfl, rfl, ⟨rfl, rfl⟩, r, rfl, rfl, hR⟩)))
end
