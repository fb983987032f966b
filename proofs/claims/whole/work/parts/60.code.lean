/-! the rule's codes -/
theorem nI_sub {a b : Nat} (h : b ≤ a) : nI a - nI b = nI (a - b) := by
  have e : nI a = nI (a - b) + nI b := by rw [nI_add, Nat.sub_add_cancel h]
  rw [e]
  exact Int32.add_sub_cancel _ _
def jnv (p x y : Int32) : Int32 := if p = 0 then (if y ≤ x then 0 else 1) else if p = 1 then (if x ≤ y then 0 else 1) else if p = 2 then (if x = y then 1 else 0) else if p = 3 then x + y else if p = 4 then x - y else if p = 5 then (if y = 0 then 0 else x / y) else if p = 6 then x * y else (if y = 0 then 0 else x / y)
theorem rt_nz {R : Type} {k : Option R} {Q : R → Prop} {v : Int32} (hv : ¬ v = 0) (h : Rt k Q) : Rt (gd (nz v) k) Q := rt_gd (by unfold nz; simp [hv]) h
theorem x_join (p x y : Int32) : f_X7_join p x y = some (jnv p x y) := by
  refine rt_get ?_
  unfold f_X7_join jnv
  refine rt_if (fun c => ?_) (fun c => ?_)
  · rw [if_pos c]; exact rt_if (fun d => by rw [if_pos d]; exact rt_some rfl) (fun d => by rw [if_neg d]; exact rt_some rfl)
  rw [if_neg c]
  refine rt_if (fun c => ?_) (fun c => ?_)
  · rw [if_pos c]; exact rt_if (fun d => by rw [if_pos d]; exact rt_some rfl) (fun d => by rw [if_neg d]; exact rt_some rfl)
  rw [if_neg c]
  refine rt_if (fun c => ?_) (fun c => ?_)
  · rw [if_pos c]; exact rt_if (fun d => by rw [if_pos d]; exact rt_some rfl) (fun d => by rw [if_neg d]; exact rt_some rfl)
  rw [if_neg c]
  refine rt_if (fun c => ?_) (fun c => ?_)
  · rw [if_pos c]; exact rt_some rfl
  rw [if_neg c]
  refine rt_if (fun c => ?_) (fun c => ?_)
  · rw [if_pos c]; exact rt_some rfl
  rw [if_neg c]
  refine rt_if (fun c => ?_) (fun c => ?_)
  · rw [if_pos c]; exact rt_if (fun d => by rw [if_pos d]; exact rt_some rfl) (fun d => by rw [if_neg d]; exact rt_nz d (rt_some rfl))
  rw [if_neg c]
  refine rt_if (fun c => ?_) (fun c => ?_)
  · rw [if_pos c]; exact rt_some rfl
  rw [if_neg c]
  exact rt_if (fun d => by rw [if_pos d]; exact rt_some rfl) (fun d => by rw [if_neg d]; exact rt_nz d (rt_some rfl))
def ngs : List Int32 → List Int32
  | [] => []
  | x :: r => -x :: r
def jns (p : Int32) : List Int32 → List Int32
  | y :: x :: r => jnv p x y :: r
  | st => st
def exe1 (th : Nat → Int32) (st : List Int32) (c : Nat) : List Int32 := if 2000 ≤ c then (if c = 3000 then ngs st else jns (nI (c - 2000)) st) else if 1000 ≤ c then th (c - 1000) :: st else nI c :: st
def exe (th : Nat → Int32) (cs : List Nat) (st : List Int32) : List Int32 := cs.foldl (exe1 th) st
theorem exe_app (th : Nat → Int32) (a b : List Nat) (st : List Int32) : exe th (a ++ b) st = exe th b (exe th a st) := List.foldl_append
def stk (g : Nat → Int32) : List Int32 → Prop
  | [] => True
  | x :: r => g r.length = x ∧ stk g r
theorem stk_u {g : Nat → Int32} {k : Nat} {v : Int32} : ∀ {st : List Int32}, st.length ≤ k → stk g st → stk (upd g k v) st
  | [], _, _ => trivial
  | x :: r, h, ⟨h1, h2⟩ => by
    have h' : r.length + 1 ≤ k := h
    exact ⟨by rw [upd_n (by omega)]; exact h1, stk_u (by omega) h2⟩
def apd (d : Nat) (g : Nat → Int32) : List Nat → Prop
  | [] => True
  | c :: r => g d = nI c ∧ apd (d + 1) g r
theorem apd_app {g : Nat → Int32} : ∀ {a b : List Nat} {d : Nat}, apd d g a → apd (d + a.length) g b → apd d g (a ++ b)
  | [], b, d, _, h => h
  | c :: r, b, d, ⟨h1, h2⟩, h => by
    refine ⟨h1, apd_app h2 ?_⟩
    rw [show d + 1 + r.length = d + (c :: r).length by simp; omega]
    exact h
theorem apd_cg {g g' : Nat → Int32} : ∀ {a : List Nat} {d : Nat}, apd d g a → (∀ i, d ≤ i → i < d + a.length → g' i = g i) → apd d g' a
  | [], _, _, _ => trivial
  | c :: r, d, ⟨h1, h2⟩, h => by
    refine ⟨(h d (by omega) (by simp)).trans h1, apd_cg h2 (fun i h3 h4 => h i (by omega) ?_)⟩
    simp
    omega
def vcd (c : Nat) : Prop := c < 1008 ∨ (2000 ≤ c ∧ c ≤ 3000)
def cl100 (v : Int32) : Int32 := if 0 < (if v < 100 then v else 100) then (if v < 100 then v else 100) else 0
theorem cl100_n (v : Int32) : ∃ n, n ≤ 100 ∧ cl100 v = nI n := by
  unfold cl100
  rcases bel v 101 (by omega) with ⟨k, hk, rfl⟩ | h | h
  · by_cases c : k < 100
    · by_cases z : k = 0
      · subst z; exact ⟨0, by omega, rfl⟩
      · refine ⟨k, by omega, ?_⟩
        have e1 : nI k < 100 := Int32.not_le.mp (nI_ge (b := 100) c (by omega))
        have e2 : 0 < nI k := Int32.not_le.mp (nI_ge (a := 0) (by omega) (by omega))
        rw [if_pos e1, if_pos e2]
    · obtain rfl : k = 100 := by omega
      exact ⟨100, by omega, rfl⟩
  · have e1 : v < 100 := Int32.lt_trans h (by decide)
    rw [if_pos e1, if_neg (Int32.lt_asymm h)]
    exact ⟨0, by omega, rfl⟩
  · have e1 : ¬ v < 100 := by
      intro z
      exact absurd (Int32.lt_of_le_of_lt h z) (by decide)
    rw [if_neg e1]
    exact ⟨100, by omega, rfl⟩
theorem stk_0 {g : Nat → Int32} {x : Int32} (h : stk g [x]) : g 0 = x := h.1
theorem x_odds {rk t : Nat → Int32} {cs : List Nat} {E : Int32} (hn : cs.length ≤ 40) (hc : apd 0 rk cs) (hv : ∀ c, c ∈ cs → vcd c) (hE : exe t cs [] = [E]) (sk : Nat → Int32) : Rt (f_X7_odds (nI cs.length) rk sk t) (fun r => r.1 = cl100 E) := by
  unfold f_X7_odds
  refine rl3 40 (fun k v1 v2 g => ∃ (st : List Int32) (r : List Nat), v2 = nI k ∧ k + r.length = cs.length ∧ apd k rk r ∧ (∀ c, c ∈ r → vcd c) ∧ exe t r st = [E] ∧ v1 = nI st.length ∧ st.length ≤ k ∧ stk g st) (by omega) ⟨[], cs, rfl, by omega, hc, hv, hE, rfl, by simp, trivial⟩ ?_
  rintro rc k v1 v2 g ⟨st, r, rfl, hk, ha, hr, he, rfl, hs, hg⟩ ih
  unfold s_X7_odds_4
  match r, hk, ha, hr, he with
  | [], hk, ha, hr, he =>
    have hk' : k = cs.length := by simpa using hk
    refine rt_t (nI_le (by omega) (by omega)) ?_
    have he' : st = [E] := he
    subst he'
    unfold k_X7_odds_4
    refine rt_f (nI_nle (by simp) (by simp)) (rt_gx (i := 0) (by omega) (by omega) (rt_lt (rt_some ?_)))
    show cl100 (g 0) = _
    rw [stk_0 hg]
  | c :: r, hk, ha, hr, he =>
    have hk' : k + (r.length + 1) = cs.length := by simpa using hk
    refine rt_f (nI_ge (by omega) (by omega)) (rt_gx (by omega) (by omega) (rt_lt ?_))
    rw [nI_clamp (by omega), ha.1]
    have vc := hr c (by simp)
    have next : ∀ (st' : List Int32) (g' : Nat → Int32) (z z2 : Int32), z = nI st'.length → z2 = nI k + 1 → exe1 t st c = st' → st'.length ≤ k + 1 → stk g' st' → Rt (rc z z2 g') (fun r => r.1 = cl100 E) := by
      intro st' g' z z2 hz hz2 h1 h2 h3
      refine ih (by omega) _ _ _ ⟨st', r, hz2.trans (nI_1 _), by omega, ha.2, fun c hc => hr c (by simp [hc]), ?_, hz, h2, h3⟩
      rw [← h1]; exact he
    by_cases c2 : 2000 ≤ c
    · have hc3 : c ≤ 3000 := by rcases vc with h | h <;> omega
      refine rt_t (nI_le (a := 2000) c2 (by omega)) ?_
      unfold j_X7_odds_65
      have h97 : (c = 3000 → st = []) → Rt (j_X7_odds_97 rc (nI c) (nI st.length) (nI k) g) (fun r => r.1 = cl100 E) := by
        intro h30
        unfold j_X7_odds_97
        by_cases hl : st.length < 2
        · refine rt_t (Int32.not_le.mp (nI_ge (b := 2) hl (by omega))) (rt_lt (next st _ _ _ rfl rfl ?_ (by omega) hg))
          unfold exe1
          rw [if_pos c2]
          match st, hl, h30 with
          | [], _, _ => split <;> rfl
          | [x], _, h30 =>
            rw [if_neg (fun z => by simpa using h30 z)]; rfl
        · match st, hl, h30, hs, hg, next with
          | y :: x :: q, hl, h30, hs, hg, next =>
            have hs' : q.length + 2 ≤ k := by simpa using hs
            refine rt_f (fun z => absurd (nI_le (a := 2) (b := (y :: x :: q).length) (by simp) (by simp; omega)) (Int32.not_le.mpr z)) (rt_lt ?_)
            have e1 : nI (y :: x :: q).length + -1 = nI (q.length + 1) := by
              rw [show (y :: x :: q).length = q.length + 1 + 1 by simp]
              rw [← nI_1 (q.length + 1), Int32.add_assoc]
              exact Int32.add_zero _
            have e2 : nI (q.length + 1) - 1 = nI q.length := by
              rw [← nI_1 q.length]
              exact Int32.add_sub_cancel _ _
            rw [e1, e2]
            refine rt_gx (by omega) (by omega) (rt_gx (by omega) (by omega) (re1 (x_join _ _ _) (rt_gx (by omega) (by omega) (rt_lt ?_))))
            rw [nI_clamp (by omega), nI_clamp (by omega)]
            have g1 : g (q.length + 1) = y := hg.1
            have g2 : g q.length = x := hg.2.1
            rw [g1, g2]
            refine next (jnv (nI c - 2000) x y :: q) _ _ _ (by simp) rfl ?_ (by simp; omega) ⟨upd_s, stk_u (Nat.le_refl _) hg.2.2⟩
            unfold exe1
            rw [if_pos c2, if_neg (fun z => by simpa using h30 z), c_2000, nI_sub c2]
            rfl
          | [], hl, _, _, _, _ => simp at hl
          | [x], hl, _, _, _, _ => simp at hl
      by_cases c3 : c = 3000
      · refine rt_t (by rw [c3]; rfl) ?_
        match st, hs, hg, next, h97 with
        | [], hs, hg, next, h97 => exact rt_t (by decide) (h97 (fun _ => rfl))
        | x :: q, hs, hg, next, h97 =>
          have hs' : q.length + 1 ≤ k := by simpa using hs
          refine rt_f (fun z => absurd (nI_le (a := 1) (b := (x :: q).length) (by simp) (by simp; omega)) (Int32.not_le.mpr z)) ?_
          have e2 : nI (x :: q).length - 1 = nI q.length := by
            rw [show (x :: q).length = q.length + 1 by simp, ← nI_1 q.length]
            exact Int32.add_sub_cancel _ _
          rw [e2]
          refine rt_gx (by omega) (by omega) (rt_gx (by omega) (by omega) (rt_lt ?_))
          rw [nI_clamp (by omega), show g q.length = x from hg.1]
          refine next (-x :: q) _ _ _ (by simp) rfl ?_ (by simp; omega) ⟨upd_s, stk_u (Nat.le_refl _) hg.2⟩
          unfold exe1
          rw [if_pos c2, if_pos c3]
          rfl
      · exact rt_f (fun z => c3 ((nI_eq (b := 3000) (by omega) (by omega)).mp z)) (h97 (fun z => absurd z c3))
    · have hc1 : c < 1008 := by rcases vc with h | h <;> omega
      refine rt_f (nI_ge (b := 2000) (by omega) (by omega)) (rt_f (nI_ge (b := 40) (by omega) (by omega)) ?_)
      by_cases c1 : 1000 ≤ c
      · refine rt_t (nI_le (a := 1000) c1 (by omega)) ?_
        rw [c_1000, nI_sub c1]
        refine rt_gx (by omega) (by omega) (rt_gx (by omega) (by omega) (rt_lt (rt_lt ?_)))
        rw [nI_clamp (by omega), nI_clamp (by omega)]
        refine next (t (c - 1000) :: st) _ _ _ (nI_1 _) rfl ?_ (by simp; omega) ⟨upd_s, stk_u (Nat.le_refl _) hg⟩
        unfold exe1
        rw [if_neg c2, if_pos c1]
      · refine rt_f (nI_ge (b := 1000) (by omega) (by omega)) (rt_gx (by omega) (by omega) (rt_lt (rt_lt ?_)))
        rw [nI_clamp (by omega)]
        refine next (nI c :: st) _ _ _ (nI_1 _) rfl ?_ (by simp; omega) ⟨upd_s, stk_u (Nat.le_refl _) hg⟩
        unfold exe1
        rw [if_neg c2, if_neg c1]
