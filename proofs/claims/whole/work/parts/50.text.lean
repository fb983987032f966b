/-! A TEXT by its signs' numbers; who is to come -/
def byt (q : Nat) : Int32 := (nI q).toInt8.toInt32
theorem byt_lo : ∀ q, q < 128 → byt q = nI q := by decide +kernel
theorem byt_hi : ∀ q, q < 256 → 128 ≤ q → byt q < 0 := by decide +kernel
theorem byt_rt : ∀ q, q < 256 → (byt q).toInt8.toInt32 = byt q ∧ nI q = byt q &&& 255 := by decide +kernel
def okTx (n : Nat) (tc : Nat → Nat) (ts : Int32) (sg : Nat → Int32) (mt : Int32) (mx : Nat → Int32) : Prop := n ≤ 80 ∧ ts = nI n ∧ mt = nI n ∧ ∀ k, k < n → tc k < 256 ∧ sg k = nI (tc k) ∧ mx k = byt (tc k)
theorem ivT_T {n : Nat} {ts mt : Int32} {sg mx : Nat → Int32} (h : ivT n ts sg mt mx) : ∃ tc, okTx n tc ts sg mt mx := by
  obtain ⟨h1, h2, h3, h4⟩ := h
  refine ⟨fun k => (mx k).toBitVec.toNat % 2 ^ 8, h1, by rw [h2, iI_nI], by rw [h3, iI_nI], fun k hk => ?_⟩
  obtain ⟨a1, a2⟩ := h4 k hk
  have hp := pk_and (mx k) (m := 255) 8 (by decide)
  refine ⟨Nat.mod_lt _ (by decide), a2.trans hp, ?_⟩
  unfold byt
  rw [← hp, fa_byte_low]; exact a1
theorem T_ivT {n : Nat} {tc : Nat → Nat} {ts mt : Int32} {sg mx : Nat → Int32} (h : okTx n tc ts sg mt mx) : ivT n ts sg mt mx := by
  obtain ⟨h1, h2, h3, h4⟩ := h
  refine ⟨h1, by rw [h2, iI_nI], by rw [h3, iI_nI], fun k hk => ?_⟩
  obtain ⟨a1, a2, a3⟩ := h4 k hk
  have := byt_rt _ a1
  rw [a3, a2]; exact ⟨this.1.symm, this.2⟩
theorem ivT_0 {sg mx : Nat → Int32} : ivT 0 0 sg 0 mx := ⟨by omega, rfl, rfl, fun k hk => absurd hk (by omega)⟩
theorem byt_in {q lo hi : Nat} (hq : q < 256) (hh : hi < 128) (hl : lo < 128) : f_X12_in (byt q) (nI lo) (nI hi) = some (if lo ≤ q ∧ q ≤ hi then 1 else 0) := by
  unfold f_X12_in
  by_cases h : q < 128
  · rw [byt_lo q h]
    simp (disch := omega) only [nI_ltI]
    by_cases h1 : q < lo
    · rw [if_pos h1, if_neg (by omega)]
    · rw [if_neg h1]
      by_cases h2 : hi < q
      · rw [if_pos h2, if_neg (by omega)]
      · rw [if_neg h2, if_pos (by omega)]
  · have hn := byt_hi q hq (by omega)
    rw [if_pos, if_neg (by omega)]
    rw [Int32.lt_iff_toInt_lt] at hn ⊢
    rw [nI_toInt (by omega)]
    rw [show (0 : Int32).toInt = 0 from rfl] at hn
    omega
theorem m48 {q : Nat} (h : q < 256) : (nI q - 48).toInt = (q : Int) - 48 := by
  rw [c_48, iI_nI, iI_nI, iI_sub, iI_t (by omega)]; rfl
theorem x_dig {sg : Nat → Int32} {tc : Nat → Nat} {l a lo h1 : Nat} (hs : ∀ k, k < l → tc k < 256 ∧ sg k = nI (tc k)) (hl : l ≤ 80) (ha : a ≤ 80) (hlo : lo ≤ 9) (hh : h1 ≤ 10) : f_X9_digit (nI lo) (nI h1 - 1) (nI l) (nI a) sg = some (if a < l ∧ 48 + lo ≤ tc a ∧ tc a < 48 + h1 then (nI (tc a - 48), nI (a + 1)) else (-1, nI a)) := by
  unfold f_X9_digit
  by_cases h : a < l
  · obtain ⟨b1, b2⟩ := hs a h
    rw [if_neg (nI_ge h (by omega)), gx (by omega) (by omega), nI_clamp (by omega), b2, nI_1, nI_pred, nI_clamp (by omega), b2]
    have e1 : (nI (tc a) - 48 < nI lo) ↔ tc a < 48 + lo := by
      rw [Int32.lt_iff_toInt_lt, m48 b1, nI_toInt (by omega)]; omega
    have e2 : (nI (tc a) - 48 ≤ nI h1 - 1) ↔ tc a < 48 + h1 := by
      rw [Int32.le_iff_toInt_le, m48 b1, m1_t (by omega)]; omega
    by_cases q1 : tc a < 48 + lo
    · rw [if_pos (e1.mpr q1), if_neg (by omega)]
    · rw [if_neg (fun z => q1 (e1.mp z)), gx (by omega) (by omega)]
      by_cases q2 : tc a < 48 + h1
      · rw [if_pos (e2.mpr q2), gx (by omega) (by omega), if_pos ⟨h, by omega, q2⟩, c_48, pk_sub (by omega)]
      · rw [if_neg (fun z => q2 (e2.mp z)), if_neg (by omega)]
  · rw [if_pos (nI_le (by omega) (by omega)), if_neg (by omega)]
theorem x_digT {sg : Nat → Int32} {tc : Nat → Nat} {l a lo h1 : Nat} (hs : ∀ k, k < l → tc k < 256 ∧ sg k = nI (tc k)) (hl : l ≤ 80) (ha : a ≤ 80) (hlo : lo ≤ 9) (hh : h1 ≤ 10) (h : a < l ∧ 48 + lo ≤ tc a ∧ tc a < 48 + h1) : f_X9_digit (nI lo) (nI h1 - 1) (nI l) (nI a) sg = some (nI (tc a - 48), nI (a + 1)) := by
  rw [x_dig hs hl ha hlo hh, if_pos h]
theorem x_digF {sg : Nat → Int32} {tc : Nat → Nat} {l a lo h1 : Nat} (hs : ∀ k, k < l → tc k < 256 ∧ sg k = nI (tc k)) (hl : l ≤ 80) (ha : a ≤ 80) (hlo : lo ≤ 9) (hh : h1 ≤ 10) (h : ¬ (a < l ∧ 48 + lo ≤ tc a ∧ tc a < 48 + h1)) : f_X9_digit (nI lo) (nI h1 - 1) (nI l) (nI a) sg = some (-1, nI a) := by
  rw [x_dig hs hl ha hlo hh, if_neg h]
theorem x_open {k n : Nat} (hk : k < 1000) (hn : n ≤ 80) (l a : Int32) : f_X9_open (nI k) (nI n) l a = some (nI (min n k), 0) := by
  unfold f_X9_open
  rw [nI_mn (by omega) (by omega)]
theorem x_done {n a : Nat} (hn : n ≤ 80) (ha : a < 1000) : f_X9_isDone (nI n) (nI a) = some (if a = n then 1 else 0) := by
  unfold f_X9_isDone
  by_cases h : a = n
  · rw [if_pos (congrArg nI h), if_pos h]
  · rw [if_neg (fun q => h ((nI_eq (by omega) (by omega)).mp q)), if_neg h]
theorem mf_neg {q : Nat} (h : q < 1000) : (-1 : Int32) - nI q < 0 := by
  rw [Int32.lt_iff_toInt_lt, show (-1 : Int32) - nI q = iI (-1 - (q : Int)) from by rw [iI_m1, iI_nI, iI_sub], iI_t (by omega), show (0 : Int32).toInt = 0 from rfl]
  omega
section
variable {y H P : Nat} {tc : Nat → Nat} {ts mt : Int32} {sg mx : Nat → Int32}
theorem rd_players (hT : okTx y tc ts sg mt mx) (hH : H ≤ 6) (hP0 : 0 < P) (hP : P ≤ 6) {le mo : Nat} (h1 : 1 ≤ le) (h2 : le ≤ mo) (h3 : mo ≤ 3) (tl ta pp cn : Int32) (nd co : Nat → Int32) : (∃ v, v < 0 ∧ Rt (f_X11_readPlayers (nI le) (nI mo) ts tl ta (nI H) (nI P) pp sg nd) (fun a => a.1 = v ∧ a.2.1 = 0) ∧ Rt (f_X12_readComing (nI le) (nI mo) (nI H) (nI P) mt cn mx co) (fun b => b.1 = v ∧ b.2.1 = 0)) ∨ (∃ nm : Nat → Nat, le ≤ y ∧ y ≤ mo ∧ (∀ i, i < y → nm i < H) ∧ Rt (f_X11_readPlayers (nI le) (nI mo) ts tl ta (nI H) (nI P) pp sg nd) (fun a => a.1 = 0 ∧ a.2.1 = 0 ∧ a.2.2.2.2.1 = nI y ∧ ∀ i, i < y → a.2.2.2.2.2 i = nI (nm i)) ∧ Rt (f_X12_readComing (nI le) (nI mo) (nI H) (nI P) mt cn mx co) (fun b => b.1 = 0 ∧ b.2.1 = 0 ∧ b.2.2.1 = nI y ∧ ∀ i, i < y → b.2.2.2 i = nI (nm i))) := by
  obtain ⟨hy, rfl, rfl, hk⟩ := hT
  obtain ⟨q, hq1, hq2⟩ := pk_least (fun k => k = mo ∨ k = y ∨ (k < y ∧ ¬ (48 ≤ tc k ∧ tc k < 48 + H))) ⟨mo, .inl rfl⟩
  have hqm : q ≤ mo := Nat.le_of_not_lt (fun z => hq2 mo z (.inl rfl))
  have hqy : q ≤ y := Nat.le_of_not_lt (fun z => hq2 y z (.inr (.inl rfl)))
  have hgood : ∀ j, j < q → 48 ≤ tc j ∧ tc j < 48 + H := fun j hj => Classical.byContradiction (fun z => hq2 j hj (.inr (.inr ⟨by omega, z⟩)))
  have hs : ∀ k, k < y → tc k < 256 ∧ sg k = nI (tc k) := fun k hk' => ⟨(hk k hk').1, (hk k hk').2.1⟩
  -- the class
  have hx : Rt (f_X11_readPlayers (nI le) (nI mo) (nI y) tl ta (nI H) (nI P) pp sg nd) (fun a => a.2.1 = 0 ∧ ((q = y ∧ le ≤ y ∧ a.1 = 0 ∧ a.2.2.2.2.1 = nI y ∧ ∀ i, i < y → a.2.2.2.2.2 i = nI (tc i - 48)) ∨ (¬ (q = y ∧ le ≤ y) ∧ a.1 = -1 - nI q))) := by
    unfold f_X11_readPlayers
    refine rt_f (nI_ne0 hP0 (by omega)) ?_
    refine rb5 (P := fun (a : Int32 × Int32 × Int32 × Int32 × (Nat → Int32)) => (q = y ∧ le ≤ y ∧ a.1 = 0 ∧ a.2.2.2.1 = nI y ∧ ∀ i, i < y → a.2.2.2.2 i = nI (tc i - 48)) ∨ (¬ (q = y ∧ le ≤ y) ∧ a.1 = -1 - nI q)) ?_ (fun a1 a2 a3 a4 a5 ha => re1 (show f_X9_clear (nI y) = some 0 from rfl) (rt_some ⟨rfl, ha⟩))
    unfold f_X3_readPlayers
    refine re2 (x_open (k := 80) (by omega) hy tl ta) ?_
    rw [Nat.min_eq_left hy]
    refine rl4 3 (fun i v5 at' pl nd => v5 = nI i ∧ at' = nI i ∧ pl = nI i ∧ i ≤ q ∧ ∀ j, j < i → nd j = nI (tc j - 48)) (by omega) ⟨rfl, rfl, rfl, by omega, by omega⟩ ?_
    rintro rc i v5 at' pl nd ⟨rfl, rfl, rfl, hi, hnd⟩ ih
    have hkk : q = i → ((q = mo) ∨ q = y) → Rt (k_X3_readPlayers_14 (nI le) (nI y) (nI y) (nI i) (nI i) nd) (fun a => (q = y ∧ le ≤ y ∧ a.1 = 0 ∧ a.2.2.2.1 = nI y ∧ ∀ i, i < y → a.2.2.2.2 i = nI (tc i - 48)) ∨ (¬ (q = y ∧ le ≤ y) ∧ a.1 = -1 - nI q)) := by
      rintro rfl hc
      unfold k_X3_readPlayers_14
      by_cases c1 : q < le
      · exact rt_t (nI_lt c1 (by omega)) (re1 rfl (rt_some (.inr ⟨by omega, rfl⟩)))
      · refine rt_f (nI_nlt (by omega) (by omega)) (re1 (x_done hy (by omega)) ?_)
        by_cases c2 : q = y
        · rw [if_pos c2]
          refine rt_f i10n (rt_some (.inl ⟨c2, by omega, rfl, congrArg nI c2, fun j hj => hnd j (by omega)⟩))
        · rw [if_neg c2]
          exact rt_t rfl (re1 rfl (rt_some (.inr ⟨fun z => c2 z.1, rfl⟩)))
    unfold s_X3_readPlayers_14
    by_cases c1 : mo ≤ i
    · exact rt_t (nI_le c1 (by omega)) (hkk (by omega) (.inl (by omega)))
    · refine rt_f (nI_ge (by omega) (by omega)) (re1 (x_done hy (by omega)) ?_)
      by_cases c2 : i = y
      · rw [if_pos c2]
        exact rt_f i10n (hkk (by omega) (.inr (by omega)))
      · rw [if_neg c2]
        refine rt_t rfl ?_
        by_cases c3 : 48 ≤ tc i ∧ tc i < 48 + H
        · have hiq : i < q := by
            rcases Nat.lt_or_eq_of_le hi with z | z
            · exact z
            · subst z
              rcases hq1 with z | z | z
              · omega
              · omega
              · exact absurd c3 z.2
          refine re2 (x_digT (lo := 0) (h1 := H) hs hy (by omega) (by omega) (by omega) ⟨by omega, by omega, c3.2⟩) ?_
          refine rt_f (m1_ne (by omega)) (rt_gx (by omega) (by omega) (rt_lt (ih (by omega) _ _ _ _ ⟨nI_1 _, rfl, nI_1 _, by omega, fun j hj => ?_⟩)))
          rw [nI_clamp (by omega)]
          by_cases e : j = i
          · subst e; rw [upd_s]
          · rw [upd_n e]; exact hnd j (by omega)
        · have hiq : i = q := by
            rcases Nat.lt_or_eq_of_le hi with z | z
            · exact absurd (hgood i z) c3
            · exact z
          refine re2 (x_digF (lo := 0) (h1 := H) hs hy (by omega) (by omega) (by omega) (fun z => c3 ⟨by omega, z.2.2⟩)) ?_
          refine rt_t rfl (re1 rfl (rt_some (.inr ⟨by omega, ?_⟩)))
          show -1 - nI i = _
          rw [hiq]
  -- the reference
  have hm : Rt (f_X12_readComing (nI le) (nI mo) (nI H) (nI P) (nI y) cn mx co) (fun b => b.2.1 = 0 ∧ ((q = y ∧ le ≤ y ∧ b.1 = 0 ∧ b.2.2.1 = nI y ∧ ∀ i, i < y → b.2.2.2 i = nI (tc i - 48)) ∨ (¬ (q = y ∧ le ≤ y) ∧ b.1 = -1 - nI q))) := by
    unfold f_X12_readComing
    refine rt_f (nI_ne0 hP0 (by omega)) ?_
    refine rl1 80 (fun i v4 => v4 = nI i ∧ i ≤ q) (by omega) ⟨rfl, by omega⟩ ?_
    rintro rc i v4 ⟨rfl, hi⟩ ih
    unfold s_X12_readComing_23
    by_cases c1 : y ≤ i
    · have hqi : q = y := by omega
      refine rt_t (nI_le c1 (by omega)) ?_
      unfold k_X12_readComing_23
      by_cases c2 : le ≤ y
      · refine rt_t (nI_le c2 (by omega)) ?_
        refine rl2 3 (fun i v4 g => v4 = nI i ∧ i ≤ y ∧ ∀ j, j < i → g j = nI (tc j - 48)) (by omega) ⟨rfl, by omega, by omega⟩ ?_
        rintro rc2 j v4 g ⟨rfl, hj, hg⟩ ih2
        unfold s_X12_readComing_82
        by_cases c3 : y ≤ j
        · obtain rfl : y = j := by omega
          exact rt_t (nI_le (Nat.le_refl _) (by omega)) (rt_some ⟨rfl, .inl ⟨hqi, c2, rfl, rfl, hg⟩⟩)
        · have hgj := hgood j (by omega)
          refine rt_f (nI_ge (by omega) (by omega)) ?_
          rw [gx (by omega) (by omega), gx (by omega) (by omega), nI_clamp (by omega), (hk j (by omega)).2.2, byt_lo _ (by omega), c_48, pk_sub (by omega)]
          refine rt_lt (ih2 (by omega) _ _ ⟨nI_1 _, by omega, fun i' hi' => ?_⟩)
          by_cases e : i' = j
          · subst e; rw [upd_s]
          · rw [upd_n e]; exact hg i' (by omega)
      · refine rt_f (nI_ge (by omega) (by omega)) (rt_some ⟨rfl, .inr ⟨fun z => c2 z.2, ?_⟩⟩)
        show -1 - nI y = _
        rw [hqi]
    · refine rt_f (nI_ge (by omega) (by omega)) ?_
      by_cases c2 : i = mo
      · have hqi : q = i := by omega
        refine rt_t (congrArg nI c2) (rt_some ⟨rfl, .inr ⟨by omega, ?_⟩⟩)
        show -1 - nI i = _
        rw [hqi]
      · refine rt_f (fun z => c2 ((nI_eq (by omega) (by omega)).mp z)) (rt_gx (by omega) (by omega) ?_)
        rw [nI_clamp (by omega), (hk i (by omega)).2.2]
        have ein : f_X12_in (byt (tc i)) 48 (48 + nI H - 1) = some (if 48 ≤ tc i ∧ tc i < 48 + H then 1 else 0) := by
          have b1 := (hk i (by omega)).1
          rw [c_48, nI_add, c_1, pk_sub (by omega), byt_in b1 (by omega) (by omega)]
          by_cases z : 48 ≤ tc i ∧ tc i < 48 + H
          · rw [if_pos z, if_pos (by omega)]; rfl
          · rw [if_neg z, if_neg (by omega)]
        refine re1 ein ?_
        by_cases c3 : 48 ≤ tc i ∧ tc i < 48 + H
        · have hiq : i < q := by
            rcases Nat.lt_or_eq_of_le hi with z | z
            · exact z
            · subst z
              rcases hq1 with z | z | z
              · omega
              · omega
              · exact absurd c3 z.2
          rw [if_pos c3]
          exact rt_f i10n (rt_lt (ih (by omega) _ ⟨nI_1 _, by omega⟩))
        · have hiq : i = q := by
            rcases Nat.lt_or_eq_of_le hi with z | z
            · exact absurd (hgood i z) c3
            · exact z
          rw [if_neg c3]
          refine rt_t rfl (rt_some ⟨rfl, .inr ⟨by omega, ?_⟩⟩)
          show -1 - nI i = _
          rw [hiq]
  by_cases hok : q = y ∧ le ≤ y
  · refine .inr ⟨fun i => tc i - 48, hok.2, by omega, fun i hi => by have := hgood i (by omega); show tc i - 48 < H; omega, rt_mono hx ?_, rt_mono hm ?_⟩
    · rintro a ⟨a0, ⟨_, _, a1, a2, a3⟩ | ⟨a1, _⟩⟩
      · exact ⟨a1, a0, a2, a3⟩
      · exact absurd hok a1
    · rintro a ⟨a0, ⟨_, _, a1, a2, a3⟩ | ⟨a1, _⟩⟩
      · exact ⟨a1, a0, a2, a3⟩
      · exact absurd hok a1
  · refine .inl ⟨-1 - nI q, mf_neg (by omega), rt_mono hx ?_, rt_mono hm ?_⟩
    · rintro a ⟨a0, ⟨a1, a2, _⟩ | ⟨_, a1⟩⟩
      · exact absurd ⟨a1, a2⟩ hok
      · exact ⟨a1, a0⟩
    · rintro a ⟨a0, ⟨a1, a2, _⟩ | ⟨_, a1⟩⟩
      · exact absurd ⟨a1, a2⟩ hok
      · exact ⟨a1, a0⟩
end
