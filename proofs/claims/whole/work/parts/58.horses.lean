/-! horses -/
def hD (tc : Nat → Nat) (l a j : Nat) : Prop := isDg tc l (a + j) (if j = 0 then 3 else 0) 10
section
variable {y T l a p : Nat} {tc : Nat → Nat} {sg mx : Nat → Int32}
theorem hD_c (tc : Nat → Nat) (l a : Nat) : ∀ n, (∀ j, j < n → hD tc l a j) ∨ ∃ j, j < n ∧ (∀ i, i < j → hD tc l a i) ∧ ¬ hD tc l a j
  | 0 => .inl (fun j hj => absurd hj (by omega))
  | n + 1 => by
    rcases hD_c tc l a n with h | ⟨j, h1, h2, h3⟩
    · by_cases e : hD tc l a n
      · refine .inl (fun j hj => ?_)
        by_cases q : j = n
        · subst q; exact e
        · exact h j (by omega)
      · exact .inr ⟨n, by omega, h, e⟩
    · exact .inr ⟨j, by omega, h2, h3⟩
/-- what a row of digits holds behind a horse was read -/
def hW (tc : Nat → Nat) (a b n : Nat) (g g' : Nat → Int32) : Prop := (∀ j, j < n → g' (b + j) = nI (tc (a + j) - 48)) ∧ ∀ i, i < b → g' i = g i
theorem hW_0 (tc : Nat → Nat) (a b : Nat) (g : Nat → Int32) : hW tc a b 0 g g := ⟨fun j hj => absurd hj (by omega), fun _ _ => rfl⟩
theorem hW_s {b n : Nat} {g g' : Nat → Int32} (h : hW tc a b n g g') : hW tc a b (n + 1) g (upd g' (b + n) (nI (tc (a + n) - 48))) := by
  refine ⟨fun j hj => ?_, fun i hi => ?_⟩
  · by_cases e : j = n
    · subst e; rw [upd_s]
    · rw [upd_n (by omega)]; exact h.1 j (by omega)
  · rw [upd_n (by omega)]; exact h.2 i hi
theorem x_rdH (h : okRd y T l tc sg mx) (ha : a ≤ l) (hp : p < 6) (cd : Nat → Int32) {n : Nat} (hn : n ≤ 6) (hok : ∀ j, j < n → hD tc l a j) (hno : n < 6 → ¬ hD tc l a n) : Rt (f_X1_readHorse (nI p) (nI l) (nI a) sg cd) (fun r => r.1 = (if n < 6 then 0 else 1) ∧ r.2.1 = nI (a + n) ∧ hW tc a (6 * p) n cd r.2.2) := by
  have hl := rd_l h
  unfold f_X1_readHorse
  refine rl3 6 (fun k v at' g => v = nI k ∧ k ≤ n ∧ at' = nI (a + k) ∧ hW tc a (6 * p) k cd g) (by omega) ⟨rfl, by omega, rfl, hW_0 _ _ _ _⟩ ?_
  rintro rc k v at' g ⟨rfl, hk, rfl, hg⟩ ih
  unfold s_X1_readHorse_2
  by_cases c6 : 6 ≤ k
  · obtain rfl : k = 6 := by omega
    obtain rfl : n = 6 := by omega
    exact rt_t (by decide) (rt_some ⟨rfl, rfl, hg⟩)
  · refine rt_f (nI_ge (b := 6) (by omega) (by omega)) ?_
    have hb : a + k ≤ 80 := by
      by_cases z : k = 0
      · omega
      · have := (hok (k - 1) (by omega)).1; omega
    have main : ∀ lo : Nat, lo = (if k = 0 then 3 else 0) → Rt (j_X1_readHorse_18 (nI p) (nI l) sg rc (nI k) (nI (a + k)) g (nI lo)) (fun r => r.1 = (if n < 6 then 0 else 1) ∧ r.2.1 = nI (a + n) ∧ hW tc a (6 * p) n cd r.2.2) := by
      intro lo elo
      have hlo : lo ≤ 9 := by rw [elo]; split <;> omega
      unfold j_X1_readHorse_18
      by_cases ck : k < n
      · have d : isDg tc l (a + k) lo 10 := by rw [elo]; exact hok k ck
        have dd := d.2
        refine re2 (x_dT h hlo d) (rt_f (m1_ne (by omega)) ?_)
        rw [c_6, pk_mul, nI_add, Nat.mul_comm p 6]
        refine rt_gx (by omega) (by omega) (rt_lt ?_)
        rw [nI_clamp (by omega)]
        exact ih (by omega) _ _ _ ⟨nI_1 _, by omega, rfl, hW_s hg⟩
      · obtain rfl : n = k := by omega
        have d : ¬ isDg tc l (a + n) lo 10 := by rw [elo]; exact hno (by omega)
        refine re2 (x_dF h hlo hb d) (rt_t rfl (rt_some ⟨?_, rfl, hg⟩))
        rw [if_pos (by omega)]
    by_cases z : k = 0
    · refine rt_t (by rw [z]; rfl) (main 3 ?_)
      rw [if_pos z]
    · refine rt_f (fun e => z ((nI_eq (b := 0) (by omega) (by omega)).mp e)) (main 0 ?_)
      rw [if_neg z]
theorem m_rdH (h : okRd y T l tc sg mx) (ha : a ≤ l) (hp : p < 6) (nh : Nat → Int32) {n : Nat} (hn : n ≤ 6) (hok : ∀ j, j < n → hD tc l a j) (hno : n < 6 → ¬ hD tc l a n) : Rt (f_X12_readHorse_t (nI (6 * p)) (nI y) (nI T) (nI a) (-1) mx nh) (fun r => r.1 = nI (a + n) ∧ r.2.1 = (if n < 6 then nI (a + n) else -1) ∧ (n = 6 → hW tc a (6 * p) n nh r.2.2)) := by
  have hl := rd_l h
  have hbk : ∀ k, k ≤ n → a + k ≤ 80 := by
    intro k hk
    by_cases z : k = 0
    · omega
    · have := (hok (k - 1) (by omega)).1; omega
  have loop : ∀ (s : Nat) (w0 : Int32) (nh1 : Nat → Int32), (w0 = -1 ∧ 1 ≤ n ∧ s = 1 ∧ hW tc a (6 * p) 1 nh nh1) ∨ (n = 0 ∧ s = 0 ∧ w0 = nI a) → Rt (ml4 (s_X12_readHorse_t_15 (nI (6 * p)) (nI y) (nI T) mx (k_X12_readHorse_t_15)) zN 1 (nI (a + s)) w0 nh1) (fun r => r.1 = nI (a + n) ∧ r.2.1 = (if n < 6 then nI (a + n) else -1) ∧ (n = 6 → hW tc a (6 * p) n nh r.2.2)) := by
    intro s w0 nh1 h0
    refine rl4 5 (fun k v at' w g => v = nI (k + 1) ∧ k ≤ 5 ∧ ((w = -1 ∧ k + 1 ≤ n ∧ at' = nI (a + (k + 1)) ∧ hW tc a (6 * p) (k + 1) nh g) ∨ (n < 6 ∧ n ≤ k ∧ w = nI (a + n) ∧ at' = nI (a + n)))) (by omega) ⟨rfl, by omega, ?_⟩ ?_
    · rcases h0 with ⟨e1, e2, rfl, e3⟩ | ⟨e1, rfl, e3⟩
      · exact .inl ⟨e1, e2, rfl, e3⟩
      · exact .inr ⟨by omega, by omega, by rw [e1]; exact e3, by rw [e1]⟩
    rintro rc k v at' w g ⟨rfl, hk, hI⟩ ih
    unfold s_X12_readHorse_t_15
    by_cases c6 : 6 ≤ k + 1
    · refine rt_t (nI_le (a := 6) (by omega) (by omega)) (rt_some ?_)
      rcases hI with ⟨e1, e2, e3, e4⟩ | ⟨e1, e2, e3, e4⟩
      · obtain rfl : n = k + 1 := by omega
        exact ⟨e3, by rw [if_neg (by omega)]; exact e1, fun _ => e4⟩
      · exact ⟨e4, by rw [if_pos e1]; exact e3, fun z => absurd z (by omega)⟩
    · refine rt_f (nI_ge (b := 6) (by omega) (by omega)) ?_
      rw [nI_add]
      rcases hI with ⟨rfl, e2, rfl, e4⟩ | ⟨e1, e2, rfl, rfl⟩
      · by_cases ck : k + 1 < n
        · have d : isDg tc l (a + (k + 1)) 0 10 := hok (k + 1) ck
          refine re3 (m_dT (lo := 0) h (by omega) d) (rt_gx (by omega) (by omega) (rt_lt ?_))
          rw [nI_clamp (by omega)]
          exact ih (by omega) _ _ _ _ ⟨nI_1 _, by omega, .inl ⟨rfl, by omega, rfl, hW_s e4⟩⟩
        · obtain rfl : n = k + 1 := by omega
          have d : ¬ isDg tc l (a + (k + 1)) 0 10 := hno (by omega)
          refine re3 (m_dF (lo := 0) h (by omega) (by have := hbk (k + 1) (by omega); omega) d) (rt_gx (by omega) (by omega) (rt_lt ?_))
          exact ih (by omega) _ _ _ _ ⟨nI_1 _, by omega, .inr ⟨by omega, by omega, rfl, rfl⟩⟩
      · refine re3 (m_dW (m1_ne (by have := hbk n (by omega); omega)) _ _ _ _ _) (rt_gx (by omega) (by omega) (rt_lt ?_))
        exact ih (by omega) _ _ _ _ ⟨nI_1 _, by omega, .inr ⟨e1, by omega, rfl, rfl⟩⟩
  unfold f_X12_readHorse_t
  by_cases z : 1 ≤ n
  · have d : isDg tc l a 3 10 := hok 0 (by omega)
    refine re3 (m_dT (lo := 3) h (by omega) d) (rt_gx (by omega) (by omega) ?_)
    rw [nI_clamp (by omega)]
    exact loop 1 (-1) _ (.inl ⟨rfl, z, rfl, hW_s (n := 0) (hW_0 _ _ _ _)⟩)
  · obtain rfl : n = 0 := by omega
    have d : ¬ isDg tc l a 3 10 := hno (by omega)
    refine re3 (m_dF (lo := 3) h (by omega) (by omega) d) (rt_gx (by omega) (by omega) ?_)
    exact loop 0 (nI a) _ (.inr ⟨rfl, rfl, rfl⟩)
end
section
variable {y H : Nat} {tc st sc ca : Nat → Nat} {ts mt tw : Int32} {sg mx cd ms mc ma : Nat → Int32}
/-- digits of new horses, both sides -/
def okN (H k : Nat) (dg : Nat → Nat) (cd d nh : Nat → Int32) : Prop := (∀ j, j < 6 * k → dg j ≤ 9 ∧ (j % 6 = 0 → 3 ≤ dg j) ∧ d (6 * H + j) = nI (dg j) ∧ nh j = nI (dg j)) ∧ ∀ i, i < 6 * H → d i = cd i
def gS (H : Nat) (st dg : Nat → Nat) (h : Nat) : Nat := if h < H then st h else dg (6 * (h - H))
def gO (H : Nat) (sc dg : Nat → Nat) (h : Nat) : Nat := if h < H then sc h else dg (6 * (h - H) + 1)
def gA (H : Nat) (ca dg : Nat → Nat) (q : Nat) : Nat := if q < 4 * H then ca q else dg (6 * ((q - 4 * H) / 4) + 2 + (q - 4 * H) % 4)
theorem gA_o {ca dg : Nat → Nat} {h k : Nat} (hk : k < 4) (hh : h < H) : gA H ca dg (4 * h + k) = ca (4 * h + k) := by
  unfold gA; rw [if_pos (by omega)]
theorem gA_n {ca dg : Nat → Nat} {i k : Nat} (hk : k < 4) : gA H ca dg (4 * (H + i) + k) = dg (6 * i + 2 + k) := by
  unfold gA; rw [if_neg (by omega)]
  congr 1; omega
theorem gG {k : Nat} {dg : Nat → Nat} {d nh : Nat → Int32} (hg : okG H st sc ca) (h6 : H + k ≤ 6) (hn : okN H k dg cd d nh) : okG (H + k) (gS H st dg) (gO H sc dg) (gA H ca dg) := by
  refine ⟨h6, fun h hh => ?_⟩
  by_cases c : h < H
  · obtain ⟨g1, g2, g3⟩ := hg.2 h c
    unfold gS gO
    rw [if_pos c, if_pos c]
    exact ⟨g1, g2, fun k hk => by rw [gA_o hk c]; exact g3 k hk⟩
  · obtain ⟨i, rfl⟩ : ∃ i, h = H + i := ⟨h - H, by omega⟩
    unfold gS gO
    rw [if_neg c, if_neg c, Nat.add_sub_cancel_left]
    obtain ⟨a1, a2, _⟩ := hn.1 (6 * i) (by omega)
    obtain ⟨b1, _⟩ := hn.1 (6 * i + 1) (by omega)
    refine ⟨⟨a2 (by omega), a1⟩, b1, fun k hk => ?_⟩
    rw [gA_n hk]
    exact (hn.1 (6 * i + 2 + k) (by omega)).1
theorem gDx {k : Nat} {dg : Nat → Nat} {d nh : Nat → Int32} (hg : okD H st sc ca cd) (h6 : H + k ≤ 6) (hn : okN H k dg cd d nh) : okD (H + k) (gS H st dg) (gO H sc dg) (gA H ca dg) d := by
  refine ⟨gG hg.1 h6 hn, fun h hh => ?_⟩
  by_cases c : h < H
  · obtain ⟨g1, g2, g3⟩ := hg.2 h c
    unfold gS gO
    rw [if_pos c, if_pos c, hn.2 _ (by omega), hn.2 _ (by omega)]
    exact ⟨g1, g2, fun k hk => by rw [gA_o hk c, hn.2 _ (by omega)]; exact g3 k hk⟩
  · obtain ⟨i, rfl⟩ : ∃ i, h = H + i := ⟨h - H, by omega⟩
    unfold gS gO
    rw [if_neg c, if_neg c, Nat.add_sub_cancel_left]
    refine ⟨?_, ?_, fun k hk => ?_⟩
    · rw [show 6 * (H + i) = 6 * H + 6 * i by omega]
      exact (hn.1 (6 * i) (by omega)).2.2.1
    · rw [show 6 * (H + i) + 1 = 6 * H + (6 * i + 1) by omega]
      exact (hn.1 (6 * i + 1) (by omega)).2.2.1
    · rw [gA_n hk, show 6 * (H + i) + (2 + k) = 6 * H + (6 * i + 2 + k) by omega]
      exact (hn.1 (6 * i + 2 + k) (by omega)).2.2.1
theorem m_horsesK {n1 at' w : Int32} {nh : Nat → Int32} (hw : w ≠ -1) : Rt (k_X12_horses_37 (nI H) ms mc ma (nI y) (nI 76) n1 at' w nh) (fun b => (b.1 = -1 - w ∧ b.2.1 = nI H ∧ b.2.2.1 = 0 ∧ b.2.2.2.1 = 0 ∧ b.2.2.2.2.2.2.2.2.1 = ms ∧ b.2.2.2.2.2.2.2.2.2.1 = mc ∧ b.2.2.2.2.2.2.2.2.2.2.1 = ma)) := by
  have hj : Rt (j_X12_horses_110 (nI H) ms mc ma (nI y) (nI 76) n1 at' nh w) (fun b => (b.1 = -1 - w ∧ b.2.1 = nI H ∧ b.2.2.1 = 0 ∧ b.2.2.2.1 = 0 ∧ b.2.2.2.2.2.2.2.2.1 = ms ∧ b.2.2.2.2.2.2.2.2.2.1 = mc ∧ b.2.2.2.2.2.2.2.2.2.2.1 = ma)) := by
    unfold j_X12_horses_110
    exact re1 (m_fine_f hw) (rt_t rfl (rt_some ⟨rfl, rfl, rfl, rfl, rfl, rfl, rfl⟩))
  unfold k_X12_horses_37
  exact rt_if (fun _ => hj) (fun _ => re1 (m_fault_f _ hw) hj)
theorem m_copyH {n : Nat} {dg : Nat → Nat} {d nh : Nat → Int32} (hg : okS H st sc ca ms mc ma) (h6 : H + n ≤ 6) (hn : okN H n dg cd d nh) (L M A W : Int32) : Rt (ml5 (s_X12_horses_126 (nI n) nh (k_X12_horses_126 L M (nI n) A nh W)) zN 0 (nI H) ms mc ma) (fun b => b.1 = nI n ∧ b.2.1 = nI (H + n) ∧ b.2.2.1 = 0 ∧ b.2.2.2.1 = 0 ∧ okS (H + n) (gS H st dg) (gO H sc dg) (gA H ca dg) b.2.2.2.2.2.2.2.2.1 b.2.2.2.2.2.2.2.2.2.1 b.2.2.2.2.2.2.2.2.2.2.1) := by
  have hG := gG hg.1 h6 hn
  refine rl5 6 (fun k v hz a1 a2 a3 => v = nI k ∧ k ≤ n ∧ hz = nI (H + k) ∧ ∀ h, h < H + k → a1 h = nI (gS H st dg h) ∧ a2 h = nI (gO H sc dg h) ∧ ∀ i, i < 4 → a3 (4 * h + i) = nI (gA H ca dg (4 * h + i))) (by omega) ⟨rfl, by omega, rfl, fun h hh => ?_⟩ ?_
  · obtain ⟨g1, g2, g3⟩ := hg.2 h hh
    unfold gS gO
    rw [if_pos (by omega), if_pos (by omega)]
    exact ⟨g1, g2, fun i hi => by rw [gA_o hi (by omega)]; exact g3 i hi⟩
  rintro rc k v hz a1 a2 a3 ⟨rfl, hk, rfl, hI⟩ ih
  unfold s_X12_horses_126
  by_cases cn : n ≤ k
  · obtain rfl : n = k := by omega
    refine rt_t (nI_le (Nat.le_refl _) (by omega)) ?_
    unfold k_X12_horses_126
    exact rt_some ⟨rfl, rfl, rfl, rfl, hG, hI⟩
  · refine rt_f (nI_ge (by omega) (by omega)) (rt_lt ?_)
    rw [c_6, pk_mul, nI_1]
    refine rt_gx (by omega) (by omega) (rt_gx (by omega) (by omega) (rt_gx (by omega) (by omega) (rt_gx (by omega) (by omega) ?_)))
    refine rl2 4 (fun j v5 g => v5 = nI j ∧ j ≤ 4 ∧ (∀ h, h < H + k → ∀ i, i < 4 → g (4 * h + i) = nI (gA H ca dg (4 * h + i))) ∧ ∀ i, i < j → g (4 * (H + k) + i) = nI (gA H ca dg (4 * (H + k) + i))) (by omega) ⟨rfl, by omega, fun h hh => (hI h hh).2.2, by omega⟩ ?_
    rintro rc2 j v5 g ⟨rfl, hj, hg1, hg2⟩ ih2
    unfold s_X12_horses_174
    by_cases c4 : 4 ≤ j
    · obtain rfl : j = 4 := by omega
      refine rt_t (by decide) ?_
      unfold k_X12_horses_174
      refine rt_lt (ih (by omega) _ _ _ _ _ ⟨nI_1 _, by omega, nI_1 _, fun h hh => ?_⟩)
      rw [nI_1, nI_clamp (by omega), nI_clamp (by omega), nI_clamp (by omega)]
      by_cases e : h = H + k
      · subst e
        rw [upd_s, upd_s]
        unfold gS gO
        rw [if_neg (by omega), if_neg (by omega), Nat.add_sub_cancel_left]
        exact ⟨(hn.1 (6 * k) (by omega)).2.2.2, (hn.1 (6 * k + 1) (by omega)).2.2.2, fun i hi => hg2 i hi⟩
      · rw [upd_n e, upd_n e]
        obtain ⟨g1, g2, _⟩ := hI h (by omega)
        exact ⟨g1, g2, hg1 h (by omega)⟩
    · refine rt_f (nI_ge (b := 4) (by omega) (by omega)) ?_
      rw [c_2, nI_add, nI_add, c_4, pk_mul, nI_add]
      refine rt_gx (by omega) (by omega) (rt_gx (by omega) (by omega) (rt_lt (ih2 (by omega) _ _ ⟨nI_1 _, by omega, fun h hh i hi => ?_, fun i hi => ?_⟩)))
      · rw [nI_clamp (by omega), upd_n (by omega)]; exact hg1 h hh i hi
      · rw [nI_clamp (by omega), nI_clamp (by omega)]
        by_cases e : i = j
        · subst e; rw [upd_s, gA_n (by omega)]
          exact (hn.1 (6 * k + 2 + i) (by omega)).2.2.2
        · rw [upd_n (by omega)]; exact hg2 i (by omega)
theorem okN_s {k a l : Nat} {dg : Nat → Nat} {d nh d' nh' : Nat → Int32} (hn : okN H k dg cd d nh) (hok : ∀ j, j < 6 → hD tc l a j) (w1 : hW tc a (6 * (H + k)) 6 d d') (w2 : hW tc a (6 * k) 6 nh nh') : okN H (k + 1) (fun j => if j < 6 * k then dg j else tc (a + (j - 6 * k)) - 48) cd d' nh' := by
  refine ⟨fun j hj => ?_, fun i hi => ?_⟩
  · by_cases c : j < 6 * k
    · obtain ⟨h1, h2, h3, h4⟩ := hn.1 j c
      show (if j < 6 * k then dg j else tc (a + (j - 6 * k)) - 48) ≤ 9 ∧ (j % 6 = 0 → 3 ≤ (if j < 6 * k then dg j else tc (a + (j - 6 * k)) - 48)) ∧ d' (6 * H + j) = nI (if j < 6 * k then dg j else tc (a + (j - 6 * k)) - 48) ∧ nh' j = nI (if j < 6 * k then dg j else tc (a + (j - 6 * k)) - 48)
      rw [if_pos c, w1.2 _ (by omega), w2.2 _ c]
      exact ⟨h1, h2, h3, h4⟩
    · obtain ⟨i, rfl⟩ : ∃ i, j = 6 * k + i := ⟨j - 6 * k, by omega⟩
      show (if 6 * k + i < 6 * k then dg (6 * k + i) else tc (a + (6 * k + i - 6 * k)) - 48) ≤ 9 ∧ ((6 * k + i) % 6 = 0 → 3 ≤ (if 6 * k + i < 6 * k then dg (6 * k + i) else tc (a + (6 * k + i - 6 * k)) - 48)) ∧ d' (6 * H + (6 * k + i)) = nI (if 6 * k + i < 6 * k then dg (6 * k + i) else tc (a + (6 * k + i - 6 * k)) - 48) ∧ nh' (6 * k + i) = nI (if 6 * k + i < 6 * k then dg (6 * k + i) else tc (a + (6 * k + i - 6 * k)) - 48)
      rw [if_neg c, Nat.add_sub_cancel_left]
      have hd := (hok i (by omega)).2
      refine ⟨by omega, fun z => ?_, ?_, w2.1 i (by omega)⟩
      · obtain rfl : i = 0 := by omega
        rw [if_pos rfl] at hd
        omega
      · rw [show 6 * H + (6 * k + i) = 6 * (H + k) + i by omega]
        exact w1.1 i (by omega)
  · rw [w1.2 i (by omega)]; exact hn.2 i hi
theorem hs_pair (hT : okTx y tc ts sg mt mx) (hDx : okD H st sc ca cd) (hS : okS H st sc ca ms mc ma) (tl ta q1 q2 q3 q4 q5 : Int32) (nh : Nat → Int32) : Rt (f_X1_readHorses ts tl ta (nI H) sg cd) (fun a => Rt (f_X12_horses (nI H) mt tw q1 q2 q3 q4 q5 ms mc ma mx nh) (fun b => (a.1 = b.1 ∧ b.2.2.1 = 0 ∧ b.2.2.2.1 = 0 ∧ ∃ H' st' sc' ca', H ≤ H' ∧ a.2.2.2.1 = nI H' ∧ b.2.1 = nI H' ∧ okD H' st' sc' ca' a.2.2.2.2 ∧ okS H' st' sc' ca' b.2.2.2.2.2.2.2.2.1 b.2.2.2.2.2.2.2.2.2.1 b.2.2.2.2.2.2.2.2.2.2.1))) := by
  have hR := okTx_R (T := 76) hT (by omega)
  obtain ⟨hy, rfl, rfl, hk⟩ := hT
  have hl := rd_l hR
  have hH := hDx.1.1
  unfold f_X1_readHorses
  refine re2 (x_open (k := 76) (by omega) hy tl ta) ?_
  generalize hlm : min y 76 = l at *
  refine re1 (x_done (a := 0) hy (by omega)) ?_
  by_cases y0 : 0 = y
  · rw [if_pos y0]
    refine rt_f i10n (rt_some ?_)
    unfold f_X12_horses
    refine re4 (show f_X12_begin_m_text (nI y) 76 q1 q2 q3 q4 q5 = some (nI y, nI 76, 0, -1) from rfl) (rt_t (by rw [← y0]; rfl) (rt_some ?_))
    exact ⟨rfl, rfl, rfl, H, st, sc, ca, Nat.le_refl _, rfl, rfl, hDx, hS⟩
  rw [if_neg y0]
  refine rt_t rfl ?_
  have hm0 : f_X12_horses (nI H) (nI y) tw q1 q2 q3 q4 q5 ms mc ma mx nh = ml5 (s_X12_horses_37 (nI H) mx (nI y) (nI 76) (k_X12_horses_37 (nI H) ms mc ma (nI y) (nI 76))) zN 0 1 0 (-1) nh := by
    unfold f_X12_horses
    rw [bd4_t (show f_X12_begin_m_text (nI y) 76 q1 q2 q3 q4 q5 = some (nI y, nI 76, 0, -1) from rfl), if_neg (show ¬ nI y = 0 from fun z => y0 ((nI_eq (b := 0) (by omega) (by omega)).mp z).symm)]
  rw [hm0]
  refine rs3_5 6 (fun k v2 at' d n1 more at2 w nh => ∃ (a : Nat) (dg : Nat → Nat), v2 = nI k ∧ at' = nI a ∧ n1 = nI k ∧ more = 1 ∧ at2 = nI a ∧ w = -1 ∧ H + k ≤ 6 ∧ a ≤ l ∧ okN H k dg cd d nh) (by omega) ⟨0, fun _ => 0, rfl, rfl, rfl, rfl, rfl, rfl, by omega, by omega, fun j hj => absurd hj (by omega), fun _ _ => rfl⟩ ?_
  rintro rc rc' k v2 at' d n1 more at2 w nh ⟨a, dg, rfl, rfl, rfl, rfl, rfl, rfl, hk6, hal, hN⟩ hr ih
  have hbad : ∀ (q : Nat) (n2 a2 : Int32) (nf2 : Nat → Int32) (w : Int32), q < 1000 → w = nI q → Rt (rc' n2 0 a2 w nf2) (fun b => (b.1 = -1 - w ∧ b.2.1 = nI H ∧ b.2.2.1 = 0 ∧ b.2.2.2.1 = 0 ∧ b.2.2.2.2.2.2.2.2.1 = ms ∧ b.2.2.2.2.2.2.2.2.2.1 = mc ∧ b.2.2.2.2.2.2.2.2.2.2.1 = ma)) := by
    intro q n2 a2 nf2 w hq hw
    obtain ⟨rc2, e⟩ := hr n2 0 a2 w nf2
    rw [e]
    unfold s_X12_horses_37
    exact rt_t rfl (m_horsesK (by rw [hw]; exact m1_ne (by omega)))
  have hDd : ∀ d' : Nat → Int32, (∀ i, i < 6 * H → d' i = cd i) → okD H st sc ca d' := by
    intro d' hd'
    refine ⟨hDx.1, fun h hh => ?_⟩
    rw [hd' _ (by omega), hd' _ (by omega)]
    obtain ⟨g1, g2, g3⟩ := hDx.2 h hh
    exact ⟨g1, g2, fun k hk => by rw [hd' _ (by omega)]; exact g3 k hk⟩
  unfold s_X1_readHorses_17
  rw [nI_add]
  by_cases c6 : 6 ≤ H + k
  · refine rt_t (nI_le (a := 6) (by omega) (by omega)) ?_
    unfold k_X1_readHorses_17
    refine re1 rfl (rt_some ?_)
    unfold s_X12_horses_37
    rw [nI_add]
    refine rt_f i10n (re1 m_fine_t (rt_f i10n (rt_t (by rw [show H + k = 6 by omega]; rfl) (re1 (m_fault_t _) (rt_lt (re2 (m_passes_f (m1_ne (by omega)) _ _ _ _ _) ?_))))))
    refine rt_mono (hbad a _ _ _ _ (by omega) rfl) ?_
    rintro b ⟨b1, b2, b3, b4, b5, b6, b7⟩
    refine ⟨b1.symm, b3, b4, H, st, sc, ca, Nat.le_refl _, rfl, b2, hDd _ hN.2, ?_⟩
    rw [b5, b6, b7]; exact hS
  · refine rt_f (nI_ge (b := 6) (by omega) (by omega)) ?_
    have href : ∀ (Q : _ → Prop), Rt (bd3 (f_X12_readHorse_t (nI (6 * k)) (nI y) (nI 76) (nI a) (-1) mx nh) (fun at3 w3 nf3 => bd2 (f_X12_passes_t 59 (nI y) (nI 76) at3 w3 mx) (fun r at4 => rc' (nI k + 1) r at4 w3 nf3))) Q → Rt (s_X12_horses_37 (nI H) mx (nI y) (nI 76) (k_X12_horses_37 (nI H) ms mc ma (nI y) (nI 76)) rc' (nI k) 1 (nI a) (-1) nh) Q := by
      intro Q hQ
      unfold s_X12_horses_37
      rw [nI_add]
      refine rt_f i10n (re1 m_fine_t (rt_f i10n (rt_f (fun z => by have := (nI_eq (b := 6) (by omega) (by omega)).mp z; omega) ?_)))
      rw [c_6, pk_mul]
      exact hQ
    have both : ∀ n, n ≤ 6 → (∀ j, j < n → hD tc l a j) → (n < 6 → ¬ hD tc l a n) → _ := fun n h1 h2 h3 => And.intro (x_rdH hR hal (show H + k < 6 by omega) d h1 h2 h3) (m_rdH hR hal (show k < 6 by omega) nh h1 h2 h3)
    rcases hD_c tc l a 6 with hok | ⟨n, hn6, hok, hno⟩
    · obtain ⟨g1, g2⟩ := both 6 (Nat.le_refl _) hok (fun z => absurd z (by omega))
      refine rb3 g1 ?_
      rintro r1 r2 d' ⟨rfl, rfl, hw1⟩
      have ha5 := (hok 5 (by omega)).1
      refine rt_f i10n (re1 (x_done hy (by omega)) ?_)
      by_cases cdn : a + 6 = y
      · rw [if_pos cdn]
        refine rt_f i10n (rt_some (href _ (rb3 g2 ?_)))
        rintro s1 s2 nh' ⟨rfl, rfl, hw2⟩
        have hN2 := okN_s hN hok hw1 (hw2 rfl)
        refine re2 (m_passF (c := 59) hR (by omega) (by omega) (by unfold sn; rw [if_neg (by omega)]; omega)) ?_
        obtain ⟨rc2, er⟩ := hr (nI k + 1) 0 (nI (a + 6)) (-1) nh'
        show Rt (rc' (nI k + 1) 0 (nI (a + 6)) (-1) nh') _
        rw [er]
        unfold s_X12_horses_37
        refine rt_t rfl ?_
        unfold k_X12_horses_37
        refine rt_t (nI_le (by omega) (by omega)) ?_
        unfold j_X12_horses_110
        refine re1 m_fine_t (rt_f i10n ?_)
        rw [nI_1]
        refine rt_mono (m_copyH hS (by omega) hN2 _ _ _ _) ?_
        rintro b ⟨b1, b2, b3, b4, b5⟩
        refine ⟨b1.symm, b3, b4, H + (k + 1), _, _, _, by omega, ?_, b2, gDx hDx (by omega) hN2, b5⟩
        show nI H + nI (k + 1) = _
        rw [nI_add]
      · rw [if_neg cdn]
        refine rt_t rfl ?_
        by_cases cs : sn tc l (a + 6) = 59
        · have hlt := (sn_lt hR (by omega) cs).1
          refine re2 (x_takeT (c := 59) hR (by omega) cs) (rt_f i10n (rt_lt ?_))
          obtain ⟨⟨s1, s2, nh'⟩, es, rfl, rfl, hw2⟩ := g2
          have hN2 := okN_s hN hok hw1 (hw2 rfl)
          refine rt_mono (ih (by omega) _ _ _ (nI k + 1) 1 (nI (a + 6 + 1)) (-1) nh' ⟨a + 6 + 1, _, nI_1 _, rfl, nI_1 _, rfl, rfl, rfl, by omega, by omega, hN2⟩) ?_
          intro p hp
          exact href _ (re3 es (re2 (m_passT (c := 59) hR (by omega) cs) hp))
        · refine re2 (x_takeF (c := 59) hR (by omega) (by omega) cs) (rt_t rfl (re1 rfl (rt_some (href _ (rb3 g2 ?_)))))
          rintro s1 s2 nh' ⟨rfl, rfl, hw2⟩
          refine re2 (m_passF (c := 59) hR (by omega) (by omega) cs) ?_
          obtain ⟨rc2, er⟩ := hr (nI k + 1) 0 (nI (a + 6)) (-1) nh'
          show Rt (rc' (nI k + 1) 0 (nI (a + 6)) (-1) nh') _
          rw [er]
          unfold s_X12_horses_37
          refine rt_t rfl ?_
          unfold k_X12_horses_37
          refine rt_f (nI_ge (by omega) (by omega)) (re1 (m_fault_t _) ?_)
          unfold j_X12_horses_110
          refine re1 (m_fine_f (m1_ne (by omega))) (rt_t rfl (rt_some ⟨rfl, rfl, rfl, H, st, sc, ca, Nat.le_refl _, rfl, rfl, hDd _ ?_, hS⟩))
          intro i hi
          rw [hw1.2 i (by omega)]; exact hN.2 i hi
    · obtain ⟨g1, g2⟩ := both n (by omega) hok (fun _ => hno)
      rw [if_pos hn6] at g1
      rw [if_pos hn6] at g2
      have hb : a + n ≤ 80 := by
        by_cases z : n = 0
        · omega
        · have := (hok (n - 1) (by omega)).1; omega
      refine rb3 g1 ?_
      rintro r1 r2 d' ⟨rfl, rfl, hw1⟩
      refine rt_t rfl (re1 rfl (rt_some (href _ (rb3 g2 ?_))))
      rintro s1 s2 nh' ⟨rfl, rfl, _⟩
      refine re2 (m_passes_f (m1_ne (by omega)) _ _ _ _ _) (rt_mono (hbad (a + n) _ _ _ _ (by omega) rfl) ?_)
      rintro b ⟨b1, b2, b3, b4, b5, b6, b7⟩
      refine ⟨b1.symm, b3, b4, H, st, sc, ca, Nat.le_refl _, rfl, b2, hDd _ (fun i hi => ?_), ?_⟩
      · rw [hw1.2 i (by omega)]; exact hN.2 i hi
      · rw [b5, b6, b7]; exact hS
theorem pr_horses (hT : okTx y tc ts sg mt mx) (hDx : okD H st sc ca cd) (hS : okS H st sc ca ms mc ma) (tl ta q1 q2 q3 q4 q5 : Int32) (nh : Nat → Int32) : Rt (f_X11_horses ts tl ta (nI H) sg cd) (fun a => Rt (f_X12_horses (nI H) mt tw q1 q2 q3 q4 q5 ms mc ma mx nh) (fun b => (a.1 = b.1 ∧ b.2.2.2.1 = 0 ∧ a.2.1 = 0 ∧ b.2.2.1 = 0 ∧ ∃ H' st' sc' ca', H ≤ H' ∧ a.2.2.2.2.1 = nI H' ∧ b.2.1 = nI H' ∧ okD H' st' sc' ca' a.2.2.2.2.2 ∧ okS H' st' sc' ca' b.2.2.2.2.2.2.2.2.1 b.2.2.2.2.2.2.2.2.2.1 b.2.2.2.2.2.2.2.2.2.2.1))) := by
  unfold f_X11_horses
  refine rb5 (hs_pair (tw := tw) hT hDx hS tl ta q1 q2 q3 q4 q5 nh) ?_
  rintro a1 a2 a3 a4 a5 ⟨b, eb, e1, e2, e3, hq⟩
  refine re1 (show f_X9_clear ts = some 0 from rfl) (rt_some (rt_e eb ⟨e1, e3, rfl, e2, hq⟩))
end
