/-! LOOPS: leN, an invariant I by how often it has run, E where it ends -/
theorem le1 {A1 R : Type} {s : (A1 → Option R) → A1 → Option R} {a1 : A1} (I E : Nat → A1 → Prop) (n : Nat) (hn : n < 99999) (h0 : I 0 a1) (hs : ∀ rc k x1, I k x1 → E k x1 ∨ (k < n ∧ ∃ y1, I (k + 1) y1 ∧ s rc x1 = rc y1)) : ∃ k x1 rc, I k x1 ∧ E k x1 ∧ ml1 s zN a1 = s rc x1 := by
  have key : ∀ (m k f : Nat) x1, n ≤ k + m → m < f → I k x1 → ∃ k y1 rc, I k y1 ∧ E k y1 ∧ ml1 s f x1 = s rc y1 := by
    intro m
    induction m with
    | zero =>
      intro k f x1 hk hf hI
      obtain ⟨f, rfl⟩ : ∃ f', f = f' + 1 := ⟨f - 1, by omega⟩
      rcases hs (ml1 s f) k x1 hI with hE | ⟨hk', _⟩
      · exact ⟨k, x1, ml1 s f, hI, hE, rfl⟩
      · omega
    | succ m ih =>
      intro k f x1 hk hf hI
      obtain ⟨f, rfl⟩ : ∃ f', f = f' + 1 := ⟨f - 1, by omega⟩
      rcases hs (ml1 s f) k x1 hI with hE | ⟨hk', y1, hI', e⟩
      · exact ⟨k, x1, ml1 s f, hI, hE, rfl⟩
      · obtain ⟨k2, z1, rc2, hI2, hE2, e2⟩ := ih (k + 1) f y1 (by omega) (by omega) hI'
        refine ⟨k2, z1, rc2, hI2, hE2, ?_⟩
        show s (ml1 s f) x1 = _
        rw [e, e2]
  exact key n 0 zN a1 (by omega) (by show n < 100000; omega) h0
theorem le2 {A1 A2 R : Type} {s : (A1 → A2 → Option R) → A1 → A2 → Option R} {a1 : A1} {a2 : A2} (I E : Nat → A1 → A2 → Prop) (n : Nat) (hn : n < 99999) (h0 : I 0 a1 a2) (hs : ∀ rc k x1 x2, I k x1 x2 → E k x1 x2 ∨ (k < n ∧ ∃ y1 y2, I (k + 1) y1 y2 ∧ s rc x1 x2 = rc y1 y2)) : ∃ k x1 x2 rc, I k x1 x2 ∧ E k x1 x2 ∧ ml2 s zN a1 a2 = s rc x1 x2 := by
  have key : ∀ (m k f : Nat) x1 x2, n ≤ k + m → m < f → I k x1 x2 → ∃ k y1 y2 rc, I k y1 y2 ∧ E k y1 y2 ∧ ml2 s f x1 x2 = s rc y1 y2 := by
    intro m
    induction m with
    | zero =>
      intro k f x1 x2 hk hf hI
      obtain ⟨f, rfl⟩ : ∃ f', f = f' + 1 := ⟨f - 1, by omega⟩
      rcases hs (ml2 s f) k x1 x2 hI with hE | ⟨hk', _⟩
      · exact ⟨k, x1, x2, ml2 s f, hI, hE, rfl⟩
      · omega
    | succ m ih =>
      intro k f x1 x2 hk hf hI
      obtain ⟨f, rfl⟩ : ∃ f', f = f' + 1 := ⟨f - 1, by omega⟩
      rcases hs (ml2 s f) k x1 x2 hI with hE | ⟨hk', y1, y2, hI', e⟩
      · exact ⟨k, x1, x2, ml2 s f, hI, hE, rfl⟩
      · obtain ⟨k2, z1, z2, rc2, hI2, hE2, e2⟩ := ih (k + 1) f y1 y2 (by omega) (by omega) hI'
        refine ⟨k2, z1, z2, rc2, hI2, hE2, ?_⟩
        show s (ml2 s f) x1 x2 = _
        rw [e, e2]
  exact key n 0 zN a1 a2 (by omega) (by show n < 100000; omega) h0
theorem le3 {A1 A2 A3 R : Type} {s : (A1 → A2 → A3 → Option R) → A1 → A2 → A3 → Option R} {a1 : A1} {a2 : A2} {a3 : A3} (I E : Nat → A1 → A2 → A3 → Prop) (n : Nat) (hn : n < 99999) (h0 : I 0 a1 a2 a3) (hs : ∀ rc k x1 x2 x3, I k x1 x2 x3 → E k x1 x2 x3 ∨ (k < n ∧ ∃ y1 y2 y3, I (k + 1) y1 y2 y3 ∧ s rc x1 x2 x3 = rc y1 y2 y3)) : ∃ k x1 x2 x3 rc, I k x1 x2 x3 ∧ E k x1 x2 x3 ∧ ml3 s zN a1 a2 a3 = s rc x1 x2 x3 := by
  have key : ∀ (m k f : Nat) x1 x2 x3, n ≤ k + m → m < f → I k x1 x2 x3 → ∃ k y1 y2 y3 rc, I k y1 y2 y3 ∧ E k y1 y2 y3 ∧ ml3 s f x1 x2 x3 = s rc y1 y2 y3 := by
    intro m
    induction m with
    | zero =>
      intro k f x1 x2 x3 hk hf hI
      obtain ⟨f, rfl⟩ : ∃ f', f = f' + 1 := ⟨f - 1, by omega⟩
      rcases hs (ml3 s f) k x1 x2 x3 hI with hE | ⟨hk', _⟩
      · exact ⟨k, x1, x2, x3, ml3 s f, hI, hE, rfl⟩
      · omega
    | succ m ih =>
      intro k f x1 x2 x3 hk hf hI
      obtain ⟨f, rfl⟩ : ∃ f', f = f' + 1 := ⟨f - 1, by omega⟩
      rcases hs (ml3 s f) k x1 x2 x3 hI with hE | ⟨hk', y1, y2, y3, hI', e⟩
      · exact ⟨k, x1, x2, x3, ml3 s f, hI, hE, rfl⟩
      · obtain ⟨k2, z1, z2, z3, rc2, hI2, hE2, e2⟩ := ih (k + 1) f y1 y2 y3 (by omega) (by omega) hI'
        refine ⟨k2, z1, z2, z3, rc2, hI2, hE2, ?_⟩
        show s (ml3 s f) x1 x2 x3 = _
        rw [e, e2]
  exact key n 0 zN a1 a2 a3 (by omega) (by show n < 100000; omega) h0
theorem le4 {A1 A2 A3 A4 R : Type} {s : (A1 → A2 → A3 → A4 → Option R) → A1 → A2 → A3 → A4 → Option R} {a1 : A1} {a2 : A2} {a3 : A3} {a4 : A4} (I E : Nat → A1 → A2 → A3 → A4 → Prop) (n : Nat) (hn : n < 99999) (h0 : I 0 a1 a2 a3 a4) (hs : ∀ rc k x1 x2 x3 x4, I k x1 x2 x3 x4 → E k x1 x2 x3 x4 ∨ (k < n ∧ ∃ y1 y2 y3 y4, I (k + 1) y1 y2 y3 y4 ∧ s rc x1 x2 x3 x4 = rc y1 y2 y3 y4)) : ∃ k x1 x2 x3 x4 rc, I k x1 x2 x3 x4 ∧ E k x1 x2 x3 x4 ∧ ml4 s zN a1 a2 a3 a4 = s rc x1 x2 x3 x4 := by
  have key : ∀ (m k f : Nat) x1 x2 x3 x4, n ≤ k + m → m < f → I k x1 x2 x3 x4 → ∃ k y1 y2 y3 y4 rc, I k y1 y2 y3 y4 ∧ E k y1 y2 y3 y4 ∧ ml4 s f x1 x2 x3 x4 = s rc y1 y2 y3 y4 := by
    intro m
    induction m with
    | zero =>
      intro k f x1 x2 x3 x4 hk hf hI
      obtain ⟨f, rfl⟩ : ∃ f', f = f' + 1 := ⟨f - 1, by omega⟩
      rcases hs (ml4 s f) k x1 x2 x3 x4 hI with hE | ⟨hk', _⟩
      · exact ⟨k, x1, x2, x3, x4, ml4 s f, hI, hE, rfl⟩
      · omega
    | succ m ih =>
      intro k f x1 x2 x3 x4 hk hf hI
      obtain ⟨f, rfl⟩ : ∃ f', f = f' + 1 := ⟨f - 1, by omega⟩
      rcases hs (ml4 s f) k x1 x2 x3 x4 hI with hE | ⟨hk', y1, y2, y3, y4, hI', e⟩
      · exact ⟨k, x1, x2, x3, x4, ml4 s f, hI, hE, rfl⟩
      · obtain ⟨k2, z1, z2, z3, z4, rc2, hI2, hE2, e2⟩ := ih (k + 1) f y1 y2 y3 y4 (by omega) (by omega) hI'
        refine ⟨k2, z1, z2, z3, z4, rc2, hI2, hE2, ?_⟩
        show s (ml4 s f) x1 x2 x3 x4 = _
        rw [e, e2]
  exact key n 0 zN a1 a2 a3 a4 (by omega) (by show n < 100000; omega) h0
theorem le5 {A1 A2 A3 A4 A5 R : Type} {s : (A1 → A2 → A3 → A4 → A5 → Option R) → A1 → A2 → A3 → A4 → A5 → Option R} {a1 : A1} {a2 : A2} {a3 : A3} {a4 : A4} {a5 : A5} (I E : Nat → A1 → A2 → A3 → A4 → A5 → Prop) (n : Nat) (hn : n < 99999) (h0 : I 0 a1 a2 a3 a4 a5) (hs : ∀ rc k x1 x2 x3 x4 x5, I k x1 x2 x3 x4 x5 → E k x1 x2 x3 x4 x5 ∨ (k < n ∧ ∃ y1 y2 y3 y4 y5, I (k + 1) y1 y2 y3 y4 y5 ∧ s rc x1 x2 x3 x4 x5 = rc y1 y2 y3 y4 y5)) : ∃ k x1 x2 x3 x4 x5 rc, I k x1 x2 x3 x4 x5 ∧ E k x1 x2 x3 x4 x5 ∧ ml5 s zN a1 a2 a3 a4 a5 = s rc x1 x2 x3 x4 x5 := by
  have key : ∀ (m k f : Nat) x1 x2 x3 x4 x5, n ≤ k + m → m < f → I k x1 x2 x3 x4 x5 → ∃ k y1 y2 y3 y4 y5 rc, I k y1 y2 y3 y4 y5 ∧ E k y1 y2 y3 y4 y5 ∧ ml5 s f x1 x2 x3 x4 x5 = s rc y1 y2 y3 y4 y5 := by
    intro m
    induction m with
    | zero =>
      intro k f x1 x2 x3 x4 x5 hk hf hI
      obtain ⟨f, rfl⟩ : ∃ f', f = f' + 1 := ⟨f - 1, by omega⟩
      rcases hs (ml5 s f) k x1 x2 x3 x4 x5 hI with hE | ⟨hk', _⟩
      · exact ⟨k, x1, x2, x3, x4, x5, ml5 s f, hI, hE, rfl⟩
      · omega
    | succ m ih =>
      intro k f x1 x2 x3 x4 x5 hk hf hI
      obtain ⟨f, rfl⟩ : ∃ f', f = f' + 1 := ⟨f - 1, by omega⟩
      rcases hs (ml5 s f) k x1 x2 x3 x4 x5 hI with hE | ⟨hk', y1, y2, y3, y4, y5, hI', e⟩
      · exact ⟨k, x1, x2, x3, x4, x5, ml5 s f, hI, hE, rfl⟩
      · obtain ⟨k2, z1, z2, z3, z4, z5, rc2, hI2, hE2, e2⟩ := ih (k + 1) f y1 y2 y3 y4 y5 (by omega) (by omega) hI'
        refine ⟨k2, z1, z2, z3, z4, z5, rc2, hI2, hE2, ?_⟩
        show s (ml5 s f) x1 x2 x3 x4 x5 = _
        rw [e, e2]
  exact key n 0 zN a1 a2 a3 a4 a5 (by omega) (by show n < 100000; omega) h0
theorem le6 {A1 A2 A3 A4 A5 A6 R : Type} {s : (A1 → A2 → A3 → A4 → A5 → A6 → Option R) → A1 → A2 → A3 → A4 → A5 → A6 → Option R} {a1 : A1} {a2 : A2} {a3 : A3} {a4 : A4} {a5 : A5} {a6 : A6} (I E : Nat → A1 → A2 → A3 → A4 → A5 → A6 → Prop) (n : Nat) (hn : n < 99999) (h0 : I 0 a1 a2 a3 a4 a5 a6) (hs : ∀ rc k x1 x2 x3 x4 x5 x6, I k x1 x2 x3 x4 x5 x6 → E k x1 x2 x3 x4 x5 x6 ∨ (k < n ∧ ∃ y1 y2 y3 y4 y5 y6, I (k + 1) y1 y2 y3 y4 y5 y6 ∧ s rc x1 x2 x3 x4 x5 x6 = rc y1 y2 y3 y4 y5 y6)) : ∃ k x1 x2 x3 x4 x5 x6 rc, I k x1 x2 x3 x4 x5 x6 ∧ E k x1 x2 x3 x4 x5 x6 ∧ ml6 s zN a1 a2 a3 a4 a5 a6 = s rc x1 x2 x3 x4 x5 x6 := by
  have key : ∀ (m k f : Nat) x1 x2 x3 x4 x5 x6, n ≤ k + m → m < f → I k x1 x2 x3 x4 x5 x6 → ∃ k y1 y2 y3 y4 y5 y6 rc, I k y1 y2 y3 y4 y5 y6 ∧ E k y1 y2 y3 y4 y5 y6 ∧ ml6 s f x1 x2 x3 x4 x5 x6 = s rc y1 y2 y3 y4 y5 y6 := by
    intro m
    induction m with
    | zero =>
      intro k f x1 x2 x3 x4 x5 x6 hk hf hI
      obtain ⟨f, rfl⟩ : ∃ f', f = f' + 1 := ⟨f - 1, by omega⟩
      rcases hs (ml6 s f) k x1 x2 x3 x4 x5 x6 hI with hE | ⟨hk', _⟩
      · exact ⟨k, x1, x2, x3, x4, x5, x6, ml6 s f, hI, hE, rfl⟩
      · omega
    | succ m ih =>
      intro k f x1 x2 x3 x4 x5 x6 hk hf hI
      obtain ⟨f, rfl⟩ : ∃ f', f = f' + 1 := ⟨f - 1, by omega⟩
      rcases hs (ml6 s f) k x1 x2 x3 x4 x5 x6 hI with hE | ⟨hk', y1, y2, y3, y4, y5, y6, hI', e⟩
      · exact ⟨k, x1, x2, x3, x4, x5, x6, ml6 s f, hI, hE, rfl⟩
      · obtain ⟨k2, z1, z2, z3, z4, z5, z6, rc2, hI2, hE2, e2⟩ := ih (k + 1) f y1 y2 y3 y4 y5 y6 (by omega) (by omega) hI'
        refine ⟨k2, z1, z2, z3, z4, z5, z6, rc2, hI2, hE2, ?_⟩
        show s (ml6 s f) x1 x2 x3 x4 x5 x6 = _
        rw [e, e2]
  exact key n 0 zN a1 a2 a3 a4 a5 a6 (by omega) (by show n < 100000; omega) h0
theorem le7 {A1 A2 A3 A4 A5 A6 A7 R : Type} {s : (A1 → A2 → A3 → A4 → A5 → A6 → A7 → Option R) → A1 → A2 → A3 → A4 → A5 → A6 → A7 → Option R} {a1 : A1} {a2 : A2} {a3 : A3} {a4 : A4} {a5 : A5} {a6 : A6} {a7 : A7} (I E : Nat → A1 → A2 → A3 → A4 → A5 → A6 → A7 → Prop) (n : Nat) (hn : n < 99999) (h0 : I 0 a1 a2 a3 a4 a5 a6 a7) (hs : ∀ rc k x1 x2 x3 x4 x5 x6 x7, I k x1 x2 x3 x4 x5 x6 x7 → E k x1 x2 x3 x4 x5 x6 x7 ∨ (k < n ∧ ∃ y1 y2 y3 y4 y5 y6 y7, I (k + 1) y1 y2 y3 y4 y5 y6 y7 ∧ s rc x1 x2 x3 x4 x5 x6 x7 = rc y1 y2 y3 y4 y5 y6 y7)) : ∃ k x1 x2 x3 x4 x5 x6 x7 rc, I k x1 x2 x3 x4 x5 x6 x7 ∧ E k x1 x2 x3 x4 x5 x6 x7 ∧ ml7 s zN a1 a2 a3 a4 a5 a6 a7 = s rc x1 x2 x3 x4 x5 x6 x7 := by
  have key : ∀ (m k f : Nat) x1 x2 x3 x4 x5 x6 x7, n ≤ k + m → m < f → I k x1 x2 x3 x4 x5 x6 x7 → ∃ k y1 y2 y3 y4 y5 y6 y7 rc, I k y1 y2 y3 y4 y5 y6 y7 ∧ E k y1 y2 y3 y4 y5 y6 y7 ∧ ml7 s f x1 x2 x3 x4 x5 x6 x7 = s rc y1 y2 y3 y4 y5 y6 y7 := by
    intro m
    induction m with
    | zero =>
      intro k f x1 x2 x3 x4 x5 x6 x7 hk hf hI
      obtain ⟨f, rfl⟩ : ∃ f', f = f' + 1 := ⟨f - 1, by omega⟩
      rcases hs (ml7 s f) k x1 x2 x3 x4 x5 x6 x7 hI with hE | ⟨hk', _⟩
      · exact ⟨k, x1, x2, x3, x4, x5, x6, x7, ml7 s f, hI, hE, rfl⟩
      · omega
    | succ m ih =>
      intro k f x1 x2 x3 x4 x5 x6 x7 hk hf hI
      obtain ⟨f, rfl⟩ : ∃ f', f = f' + 1 := ⟨f - 1, by omega⟩
      rcases hs (ml7 s f) k x1 x2 x3 x4 x5 x6 x7 hI with hE | ⟨hk', y1, y2, y3, y4, y5, y6, y7, hI', e⟩
      · exact ⟨k, x1, x2, x3, x4, x5, x6, x7, ml7 s f, hI, hE, rfl⟩
      · obtain ⟨k2, z1, z2, z3, z4, z5, z6, z7, rc2, hI2, hE2, e2⟩ := ih (k + 1) f y1 y2 y3 y4 y5 y6 y7 (by omega) (by omega) hI'
        refine ⟨k2, z1, z2, z3, z4, z5, z6, z7, rc2, hI2, hE2, ?_⟩
        show s (ml7 s f) x1 x2 x3 x4 x5 x6 x7 = _
        rw [e, e2]
  exact key n 0 zN a1 a2 a3 a4 a5 a6 a7 (by omega) (by show n < 100000; omega) h0
theorem le8 {A1 A2 A3 A4 A5 A6 A7 A8 R : Type} {s : (A1 → A2 → A3 → A4 → A5 → A6 → A7 → A8 → Option R) → A1 → A2 → A3 → A4 → A5 → A6 → A7 → A8 → Option R} {a1 : A1} {a2 : A2} {a3 : A3} {a4 : A4} {a5 : A5} {a6 : A6} {a7 : A7} {a8 : A8} (I E : Nat → A1 → A2 → A3 → A4 → A5 → A6 → A7 → A8 → Prop) (n : Nat) (hn : n < 99999) (h0 : I 0 a1 a2 a3 a4 a5 a6 a7 a8) (hs : ∀ rc k x1 x2 x3 x4 x5 x6 x7 x8, I k x1 x2 x3 x4 x5 x6 x7 x8 → E k x1 x2 x3 x4 x5 x6 x7 x8 ∨ (k < n ∧ ∃ y1 y2 y3 y4 y5 y6 y7 y8, I (k + 1) y1 y2 y3 y4 y5 y6 y7 y8 ∧ s rc x1 x2 x3 x4 x5 x6 x7 x8 = rc y1 y2 y3 y4 y5 y6 y7 y8)) : ∃ k x1 x2 x3 x4 x5 x6 x7 x8 rc, I k x1 x2 x3 x4 x5 x6 x7 x8 ∧ E k x1 x2 x3 x4 x5 x6 x7 x8 ∧ ml8 s zN a1 a2 a3 a4 a5 a6 a7 a8 = s rc x1 x2 x3 x4 x5 x6 x7 x8 := by
  have key : ∀ (m k f : Nat) x1 x2 x3 x4 x5 x6 x7 x8, n ≤ k + m → m < f → I k x1 x2 x3 x4 x5 x6 x7 x8 → ∃ k y1 y2 y3 y4 y5 y6 y7 y8 rc, I k y1 y2 y3 y4 y5 y6 y7 y8 ∧ E k y1 y2 y3 y4 y5 y6 y7 y8 ∧ ml8 s f x1 x2 x3 x4 x5 x6 x7 x8 = s rc y1 y2 y3 y4 y5 y6 y7 y8 := by
    intro m
    induction m with
    | zero =>
      intro k f x1 x2 x3 x4 x5 x6 x7 x8 hk hf hI
      obtain ⟨f, rfl⟩ : ∃ f', f = f' + 1 := ⟨f - 1, by omega⟩
      rcases hs (ml8 s f) k x1 x2 x3 x4 x5 x6 x7 x8 hI with hE | ⟨hk', _⟩
      · exact ⟨k, x1, x2, x3, x4, x5, x6, x7, x8, ml8 s f, hI, hE, rfl⟩
      · omega
    | succ m ih =>
      intro k f x1 x2 x3 x4 x5 x6 x7 x8 hk hf hI
      obtain ⟨f, rfl⟩ : ∃ f', f = f' + 1 := ⟨f - 1, by omega⟩
      rcases hs (ml8 s f) k x1 x2 x3 x4 x5 x6 x7 x8 hI with hE | ⟨hk', y1, y2, y3, y4, y5, y6, y7, y8, hI', e⟩
      · exact ⟨k, x1, x2, x3, x4, x5, x6, x7, x8, ml8 s f, hI, hE, rfl⟩
      · obtain ⟨k2, z1, z2, z3, z4, z5, z6, z7, z8, rc2, hI2, hE2, e2⟩ := ih (k + 1) f y1 y2 y3 y4 y5 y6 y7 y8 (by omega) (by omega) hI'
        refine ⟨k2, z1, z2, z3, z4, z5, z6, z7, z8, rc2, hI2, hE2, ?_⟩
        show s (ml8 s f) x1 x2 x3 x4 x5 x6 x7 x8 = _
        rw [e, e2]
  exact key n 0 zN a1 a2 a3 a4 a5 a6 a7 a8 (by omega) (by show n < 100000; omega) h0
theorem le9 {A1 A2 A3 A4 A5 A6 A7 A8 A9 R : Type} {s : (A1 → A2 → A3 → A4 → A5 → A6 → A7 → A8 → A9 → Option R) → A1 → A2 → A3 → A4 → A5 → A6 → A7 → A8 → A9 → Option R} {a1 : A1} {a2 : A2} {a3 : A3} {a4 : A4} {a5 : A5} {a6 : A6} {a7 : A7} {a8 : A8} {a9 : A9} (I E : Nat → A1 → A2 → A3 → A4 → A5 → A6 → A7 → A8 → A9 → Prop) (n : Nat) (hn : n < 99999) (h0 : I 0 a1 a2 a3 a4 a5 a6 a7 a8 a9) (hs : ∀ rc k x1 x2 x3 x4 x5 x6 x7 x8 x9, I k x1 x2 x3 x4 x5 x6 x7 x8 x9 → E k x1 x2 x3 x4 x5 x6 x7 x8 x9 ∨ (k < n ∧ ∃ y1 y2 y3 y4 y5 y6 y7 y8 y9, I (k + 1) y1 y2 y3 y4 y5 y6 y7 y8 y9 ∧ s rc x1 x2 x3 x4 x5 x6 x7 x8 x9 = rc y1 y2 y3 y4 y5 y6 y7 y8 y9)) : ∃ k x1 x2 x3 x4 x5 x6 x7 x8 x9 rc, I k x1 x2 x3 x4 x5 x6 x7 x8 x9 ∧ E k x1 x2 x3 x4 x5 x6 x7 x8 x9 ∧ ml9 s zN a1 a2 a3 a4 a5 a6 a7 a8 a9 = s rc x1 x2 x3 x4 x5 x6 x7 x8 x9 := by
  have key : ∀ (m k f : Nat) x1 x2 x3 x4 x5 x6 x7 x8 x9, n ≤ k + m → m < f → I k x1 x2 x3 x4 x5 x6 x7 x8 x9 → ∃ k y1 y2 y3 y4 y5 y6 y7 y8 y9 rc, I k y1 y2 y3 y4 y5 y6 y7 y8 y9 ∧ E k y1 y2 y3 y4 y5 y6 y7 y8 y9 ∧ ml9 s f x1 x2 x3 x4 x5 x6 x7 x8 x9 = s rc y1 y2 y3 y4 y5 y6 y7 y8 y9 := by
    intro m
    induction m with
    | zero =>
      intro k f x1 x2 x3 x4 x5 x6 x7 x8 x9 hk hf hI
      obtain ⟨f, rfl⟩ : ∃ f', f = f' + 1 := ⟨f - 1, by omega⟩
      rcases hs (ml9 s f) k x1 x2 x3 x4 x5 x6 x7 x8 x9 hI with hE | ⟨hk', _⟩
      · exact ⟨k, x1, x2, x3, x4, x5, x6, x7, x8, x9, ml9 s f, hI, hE, rfl⟩
      · omega
    | succ m ih =>
      intro k f x1 x2 x3 x4 x5 x6 x7 x8 x9 hk hf hI
      obtain ⟨f, rfl⟩ : ∃ f', f = f' + 1 := ⟨f - 1, by omega⟩
      rcases hs (ml9 s f) k x1 x2 x3 x4 x5 x6 x7 x8 x9 hI with hE | ⟨hk', y1, y2, y3, y4, y5, y6, y7, y8, y9, hI', e⟩
      · exact ⟨k, x1, x2, x3, x4, x5, x6, x7, x8, x9, ml9 s f, hI, hE, rfl⟩
      · obtain ⟨k2, z1, z2, z3, z4, z5, z6, z7, z8, z9, rc2, hI2, hE2, e2⟩ := ih (k + 1) f y1 y2 y3 y4 y5 y6 y7 y8 y9 (by omega) (by omega) hI'
        refine ⟨k2, z1, z2, z3, z4, z5, z6, z7, z8, z9, rc2, hI2, hE2, ?_⟩
        show s (ml9 s f) x1 x2 x3 x4 x5 x6 x7 x8 x9 = _
        rw [e, e2]
  exact key n 0 zN a1 a2 a3 a4 a5 a6 a7 a8 a9 (by omega) (by show n < 100000; omega) h0
theorem le10 {A1 A2 A3 A4 A5 A6 A7 A8 A9 A10 R : Type} {s : (A1 → A2 → A3 → A4 → A5 → A6 → A7 → A8 → A9 → A10 → Option R) → A1 → A2 → A3 → A4 → A5 → A6 → A7 → A8 → A9 → A10 → Option R} {a1 : A1} {a2 : A2} {a3 : A3} {a4 : A4} {a5 : A5} {a6 : A6} {a7 : A7} {a8 : A8} {a9 : A9} {a10 : A10} (I E : Nat → A1 → A2 → A3 → A4 → A5 → A6 → A7 → A8 → A9 → A10 → Prop) (n : Nat) (hn : n < 99999) (h0 : I 0 a1 a2 a3 a4 a5 a6 a7 a8 a9 a10) (hs : ∀ rc k x1 x2 x3 x4 x5 x6 x7 x8 x9 x10, I k x1 x2 x3 x4 x5 x6 x7 x8 x9 x10 → E k x1 x2 x3 x4 x5 x6 x7 x8 x9 x10 ∨ (k < n ∧ ∃ y1 y2 y3 y4 y5 y6 y7 y8 y9 y10, I (k + 1) y1 y2 y3 y4 y5 y6 y7 y8 y9 y10 ∧ s rc x1 x2 x3 x4 x5 x6 x7 x8 x9 x10 = rc y1 y2 y3 y4 y5 y6 y7 y8 y9 y10)) : ∃ k x1 x2 x3 x4 x5 x6 x7 x8 x9 x10 rc, I k x1 x2 x3 x4 x5 x6 x7 x8 x9 x10 ∧ E k x1 x2 x3 x4 x5 x6 x7 x8 x9 x10 ∧ ml10 s zN a1 a2 a3 a4 a5 a6 a7 a8 a9 a10 = s rc x1 x2 x3 x4 x5 x6 x7 x8 x9 x10 := by
  have key : ∀ (m k f : Nat) x1 x2 x3 x4 x5 x6 x7 x8 x9 x10, n ≤ k + m → m < f → I k x1 x2 x3 x4 x5 x6 x7 x8 x9 x10 → ∃ k y1 y2 y3 y4 y5 y6 y7 y8 y9 y10 rc, I k y1 y2 y3 y4 y5 y6 y7 y8 y9 y10 ∧ E k y1 y2 y3 y4 y5 y6 y7 y8 y9 y10 ∧ ml10 s f x1 x2 x3 x4 x5 x6 x7 x8 x9 x10 = s rc y1 y2 y3 y4 y5 y6 y7 y8 y9 y10 := by
    intro m
    induction m with
    | zero =>
      intro k f x1 x2 x3 x4 x5 x6 x7 x8 x9 x10 hk hf hI
      obtain ⟨f, rfl⟩ : ∃ f', f = f' + 1 := ⟨f - 1, by omega⟩
      rcases hs (ml10 s f) k x1 x2 x3 x4 x5 x6 x7 x8 x9 x10 hI with hE | ⟨hk', _⟩
      · exact ⟨k, x1, x2, x3, x4, x5, x6, x7, x8, x9, x10, ml10 s f, hI, hE, rfl⟩
      · omega
    | succ m ih =>
      intro k f x1 x2 x3 x4 x5 x6 x7 x8 x9 x10 hk hf hI
      obtain ⟨f, rfl⟩ : ∃ f', f = f' + 1 := ⟨f - 1, by omega⟩
      rcases hs (ml10 s f) k x1 x2 x3 x4 x5 x6 x7 x8 x9 x10 hI with hE | ⟨hk', y1, y2, y3, y4, y5, y6, y7, y8, y9, y10, hI', e⟩
      · exact ⟨k, x1, x2, x3, x4, x5, x6, x7, x8, x9, x10, ml10 s f, hI, hE, rfl⟩
      · obtain ⟨k2, z1, z2, z3, z4, z5, z6, z7, z8, z9, z10, rc2, hI2, hE2, e2⟩ := ih (k + 1) f y1 y2 y3 y4 y5 y6 y7 y8 y9 y10 (by omega) (by omega) hI'
        refine ⟨k2, z1, z2, z3, z4, z5, z6, z7, z8, z9, z10, rc2, hI2, hE2, ?_⟩
        show s (ml10 s f) x1 x2 x3 x4 x5 x6 x7 x8 x9 x10 = _
        rw [e, e2]
  exact key n 0 zN a1 a2 a3 a4 a5 a6 a7 a8 a9 a10 (by omega) (by show n < 100000; omega) h0
theorem le11 {A1 A2 A3 A4 A5 A6 A7 A8 A9 A10 A11 R : Type} {s : (A1 → A2 → A3 → A4 → A5 → A6 → A7 → A8 → A9 → A10 → A11 → Option R) → A1 → A2 → A3 → A4 → A5 → A6 → A7 → A8 → A9 → A10 → A11 → Option R} {a1 : A1} {a2 : A2} {a3 : A3} {a4 : A4} {a5 : A5} {a6 : A6} {a7 : A7} {a8 : A8} {a9 : A9} {a10 : A10} {a11 : A11} (I E : Nat → A1 → A2 → A3 → A4 → A5 → A6 → A7 → A8 → A9 → A10 → A11 → Prop) (n : Nat) (hn : n < 99999) (h0 : I 0 a1 a2 a3 a4 a5 a6 a7 a8 a9 a10 a11) (hs : ∀ rc k x1 x2 x3 x4 x5 x6 x7 x8 x9 x10 x11, I k x1 x2 x3 x4 x5 x6 x7 x8 x9 x10 x11 → E k x1 x2 x3 x4 x5 x6 x7 x8 x9 x10 x11 ∨ (k < n ∧ ∃ y1 y2 y3 y4 y5 y6 y7 y8 y9 y10 y11, I (k + 1) y1 y2 y3 y4 y5 y6 y7 y8 y9 y10 y11 ∧ s rc x1 x2 x3 x4 x5 x6 x7 x8 x9 x10 x11 = rc y1 y2 y3 y4 y5 y6 y7 y8 y9 y10 y11)) : ∃ k x1 x2 x3 x4 x5 x6 x7 x8 x9 x10 x11 rc, I k x1 x2 x3 x4 x5 x6 x7 x8 x9 x10 x11 ∧ E k x1 x2 x3 x4 x5 x6 x7 x8 x9 x10 x11 ∧ ml11 s zN a1 a2 a3 a4 a5 a6 a7 a8 a9 a10 a11 = s rc x1 x2 x3 x4 x5 x6 x7 x8 x9 x10 x11 := by
  have key : ∀ (m k f : Nat) x1 x2 x3 x4 x5 x6 x7 x8 x9 x10 x11, n ≤ k + m → m < f → I k x1 x2 x3 x4 x5 x6 x7 x8 x9 x10 x11 → ∃ k y1 y2 y3 y4 y5 y6 y7 y8 y9 y10 y11 rc, I k y1 y2 y3 y4 y5 y6 y7 y8 y9 y10 y11 ∧ E k y1 y2 y3 y4 y5 y6 y7 y8 y9 y10 y11 ∧ ml11 s f x1 x2 x3 x4 x5 x6 x7 x8 x9 x10 x11 = s rc y1 y2 y3 y4 y5 y6 y7 y8 y9 y10 y11 := by
    intro m
    induction m with
    | zero =>
      intro k f x1 x2 x3 x4 x5 x6 x7 x8 x9 x10 x11 hk hf hI
      obtain ⟨f, rfl⟩ : ∃ f', f = f' + 1 := ⟨f - 1, by omega⟩
      rcases hs (ml11 s f) k x1 x2 x3 x4 x5 x6 x7 x8 x9 x10 x11 hI with hE | ⟨hk', _⟩
      · exact ⟨k, x1, x2, x3, x4, x5, x6, x7, x8, x9, x10, x11, ml11 s f, hI, hE, rfl⟩
      · omega
    | succ m ih =>
      intro k f x1 x2 x3 x4 x5 x6 x7 x8 x9 x10 x11 hk hf hI
      obtain ⟨f, rfl⟩ : ∃ f', f = f' + 1 := ⟨f - 1, by omega⟩
      rcases hs (ml11 s f) k x1 x2 x3 x4 x5 x6 x7 x8 x9 x10 x11 hI with hE | ⟨hk', y1, y2, y3, y4, y5, y6, y7, y8, y9, y10, y11, hI', e⟩
      · exact ⟨k, x1, x2, x3, x4, x5, x6, x7, x8, x9, x10, x11, ml11 s f, hI, hE, rfl⟩
      · obtain ⟨k2, z1, z2, z3, z4, z5, z6, z7, z8, z9, z10, z11, rc2, hI2, hE2, e2⟩ := ih (k + 1) f y1 y2 y3 y4 y5 y6 y7 y8 y9 y10 y11 (by omega) (by omega) hI'
        refine ⟨k2, z1, z2, z3, z4, z5, z6, z7, z8, z9, z10, z11, rc2, hI2, hE2, ?_⟩
        show s (ml11 s f) x1 x2 x3 x4 x5 x6 x7 x8 x9 x10 x11 = _
        rw [e, e2]
  exact key n 0 zN a1 a2 a3 a4 a5 a6 a7 a8 a9 a10 a11 (by omega) (by show n < 100000; omega) h0
theorem le12 {A1 A2 A3 A4 A5 A6 A7 A8 A9 A10 A11 A12 R : Type} {s : (A1 → A2 → A3 → A4 → A5 → A6 → A7 → A8 → A9 → A10 → A11 → A12 → Option R) → A1 → A2 → A3 → A4 → A5 → A6 → A7 → A8 → A9 → A10 → A11 → A12 → Option R} {a1 : A1} {a2 : A2} {a3 : A3} {a4 : A4} {a5 : A5} {a6 : A6} {a7 : A7} {a8 : A8} {a9 : A9} {a10 : A10} {a11 : A11} {a12 : A12} (I E : Nat → A1 → A2 → A3 → A4 → A5 → A6 → A7 → A8 → A9 → A10 → A11 → A12 → Prop) (n : Nat) (hn : n < 99999) (h0 : I 0 a1 a2 a3 a4 a5 a6 a7 a8 a9 a10 a11 a12) (hs : ∀ rc k x1 x2 x3 x4 x5 x6 x7 x8 x9 x10 x11 x12, I k x1 x2 x3 x4 x5 x6 x7 x8 x9 x10 x11 x12 → E k x1 x2 x3 x4 x5 x6 x7 x8 x9 x10 x11 x12 ∨ (k < n ∧ ∃ y1 y2 y3 y4 y5 y6 y7 y8 y9 y10 y11 y12, I (k + 1) y1 y2 y3 y4 y5 y6 y7 y8 y9 y10 y11 y12 ∧ s rc x1 x2 x3 x4 x5 x6 x7 x8 x9 x10 x11 x12 = rc y1 y2 y3 y4 y5 y6 y7 y8 y9 y10 y11 y12)) : ∃ k x1 x2 x3 x4 x5 x6 x7 x8 x9 x10 x11 x12 rc, I k x1 x2 x3 x4 x5 x6 x7 x8 x9 x10 x11 x12 ∧ E k x1 x2 x3 x4 x5 x6 x7 x8 x9 x10 x11 x12 ∧ ml12 s zN a1 a2 a3 a4 a5 a6 a7 a8 a9 a10 a11 a12 = s rc x1 x2 x3 x4 x5 x6 x7 x8 x9 x10 x11 x12 := by
  have key : ∀ (m k f : Nat) x1 x2 x3 x4 x5 x6 x7 x8 x9 x10 x11 x12, n ≤ k + m → m < f → I k x1 x2 x3 x4 x5 x6 x7 x8 x9 x10 x11 x12 → ∃ k y1 y2 y3 y4 y5 y6 y7 y8 y9 y10 y11 y12 rc, I k y1 y2 y3 y4 y5 y6 y7 y8 y9 y10 y11 y12 ∧ E k y1 y2 y3 y4 y5 y6 y7 y8 y9 y10 y11 y12 ∧ ml12 s f x1 x2 x3 x4 x5 x6 x7 x8 x9 x10 x11 x12 = s rc y1 y2 y3 y4 y5 y6 y7 y8 y9 y10 y11 y12 := by
    intro m
    induction m with
    | zero =>
      intro k f x1 x2 x3 x4 x5 x6 x7 x8 x9 x10 x11 x12 hk hf hI
      obtain ⟨f, rfl⟩ : ∃ f', f = f' + 1 := ⟨f - 1, by omega⟩
      rcases hs (ml12 s f) k x1 x2 x3 x4 x5 x6 x7 x8 x9 x10 x11 x12 hI with hE | ⟨hk', _⟩
      · exact ⟨k, x1, x2, x3, x4, x5, x6, x7, x8, x9, x10, x11, x12, ml12 s f, hI, hE, rfl⟩
      · omega
    | succ m ih =>
      intro k f x1 x2 x3 x4 x5 x6 x7 x8 x9 x10 x11 x12 hk hf hI
      obtain ⟨f, rfl⟩ : ∃ f', f = f' + 1 := ⟨f - 1, by omega⟩
      rcases hs (ml12 s f) k x1 x2 x3 x4 x5 x6 x7 x8 x9 x10 x11 x12 hI with hE | ⟨hk', y1, y2, y3, y4, y5, y6, y7, y8, y9, y10, y11, y12, hI', e⟩
      · exact ⟨k, x1, x2, x3, x4, x5, x6, x7, x8, x9, x10, x11, x12, ml12 s f, hI, hE, rfl⟩
      · obtain ⟨k2, z1, z2, z3, z4, z5, z6, z7, z8, z9, z10, z11, z12, rc2, hI2, hE2, e2⟩ := ih (k + 1) f y1 y2 y3 y4 y5 y6 y7 y8 y9 y10 y11 y12 (by omega) (by omega) hI'
        refine ⟨k2, z1, z2, z3, z4, z5, z6, z7, z8, z9, z10, z11, z12, rc2, hI2, hE2, ?_⟩
        show s (ml12 s f) x1 x2 x3 x4 x5 x6 x7 x8 x9 x10 x11 x12 = _
        rw [e, e2]
  exact key n 0 zN a1 a2 a3 a4 a5 a6 a7 a8 a9 a10 a11 a12 (by omega) (by show n < 100000; omega) h0
theorem le13 {A1 A2 A3 A4 A5 A6 A7 A8 A9 A10 A11 A12 A13 R : Type} {s : (A1 → A2 → A3 → A4 → A5 → A6 → A7 → A8 → A9 → A10 → A11 → A12 → A13 → Option R) → A1 → A2 → A3 → A4 → A5 → A6 → A7 → A8 → A9 → A10 → A11 → A12 → A13 → Option R} {a1 : A1} {a2 : A2} {a3 : A3} {a4 : A4} {a5 : A5} {a6 : A6} {a7 : A7} {a8 : A8} {a9 : A9} {a10 : A10} {a11 : A11} {a12 : A12} {a13 : A13} (I E : Nat → A1 → A2 → A3 → A4 → A5 → A6 → A7 → A8 → A9 → A10 → A11 → A12 → A13 → Prop) (n : Nat) (hn : n < 99999) (h0 : I 0 a1 a2 a3 a4 a5 a6 a7 a8 a9 a10 a11 a12 a13) (hs : ∀ rc k x1 x2 x3 x4 x5 x6 x7 x8 x9 x10 x11 x12 x13, I k x1 x2 x3 x4 x5 x6 x7 x8 x9 x10 x11 x12 x13 → E k x1 x2 x3 x4 x5 x6 x7 x8 x9 x10 x11 x12 x13 ∨ (k < n ∧ ∃ y1 y2 y3 y4 y5 y6 y7 y8 y9 y10 y11 y12 y13, I (k + 1) y1 y2 y3 y4 y5 y6 y7 y8 y9 y10 y11 y12 y13 ∧ s rc x1 x2 x3 x4 x5 x6 x7 x8 x9 x10 x11 x12 x13 = rc y1 y2 y3 y4 y5 y6 y7 y8 y9 y10 y11 y12 y13)) : ∃ k x1 x2 x3 x4 x5 x6 x7 x8 x9 x10 x11 x12 x13 rc, I k x1 x2 x3 x4 x5 x6 x7 x8 x9 x10 x11 x12 x13 ∧ E k x1 x2 x3 x4 x5 x6 x7 x8 x9 x10 x11 x12 x13 ∧ ml13 s zN a1 a2 a3 a4 a5 a6 a7 a8 a9 a10 a11 a12 a13 = s rc x1 x2 x3 x4 x5 x6 x7 x8 x9 x10 x11 x12 x13 := by
  have key : ∀ (m k f : Nat) x1 x2 x3 x4 x5 x6 x7 x8 x9 x10 x11 x12 x13, n ≤ k + m → m < f → I k x1 x2 x3 x4 x5 x6 x7 x8 x9 x10 x11 x12 x13 → ∃ k y1 y2 y3 y4 y5 y6 y7 y8 y9 y10 y11 y12 y13 rc, I k y1 y2 y3 y4 y5 y6 y7 y8 y9 y10 y11 y12 y13 ∧ E k y1 y2 y3 y4 y5 y6 y7 y8 y9 y10 y11 y12 y13 ∧ ml13 s f x1 x2 x3 x4 x5 x6 x7 x8 x9 x10 x11 x12 x13 = s rc y1 y2 y3 y4 y5 y6 y7 y8 y9 y10 y11 y12 y13 := by
    intro m
    induction m with
    | zero =>
      intro k f x1 x2 x3 x4 x5 x6 x7 x8 x9 x10 x11 x12 x13 hk hf hI
      obtain ⟨f, rfl⟩ : ∃ f', f = f' + 1 := ⟨f - 1, by omega⟩
      rcases hs (ml13 s f) k x1 x2 x3 x4 x5 x6 x7 x8 x9 x10 x11 x12 x13 hI with hE | ⟨hk', _⟩
      · exact ⟨k, x1, x2, x3, x4, x5, x6, x7, x8, x9, x10, x11, x12, x13, ml13 s f, hI, hE, rfl⟩
      · omega
    | succ m ih =>
      intro k f x1 x2 x3 x4 x5 x6 x7 x8 x9 x10 x11 x12 x13 hk hf hI
      obtain ⟨f, rfl⟩ : ∃ f', f = f' + 1 := ⟨f - 1, by omega⟩
      rcases hs (ml13 s f) k x1 x2 x3 x4 x5 x6 x7 x8 x9 x10 x11 x12 x13 hI with hE | ⟨hk', y1, y2, y3, y4, y5, y6, y7, y8, y9, y10, y11, y12, y13, hI', e⟩
      · exact ⟨k, x1, x2, x3, x4, x5, x6, x7, x8, x9, x10, x11, x12, x13, ml13 s f, hI, hE, rfl⟩
      · obtain ⟨k2, z1, z2, z3, z4, z5, z6, z7, z8, z9, z10, z11, z12, z13, rc2, hI2, hE2, e2⟩ := ih (k + 1) f y1 y2 y3 y4 y5 y6 y7 y8 y9 y10 y11 y12 y13 (by omega) (by omega) hI'
        refine ⟨k2, z1, z2, z3, z4, z5, z6, z7, z8, z9, z10, z11, z12, z13, rc2, hI2, hE2, ?_⟩
        show s (ml13 s f) x1 x2 x3 x4 x5 x6 x7 x8 x9 x10 x11 x12 x13 = _
        rw [e, e2]
  exact key n 0 zN a1 a2 a3 a4 a5 a6 a7 a8 a9 a10 a11 a12 a13 (by omega) (by show n < 100000; omega) h0
theorem le14 {A1 A2 A3 A4 A5 A6 A7 A8 A9 A10 A11 A12 A13 A14 R : Type} {s : (A1 → A2 → A3 → A4 → A5 → A6 → A7 → A8 → A9 → A10 → A11 → A12 → A13 → A14 → Option R) → A1 → A2 → A3 → A4 → A5 → A6 → A7 → A8 → A9 → A10 → A11 → A12 → A13 → A14 → Option R} {a1 : A1} {a2 : A2} {a3 : A3} {a4 : A4} {a5 : A5} {a6 : A6} {a7 : A7} {a8 : A8} {a9 : A9} {a10 : A10} {a11 : A11} {a12 : A12} {a13 : A13} {a14 : A14} (I E : Nat → A1 → A2 → A3 → A4 → A5 → A6 → A7 → A8 → A9 → A10 → A11 → A12 → A13 → A14 → Prop) (n : Nat) (hn : n < 99999) (h0 : I 0 a1 a2 a3 a4 a5 a6 a7 a8 a9 a10 a11 a12 a13 a14) (hs : ∀ rc k x1 x2 x3 x4 x5 x6 x7 x8 x9 x10 x11 x12 x13 x14, I k x1 x2 x3 x4 x5 x6 x7 x8 x9 x10 x11 x12 x13 x14 → E k x1 x2 x3 x4 x5 x6 x7 x8 x9 x10 x11 x12 x13 x14 ∨ (k < n ∧ ∃ y1 y2 y3 y4 y5 y6 y7 y8 y9 y10 y11 y12 y13 y14, I (k + 1) y1 y2 y3 y4 y5 y6 y7 y8 y9 y10 y11 y12 y13 y14 ∧ s rc x1 x2 x3 x4 x5 x6 x7 x8 x9 x10 x11 x12 x13 x14 = rc y1 y2 y3 y4 y5 y6 y7 y8 y9 y10 y11 y12 y13 y14)) : ∃ k x1 x2 x3 x4 x5 x6 x7 x8 x9 x10 x11 x12 x13 x14 rc, I k x1 x2 x3 x4 x5 x6 x7 x8 x9 x10 x11 x12 x13 x14 ∧ E k x1 x2 x3 x4 x5 x6 x7 x8 x9 x10 x11 x12 x13 x14 ∧ ml14 s zN a1 a2 a3 a4 a5 a6 a7 a8 a9 a10 a11 a12 a13 a14 = s rc x1 x2 x3 x4 x5 x6 x7 x8 x9 x10 x11 x12 x13 x14 := by
  have key : ∀ (m k f : Nat) x1 x2 x3 x4 x5 x6 x7 x8 x9 x10 x11 x12 x13 x14, n ≤ k + m → m < f → I k x1 x2 x3 x4 x5 x6 x7 x8 x9 x10 x11 x12 x13 x14 → ∃ k y1 y2 y3 y4 y5 y6 y7 y8 y9 y10 y11 y12 y13 y14 rc, I k y1 y2 y3 y4 y5 y6 y7 y8 y9 y10 y11 y12 y13 y14 ∧ E k y1 y2 y3 y4 y5 y6 y7 y8 y9 y10 y11 y12 y13 y14 ∧ ml14 s f x1 x2 x3 x4 x5 x6 x7 x8 x9 x10 x11 x12 x13 x14 = s rc y1 y2 y3 y4 y5 y6 y7 y8 y9 y10 y11 y12 y13 y14 := by
    intro m
    induction m with
    | zero =>
      intro k f x1 x2 x3 x4 x5 x6 x7 x8 x9 x10 x11 x12 x13 x14 hk hf hI
      obtain ⟨f, rfl⟩ : ∃ f', f = f' + 1 := ⟨f - 1, by omega⟩
      rcases hs (ml14 s f) k x1 x2 x3 x4 x5 x6 x7 x8 x9 x10 x11 x12 x13 x14 hI with hE | ⟨hk', _⟩
      · exact ⟨k, x1, x2, x3, x4, x5, x6, x7, x8, x9, x10, x11, x12, x13, x14, ml14 s f, hI, hE, rfl⟩
      · omega
    | succ m ih =>
      intro k f x1 x2 x3 x4 x5 x6 x7 x8 x9 x10 x11 x12 x13 x14 hk hf hI
      obtain ⟨f, rfl⟩ : ∃ f', f = f' + 1 := ⟨f - 1, by omega⟩
      rcases hs (ml14 s f) k x1 x2 x3 x4 x5 x6 x7 x8 x9 x10 x11 x12 x13 x14 hI with hE | ⟨hk', y1, y2, y3, y4, y5, y6, y7, y8, y9, y10, y11, y12, y13, y14, hI', e⟩
      · exact ⟨k, x1, x2, x3, x4, x5, x6, x7, x8, x9, x10, x11, x12, x13, x14, ml14 s f, hI, hE, rfl⟩
      · obtain ⟨k2, z1, z2, z3, z4, z5, z6, z7, z8, z9, z10, z11, z12, z13, z14, rc2, hI2, hE2, e2⟩ := ih (k + 1) f y1 y2 y3 y4 y5 y6 y7 y8 y9 y10 y11 y12 y13 y14 (by omega) (by omega) hI'
        refine ⟨k2, z1, z2, z3, z4, z5, z6, z7, z8, z9, z10, z11, z12, z13, z14, rc2, hI2, hE2, ?_⟩
        show s (ml14 s f) x1 x2 x3 x4 x5 x6 x7 x8 x9 x10 x11 x12 x13 x14 = _
        rw [e, e2]
  exact key n 0 zN a1 a2 a3 a4 a5 a6 a7 a8 a9 a10 a11 a12 a13 a14 (by omega) (by show n < 100000; omega) h0
theorem le15 {A1 A2 A3 A4 A5 A6 A7 A8 A9 A10 A11 A12 A13 A14 A15 R : Type} {s : (A1 → A2 → A3 → A4 → A5 → A6 → A7 → A8 → A9 → A10 → A11 → A12 → A13 → A14 → A15 → Option R) → A1 → A2 → A3 → A4 → A5 → A6 → A7 → A8 → A9 → A10 → A11 → A12 → A13 → A14 → A15 → Option R} {a1 : A1} {a2 : A2} {a3 : A3} {a4 : A4} {a5 : A5} {a6 : A6} {a7 : A7} {a8 : A8} {a9 : A9} {a10 : A10} {a11 : A11} {a12 : A12} {a13 : A13} {a14 : A14} {a15 : A15} (I E : Nat → A1 → A2 → A3 → A4 → A5 → A6 → A7 → A8 → A9 → A10 → A11 → A12 → A13 → A14 → A15 → Prop) (n : Nat) (hn : n < 99999) (h0 : I 0 a1 a2 a3 a4 a5 a6 a7 a8 a9 a10 a11 a12 a13 a14 a15) (hs : ∀ rc k x1 x2 x3 x4 x5 x6 x7 x8 x9 x10 x11 x12 x13 x14 x15, I k x1 x2 x3 x4 x5 x6 x7 x8 x9 x10 x11 x12 x13 x14 x15 → E k x1 x2 x3 x4 x5 x6 x7 x8 x9 x10 x11 x12 x13 x14 x15 ∨ (k < n ∧ ∃ y1 y2 y3 y4 y5 y6 y7 y8 y9 y10 y11 y12 y13 y14 y15, I (k + 1) y1 y2 y3 y4 y5 y6 y7 y8 y9 y10 y11 y12 y13 y14 y15 ∧ s rc x1 x2 x3 x4 x5 x6 x7 x8 x9 x10 x11 x12 x13 x14 x15 = rc y1 y2 y3 y4 y5 y6 y7 y8 y9 y10 y11 y12 y13 y14 y15)) : ∃ k x1 x2 x3 x4 x5 x6 x7 x8 x9 x10 x11 x12 x13 x14 x15 rc, I k x1 x2 x3 x4 x5 x6 x7 x8 x9 x10 x11 x12 x13 x14 x15 ∧ E k x1 x2 x3 x4 x5 x6 x7 x8 x9 x10 x11 x12 x13 x14 x15 ∧ ml15 s zN a1 a2 a3 a4 a5 a6 a7 a8 a9 a10 a11 a12 a13 a14 a15 = s rc x1 x2 x3 x4 x5 x6 x7 x8 x9 x10 x11 x12 x13 x14 x15 := by
  have key : ∀ (m k f : Nat) x1 x2 x3 x4 x5 x6 x7 x8 x9 x10 x11 x12 x13 x14 x15, n ≤ k + m → m < f → I k x1 x2 x3 x4 x5 x6 x7 x8 x9 x10 x11 x12 x13 x14 x15 → ∃ k y1 y2 y3 y4 y5 y6 y7 y8 y9 y10 y11 y12 y13 y14 y15 rc, I k y1 y2 y3 y4 y5 y6 y7 y8 y9 y10 y11 y12 y13 y14 y15 ∧ E k y1 y2 y3 y4 y5 y6 y7 y8 y9 y10 y11 y12 y13 y14 y15 ∧ ml15 s f x1 x2 x3 x4 x5 x6 x7 x8 x9 x10 x11 x12 x13 x14 x15 = s rc y1 y2 y3 y4 y5 y6 y7 y8 y9 y10 y11 y12 y13 y14 y15 := by
    intro m
    induction m with
    | zero =>
      intro k f x1 x2 x3 x4 x5 x6 x7 x8 x9 x10 x11 x12 x13 x14 x15 hk hf hI
      obtain ⟨f, rfl⟩ : ∃ f', f = f' + 1 := ⟨f - 1, by omega⟩
      rcases hs (ml15 s f) k x1 x2 x3 x4 x5 x6 x7 x8 x9 x10 x11 x12 x13 x14 x15 hI with hE | ⟨hk', _⟩
      · exact ⟨k, x1, x2, x3, x4, x5, x6, x7, x8, x9, x10, x11, x12, x13, x14, x15, ml15 s f, hI, hE, rfl⟩
      · omega
    | succ m ih =>
      intro k f x1 x2 x3 x4 x5 x6 x7 x8 x9 x10 x11 x12 x13 x14 x15 hk hf hI
      obtain ⟨f, rfl⟩ : ∃ f', f = f' + 1 := ⟨f - 1, by omega⟩
      rcases hs (ml15 s f) k x1 x2 x3 x4 x5 x6 x7 x8 x9 x10 x11 x12 x13 x14 x15 hI with hE | ⟨hk', y1, y2, y3, y4, y5, y6, y7, y8, y9, y10, y11, y12, y13, y14, y15, hI', e⟩
      · exact ⟨k, x1, x2, x3, x4, x5, x6, x7, x8, x9, x10, x11, x12, x13, x14, x15, ml15 s f, hI, hE, rfl⟩
      · obtain ⟨k2, z1, z2, z3, z4, z5, z6, z7, z8, z9, z10, z11, z12, z13, z14, z15, rc2, hI2, hE2, e2⟩ := ih (k + 1) f y1 y2 y3 y4 y5 y6 y7 y8 y9 y10 y11 y12 y13 y14 y15 (by omega) (by omega) hI'
        refine ⟨k2, z1, z2, z3, z4, z5, z6, z7, z8, z9, z10, z11, z12, z13, z14, z15, rc2, hI2, hE2, ?_⟩
        show s (ml15 s f) x1 x2 x3 x4 x5 x6 x7 x8 x9 x10 x11 x12 x13 x14 x15 = _
        rw [e, e2]
  exact key n 0 zN a1 a2 a3 a4 a5 a6 a7 a8 a9 a10 a11 a12 a13 a14 a15 (by omega) (by show n < 100000; omega) h0
theorem le16 {A1 A2 A3 A4 A5 A6 A7 A8 A9 A10 A11 A12 A13 A14 A15 A16 R : Type} {s : (A1 → A2 → A3 → A4 → A5 → A6 → A7 → A8 → A9 → A10 → A11 → A12 → A13 → A14 → A15 → A16 → Option R) → A1 → A2 → A3 → A4 → A5 → A6 → A7 → A8 → A9 → A10 → A11 → A12 → A13 → A14 → A15 → A16 → Option R} {a1 : A1} {a2 : A2} {a3 : A3} {a4 : A4} {a5 : A5} {a6 : A6} {a7 : A7} {a8 : A8} {a9 : A9} {a10 : A10} {a11 : A11} {a12 : A12} {a13 : A13} {a14 : A14} {a15 : A15} {a16 : A16} (I E : Nat → A1 → A2 → A3 → A4 → A5 → A6 → A7 → A8 → A9 → A10 → A11 → A12 → A13 → A14 → A15 → A16 → Prop) (n : Nat) (hn : n < 99999) (h0 : I 0 a1 a2 a3 a4 a5 a6 a7 a8 a9 a10 a11 a12 a13 a14 a15 a16) (hs : ∀ rc k x1 x2 x3 x4 x5 x6 x7 x8 x9 x10 x11 x12 x13 x14 x15 x16, I k x1 x2 x3 x4 x5 x6 x7 x8 x9 x10 x11 x12 x13 x14 x15 x16 → E k x1 x2 x3 x4 x5 x6 x7 x8 x9 x10 x11 x12 x13 x14 x15 x16 ∨ (k < n ∧ ∃ y1 y2 y3 y4 y5 y6 y7 y8 y9 y10 y11 y12 y13 y14 y15 y16, I (k + 1) y1 y2 y3 y4 y5 y6 y7 y8 y9 y10 y11 y12 y13 y14 y15 y16 ∧ s rc x1 x2 x3 x4 x5 x6 x7 x8 x9 x10 x11 x12 x13 x14 x15 x16 = rc y1 y2 y3 y4 y5 y6 y7 y8 y9 y10 y11 y12 y13 y14 y15 y16)) : ∃ k x1 x2 x3 x4 x5 x6 x7 x8 x9 x10 x11 x12 x13 x14 x15 x16 rc, I k x1 x2 x3 x4 x5 x6 x7 x8 x9 x10 x11 x12 x13 x14 x15 x16 ∧ E k x1 x2 x3 x4 x5 x6 x7 x8 x9 x10 x11 x12 x13 x14 x15 x16 ∧ ml16 s zN a1 a2 a3 a4 a5 a6 a7 a8 a9 a10 a11 a12 a13 a14 a15 a16 = s rc x1 x2 x3 x4 x5 x6 x7 x8 x9 x10 x11 x12 x13 x14 x15 x16 := by
  have key : ∀ (m k f : Nat) x1 x2 x3 x4 x5 x6 x7 x8 x9 x10 x11 x12 x13 x14 x15 x16, n ≤ k + m → m < f → I k x1 x2 x3 x4 x5 x6 x7 x8 x9 x10 x11 x12 x13 x14 x15 x16 → ∃ k y1 y2 y3 y4 y5 y6 y7 y8 y9 y10 y11 y12 y13 y14 y15 y16 rc, I k y1 y2 y3 y4 y5 y6 y7 y8 y9 y10 y11 y12 y13 y14 y15 y16 ∧ E k y1 y2 y3 y4 y5 y6 y7 y8 y9 y10 y11 y12 y13 y14 y15 y16 ∧ ml16 s f x1 x2 x3 x4 x5 x6 x7 x8 x9 x10 x11 x12 x13 x14 x15 x16 = s rc y1 y2 y3 y4 y5 y6 y7 y8 y9 y10 y11 y12 y13 y14 y15 y16 := by
    intro m
    induction m with
    | zero =>
      intro k f x1 x2 x3 x4 x5 x6 x7 x8 x9 x10 x11 x12 x13 x14 x15 x16 hk hf hI
      obtain ⟨f, rfl⟩ : ∃ f', f = f' + 1 := ⟨f - 1, by omega⟩
      rcases hs (ml16 s f) k x1 x2 x3 x4 x5 x6 x7 x8 x9 x10 x11 x12 x13 x14 x15 x16 hI with hE | ⟨hk', _⟩
      · exact ⟨k, x1, x2, x3, x4, x5, x6, x7, x8, x9, x10, x11, x12, x13, x14, x15, x16, ml16 s f, hI, hE, rfl⟩
      · omega
    | succ m ih =>
      intro k f x1 x2 x3 x4 x5 x6 x7 x8 x9 x10 x11 x12 x13 x14 x15 x16 hk hf hI
      obtain ⟨f, rfl⟩ : ∃ f', f = f' + 1 := ⟨f - 1, by omega⟩
      rcases hs (ml16 s f) k x1 x2 x3 x4 x5 x6 x7 x8 x9 x10 x11 x12 x13 x14 x15 x16 hI with hE | ⟨hk', y1, y2, y3, y4, y5, y6, y7, y8, y9, y10, y11, y12, y13, y14, y15, y16, hI', e⟩
      · exact ⟨k, x1, x2, x3, x4, x5, x6, x7, x8, x9, x10, x11, x12, x13, x14, x15, x16, ml16 s f, hI, hE, rfl⟩
      · obtain ⟨k2, z1, z2, z3, z4, z5, z6, z7, z8, z9, z10, z11, z12, z13, z14, z15, z16, rc2, hI2, hE2, e2⟩ := ih (k + 1) f y1 y2 y3 y4 y5 y6 y7 y8 y9 y10 y11 y12 y13 y14 y15 y16 (by omega) (by omega) hI'
        refine ⟨k2, z1, z2, z3, z4, z5, z6, z7, z8, z9, z10, z11, z12, z13, z14, z15, z16, rc2, hI2, hE2, ?_⟩
        show s (ml16 s f) x1 x2 x3 x4 x5 x6 x7 x8 x9 x10 x11 x12 x13 x14 x15 x16 = _
        rw [e, e2]
  exact key n 0 zN a1 a2 a3 a4 a5 a6 a7 a8 a9 a10 a11 a12 a13 a14 a15 a16 (by omega) (by show n < 100000; omega) h0
theorem le17 {A1 A2 A3 A4 A5 A6 A7 A8 A9 A10 A11 A12 A13 A14 A15 A16 A17 R : Type} {s : (A1 → A2 → A3 → A4 → A5 → A6 → A7 → A8 → A9 → A10 → A11 → A12 → A13 → A14 → A15 → A16 → A17 → Option R) → A1 → A2 → A3 → A4 → A5 → A6 → A7 → A8 → A9 → A10 → A11 → A12 → A13 → A14 → A15 → A16 → A17 → Option R} {a1 : A1} {a2 : A2} {a3 : A3} {a4 : A4} {a5 : A5} {a6 : A6} {a7 : A7} {a8 : A8} {a9 : A9} {a10 : A10} {a11 : A11} {a12 : A12} {a13 : A13} {a14 : A14} {a15 : A15} {a16 : A16} {a17 : A17} (I E : Nat → A1 → A2 → A3 → A4 → A5 → A6 → A7 → A8 → A9 → A10 → A11 → A12 → A13 → A14 → A15 → A16 → A17 → Prop) (n : Nat) (hn : n < 99999) (h0 : I 0 a1 a2 a3 a4 a5 a6 a7 a8 a9 a10 a11 a12 a13 a14 a15 a16 a17) (hs : ∀ rc k x1 x2 x3 x4 x5 x6 x7 x8 x9 x10 x11 x12 x13 x14 x15 x16 x17, I k x1 x2 x3 x4 x5 x6 x7 x8 x9 x10 x11 x12 x13 x14 x15 x16 x17 → E k x1 x2 x3 x4 x5 x6 x7 x8 x9 x10 x11 x12 x13 x14 x15 x16 x17 ∨ (k < n ∧ ∃ y1 y2 y3 y4 y5 y6 y7 y8 y9 y10 y11 y12 y13 y14 y15 y16 y17, I (k + 1) y1 y2 y3 y4 y5 y6 y7 y8 y9 y10 y11 y12 y13 y14 y15 y16 y17 ∧ s rc x1 x2 x3 x4 x5 x6 x7 x8 x9 x10 x11 x12 x13 x14 x15 x16 x17 = rc y1 y2 y3 y4 y5 y6 y7 y8 y9 y10 y11 y12 y13 y14 y15 y16 y17)) : ∃ k x1 x2 x3 x4 x5 x6 x7 x8 x9 x10 x11 x12 x13 x14 x15 x16 x17 rc, I k x1 x2 x3 x4 x5 x6 x7 x8 x9 x10 x11 x12 x13 x14 x15 x16 x17 ∧ E k x1 x2 x3 x4 x5 x6 x7 x8 x9 x10 x11 x12 x13 x14 x15 x16 x17 ∧ ml17 s zN a1 a2 a3 a4 a5 a6 a7 a8 a9 a10 a11 a12 a13 a14 a15 a16 a17 = s rc x1 x2 x3 x4 x5 x6 x7 x8 x9 x10 x11 x12 x13 x14 x15 x16 x17 := by
  have key : ∀ (m k f : Nat) x1 x2 x3 x4 x5 x6 x7 x8 x9 x10 x11 x12 x13 x14 x15 x16 x17, n ≤ k + m → m < f → I k x1 x2 x3 x4 x5 x6 x7 x8 x9 x10 x11 x12 x13 x14 x15 x16 x17 → ∃ k y1 y2 y3 y4 y5 y6 y7 y8 y9 y10 y11 y12 y13 y14 y15 y16 y17 rc, I k y1 y2 y3 y4 y5 y6 y7 y8 y9 y10 y11 y12 y13 y14 y15 y16 y17 ∧ E k y1 y2 y3 y4 y5 y6 y7 y8 y9 y10 y11 y12 y13 y14 y15 y16 y17 ∧ ml17 s f x1 x2 x3 x4 x5 x6 x7 x8 x9 x10 x11 x12 x13 x14 x15 x16 x17 = s rc y1 y2 y3 y4 y5 y6 y7 y8 y9 y10 y11 y12 y13 y14 y15 y16 y17 := by
    intro m
    induction m with
    | zero =>
      intro k f x1 x2 x3 x4 x5 x6 x7 x8 x9 x10 x11 x12 x13 x14 x15 x16 x17 hk hf hI
      obtain ⟨f, rfl⟩ : ∃ f', f = f' + 1 := ⟨f - 1, by omega⟩
      rcases hs (ml17 s f) k x1 x2 x3 x4 x5 x6 x7 x8 x9 x10 x11 x12 x13 x14 x15 x16 x17 hI with hE | ⟨hk', _⟩
      · exact ⟨k, x1, x2, x3, x4, x5, x6, x7, x8, x9, x10, x11, x12, x13, x14, x15, x16, x17, ml17 s f, hI, hE, rfl⟩
      · omega
    | succ m ih =>
      intro k f x1 x2 x3 x4 x5 x6 x7 x8 x9 x10 x11 x12 x13 x14 x15 x16 x17 hk hf hI
      obtain ⟨f, rfl⟩ : ∃ f', f = f' + 1 := ⟨f - 1, by omega⟩
      rcases hs (ml17 s f) k x1 x2 x3 x4 x5 x6 x7 x8 x9 x10 x11 x12 x13 x14 x15 x16 x17 hI with hE | ⟨hk', y1, y2, y3, y4, y5, y6, y7, y8, y9, y10, y11, y12, y13, y14, y15, y16, y17, hI', e⟩
      · exact ⟨k, x1, x2, x3, x4, x5, x6, x7, x8, x9, x10, x11, x12, x13, x14, x15, x16, x17, ml17 s f, hI, hE, rfl⟩
      · obtain ⟨k2, z1, z2, z3, z4, z5, z6, z7, z8, z9, z10, z11, z12, z13, z14, z15, z16, z17, rc2, hI2, hE2, e2⟩ := ih (k + 1) f y1 y2 y3 y4 y5 y6 y7 y8 y9 y10 y11 y12 y13 y14 y15 y16 y17 (by omega) (by omega) hI'
        refine ⟨k2, z1, z2, z3, z4, z5, z6, z7, z8, z9, z10, z11, z12, z13, z14, z15, z16, z17, rc2, hI2, hE2, ?_⟩
        show s (ml17 s f) x1 x2 x3 x4 x5 x6 x7 x8 x9 x10 x11 x12 x13 x14 x15 x16 x17 = _
        rw [e, e2]
  exact key n 0 zN a1 a2 a3 a4 a5 a6 a7 a8 a9 a10 a11 a12 a13 a14 a15 a16 a17 (by omega) (by show n < 100000; omega) h0
theorem le18 {A1 A2 A3 A4 A5 A6 A7 A8 A9 A10 A11 A12 A13 A14 A15 A16 A17 A18 R : Type} {s : (A1 → A2 → A3 → A4 → A5 → A6 → A7 → A8 → A9 → A10 → A11 → A12 → A13 → A14 → A15 → A16 → A17 → A18 → Option R) → A1 → A2 → A3 → A4 → A5 → A6 → A7 → A8 → A9 → A10 → A11 → A12 → A13 → A14 → A15 → A16 → A17 → A18 → Option R} {a1 : A1} {a2 : A2} {a3 : A3} {a4 : A4} {a5 : A5} {a6 : A6} {a7 : A7} {a8 : A8} {a9 : A9} {a10 : A10} {a11 : A11} {a12 : A12} {a13 : A13} {a14 : A14} {a15 : A15} {a16 : A16} {a17 : A17} {a18 : A18} (I E : Nat → A1 → A2 → A3 → A4 → A5 → A6 → A7 → A8 → A9 → A10 → A11 → A12 → A13 → A14 → A15 → A16 → A17 → A18 → Prop) (n : Nat) (hn : n < 99999) (h0 : I 0 a1 a2 a3 a4 a5 a6 a7 a8 a9 a10 a11 a12 a13 a14 a15 a16 a17 a18) (hs : ∀ rc k x1 x2 x3 x4 x5 x6 x7 x8 x9 x10 x11 x12 x13 x14 x15 x16 x17 x18, I k x1 x2 x3 x4 x5 x6 x7 x8 x9 x10 x11 x12 x13 x14 x15 x16 x17 x18 → E k x1 x2 x3 x4 x5 x6 x7 x8 x9 x10 x11 x12 x13 x14 x15 x16 x17 x18 ∨ (k < n ∧ ∃ y1 y2 y3 y4 y5 y6 y7 y8 y9 y10 y11 y12 y13 y14 y15 y16 y17 y18, I (k + 1) y1 y2 y3 y4 y5 y6 y7 y8 y9 y10 y11 y12 y13 y14 y15 y16 y17 y18 ∧ s rc x1 x2 x3 x4 x5 x6 x7 x8 x9 x10 x11 x12 x13 x14 x15 x16 x17 x18 = rc y1 y2 y3 y4 y5 y6 y7 y8 y9 y10 y11 y12 y13 y14 y15 y16 y17 y18)) : ∃ k x1 x2 x3 x4 x5 x6 x7 x8 x9 x10 x11 x12 x13 x14 x15 x16 x17 x18 rc, I k x1 x2 x3 x4 x5 x6 x7 x8 x9 x10 x11 x12 x13 x14 x15 x16 x17 x18 ∧ E k x1 x2 x3 x4 x5 x6 x7 x8 x9 x10 x11 x12 x13 x14 x15 x16 x17 x18 ∧ ml18 s zN a1 a2 a3 a4 a5 a6 a7 a8 a9 a10 a11 a12 a13 a14 a15 a16 a17 a18 = s rc x1 x2 x3 x4 x5 x6 x7 x8 x9 x10 x11 x12 x13 x14 x15 x16 x17 x18 := by
  have key : ∀ (m k f : Nat) x1 x2 x3 x4 x5 x6 x7 x8 x9 x10 x11 x12 x13 x14 x15 x16 x17 x18, n ≤ k + m → m < f → I k x1 x2 x3 x4 x5 x6 x7 x8 x9 x10 x11 x12 x13 x14 x15 x16 x17 x18 → ∃ k y1 y2 y3 y4 y5 y6 y7 y8 y9 y10 y11 y12 y13 y14 y15 y16 y17 y18 rc, I k y1 y2 y3 y4 y5 y6 y7 y8 y9 y10 y11 y12 y13 y14 y15 y16 y17 y18 ∧ E k y1 y2 y3 y4 y5 y6 y7 y8 y9 y10 y11 y12 y13 y14 y15 y16 y17 y18 ∧ ml18 s f x1 x2 x3 x4 x5 x6 x7 x8 x9 x10 x11 x12 x13 x14 x15 x16 x17 x18 = s rc y1 y2 y3 y4 y5 y6 y7 y8 y9 y10 y11 y12 y13 y14 y15 y16 y17 y18 := by
    intro m
    induction m with
    | zero =>
      intro k f x1 x2 x3 x4 x5 x6 x7 x8 x9 x10 x11 x12 x13 x14 x15 x16 x17 x18 hk hf hI
      obtain ⟨f, rfl⟩ : ∃ f', f = f' + 1 := ⟨f - 1, by omega⟩
      rcases hs (ml18 s f) k x1 x2 x3 x4 x5 x6 x7 x8 x9 x10 x11 x12 x13 x14 x15 x16 x17 x18 hI with hE | ⟨hk', _⟩
      · exact ⟨k, x1, x2, x3, x4, x5, x6, x7, x8, x9, x10, x11, x12, x13, x14, x15, x16, x17, x18, ml18 s f, hI, hE, rfl⟩
      · omega
    | succ m ih =>
      intro k f x1 x2 x3 x4 x5 x6 x7 x8 x9 x10 x11 x12 x13 x14 x15 x16 x17 x18 hk hf hI
      obtain ⟨f, rfl⟩ : ∃ f', f = f' + 1 := ⟨f - 1, by omega⟩
      rcases hs (ml18 s f) k x1 x2 x3 x4 x5 x6 x7 x8 x9 x10 x11 x12 x13 x14 x15 x16 x17 x18 hI with hE | ⟨hk', y1, y2, y3, y4, y5, y6, y7, y8, y9, y10, y11, y12, y13, y14, y15, y16, y17, y18, hI', e⟩
      · exact ⟨k, x1, x2, x3, x4, x5, x6, x7, x8, x9, x10, x11, x12, x13, x14, x15, x16, x17, x18, ml18 s f, hI, hE, rfl⟩
      · obtain ⟨k2, z1, z2, z3, z4, z5, z6, z7, z8, z9, z10, z11, z12, z13, z14, z15, z16, z17, z18, rc2, hI2, hE2, e2⟩ := ih (k + 1) f y1 y2 y3 y4 y5 y6 y7 y8 y9 y10 y11 y12 y13 y14 y15 y16 y17 y18 (by omega) (by omega) hI'
        refine ⟨k2, z1, z2, z3, z4, z5, z6, z7, z8, z9, z10, z11, z12, z13, z14, z15, z16, z17, z18, rc2, hI2, hE2, ?_⟩
        show s (ml18 s f) x1 x2 x3 x4 x5 x6 x7 x8 x9 x10 x11 x12 x13 x14 x15 x16 x17 x18 = _
        rw [e, e2]
  exact key n 0 zN a1 a2 a3 a4 a5 a6 a7 a8 a9 a10 a11 a12 a13 a14 a15 a16 a17 a18 (by omega) (by show n < 100000; omega) h0
theorem le19 {A1 A2 A3 A4 A5 A6 A7 A8 A9 A10 A11 A12 A13 A14 A15 A16 A17 A18 A19 R : Type} {s : (A1 → A2 → A3 → A4 → A5 → A6 → A7 → A8 → A9 → A10 → A11 → A12 → A13 → A14 → A15 → A16 → A17 → A18 → A19 → Option R) → A1 → A2 → A3 → A4 → A5 → A6 → A7 → A8 → A9 → A10 → A11 → A12 → A13 → A14 → A15 → A16 → A17 → A18 → A19 → Option R} {a1 : A1} {a2 : A2} {a3 : A3} {a4 : A4} {a5 : A5} {a6 : A6} {a7 : A7} {a8 : A8} {a9 : A9} {a10 : A10} {a11 : A11} {a12 : A12} {a13 : A13} {a14 : A14} {a15 : A15} {a16 : A16} {a17 : A17} {a18 : A18} {a19 : A19} (I E : Nat → A1 → A2 → A3 → A4 → A5 → A6 → A7 → A8 → A9 → A10 → A11 → A12 → A13 → A14 → A15 → A16 → A17 → A18 → A19 → Prop) (n : Nat) (hn : n < 99999) (h0 : I 0 a1 a2 a3 a4 a5 a6 a7 a8 a9 a10 a11 a12 a13 a14 a15 a16 a17 a18 a19) (hs : ∀ rc k x1 x2 x3 x4 x5 x6 x7 x8 x9 x10 x11 x12 x13 x14 x15 x16 x17 x18 x19, I k x1 x2 x3 x4 x5 x6 x7 x8 x9 x10 x11 x12 x13 x14 x15 x16 x17 x18 x19 → E k x1 x2 x3 x4 x5 x6 x7 x8 x9 x10 x11 x12 x13 x14 x15 x16 x17 x18 x19 ∨ (k < n ∧ ∃ y1 y2 y3 y4 y5 y6 y7 y8 y9 y10 y11 y12 y13 y14 y15 y16 y17 y18 y19, I (k + 1) y1 y2 y3 y4 y5 y6 y7 y8 y9 y10 y11 y12 y13 y14 y15 y16 y17 y18 y19 ∧ s rc x1 x2 x3 x4 x5 x6 x7 x8 x9 x10 x11 x12 x13 x14 x15 x16 x17 x18 x19 = rc y1 y2 y3 y4 y5 y6 y7 y8 y9 y10 y11 y12 y13 y14 y15 y16 y17 y18 y19)) : ∃ k x1 x2 x3 x4 x5 x6 x7 x8 x9 x10 x11 x12 x13 x14 x15 x16 x17 x18 x19 rc, I k x1 x2 x3 x4 x5 x6 x7 x8 x9 x10 x11 x12 x13 x14 x15 x16 x17 x18 x19 ∧ E k x1 x2 x3 x4 x5 x6 x7 x8 x9 x10 x11 x12 x13 x14 x15 x16 x17 x18 x19 ∧ ml19 s zN a1 a2 a3 a4 a5 a6 a7 a8 a9 a10 a11 a12 a13 a14 a15 a16 a17 a18 a19 = s rc x1 x2 x3 x4 x5 x6 x7 x8 x9 x10 x11 x12 x13 x14 x15 x16 x17 x18 x19 := by
  have key : ∀ (m k f : Nat) x1 x2 x3 x4 x5 x6 x7 x8 x9 x10 x11 x12 x13 x14 x15 x16 x17 x18 x19, n ≤ k + m → m < f → I k x1 x2 x3 x4 x5 x6 x7 x8 x9 x10 x11 x12 x13 x14 x15 x16 x17 x18 x19 → ∃ k y1 y2 y3 y4 y5 y6 y7 y8 y9 y10 y11 y12 y13 y14 y15 y16 y17 y18 y19 rc, I k y1 y2 y3 y4 y5 y6 y7 y8 y9 y10 y11 y12 y13 y14 y15 y16 y17 y18 y19 ∧ E k y1 y2 y3 y4 y5 y6 y7 y8 y9 y10 y11 y12 y13 y14 y15 y16 y17 y18 y19 ∧ ml19 s f x1 x2 x3 x4 x5 x6 x7 x8 x9 x10 x11 x12 x13 x14 x15 x16 x17 x18 x19 = s rc y1 y2 y3 y4 y5 y6 y7 y8 y9 y10 y11 y12 y13 y14 y15 y16 y17 y18 y19 := by
    intro m
    induction m with
    | zero =>
      intro k f x1 x2 x3 x4 x5 x6 x7 x8 x9 x10 x11 x12 x13 x14 x15 x16 x17 x18 x19 hk hf hI
      obtain ⟨f, rfl⟩ : ∃ f', f = f' + 1 := ⟨f - 1, by omega⟩
      rcases hs (ml19 s f) k x1 x2 x3 x4 x5 x6 x7 x8 x9 x10 x11 x12 x13 x14 x15 x16 x17 x18 x19 hI with hE | ⟨hk', _⟩
      · exact ⟨k, x1, x2, x3, x4, x5, x6, x7, x8, x9, x10, x11, x12, x13, x14, x15, x16, x17, x18, x19, ml19 s f, hI, hE, rfl⟩
      · omega
    | succ m ih =>
      intro k f x1 x2 x3 x4 x5 x6 x7 x8 x9 x10 x11 x12 x13 x14 x15 x16 x17 x18 x19 hk hf hI
      obtain ⟨f, rfl⟩ : ∃ f', f = f' + 1 := ⟨f - 1, by omega⟩
      rcases hs (ml19 s f) k x1 x2 x3 x4 x5 x6 x7 x8 x9 x10 x11 x12 x13 x14 x15 x16 x17 x18 x19 hI with hE | ⟨hk', y1, y2, y3, y4, y5, y6, y7, y8, y9, y10, y11, y12, y13, y14, y15, y16, y17, y18, y19, hI', e⟩
      · exact ⟨k, x1, x2, x3, x4, x5, x6, x7, x8, x9, x10, x11, x12, x13, x14, x15, x16, x17, x18, x19, ml19 s f, hI, hE, rfl⟩
      · obtain ⟨k2, z1, z2, z3, z4, z5, z6, z7, z8, z9, z10, z11, z12, z13, z14, z15, z16, z17, z18, z19, rc2, hI2, hE2, e2⟩ := ih (k + 1) f y1 y2 y3 y4 y5 y6 y7 y8 y9 y10 y11 y12 y13 y14 y15 y16 y17 y18 y19 (by omega) (by omega) hI'
        refine ⟨k2, z1, z2, z3, z4, z5, z6, z7, z8, z9, z10, z11, z12, z13, z14, z15, z16, z17, z18, z19, rc2, hI2, hE2, ?_⟩
        show s (ml19 s f) x1 x2 x3 x4 x5 x6 x7 x8 x9 x10 x11 x12 x13 x14 x15 x16 x17 x18 x19 = _
        rw [e, e2]
  exact key n 0 zN a1 a2 a3 a4 a5 a6 a7 a8 a9 a10 a11 a12 a13 a14 a15 a16 a17 a18 a19 (by omega) (by show n < 100000; omega) h0
theorem le20 {A1 A2 A3 A4 A5 A6 A7 A8 A9 A10 A11 A12 A13 A14 A15 A16 A17 A18 A19 A20 R : Type} {s : (A1 → A2 → A3 → A4 → A5 → A6 → A7 → A8 → A9 → A10 → A11 → A12 → A13 → A14 → A15 → A16 → A17 → A18 → A19 → A20 → Option R) → A1 → A2 → A3 → A4 → A5 → A6 → A7 → A8 → A9 → A10 → A11 → A12 → A13 → A14 → A15 → A16 → A17 → A18 → A19 → A20 → Option R} {a1 : A1} {a2 : A2} {a3 : A3} {a4 : A4} {a5 : A5} {a6 : A6} {a7 : A7} {a8 : A8} {a9 : A9} {a10 : A10} {a11 : A11} {a12 : A12} {a13 : A13} {a14 : A14} {a15 : A15} {a16 : A16} {a17 : A17} {a18 : A18} {a19 : A19} {a20 : A20} (I E : Nat → A1 → A2 → A3 → A4 → A5 → A6 → A7 → A8 → A9 → A10 → A11 → A12 → A13 → A14 → A15 → A16 → A17 → A18 → A19 → A20 → Prop) (n : Nat) (hn : n < 99999) (h0 : I 0 a1 a2 a3 a4 a5 a6 a7 a8 a9 a10 a11 a12 a13 a14 a15 a16 a17 a18 a19 a20) (hs : ∀ rc k x1 x2 x3 x4 x5 x6 x7 x8 x9 x10 x11 x12 x13 x14 x15 x16 x17 x18 x19 x20, I k x1 x2 x3 x4 x5 x6 x7 x8 x9 x10 x11 x12 x13 x14 x15 x16 x17 x18 x19 x20 → E k x1 x2 x3 x4 x5 x6 x7 x8 x9 x10 x11 x12 x13 x14 x15 x16 x17 x18 x19 x20 ∨ (k < n ∧ ∃ y1 y2 y3 y4 y5 y6 y7 y8 y9 y10 y11 y12 y13 y14 y15 y16 y17 y18 y19 y20, I (k + 1) y1 y2 y3 y4 y5 y6 y7 y8 y9 y10 y11 y12 y13 y14 y15 y16 y17 y18 y19 y20 ∧ s rc x1 x2 x3 x4 x5 x6 x7 x8 x9 x10 x11 x12 x13 x14 x15 x16 x17 x18 x19 x20 = rc y1 y2 y3 y4 y5 y6 y7 y8 y9 y10 y11 y12 y13 y14 y15 y16 y17 y18 y19 y20)) : ∃ k x1 x2 x3 x4 x5 x6 x7 x8 x9 x10 x11 x12 x13 x14 x15 x16 x17 x18 x19 x20 rc, I k x1 x2 x3 x4 x5 x6 x7 x8 x9 x10 x11 x12 x13 x14 x15 x16 x17 x18 x19 x20 ∧ E k x1 x2 x3 x4 x5 x6 x7 x8 x9 x10 x11 x12 x13 x14 x15 x16 x17 x18 x19 x20 ∧ ml20 s zN a1 a2 a3 a4 a5 a6 a7 a8 a9 a10 a11 a12 a13 a14 a15 a16 a17 a18 a19 a20 = s rc x1 x2 x3 x4 x5 x6 x7 x8 x9 x10 x11 x12 x13 x14 x15 x16 x17 x18 x19 x20 := by
  have key : ∀ (m k f : Nat) x1 x2 x3 x4 x5 x6 x7 x8 x9 x10 x11 x12 x13 x14 x15 x16 x17 x18 x19 x20, n ≤ k + m → m < f → I k x1 x2 x3 x4 x5 x6 x7 x8 x9 x10 x11 x12 x13 x14 x15 x16 x17 x18 x19 x20 → ∃ k y1 y2 y3 y4 y5 y6 y7 y8 y9 y10 y11 y12 y13 y14 y15 y16 y17 y18 y19 y20 rc, I k y1 y2 y3 y4 y5 y6 y7 y8 y9 y10 y11 y12 y13 y14 y15 y16 y17 y18 y19 y20 ∧ E k y1 y2 y3 y4 y5 y6 y7 y8 y9 y10 y11 y12 y13 y14 y15 y16 y17 y18 y19 y20 ∧ ml20 s f x1 x2 x3 x4 x5 x6 x7 x8 x9 x10 x11 x12 x13 x14 x15 x16 x17 x18 x19 x20 = s rc y1 y2 y3 y4 y5 y6 y7 y8 y9 y10 y11 y12 y13 y14 y15 y16 y17 y18 y19 y20 := by
    intro m
    induction m with
    | zero =>
      intro k f x1 x2 x3 x4 x5 x6 x7 x8 x9 x10 x11 x12 x13 x14 x15 x16 x17 x18 x19 x20 hk hf hI
      obtain ⟨f, rfl⟩ : ∃ f', f = f' + 1 := ⟨f - 1, by omega⟩
      rcases hs (ml20 s f) k x1 x2 x3 x4 x5 x6 x7 x8 x9 x10 x11 x12 x13 x14 x15 x16 x17 x18 x19 x20 hI with hE | ⟨hk', _⟩
      · exact ⟨k, x1, x2, x3, x4, x5, x6, x7, x8, x9, x10, x11, x12, x13, x14, x15, x16, x17, x18, x19, x20, ml20 s f, hI, hE, rfl⟩
      · omega
    | succ m ih =>
      intro k f x1 x2 x3 x4 x5 x6 x7 x8 x9 x10 x11 x12 x13 x14 x15 x16 x17 x18 x19 x20 hk hf hI
      obtain ⟨f, rfl⟩ : ∃ f', f = f' + 1 := ⟨f - 1, by omega⟩
      rcases hs (ml20 s f) k x1 x2 x3 x4 x5 x6 x7 x8 x9 x10 x11 x12 x13 x14 x15 x16 x17 x18 x19 x20 hI with hE | ⟨hk', y1, y2, y3, y4, y5, y6, y7, y8, y9, y10, y11, y12, y13, y14, y15, y16, y17, y18, y19, y20, hI', e⟩
      · exact ⟨k, x1, x2, x3, x4, x5, x6, x7, x8, x9, x10, x11, x12, x13, x14, x15, x16, x17, x18, x19, x20, ml20 s f, hI, hE, rfl⟩
      · obtain ⟨k2, z1, z2, z3, z4, z5, z6, z7, z8, z9, z10, z11, z12, z13, z14, z15, z16, z17, z18, z19, z20, rc2, hI2, hE2, e2⟩ := ih (k + 1) f y1 y2 y3 y4 y5 y6 y7 y8 y9 y10 y11 y12 y13 y14 y15 y16 y17 y18 y19 y20 (by omega) (by omega) hI'
        refine ⟨k2, z1, z2, z3, z4, z5, z6, z7, z8, z9, z10, z11, z12, z13, z14, z15, z16, z17, z18, z19, z20, rc2, hI2, hE2, ?_⟩
        show s (ml20 s f) x1 x2 x3 x4 x5 x6 x7 x8 x9 x10 x11 x12 x13 x14 x15 x16 x17 x18 x19 x20 = _
        rw [e, e2]
  exact key n 0 zN a1 a2 a3 a4 a5 a6 a7 a8 a9 a10 a11 a12 a13 a14 a15 a16 a17 a18 a19 a20 (by omega) (by show n < 100000; omega) h0
theorem le21 {A1 A2 A3 A4 A5 A6 A7 A8 A9 A10 A11 A12 A13 A14 A15 A16 A17 A18 A19 A20 A21 R : Type} {s : (A1 → A2 → A3 → A4 → A5 → A6 → A7 → A8 → A9 → A10 → A11 → A12 → A13 → A14 → A15 → A16 → A17 → A18 → A19 → A20 → A21 → Option R) → A1 → A2 → A3 → A4 → A5 → A6 → A7 → A8 → A9 → A10 → A11 → A12 → A13 → A14 → A15 → A16 → A17 → A18 → A19 → A20 → A21 → Option R} {a1 : A1} {a2 : A2} {a3 : A3} {a4 : A4} {a5 : A5} {a6 : A6} {a7 : A7} {a8 : A8} {a9 : A9} {a10 : A10} {a11 : A11} {a12 : A12} {a13 : A13} {a14 : A14} {a15 : A15} {a16 : A16} {a17 : A17} {a18 : A18} {a19 : A19} {a20 : A20} {a21 : A21} (I E : Nat → A1 → A2 → A3 → A4 → A5 → A6 → A7 → A8 → A9 → A10 → A11 → A12 → A13 → A14 → A15 → A16 → A17 → A18 → A19 → A20 → A21 → Prop) (n : Nat) (hn : n < 99999) (h0 : I 0 a1 a2 a3 a4 a5 a6 a7 a8 a9 a10 a11 a12 a13 a14 a15 a16 a17 a18 a19 a20 a21) (hs : ∀ rc k x1 x2 x3 x4 x5 x6 x7 x8 x9 x10 x11 x12 x13 x14 x15 x16 x17 x18 x19 x20 x21, I k x1 x2 x3 x4 x5 x6 x7 x8 x9 x10 x11 x12 x13 x14 x15 x16 x17 x18 x19 x20 x21 → E k x1 x2 x3 x4 x5 x6 x7 x8 x9 x10 x11 x12 x13 x14 x15 x16 x17 x18 x19 x20 x21 ∨ (k < n ∧ ∃ y1 y2 y3 y4 y5 y6 y7 y8 y9 y10 y11 y12 y13 y14 y15 y16 y17 y18 y19 y20 y21, I (k + 1) y1 y2 y3 y4 y5 y6 y7 y8 y9 y10 y11 y12 y13 y14 y15 y16 y17 y18 y19 y20 y21 ∧ s rc x1 x2 x3 x4 x5 x6 x7 x8 x9 x10 x11 x12 x13 x14 x15 x16 x17 x18 x19 x20 x21 = rc y1 y2 y3 y4 y5 y6 y7 y8 y9 y10 y11 y12 y13 y14 y15 y16 y17 y18 y19 y20 y21)) : ∃ k x1 x2 x3 x4 x5 x6 x7 x8 x9 x10 x11 x12 x13 x14 x15 x16 x17 x18 x19 x20 x21 rc, I k x1 x2 x3 x4 x5 x6 x7 x8 x9 x10 x11 x12 x13 x14 x15 x16 x17 x18 x19 x20 x21 ∧ E k x1 x2 x3 x4 x5 x6 x7 x8 x9 x10 x11 x12 x13 x14 x15 x16 x17 x18 x19 x20 x21 ∧ ml21 s zN a1 a2 a3 a4 a5 a6 a7 a8 a9 a10 a11 a12 a13 a14 a15 a16 a17 a18 a19 a20 a21 = s rc x1 x2 x3 x4 x5 x6 x7 x8 x9 x10 x11 x12 x13 x14 x15 x16 x17 x18 x19 x20 x21 := by
  have key : ∀ (m k f : Nat) x1 x2 x3 x4 x5 x6 x7 x8 x9 x10 x11 x12 x13 x14 x15 x16 x17 x18 x19 x20 x21, n ≤ k + m → m < f → I k x1 x2 x3 x4 x5 x6 x7 x8 x9 x10 x11 x12 x13 x14 x15 x16 x17 x18 x19 x20 x21 → ∃ k y1 y2 y3 y4 y5 y6 y7 y8 y9 y10 y11 y12 y13 y14 y15 y16 y17 y18 y19 y20 y21 rc, I k y1 y2 y3 y4 y5 y6 y7 y8 y9 y10 y11 y12 y13 y14 y15 y16 y17 y18 y19 y20 y21 ∧ E k y1 y2 y3 y4 y5 y6 y7 y8 y9 y10 y11 y12 y13 y14 y15 y16 y17 y18 y19 y20 y21 ∧ ml21 s f x1 x2 x3 x4 x5 x6 x7 x8 x9 x10 x11 x12 x13 x14 x15 x16 x17 x18 x19 x20 x21 = s rc y1 y2 y3 y4 y5 y6 y7 y8 y9 y10 y11 y12 y13 y14 y15 y16 y17 y18 y19 y20 y21 := by
    intro m
    induction m with
    | zero =>
      intro k f x1 x2 x3 x4 x5 x6 x7 x8 x9 x10 x11 x12 x13 x14 x15 x16 x17 x18 x19 x20 x21 hk hf hI
      obtain ⟨f, rfl⟩ : ∃ f', f = f' + 1 := ⟨f - 1, by omega⟩
      rcases hs (ml21 s f) k x1 x2 x3 x4 x5 x6 x7 x8 x9 x10 x11 x12 x13 x14 x15 x16 x17 x18 x19 x20 x21 hI with hE | ⟨hk', _⟩
      · exact ⟨k, x1, x2, x3, x4, x5, x6, x7, x8, x9, x10, x11, x12, x13, x14, x15, x16, x17, x18, x19, x20, x21, ml21 s f, hI, hE, rfl⟩
      · omega
    | succ m ih =>
      intro k f x1 x2 x3 x4 x5 x6 x7 x8 x9 x10 x11 x12 x13 x14 x15 x16 x17 x18 x19 x20 x21 hk hf hI
      obtain ⟨f, rfl⟩ : ∃ f', f = f' + 1 := ⟨f - 1, by omega⟩
      rcases hs (ml21 s f) k x1 x2 x3 x4 x5 x6 x7 x8 x9 x10 x11 x12 x13 x14 x15 x16 x17 x18 x19 x20 x21 hI with hE | ⟨hk', y1, y2, y3, y4, y5, y6, y7, y8, y9, y10, y11, y12, y13, y14, y15, y16, y17, y18, y19, y20, y21, hI', e⟩
      · exact ⟨k, x1, x2, x3, x4, x5, x6, x7, x8, x9, x10, x11, x12, x13, x14, x15, x16, x17, x18, x19, x20, x21, ml21 s f, hI, hE, rfl⟩
      · obtain ⟨k2, z1, z2, z3, z4, z5, z6, z7, z8, z9, z10, z11, z12, z13, z14, z15, z16, z17, z18, z19, z20, z21, rc2, hI2, hE2, e2⟩ := ih (k + 1) f y1 y2 y3 y4 y5 y6 y7 y8 y9 y10 y11 y12 y13 y14 y15 y16 y17 y18 y19 y20 y21 (by omega) (by omega) hI'
        refine ⟨k2, z1, z2, z3, z4, z5, z6, z7, z8, z9, z10, z11, z12, z13, z14, z15, z16, z17, z18, z19, z20, z21, rc2, hI2, hE2, ?_⟩
        show s (ml21 s f) x1 x2 x3 x4 x5 x6 x7 x8 x9 x10 x11 x12 x13 x14 x15 x16 x17 x18 x19 x20 x21 = _
        rw [e, e2]
  exact key n 0 zN a1 a2 a3 a4 a5 a6 a7 a8 a9 a10 a11 a12 a13 a14 a15 a16 a17 a18 a19 a20 a21 (by omega) (by show n < 100000; omega) h0
theorem le22 {A1 A2 A3 A4 A5 A6 A7 A8 A9 A10 A11 A12 A13 A14 A15 A16 A17 A18 A19 A20 A21 A22 R : Type} {s : (A1 → A2 → A3 → A4 → A5 → A6 → A7 → A8 → A9 → A10 → A11 → A12 → A13 → A14 → A15 → A16 → A17 → A18 → A19 → A20 → A21 → A22 → Option R) → A1 → A2 → A3 → A4 → A5 → A6 → A7 → A8 → A9 → A10 → A11 → A12 → A13 → A14 → A15 → A16 → A17 → A18 → A19 → A20 → A21 → A22 → Option R} {a1 : A1} {a2 : A2} {a3 : A3} {a4 : A4} {a5 : A5} {a6 : A6} {a7 : A7} {a8 : A8} {a9 : A9} {a10 : A10} {a11 : A11} {a12 : A12} {a13 : A13} {a14 : A14} {a15 : A15} {a16 : A16} {a17 : A17} {a18 : A18} {a19 : A19} {a20 : A20} {a21 : A21} {a22 : A22} (I E : Nat → A1 → A2 → A3 → A4 → A5 → A6 → A7 → A8 → A9 → A10 → A11 → A12 → A13 → A14 → A15 → A16 → A17 → A18 → A19 → A20 → A21 → A22 → Prop) (n : Nat) (hn : n < 99999) (h0 : I 0 a1 a2 a3 a4 a5 a6 a7 a8 a9 a10 a11 a12 a13 a14 a15 a16 a17 a18 a19 a20 a21 a22) (hs : ∀ rc k x1 x2 x3 x4 x5 x6 x7 x8 x9 x10 x11 x12 x13 x14 x15 x16 x17 x18 x19 x20 x21 x22, I k x1 x2 x3 x4 x5 x6 x7 x8 x9 x10 x11 x12 x13 x14 x15 x16 x17 x18 x19 x20 x21 x22 → E k x1 x2 x3 x4 x5 x6 x7 x8 x9 x10 x11 x12 x13 x14 x15 x16 x17 x18 x19 x20 x21 x22 ∨ (k < n ∧ ∃ y1 y2 y3 y4 y5 y6 y7 y8 y9 y10 y11 y12 y13 y14 y15 y16 y17 y18 y19 y20 y21 y22, I (k + 1) y1 y2 y3 y4 y5 y6 y7 y8 y9 y10 y11 y12 y13 y14 y15 y16 y17 y18 y19 y20 y21 y22 ∧ s rc x1 x2 x3 x4 x5 x6 x7 x8 x9 x10 x11 x12 x13 x14 x15 x16 x17 x18 x19 x20 x21 x22 = rc y1 y2 y3 y4 y5 y6 y7 y8 y9 y10 y11 y12 y13 y14 y15 y16 y17 y18 y19 y20 y21 y22)) : ∃ k x1 x2 x3 x4 x5 x6 x7 x8 x9 x10 x11 x12 x13 x14 x15 x16 x17 x18 x19 x20 x21 x22 rc, I k x1 x2 x3 x4 x5 x6 x7 x8 x9 x10 x11 x12 x13 x14 x15 x16 x17 x18 x19 x20 x21 x22 ∧ E k x1 x2 x3 x4 x5 x6 x7 x8 x9 x10 x11 x12 x13 x14 x15 x16 x17 x18 x19 x20 x21 x22 ∧ ml22 s zN a1 a2 a3 a4 a5 a6 a7 a8 a9 a10 a11 a12 a13 a14 a15 a16 a17 a18 a19 a20 a21 a22 = s rc x1 x2 x3 x4 x5 x6 x7 x8 x9 x10 x11 x12 x13 x14 x15 x16 x17 x18 x19 x20 x21 x22 := by
  have key : ∀ (m k f : Nat) x1 x2 x3 x4 x5 x6 x7 x8 x9 x10 x11 x12 x13 x14 x15 x16 x17 x18 x19 x20 x21 x22, n ≤ k + m → m < f → I k x1 x2 x3 x4 x5 x6 x7 x8 x9 x10 x11 x12 x13 x14 x15 x16 x17 x18 x19 x20 x21 x22 → ∃ k y1 y2 y3 y4 y5 y6 y7 y8 y9 y10 y11 y12 y13 y14 y15 y16 y17 y18 y19 y20 y21 y22 rc, I k y1 y2 y3 y4 y5 y6 y7 y8 y9 y10 y11 y12 y13 y14 y15 y16 y17 y18 y19 y20 y21 y22 ∧ E k y1 y2 y3 y4 y5 y6 y7 y8 y9 y10 y11 y12 y13 y14 y15 y16 y17 y18 y19 y20 y21 y22 ∧ ml22 s f x1 x2 x3 x4 x5 x6 x7 x8 x9 x10 x11 x12 x13 x14 x15 x16 x17 x18 x19 x20 x21 x22 = s rc y1 y2 y3 y4 y5 y6 y7 y8 y9 y10 y11 y12 y13 y14 y15 y16 y17 y18 y19 y20 y21 y22 := by
    intro m
    induction m with
    | zero =>
      intro k f x1 x2 x3 x4 x5 x6 x7 x8 x9 x10 x11 x12 x13 x14 x15 x16 x17 x18 x19 x20 x21 x22 hk hf hI
      obtain ⟨f, rfl⟩ : ∃ f', f = f' + 1 := ⟨f - 1, by omega⟩
      rcases hs (ml22 s f) k x1 x2 x3 x4 x5 x6 x7 x8 x9 x10 x11 x12 x13 x14 x15 x16 x17 x18 x19 x20 x21 x22 hI with hE | ⟨hk', _⟩
      · exact ⟨k, x1, x2, x3, x4, x5, x6, x7, x8, x9, x10, x11, x12, x13, x14, x15, x16, x17, x18, x19, x20, x21, x22, ml22 s f, hI, hE, rfl⟩
      · omega
    | succ m ih =>
      intro k f x1 x2 x3 x4 x5 x6 x7 x8 x9 x10 x11 x12 x13 x14 x15 x16 x17 x18 x19 x20 x21 x22 hk hf hI
      obtain ⟨f, rfl⟩ : ∃ f', f = f' + 1 := ⟨f - 1, by omega⟩
      rcases hs (ml22 s f) k x1 x2 x3 x4 x5 x6 x7 x8 x9 x10 x11 x12 x13 x14 x15 x16 x17 x18 x19 x20 x21 x22 hI with hE | ⟨hk', y1, y2, y3, y4, y5, y6, y7, y8, y9, y10, y11, y12, y13, y14, y15, y16, y17, y18, y19, y20, y21, y22, hI', e⟩
      · exact ⟨k, x1, x2, x3, x4, x5, x6, x7, x8, x9, x10, x11, x12, x13, x14, x15, x16, x17, x18, x19, x20, x21, x22, ml22 s f, hI, hE, rfl⟩
      · obtain ⟨k2, z1, z2, z3, z4, z5, z6, z7, z8, z9, z10, z11, z12, z13, z14, z15, z16, z17, z18, z19, z20, z21, z22, rc2, hI2, hE2, e2⟩ := ih (k + 1) f y1 y2 y3 y4 y5 y6 y7 y8 y9 y10 y11 y12 y13 y14 y15 y16 y17 y18 y19 y20 y21 y22 (by omega) (by omega) hI'
        refine ⟨k2, z1, z2, z3, z4, z5, z6, z7, z8, z9, z10, z11, z12, z13, z14, z15, z16, z17, z18, z19, z20, z21, z22, rc2, hI2, hE2, ?_⟩
        show s (ml22 s f) x1 x2 x3 x4 x5 x6 x7 x8 x9 x10 x11 x12 x13 x14 x15 x16 x17 x18 x19 x20 x21 x22 = _
        rw [e, e2]
  exact key n 0 zN a1 a2 a3 a4 a5 a6 a7 a8 a9 a10 a11 a12 a13 a14 a15 a16 a17 a18 a19 a20 a21 a22 (by omega) (by show n < 100000; omega) h0
theorem le23 {A1 A2 A3 A4 A5 A6 A7 A8 A9 A10 A11 A12 A13 A14 A15 A16 A17 A18 A19 A20 A21 A22 A23 R : Type} {s : (A1 → A2 → A3 → A4 → A5 → A6 → A7 → A8 → A9 → A10 → A11 → A12 → A13 → A14 → A15 → A16 → A17 → A18 → A19 → A20 → A21 → A22 → A23 → Option R) → A1 → A2 → A3 → A4 → A5 → A6 → A7 → A8 → A9 → A10 → A11 → A12 → A13 → A14 → A15 → A16 → A17 → A18 → A19 → A20 → A21 → A22 → A23 → Option R} {a1 : A1} {a2 : A2} {a3 : A3} {a4 : A4} {a5 : A5} {a6 : A6} {a7 : A7} {a8 : A8} {a9 : A9} {a10 : A10} {a11 : A11} {a12 : A12} {a13 : A13} {a14 : A14} {a15 : A15} {a16 : A16} {a17 : A17} {a18 : A18} {a19 : A19} {a20 : A20} {a21 : A21} {a22 : A22} {a23 : A23} (I E : Nat → A1 → A2 → A3 → A4 → A5 → A6 → A7 → A8 → A9 → A10 → A11 → A12 → A13 → A14 → A15 → A16 → A17 → A18 → A19 → A20 → A21 → A22 → A23 → Prop) (n : Nat) (hn : n < 99999) (h0 : I 0 a1 a2 a3 a4 a5 a6 a7 a8 a9 a10 a11 a12 a13 a14 a15 a16 a17 a18 a19 a20 a21 a22 a23) (hs : ∀ rc k x1 x2 x3 x4 x5 x6 x7 x8 x9 x10 x11 x12 x13 x14 x15 x16 x17 x18 x19 x20 x21 x22 x23, I k x1 x2 x3 x4 x5 x6 x7 x8 x9 x10 x11 x12 x13 x14 x15 x16 x17 x18 x19 x20 x21 x22 x23 → E k x1 x2 x3 x4 x5 x6 x7 x8 x9 x10 x11 x12 x13 x14 x15 x16 x17 x18 x19 x20 x21 x22 x23 ∨ (k < n ∧ ∃ y1 y2 y3 y4 y5 y6 y7 y8 y9 y10 y11 y12 y13 y14 y15 y16 y17 y18 y19 y20 y21 y22 y23, I (k + 1) y1 y2 y3 y4 y5 y6 y7 y8 y9 y10 y11 y12 y13 y14 y15 y16 y17 y18 y19 y20 y21 y22 y23 ∧ s rc x1 x2 x3 x4 x5 x6 x7 x8 x9 x10 x11 x12 x13 x14 x15 x16 x17 x18 x19 x20 x21 x22 x23 = rc y1 y2 y3 y4 y5 y6 y7 y8 y9 y10 y11 y12 y13 y14 y15 y16 y17 y18 y19 y20 y21 y22 y23)) : ∃ k x1 x2 x3 x4 x5 x6 x7 x8 x9 x10 x11 x12 x13 x14 x15 x16 x17 x18 x19 x20 x21 x22 x23 rc, I k x1 x2 x3 x4 x5 x6 x7 x8 x9 x10 x11 x12 x13 x14 x15 x16 x17 x18 x19 x20 x21 x22 x23 ∧ E k x1 x2 x3 x4 x5 x6 x7 x8 x9 x10 x11 x12 x13 x14 x15 x16 x17 x18 x19 x20 x21 x22 x23 ∧ ml23 s zN a1 a2 a3 a4 a5 a6 a7 a8 a9 a10 a11 a12 a13 a14 a15 a16 a17 a18 a19 a20 a21 a22 a23 = s rc x1 x2 x3 x4 x5 x6 x7 x8 x9 x10 x11 x12 x13 x14 x15 x16 x17 x18 x19 x20 x21 x22 x23 := by
  have key : ∀ (m k f : Nat) x1 x2 x3 x4 x5 x6 x7 x8 x9 x10 x11 x12 x13 x14 x15 x16 x17 x18 x19 x20 x21 x22 x23, n ≤ k + m → m < f → I k x1 x2 x3 x4 x5 x6 x7 x8 x9 x10 x11 x12 x13 x14 x15 x16 x17 x18 x19 x20 x21 x22 x23 → ∃ k y1 y2 y3 y4 y5 y6 y7 y8 y9 y10 y11 y12 y13 y14 y15 y16 y17 y18 y19 y20 y21 y22 y23 rc, I k y1 y2 y3 y4 y5 y6 y7 y8 y9 y10 y11 y12 y13 y14 y15 y16 y17 y18 y19 y20 y21 y22 y23 ∧ E k y1 y2 y3 y4 y5 y6 y7 y8 y9 y10 y11 y12 y13 y14 y15 y16 y17 y18 y19 y20 y21 y22 y23 ∧ ml23 s f x1 x2 x3 x4 x5 x6 x7 x8 x9 x10 x11 x12 x13 x14 x15 x16 x17 x18 x19 x20 x21 x22 x23 = s rc y1 y2 y3 y4 y5 y6 y7 y8 y9 y10 y11 y12 y13 y14 y15 y16 y17 y18 y19 y20 y21 y22 y23 := by
    intro m
    induction m with
    | zero =>
      intro k f x1 x2 x3 x4 x5 x6 x7 x8 x9 x10 x11 x12 x13 x14 x15 x16 x17 x18 x19 x20 x21 x22 x23 hk hf hI
      obtain ⟨f, rfl⟩ : ∃ f', f = f' + 1 := ⟨f - 1, by omega⟩
      rcases hs (ml23 s f) k x1 x2 x3 x4 x5 x6 x7 x8 x9 x10 x11 x12 x13 x14 x15 x16 x17 x18 x19 x20 x21 x22 x23 hI with hE | ⟨hk', _⟩
      · exact ⟨k, x1, x2, x3, x4, x5, x6, x7, x8, x9, x10, x11, x12, x13, x14, x15, x16, x17, x18, x19, x20, x21, x22, x23, ml23 s f, hI, hE, rfl⟩
      · omega
    | succ m ih =>
      intro k f x1 x2 x3 x4 x5 x6 x7 x8 x9 x10 x11 x12 x13 x14 x15 x16 x17 x18 x19 x20 x21 x22 x23 hk hf hI
      obtain ⟨f, rfl⟩ : ∃ f', f = f' + 1 := ⟨f - 1, by omega⟩
      rcases hs (ml23 s f) k x1 x2 x3 x4 x5 x6 x7 x8 x9 x10 x11 x12 x13 x14 x15 x16 x17 x18 x19 x20 x21 x22 x23 hI with hE | ⟨hk', y1, y2, y3, y4, y5, y6, y7, y8, y9, y10, y11, y12, y13, y14, y15, y16, y17, y18, y19, y20, y21, y22, y23, hI', e⟩
      · exact ⟨k, x1, x2, x3, x4, x5, x6, x7, x8, x9, x10, x11, x12, x13, x14, x15, x16, x17, x18, x19, x20, x21, x22, x23, ml23 s f, hI, hE, rfl⟩
      · obtain ⟨k2, z1, z2, z3, z4, z5, z6, z7, z8, z9, z10, z11, z12, z13, z14, z15, z16, z17, z18, z19, z20, z21, z22, z23, rc2, hI2, hE2, e2⟩ := ih (k + 1) f y1 y2 y3 y4 y5 y6 y7 y8 y9 y10 y11 y12 y13 y14 y15 y16 y17 y18 y19 y20 y21 y22 y23 (by omega) (by omega) hI'
        refine ⟨k2, z1, z2, z3, z4, z5, z6, z7, z8, z9, z10, z11, z12, z13, z14, z15, z16, z17, z18, z19, z20, z21, z22, z23, rc2, hI2, hE2, ?_⟩
        show s (ml23 s f) x1 x2 x3 x4 x5 x6 x7 x8 x9 x10 x11 x12 x13 x14 x15 x16 x17 x18 x19 x20 x21 x22 x23 = _
        rw [e, e2]
  exact key n 0 zN a1 a2 a3 a4 a5 a6 a7 a8 a9 a10 a11 a12 a13 a14 a15 a16 a17 a18 a19 a20 a21 a22 a23 (by omega) (by show n < 100000; omega) h0
theorem le24 {A1 A2 A3 A4 A5 A6 A7 A8 A9 A10 A11 A12 A13 A14 A15 A16 A17 A18 A19 A20 A21 A22 A23 A24 R : Type} {s : (A1 → A2 → A3 → A4 → A5 → A6 → A7 → A8 → A9 → A10 → A11 → A12 → A13 → A14 → A15 → A16 → A17 → A18 → A19 → A20 → A21 → A22 → A23 → A24 → Option R) → A1 → A2 → A3 → A4 → A5 → A6 → A7 → A8 → A9 → A10 → A11 → A12 → A13 → A14 → A15 → A16 → A17 → A18 → A19 → A20 → A21 → A22 → A23 → A24 → Option R} {a1 : A1} {a2 : A2} {a3 : A3} {a4 : A4} {a5 : A5} {a6 : A6} {a7 : A7} {a8 : A8} {a9 : A9} {a10 : A10} {a11 : A11} {a12 : A12} {a13 : A13} {a14 : A14} {a15 : A15} {a16 : A16} {a17 : A17} {a18 : A18} {a19 : A19} {a20 : A20} {a21 : A21} {a22 : A22} {a23 : A23} {a24 : A24} (I E : Nat → A1 → A2 → A3 → A4 → A5 → A6 → A7 → A8 → A9 → A10 → A11 → A12 → A13 → A14 → A15 → A16 → A17 → A18 → A19 → A20 → A21 → A22 → A23 → A24 → Prop) (n : Nat) (hn : n < 99999) (h0 : I 0 a1 a2 a3 a4 a5 a6 a7 a8 a9 a10 a11 a12 a13 a14 a15 a16 a17 a18 a19 a20 a21 a22 a23 a24) (hs : ∀ rc k x1 x2 x3 x4 x5 x6 x7 x8 x9 x10 x11 x12 x13 x14 x15 x16 x17 x18 x19 x20 x21 x22 x23 x24, I k x1 x2 x3 x4 x5 x6 x7 x8 x9 x10 x11 x12 x13 x14 x15 x16 x17 x18 x19 x20 x21 x22 x23 x24 → E k x1 x2 x3 x4 x5 x6 x7 x8 x9 x10 x11 x12 x13 x14 x15 x16 x17 x18 x19 x20 x21 x22 x23 x24 ∨ (k < n ∧ ∃ y1 y2 y3 y4 y5 y6 y7 y8 y9 y10 y11 y12 y13 y14 y15 y16 y17 y18 y19 y20 y21 y22 y23 y24, I (k + 1) y1 y2 y3 y4 y5 y6 y7 y8 y9 y10 y11 y12 y13 y14 y15 y16 y17 y18 y19 y20 y21 y22 y23 y24 ∧ s rc x1 x2 x3 x4 x5 x6 x7 x8 x9 x10 x11 x12 x13 x14 x15 x16 x17 x18 x19 x20 x21 x22 x23 x24 = rc y1 y2 y3 y4 y5 y6 y7 y8 y9 y10 y11 y12 y13 y14 y15 y16 y17 y18 y19 y20 y21 y22 y23 y24)) : ∃ k x1 x2 x3 x4 x5 x6 x7 x8 x9 x10 x11 x12 x13 x14 x15 x16 x17 x18 x19 x20 x21 x22 x23 x24 rc, I k x1 x2 x3 x4 x5 x6 x7 x8 x9 x10 x11 x12 x13 x14 x15 x16 x17 x18 x19 x20 x21 x22 x23 x24 ∧ E k x1 x2 x3 x4 x5 x6 x7 x8 x9 x10 x11 x12 x13 x14 x15 x16 x17 x18 x19 x20 x21 x22 x23 x24 ∧ ml24 s zN a1 a2 a3 a4 a5 a6 a7 a8 a9 a10 a11 a12 a13 a14 a15 a16 a17 a18 a19 a20 a21 a22 a23 a24 = s rc x1 x2 x3 x4 x5 x6 x7 x8 x9 x10 x11 x12 x13 x14 x15 x16 x17 x18 x19 x20 x21 x22 x23 x24 := by
  have key : ∀ (m k f : Nat) x1 x2 x3 x4 x5 x6 x7 x8 x9 x10 x11 x12 x13 x14 x15 x16 x17 x18 x19 x20 x21 x22 x23 x24, n ≤ k + m → m < f → I k x1 x2 x3 x4 x5 x6 x7 x8 x9 x10 x11 x12 x13 x14 x15 x16 x17 x18 x19 x20 x21 x22 x23 x24 → ∃ k y1 y2 y3 y4 y5 y6 y7 y8 y9 y10 y11 y12 y13 y14 y15 y16 y17 y18 y19 y20 y21 y22 y23 y24 rc, I k y1 y2 y3 y4 y5 y6 y7 y8 y9 y10 y11 y12 y13 y14 y15 y16 y17 y18 y19 y20 y21 y22 y23 y24 ∧ E k y1 y2 y3 y4 y5 y6 y7 y8 y9 y10 y11 y12 y13 y14 y15 y16 y17 y18 y19 y20 y21 y22 y23 y24 ∧ ml24 s f x1 x2 x3 x4 x5 x6 x7 x8 x9 x10 x11 x12 x13 x14 x15 x16 x17 x18 x19 x20 x21 x22 x23 x24 = s rc y1 y2 y3 y4 y5 y6 y7 y8 y9 y10 y11 y12 y13 y14 y15 y16 y17 y18 y19 y20 y21 y22 y23 y24 := by
    intro m
    induction m with
    | zero =>
      intro k f x1 x2 x3 x4 x5 x6 x7 x8 x9 x10 x11 x12 x13 x14 x15 x16 x17 x18 x19 x20 x21 x22 x23 x24 hk hf hI
      obtain ⟨f, rfl⟩ : ∃ f', f = f' + 1 := ⟨f - 1, by omega⟩
      rcases hs (ml24 s f) k x1 x2 x3 x4 x5 x6 x7 x8 x9 x10 x11 x12 x13 x14 x15 x16 x17 x18 x19 x20 x21 x22 x23 x24 hI with hE | ⟨hk', _⟩
      · exact ⟨k, x1, x2, x3, x4, x5, x6, x7, x8, x9, x10, x11, x12, x13, x14, x15, x16, x17, x18, x19, x20, x21, x22, x23, x24, ml24 s f, hI, hE, rfl⟩
      · omega
    | succ m ih =>
      intro k f x1 x2 x3 x4 x5 x6 x7 x8 x9 x10 x11 x12 x13 x14 x15 x16 x17 x18 x19 x20 x21 x22 x23 x24 hk hf hI
      obtain ⟨f, rfl⟩ : ∃ f', f = f' + 1 := ⟨f - 1, by omega⟩
      rcases hs (ml24 s f) k x1 x2 x3 x4 x5 x6 x7 x8 x9 x10 x11 x12 x13 x14 x15 x16 x17 x18 x19 x20 x21 x22 x23 x24 hI with hE | ⟨hk', y1, y2, y3, y4, y5, y6, y7, y8, y9, y10, y11, y12, y13, y14, y15, y16, y17, y18, y19, y20, y21, y22, y23, y24, hI', e⟩
      · exact ⟨k, x1, x2, x3, x4, x5, x6, x7, x8, x9, x10, x11, x12, x13, x14, x15, x16, x17, x18, x19, x20, x21, x22, x23, x24, ml24 s f, hI, hE, rfl⟩
      · obtain ⟨k2, z1, z2, z3, z4, z5, z6, z7, z8, z9, z10, z11, z12, z13, z14, z15, z16, z17, z18, z19, z20, z21, z22, z23, z24, rc2, hI2, hE2, e2⟩ := ih (k + 1) f y1 y2 y3 y4 y5 y6 y7 y8 y9 y10 y11 y12 y13 y14 y15 y16 y17 y18 y19 y20 y21 y22 y23 y24 (by omega) (by omega) hI'
        refine ⟨k2, z1, z2, z3, z4, z5, z6, z7, z8, z9, z10, z11, z12, z13, z14, z15, z16, z17, z18, z19, z20, z21, z22, z23, z24, rc2, hI2, hE2, ?_⟩
        show s (ml24 s f) x1 x2 x3 x4 x5 x6 x7 x8 x9 x10 x11 x12 x13 x14 x15 x16 x17 x18 x19 x20 x21 x22 x23 x24 = _
        rw [e, e2]
  exact key n 0 zN a1 a2 a3 a4 a5 a6 a7 a8 a9 a10 a11 a12 a13 a14 a15 a16 a17 a18 a19 a20 a21 a22 a23 a24 (by omega) (by show n < 100000; omega) h0
theorem le25 {A1 A2 A3 A4 A5 A6 A7 A8 A9 A10 A11 A12 A13 A14 A15 A16 A17 A18 A19 A20 A21 A22 A23 A24 A25 R : Type} {s : (A1 → A2 → A3 → A4 → A5 → A6 → A7 → A8 → A9 → A10 → A11 → A12 → A13 → A14 → A15 → A16 → A17 → A18 → A19 → A20 → A21 → A22 → A23 → A24 → A25 → Option R) → A1 → A2 → A3 → A4 → A5 → A6 → A7 → A8 → A9 → A10 → A11 → A12 → A13 → A14 → A15 → A16 → A17 → A18 → A19 → A20 → A21 → A22 → A23 → A24 → A25 → Option R} {a1 : A1} {a2 : A2} {a3 : A3} {a4 : A4} {a5 : A5} {a6 : A6} {a7 : A7} {a8 : A8} {a9 : A9} {a10 : A10} {a11 : A11} {a12 : A12} {a13 : A13} {a14 : A14} {a15 : A15} {a16 : A16} {a17 : A17} {a18 : A18} {a19 : A19} {a20 : A20} {a21 : A21} {a22 : A22} {a23 : A23} {a24 : A24} {a25 : A25} (I E : Nat → A1 → A2 → A3 → A4 → A5 → A6 → A7 → A8 → A9 → A10 → A11 → A12 → A13 → A14 → A15 → A16 → A17 → A18 → A19 → A20 → A21 → A22 → A23 → A24 → A25 → Prop) (n : Nat) (hn : n < 99999) (h0 : I 0 a1 a2 a3 a4 a5 a6 a7 a8 a9 a10 a11 a12 a13 a14 a15 a16 a17 a18 a19 a20 a21 a22 a23 a24 a25) (hs : ∀ rc k x1 x2 x3 x4 x5 x6 x7 x8 x9 x10 x11 x12 x13 x14 x15 x16 x17 x18 x19 x20 x21 x22 x23 x24 x25, I k x1 x2 x3 x4 x5 x6 x7 x8 x9 x10 x11 x12 x13 x14 x15 x16 x17 x18 x19 x20 x21 x22 x23 x24 x25 → E k x1 x2 x3 x4 x5 x6 x7 x8 x9 x10 x11 x12 x13 x14 x15 x16 x17 x18 x19 x20 x21 x22 x23 x24 x25 ∨ (k < n ∧ ∃ y1 y2 y3 y4 y5 y6 y7 y8 y9 y10 y11 y12 y13 y14 y15 y16 y17 y18 y19 y20 y21 y22 y23 y24 y25, I (k + 1) y1 y2 y3 y4 y5 y6 y7 y8 y9 y10 y11 y12 y13 y14 y15 y16 y17 y18 y19 y20 y21 y22 y23 y24 y25 ∧ s rc x1 x2 x3 x4 x5 x6 x7 x8 x9 x10 x11 x12 x13 x14 x15 x16 x17 x18 x19 x20 x21 x22 x23 x24 x25 = rc y1 y2 y3 y4 y5 y6 y7 y8 y9 y10 y11 y12 y13 y14 y15 y16 y17 y18 y19 y20 y21 y22 y23 y24 y25)) : ∃ k x1 x2 x3 x4 x5 x6 x7 x8 x9 x10 x11 x12 x13 x14 x15 x16 x17 x18 x19 x20 x21 x22 x23 x24 x25 rc, I k x1 x2 x3 x4 x5 x6 x7 x8 x9 x10 x11 x12 x13 x14 x15 x16 x17 x18 x19 x20 x21 x22 x23 x24 x25 ∧ E k x1 x2 x3 x4 x5 x6 x7 x8 x9 x10 x11 x12 x13 x14 x15 x16 x17 x18 x19 x20 x21 x22 x23 x24 x25 ∧ ml25 s zN a1 a2 a3 a4 a5 a6 a7 a8 a9 a10 a11 a12 a13 a14 a15 a16 a17 a18 a19 a20 a21 a22 a23 a24 a25 = s rc x1 x2 x3 x4 x5 x6 x7 x8 x9 x10 x11 x12 x13 x14 x15 x16 x17 x18 x19 x20 x21 x22 x23 x24 x25 := by
  have key : ∀ (m k f : Nat) x1 x2 x3 x4 x5 x6 x7 x8 x9 x10 x11 x12 x13 x14 x15 x16 x17 x18 x19 x20 x21 x22 x23 x24 x25, n ≤ k + m → m < f → I k x1 x2 x3 x4 x5 x6 x7 x8 x9 x10 x11 x12 x13 x14 x15 x16 x17 x18 x19 x20 x21 x22 x23 x24 x25 → ∃ k y1 y2 y3 y4 y5 y6 y7 y8 y9 y10 y11 y12 y13 y14 y15 y16 y17 y18 y19 y20 y21 y22 y23 y24 y25 rc, I k y1 y2 y3 y4 y5 y6 y7 y8 y9 y10 y11 y12 y13 y14 y15 y16 y17 y18 y19 y20 y21 y22 y23 y24 y25 ∧ E k y1 y2 y3 y4 y5 y6 y7 y8 y9 y10 y11 y12 y13 y14 y15 y16 y17 y18 y19 y20 y21 y22 y23 y24 y25 ∧ ml25 s f x1 x2 x3 x4 x5 x6 x7 x8 x9 x10 x11 x12 x13 x14 x15 x16 x17 x18 x19 x20 x21 x22 x23 x24 x25 = s rc y1 y2 y3 y4 y5 y6 y7 y8 y9 y10 y11 y12 y13 y14 y15 y16 y17 y18 y19 y20 y21 y22 y23 y24 y25 := by
    intro m
    induction m with
    | zero =>
      intro k f x1 x2 x3 x4 x5 x6 x7 x8 x9 x10 x11 x12 x13 x14 x15 x16 x17 x18 x19 x20 x21 x22 x23 x24 x25 hk hf hI
      obtain ⟨f, rfl⟩ : ∃ f', f = f' + 1 := ⟨f - 1, by omega⟩
      rcases hs (ml25 s f) k x1 x2 x3 x4 x5 x6 x7 x8 x9 x10 x11 x12 x13 x14 x15 x16 x17 x18 x19 x20 x21 x22 x23 x24 x25 hI with hE | ⟨hk', _⟩
      · exact ⟨k, x1, x2, x3, x4, x5, x6, x7, x8, x9, x10, x11, x12, x13, x14, x15, x16, x17, x18, x19, x20, x21, x22, x23, x24, x25, ml25 s f, hI, hE, rfl⟩
      · omega
    | succ m ih =>
      intro k f x1 x2 x3 x4 x5 x6 x7 x8 x9 x10 x11 x12 x13 x14 x15 x16 x17 x18 x19 x20 x21 x22 x23 x24 x25 hk hf hI
      obtain ⟨f, rfl⟩ : ∃ f', f = f' + 1 := ⟨f - 1, by omega⟩
      rcases hs (ml25 s f) k x1 x2 x3 x4 x5 x6 x7 x8 x9 x10 x11 x12 x13 x14 x15 x16 x17 x18 x19 x20 x21 x22 x23 x24 x25 hI with hE | ⟨hk', y1, y2, y3, y4, y5, y6, y7, y8, y9, y10, y11, y12, y13, y14, y15, y16, y17, y18, y19, y20, y21, y22, y23, y24, y25, hI', e⟩
      · exact ⟨k, x1, x2, x3, x4, x5, x6, x7, x8, x9, x10, x11, x12, x13, x14, x15, x16, x17, x18, x19, x20, x21, x22, x23, x24, x25, ml25 s f, hI, hE, rfl⟩
      · obtain ⟨k2, z1, z2, z3, z4, z5, z6, z7, z8, z9, z10, z11, z12, z13, z14, z15, z16, z17, z18, z19, z20, z21, z22, z23, z24, z25, rc2, hI2, hE2, e2⟩ := ih (k + 1) f y1 y2 y3 y4 y5 y6 y7 y8 y9 y10 y11 y12 y13 y14 y15 y16 y17 y18 y19 y20 y21 y22 y23 y24 y25 (by omega) (by omega) hI'
        refine ⟨k2, z1, z2, z3, z4, z5, z6, z7, z8, z9, z10, z11, z12, z13, z14, z15, z16, z17, z18, z19, z20, z21, z22, z23, z24, z25, rc2, hI2, hE2, ?_⟩
        show s (ml25 s f) x1 x2 x3 x4 x5 x6 x7 x8 x9 x10 x11 x12 x13 x14 x15 x16 x17 x18 x19 x20 x21 x22 x23 x24 x25 = _
        rw [e, e2]
  exact key n 0 zN a1 a2 a3 a4 a5 a6 a7 a8 a9 a10 a11 a12 a13 a14 a15 a16 a17 a18 a19 a20 a21 a22 a23 a24 a25 (by omega) (by show n < 100000; omega) h0
theorem le26 {A1 A2 A3 A4 A5 A6 A7 A8 A9 A10 A11 A12 A13 A14 A15 A16 A17 A18 A19 A20 A21 A22 A23 A24 A25 A26 R : Type} {s : (A1 → A2 → A3 → A4 → A5 → A6 → A7 → A8 → A9 → A10 → A11 → A12 → A13 → A14 → A15 → A16 → A17 → A18 → A19 → A20 → A21 → A22 → A23 → A24 → A25 → A26 → Option R) → A1 → A2 → A3 → A4 → A5 → A6 → A7 → A8 → A9 → A10 → A11 → A12 → A13 → A14 → A15 → A16 → A17 → A18 → A19 → A20 → A21 → A22 → A23 → A24 → A25 → A26 → Option R} {a1 : A1} {a2 : A2} {a3 : A3} {a4 : A4} {a5 : A5} {a6 : A6} {a7 : A7} {a8 : A8} {a9 : A9} {a10 : A10} {a11 : A11} {a12 : A12} {a13 : A13} {a14 : A14} {a15 : A15} {a16 : A16} {a17 : A17} {a18 : A18} {a19 : A19} {a20 : A20} {a21 : A21} {a22 : A22} {a23 : A23} {a24 : A24} {a25 : A25} {a26 : A26} (I E : Nat → A1 → A2 → A3 → A4 → A5 → A6 → A7 → A8 → A9 → A10 → A11 → A12 → A13 → A14 → A15 → A16 → A17 → A18 → A19 → A20 → A21 → A22 → A23 → A24 → A25 → A26 → Prop) (n : Nat) (hn : n < 99999) (h0 : I 0 a1 a2 a3 a4 a5 a6 a7 a8 a9 a10 a11 a12 a13 a14 a15 a16 a17 a18 a19 a20 a21 a22 a23 a24 a25 a26) (hs : ∀ rc k x1 x2 x3 x4 x5 x6 x7 x8 x9 x10 x11 x12 x13 x14 x15 x16 x17 x18 x19 x20 x21 x22 x23 x24 x25 x26, I k x1 x2 x3 x4 x5 x6 x7 x8 x9 x10 x11 x12 x13 x14 x15 x16 x17 x18 x19 x20 x21 x22 x23 x24 x25 x26 → E k x1 x2 x3 x4 x5 x6 x7 x8 x9 x10 x11 x12 x13 x14 x15 x16 x17 x18 x19 x20 x21 x22 x23 x24 x25 x26 ∨ (k < n ∧ ∃ y1 y2 y3 y4 y5 y6 y7 y8 y9 y10 y11 y12 y13 y14 y15 y16 y17 y18 y19 y20 y21 y22 y23 y24 y25 y26, I (k + 1) y1 y2 y3 y4 y5 y6 y7 y8 y9 y10 y11 y12 y13 y14 y15 y16 y17 y18 y19 y20 y21 y22 y23 y24 y25 y26 ∧ s rc x1 x2 x3 x4 x5 x6 x7 x8 x9 x10 x11 x12 x13 x14 x15 x16 x17 x18 x19 x20 x21 x22 x23 x24 x25 x26 = rc y1 y2 y3 y4 y5 y6 y7 y8 y9 y10 y11 y12 y13 y14 y15 y16 y17 y18 y19 y20 y21 y22 y23 y24 y25 y26)) : ∃ k x1 x2 x3 x4 x5 x6 x7 x8 x9 x10 x11 x12 x13 x14 x15 x16 x17 x18 x19 x20 x21 x22 x23 x24 x25 x26 rc, I k x1 x2 x3 x4 x5 x6 x7 x8 x9 x10 x11 x12 x13 x14 x15 x16 x17 x18 x19 x20 x21 x22 x23 x24 x25 x26 ∧ E k x1 x2 x3 x4 x5 x6 x7 x8 x9 x10 x11 x12 x13 x14 x15 x16 x17 x18 x19 x20 x21 x22 x23 x24 x25 x26 ∧ ml26 s zN a1 a2 a3 a4 a5 a6 a7 a8 a9 a10 a11 a12 a13 a14 a15 a16 a17 a18 a19 a20 a21 a22 a23 a24 a25 a26 = s rc x1 x2 x3 x4 x5 x6 x7 x8 x9 x10 x11 x12 x13 x14 x15 x16 x17 x18 x19 x20 x21 x22 x23 x24 x25 x26 := by
  have key : ∀ (m k f : Nat) x1 x2 x3 x4 x5 x6 x7 x8 x9 x10 x11 x12 x13 x14 x15 x16 x17 x18 x19 x20 x21 x22 x23 x24 x25 x26, n ≤ k + m → m < f → I k x1 x2 x3 x4 x5 x6 x7 x8 x9 x10 x11 x12 x13 x14 x15 x16 x17 x18 x19 x20 x21 x22 x23 x24 x25 x26 → ∃ k y1 y2 y3 y4 y5 y6 y7 y8 y9 y10 y11 y12 y13 y14 y15 y16 y17 y18 y19 y20 y21 y22 y23 y24 y25 y26 rc, I k y1 y2 y3 y4 y5 y6 y7 y8 y9 y10 y11 y12 y13 y14 y15 y16 y17 y18 y19 y20 y21 y22 y23 y24 y25 y26 ∧ E k y1 y2 y3 y4 y5 y6 y7 y8 y9 y10 y11 y12 y13 y14 y15 y16 y17 y18 y19 y20 y21 y22 y23 y24 y25 y26 ∧ ml26 s f x1 x2 x3 x4 x5 x6 x7 x8 x9 x10 x11 x12 x13 x14 x15 x16 x17 x18 x19 x20 x21 x22 x23 x24 x25 x26 = s rc y1 y2 y3 y4 y5 y6 y7 y8 y9 y10 y11 y12 y13 y14 y15 y16 y17 y18 y19 y20 y21 y22 y23 y24 y25 y26 := by
    intro m
    induction m with
    | zero =>
      intro k f x1 x2 x3 x4 x5 x6 x7 x8 x9 x10 x11 x12 x13 x14 x15 x16 x17 x18 x19 x20 x21 x22 x23 x24 x25 x26 hk hf hI
      obtain ⟨f, rfl⟩ : ∃ f', f = f' + 1 := ⟨f - 1, by omega⟩
      rcases hs (ml26 s f) k x1 x2 x3 x4 x5 x6 x7 x8 x9 x10 x11 x12 x13 x14 x15 x16 x17 x18 x19 x20 x21 x22 x23 x24 x25 x26 hI with hE | ⟨hk', _⟩
      · exact ⟨k, x1, x2, x3, x4, x5, x6, x7, x8, x9, x10, x11, x12, x13, x14, x15, x16, x17, x18, x19, x20, x21, x22, x23, x24, x25, x26, ml26 s f, hI, hE, rfl⟩
      · omega
    | succ m ih =>
      intro k f x1 x2 x3 x4 x5 x6 x7 x8 x9 x10 x11 x12 x13 x14 x15 x16 x17 x18 x19 x20 x21 x22 x23 x24 x25 x26 hk hf hI
      obtain ⟨f, rfl⟩ : ∃ f', f = f' + 1 := ⟨f - 1, by omega⟩
      rcases hs (ml26 s f) k x1 x2 x3 x4 x5 x6 x7 x8 x9 x10 x11 x12 x13 x14 x15 x16 x17 x18 x19 x20 x21 x22 x23 x24 x25 x26 hI with hE | ⟨hk', y1, y2, y3, y4, y5, y6, y7, y8, y9, y10, y11, y12, y13, y14, y15, y16, y17, y18, y19, y20, y21, y22, y23, y24, y25, y26, hI', e⟩
      · exact ⟨k, x1, x2, x3, x4, x5, x6, x7, x8, x9, x10, x11, x12, x13, x14, x15, x16, x17, x18, x19, x20, x21, x22, x23, x24, x25, x26, ml26 s f, hI, hE, rfl⟩
      · obtain ⟨k2, z1, z2, z3, z4, z5, z6, z7, z8, z9, z10, z11, z12, z13, z14, z15, z16, z17, z18, z19, z20, z21, z22, z23, z24, z25, z26, rc2, hI2, hE2, e2⟩ := ih (k + 1) f y1 y2 y3 y4 y5 y6 y7 y8 y9 y10 y11 y12 y13 y14 y15 y16 y17 y18 y19 y20 y21 y22 y23 y24 y25 y26 (by omega) (by omega) hI'
        refine ⟨k2, z1, z2, z3, z4, z5, z6, z7, z8, z9, z10, z11, z12, z13, z14, z15, z16, z17, z18, z19, z20, z21, z22, z23, z24, z25, z26, rc2, hI2, hE2, ?_⟩
        show s (ml26 s f) x1 x2 x3 x4 x5 x6 x7 x8 x9 x10 x11 x12 x13 x14 x15 x16 x17 x18 x19 x20 x21 x22 x23 x24 x25 x26 = _
        rw [e, e2]
  exact key n 0 zN a1 a2 a3 a4 a5 a6 a7 a8 a9 a10 a11 a12 a13 a14 a15 a16 a17 a18 a19 a20 a21 a22 a23 a24 a25 a26 (by omega) (by show n < 100000; omega) h0
/-! joins at a known answer -/
theorem bd1_e {A1 R : Type} {a1 : A1} {k : A1 → Option R} : bd1 (some a1) k = k a1 := rfl
theorem bd2_e {A1 A2 R : Type} {a1 : A1} {a2 : A2} {k : A1 → A2 → Option R} : bd2 (some (a1, a2)) k = k a1 a2 := rfl
theorem bd3_e {A1 A2 A3 R : Type} {a1 : A1} {a2 : A2} {a3 : A3} {k : A1 → A2 → A3 → Option R} : bd3 (some (a1, a2, a3)) k = k a1 a2 a3 := rfl
theorem bd4_e {A1 A2 A3 A4 R : Type} {a1 : A1} {a2 : A2} {a3 : A3} {a4 : A4} {k : A1 → A2 → A3 → A4 → Option R} : bd4 (some (a1, a2, a3, a4)) k = k a1 a2 a3 a4 := rfl
theorem bd5_e {A1 A2 A3 A4 A5 R : Type} {a1 : A1} {a2 : A2} {a3 : A3} {a4 : A4} {a5 : A5} {k : A1 → A2 → A3 → A4 → A5 → Option R} : bd5 (some (a1, a2, a3, a4, a5)) k = k a1 a2 a3 a4 a5 := rfl
theorem bd6_e {A1 A2 A3 A4 A5 A6 R : Type} {a1 : A1} {a2 : A2} {a3 : A3} {a4 : A4} {a5 : A5} {a6 : A6} {k : A1 → A2 → A3 → A4 → A5 → A6 → Option R} : bd6 (some (a1, a2, a3, a4, a5, a6)) k = k a1 a2 a3 a4 a5 a6 := rfl
theorem bd7_e {A1 A2 A3 A4 A5 A6 A7 R : Type} {a1 : A1} {a2 : A2} {a3 : A3} {a4 : A4} {a5 : A5} {a6 : A6} {a7 : A7} {k : A1 → A2 → A3 → A4 → A5 → A6 → A7 → Option R} : bd7 (some (a1, a2, a3, a4, a5, a6, a7)) k = k a1 a2 a3 a4 a5 a6 a7 := rfl
theorem bd8_e {A1 A2 A3 A4 A5 A6 A7 A8 R : Type} {a1 : A1} {a2 : A2} {a3 : A3} {a4 : A4} {a5 : A5} {a6 : A6} {a7 : A7} {a8 : A8} {k : A1 → A2 → A3 → A4 → A5 → A6 → A7 → A8 → Option R} : bd8 (some (a1, a2, a3, a4, a5, a6, a7, a8)) k = k a1 a2 a3 a4 a5 a6 a7 a8 := rfl
theorem bd9_e {A1 A2 A3 A4 A5 A6 A7 A8 A9 R : Type} {a1 : A1} {a2 : A2} {a3 : A3} {a4 : A4} {a5 : A5} {a6 : A6} {a7 : A7} {a8 : A8} {a9 : A9} {k : A1 → A2 → A3 → A4 → A5 → A6 → A7 → A8 → A9 → Option R} : bd9 (some (a1, a2, a3, a4, a5, a6, a7, a8, a9)) k = k a1 a2 a3 a4 a5 a6 a7 a8 a9 := rfl
theorem bd10_e {A1 A2 A3 A4 A5 A6 A7 A8 A9 A10 R : Type} {a1 : A1} {a2 : A2} {a3 : A3} {a4 : A4} {a5 : A5} {a6 : A6} {a7 : A7} {a8 : A8} {a9 : A9} {a10 : A10} {k : A1 → A2 → A3 → A4 → A5 → A6 → A7 → A8 → A9 → A10 → Option R} : bd10 (some (a1, a2, a3, a4, a5, a6, a7, a8, a9, a10)) k = k a1 a2 a3 a4 a5 a6 a7 a8 a9 a10 := rfl
theorem bd11_e {A1 A2 A3 A4 A5 A6 A7 A8 A9 A10 A11 R : Type} {a1 : A1} {a2 : A2} {a3 : A3} {a4 : A4} {a5 : A5} {a6 : A6} {a7 : A7} {a8 : A8} {a9 : A9} {a10 : A10} {a11 : A11} {k : A1 → A2 → A3 → A4 → A5 → A6 → A7 → A8 → A9 → A10 → A11 → Option R} : bd11 (some (a1, a2, a3, a4, a5, a6, a7, a8, a9, a10, a11)) k = k a1 a2 a3 a4 a5 a6 a7 a8 a9 a10 a11 := rfl
theorem bd12_e {A1 A2 A3 A4 A5 A6 A7 A8 A9 A10 A11 A12 R : Type} {a1 : A1} {a2 : A2} {a3 : A3} {a4 : A4} {a5 : A5} {a6 : A6} {a7 : A7} {a8 : A8} {a9 : A9} {a10 : A10} {a11 : A11} {a12 : A12} {k : A1 → A2 → A3 → A4 → A5 → A6 → A7 → A8 → A9 → A10 → A11 → A12 → Option R} : bd12 (some (a1, a2, a3, a4, a5, a6, a7, a8, a9, a10, a11, a12)) k = k a1 a2 a3 a4 a5 a6 a7 a8 a9 a10 a11 a12 := rfl
theorem bd13_e {A1 A2 A3 A4 A5 A6 A7 A8 A9 A10 A11 A12 A13 R : Type} {a1 : A1} {a2 : A2} {a3 : A3} {a4 : A4} {a5 : A5} {a6 : A6} {a7 : A7} {a8 : A8} {a9 : A9} {a10 : A10} {a11 : A11} {a12 : A12} {a13 : A13} {k : A1 → A2 → A3 → A4 → A5 → A6 → A7 → A8 → A9 → A10 → A11 → A12 → A13 → Option R} : bd13 (some (a1, a2, a3, a4, a5, a6, a7, a8, a9, a10, a11, a12, a13)) k = k a1 a2 a3 a4 a5 a6 a7 a8 a9 a10 a11 a12 a13 := rfl
theorem bd14_e {A1 A2 A3 A4 A5 A6 A7 A8 A9 A10 A11 A12 A13 A14 R : Type} {a1 : A1} {a2 : A2} {a3 : A3} {a4 : A4} {a5 : A5} {a6 : A6} {a7 : A7} {a8 : A8} {a9 : A9} {a10 : A10} {a11 : A11} {a12 : A12} {a13 : A13} {a14 : A14} {k : A1 → A2 → A3 → A4 → A5 → A6 → A7 → A8 → A9 → A10 → A11 → A12 → A13 → A14 → Option R} : bd14 (some (a1, a2, a3, a4, a5, a6, a7, a8, a9, a10, a11, a12, a13, a14)) k = k a1 a2 a3 a4 a5 a6 a7 a8 a9 a10 a11 a12 a13 a14 := rfl
theorem bd15_e {A1 A2 A3 A4 A5 A6 A7 A8 A9 A10 A11 A12 A13 A14 A15 R : Type} {a1 : A1} {a2 : A2} {a3 : A3} {a4 : A4} {a5 : A5} {a6 : A6} {a7 : A7} {a8 : A8} {a9 : A9} {a10 : A10} {a11 : A11} {a12 : A12} {a13 : A13} {a14 : A14} {a15 : A15} {k : A1 → A2 → A3 → A4 → A5 → A6 → A7 → A8 → A9 → A10 → A11 → A12 → A13 → A14 → A15 → Option R} : bd15 (some (a1, a2, a3, a4, a5, a6, a7, a8, a9, a10, a11, a12, a13, a14, a15)) k = k a1 a2 a3 a4 a5 a6 a7 a8 a9 a10 a11 a12 a13 a14 a15 := rfl
theorem bd16_e {A1 A2 A3 A4 A5 A6 A7 A8 A9 A10 A11 A12 A13 A14 A15 A16 R : Type} {a1 : A1} {a2 : A2} {a3 : A3} {a4 : A4} {a5 : A5} {a6 : A6} {a7 : A7} {a8 : A8} {a9 : A9} {a10 : A10} {a11 : A11} {a12 : A12} {a13 : A13} {a14 : A14} {a15 : A15} {a16 : A16} {k : A1 → A2 → A3 → A4 → A5 → A6 → A7 → A8 → A9 → A10 → A11 → A12 → A13 → A14 → A15 → A16 → Option R} : bd16 (some (a1, a2, a3, a4, a5, a6, a7, a8, a9, a10, a11, a12, a13, a14, a15, a16)) k = k a1 a2 a3 a4 a5 a6 a7 a8 a9 a10 a11 a12 a13 a14 a15 a16 := rfl
theorem bd17_e {A1 A2 A3 A4 A5 A6 A7 A8 A9 A10 A11 A12 A13 A14 A15 A16 A17 R : Type} {a1 : A1} {a2 : A2} {a3 : A3} {a4 : A4} {a5 : A5} {a6 : A6} {a7 : A7} {a8 : A8} {a9 : A9} {a10 : A10} {a11 : A11} {a12 : A12} {a13 : A13} {a14 : A14} {a15 : A15} {a16 : A16} {a17 : A17} {k : A1 → A2 → A3 → A4 → A5 → A6 → A7 → A8 → A9 → A10 → A11 → A12 → A13 → A14 → A15 → A16 → A17 → Option R} : bd17 (some (a1, a2, a3, a4, a5, a6, a7, a8, a9, a10, a11, a12, a13, a14, a15, a16, a17)) k = k a1 a2 a3 a4 a5 a6 a7 a8 a9 a10 a11 a12 a13 a14 a15 a16 a17 := rfl
theorem bd18_e {A1 A2 A3 A4 A5 A6 A7 A8 A9 A10 A11 A12 A13 A14 A15 A16 A17 A18 R : Type} {a1 : A1} {a2 : A2} {a3 : A3} {a4 : A4} {a5 : A5} {a6 : A6} {a7 : A7} {a8 : A8} {a9 : A9} {a10 : A10} {a11 : A11} {a12 : A12} {a13 : A13} {a14 : A14} {a15 : A15} {a16 : A16} {a17 : A17} {a18 : A18} {k : A1 → A2 → A3 → A4 → A5 → A6 → A7 → A8 → A9 → A10 → A11 → A12 → A13 → A14 → A15 → A16 → A17 → A18 → Option R} : bd18 (some (a1, a2, a3, a4, a5, a6, a7, a8, a9, a10, a11, a12, a13, a14, a15, a16, a17, a18)) k = k a1 a2 a3 a4 a5 a6 a7 a8 a9 a10 a11 a12 a13 a14 a15 a16 a17 a18 := rfl
theorem bd19_e {A1 A2 A3 A4 A5 A6 A7 A8 A9 A10 A11 A12 A13 A14 A15 A16 A17 A18 A19 R : Type} {a1 : A1} {a2 : A2} {a3 : A3} {a4 : A4} {a5 : A5} {a6 : A6} {a7 : A7} {a8 : A8} {a9 : A9} {a10 : A10} {a11 : A11} {a12 : A12} {a13 : A13} {a14 : A14} {a15 : A15} {a16 : A16} {a17 : A17} {a18 : A18} {a19 : A19} {k : A1 → A2 → A3 → A4 → A5 → A6 → A7 → A8 → A9 → A10 → A11 → A12 → A13 → A14 → A15 → A16 → A17 → A18 → A19 → Option R} : bd19 (some (a1, a2, a3, a4, a5, a6, a7, a8, a9, a10, a11, a12, a13, a14, a15, a16, a17, a18, a19)) k = k a1 a2 a3 a4 a5 a6 a7 a8 a9 a10 a11 a12 a13 a14 a15 a16 a17 a18 a19 := rfl
theorem bd20_e {A1 A2 A3 A4 A5 A6 A7 A8 A9 A10 A11 A12 A13 A14 A15 A16 A17 A18 A19 A20 R : Type} {a1 : A1} {a2 : A2} {a3 : A3} {a4 : A4} {a5 : A5} {a6 : A6} {a7 : A7} {a8 : A8} {a9 : A9} {a10 : A10} {a11 : A11} {a12 : A12} {a13 : A13} {a14 : A14} {a15 : A15} {a16 : A16} {a17 : A17} {a18 : A18} {a19 : A19} {a20 : A20} {k : A1 → A2 → A3 → A4 → A5 → A6 → A7 → A8 → A9 → A10 → A11 → A12 → A13 → A14 → A15 → A16 → A17 → A18 → A19 → A20 → Option R} : bd20 (some (a1, a2, a3, a4, a5, a6, a7, a8, a9, a10, a11, a12, a13, a14, a15, a16, a17, a18, a19, a20)) k = k a1 a2 a3 a4 a5 a6 a7 a8 a9 a10 a11 a12 a13 a14 a15 a16 a17 a18 a19 a20 := rfl
theorem bd21_e {A1 A2 A3 A4 A5 A6 A7 A8 A9 A10 A11 A12 A13 A14 A15 A16 A17 A18 A19 A20 A21 R : Type} {a1 : A1} {a2 : A2} {a3 : A3} {a4 : A4} {a5 : A5} {a6 : A6} {a7 : A7} {a8 : A8} {a9 : A9} {a10 : A10} {a11 : A11} {a12 : A12} {a13 : A13} {a14 : A14} {a15 : A15} {a16 : A16} {a17 : A17} {a18 : A18} {a19 : A19} {a20 : A20} {a21 : A21} {k : A1 → A2 → A3 → A4 → A5 → A6 → A7 → A8 → A9 → A10 → A11 → A12 → A13 → A14 → A15 → A16 → A17 → A18 → A19 → A20 → A21 → Option R} : bd21 (some (a1, a2, a3, a4, a5, a6, a7, a8, a9, a10, a11, a12, a13, a14, a15, a16, a17, a18, a19, a20, a21)) k = k a1 a2 a3 a4 a5 a6 a7 a8 a9 a10 a11 a12 a13 a14 a15 a16 a17 a18 a19 a20 a21 := rfl
theorem bd22_e {A1 A2 A3 A4 A5 A6 A7 A8 A9 A10 A11 A12 A13 A14 A15 A16 A17 A18 A19 A20 A21 A22 R : Type} {a1 : A1} {a2 : A2} {a3 : A3} {a4 : A4} {a5 : A5} {a6 : A6} {a7 : A7} {a8 : A8} {a9 : A9} {a10 : A10} {a11 : A11} {a12 : A12} {a13 : A13} {a14 : A14} {a15 : A15} {a16 : A16} {a17 : A17} {a18 : A18} {a19 : A19} {a20 : A20} {a21 : A21} {a22 : A22} {k : A1 → A2 → A3 → A4 → A5 → A6 → A7 → A8 → A9 → A10 → A11 → A12 → A13 → A14 → A15 → A16 → A17 → A18 → A19 → A20 → A21 → A22 → Option R} : bd22 (some (a1, a2, a3, a4, a5, a6, a7, a8, a9, a10, a11, a12, a13, a14, a15, a16, a17, a18, a19, a20, a21, a22)) k = k a1 a2 a3 a4 a5 a6 a7 a8 a9 a10 a11 a12 a13 a14 a15 a16 a17 a18 a19 a20 a21 a22 := rfl
theorem bd23_e {A1 A2 A3 A4 A5 A6 A7 A8 A9 A10 A11 A12 A13 A14 A15 A16 A17 A18 A19 A20 A21 A22 A23 R : Type} {a1 : A1} {a2 : A2} {a3 : A3} {a4 : A4} {a5 : A5} {a6 : A6} {a7 : A7} {a8 : A8} {a9 : A9} {a10 : A10} {a11 : A11} {a12 : A12} {a13 : A13} {a14 : A14} {a15 : A15} {a16 : A16} {a17 : A17} {a18 : A18} {a19 : A19} {a20 : A20} {a21 : A21} {a22 : A22} {a23 : A23} {k : A1 → A2 → A3 → A4 → A5 → A6 → A7 → A8 → A9 → A10 → A11 → A12 → A13 → A14 → A15 → A16 → A17 → A18 → A19 → A20 → A21 → A22 → A23 → Option R} : bd23 (some (a1, a2, a3, a4, a5, a6, a7, a8, a9, a10, a11, a12, a13, a14, a15, a16, a17, a18, a19, a20, a21, a22, a23)) k = k a1 a2 a3 a4 a5 a6 a7 a8 a9 a10 a11 a12 a13 a14 a15 a16 a17 a18 a19 a20 a21 a22 a23 := rfl
theorem bd24_e {A1 A2 A3 A4 A5 A6 A7 A8 A9 A10 A11 A12 A13 A14 A15 A16 A17 A18 A19 A20 A21 A22 A23 A24 R : Type} {a1 : A1} {a2 : A2} {a3 : A3} {a4 : A4} {a5 : A5} {a6 : A6} {a7 : A7} {a8 : A8} {a9 : A9} {a10 : A10} {a11 : A11} {a12 : A12} {a13 : A13} {a14 : A14} {a15 : A15} {a16 : A16} {a17 : A17} {a18 : A18} {a19 : A19} {a20 : A20} {a21 : A21} {a22 : A22} {a23 : A23} {a24 : A24} {k : A1 → A2 → A3 → A4 → A5 → A6 → A7 → A8 → A9 → A10 → A11 → A12 → A13 → A14 → A15 → A16 → A17 → A18 → A19 → A20 → A21 → A22 → A23 → A24 → Option R} : bd24 (some (a1, a2, a3, a4, a5, a6, a7, a8, a9, a10, a11, a12, a13, a14, a15, a16, a17, a18, a19, a20, a21, a22, a23, a24)) k = k a1 a2 a3 a4 a5 a6 a7 a8 a9 a10 a11 a12 a13 a14 a15 a16 a17 a18 a19 a20 a21 a22 a23 a24 := rfl
theorem bd25_e {A1 A2 A3 A4 A5 A6 A7 A8 A9 A10 A11 A12 A13 A14 A15 A16 A17 A18 A19 A20 A21 A22 A23 A24 A25 R : Type} {a1 : A1} {a2 : A2} {a3 : A3} {a4 : A4} {a5 : A5} {a6 : A6} {a7 : A7} {a8 : A8} {a9 : A9} {a10 : A10} {a11 : A11} {a12 : A12} {a13 : A13} {a14 : A14} {a15 : A15} {a16 : A16} {a17 : A17} {a18 : A18} {a19 : A19} {a20 : A20} {a21 : A21} {a22 : A22} {a23 : A23} {a24 : A24} {a25 : A25} {k : A1 → A2 → A3 → A4 → A5 → A6 → A7 → A8 → A9 → A10 → A11 → A12 → A13 → A14 → A15 → A16 → A17 → A18 → A19 → A20 → A21 → A22 → A23 → A24 → A25 → Option R} : bd25 (some (a1, a2, a3, a4, a5, a6, a7, a8, a9, a10, a11, a12, a13, a14, a15, a16, a17, a18, a19, a20, a21, a22, a23, a24, a25)) k = k a1 a2 a3 a4 a5 a6 a7 a8 a9 a10 a11 a12 a13 a14 a15 a16 a17 a18 a19 a20 a21 a22 a23 a24 a25 := rfl
theorem bd26_e {A1 A2 A3 A4 A5 A6 A7 A8 A9 A10 A11 A12 A13 A14 A15 A16 A17 A18 A19 A20 A21 A22 A23 A24 A25 A26 R : Type} {a1 : A1} {a2 : A2} {a3 : A3} {a4 : A4} {a5 : A5} {a6 : A6} {a7 : A7} {a8 : A8} {a9 : A9} {a10 : A10} {a11 : A11} {a12 : A12} {a13 : A13} {a14 : A14} {a15 : A15} {a16 : A16} {a17 : A17} {a18 : A18} {a19 : A19} {a20 : A20} {a21 : A21} {a22 : A22} {a23 : A23} {a24 : A24} {a25 : A25} {a26 : A26} {k : A1 → A2 → A3 → A4 → A5 → A6 → A7 → A8 → A9 → A10 → A11 → A12 → A13 → A14 → A15 → A16 → A17 → A18 → A19 → A20 → A21 → A22 → A23 → A24 → A25 → A26 → Option R} : bd26 (some (a1, a2, a3, a4, a5, a6, a7, a8, a9, a10, a11, a12, a13, a14, a15, a16, a17, a18, a19, a20, a21, a22, a23, a24, a25, a26)) k = k a1 a2 a3 a4 a5 a6 a7 a8 a9 a10 a11 a12 a13 a14 a15 a16 a17 a18 a19 a20 a21 a22 a23 a24 a25 a26 := rfl
theorem lt1_e {A R : Type} {a : A} {k : A → Option R} : lt1 a k = k a := rfl
