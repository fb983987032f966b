/-! TWO LOOPS side by side -/
theorem rs3_5 {A1 A2 A3 B1 B2 B3 B4 B5 R S : Type} {s : (A1 → A2 → A3 → Option R) → A1 → A2 → A3 → Option R} {s' : (B1 → B2 → B3 → B4 → B5 → Option S) → B1 → B2 → B3 → B4 → B5 → Option S} {a1 : A1} {a2 : A2} {a3 : A3} {b1 : B1} {b2 : B2} {b3 : B3} {b4 : B4} {b5 : B5} {Q : R → S → Prop} (n : Nat) (I : Nat → A1 → A2 → A3 → B1 → B2 → B3 → B4 → B5 → Prop) (hn : n < 99990) (h0 : I 0 a1 a2 a3 b1 b2 b3 b4 b5) (hs : ∀ rc rc' k x1 x2 x3 y1 y2 y3 y4 y5, I k x1 x2 x3 y1 y2 y3 y4 y5 → (∀ v1 v2 v3 v4 v5, ∃ rc2, rc' v1 v2 v3 v4 v5 = s' rc2 v1 v2 v3 v4 v5) → (k < n → ∀ u1 u2 u3 v1 v2 v3 v4 v5, I (k + 1) u1 u2 u3 v1 v2 v3 v4 v5 → Rt (rc u1 u2 u3) (fun p => Rt (rc' v1 v2 v3 v4 v5) (fun q => Q p q))) → Rt (s rc x1 x2 x3) (fun p => Rt (s' rc' y1 y2 y3 y4 y5) (fun q => Q p q))) : Rt (ml3 s zN a1 a2 a3) (fun p => Rt (ml5 s' zN b1 b2 b3 b4 b5) (fun q => Q p q)) := by
  have key : ∀ (m k f g : Nat) x1 x2 x3 y1 y2 y3 y4 y5, n ≤ k + m → m < f → m + 1 < g → I k x1 x2 x3 y1 y2 y3 y4 y5 → Rt (ml3 s f x1 x2 x3) (fun p => Rt (ml5 s' g y1 y2 y3 y4 y5) (fun q => Q p q)) := by
    intro m
    induction m with
    | zero =>
      intro k f g x1 x2 x3 y1 y2 y3 y4 y5 hk hf hg hI
      obtain ⟨f, rfl⟩ : ∃ f', f = f' + 1 := ⟨f - 1, by omega⟩
      obtain ⟨g, rfl⟩ : ∃ f', g = f' + 2 := ⟨g - 2, by omega⟩
      exact hs (ml3 s f) (ml5 s' (g + 1)) k x1 x2 x3 y1 y2 y3 y4 y5 hI (fun _ _ _ _ _ => ⟨ml5 s' g, rfl⟩) (fun hk' => absurd hk' (by omega))
    | succ m ih =>
      intro k f g x1 x2 x3 y1 y2 y3 y4 y5 hk hf hg hI
      obtain ⟨f, rfl⟩ : ∃ f', f = f' + 1 := ⟨f - 1, by omega⟩
      obtain ⟨g, rfl⟩ : ∃ f', g = f' + 2 := ⟨g - 2, by omega⟩
      exact hs (ml3 s f) (ml5 s' (g + 1)) k x1 x2 x3 y1 y2 y3 y4 y5 hI (fun _ _ _ _ _ => ⟨ml5 s' g, rfl⟩) (fun _ u1 u2 u3 v1 v2 v3 v4 v5 hI' => ih (k + 1) f (g + 1) u1 u2 u3 v1 v2 v3 v4 v5 (by omega) (by omega) (by omega) hI')
  exact key n 0 zN zN a1 a2 a3 b1 b2 b3 b4 b5 (by omega) (by show n < 100000; omega) (by show n + 1 < 100000; omega) h0
theorem rs7_5 {A1 A2 A3 A4 A5 A6 A7 B1 B2 B3 B4 B5 R S : Type} {s : (A1 → A2 → A3 → A4 → A5 → A6 → A7 → Option R) → A1 → A2 → A3 → A4 → A5 → A6 → A7 → Option R} {s' : (B1 → B2 → B3 → B4 → B5 → Option S) → B1 → B2 → B3 → B4 → B5 → Option S} {a1 : A1} {a2 : A2} {a3 : A3} {a4 : A4} {a5 : A5} {a6 : A6} {a7 : A7} {b1 : B1} {b2 : B2} {b3 : B3} {b4 : B4} {b5 : B5} {Q : R → S → Prop} (n : Nat) (I : Nat → A1 → A2 → A3 → A4 → A5 → A6 → A7 → B1 → B2 → B3 → B4 → B5 → Prop) (hn : n < 99990) (h0 : I 0 a1 a2 a3 a4 a5 a6 a7 b1 b2 b3 b4 b5) (hs : ∀ rc rc' k x1 x2 x3 x4 x5 x6 x7 y1 y2 y3 y4 y5, I k x1 x2 x3 x4 x5 x6 x7 y1 y2 y3 y4 y5 → (∀ v1 v2 v3 v4 v5, ∃ rc2, rc' v1 v2 v3 v4 v5 = s' rc2 v1 v2 v3 v4 v5) → (k < n → ∀ u1 u2 u3 u4 u5 u6 u7 v1 v2 v3 v4 v5, I (k + 1) u1 u2 u3 u4 u5 u6 u7 v1 v2 v3 v4 v5 → Rt (rc u1 u2 u3 u4 u5 u6 u7) (fun p => Rt (rc' v1 v2 v3 v4 v5) (fun q => Q p q))) → Rt (s rc x1 x2 x3 x4 x5 x6 x7) (fun p => Rt (s' rc' y1 y2 y3 y4 y5) (fun q => Q p q))) : Rt (ml7 s zN a1 a2 a3 a4 a5 a6 a7) (fun p => Rt (ml5 s' zN b1 b2 b3 b4 b5) (fun q => Q p q)) := by
  have key : ∀ (m k f g : Nat) x1 x2 x3 x4 x5 x6 x7 y1 y2 y3 y4 y5, n ≤ k + m → m < f → m + 1 < g → I k x1 x2 x3 x4 x5 x6 x7 y1 y2 y3 y4 y5 → Rt (ml7 s f x1 x2 x3 x4 x5 x6 x7) (fun p => Rt (ml5 s' g y1 y2 y3 y4 y5) (fun q => Q p q)) := by
    intro m
    induction m with
    | zero =>
      intro k f g x1 x2 x3 x4 x5 x6 x7 y1 y2 y3 y4 y5 hk hf hg hI
      obtain ⟨f, rfl⟩ : ∃ f', f = f' + 1 := ⟨f - 1, by omega⟩
      obtain ⟨g, rfl⟩ : ∃ f', g = f' + 2 := ⟨g - 2, by omega⟩
      exact hs (ml7 s f) (ml5 s' (g + 1)) k x1 x2 x3 x4 x5 x6 x7 y1 y2 y3 y4 y5 hI (fun _ _ _ _ _ => ⟨ml5 s' g, rfl⟩) (fun hk' => absurd hk' (by omega))
    | succ m ih =>
      intro k f g x1 x2 x3 x4 x5 x6 x7 y1 y2 y3 y4 y5 hk hf hg hI
      obtain ⟨f, rfl⟩ : ∃ f', f = f' + 1 := ⟨f - 1, by omega⟩
      obtain ⟨g, rfl⟩ : ∃ f', g = f' + 2 := ⟨g - 2, by omega⟩
      exact hs (ml7 s f) (ml5 s' (g + 1)) k x1 x2 x3 x4 x5 x6 x7 y1 y2 y3 y4 y5 hI (fun _ _ _ _ _ => ⟨ml5 s' g, rfl⟩) (fun _ u1 u2 u3 u4 u5 u6 u7 v1 v2 v3 v4 v5 hI' => ih (k + 1) f (g + 1) u1 u2 u3 u4 u5 u6 u7 v1 v2 v3 v4 v5 (by omega) (by omega) (by omega) hI')
  exact key n 0 zN zN a1 a2 a3 a4 a5 a6 a7 b1 b2 b3 b4 b5 (by omega) (by show n < 100000; omega) (by show n + 1 < 100000; omega) h0
theorem rs1_1 {A1 B1 R S : Type} {s : (A1 → Option R) → A1 → Option R} {s' : (B1 → Option S) → B1 → Option S} {a1 : A1} {b1 : B1} {Q : R → S → Prop} (n : Nat) (I : Nat → A1 → B1 → Prop) (hn : n < 99990) (h0 : I 0 a1 b1) (hs : ∀ rc rc' k x1 y1, I k x1 y1 → (∀ v1, ∃ rc2, rc' v1 = s' rc2 v1) → (k < n → ∀ u1 v1, I (k + 1) u1 v1 → Rt (rc u1) (fun p => Rt (rc' v1) (fun q => Q p q))) → Rt (s rc x1) (fun p => Rt (s' rc' y1) (fun q => Q p q))) : Rt (ml1 s zN a1) (fun p => Rt (ml1 s' zN b1) (fun q => Q p q)) := by
  have key : ∀ (m k f g : Nat) x1 y1, n ≤ k + m → m < f → m + 1 < g → I k x1 y1 → Rt (ml1 s f x1) (fun p => Rt (ml1 s' g y1) (fun q => Q p q)) := by
    intro m
    induction m with
    | zero =>
      intro k f g x1 y1 hk hf hg hI
      obtain ⟨f, rfl⟩ : ∃ f', f = f' + 1 := ⟨f - 1, by omega⟩
      obtain ⟨g, rfl⟩ : ∃ f', g = f' + 2 := ⟨g - 2, by omega⟩
      exact hs (ml1 s f) (ml1 s' (g + 1)) k x1 y1 hI (fun _ => ⟨ml1 s' g, rfl⟩) (fun hk' => absurd hk' (by omega))
    | succ m ih =>
      intro k f g x1 y1 hk hf hg hI
      obtain ⟨f, rfl⟩ : ∃ f', f = f' + 1 := ⟨f - 1, by omega⟩
      obtain ⟨g, rfl⟩ : ∃ f', g = f' + 2 := ⟨g - 2, by omega⟩
      exact hs (ml1 s f) (ml1 s' (g + 1)) k x1 y1 hI (fun _ => ⟨ml1 s' g, rfl⟩) (fun _ u1 v1 hI' => ih (k + 1) f (g + 1) u1 v1 (by omega) (by omega) (by omega) hI')
  exact key n 0 zN zN a1 b1 (by omega) (by show n < 100000; omega) (by show n + 1 < 100000; omega) h0
