/-! WHAT IS RETURNED: Rt x Q says that x returns, with Q; a rule for each word -/
def Rt {R : Type} (x : Option R) (Q : R → Prop) : Prop := ∃ r, x = some r ∧ Q r
theorem rt_some {R : Type} {r : R} {Q : R → Prop} (h : Q r) : Rt (some r) Q := ⟨r, rfl, h⟩
theorem rt_e {R : Type} {x : Option R} {r : R} {Q : R → Prop} (e : x = some r) (h : Q r) : Rt x Q := ⟨r, e, h⟩
theorem rt_eq {R : Type} {x y : Option R} {Q : R → Prop} (e : x = y) (h : Rt y Q) : Rt x Q := e ▸ h
theorem rt_gd {R : Type} {b : Bool} {k : Option R} {Q : R → Prop} (hb : b = true) (h : Rt k Q) : Rt (gd b k) Q := by subst hb; exact h
theorem rt_gx {R : Type} {k : Option R} {Q : R → Prop} {i n : Nat} (hi : i < n) (hn : n ≤ 2 ^ 31) (h : Rt k Q) : Rt (gd (ix (nI i) n) k) Q := rt_gd (ix_k hi hn) h
theorem rt_lt {A R : Type} {a : A} {k : A → Option R} {Q : R → Prop} (h : Rt (k a) Q) : Rt (lt1 a k) Q := h
theorem rt_if {R : Type} {c : Prop} [Decidable c] {a b : Option R} {Q : R → Prop} (h1 : c → Rt a Q) (h2 : ¬ c → Rt b Q) : Rt (if c then a else b) Q := by
  by_cases h : c
  · rw [if_pos h]; exact h1 h
  · rw [if_neg h]; exact h2 h
theorem rt_t {R : Type} {c : Prop} [Decidable c] {a b : Option R} {Q : R → Prop} (h : c) (h1 : Rt a Q) : Rt (if c then a else b) Q := by rw [if_pos h]; exact h1
theorem rt_f {R : Type} {c : Prop} [Decidable c] {a b : Option R} {Q : R → Prop} (h : ¬ c) (h1 : Rt b Q) : Rt (if c then a else b) Q := by rw [if_neg h]; exact h1
theorem rt_mono {R : Type} {x : Option R} {P Q : R → Prop} (h : Rt x P) (hk : ∀ r, P r → Q r) : Rt x Q := by
  obtain ⟨r, e, hr⟩ := h; exact ⟨r, e, hk r hr⟩
theorem rt_and {R S : Type} {x : Option R} {y : Option S} {P : R → Prop} {Q : S → Prop} {T : R → S → Prop} (h1 : Rt x P) (h2 : Rt y Q) (h : ∀ r s, P r → Q s → T r s) : Rt x (fun r => Rt y (fun s => T r s)) := by
  obtain ⟨r, e, hr⟩ := h1
  obtain ⟨s, e2, hs⟩ := h2
  exact ⟨r, e, s, e2, h r s hr hs⟩
theorem rb1 {A1 R : Type} {x : Option (A1)} {k : A1 → Option R} {P : A1 → Prop} {Q : R → Prop} (h : Rt x P) (hk : ∀ a1, P a1 → Rt (k a1) Q) : Rt (bd1 x k) Q := by
  obtain ⟨a1, rfl, hr⟩ := h
  exact hk a1 hr
theorem re1 {A1 R : Type} {x : Option (A1)} {k : A1 → Option R} {Q : R → Prop} {a1 : A1} (h : x = some a1) (hk : Rt (k a1) Q) : Rt (bd1 x k) Q := by
  subst h
  exact hk
theorem rl1 {A1 R : Type} {s : (A1 → Option R) → A1 → Option R} {Q : R → Prop} {a1 : A1} (n : Nat) (I : Nat → A1 → Prop) (hn : n < 99999) (h0 : I 0 a1) (hs : ∀ rc k x1, I k x1 → (k < n → ∀ y1, I (k + 1) y1 → Rt (rc y1) Q) → Rt (s rc x1) Q) : Rt (ml1 s zN a1) Q := by
  have key : ∀ (m k f : Nat) x1, n ≤ k + m → m < f → I k x1 → Rt (ml1 s f x1) Q := by
    intro m
    induction m with
    | zero =>
      intro k f x1 hk hf hI
      obtain ⟨f, rfl⟩ : ∃ f', f = f' + 1 := ⟨f - 1, by omega⟩
      exact hs (ml1 s f) k x1 hI (fun hk' => absurd hk' (by omega))
    | succ m ih =>
      intro k f x1 hk hf hI
      obtain ⟨f, rfl⟩ : ∃ f', f = f' + 1 := ⟨f - 1, by omega⟩
      exact hs (ml1 s f) k x1 hI (fun _ y1 hI' => ih (k + 1) f y1 (by omega) (by omega) hI')
  exact key n 0 zN a1 (by omega) (by show n < 100000; omega) h0
theorem rb2 {A1 A2 R : Type} {x : Option (A1 × A2)} {k : A1 → A2 → Option R} {P : A1 × A2 → Prop} {Q : R → Prop} (h : Rt x P) (hk : ∀ a1 a2, P (a1, a2) → Rt (k a1 a2) Q) : Rt (bd2 x k) Q := by
  obtain ⟨⟨a1, a2⟩, rfl, hr⟩ := h
  exact hk a1 a2 hr
theorem re2 {A1 A2 R : Type} {x : Option (A1 × A2)} {k : A1 → A2 → Option R} {Q : R → Prop} {a1 : A1} {a2 : A2} (h : x = some (a1, a2)) (hk : Rt (k a1 a2) Q) : Rt (bd2 x k) Q := by
  subst h
  exact hk
theorem rl2 {A1 A2 R : Type} {s : (A1 → A2 → Option R) → A1 → A2 → Option R} {Q : R → Prop} {a1 : A1} {a2 : A2} (n : Nat) (I : Nat → A1 → A2 → Prop) (hn : n < 99999) (h0 : I 0 a1 a2) (hs : ∀ rc k x1 x2, I k x1 x2 → (k < n → ∀ y1 y2, I (k + 1) y1 y2 → Rt (rc y1 y2) Q) → Rt (s rc x1 x2) Q) : Rt (ml2 s zN a1 a2) Q := by
  have key : ∀ (m k f : Nat) x1 x2, n ≤ k + m → m < f → I k x1 x2 → Rt (ml2 s f x1 x2) Q := by
    intro m
    induction m with
    | zero =>
      intro k f x1 x2 hk hf hI
      obtain ⟨f, rfl⟩ : ∃ f', f = f' + 1 := ⟨f - 1, by omega⟩
      exact hs (ml2 s f) k x1 x2 hI (fun hk' => absurd hk' (by omega))
    | succ m ih =>
      intro k f x1 x2 hk hf hI
      obtain ⟨f, rfl⟩ : ∃ f', f = f' + 1 := ⟨f - 1, by omega⟩
      exact hs (ml2 s f) k x1 x2 hI (fun _ y1 y2 hI' => ih (k + 1) f y1 y2 (by omega) (by omega) hI')
  exact key n 0 zN a1 a2 (by omega) (by show n < 100000; omega) h0
theorem rb3 {A1 A2 A3 R : Type} {x : Option (A1 × A2 × A3)} {k : A1 → A2 → A3 → Option R} {P : A1 × A2 × A3 → Prop} {Q : R → Prop} (h : Rt x P) (hk : ∀ a1 a2 a3, P (a1, a2, a3) → Rt (k a1 a2 a3) Q) : Rt (bd3 x k) Q := by
  obtain ⟨⟨a1, a2, a3⟩, rfl, hr⟩ := h
  exact hk a1 a2 a3 hr
theorem re3 {A1 A2 A3 R : Type} {x : Option (A1 × A2 × A3)} {k : A1 → A2 → A3 → Option R} {Q : R → Prop} {a1 : A1} {a2 : A2} {a3 : A3} (h : x = some (a1, a2, a3)) (hk : Rt (k a1 a2 a3) Q) : Rt (bd3 x k) Q := by
  subst h
  exact hk
theorem rl3 {A1 A2 A3 R : Type} {s : (A1 → A2 → A3 → Option R) → A1 → A2 → A3 → Option R} {Q : R → Prop} {a1 : A1} {a2 : A2} {a3 : A3} (n : Nat) (I : Nat → A1 → A2 → A3 → Prop) (hn : n < 99999) (h0 : I 0 a1 a2 a3) (hs : ∀ rc k x1 x2 x3, I k x1 x2 x3 → (k < n → ∀ y1 y2 y3, I (k + 1) y1 y2 y3 → Rt (rc y1 y2 y3) Q) → Rt (s rc x1 x2 x3) Q) : Rt (ml3 s zN a1 a2 a3) Q := by
  have key : ∀ (m k f : Nat) x1 x2 x3, n ≤ k + m → m < f → I k x1 x2 x3 → Rt (ml3 s f x1 x2 x3) Q := by
    intro m
    induction m with
    | zero =>
      intro k f x1 x2 x3 hk hf hI
      obtain ⟨f, rfl⟩ : ∃ f', f = f' + 1 := ⟨f - 1, by omega⟩
      exact hs (ml3 s f) k x1 x2 x3 hI (fun hk' => absurd hk' (by omega))
    | succ m ih =>
      intro k f x1 x2 x3 hk hf hI
      obtain ⟨f, rfl⟩ : ∃ f', f = f' + 1 := ⟨f - 1, by omega⟩
      exact hs (ml3 s f) k x1 x2 x3 hI (fun _ y1 y2 y3 hI' => ih (k + 1) f y1 y2 y3 (by omega) (by omega) hI')
  exact key n 0 zN a1 a2 a3 (by omega) (by show n < 100000; omega) h0
theorem rb4 {A1 A2 A3 A4 R : Type} {x : Option (A1 × A2 × A3 × A4)} {k : A1 → A2 → A3 → A4 → Option R} {P : A1 × A2 × A3 × A4 → Prop} {Q : R → Prop} (h : Rt x P) (hk : ∀ a1 a2 a3 a4, P (a1, a2, a3, a4) → Rt (k a1 a2 a3 a4) Q) : Rt (bd4 x k) Q := by
  obtain ⟨⟨a1, a2, a3, a4⟩, rfl, hr⟩ := h
  exact hk a1 a2 a3 a4 hr
theorem re4 {A1 A2 A3 A4 R : Type} {x : Option (A1 × A2 × A3 × A4)} {k : A1 → A2 → A3 → A4 → Option R} {Q : R → Prop} {a1 : A1} {a2 : A2} {a3 : A3} {a4 : A4} (h : x = some (a1, a2, a3, a4)) (hk : Rt (k a1 a2 a3 a4) Q) : Rt (bd4 x k) Q := by
  subst h
  exact hk
theorem rl4 {A1 A2 A3 A4 R : Type} {s : (A1 → A2 → A3 → A4 → Option R) → A1 → A2 → A3 → A4 → Option R} {Q : R → Prop} {a1 : A1} {a2 : A2} {a3 : A3} {a4 : A4} (n : Nat) (I : Nat → A1 → A2 → A3 → A4 → Prop) (hn : n < 99999) (h0 : I 0 a1 a2 a3 a4) (hs : ∀ rc k x1 x2 x3 x4, I k x1 x2 x3 x4 → (k < n → ∀ y1 y2 y3 y4, I (k + 1) y1 y2 y3 y4 → Rt (rc y1 y2 y3 y4) Q) → Rt (s rc x1 x2 x3 x4) Q) : Rt (ml4 s zN a1 a2 a3 a4) Q := by
  have key : ∀ (m k f : Nat) x1 x2 x3 x4, n ≤ k + m → m < f → I k x1 x2 x3 x4 → Rt (ml4 s f x1 x2 x3 x4) Q := by
    intro m
    induction m with
    | zero =>
      intro k f x1 x2 x3 x4 hk hf hI
      obtain ⟨f, rfl⟩ : ∃ f', f = f' + 1 := ⟨f - 1, by omega⟩
      exact hs (ml4 s f) k x1 x2 x3 x4 hI (fun hk' => absurd hk' (by omega))
    | succ m ih =>
      intro k f x1 x2 x3 x4 hk hf hI
      obtain ⟨f, rfl⟩ : ∃ f', f = f' + 1 := ⟨f - 1, by omega⟩
      exact hs (ml4 s f) k x1 x2 x3 x4 hI (fun _ y1 y2 y3 y4 hI' => ih (k + 1) f y1 y2 y3 y4 (by omega) (by omega) hI')
  exact key n 0 zN a1 a2 a3 a4 (by omega) (by show n < 100000; omega) h0
theorem rb5 {A1 A2 A3 A4 A5 R : Type} {x : Option (A1 × A2 × A3 × A4 × A5)} {k : A1 → A2 → A3 → A4 → A5 → Option R} {P : A1 × A2 × A3 × A4 × A5 → Prop} {Q : R → Prop} (h : Rt x P) (hk : ∀ a1 a2 a3 a4 a5, P (a1, a2, a3, a4, a5) → Rt (k a1 a2 a3 a4 a5) Q) : Rt (bd5 x k) Q := by
  obtain ⟨⟨a1, a2, a3, a4, a5⟩, rfl, hr⟩ := h
  exact hk a1 a2 a3 a4 a5 hr
theorem re5 {A1 A2 A3 A4 A5 R : Type} {x : Option (A1 × A2 × A3 × A4 × A5)} {k : A1 → A2 → A3 → A4 → A5 → Option R} {Q : R → Prop} {a1 : A1} {a2 : A2} {a3 : A3} {a4 : A4} {a5 : A5} (h : x = some (a1, a2, a3, a4, a5)) (hk : Rt (k a1 a2 a3 a4 a5) Q) : Rt (bd5 x k) Q := by
  subst h
  exact hk
theorem rl5 {A1 A2 A3 A4 A5 R : Type} {s : (A1 → A2 → A3 → A4 → A5 → Option R) → A1 → A2 → A3 → A4 → A5 → Option R} {Q : R → Prop} {a1 : A1} {a2 : A2} {a3 : A3} {a4 : A4} {a5 : A5} (n : Nat) (I : Nat → A1 → A2 → A3 → A4 → A5 → Prop) (hn : n < 99999) (h0 : I 0 a1 a2 a3 a4 a5) (hs : ∀ rc k x1 x2 x3 x4 x5, I k x1 x2 x3 x4 x5 → (k < n → ∀ y1 y2 y3 y4 y5, I (k + 1) y1 y2 y3 y4 y5 → Rt (rc y1 y2 y3 y4 y5) Q) → Rt (s rc x1 x2 x3 x4 x5) Q) : Rt (ml5 s zN a1 a2 a3 a4 a5) Q := by
  have key : ∀ (m k f : Nat) x1 x2 x3 x4 x5, n ≤ k + m → m < f → I k x1 x2 x3 x4 x5 → Rt (ml5 s f x1 x2 x3 x4 x5) Q := by
    intro m
    induction m with
    | zero =>
      intro k f x1 x2 x3 x4 x5 hk hf hI
      obtain ⟨f, rfl⟩ : ∃ f', f = f' + 1 := ⟨f - 1, by omega⟩
      exact hs (ml5 s f) k x1 x2 x3 x4 x5 hI (fun hk' => absurd hk' (by omega))
    | succ m ih =>
      intro k f x1 x2 x3 x4 x5 hk hf hI
      obtain ⟨f, rfl⟩ : ∃ f', f = f' + 1 := ⟨f - 1, by omega⟩
      exact hs (ml5 s f) k x1 x2 x3 x4 x5 hI (fun _ y1 y2 y3 y4 y5 hI' => ih (k + 1) f y1 y2 y3 y4 y5 (by omega) (by omega) hI')
  exact key n 0 zN a1 a2 a3 a4 a5 (by omega) (by show n < 100000; omega) h0
theorem rb6 {A1 A2 A3 A4 A5 A6 R : Type} {x : Option (A1 × A2 × A3 × A4 × A5 × A6)} {k : A1 → A2 → A3 → A4 → A5 → A6 → Option R} {P : A1 × A2 × A3 × A4 × A5 × A6 → Prop} {Q : R → Prop} (h : Rt x P) (hk : ∀ a1 a2 a3 a4 a5 a6, P (a1, a2, a3, a4, a5, a6) → Rt (k a1 a2 a3 a4 a5 a6) Q) : Rt (bd6 x k) Q := by
  obtain ⟨⟨a1, a2, a3, a4, a5, a6⟩, rfl, hr⟩ := h
  exact hk a1 a2 a3 a4 a5 a6 hr
theorem re6 {A1 A2 A3 A4 A5 A6 R : Type} {x : Option (A1 × A2 × A3 × A4 × A5 × A6)} {k : A1 → A2 → A3 → A4 → A5 → A6 → Option R} {Q : R → Prop} {a1 : A1} {a2 : A2} {a3 : A3} {a4 : A4} {a5 : A5} {a6 : A6} (h : x = some (a1, a2, a3, a4, a5, a6)) (hk : Rt (k a1 a2 a3 a4 a5 a6) Q) : Rt (bd6 x k) Q := by
  subst h
  exact hk
theorem rl6 {A1 A2 A3 A4 A5 A6 R : Type} {s : (A1 → A2 → A3 → A4 → A5 → A6 → Option R) → A1 → A2 → A3 → A4 → A5 → A6 → Option R} {Q : R → Prop} {a1 : A1} {a2 : A2} {a3 : A3} {a4 : A4} {a5 : A5} {a6 : A6} (n : Nat) (I : Nat → A1 → A2 → A3 → A4 → A5 → A6 → Prop) (hn : n < 99999) (h0 : I 0 a1 a2 a3 a4 a5 a6) (hs : ∀ rc k x1 x2 x3 x4 x5 x6, I k x1 x2 x3 x4 x5 x6 → (k < n → ∀ y1 y2 y3 y4 y5 y6, I (k + 1) y1 y2 y3 y4 y5 y6 → Rt (rc y1 y2 y3 y4 y5 y6) Q) → Rt (s rc x1 x2 x3 x4 x5 x6) Q) : Rt (ml6 s zN a1 a2 a3 a4 a5 a6) Q := by
  have key : ∀ (m k f : Nat) x1 x2 x3 x4 x5 x6, n ≤ k + m → m < f → I k x1 x2 x3 x4 x5 x6 → Rt (ml6 s f x1 x2 x3 x4 x5 x6) Q := by
    intro m
    induction m with
    | zero =>
      intro k f x1 x2 x3 x4 x5 x6 hk hf hI
      obtain ⟨f, rfl⟩ : ∃ f', f = f' + 1 := ⟨f - 1, by omega⟩
      exact hs (ml6 s f) k x1 x2 x3 x4 x5 x6 hI (fun hk' => absurd hk' (by omega))
    | succ m ih =>
      intro k f x1 x2 x3 x4 x5 x6 hk hf hI
      obtain ⟨f, rfl⟩ : ∃ f', f = f' + 1 := ⟨f - 1, by omega⟩
      exact hs (ml6 s f) k x1 x2 x3 x4 x5 x6 hI (fun _ y1 y2 y3 y4 y5 y6 hI' => ih (k + 1) f y1 y2 y3 y4 y5 y6 (by omega) (by omega) hI')
  exact key n 0 zN a1 a2 a3 a4 a5 a6 (by omega) (by show n < 100000; omega) h0
theorem rb7 {A1 A2 A3 A4 A5 A6 A7 R : Type} {x : Option (A1 × A2 × A3 × A4 × A5 × A6 × A7)} {k : A1 → A2 → A3 → A4 → A5 → A6 → A7 → Option R} {P : A1 × A2 × A3 × A4 × A5 × A6 × A7 → Prop} {Q : R → Prop} (h : Rt x P) (hk : ∀ a1 a2 a3 a4 a5 a6 a7, P (a1, a2, a3, a4, a5, a6, a7) → Rt (k a1 a2 a3 a4 a5 a6 a7) Q) : Rt (bd7 x k) Q := by
  obtain ⟨⟨a1, a2, a3, a4, a5, a6, a7⟩, rfl, hr⟩ := h
  exact hk a1 a2 a3 a4 a5 a6 a7 hr
theorem re7 {A1 A2 A3 A4 A5 A6 A7 R : Type} {x : Option (A1 × A2 × A3 × A4 × A5 × A6 × A7)} {k : A1 → A2 → A3 → A4 → A5 → A6 → A7 → Option R} {Q : R → Prop} {a1 : A1} {a2 : A2} {a3 : A3} {a4 : A4} {a5 : A5} {a6 : A6} {a7 : A7} (h : x = some (a1, a2, a3, a4, a5, a6, a7)) (hk : Rt (k a1 a2 a3 a4 a5 a6 a7) Q) : Rt (bd7 x k) Q := by
  subst h
  exact hk
theorem rl7 {A1 A2 A3 A4 A5 A6 A7 R : Type} {s : (A1 → A2 → A3 → A4 → A5 → A6 → A7 → Option R) → A1 → A2 → A3 → A4 → A5 → A6 → A7 → Option R} {Q : R → Prop} {a1 : A1} {a2 : A2} {a3 : A3} {a4 : A4} {a5 : A5} {a6 : A6} {a7 : A7} (n : Nat) (I : Nat → A1 → A2 → A3 → A4 → A5 → A6 → A7 → Prop) (hn : n < 99999) (h0 : I 0 a1 a2 a3 a4 a5 a6 a7) (hs : ∀ rc k x1 x2 x3 x4 x5 x6 x7, I k x1 x2 x3 x4 x5 x6 x7 → (k < n → ∀ y1 y2 y3 y4 y5 y6 y7, I (k + 1) y1 y2 y3 y4 y5 y6 y7 → Rt (rc y1 y2 y3 y4 y5 y6 y7) Q) → Rt (s rc x1 x2 x3 x4 x5 x6 x7) Q) : Rt (ml7 s zN a1 a2 a3 a4 a5 a6 a7) Q := by
  have key : ∀ (m k f : Nat) x1 x2 x3 x4 x5 x6 x7, n ≤ k + m → m < f → I k x1 x2 x3 x4 x5 x6 x7 → Rt (ml7 s f x1 x2 x3 x4 x5 x6 x7) Q := by
    intro m
    induction m with
    | zero =>
      intro k f x1 x2 x3 x4 x5 x6 x7 hk hf hI
      obtain ⟨f, rfl⟩ : ∃ f', f = f' + 1 := ⟨f - 1, by omega⟩
      exact hs (ml7 s f) k x1 x2 x3 x4 x5 x6 x7 hI (fun hk' => absurd hk' (by omega))
    | succ m ih =>
      intro k f x1 x2 x3 x4 x5 x6 x7 hk hf hI
      obtain ⟨f, rfl⟩ : ∃ f', f = f' + 1 := ⟨f - 1, by omega⟩
      exact hs (ml7 s f) k x1 x2 x3 x4 x5 x6 x7 hI (fun _ y1 y2 y3 y4 y5 y6 y7 hI' => ih (k + 1) f y1 y2 y3 y4 y5 y6 y7 (by omega) (by omega) hI')
  exact key n 0 zN a1 a2 a3 a4 a5 a6 a7 (by omega) (by show n < 100000; omega) h0
theorem rb8 {A1 A2 A3 A4 A5 A6 A7 A8 R : Type} {x : Option (A1 × A2 × A3 × A4 × A5 × A6 × A7 × A8)} {k : A1 → A2 → A3 → A4 → A5 → A6 → A7 → A8 → Option R} {P : A1 × A2 × A3 × A4 × A5 × A6 × A7 × A8 → Prop} {Q : R → Prop} (h : Rt x P) (hk : ∀ a1 a2 a3 a4 a5 a6 a7 a8, P (a1, a2, a3, a4, a5, a6, a7, a8) → Rt (k a1 a2 a3 a4 a5 a6 a7 a8) Q) : Rt (bd8 x k) Q := by
  obtain ⟨⟨a1, a2, a3, a4, a5, a6, a7, a8⟩, rfl, hr⟩ := h
  exact hk a1 a2 a3 a4 a5 a6 a7 a8 hr
theorem re8 {A1 A2 A3 A4 A5 A6 A7 A8 R : Type} {x : Option (A1 × A2 × A3 × A4 × A5 × A6 × A7 × A8)} {k : A1 → A2 → A3 → A4 → A5 → A6 → A7 → A8 → Option R} {Q : R → Prop} {a1 : A1} {a2 : A2} {a3 : A3} {a4 : A4} {a5 : A5} {a6 : A6} {a7 : A7} {a8 : A8} (h : x = some (a1, a2, a3, a4, a5, a6, a7, a8)) (hk : Rt (k a1 a2 a3 a4 a5 a6 a7 a8) Q) : Rt (bd8 x k) Q := by
  subst h
  exact hk
theorem rl8 {A1 A2 A3 A4 A5 A6 A7 A8 R : Type} {s : (A1 → A2 → A3 → A4 → A5 → A6 → A7 → A8 → Option R) → A1 → A2 → A3 → A4 → A5 → A6 → A7 → A8 → Option R} {Q : R → Prop} {a1 : A1} {a2 : A2} {a3 : A3} {a4 : A4} {a5 : A5} {a6 : A6} {a7 : A7} {a8 : A8} (n : Nat) (I : Nat → A1 → A2 → A3 → A4 → A5 → A6 → A7 → A8 → Prop) (hn : n < 99999) (h0 : I 0 a1 a2 a3 a4 a5 a6 a7 a8) (hs : ∀ rc k x1 x2 x3 x4 x5 x6 x7 x8, I k x1 x2 x3 x4 x5 x6 x7 x8 → (k < n → ∀ y1 y2 y3 y4 y5 y6 y7 y8, I (k + 1) y1 y2 y3 y4 y5 y6 y7 y8 → Rt (rc y1 y2 y3 y4 y5 y6 y7 y8) Q) → Rt (s rc x1 x2 x3 x4 x5 x6 x7 x8) Q) : Rt (ml8 s zN a1 a2 a3 a4 a5 a6 a7 a8) Q := by
  have key : ∀ (m k f : Nat) x1 x2 x3 x4 x5 x6 x7 x8, n ≤ k + m → m < f → I k x1 x2 x3 x4 x5 x6 x7 x8 → Rt (ml8 s f x1 x2 x3 x4 x5 x6 x7 x8) Q := by
    intro m
    induction m with
    | zero =>
      intro k f x1 x2 x3 x4 x5 x6 x7 x8 hk hf hI
      obtain ⟨f, rfl⟩ : ∃ f', f = f' + 1 := ⟨f - 1, by omega⟩
      exact hs (ml8 s f) k x1 x2 x3 x4 x5 x6 x7 x8 hI (fun hk' => absurd hk' (by omega))
    | succ m ih =>
      intro k f x1 x2 x3 x4 x5 x6 x7 x8 hk hf hI
      obtain ⟨f, rfl⟩ : ∃ f', f = f' + 1 := ⟨f - 1, by omega⟩
      exact hs (ml8 s f) k x1 x2 x3 x4 x5 x6 x7 x8 hI (fun _ y1 y2 y3 y4 y5 y6 y7 y8 hI' => ih (k + 1) f y1 y2 y3 y4 y5 y6 y7 y8 (by omega) (by omega) hI')
  exact key n 0 zN a1 a2 a3 a4 a5 a6 a7 a8 (by omega) (by show n < 100000; omega) h0
theorem rb9 {A1 A2 A3 A4 A5 A6 A7 A8 A9 R : Type} {x : Option (A1 × A2 × A3 × A4 × A5 × A6 × A7 × A8 × A9)} {k : A1 → A2 → A3 → A4 → A5 → A6 → A7 → A8 → A9 → Option R} {P : A1 × A2 × A3 × A4 × A5 × A6 × A7 × A8 × A9 → Prop} {Q : R → Prop} (h : Rt x P) (hk : ∀ a1 a2 a3 a4 a5 a6 a7 a8 a9, P (a1, a2, a3, a4, a5, a6, a7, a8, a9) → Rt (k a1 a2 a3 a4 a5 a6 a7 a8 a9) Q) : Rt (bd9 x k) Q := by
  obtain ⟨⟨a1, a2, a3, a4, a5, a6, a7, a8, a9⟩, rfl, hr⟩ := h
  exact hk a1 a2 a3 a4 a5 a6 a7 a8 a9 hr
theorem re9 {A1 A2 A3 A4 A5 A6 A7 A8 A9 R : Type} {x : Option (A1 × A2 × A3 × A4 × A5 × A6 × A7 × A8 × A9)} {k : A1 → A2 → A3 → A4 → A5 → A6 → A7 → A8 → A9 → Option R} {Q : R → Prop} {a1 : A1} {a2 : A2} {a3 : A3} {a4 : A4} {a5 : A5} {a6 : A6} {a7 : A7} {a8 : A8} {a9 : A9} (h : x = some (a1, a2, a3, a4, a5, a6, a7, a8, a9)) (hk : Rt (k a1 a2 a3 a4 a5 a6 a7 a8 a9) Q) : Rt (bd9 x k) Q := by
  subst h
  exact hk
theorem rl9 {A1 A2 A3 A4 A5 A6 A7 A8 A9 R : Type} {s : (A1 → A2 → A3 → A4 → A5 → A6 → A7 → A8 → A9 → Option R) → A1 → A2 → A3 → A4 → A5 → A6 → A7 → A8 → A9 → Option R} {Q : R → Prop} {a1 : A1} {a2 : A2} {a3 : A3} {a4 : A4} {a5 : A5} {a6 : A6} {a7 : A7} {a8 : A8} {a9 : A9} (n : Nat) (I : Nat → A1 → A2 → A3 → A4 → A5 → A6 → A7 → A8 → A9 → Prop) (hn : n < 99999) (h0 : I 0 a1 a2 a3 a4 a5 a6 a7 a8 a9) (hs : ∀ rc k x1 x2 x3 x4 x5 x6 x7 x8 x9, I k x1 x2 x3 x4 x5 x6 x7 x8 x9 → (k < n → ∀ y1 y2 y3 y4 y5 y6 y7 y8 y9, I (k + 1) y1 y2 y3 y4 y5 y6 y7 y8 y9 → Rt (rc y1 y2 y3 y4 y5 y6 y7 y8 y9) Q) → Rt (s rc x1 x2 x3 x4 x5 x6 x7 x8 x9) Q) : Rt (ml9 s zN a1 a2 a3 a4 a5 a6 a7 a8 a9) Q := by
  have key : ∀ (m k f : Nat) x1 x2 x3 x4 x5 x6 x7 x8 x9, n ≤ k + m → m < f → I k x1 x2 x3 x4 x5 x6 x7 x8 x9 → Rt (ml9 s f x1 x2 x3 x4 x5 x6 x7 x8 x9) Q := by
    intro m
    induction m with
    | zero =>
      intro k f x1 x2 x3 x4 x5 x6 x7 x8 x9 hk hf hI
      obtain ⟨f, rfl⟩ : ∃ f', f = f' + 1 := ⟨f - 1, by omega⟩
      exact hs (ml9 s f) k x1 x2 x3 x4 x5 x6 x7 x8 x9 hI (fun hk' => absurd hk' (by omega))
    | succ m ih =>
      intro k f x1 x2 x3 x4 x5 x6 x7 x8 x9 hk hf hI
      obtain ⟨f, rfl⟩ : ∃ f', f = f' + 1 := ⟨f - 1, by omega⟩
      exact hs (ml9 s f) k x1 x2 x3 x4 x5 x6 x7 x8 x9 hI (fun _ y1 y2 y3 y4 y5 y6 y7 y8 y9 hI' => ih (k + 1) f y1 y2 y3 y4 y5 y6 y7 y8 y9 (by omega) (by omega) hI')
  exact key n 0 zN a1 a2 a3 a4 a5 a6 a7 a8 a9 (by omega) (by show n < 100000; omega) h0
theorem rb10 {A1 A2 A3 A4 A5 A6 A7 A8 A9 A10 R : Type} {x : Option (A1 × A2 × A3 × A4 × A5 × A6 × A7 × A8 × A9 × A10)} {k : A1 → A2 → A3 → A4 → A5 → A6 → A7 → A8 → A9 → A10 → Option R} {P : A1 × A2 × A3 × A4 × A5 × A6 × A7 × A8 × A9 × A10 → Prop} {Q : R → Prop} (h : Rt x P) (hk : ∀ a1 a2 a3 a4 a5 a6 a7 a8 a9 a10, P (a1, a2, a3, a4, a5, a6, a7, a8, a9, a10) → Rt (k a1 a2 a3 a4 a5 a6 a7 a8 a9 a10) Q) : Rt (bd10 x k) Q := by
  obtain ⟨⟨a1, a2, a3, a4, a5, a6, a7, a8, a9, a10⟩, rfl, hr⟩ := h
  exact hk a1 a2 a3 a4 a5 a6 a7 a8 a9 a10 hr
theorem re10 {A1 A2 A3 A4 A5 A6 A7 A8 A9 A10 R : Type} {x : Option (A1 × A2 × A3 × A4 × A5 × A6 × A7 × A8 × A9 × A10)} {k : A1 → A2 → A3 → A4 → A5 → A6 → A7 → A8 → A9 → A10 → Option R} {Q : R → Prop} {a1 : A1} {a2 : A2} {a3 : A3} {a4 : A4} {a5 : A5} {a6 : A6} {a7 : A7} {a8 : A8} {a9 : A9} {a10 : A10} (h : x = some (a1, a2, a3, a4, a5, a6, a7, a8, a9, a10)) (hk : Rt (k a1 a2 a3 a4 a5 a6 a7 a8 a9 a10) Q) : Rt (bd10 x k) Q := by
  subst h
  exact hk
theorem rl10 {A1 A2 A3 A4 A5 A6 A7 A8 A9 A10 R : Type} {s : (A1 → A2 → A3 → A4 → A5 → A6 → A7 → A8 → A9 → A10 → Option R) → A1 → A2 → A3 → A4 → A5 → A6 → A7 → A8 → A9 → A10 → Option R} {Q : R → Prop} {a1 : A1} {a2 : A2} {a3 : A3} {a4 : A4} {a5 : A5} {a6 : A6} {a7 : A7} {a8 : A8} {a9 : A9} {a10 : A10} (n : Nat) (I : Nat → A1 → A2 → A3 → A4 → A5 → A6 → A7 → A8 → A9 → A10 → Prop) (hn : n < 99999) (h0 : I 0 a1 a2 a3 a4 a5 a6 a7 a8 a9 a10) (hs : ∀ rc k x1 x2 x3 x4 x5 x6 x7 x8 x9 x10, I k x1 x2 x3 x4 x5 x6 x7 x8 x9 x10 → (k < n → ∀ y1 y2 y3 y4 y5 y6 y7 y8 y9 y10, I (k + 1) y1 y2 y3 y4 y5 y6 y7 y8 y9 y10 → Rt (rc y1 y2 y3 y4 y5 y6 y7 y8 y9 y10) Q) → Rt (s rc x1 x2 x3 x4 x5 x6 x7 x8 x9 x10) Q) : Rt (ml10 s zN a1 a2 a3 a4 a5 a6 a7 a8 a9 a10) Q := by
  have key : ∀ (m k f : Nat) x1 x2 x3 x4 x5 x6 x7 x8 x9 x10, n ≤ k + m → m < f → I k x1 x2 x3 x4 x5 x6 x7 x8 x9 x10 → Rt (ml10 s f x1 x2 x3 x4 x5 x6 x7 x8 x9 x10) Q := by
    intro m
    induction m with
    | zero =>
      intro k f x1 x2 x3 x4 x5 x6 x7 x8 x9 x10 hk hf hI
      obtain ⟨f, rfl⟩ : ∃ f', f = f' + 1 := ⟨f - 1, by omega⟩
      exact hs (ml10 s f) k x1 x2 x3 x4 x5 x6 x7 x8 x9 x10 hI (fun hk' => absurd hk' (by omega))
    | succ m ih =>
      intro k f x1 x2 x3 x4 x5 x6 x7 x8 x9 x10 hk hf hI
      obtain ⟨f, rfl⟩ : ∃ f', f = f' + 1 := ⟨f - 1, by omega⟩
      exact hs (ml10 s f) k x1 x2 x3 x4 x5 x6 x7 x8 x9 x10 hI (fun _ y1 y2 y3 y4 y5 y6 y7 y8 y9 y10 hI' => ih (k + 1) f y1 y2 y3 y4 y5 y6 y7 y8 y9 y10 (by omega) (by omega) hI')
  exact key n 0 zN a1 a2 a3 a4 a5 a6 a7 a8 a9 a10 (by omega) (by show n < 100000; omega) h0
theorem rb11 {A1 A2 A3 A4 A5 A6 A7 A8 A9 A10 A11 R : Type} {x : Option (A1 × A2 × A3 × A4 × A5 × A6 × A7 × A8 × A9 × A10 × A11)} {k : A1 → A2 → A3 → A4 → A5 → A6 → A7 → A8 → A9 → A10 → A11 → Option R} {P : A1 × A2 × A3 × A4 × A5 × A6 × A7 × A8 × A9 × A10 × A11 → Prop} {Q : R → Prop} (h : Rt x P) (hk : ∀ a1 a2 a3 a4 a5 a6 a7 a8 a9 a10 a11, P (a1, a2, a3, a4, a5, a6, a7, a8, a9, a10, a11) → Rt (k a1 a2 a3 a4 a5 a6 a7 a8 a9 a10 a11) Q) : Rt (bd11 x k) Q := by
  obtain ⟨⟨a1, a2, a3, a4, a5, a6, a7, a8, a9, a10, a11⟩, rfl, hr⟩ := h
  exact hk a1 a2 a3 a4 a5 a6 a7 a8 a9 a10 a11 hr
theorem re11 {A1 A2 A3 A4 A5 A6 A7 A8 A9 A10 A11 R : Type} {x : Option (A1 × A2 × A3 × A4 × A5 × A6 × A7 × A8 × A9 × A10 × A11)} {k : A1 → A2 → A3 → A4 → A5 → A6 → A7 → A8 → A9 → A10 → A11 → Option R} {Q : R → Prop} {a1 : A1} {a2 : A2} {a3 : A3} {a4 : A4} {a5 : A5} {a6 : A6} {a7 : A7} {a8 : A8} {a9 : A9} {a10 : A10} {a11 : A11} (h : x = some (a1, a2, a3, a4, a5, a6, a7, a8, a9, a10, a11)) (hk : Rt (k a1 a2 a3 a4 a5 a6 a7 a8 a9 a10 a11) Q) : Rt (bd11 x k) Q := by
  subst h
  exact hk
theorem rl11 {A1 A2 A3 A4 A5 A6 A7 A8 A9 A10 A11 R : Type} {s : (A1 → A2 → A3 → A4 → A5 → A6 → A7 → A8 → A9 → A10 → A11 → Option R) → A1 → A2 → A3 → A4 → A5 → A6 → A7 → A8 → A9 → A10 → A11 → Option R} {Q : R → Prop} {a1 : A1} {a2 : A2} {a3 : A3} {a4 : A4} {a5 : A5} {a6 : A6} {a7 : A7} {a8 : A8} {a9 : A9} {a10 : A10} {a11 : A11} (n : Nat) (I : Nat → A1 → A2 → A3 → A4 → A5 → A6 → A7 → A8 → A9 → A10 → A11 → Prop) (hn : n < 99999) (h0 : I 0 a1 a2 a3 a4 a5 a6 a7 a8 a9 a10 a11) (hs : ∀ rc k x1 x2 x3 x4 x5 x6 x7 x8 x9 x10 x11, I k x1 x2 x3 x4 x5 x6 x7 x8 x9 x10 x11 → (k < n → ∀ y1 y2 y3 y4 y5 y6 y7 y8 y9 y10 y11, I (k + 1) y1 y2 y3 y4 y5 y6 y7 y8 y9 y10 y11 → Rt (rc y1 y2 y3 y4 y5 y6 y7 y8 y9 y10 y11) Q) → Rt (s rc x1 x2 x3 x4 x5 x6 x7 x8 x9 x10 x11) Q) : Rt (ml11 s zN a1 a2 a3 a4 a5 a6 a7 a8 a9 a10 a11) Q := by
  have key : ∀ (m k f : Nat) x1 x2 x3 x4 x5 x6 x7 x8 x9 x10 x11, n ≤ k + m → m < f → I k x1 x2 x3 x4 x5 x6 x7 x8 x9 x10 x11 → Rt (ml11 s f x1 x2 x3 x4 x5 x6 x7 x8 x9 x10 x11) Q := by
    intro m
    induction m with
    | zero =>
      intro k f x1 x2 x3 x4 x5 x6 x7 x8 x9 x10 x11 hk hf hI
      obtain ⟨f, rfl⟩ : ∃ f', f = f' + 1 := ⟨f - 1, by omega⟩
      exact hs (ml11 s f) k x1 x2 x3 x4 x5 x6 x7 x8 x9 x10 x11 hI (fun hk' => absurd hk' (by omega))
    | succ m ih =>
      intro k f x1 x2 x3 x4 x5 x6 x7 x8 x9 x10 x11 hk hf hI
      obtain ⟨f, rfl⟩ : ∃ f', f = f' + 1 := ⟨f - 1, by omega⟩
      exact hs (ml11 s f) k x1 x2 x3 x4 x5 x6 x7 x8 x9 x10 x11 hI (fun _ y1 y2 y3 y4 y5 y6 y7 y8 y9 y10 y11 hI' => ih (k + 1) f y1 y2 y3 y4 y5 y6 y7 y8 y9 y10 y11 (by omega) (by omega) hI')
  exact key n 0 zN a1 a2 a3 a4 a5 a6 a7 a8 a9 a10 a11 (by omega) (by show n < 100000; omega) h0
theorem rb12 {A1 A2 A3 A4 A5 A6 A7 A8 A9 A10 A11 A12 R : Type} {x : Option (A1 × A2 × A3 × A4 × A5 × A6 × A7 × A8 × A9 × A10 × A11 × A12)} {k : A1 → A2 → A3 → A4 → A5 → A6 → A7 → A8 → A9 → A10 → A11 → A12 → Option R} {P : A1 × A2 × A3 × A4 × A5 × A6 × A7 × A8 × A9 × A10 × A11 × A12 → Prop} {Q : R → Prop} (h : Rt x P) (hk : ∀ a1 a2 a3 a4 a5 a6 a7 a8 a9 a10 a11 a12, P (a1, a2, a3, a4, a5, a6, a7, a8, a9, a10, a11, a12) → Rt (k a1 a2 a3 a4 a5 a6 a7 a8 a9 a10 a11 a12) Q) : Rt (bd12 x k) Q := by
  obtain ⟨⟨a1, a2, a3, a4, a5, a6, a7, a8, a9, a10, a11, a12⟩, rfl, hr⟩ := h
  exact hk a1 a2 a3 a4 a5 a6 a7 a8 a9 a10 a11 a12 hr
theorem re12 {A1 A2 A3 A4 A5 A6 A7 A8 A9 A10 A11 A12 R : Type} {x : Option (A1 × A2 × A3 × A4 × A5 × A6 × A7 × A8 × A9 × A10 × A11 × A12)} {k : A1 → A2 → A3 → A4 → A5 → A6 → A7 → A8 → A9 → A10 → A11 → A12 → Option R} {Q : R → Prop} {a1 : A1} {a2 : A2} {a3 : A3} {a4 : A4} {a5 : A5} {a6 : A6} {a7 : A7} {a8 : A8} {a9 : A9} {a10 : A10} {a11 : A11} {a12 : A12} (h : x = some (a1, a2, a3, a4, a5, a6, a7, a8, a9, a10, a11, a12)) (hk : Rt (k a1 a2 a3 a4 a5 a6 a7 a8 a9 a10 a11 a12) Q) : Rt (bd12 x k) Q := by
  subst h
  exact hk
theorem rl12 {A1 A2 A3 A4 A5 A6 A7 A8 A9 A10 A11 A12 R : Type} {s : (A1 → A2 → A3 → A4 → A5 → A6 → A7 → A8 → A9 → A10 → A11 → A12 → Option R) → A1 → A2 → A3 → A4 → A5 → A6 → A7 → A8 → A9 → A10 → A11 → A12 → Option R} {Q : R → Prop} {a1 : A1} {a2 : A2} {a3 : A3} {a4 : A4} {a5 : A5} {a6 : A6} {a7 : A7} {a8 : A8} {a9 : A9} {a10 : A10} {a11 : A11} {a12 : A12} (n : Nat) (I : Nat → A1 → A2 → A3 → A4 → A5 → A6 → A7 → A8 → A9 → A10 → A11 → A12 → Prop) (hn : n < 99999) (h0 : I 0 a1 a2 a3 a4 a5 a6 a7 a8 a9 a10 a11 a12) (hs : ∀ rc k x1 x2 x3 x4 x5 x6 x7 x8 x9 x10 x11 x12, I k x1 x2 x3 x4 x5 x6 x7 x8 x9 x10 x11 x12 → (k < n → ∀ y1 y2 y3 y4 y5 y6 y7 y8 y9 y10 y11 y12, I (k + 1) y1 y2 y3 y4 y5 y6 y7 y8 y9 y10 y11 y12 → Rt (rc y1 y2 y3 y4 y5 y6 y7 y8 y9 y10 y11 y12) Q) → Rt (s rc x1 x2 x3 x4 x5 x6 x7 x8 x9 x10 x11 x12) Q) : Rt (ml12 s zN a1 a2 a3 a4 a5 a6 a7 a8 a9 a10 a11 a12) Q := by
  have key : ∀ (m k f : Nat) x1 x2 x3 x4 x5 x6 x7 x8 x9 x10 x11 x12, n ≤ k + m → m < f → I k x1 x2 x3 x4 x5 x6 x7 x8 x9 x10 x11 x12 → Rt (ml12 s f x1 x2 x3 x4 x5 x6 x7 x8 x9 x10 x11 x12) Q := by
    intro m
    induction m with
    | zero =>
      intro k f x1 x2 x3 x4 x5 x6 x7 x8 x9 x10 x11 x12 hk hf hI
      obtain ⟨f, rfl⟩ : ∃ f', f = f' + 1 := ⟨f - 1, by omega⟩
      exact hs (ml12 s f) k x1 x2 x3 x4 x5 x6 x7 x8 x9 x10 x11 x12 hI (fun hk' => absurd hk' (by omega))
    | succ m ih =>
      intro k f x1 x2 x3 x4 x5 x6 x7 x8 x9 x10 x11 x12 hk hf hI
      obtain ⟨f, rfl⟩ : ∃ f', f = f' + 1 := ⟨f - 1, by omega⟩
      exact hs (ml12 s f) k x1 x2 x3 x4 x5 x6 x7 x8 x9 x10 x11 x12 hI (fun _ y1 y2 y3 y4 y5 y6 y7 y8 y9 y10 y11 y12 hI' => ih (k + 1) f y1 y2 y3 y4 y5 y6 y7 y8 y9 y10 y11 y12 (by omega) (by omega) hI')
  exact key n 0 zN a1 a2 a3 a4 a5 a6 a7 a8 a9 a10 a11 a12 (by omega) (by show n < 100000; omega) h0
theorem rb13 {A1 A2 A3 A4 A5 A6 A7 A8 A9 A10 A11 A12 A13 R : Type} {x : Option (A1 × A2 × A3 × A4 × A5 × A6 × A7 × A8 × A9 × A10 × A11 × A12 × A13)} {k : A1 → A2 → A3 → A4 → A5 → A6 → A7 → A8 → A9 → A10 → A11 → A12 → A13 → Option R} {P : A1 × A2 × A3 × A4 × A5 × A6 × A7 × A8 × A9 × A10 × A11 × A12 × A13 → Prop} {Q : R → Prop} (h : Rt x P) (hk : ∀ a1 a2 a3 a4 a5 a6 a7 a8 a9 a10 a11 a12 a13, P (a1, a2, a3, a4, a5, a6, a7, a8, a9, a10, a11, a12, a13) → Rt (k a1 a2 a3 a4 a5 a6 a7 a8 a9 a10 a11 a12 a13) Q) : Rt (bd13 x k) Q := by
  obtain ⟨⟨a1, a2, a3, a4, a5, a6, a7, a8, a9, a10, a11, a12, a13⟩, rfl, hr⟩ := h
  exact hk a1 a2 a3 a4 a5 a6 a7 a8 a9 a10 a11 a12 a13 hr
theorem re13 {A1 A2 A3 A4 A5 A6 A7 A8 A9 A10 A11 A12 A13 R : Type} {x : Option (A1 × A2 × A3 × A4 × A5 × A6 × A7 × A8 × A9 × A10 × A11 × A12 × A13)} {k : A1 → A2 → A3 → A4 → A5 → A6 → A7 → A8 → A9 → A10 → A11 → A12 → A13 → Option R} {Q : R → Prop} {a1 : A1} {a2 : A2} {a3 : A3} {a4 : A4} {a5 : A5} {a6 : A6} {a7 : A7} {a8 : A8} {a9 : A9} {a10 : A10} {a11 : A11} {a12 : A12} {a13 : A13} (h : x = some (a1, a2, a3, a4, a5, a6, a7, a8, a9, a10, a11, a12, a13)) (hk : Rt (k a1 a2 a3 a4 a5 a6 a7 a8 a9 a10 a11 a12 a13) Q) : Rt (bd13 x k) Q := by
  subst h
  exact hk
theorem rl13 {A1 A2 A3 A4 A5 A6 A7 A8 A9 A10 A11 A12 A13 R : Type} {s : (A1 → A2 → A3 → A4 → A5 → A6 → A7 → A8 → A9 → A10 → A11 → A12 → A13 → Option R) → A1 → A2 → A3 → A4 → A5 → A6 → A7 → A8 → A9 → A10 → A11 → A12 → A13 → Option R} {Q : R → Prop} {a1 : A1} {a2 : A2} {a3 : A3} {a4 : A4} {a5 : A5} {a6 : A6} {a7 : A7} {a8 : A8} {a9 : A9} {a10 : A10} {a11 : A11} {a12 : A12} {a13 : A13} (n : Nat) (I : Nat → A1 → A2 → A3 → A4 → A5 → A6 → A7 → A8 → A9 → A10 → A11 → A12 → A13 → Prop) (hn : n < 99999) (h0 : I 0 a1 a2 a3 a4 a5 a6 a7 a8 a9 a10 a11 a12 a13) (hs : ∀ rc k x1 x2 x3 x4 x5 x6 x7 x8 x9 x10 x11 x12 x13, I k x1 x2 x3 x4 x5 x6 x7 x8 x9 x10 x11 x12 x13 → (k < n → ∀ y1 y2 y3 y4 y5 y6 y7 y8 y9 y10 y11 y12 y13, I (k + 1) y1 y2 y3 y4 y5 y6 y7 y8 y9 y10 y11 y12 y13 → Rt (rc y1 y2 y3 y4 y5 y6 y7 y8 y9 y10 y11 y12 y13) Q) → Rt (s rc x1 x2 x3 x4 x5 x6 x7 x8 x9 x10 x11 x12 x13) Q) : Rt (ml13 s zN a1 a2 a3 a4 a5 a6 a7 a8 a9 a10 a11 a12 a13) Q := by
  have key : ∀ (m k f : Nat) x1 x2 x3 x4 x5 x6 x7 x8 x9 x10 x11 x12 x13, n ≤ k + m → m < f → I k x1 x2 x3 x4 x5 x6 x7 x8 x9 x10 x11 x12 x13 → Rt (ml13 s f x1 x2 x3 x4 x5 x6 x7 x8 x9 x10 x11 x12 x13) Q := by
    intro m
    induction m with
    | zero =>
      intro k f x1 x2 x3 x4 x5 x6 x7 x8 x9 x10 x11 x12 x13 hk hf hI
      obtain ⟨f, rfl⟩ : ∃ f', f = f' + 1 := ⟨f - 1, by omega⟩
      exact hs (ml13 s f) k x1 x2 x3 x4 x5 x6 x7 x8 x9 x10 x11 x12 x13 hI (fun hk' => absurd hk' (by omega))
    | succ m ih =>
      intro k f x1 x2 x3 x4 x5 x6 x7 x8 x9 x10 x11 x12 x13 hk hf hI
      obtain ⟨f, rfl⟩ : ∃ f', f = f' + 1 := ⟨f - 1, by omega⟩
      exact hs (ml13 s f) k x1 x2 x3 x4 x5 x6 x7 x8 x9 x10 x11 x12 x13 hI (fun _ y1 y2 y3 y4 y5 y6 y7 y8 y9 y10 y11 y12 y13 hI' => ih (k + 1) f y1 y2 y3 y4 y5 y6 y7 y8 y9 y10 y11 y12 y13 (by omega) (by omega) hI')
  exact key n 0 zN a1 a2 a3 a4 a5 a6 a7 a8 a9 a10 a11 a12 a13 (by omega) (by show n < 100000; omega) h0
theorem rb14 {A1 A2 A3 A4 A5 A6 A7 A8 A9 A10 A11 A12 A13 A14 R : Type} {x : Option (A1 × A2 × A3 × A4 × A5 × A6 × A7 × A8 × A9 × A10 × A11 × A12 × A13 × A14)} {k : A1 → A2 → A3 → A4 → A5 → A6 → A7 → A8 → A9 → A10 → A11 → A12 → A13 → A14 → Option R} {P : A1 × A2 × A3 × A4 × A5 × A6 × A7 × A8 × A9 × A10 × A11 × A12 × A13 × A14 → Prop} {Q : R → Prop} (h : Rt x P) (hk : ∀ a1 a2 a3 a4 a5 a6 a7 a8 a9 a10 a11 a12 a13 a14, P (a1, a2, a3, a4, a5, a6, a7, a8, a9, a10, a11, a12, a13, a14) → Rt (k a1 a2 a3 a4 a5 a6 a7 a8 a9 a10 a11 a12 a13 a14) Q) : Rt (bd14 x k) Q := by
  obtain ⟨⟨a1, a2, a3, a4, a5, a6, a7, a8, a9, a10, a11, a12, a13, a14⟩, rfl, hr⟩ := h
  exact hk a1 a2 a3 a4 a5 a6 a7 a8 a9 a10 a11 a12 a13 a14 hr
theorem re14 {A1 A2 A3 A4 A5 A6 A7 A8 A9 A10 A11 A12 A13 A14 R : Type} {x : Option (A1 × A2 × A3 × A4 × A5 × A6 × A7 × A8 × A9 × A10 × A11 × A12 × A13 × A14)} {k : A1 → A2 → A3 → A4 → A5 → A6 → A7 → A8 → A9 → A10 → A11 → A12 → A13 → A14 → Option R} {Q : R → Prop} {a1 : A1} {a2 : A2} {a3 : A3} {a4 : A4} {a5 : A5} {a6 : A6} {a7 : A7} {a8 : A8} {a9 : A9} {a10 : A10} {a11 : A11} {a12 : A12} {a13 : A13} {a14 : A14} (h : x = some (a1, a2, a3, a4, a5, a6, a7, a8, a9, a10, a11, a12, a13, a14)) (hk : Rt (k a1 a2 a3 a4 a5 a6 a7 a8 a9 a10 a11 a12 a13 a14) Q) : Rt (bd14 x k) Q := by
  subst h
  exact hk
theorem rl14 {A1 A2 A3 A4 A5 A6 A7 A8 A9 A10 A11 A12 A13 A14 R : Type} {s : (A1 → A2 → A3 → A4 → A5 → A6 → A7 → A8 → A9 → A10 → A11 → A12 → A13 → A14 → Option R) → A1 → A2 → A3 → A4 → A5 → A6 → A7 → A8 → A9 → A10 → A11 → A12 → A13 → A14 → Option R} {Q : R → Prop} {a1 : A1} {a2 : A2} {a3 : A3} {a4 : A4} {a5 : A5} {a6 : A6} {a7 : A7} {a8 : A8} {a9 : A9} {a10 : A10} {a11 : A11} {a12 : A12} {a13 : A13} {a14 : A14} (n : Nat) (I : Nat → A1 → A2 → A3 → A4 → A5 → A6 → A7 → A8 → A9 → A10 → A11 → A12 → A13 → A14 → Prop) (hn : n < 99999) (h0 : I 0 a1 a2 a3 a4 a5 a6 a7 a8 a9 a10 a11 a12 a13 a14) (hs : ∀ rc k x1 x2 x3 x4 x5 x6 x7 x8 x9 x10 x11 x12 x13 x14, I k x1 x2 x3 x4 x5 x6 x7 x8 x9 x10 x11 x12 x13 x14 → (k < n → ∀ y1 y2 y3 y4 y5 y6 y7 y8 y9 y10 y11 y12 y13 y14, I (k + 1) y1 y2 y3 y4 y5 y6 y7 y8 y9 y10 y11 y12 y13 y14 → Rt (rc y1 y2 y3 y4 y5 y6 y7 y8 y9 y10 y11 y12 y13 y14) Q) → Rt (s rc x1 x2 x3 x4 x5 x6 x7 x8 x9 x10 x11 x12 x13 x14) Q) : Rt (ml14 s zN a1 a2 a3 a4 a5 a6 a7 a8 a9 a10 a11 a12 a13 a14) Q := by
  have key : ∀ (m k f : Nat) x1 x2 x3 x4 x5 x6 x7 x8 x9 x10 x11 x12 x13 x14, n ≤ k + m → m < f → I k x1 x2 x3 x4 x5 x6 x7 x8 x9 x10 x11 x12 x13 x14 → Rt (ml14 s f x1 x2 x3 x4 x5 x6 x7 x8 x9 x10 x11 x12 x13 x14) Q := by
    intro m
    induction m with
    | zero =>
      intro k f x1 x2 x3 x4 x5 x6 x7 x8 x9 x10 x11 x12 x13 x14 hk hf hI
      obtain ⟨f, rfl⟩ : ∃ f', f = f' + 1 := ⟨f - 1, by omega⟩
      exact hs (ml14 s f) k x1 x2 x3 x4 x5 x6 x7 x8 x9 x10 x11 x12 x13 x14 hI (fun hk' => absurd hk' (by omega))
    | succ m ih =>
      intro k f x1 x2 x3 x4 x5 x6 x7 x8 x9 x10 x11 x12 x13 x14 hk hf hI
      obtain ⟨f, rfl⟩ : ∃ f', f = f' + 1 := ⟨f - 1, by omega⟩
      exact hs (ml14 s f) k x1 x2 x3 x4 x5 x6 x7 x8 x9 x10 x11 x12 x13 x14 hI (fun _ y1 y2 y3 y4 y5 y6 y7 y8 y9 y10 y11 y12 y13 y14 hI' => ih (k + 1) f y1 y2 y3 y4 y5 y6 y7 y8 y9 y10 y11 y12 y13 y14 (by omega) (by omega) hI')
  exact key n 0 zN a1 a2 a3 a4 a5 a6 a7 a8 a9 a10 a11 a12 a13 a14 (by omega) (by show n < 100000; omega) h0
theorem rb15 {A1 A2 A3 A4 A5 A6 A7 A8 A9 A10 A11 A12 A13 A14 A15 R : Type} {x : Option (A1 × A2 × A3 × A4 × A5 × A6 × A7 × A8 × A9 × A10 × A11 × A12 × A13 × A14 × A15)} {k : A1 → A2 → A3 → A4 → A5 → A6 → A7 → A8 → A9 → A10 → A11 → A12 → A13 → A14 → A15 → Option R} {P : A1 × A2 × A3 × A4 × A5 × A6 × A7 × A8 × A9 × A10 × A11 × A12 × A13 × A14 × A15 → Prop} {Q : R → Prop} (h : Rt x P) (hk : ∀ a1 a2 a3 a4 a5 a6 a7 a8 a9 a10 a11 a12 a13 a14 a15, P (a1, a2, a3, a4, a5, a6, a7, a8, a9, a10, a11, a12, a13, a14, a15) → Rt (k a1 a2 a3 a4 a5 a6 a7 a8 a9 a10 a11 a12 a13 a14 a15) Q) : Rt (bd15 x k) Q := by
  obtain ⟨⟨a1, a2, a3, a4, a5, a6, a7, a8, a9, a10, a11, a12, a13, a14, a15⟩, rfl, hr⟩ := h
  exact hk a1 a2 a3 a4 a5 a6 a7 a8 a9 a10 a11 a12 a13 a14 a15 hr
theorem re15 {A1 A2 A3 A4 A5 A6 A7 A8 A9 A10 A11 A12 A13 A14 A15 R : Type} {x : Option (A1 × A2 × A3 × A4 × A5 × A6 × A7 × A8 × A9 × A10 × A11 × A12 × A13 × A14 × A15)} {k : A1 → A2 → A3 → A4 → A5 → A6 → A7 → A8 → A9 → A10 → A11 → A12 → A13 → A14 → A15 → Option R} {Q : R → Prop} {a1 : A1} {a2 : A2} {a3 : A3} {a4 : A4} {a5 : A5} {a6 : A6} {a7 : A7} {a8 : A8} {a9 : A9} {a10 : A10} {a11 : A11} {a12 : A12} {a13 : A13} {a14 : A14} {a15 : A15} (h : x = some (a1, a2, a3, a4, a5, a6, a7, a8, a9, a10, a11, a12, a13, a14, a15)) (hk : Rt (k a1 a2 a3 a4 a5 a6 a7 a8 a9 a10 a11 a12 a13 a14 a15) Q) : Rt (bd15 x k) Q := by
  subst h
  exact hk
theorem rl15 {A1 A2 A3 A4 A5 A6 A7 A8 A9 A10 A11 A12 A13 A14 A15 R : Type} {s : (A1 → A2 → A3 → A4 → A5 → A6 → A7 → A8 → A9 → A10 → A11 → A12 → A13 → A14 → A15 → Option R) → A1 → A2 → A3 → A4 → A5 → A6 → A7 → A8 → A9 → A10 → A11 → A12 → A13 → A14 → A15 → Option R} {Q : R → Prop} {a1 : A1} {a2 : A2} {a3 : A3} {a4 : A4} {a5 : A5} {a6 : A6} {a7 : A7} {a8 : A8} {a9 : A9} {a10 : A10} {a11 : A11} {a12 : A12} {a13 : A13} {a14 : A14} {a15 : A15} (n : Nat) (I : Nat → A1 → A2 → A3 → A4 → A5 → A6 → A7 → A8 → A9 → A10 → A11 → A12 → A13 → A14 → A15 → Prop) (hn : n < 99999) (h0 : I 0 a1 a2 a3 a4 a5 a6 a7 a8 a9 a10 a11 a12 a13 a14 a15) (hs : ∀ rc k x1 x2 x3 x4 x5 x6 x7 x8 x9 x10 x11 x12 x13 x14 x15, I k x1 x2 x3 x4 x5 x6 x7 x8 x9 x10 x11 x12 x13 x14 x15 → (k < n → ∀ y1 y2 y3 y4 y5 y6 y7 y8 y9 y10 y11 y12 y13 y14 y15, I (k + 1) y1 y2 y3 y4 y5 y6 y7 y8 y9 y10 y11 y12 y13 y14 y15 → Rt (rc y1 y2 y3 y4 y5 y6 y7 y8 y9 y10 y11 y12 y13 y14 y15) Q) → Rt (s rc x1 x2 x3 x4 x5 x6 x7 x8 x9 x10 x11 x12 x13 x14 x15) Q) : Rt (ml15 s zN a1 a2 a3 a4 a5 a6 a7 a8 a9 a10 a11 a12 a13 a14 a15) Q := by
  have key : ∀ (m k f : Nat) x1 x2 x3 x4 x5 x6 x7 x8 x9 x10 x11 x12 x13 x14 x15, n ≤ k + m → m < f → I k x1 x2 x3 x4 x5 x6 x7 x8 x9 x10 x11 x12 x13 x14 x15 → Rt (ml15 s f x1 x2 x3 x4 x5 x6 x7 x8 x9 x10 x11 x12 x13 x14 x15) Q := by
    intro m
    induction m with
    | zero =>
      intro k f x1 x2 x3 x4 x5 x6 x7 x8 x9 x10 x11 x12 x13 x14 x15 hk hf hI
      obtain ⟨f, rfl⟩ : ∃ f', f = f' + 1 := ⟨f - 1, by omega⟩
      exact hs (ml15 s f) k x1 x2 x3 x4 x5 x6 x7 x8 x9 x10 x11 x12 x13 x14 x15 hI (fun hk' => absurd hk' (by omega))
    | succ m ih =>
      intro k f x1 x2 x3 x4 x5 x6 x7 x8 x9 x10 x11 x12 x13 x14 x15 hk hf hI
      obtain ⟨f, rfl⟩ : ∃ f', f = f' + 1 := ⟨f - 1, by omega⟩
      exact hs (ml15 s f) k x1 x2 x3 x4 x5 x6 x7 x8 x9 x10 x11 x12 x13 x14 x15 hI (fun _ y1 y2 y3 y4 y5 y6 y7 y8 y9 y10 y11 y12 y13 y14 y15 hI' => ih (k + 1) f y1 y2 y3 y4 y5 y6 y7 y8 y9 y10 y11 y12 y13 y14 y15 (by omega) (by omega) hI')
  exact key n 0 zN a1 a2 a3 a4 a5 a6 a7 a8 a9 a10 a11 a12 a13 a14 a15 (by omega) (by show n < 100000; omega) h0
theorem rb16 {A1 A2 A3 A4 A5 A6 A7 A8 A9 A10 A11 A12 A13 A14 A15 A16 R : Type} {x : Option (A1 × A2 × A3 × A4 × A5 × A6 × A7 × A8 × A9 × A10 × A11 × A12 × A13 × A14 × A15 × A16)} {k : A1 → A2 → A3 → A4 → A5 → A6 → A7 → A8 → A9 → A10 → A11 → A12 → A13 → A14 → A15 → A16 → Option R} {P : A1 × A2 × A3 × A4 × A5 × A6 × A7 × A8 × A9 × A10 × A11 × A12 × A13 × A14 × A15 × A16 → Prop} {Q : R → Prop} (h : Rt x P) (hk : ∀ a1 a2 a3 a4 a5 a6 a7 a8 a9 a10 a11 a12 a13 a14 a15 a16, P (a1, a2, a3, a4, a5, a6, a7, a8, a9, a10, a11, a12, a13, a14, a15, a16) → Rt (k a1 a2 a3 a4 a5 a6 a7 a8 a9 a10 a11 a12 a13 a14 a15 a16) Q) : Rt (bd16 x k) Q := by
  obtain ⟨⟨a1, a2, a3, a4, a5, a6, a7, a8, a9, a10, a11, a12, a13, a14, a15, a16⟩, rfl, hr⟩ := h
  exact hk a1 a2 a3 a4 a5 a6 a7 a8 a9 a10 a11 a12 a13 a14 a15 a16 hr
theorem re16 {A1 A2 A3 A4 A5 A6 A7 A8 A9 A10 A11 A12 A13 A14 A15 A16 R : Type} {x : Option (A1 × A2 × A3 × A4 × A5 × A6 × A7 × A8 × A9 × A10 × A11 × A12 × A13 × A14 × A15 × A16)} {k : A1 → A2 → A3 → A4 → A5 → A6 → A7 → A8 → A9 → A10 → A11 → A12 → A13 → A14 → A15 → A16 → Option R} {Q : R → Prop} {a1 : A1} {a2 : A2} {a3 : A3} {a4 : A4} {a5 : A5} {a6 : A6} {a7 : A7} {a8 : A8} {a9 : A9} {a10 : A10} {a11 : A11} {a12 : A12} {a13 : A13} {a14 : A14} {a15 : A15} {a16 : A16} (h : x = some (a1, a2, a3, a4, a5, a6, a7, a8, a9, a10, a11, a12, a13, a14, a15, a16)) (hk : Rt (k a1 a2 a3 a4 a5 a6 a7 a8 a9 a10 a11 a12 a13 a14 a15 a16) Q) : Rt (bd16 x k) Q := by
  subst h
  exact hk
theorem rl16 {A1 A2 A3 A4 A5 A6 A7 A8 A9 A10 A11 A12 A13 A14 A15 A16 R : Type} {s : (A1 → A2 → A3 → A4 → A5 → A6 → A7 → A8 → A9 → A10 → A11 → A12 → A13 → A14 → A15 → A16 → Option R) → A1 → A2 → A3 → A4 → A5 → A6 → A7 → A8 → A9 → A10 → A11 → A12 → A13 → A14 → A15 → A16 → Option R} {Q : R → Prop} {a1 : A1} {a2 : A2} {a3 : A3} {a4 : A4} {a5 : A5} {a6 : A6} {a7 : A7} {a8 : A8} {a9 : A9} {a10 : A10} {a11 : A11} {a12 : A12} {a13 : A13} {a14 : A14} {a15 : A15} {a16 : A16} (n : Nat) (I : Nat → A1 → A2 → A3 → A4 → A5 → A6 → A7 → A8 → A9 → A10 → A11 → A12 → A13 → A14 → A15 → A16 → Prop) (hn : n < 99999) (h0 : I 0 a1 a2 a3 a4 a5 a6 a7 a8 a9 a10 a11 a12 a13 a14 a15 a16) (hs : ∀ rc k x1 x2 x3 x4 x5 x6 x7 x8 x9 x10 x11 x12 x13 x14 x15 x16, I k x1 x2 x3 x4 x5 x6 x7 x8 x9 x10 x11 x12 x13 x14 x15 x16 → (k < n → ∀ y1 y2 y3 y4 y5 y6 y7 y8 y9 y10 y11 y12 y13 y14 y15 y16, I (k + 1) y1 y2 y3 y4 y5 y6 y7 y8 y9 y10 y11 y12 y13 y14 y15 y16 → Rt (rc y1 y2 y3 y4 y5 y6 y7 y8 y9 y10 y11 y12 y13 y14 y15 y16) Q) → Rt (s rc x1 x2 x3 x4 x5 x6 x7 x8 x9 x10 x11 x12 x13 x14 x15 x16) Q) : Rt (ml16 s zN a1 a2 a3 a4 a5 a6 a7 a8 a9 a10 a11 a12 a13 a14 a15 a16) Q := by
  have key : ∀ (m k f : Nat) x1 x2 x3 x4 x5 x6 x7 x8 x9 x10 x11 x12 x13 x14 x15 x16, n ≤ k + m → m < f → I k x1 x2 x3 x4 x5 x6 x7 x8 x9 x10 x11 x12 x13 x14 x15 x16 → Rt (ml16 s f x1 x2 x3 x4 x5 x6 x7 x8 x9 x10 x11 x12 x13 x14 x15 x16) Q := by
    intro m
    induction m with
    | zero =>
      intro k f x1 x2 x3 x4 x5 x6 x7 x8 x9 x10 x11 x12 x13 x14 x15 x16 hk hf hI
      obtain ⟨f, rfl⟩ : ∃ f', f = f' + 1 := ⟨f - 1, by omega⟩
      exact hs (ml16 s f) k x1 x2 x3 x4 x5 x6 x7 x8 x9 x10 x11 x12 x13 x14 x15 x16 hI (fun hk' => absurd hk' (by omega))
    | succ m ih =>
      intro k f x1 x2 x3 x4 x5 x6 x7 x8 x9 x10 x11 x12 x13 x14 x15 x16 hk hf hI
      obtain ⟨f, rfl⟩ : ∃ f', f = f' + 1 := ⟨f - 1, by omega⟩
      exact hs (ml16 s f) k x1 x2 x3 x4 x5 x6 x7 x8 x9 x10 x11 x12 x13 x14 x15 x16 hI (fun _ y1 y2 y3 y4 y5 y6 y7 y8 y9 y10 y11 y12 y13 y14 y15 y16 hI' => ih (k + 1) f y1 y2 y3 y4 y5 y6 y7 y8 y9 y10 y11 y12 y13 y14 y15 y16 (by omega) (by omega) hI')
  exact key n 0 zN a1 a2 a3 a4 a5 a6 a7 a8 a9 a10 a11 a12 a13 a14 a15 a16 (by omega) (by show n < 100000; omega) h0
theorem rb17 {A1 A2 A3 A4 A5 A6 A7 A8 A9 A10 A11 A12 A13 A14 A15 A16 A17 R : Type} {x : Option (A1 × A2 × A3 × A4 × A5 × A6 × A7 × A8 × A9 × A10 × A11 × A12 × A13 × A14 × A15 × A16 × A17)} {k : A1 → A2 → A3 → A4 → A5 → A6 → A7 → A8 → A9 → A10 → A11 → A12 → A13 → A14 → A15 → A16 → A17 → Option R} {P : A1 × A2 × A3 × A4 × A5 × A6 × A7 × A8 × A9 × A10 × A11 × A12 × A13 × A14 × A15 × A16 × A17 → Prop} {Q : R → Prop} (h : Rt x P) (hk : ∀ a1 a2 a3 a4 a5 a6 a7 a8 a9 a10 a11 a12 a13 a14 a15 a16 a17, P (a1, a2, a3, a4, a5, a6, a7, a8, a9, a10, a11, a12, a13, a14, a15, a16, a17) → Rt (k a1 a2 a3 a4 a5 a6 a7 a8 a9 a10 a11 a12 a13 a14 a15 a16 a17) Q) : Rt (bd17 x k) Q := by
  obtain ⟨⟨a1, a2, a3, a4, a5, a6, a7, a8, a9, a10, a11, a12, a13, a14, a15, a16, a17⟩, rfl, hr⟩ := h
  exact hk a1 a2 a3 a4 a5 a6 a7 a8 a9 a10 a11 a12 a13 a14 a15 a16 a17 hr
theorem re17 {A1 A2 A3 A4 A5 A6 A7 A8 A9 A10 A11 A12 A13 A14 A15 A16 A17 R : Type} {x : Option (A1 × A2 × A3 × A4 × A5 × A6 × A7 × A8 × A9 × A10 × A11 × A12 × A13 × A14 × A15 × A16 × A17)} {k : A1 → A2 → A3 → A4 → A5 → A6 → A7 → A8 → A9 → A10 → A11 → A12 → A13 → A14 → A15 → A16 → A17 → Option R} {Q : R → Prop} {a1 : A1} {a2 : A2} {a3 : A3} {a4 : A4} {a5 : A5} {a6 : A6} {a7 : A7} {a8 : A8} {a9 : A9} {a10 : A10} {a11 : A11} {a12 : A12} {a13 : A13} {a14 : A14} {a15 : A15} {a16 : A16} {a17 : A17} (h : x = some (a1, a2, a3, a4, a5, a6, a7, a8, a9, a10, a11, a12, a13, a14, a15, a16, a17)) (hk : Rt (k a1 a2 a3 a4 a5 a6 a7 a8 a9 a10 a11 a12 a13 a14 a15 a16 a17) Q) : Rt (bd17 x k) Q := by
  subst h
  exact hk
theorem rl17 {A1 A2 A3 A4 A5 A6 A7 A8 A9 A10 A11 A12 A13 A14 A15 A16 A17 R : Type} {s : (A1 → A2 → A3 → A4 → A5 → A6 → A7 → A8 → A9 → A10 → A11 → A12 → A13 → A14 → A15 → A16 → A17 → Option R) → A1 → A2 → A3 → A4 → A5 → A6 → A7 → A8 → A9 → A10 → A11 → A12 → A13 → A14 → A15 → A16 → A17 → Option R} {Q : R → Prop} {a1 : A1} {a2 : A2} {a3 : A3} {a4 : A4} {a5 : A5} {a6 : A6} {a7 : A7} {a8 : A8} {a9 : A9} {a10 : A10} {a11 : A11} {a12 : A12} {a13 : A13} {a14 : A14} {a15 : A15} {a16 : A16} {a17 : A17} (n : Nat) (I : Nat → A1 → A2 → A3 → A4 → A5 → A6 → A7 → A8 → A9 → A10 → A11 → A12 → A13 → A14 → A15 → A16 → A17 → Prop) (hn : n < 99999) (h0 : I 0 a1 a2 a3 a4 a5 a6 a7 a8 a9 a10 a11 a12 a13 a14 a15 a16 a17) (hs : ∀ rc k x1 x2 x3 x4 x5 x6 x7 x8 x9 x10 x11 x12 x13 x14 x15 x16 x17, I k x1 x2 x3 x4 x5 x6 x7 x8 x9 x10 x11 x12 x13 x14 x15 x16 x17 → (k < n → ∀ y1 y2 y3 y4 y5 y6 y7 y8 y9 y10 y11 y12 y13 y14 y15 y16 y17, I (k + 1) y1 y2 y3 y4 y5 y6 y7 y8 y9 y10 y11 y12 y13 y14 y15 y16 y17 → Rt (rc y1 y2 y3 y4 y5 y6 y7 y8 y9 y10 y11 y12 y13 y14 y15 y16 y17) Q) → Rt (s rc x1 x2 x3 x4 x5 x6 x7 x8 x9 x10 x11 x12 x13 x14 x15 x16 x17) Q) : Rt (ml17 s zN a1 a2 a3 a4 a5 a6 a7 a8 a9 a10 a11 a12 a13 a14 a15 a16 a17) Q := by
  have key : ∀ (m k f : Nat) x1 x2 x3 x4 x5 x6 x7 x8 x9 x10 x11 x12 x13 x14 x15 x16 x17, n ≤ k + m → m < f → I k x1 x2 x3 x4 x5 x6 x7 x8 x9 x10 x11 x12 x13 x14 x15 x16 x17 → Rt (ml17 s f x1 x2 x3 x4 x5 x6 x7 x8 x9 x10 x11 x12 x13 x14 x15 x16 x17) Q := by
    intro m
    induction m with
    | zero =>
      intro k f x1 x2 x3 x4 x5 x6 x7 x8 x9 x10 x11 x12 x13 x14 x15 x16 x17 hk hf hI
      obtain ⟨f, rfl⟩ : ∃ f', f = f' + 1 := ⟨f - 1, by omega⟩
      exact hs (ml17 s f) k x1 x2 x3 x4 x5 x6 x7 x8 x9 x10 x11 x12 x13 x14 x15 x16 x17 hI (fun hk' => absurd hk' (by omega))
    | succ m ih =>
      intro k f x1 x2 x3 x4 x5 x6 x7 x8 x9 x10 x11 x12 x13 x14 x15 x16 x17 hk hf hI
      obtain ⟨f, rfl⟩ : ∃ f', f = f' + 1 := ⟨f - 1, by omega⟩
      exact hs (ml17 s f) k x1 x2 x3 x4 x5 x6 x7 x8 x9 x10 x11 x12 x13 x14 x15 x16 x17 hI (fun _ y1 y2 y3 y4 y5 y6 y7 y8 y9 y10 y11 y12 y13 y14 y15 y16 y17 hI' => ih (k + 1) f y1 y2 y3 y4 y5 y6 y7 y8 y9 y10 y11 y12 y13 y14 y15 y16 y17 (by omega) (by omega) hI')
  exact key n 0 zN a1 a2 a3 a4 a5 a6 a7 a8 a9 a10 a11 a12 a13 a14 a15 a16 a17 (by omega) (by show n < 100000; omega) h0
theorem rb18 {A1 A2 A3 A4 A5 A6 A7 A8 A9 A10 A11 A12 A13 A14 A15 A16 A17 A18 R : Type} {x : Option (A1 × A2 × A3 × A4 × A5 × A6 × A7 × A8 × A9 × A10 × A11 × A12 × A13 × A14 × A15 × A16 × A17 × A18)} {k : A1 → A2 → A3 → A4 → A5 → A6 → A7 → A8 → A9 → A10 → A11 → A12 → A13 → A14 → A15 → A16 → A17 → A18 → Option R} {P : A1 × A2 × A3 × A4 × A5 × A6 × A7 × A8 × A9 × A10 × A11 × A12 × A13 × A14 × A15 × A16 × A17 × A18 → Prop} {Q : R → Prop} (h : Rt x P) (hk : ∀ a1 a2 a3 a4 a5 a6 a7 a8 a9 a10 a11 a12 a13 a14 a15 a16 a17 a18, P (a1, a2, a3, a4, a5, a6, a7, a8, a9, a10, a11, a12, a13, a14, a15, a16, a17, a18) → Rt (k a1 a2 a3 a4 a5 a6 a7 a8 a9 a10 a11 a12 a13 a14 a15 a16 a17 a18) Q) : Rt (bd18 x k) Q := by
  obtain ⟨⟨a1, a2, a3, a4, a5, a6, a7, a8, a9, a10, a11, a12, a13, a14, a15, a16, a17, a18⟩, rfl, hr⟩ := h
  exact hk a1 a2 a3 a4 a5 a6 a7 a8 a9 a10 a11 a12 a13 a14 a15 a16 a17 a18 hr
theorem re18 {A1 A2 A3 A4 A5 A6 A7 A8 A9 A10 A11 A12 A13 A14 A15 A16 A17 A18 R : Type} {x : Option (A1 × A2 × A3 × A4 × A5 × A6 × A7 × A8 × A9 × A10 × A11 × A12 × A13 × A14 × A15 × A16 × A17 × A18)} {k : A1 → A2 → A3 → A4 → A5 → A6 → A7 → A8 → A9 → A10 → A11 → A12 → A13 → A14 → A15 → A16 → A17 → A18 → Option R} {Q : R → Prop} {a1 : A1} {a2 : A2} {a3 : A3} {a4 : A4} {a5 : A5} {a6 : A6} {a7 : A7} {a8 : A8} {a9 : A9} {a10 : A10} {a11 : A11} {a12 : A12} {a13 : A13} {a14 : A14} {a15 : A15} {a16 : A16} {a17 : A17} {a18 : A18} (h : x = some (a1, a2, a3, a4, a5, a6, a7, a8, a9, a10, a11, a12, a13, a14, a15, a16, a17, a18)) (hk : Rt (k a1 a2 a3 a4 a5 a6 a7 a8 a9 a10 a11 a12 a13 a14 a15 a16 a17 a18) Q) : Rt (bd18 x k) Q := by
  subst h
  exact hk
theorem rl18 {A1 A2 A3 A4 A5 A6 A7 A8 A9 A10 A11 A12 A13 A14 A15 A16 A17 A18 R : Type} {s : (A1 → A2 → A3 → A4 → A5 → A6 → A7 → A8 → A9 → A10 → A11 → A12 → A13 → A14 → A15 → A16 → A17 → A18 → Option R) → A1 → A2 → A3 → A4 → A5 → A6 → A7 → A8 → A9 → A10 → A11 → A12 → A13 → A14 → A15 → A16 → A17 → A18 → Option R} {Q : R → Prop} {a1 : A1} {a2 : A2} {a3 : A3} {a4 : A4} {a5 : A5} {a6 : A6} {a7 : A7} {a8 : A8} {a9 : A9} {a10 : A10} {a11 : A11} {a12 : A12} {a13 : A13} {a14 : A14} {a15 : A15} {a16 : A16} {a17 : A17} {a18 : A18} (n : Nat) (I : Nat → A1 → A2 → A3 → A4 → A5 → A6 → A7 → A8 → A9 → A10 → A11 → A12 → A13 → A14 → A15 → A16 → A17 → A18 → Prop) (hn : n < 99999) (h0 : I 0 a1 a2 a3 a4 a5 a6 a7 a8 a9 a10 a11 a12 a13 a14 a15 a16 a17 a18) (hs : ∀ rc k x1 x2 x3 x4 x5 x6 x7 x8 x9 x10 x11 x12 x13 x14 x15 x16 x17 x18, I k x1 x2 x3 x4 x5 x6 x7 x8 x9 x10 x11 x12 x13 x14 x15 x16 x17 x18 → (k < n → ∀ y1 y2 y3 y4 y5 y6 y7 y8 y9 y10 y11 y12 y13 y14 y15 y16 y17 y18, I (k + 1) y1 y2 y3 y4 y5 y6 y7 y8 y9 y10 y11 y12 y13 y14 y15 y16 y17 y18 → Rt (rc y1 y2 y3 y4 y5 y6 y7 y8 y9 y10 y11 y12 y13 y14 y15 y16 y17 y18) Q) → Rt (s rc x1 x2 x3 x4 x5 x6 x7 x8 x9 x10 x11 x12 x13 x14 x15 x16 x17 x18) Q) : Rt (ml18 s zN a1 a2 a3 a4 a5 a6 a7 a8 a9 a10 a11 a12 a13 a14 a15 a16 a17 a18) Q := by
  have key : ∀ (m k f : Nat) x1 x2 x3 x4 x5 x6 x7 x8 x9 x10 x11 x12 x13 x14 x15 x16 x17 x18, n ≤ k + m → m < f → I k x1 x2 x3 x4 x5 x6 x7 x8 x9 x10 x11 x12 x13 x14 x15 x16 x17 x18 → Rt (ml18 s f x1 x2 x3 x4 x5 x6 x7 x8 x9 x10 x11 x12 x13 x14 x15 x16 x17 x18) Q := by
    intro m
    induction m with
    | zero =>
      intro k f x1 x2 x3 x4 x5 x6 x7 x8 x9 x10 x11 x12 x13 x14 x15 x16 x17 x18 hk hf hI
      obtain ⟨f, rfl⟩ : ∃ f', f = f' + 1 := ⟨f - 1, by omega⟩
      exact hs (ml18 s f) k x1 x2 x3 x4 x5 x6 x7 x8 x9 x10 x11 x12 x13 x14 x15 x16 x17 x18 hI (fun hk' => absurd hk' (by omega))
    | succ m ih =>
      intro k f x1 x2 x3 x4 x5 x6 x7 x8 x9 x10 x11 x12 x13 x14 x15 x16 x17 x18 hk hf hI
      obtain ⟨f, rfl⟩ : ∃ f', f = f' + 1 := ⟨f - 1, by omega⟩
      exact hs (ml18 s f) k x1 x2 x3 x4 x5 x6 x7 x8 x9 x10 x11 x12 x13 x14 x15 x16 x17 x18 hI (fun _ y1 y2 y3 y4 y5 y6 y7 y8 y9 y10 y11 y12 y13 y14 y15 y16 y17 y18 hI' => ih (k + 1) f y1 y2 y3 y4 y5 y6 y7 y8 y9 y10 y11 y12 y13 y14 y15 y16 y17 y18 (by omega) (by omega) hI')
  exact key n 0 zN a1 a2 a3 a4 a5 a6 a7 a8 a9 a10 a11 a12 a13 a14 a15 a16 a17 a18 (by omega) (by show n < 100000; omega) h0
theorem rb19 {A1 A2 A3 A4 A5 A6 A7 A8 A9 A10 A11 A12 A13 A14 A15 A16 A17 A18 A19 R : Type} {x : Option (A1 × A2 × A3 × A4 × A5 × A6 × A7 × A8 × A9 × A10 × A11 × A12 × A13 × A14 × A15 × A16 × A17 × A18 × A19)} {k : A1 → A2 → A3 → A4 → A5 → A6 → A7 → A8 → A9 → A10 → A11 → A12 → A13 → A14 → A15 → A16 → A17 → A18 → A19 → Option R} {P : A1 × A2 × A3 × A4 × A5 × A6 × A7 × A8 × A9 × A10 × A11 × A12 × A13 × A14 × A15 × A16 × A17 × A18 × A19 → Prop} {Q : R → Prop} (h : Rt x P) (hk : ∀ a1 a2 a3 a4 a5 a6 a7 a8 a9 a10 a11 a12 a13 a14 a15 a16 a17 a18 a19, P (a1, a2, a3, a4, a5, a6, a7, a8, a9, a10, a11, a12, a13, a14, a15, a16, a17, a18, a19) → Rt (k a1 a2 a3 a4 a5 a6 a7 a8 a9 a10 a11 a12 a13 a14 a15 a16 a17 a18 a19) Q) : Rt (bd19 x k) Q := by
  obtain ⟨⟨a1, a2, a3, a4, a5, a6, a7, a8, a9, a10, a11, a12, a13, a14, a15, a16, a17, a18, a19⟩, rfl, hr⟩ := h
  exact hk a1 a2 a3 a4 a5 a6 a7 a8 a9 a10 a11 a12 a13 a14 a15 a16 a17 a18 a19 hr
theorem re19 {A1 A2 A3 A4 A5 A6 A7 A8 A9 A10 A11 A12 A13 A14 A15 A16 A17 A18 A19 R : Type} {x : Option (A1 × A2 × A3 × A4 × A5 × A6 × A7 × A8 × A9 × A10 × A11 × A12 × A13 × A14 × A15 × A16 × A17 × A18 × A19)} {k : A1 → A2 → A3 → A4 → A5 → A6 → A7 → A8 → A9 → A10 → A11 → A12 → A13 → A14 → A15 → A16 → A17 → A18 → A19 → Option R} {Q : R → Prop} {a1 : A1} {a2 : A2} {a3 : A3} {a4 : A4} {a5 : A5} {a6 : A6} {a7 : A7} {a8 : A8} {a9 : A9} {a10 : A10} {a11 : A11} {a12 : A12} {a13 : A13} {a14 : A14} {a15 : A15} {a16 : A16} {a17 : A17} {a18 : A18} {a19 : A19} (h : x = some (a1, a2, a3, a4, a5, a6, a7, a8, a9, a10, a11, a12, a13, a14, a15, a16, a17, a18, a19)) (hk : Rt (k a1 a2 a3 a4 a5 a6 a7 a8 a9 a10 a11 a12 a13 a14 a15 a16 a17 a18 a19) Q) : Rt (bd19 x k) Q := by
  subst h
  exact hk
theorem rl19 {A1 A2 A3 A4 A5 A6 A7 A8 A9 A10 A11 A12 A13 A14 A15 A16 A17 A18 A19 R : Type} {s : (A1 → A2 → A3 → A4 → A5 → A6 → A7 → A8 → A9 → A10 → A11 → A12 → A13 → A14 → A15 → A16 → A17 → A18 → A19 → Option R) → A1 → A2 → A3 → A4 → A5 → A6 → A7 → A8 → A9 → A10 → A11 → A12 → A13 → A14 → A15 → A16 → A17 → A18 → A19 → Option R} {Q : R → Prop} {a1 : A1} {a2 : A2} {a3 : A3} {a4 : A4} {a5 : A5} {a6 : A6} {a7 : A7} {a8 : A8} {a9 : A9} {a10 : A10} {a11 : A11} {a12 : A12} {a13 : A13} {a14 : A14} {a15 : A15} {a16 : A16} {a17 : A17} {a18 : A18} {a19 : A19} (n : Nat) (I : Nat → A1 → A2 → A3 → A4 → A5 → A6 → A7 → A8 → A9 → A10 → A11 → A12 → A13 → A14 → A15 → A16 → A17 → A18 → A19 → Prop) (hn : n < 99999) (h0 : I 0 a1 a2 a3 a4 a5 a6 a7 a8 a9 a10 a11 a12 a13 a14 a15 a16 a17 a18 a19) (hs : ∀ rc k x1 x2 x3 x4 x5 x6 x7 x8 x9 x10 x11 x12 x13 x14 x15 x16 x17 x18 x19, I k x1 x2 x3 x4 x5 x6 x7 x8 x9 x10 x11 x12 x13 x14 x15 x16 x17 x18 x19 → (k < n → ∀ y1 y2 y3 y4 y5 y6 y7 y8 y9 y10 y11 y12 y13 y14 y15 y16 y17 y18 y19, I (k + 1) y1 y2 y3 y4 y5 y6 y7 y8 y9 y10 y11 y12 y13 y14 y15 y16 y17 y18 y19 → Rt (rc y1 y2 y3 y4 y5 y6 y7 y8 y9 y10 y11 y12 y13 y14 y15 y16 y17 y18 y19) Q) → Rt (s rc x1 x2 x3 x4 x5 x6 x7 x8 x9 x10 x11 x12 x13 x14 x15 x16 x17 x18 x19) Q) : Rt (ml19 s zN a1 a2 a3 a4 a5 a6 a7 a8 a9 a10 a11 a12 a13 a14 a15 a16 a17 a18 a19) Q := by
  have key : ∀ (m k f : Nat) x1 x2 x3 x4 x5 x6 x7 x8 x9 x10 x11 x12 x13 x14 x15 x16 x17 x18 x19, n ≤ k + m → m < f → I k x1 x2 x3 x4 x5 x6 x7 x8 x9 x10 x11 x12 x13 x14 x15 x16 x17 x18 x19 → Rt (ml19 s f x1 x2 x3 x4 x5 x6 x7 x8 x9 x10 x11 x12 x13 x14 x15 x16 x17 x18 x19) Q := by
    intro m
    induction m with
    | zero =>
      intro k f x1 x2 x3 x4 x5 x6 x7 x8 x9 x10 x11 x12 x13 x14 x15 x16 x17 x18 x19 hk hf hI
      obtain ⟨f, rfl⟩ : ∃ f', f = f' + 1 := ⟨f - 1, by omega⟩
      exact hs (ml19 s f) k x1 x2 x3 x4 x5 x6 x7 x8 x9 x10 x11 x12 x13 x14 x15 x16 x17 x18 x19 hI (fun hk' => absurd hk' (by omega))
    | succ m ih =>
      intro k f x1 x2 x3 x4 x5 x6 x7 x8 x9 x10 x11 x12 x13 x14 x15 x16 x17 x18 x19 hk hf hI
      obtain ⟨f, rfl⟩ : ∃ f', f = f' + 1 := ⟨f - 1, by omega⟩
      exact hs (ml19 s f) k x1 x2 x3 x4 x5 x6 x7 x8 x9 x10 x11 x12 x13 x14 x15 x16 x17 x18 x19 hI (fun _ y1 y2 y3 y4 y5 y6 y7 y8 y9 y10 y11 y12 y13 y14 y15 y16 y17 y18 y19 hI' => ih (k + 1) f y1 y2 y3 y4 y5 y6 y7 y8 y9 y10 y11 y12 y13 y14 y15 y16 y17 y18 y19 (by omega) (by omega) hI')
  exact key n 0 zN a1 a2 a3 a4 a5 a6 a7 a8 a9 a10 a11 a12 a13 a14 a15 a16 a17 a18 a19 (by omega) (by show n < 100000; omega) h0
theorem rb20 {A1 A2 A3 A4 A5 A6 A7 A8 A9 A10 A11 A12 A13 A14 A15 A16 A17 A18 A19 A20 R : Type} {x : Option (A1 × A2 × A3 × A4 × A5 × A6 × A7 × A8 × A9 × A10 × A11 × A12 × A13 × A14 × A15 × A16 × A17 × A18 × A19 × A20)} {k : A1 → A2 → A3 → A4 → A5 → A6 → A7 → A8 → A9 → A10 → A11 → A12 → A13 → A14 → A15 → A16 → A17 → A18 → A19 → A20 → Option R} {P : A1 × A2 × A3 × A4 × A5 × A6 × A7 × A8 × A9 × A10 × A11 × A12 × A13 × A14 × A15 × A16 × A17 × A18 × A19 × A20 → Prop} {Q : R → Prop} (h : Rt x P) (hk : ∀ a1 a2 a3 a4 a5 a6 a7 a8 a9 a10 a11 a12 a13 a14 a15 a16 a17 a18 a19 a20, P (a1, a2, a3, a4, a5, a6, a7, a8, a9, a10, a11, a12, a13, a14, a15, a16, a17, a18, a19, a20) → Rt (k a1 a2 a3 a4 a5 a6 a7 a8 a9 a10 a11 a12 a13 a14 a15 a16 a17 a18 a19 a20) Q) : Rt (bd20 x k) Q := by
  obtain ⟨⟨a1, a2, a3, a4, a5, a6, a7, a8, a9, a10, a11, a12, a13, a14, a15, a16, a17, a18, a19, a20⟩, rfl, hr⟩ := h
  exact hk a1 a2 a3 a4 a5 a6 a7 a8 a9 a10 a11 a12 a13 a14 a15 a16 a17 a18 a19 a20 hr
theorem re20 {A1 A2 A3 A4 A5 A6 A7 A8 A9 A10 A11 A12 A13 A14 A15 A16 A17 A18 A19 A20 R : Type} {x : Option (A1 × A2 × A3 × A4 × A5 × A6 × A7 × A8 × A9 × A10 × A11 × A12 × A13 × A14 × A15 × A16 × A17 × A18 × A19 × A20)} {k : A1 → A2 → A3 → A4 → A5 → A6 → A7 → A8 → A9 → A10 → A11 → A12 → A13 → A14 → A15 → A16 → A17 → A18 → A19 → A20 → Option R} {Q : R → Prop} {a1 : A1} {a2 : A2} {a3 : A3} {a4 : A4} {a5 : A5} {a6 : A6} {a7 : A7} {a8 : A8} {a9 : A9} {a10 : A10} {a11 : A11} {a12 : A12} {a13 : A13} {a14 : A14} {a15 : A15} {a16 : A16} {a17 : A17} {a18 : A18} {a19 : A19} {a20 : A20} (h : x = some (a1, a2, a3, a4, a5, a6, a7, a8, a9, a10, a11, a12, a13, a14, a15, a16, a17, a18, a19, a20)) (hk : Rt (k a1 a2 a3 a4 a5 a6 a7 a8 a9 a10 a11 a12 a13 a14 a15 a16 a17 a18 a19 a20) Q) : Rt (bd20 x k) Q := by
  subst h
  exact hk
theorem rl20 {A1 A2 A3 A4 A5 A6 A7 A8 A9 A10 A11 A12 A13 A14 A15 A16 A17 A18 A19 A20 R : Type} {s : (A1 → A2 → A3 → A4 → A5 → A6 → A7 → A8 → A9 → A10 → A11 → A12 → A13 → A14 → A15 → A16 → A17 → A18 → A19 → A20 → Option R) → A1 → A2 → A3 → A4 → A5 → A6 → A7 → A8 → A9 → A10 → A11 → A12 → A13 → A14 → A15 → A16 → A17 → A18 → A19 → A20 → Option R} {Q : R → Prop} {a1 : A1} {a2 : A2} {a3 : A3} {a4 : A4} {a5 : A5} {a6 : A6} {a7 : A7} {a8 : A8} {a9 : A9} {a10 : A10} {a11 : A11} {a12 : A12} {a13 : A13} {a14 : A14} {a15 : A15} {a16 : A16} {a17 : A17} {a18 : A18} {a19 : A19} {a20 : A20} (n : Nat) (I : Nat → A1 → A2 → A3 → A4 → A5 → A6 → A7 → A8 → A9 → A10 → A11 → A12 → A13 → A14 → A15 → A16 → A17 → A18 → A19 → A20 → Prop) (hn : n < 99999) (h0 : I 0 a1 a2 a3 a4 a5 a6 a7 a8 a9 a10 a11 a12 a13 a14 a15 a16 a17 a18 a19 a20) (hs : ∀ rc k x1 x2 x3 x4 x5 x6 x7 x8 x9 x10 x11 x12 x13 x14 x15 x16 x17 x18 x19 x20, I k x1 x2 x3 x4 x5 x6 x7 x8 x9 x10 x11 x12 x13 x14 x15 x16 x17 x18 x19 x20 → (k < n → ∀ y1 y2 y3 y4 y5 y6 y7 y8 y9 y10 y11 y12 y13 y14 y15 y16 y17 y18 y19 y20, I (k + 1) y1 y2 y3 y4 y5 y6 y7 y8 y9 y10 y11 y12 y13 y14 y15 y16 y17 y18 y19 y20 → Rt (rc y1 y2 y3 y4 y5 y6 y7 y8 y9 y10 y11 y12 y13 y14 y15 y16 y17 y18 y19 y20) Q) → Rt (s rc x1 x2 x3 x4 x5 x6 x7 x8 x9 x10 x11 x12 x13 x14 x15 x16 x17 x18 x19 x20) Q) : Rt (ml20 s zN a1 a2 a3 a4 a5 a6 a7 a8 a9 a10 a11 a12 a13 a14 a15 a16 a17 a18 a19 a20) Q := by
  have key : ∀ (m k f : Nat) x1 x2 x3 x4 x5 x6 x7 x8 x9 x10 x11 x12 x13 x14 x15 x16 x17 x18 x19 x20, n ≤ k + m → m < f → I k x1 x2 x3 x4 x5 x6 x7 x8 x9 x10 x11 x12 x13 x14 x15 x16 x17 x18 x19 x20 → Rt (ml20 s f x1 x2 x3 x4 x5 x6 x7 x8 x9 x10 x11 x12 x13 x14 x15 x16 x17 x18 x19 x20) Q := by
    intro m
    induction m with
    | zero =>
      intro k f x1 x2 x3 x4 x5 x6 x7 x8 x9 x10 x11 x12 x13 x14 x15 x16 x17 x18 x19 x20 hk hf hI
      obtain ⟨f, rfl⟩ : ∃ f', f = f' + 1 := ⟨f - 1, by omega⟩
      exact hs (ml20 s f) k x1 x2 x3 x4 x5 x6 x7 x8 x9 x10 x11 x12 x13 x14 x15 x16 x17 x18 x19 x20 hI (fun hk' => absurd hk' (by omega))
    | succ m ih =>
      intro k f x1 x2 x3 x4 x5 x6 x7 x8 x9 x10 x11 x12 x13 x14 x15 x16 x17 x18 x19 x20 hk hf hI
      obtain ⟨f, rfl⟩ : ∃ f', f = f' + 1 := ⟨f - 1, by omega⟩
      exact hs (ml20 s f) k x1 x2 x3 x4 x5 x6 x7 x8 x9 x10 x11 x12 x13 x14 x15 x16 x17 x18 x19 x20 hI (fun _ y1 y2 y3 y4 y5 y6 y7 y8 y9 y10 y11 y12 y13 y14 y15 y16 y17 y18 y19 y20 hI' => ih (k + 1) f y1 y2 y3 y4 y5 y6 y7 y8 y9 y10 y11 y12 y13 y14 y15 y16 y17 y18 y19 y20 (by omega) (by omega) hI')
  exact key n 0 zN a1 a2 a3 a4 a5 a6 a7 a8 a9 a10 a11 a12 a13 a14 a15 a16 a17 a18 a19 a20 (by omega) (by show n < 100000; omega) h0
theorem rb21 {A1 A2 A3 A4 A5 A6 A7 A8 A9 A10 A11 A12 A13 A14 A15 A16 A17 A18 A19 A20 A21 R : Type} {x : Option (A1 × A2 × A3 × A4 × A5 × A6 × A7 × A8 × A9 × A10 × A11 × A12 × A13 × A14 × A15 × A16 × A17 × A18 × A19 × A20 × A21)} {k : A1 → A2 → A3 → A4 → A5 → A6 → A7 → A8 → A9 → A10 → A11 → A12 → A13 → A14 → A15 → A16 → A17 → A18 → A19 → A20 → A21 → Option R} {P : A1 × A2 × A3 × A4 × A5 × A6 × A7 × A8 × A9 × A10 × A11 × A12 × A13 × A14 × A15 × A16 × A17 × A18 × A19 × A20 × A21 → Prop} {Q : R → Prop} (h : Rt x P) (hk : ∀ a1 a2 a3 a4 a5 a6 a7 a8 a9 a10 a11 a12 a13 a14 a15 a16 a17 a18 a19 a20 a21, P (a1, a2, a3, a4, a5, a6, a7, a8, a9, a10, a11, a12, a13, a14, a15, a16, a17, a18, a19, a20, a21) → Rt (k a1 a2 a3 a4 a5 a6 a7 a8 a9 a10 a11 a12 a13 a14 a15 a16 a17 a18 a19 a20 a21) Q) : Rt (bd21 x k) Q := by
  obtain ⟨⟨a1, a2, a3, a4, a5, a6, a7, a8, a9, a10, a11, a12, a13, a14, a15, a16, a17, a18, a19, a20, a21⟩, rfl, hr⟩ := h
  exact hk a1 a2 a3 a4 a5 a6 a7 a8 a9 a10 a11 a12 a13 a14 a15 a16 a17 a18 a19 a20 a21 hr
theorem re21 {A1 A2 A3 A4 A5 A6 A7 A8 A9 A10 A11 A12 A13 A14 A15 A16 A17 A18 A19 A20 A21 R : Type} {x : Option (A1 × A2 × A3 × A4 × A5 × A6 × A7 × A8 × A9 × A10 × A11 × A12 × A13 × A14 × A15 × A16 × A17 × A18 × A19 × A20 × A21)} {k : A1 → A2 → A3 → A4 → A5 → A6 → A7 → A8 → A9 → A10 → A11 → A12 → A13 → A14 → A15 → A16 → A17 → A18 → A19 → A20 → A21 → Option R} {Q : R → Prop} {a1 : A1} {a2 : A2} {a3 : A3} {a4 : A4} {a5 : A5} {a6 : A6} {a7 : A7} {a8 : A8} {a9 : A9} {a10 : A10} {a11 : A11} {a12 : A12} {a13 : A13} {a14 : A14} {a15 : A15} {a16 : A16} {a17 : A17} {a18 : A18} {a19 : A19} {a20 : A20} {a21 : A21} (h : x = some (a1, a2, a3, a4, a5, a6, a7, a8, a9, a10, a11, a12, a13, a14, a15, a16, a17, a18, a19, a20, a21)) (hk : Rt (k a1 a2 a3 a4 a5 a6 a7 a8 a9 a10 a11 a12 a13 a14 a15 a16 a17 a18 a19 a20 a21) Q) : Rt (bd21 x k) Q := by
  subst h
  exact hk
theorem rl21 {A1 A2 A3 A4 A5 A6 A7 A8 A9 A10 A11 A12 A13 A14 A15 A16 A17 A18 A19 A20 A21 R : Type} {s : (A1 → A2 → A3 → A4 → A5 → A6 → A7 → A8 → A9 → A10 → A11 → A12 → A13 → A14 → A15 → A16 → A17 → A18 → A19 → A20 → A21 → Option R) → A1 → A2 → A3 → A4 → A5 → A6 → A7 → A8 → A9 → A10 → A11 → A12 → A13 → A14 → A15 → A16 → A17 → A18 → A19 → A20 → A21 → Option R} {Q : R → Prop} {a1 : A1} {a2 : A2} {a3 : A3} {a4 : A4} {a5 : A5} {a6 : A6} {a7 : A7} {a8 : A8} {a9 : A9} {a10 : A10} {a11 : A11} {a12 : A12} {a13 : A13} {a14 : A14} {a15 : A15} {a16 : A16} {a17 : A17} {a18 : A18} {a19 : A19} {a20 : A20} {a21 : A21} (n : Nat) (I : Nat → A1 → A2 → A3 → A4 → A5 → A6 → A7 → A8 → A9 → A10 → A11 → A12 → A13 → A14 → A15 → A16 → A17 → A18 → A19 → A20 → A21 → Prop) (hn : n < 99999) (h0 : I 0 a1 a2 a3 a4 a5 a6 a7 a8 a9 a10 a11 a12 a13 a14 a15 a16 a17 a18 a19 a20 a21) (hs : ∀ rc k x1 x2 x3 x4 x5 x6 x7 x8 x9 x10 x11 x12 x13 x14 x15 x16 x17 x18 x19 x20 x21, I k x1 x2 x3 x4 x5 x6 x7 x8 x9 x10 x11 x12 x13 x14 x15 x16 x17 x18 x19 x20 x21 → (k < n → ∀ y1 y2 y3 y4 y5 y6 y7 y8 y9 y10 y11 y12 y13 y14 y15 y16 y17 y18 y19 y20 y21, I (k + 1) y1 y2 y3 y4 y5 y6 y7 y8 y9 y10 y11 y12 y13 y14 y15 y16 y17 y18 y19 y20 y21 → Rt (rc y1 y2 y3 y4 y5 y6 y7 y8 y9 y10 y11 y12 y13 y14 y15 y16 y17 y18 y19 y20 y21) Q) → Rt (s rc x1 x2 x3 x4 x5 x6 x7 x8 x9 x10 x11 x12 x13 x14 x15 x16 x17 x18 x19 x20 x21) Q) : Rt (ml21 s zN a1 a2 a3 a4 a5 a6 a7 a8 a9 a10 a11 a12 a13 a14 a15 a16 a17 a18 a19 a20 a21) Q := by
  have key : ∀ (m k f : Nat) x1 x2 x3 x4 x5 x6 x7 x8 x9 x10 x11 x12 x13 x14 x15 x16 x17 x18 x19 x20 x21, n ≤ k + m → m < f → I k x1 x2 x3 x4 x5 x6 x7 x8 x9 x10 x11 x12 x13 x14 x15 x16 x17 x18 x19 x20 x21 → Rt (ml21 s f x1 x2 x3 x4 x5 x6 x7 x8 x9 x10 x11 x12 x13 x14 x15 x16 x17 x18 x19 x20 x21) Q := by
    intro m
    induction m with
    | zero =>
      intro k f x1 x2 x3 x4 x5 x6 x7 x8 x9 x10 x11 x12 x13 x14 x15 x16 x17 x18 x19 x20 x21 hk hf hI
      obtain ⟨f, rfl⟩ : ∃ f', f = f' + 1 := ⟨f - 1, by omega⟩
      exact hs (ml21 s f) k x1 x2 x3 x4 x5 x6 x7 x8 x9 x10 x11 x12 x13 x14 x15 x16 x17 x18 x19 x20 x21 hI (fun hk' => absurd hk' (by omega))
    | succ m ih =>
      intro k f x1 x2 x3 x4 x5 x6 x7 x8 x9 x10 x11 x12 x13 x14 x15 x16 x17 x18 x19 x20 x21 hk hf hI
      obtain ⟨f, rfl⟩ : ∃ f', f = f' + 1 := ⟨f - 1, by omega⟩
      exact hs (ml21 s f) k x1 x2 x3 x4 x5 x6 x7 x8 x9 x10 x11 x12 x13 x14 x15 x16 x17 x18 x19 x20 x21 hI (fun _ y1 y2 y3 y4 y5 y6 y7 y8 y9 y10 y11 y12 y13 y14 y15 y16 y17 y18 y19 y20 y21 hI' => ih (k + 1) f y1 y2 y3 y4 y5 y6 y7 y8 y9 y10 y11 y12 y13 y14 y15 y16 y17 y18 y19 y20 y21 (by omega) (by omega) hI')
  exact key n 0 zN a1 a2 a3 a4 a5 a6 a7 a8 a9 a10 a11 a12 a13 a14 a15 a16 a17 a18 a19 a20 a21 (by omega) (by show n < 100000; omega) h0
theorem rb22 {A1 A2 A3 A4 A5 A6 A7 A8 A9 A10 A11 A12 A13 A14 A15 A16 A17 A18 A19 A20 A21 A22 R : Type} {x : Option (A1 × A2 × A3 × A4 × A5 × A6 × A7 × A8 × A9 × A10 × A11 × A12 × A13 × A14 × A15 × A16 × A17 × A18 × A19 × A20 × A21 × A22)} {k : A1 → A2 → A3 → A4 → A5 → A6 → A7 → A8 → A9 → A10 → A11 → A12 → A13 → A14 → A15 → A16 → A17 → A18 → A19 → A20 → A21 → A22 → Option R} {P : A1 × A2 × A3 × A4 × A5 × A6 × A7 × A8 × A9 × A10 × A11 × A12 × A13 × A14 × A15 × A16 × A17 × A18 × A19 × A20 × A21 × A22 → Prop} {Q : R → Prop} (h : Rt x P) (hk : ∀ a1 a2 a3 a4 a5 a6 a7 a8 a9 a10 a11 a12 a13 a14 a15 a16 a17 a18 a19 a20 a21 a22, P (a1, a2, a3, a4, a5, a6, a7, a8, a9, a10, a11, a12, a13, a14, a15, a16, a17, a18, a19, a20, a21, a22) → Rt (k a1 a2 a3 a4 a5 a6 a7 a8 a9 a10 a11 a12 a13 a14 a15 a16 a17 a18 a19 a20 a21 a22) Q) : Rt (bd22 x k) Q := by
  obtain ⟨⟨a1, a2, a3, a4, a5, a6, a7, a8, a9, a10, a11, a12, a13, a14, a15, a16, a17, a18, a19, a20, a21, a22⟩, rfl, hr⟩ := h
  exact hk a1 a2 a3 a4 a5 a6 a7 a8 a9 a10 a11 a12 a13 a14 a15 a16 a17 a18 a19 a20 a21 a22 hr
theorem re22 {A1 A2 A3 A4 A5 A6 A7 A8 A9 A10 A11 A12 A13 A14 A15 A16 A17 A18 A19 A20 A21 A22 R : Type} {x : Option (A1 × A2 × A3 × A4 × A5 × A6 × A7 × A8 × A9 × A10 × A11 × A12 × A13 × A14 × A15 × A16 × A17 × A18 × A19 × A20 × A21 × A22)} {k : A1 → A2 → A3 → A4 → A5 → A6 → A7 → A8 → A9 → A10 → A11 → A12 → A13 → A14 → A15 → A16 → A17 → A18 → A19 → A20 → A21 → A22 → Option R} {Q : R → Prop} {a1 : A1} {a2 : A2} {a3 : A3} {a4 : A4} {a5 : A5} {a6 : A6} {a7 : A7} {a8 : A8} {a9 : A9} {a10 : A10} {a11 : A11} {a12 : A12} {a13 : A13} {a14 : A14} {a15 : A15} {a16 : A16} {a17 : A17} {a18 : A18} {a19 : A19} {a20 : A20} {a21 : A21} {a22 : A22} (h : x = some (a1, a2, a3, a4, a5, a6, a7, a8, a9, a10, a11, a12, a13, a14, a15, a16, a17, a18, a19, a20, a21, a22)) (hk : Rt (k a1 a2 a3 a4 a5 a6 a7 a8 a9 a10 a11 a12 a13 a14 a15 a16 a17 a18 a19 a20 a21 a22) Q) : Rt (bd22 x k) Q := by
  subst h
  exact hk
theorem rl22 {A1 A2 A3 A4 A5 A6 A7 A8 A9 A10 A11 A12 A13 A14 A15 A16 A17 A18 A19 A20 A21 A22 R : Type} {s : (A1 → A2 → A3 → A4 → A5 → A6 → A7 → A8 → A9 → A10 → A11 → A12 → A13 → A14 → A15 → A16 → A17 → A18 → A19 → A20 → A21 → A22 → Option R) → A1 → A2 → A3 → A4 → A5 → A6 → A7 → A8 → A9 → A10 → A11 → A12 → A13 → A14 → A15 → A16 → A17 → A18 → A19 → A20 → A21 → A22 → Option R} {Q : R → Prop} {a1 : A1} {a2 : A2} {a3 : A3} {a4 : A4} {a5 : A5} {a6 : A6} {a7 : A7} {a8 : A8} {a9 : A9} {a10 : A10} {a11 : A11} {a12 : A12} {a13 : A13} {a14 : A14} {a15 : A15} {a16 : A16} {a17 : A17} {a18 : A18} {a19 : A19} {a20 : A20} {a21 : A21} {a22 : A22} (n : Nat) (I : Nat → A1 → A2 → A3 → A4 → A5 → A6 → A7 → A8 → A9 → A10 → A11 → A12 → A13 → A14 → A15 → A16 → A17 → A18 → A19 → A20 → A21 → A22 → Prop) (hn : n < 99999) (h0 : I 0 a1 a2 a3 a4 a5 a6 a7 a8 a9 a10 a11 a12 a13 a14 a15 a16 a17 a18 a19 a20 a21 a22) (hs : ∀ rc k x1 x2 x3 x4 x5 x6 x7 x8 x9 x10 x11 x12 x13 x14 x15 x16 x17 x18 x19 x20 x21 x22, I k x1 x2 x3 x4 x5 x6 x7 x8 x9 x10 x11 x12 x13 x14 x15 x16 x17 x18 x19 x20 x21 x22 → (k < n → ∀ y1 y2 y3 y4 y5 y6 y7 y8 y9 y10 y11 y12 y13 y14 y15 y16 y17 y18 y19 y20 y21 y22, I (k + 1) y1 y2 y3 y4 y5 y6 y7 y8 y9 y10 y11 y12 y13 y14 y15 y16 y17 y18 y19 y20 y21 y22 → Rt (rc y1 y2 y3 y4 y5 y6 y7 y8 y9 y10 y11 y12 y13 y14 y15 y16 y17 y18 y19 y20 y21 y22) Q) → Rt (s rc x1 x2 x3 x4 x5 x6 x7 x8 x9 x10 x11 x12 x13 x14 x15 x16 x17 x18 x19 x20 x21 x22) Q) : Rt (ml22 s zN a1 a2 a3 a4 a5 a6 a7 a8 a9 a10 a11 a12 a13 a14 a15 a16 a17 a18 a19 a20 a21 a22) Q := by
  have key : ∀ (m k f : Nat) x1 x2 x3 x4 x5 x6 x7 x8 x9 x10 x11 x12 x13 x14 x15 x16 x17 x18 x19 x20 x21 x22, n ≤ k + m → m < f → I k x1 x2 x3 x4 x5 x6 x7 x8 x9 x10 x11 x12 x13 x14 x15 x16 x17 x18 x19 x20 x21 x22 → Rt (ml22 s f x1 x2 x3 x4 x5 x6 x7 x8 x9 x10 x11 x12 x13 x14 x15 x16 x17 x18 x19 x20 x21 x22) Q := by
    intro m
    induction m with
    | zero =>
      intro k f x1 x2 x3 x4 x5 x6 x7 x8 x9 x10 x11 x12 x13 x14 x15 x16 x17 x18 x19 x20 x21 x22 hk hf hI
      obtain ⟨f, rfl⟩ : ∃ f', f = f' + 1 := ⟨f - 1, by omega⟩
      exact hs (ml22 s f) k x1 x2 x3 x4 x5 x6 x7 x8 x9 x10 x11 x12 x13 x14 x15 x16 x17 x18 x19 x20 x21 x22 hI (fun hk' => absurd hk' (by omega))
    | succ m ih =>
      intro k f x1 x2 x3 x4 x5 x6 x7 x8 x9 x10 x11 x12 x13 x14 x15 x16 x17 x18 x19 x20 x21 x22 hk hf hI
      obtain ⟨f, rfl⟩ : ∃ f', f = f' + 1 := ⟨f - 1, by omega⟩
      exact hs (ml22 s f) k x1 x2 x3 x4 x5 x6 x7 x8 x9 x10 x11 x12 x13 x14 x15 x16 x17 x18 x19 x20 x21 x22 hI (fun _ y1 y2 y3 y4 y5 y6 y7 y8 y9 y10 y11 y12 y13 y14 y15 y16 y17 y18 y19 y20 y21 y22 hI' => ih (k + 1) f y1 y2 y3 y4 y5 y6 y7 y8 y9 y10 y11 y12 y13 y14 y15 y16 y17 y18 y19 y20 y21 y22 (by omega) (by omega) hI')
  exact key n 0 zN a1 a2 a3 a4 a5 a6 a7 a8 a9 a10 a11 a12 a13 a14 a15 a16 a17 a18 a19 a20 a21 a22 (by omega) (by show n < 100000; omega) h0
theorem rb23 {A1 A2 A3 A4 A5 A6 A7 A8 A9 A10 A11 A12 A13 A14 A15 A16 A17 A18 A19 A20 A21 A22 A23 R : Type} {x : Option (A1 × A2 × A3 × A4 × A5 × A6 × A7 × A8 × A9 × A10 × A11 × A12 × A13 × A14 × A15 × A16 × A17 × A18 × A19 × A20 × A21 × A22 × A23)} {k : A1 → A2 → A3 → A4 → A5 → A6 → A7 → A8 → A9 → A10 → A11 → A12 → A13 → A14 → A15 → A16 → A17 → A18 → A19 → A20 → A21 → A22 → A23 → Option R} {P : A1 × A2 × A3 × A4 × A5 × A6 × A7 × A8 × A9 × A10 × A11 × A12 × A13 × A14 × A15 × A16 × A17 × A18 × A19 × A20 × A21 × A22 × A23 → Prop} {Q : R → Prop} (h : Rt x P) (hk : ∀ a1 a2 a3 a4 a5 a6 a7 a8 a9 a10 a11 a12 a13 a14 a15 a16 a17 a18 a19 a20 a21 a22 a23, P (a1, a2, a3, a4, a5, a6, a7, a8, a9, a10, a11, a12, a13, a14, a15, a16, a17, a18, a19, a20, a21, a22, a23) → Rt (k a1 a2 a3 a4 a5 a6 a7 a8 a9 a10 a11 a12 a13 a14 a15 a16 a17 a18 a19 a20 a21 a22 a23) Q) : Rt (bd23 x k) Q := by
  obtain ⟨⟨a1, a2, a3, a4, a5, a6, a7, a8, a9, a10, a11, a12, a13, a14, a15, a16, a17, a18, a19, a20, a21, a22, a23⟩, rfl, hr⟩ := h
  exact hk a1 a2 a3 a4 a5 a6 a7 a8 a9 a10 a11 a12 a13 a14 a15 a16 a17 a18 a19 a20 a21 a22 a23 hr
theorem re23 {A1 A2 A3 A4 A5 A6 A7 A8 A9 A10 A11 A12 A13 A14 A15 A16 A17 A18 A19 A20 A21 A22 A23 R : Type} {x : Option (A1 × A2 × A3 × A4 × A5 × A6 × A7 × A8 × A9 × A10 × A11 × A12 × A13 × A14 × A15 × A16 × A17 × A18 × A19 × A20 × A21 × A22 × A23)} {k : A1 → A2 → A3 → A4 → A5 → A6 → A7 → A8 → A9 → A10 → A11 → A12 → A13 → A14 → A15 → A16 → A17 → A18 → A19 → A20 → A21 → A22 → A23 → Option R} {Q : R → Prop} {a1 : A1} {a2 : A2} {a3 : A3} {a4 : A4} {a5 : A5} {a6 : A6} {a7 : A7} {a8 : A8} {a9 : A9} {a10 : A10} {a11 : A11} {a12 : A12} {a13 : A13} {a14 : A14} {a15 : A15} {a16 : A16} {a17 : A17} {a18 : A18} {a19 : A19} {a20 : A20} {a21 : A21} {a22 : A22} {a23 : A23} (h : x = some (a1, a2, a3, a4, a5, a6, a7, a8, a9, a10, a11, a12, a13, a14, a15, a16, a17, a18, a19, a20, a21, a22, a23)) (hk : Rt (k a1 a2 a3 a4 a5 a6 a7 a8 a9 a10 a11 a12 a13 a14 a15 a16 a17 a18 a19 a20 a21 a22 a23) Q) : Rt (bd23 x k) Q := by
  subst h
  exact hk
theorem rl23 {A1 A2 A3 A4 A5 A6 A7 A8 A9 A10 A11 A12 A13 A14 A15 A16 A17 A18 A19 A20 A21 A22 A23 R : Type} {s : (A1 → A2 → A3 → A4 → A5 → A6 → A7 → A8 → A9 → A10 → A11 → A12 → A13 → A14 → A15 → A16 → A17 → A18 → A19 → A20 → A21 → A22 → A23 → Option R) → A1 → A2 → A3 → A4 → A5 → A6 → A7 → A8 → A9 → A10 → A11 → A12 → A13 → A14 → A15 → A16 → A17 → A18 → A19 → A20 → A21 → A22 → A23 → Option R} {Q : R → Prop} {a1 : A1} {a2 : A2} {a3 : A3} {a4 : A4} {a5 : A5} {a6 : A6} {a7 : A7} {a8 : A8} {a9 : A9} {a10 : A10} {a11 : A11} {a12 : A12} {a13 : A13} {a14 : A14} {a15 : A15} {a16 : A16} {a17 : A17} {a18 : A18} {a19 : A19} {a20 : A20} {a21 : A21} {a22 : A22} {a23 : A23} (n : Nat) (I : Nat → A1 → A2 → A3 → A4 → A5 → A6 → A7 → A8 → A9 → A10 → A11 → A12 → A13 → A14 → A15 → A16 → A17 → A18 → A19 → A20 → A21 → A22 → A23 → Prop) (hn : n < 99999) (h0 : I 0 a1 a2 a3 a4 a5 a6 a7 a8 a9 a10 a11 a12 a13 a14 a15 a16 a17 a18 a19 a20 a21 a22 a23) (hs : ∀ rc k x1 x2 x3 x4 x5 x6 x7 x8 x9 x10 x11 x12 x13 x14 x15 x16 x17 x18 x19 x20 x21 x22 x23, I k x1 x2 x3 x4 x5 x6 x7 x8 x9 x10 x11 x12 x13 x14 x15 x16 x17 x18 x19 x20 x21 x22 x23 → (k < n → ∀ y1 y2 y3 y4 y5 y6 y7 y8 y9 y10 y11 y12 y13 y14 y15 y16 y17 y18 y19 y20 y21 y22 y23, I (k + 1) y1 y2 y3 y4 y5 y6 y7 y8 y9 y10 y11 y12 y13 y14 y15 y16 y17 y18 y19 y20 y21 y22 y23 → Rt (rc y1 y2 y3 y4 y5 y6 y7 y8 y9 y10 y11 y12 y13 y14 y15 y16 y17 y18 y19 y20 y21 y22 y23) Q) → Rt (s rc x1 x2 x3 x4 x5 x6 x7 x8 x9 x10 x11 x12 x13 x14 x15 x16 x17 x18 x19 x20 x21 x22 x23) Q) : Rt (ml23 s zN a1 a2 a3 a4 a5 a6 a7 a8 a9 a10 a11 a12 a13 a14 a15 a16 a17 a18 a19 a20 a21 a22 a23) Q := by
  have key : ∀ (m k f : Nat) x1 x2 x3 x4 x5 x6 x7 x8 x9 x10 x11 x12 x13 x14 x15 x16 x17 x18 x19 x20 x21 x22 x23, n ≤ k + m → m < f → I k x1 x2 x3 x4 x5 x6 x7 x8 x9 x10 x11 x12 x13 x14 x15 x16 x17 x18 x19 x20 x21 x22 x23 → Rt (ml23 s f x1 x2 x3 x4 x5 x6 x7 x8 x9 x10 x11 x12 x13 x14 x15 x16 x17 x18 x19 x20 x21 x22 x23) Q := by
    intro m
    induction m with
    | zero =>
      intro k f x1 x2 x3 x4 x5 x6 x7 x8 x9 x10 x11 x12 x13 x14 x15 x16 x17 x18 x19 x20 x21 x22 x23 hk hf hI
      obtain ⟨f, rfl⟩ : ∃ f', f = f' + 1 := ⟨f - 1, by omega⟩
      exact hs (ml23 s f) k x1 x2 x3 x4 x5 x6 x7 x8 x9 x10 x11 x12 x13 x14 x15 x16 x17 x18 x19 x20 x21 x22 x23 hI (fun hk' => absurd hk' (by omega))
    | succ m ih =>
      intro k f x1 x2 x3 x4 x5 x6 x7 x8 x9 x10 x11 x12 x13 x14 x15 x16 x17 x18 x19 x20 x21 x22 x23 hk hf hI
      obtain ⟨f, rfl⟩ : ∃ f', f = f' + 1 := ⟨f - 1, by omega⟩
      exact hs (ml23 s f) k x1 x2 x3 x4 x5 x6 x7 x8 x9 x10 x11 x12 x13 x14 x15 x16 x17 x18 x19 x20 x21 x22 x23 hI (fun _ y1 y2 y3 y4 y5 y6 y7 y8 y9 y10 y11 y12 y13 y14 y15 y16 y17 y18 y19 y20 y21 y22 y23 hI' => ih (k + 1) f y1 y2 y3 y4 y5 y6 y7 y8 y9 y10 y11 y12 y13 y14 y15 y16 y17 y18 y19 y20 y21 y22 y23 (by omega) (by omega) hI')
  exact key n 0 zN a1 a2 a3 a4 a5 a6 a7 a8 a9 a10 a11 a12 a13 a14 a15 a16 a17 a18 a19 a20 a21 a22 a23 (by omega) (by show n < 100000; omega) h0
theorem rb24 {A1 A2 A3 A4 A5 A6 A7 A8 A9 A10 A11 A12 A13 A14 A15 A16 A17 A18 A19 A20 A21 A22 A23 A24 R : Type} {x : Option (A1 × A2 × A3 × A4 × A5 × A6 × A7 × A8 × A9 × A10 × A11 × A12 × A13 × A14 × A15 × A16 × A17 × A18 × A19 × A20 × A21 × A22 × A23 × A24)} {k : A1 → A2 → A3 → A4 → A5 → A6 → A7 → A8 → A9 → A10 → A11 → A12 → A13 → A14 → A15 → A16 → A17 → A18 → A19 → A20 → A21 → A22 → A23 → A24 → Option R} {P : A1 × A2 × A3 × A4 × A5 × A6 × A7 × A8 × A9 × A10 × A11 × A12 × A13 × A14 × A15 × A16 × A17 × A18 × A19 × A20 × A21 × A22 × A23 × A24 → Prop} {Q : R → Prop} (h : Rt x P) (hk : ∀ a1 a2 a3 a4 a5 a6 a7 a8 a9 a10 a11 a12 a13 a14 a15 a16 a17 a18 a19 a20 a21 a22 a23 a24, P (a1, a2, a3, a4, a5, a6, a7, a8, a9, a10, a11, a12, a13, a14, a15, a16, a17, a18, a19, a20, a21, a22, a23, a24) → Rt (k a1 a2 a3 a4 a5 a6 a7 a8 a9 a10 a11 a12 a13 a14 a15 a16 a17 a18 a19 a20 a21 a22 a23 a24) Q) : Rt (bd24 x k) Q := by
  obtain ⟨⟨a1, a2, a3, a4, a5, a6, a7, a8, a9, a10, a11, a12, a13, a14, a15, a16, a17, a18, a19, a20, a21, a22, a23, a24⟩, rfl, hr⟩ := h
  exact hk a1 a2 a3 a4 a5 a6 a7 a8 a9 a10 a11 a12 a13 a14 a15 a16 a17 a18 a19 a20 a21 a22 a23 a24 hr
theorem re24 {A1 A2 A3 A4 A5 A6 A7 A8 A9 A10 A11 A12 A13 A14 A15 A16 A17 A18 A19 A20 A21 A22 A23 A24 R : Type} {x : Option (A1 × A2 × A3 × A4 × A5 × A6 × A7 × A8 × A9 × A10 × A11 × A12 × A13 × A14 × A15 × A16 × A17 × A18 × A19 × A20 × A21 × A22 × A23 × A24)} {k : A1 → A2 → A3 → A4 → A5 → A6 → A7 → A8 → A9 → A10 → A11 → A12 → A13 → A14 → A15 → A16 → A17 → A18 → A19 → A20 → A21 → A22 → A23 → A24 → Option R} {Q : R → Prop} {a1 : A1} {a2 : A2} {a3 : A3} {a4 : A4} {a5 : A5} {a6 : A6} {a7 : A7} {a8 : A8} {a9 : A9} {a10 : A10} {a11 : A11} {a12 : A12} {a13 : A13} {a14 : A14} {a15 : A15} {a16 : A16} {a17 : A17} {a18 : A18} {a19 : A19} {a20 : A20} {a21 : A21} {a22 : A22} {a23 : A23} {a24 : A24} (h : x = some (a1, a2, a3, a4, a5, a6, a7, a8, a9, a10, a11, a12, a13, a14, a15, a16, a17, a18, a19, a20, a21, a22, a23, a24)) (hk : Rt (k a1 a2 a3 a4 a5 a6 a7 a8 a9 a10 a11 a12 a13 a14 a15 a16 a17 a18 a19 a20 a21 a22 a23 a24) Q) : Rt (bd24 x k) Q := by
  subst h
  exact hk
theorem rl24 {A1 A2 A3 A4 A5 A6 A7 A8 A9 A10 A11 A12 A13 A14 A15 A16 A17 A18 A19 A20 A21 A22 A23 A24 R : Type} {s : (A1 → A2 → A3 → A4 → A5 → A6 → A7 → A8 → A9 → A10 → A11 → A12 → A13 → A14 → A15 → A16 → A17 → A18 → A19 → A20 → A21 → A22 → A23 → A24 → Option R) → A1 → A2 → A3 → A4 → A5 → A6 → A7 → A8 → A9 → A10 → A11 → A12 → A13 → A14 → A15 → A16 → A17 → A18 → A19 → A20 → A21 → A22 → A23 → A24 → Option R} {Q : R → Prop} {a1 : A1} {a2 : A2} {a3 : A3} {a4 : A4} {a5 : A5} {a6 : A6} {a7 : A7} {a8 : A8} {a9 : A9} {a10 : A10} {a11 : A11} {a12 : A12} {a13 : A13} {a14 : A14} {a15 : A15} {a16 : A16} {a17 : A17} {a18 : A18} {a19 : A19} {a20 : A20} {a21 : A21} {a22 : A22} {a23 : A23} {a24 : A24} (n : Nat) (I : Nat → A1 → A2 → A3 → A4 → A5 → A6 → A7 → A8 → A9 → A10 → A11 → A12 → A13 → A14 → A15 → A16 → A17 → A18 → A19 → A20 → A21 → A22 → A23 → A24 → Prop) (hn : n < 99999) (h0 : I 0 a1 a2 a3 a4 a5 a6 a7 a8 a9 a10 a11 a12 a13 a14 a15 a16 a17 a18 a19 a20 a21 a22 a23 a24) (hs : ∀ rc k x1 x2 x3 x4 x5 x6 x7 x8 x9 x10 x11 x12 x13 x14 x15 x16 x17 x18 x19 x20 x21 x22 x23 x24, I k x1 x2 x3 x4 x5 x6 x7 x8 x9 x10 x11 x12 x13 x14 x15 x16 x17 x18 x19 x20 x21 x22 x23 x24 → (k < n → ∀ y1 y2 y3 y4 y5 y6 y7 y8 y9 y10 y11 y12 y13 y14 y15 y16 y17 y18 y19 y20 y21 y22 y23 y24, I (k + 1) y1 y2 y3 y4 y5 y6 y7 y8 y9 y10 y11 y12 y13 y14 y15 y16 y17 y18 y19 y20 y21 y22 y23 y24 → Rt (rc y1 y2 y3 y4 y5 y6 y7 y8 y9 y10 y11 y12 y13 y14 y15 y16 y17 y18 y19 y20 y21 y22 y23 y24) Q) → Rt (s rc x1 x2 x3 x4 x5 x6 x7 x8 x9 x10 x11 x12 x13 x14 x15 x16 x17 x18 x19 x20 x21 x22 x23 x24) Q) : Rt (ml24 s zN a1 a2 a3 a4 a5 a6 a7 a8 a9 a10 a11 a12 a13 a14 a15 a16 a17 a18 a19 a20 a21 a22 a23 a24) Q := by
  have key : ∀ (m k f : Nat) x1 x2 x3 x4 x5 x6 x7 x8 x9 x10 x11 x12 x13 x14 x15 x16 x17 x18 x19 x20 x21 x22 x23 x24, n ≤ k + m → m < f → I k x1 x2 x3 x4 x5 x6 x7 x8 x9 x10 x11 x12 x13 x14 x15 x16 x17 x18 x19 x20 x21 x22 x23 x24 → Rt (ml24 s f x1 x2 x3 x4 x5 x6 x7 x8 x9 x10 x11 x12 x13 x14 x15 x16 x17 x18 x19 x20 x21 x22 x23 x24) Q := by
    intro m
    induction m with
    | zero =>
      intro k f x1 x2 x3 x4 x5 x6 x7 x8 x9 x10 x11 x12 x13 x14 x15 x16 x17 x18 x19 x20 x21 x22 x23 x24 hk hf hI
      obtain ⟨f, rfl⟩ : ∃ f', f = f' + 1 := ⟨f - 1, by omega⟩
      exact hs (ml24 s f) k x1 x2 x3 x4 x5 x6 x7 x8 x9 x10 x11 x12 x13 x14 x15 x16 x17 x18 x19 x20 x21 x22 x23 x24 hI (fun hk' => absurd hk' (by omega))
    | succ m ih =>
      intro k f x1 x2 x3 x4 x5 x6 x7 x8 x9 x10 x11 x12 x13 x14 x15 x16 x17 x18 x19 x20 x21 x22 x23 x24 hk hf hI
      obtain ⟨f, rfl⟩ : ∃ f', f = f' + 1 := ⟨f - 1, by omega⟩
      exact hs (ml24 s f) k x1 x2 x3 x4 x5 x6 x7 x8 x9 x10 x11 x12 x13 x14 x15 x16 x17 x18 x19 x20 x21 x22 x23 x24 hI (fun _ y1 y2 y3 y4 y5 y6 y7 y8 y9 y10 y11 y12 y13 y14 y15 y16 y17 y18 y19 y20 y21 y22 y23 y24 hI' => ih (k + 1) f y1 y2 y3 y4 y5 y6 y7 y8 y9 y10 y11 y12 y13 y14 y15 y16 y17 y18 y19 y20 y21 y22 y23 y24 (by omega) (by omega) hI')
  exact key n 0 zN a1 a2 a3 a4 a5 a6 a7 a8 a9 a10 a11 a12 a13 a14 a15 a16 a17 a18 a19 a20 a21 a22 a23 a24 (by omega) (by show n < 100000; omega) h0
theorem rb25 {A1 A2 A3 A4 A5 A6 A7 A8 A9 A10 A11 A12 A13 A14 A15 A16 A17 A18 A19 A20 A21 A22 A23 A24 A25 R : Type} {x : Option (A1 × A2 × A3 × A4 × A5 × A6 × A7 × A8 × A9 × A10 × A11 × A12 × A13 × A14 × A15 × A16 × A17 × A18 × A19 × A20 × A21 × A22 × A23 × A24 × A25)} {k : A1 → A2 → A3 → A4 → A5 → A6 → A7 → A8 → A9 → A10 → A11 → A12 → A13 → A14 → A15 → A16 → A17 → A18 → A19 → A20 → A21 → A22 → A23 → A24 → A25 → Option R} {P : A1 × A2 × A3 × A4 × A5 × A6 × A7 × A8 × A9 × A10 × A11 × A12 × A13 × A14 × A15 × A16 × A17 × A18 × A19 × A20 × A21 × A22 × A23 × A24 × A25 → Prop} {Q : R → Prop} (h : Rt x P) (hk : ∀ a1 a2 a3 a4 a5 a6 a7 a8 a9 a10 a11 a12 a13 a14 a15 a16 a17 a18 a19 a20 a21 a22 a23 a24 a25, P (a1, a2, a3, a4, a5, a6, a7, a8, a9, a10, a11, a12, a13, a14, a15, a16, a17, a18, a19, a20, a21, a22, a23, a24, a25) → Rt (k a1 a2 a3 a4 a5 a6 a7 a8 a9 a10 a11 a12 a13 a14 a15 a16 a17 a18 a19 a20 a21 a22 a23 a24 a25) Q) : Rt (bd25 x k) Q := by
  obtain ⟨⟨a1, a2, a3, a4, a5, a6, a7, a8, a9, a10, a11, a12, a13, a14, a15, a16, a17, a18, a19, a20, a21, a22, a23, a24, a25⟩, rfl, hr⟩ := h
  exact hk a1 a2 a3 a4 a5 a6 a7 a8 a9 a10 a11 a12 a13 a14 a15 a16 a17 a18 a19 a20 a21 a22 a23 a24 a25 hr
theorem re25 {A1 A2 A3 A4 A5 A6 A7 A8 A9 A10 A11 A12 A13 A14 A15 A16 A17 A18 A19 A20 A21 A22 A23 A24 A25 R : Type} {x : Option (A1 × A2 × A3 × A4 × A5 × A6 × A7 × A8 × A9 × A10 × A11 × A12 × A13 × A14 × A15 × A16 × A17 × A18 × A19 × A20 × A21 × A22 × A23 × A24 × A25)} {k : A1 → A2 → A3 → A4 → A5 → A6 → A7 → A8 → A9 → A10 → A11 → A12 → A13 → A14 → A15 → A16 → A17 → A18 → A19 → A20 → A21 → A22 → A23 → A24 → A25 → Option R} {Q : R → Prop} {a1 : A1} {a2 : A2} {a3 : A3} {a4 : A4} {a5 : A5} {a6 : A6} {a7 : A7} {a8 : A8} {a9 : A9} {a10 : A10} {a11 : A11} {a12 : A12} {a13 : A13} {a14 : A14} {a15 : A15} {a16 : A16} {a17 : A17} {a18 : A18} {a19 : A19} {a20 : A20} {a21 : A21} {a22 : A22} {a23 : A23} {a24 : A24} {a25 : A25} (h : x = some (a1, a2, a3, a4, a5, a6, a7, a8, a9, a10, a11, a12, a13, a14, a15, a16, a17, a18, a19, a20, a21, a22, a23, a24, a25)) (hk : Rt (k a1 a2 a3 a4 a5 a6 a7 a8 a9 a10 a11 a12 a13 a14 a15 a16 a17 a18 a19 a20 a21 a22 a23 a24 a25) Q) : Rt (bd25 x k) Q := by
  subst h
  exact hk
theorem rl25 {A1 A2 A3 A4 A5 A6 A7 A8 A9 A10 A11 A12 A13 A14 A15 A16 A17 A18 A19 A20 A21 A22 A23 A24 A25 R : Type} {s : (A1 → A2 → A3 → A4 → A5 → A6 → A7 → A8 → A9 → A10 → A11 → A12 → A13 → A14 → A15 → A16 → A17 → A18 → A19 → A20 → A21 → A22 → A23 → A24 → A25 → Option R) → A1 → A2 → A3 → A4 → A5 → A6 → A7 → A8 → A9 → A10 → A11 → A12 → A13 → A14 → A15 → A16 → A17 → A18 → A19 → A20 → A21 → A22 → A23 → A24 → A25 → Option R} {Q : R → Prop} {a1 : A1} {a2 : A2} {a3 : A3} {a4 : A4} {a5 : A5} {a6 : A6} {a7 : A7} {a8 : A8} {a9 : A9} {a10 : A10} {a11 : A11} {a12 : A12} {a13 : A13} {a14 : A14} {a15 : A15} {a16 : A16} {a17 : A17} {a18 : A18} {a19 : A19} {a20 : A20} {a21 : A21} {a22 : A22} {a23 : A23} {a24 : A24} {a25 : A25} (n : Nat) (I : Nat → A1 → A2 → A3 → A4 → A5 → A6 → A7 → A8 → A9 → A10 → A11 → A12 → A13 → A14 → A15 → A16 → A17 → A18 → A19 → A20 → A21 → A22 → A23 → A24 → A25 → Prop) (hn : n < 99999) (h0 : I 0 a1 a2 a3 a4 a5 a6 a7 a8 a9 a10 a11 a12 a13 a14 a15 a16 a17 a18 a19 a20 a21 a22 a23 a24 a25) (hs : ∀ rc k x1 x2 x3 x4 x5 x6 x7 x8 x9 x10 x11 x12 x13 x14 x15 x16 x17 x18 x19 x20 x21 x22 x23 x24 x25, I k x1 x2 x3 x4 x5 x6 x7 x8 x9 x10 x11 x12 x13 x14 x15 x16 x17 x18 x19 x20 x21 x22 x23 x24 x25 → (k < n → ∀ y1 y2 y3 y4 y5 y6 y7 y8 y9 y10 y11 y12 y13 y14 y15 y16 y17 y18 y19 y20 y21 y22 y23 y24 y25, I (k + 1) y1 y2 y3 y4 y5 y6 y7 y8 y9 y10 y11 y12 y13 y14 y15 y16 y17 y18 y19 y20 y21 y22 y23 y24 y25 → Rt (rc y1 y2 y3 y4 y5 y6 y7 y8 y9 y10 y11 y12 y13 y14 y15 y16 y17 y18 y19 y20 y21 y22 y23 y24 y25) Q) → Rt (s rc x1 x2 x3 x4 x5 x6 x7 x8 x9 x10 x11 x12 x13 x14 x15 x16 x17 x18 x19 x20 x21 x22 x23 x24 x25) Q) : Rt (ml25 s zN a1 a2 a3 a4 a5 a6 a7 a8 a9 a10 a11 a12 a13 a14 a15 a16 a17 a18 a19 a20 a21 a22 a23 a24 a25) Q := by
  have key : ∀ (m k f : Nat) x1 x2 x3 x4 x5 x6 x7 x8 x9 x10 x11 x12 x13 x14 x15 x16 x17 x18 x19 x20 x21 x22 x23 x24 x25, n ≤ k + m → m < f → I k x1 x2 x3 x4 x5 x6 x7 x8 x9 x10 x11 x12 x13 x14 x15 x16 x17 x18 x19 x20 x21 x22 x23 x24 x25 → Rt (ml25 s f x1 x2 x3 x4 x5 x6 x7 x8 x9 x10 x11 x12 x13 x14 x15 x16 x17 x18 x19 x20 x21 x22 x23 x24 x25) Q := by
    intro m
    induction m with
    | zero =>
      intro k f x1 x2 x3 x4 x5 x6 x7 x8 x9 x10 x11 x12 x13 x14 x15 x16 x17 x18 x19 x20 x21 x22 x23 x24 x25 hk hf hI
      obtain ⟨f, rfl⟩ : ∃ f', f = f' + 1 := ⟨f - 1, by omega⟩
      exact hs (ml25 s f) k x1 x2 x3 x4 x5 x6 x7 x8 x9 x10 x11 x12 x13 x14 x15 x16 x17 x18 x19 x20 x21 x22 x23 x24 x25 hI (fun hk' => absurd hk' (by omega))
    | succ m ih =>
      intro k f x1 x2 x3 x4 x5 x6 x7 x8 x9 x10 x11 x12 x13 x14 x15 x16 x17 x18 x19 x20 x21 x22 x23 x24 x25 hk hf hI
      obtain ⟨f, rfl⟩ : ∃ f', f = f' + 1 := ⟨f - 1, by omega⟩
      exact hs (ml25 s f) k x1 x2 x3 x4 x5 x6 x7 x8 x9 x10 x11 x12 x13 x14 x15 x16 x17 x18 x19 x20 x21 x22 x23 x24 x25 hI (fun _ y1 y2 y3 y4 y5 y6 y7 y8 y9 y10 y11 y12 y13 y14 y15 y16 y17 y18 y19 y20 y21 y22 y23 y24 y25 hI' => ih (k + 1) f y1 y2 y3 y4 y5 y6 y7 y8 y9 y10 y11 y12 y13 y14 y15 y16 y17 y18 y19 y20 y21 y22 y23 y24 y25 (by omega) (by omega) hI')
  exact key n 0 zN a1 a2 a3 a4 a5 a6 a7 a8 a9 a10 a11 a12 a13 a14 a15 a16 a17 a18 a19 a20 a21 a22 a23 a24 a25 (by omega) (by show n < 100000; omega) h0
theorem rb26 {A1 A2 A3 A4 A5 A6 A7 A8 A9 A10 A11 A12 A13 A14 A15 A16 A17 A18 A19 A20 A21 A22 A23 A24 A25 A26 R : Type} {x : Option (A1 × A2 × A3 × A4 × A5 × A6 × A7 × A8 × A9 × A10 × A11 × A12 × A13 × A14 × A15 × A16 × A17 × A18 × A19 × A20 × A21 × A22 × A23 × A24 × A25 × A26)} {k : A1 → A2 → A3 → A4 → A5 → A6 → A7 → A8 → A9 → A10 → A11 → A12 → A13 → A14 → A15 → A16 → A17 → A18 → A19 → A20 → A21 → A22 → A23 → A24 → A25 → A26 → Option R} {P : A1 × A2 × A3 × A4 × A5 × A6 × A7 × A8 × A9 × A10 × A11 × A12 × A13 × A14 × A15 × A16 × A17 × A18 × A19 × A20 × A21 × A22 × A23 × A24 × A25 × A26 → Prop} {Q : R → Prop} (h : Rt x P) (hk : ∀ a1 a2 a3 a4 a5 a6 a7 a8 a9 a10 a11 a12 a13 a14 a15 a16 a17 a18 a19 a20 a21 a22 a23 a24 a25 a26, P (a1, a2, a3, a4, a5, a6, a7, a8, a9, a10, a11, a12, a13, a14, a15, a16, a17, a18, a19, a20, a21, a22, a23, a24, a25, a26) → Rt (k a1 a2 a3 a4 a5 a6 a7 a8 a9 a10 a11 a12 a13 a14 a15 a16 a17 a18 a19 a20 a21 a22 a23 a24 a25 a26) Q) : Rt (bd26 x k) Q := by
  obtain ⟨⟨a1, a2, a3, a4, a5, a6, a7, a8, a9, a10, a11, a12, a13, a14, a15, a16, a17, a18, a19, a20, a21, a22, a23, a24, a25, a26⟩, rfl, hr⟩ := h
  exact hk a1 a2 a3 a4 a5 a6 a7 a8 a9 a10 a11 a12 a13 a14 a15 a16 a17 a18 a19 a20 a21 a22 a23 a24 a25 a26 hr
theorem re26 {A1 A2 A3 A4 A5 A6 A7 A8 A9 A10 A11 A12 A13 A14 A15 A16 A17 A18 A19 A20 A21 A22 A23 A24 A25 A26 R : Type} {x : Option (A1 × A2 × A3 × A4 × A5 × A6 × A7 × A8 × A9 × A10 × A11 × A12 × A13 × A14 × A15 × A16 × A17 × A18 × A19 × A20 × A21 × A22 × A23 × A24 × A25 × A26)} {k : A1 → A2 → A3 → A4 → A5 → A6 → A7 → A8 → A9 → A10 → A11 → A12 → A13 → A14 → A15 → A16 → A17 → A18 → A19 → A20 → A21 → A22 → A23 → A24 → A25 → A26 → Option R} {Q : R → Prop} {a1 : A1} {a2 : A2} {a3 : A3} {a4 : A4} {a5 : A5} {a6 : A6} {a7 : A7} {a8 : A8} {a9 : A9} {a10 : A10} {a11 : A11} {a12 : A12} {a13 : A13} {a14 : A14} {a15 : A15} {a16 : A16} {a17 : A17} {a18 : A18} {a19 : A19} {a20 : A20} {a21 : A21} {a22 : A22} {a23 : A23} {a24 : A24} {a25 : A25} {a26 : A26} (h : x = some (a1, a2, a3, a4, a5, a6, a7, a8, a9, a10, a11, a12, a13, a14, a15, a16, a17, a18, a19, a20, a21, a22, a23, a24, a25, a26)) (hk : Rt (k a1 a2 a3 a4 a5 a6 a7 a8 a9 a10 a11 a12 a13 a14 a15 a16 a17 a18 a19 a20 a21 a22 a23 a24 a25 a26) Q) : Rt (bd26 x k) Q := by
  subst h
  exact hk
theorem rl26 {A1 A2 A3 A4 A5 A6 A7 A8 A9 A10 A11 A12 A13 A14 A15 A16 A17 A18 A19 A20 A21 A22 A23 A24 A25 A26 R : Type} {s : (A1 → A2 → A3 → A4 → A5 → A6 → A7 → A8 → A9 → A10 → A11 → A12 → A13 → A14 → A15 → A16 → A17 → A18 → A19 → A20 → A21 → A22 → A23 → A24 → A25 → A26 → Option R) → A1 → A2 → A3 → A4 → A5 → A6 → A7 → A8 → A9 → A10 → A11 → A12 → A13 → A14 → A15 → A16 → A17 → A18 → A19 → A20 → A21 → A22 → A23 → A24 → A25 → A26 → Option R} {Q : R → Prop} {a1 : A1} {a2 : A2} {a3 : A3} {a4 : A4} {a5 : A5} {a6 : A6} {a7 : A7} {a8 : A8} {a9 : A9} {a10 : A10} {a11 : A11} {a12 : A12} {a13 : A13} {a14 : A14} {a15 : A15} {a16 : A16} {a17 : A17} {a18 : A18} {a19 : A19} {a20 : A20} {a21 : A21} {a22 : A22} {a23 : A23} {a24 : A24} {a25 : A25} {a26 : A26} (n : Nat) (I : Nat → A1 → A2 → A3 → A4 → A5 → A6 → A7 → A8 → A9 → A10 → A11 → A12 → A13 → A14 → A15 → A16 → A17 → A18 → A19 → A20 → A21 → A22 → A23 → A24 → A25 → A26 → Prop) (hn : n < 99999) (h0 : I 0 a1 a2 a3 a4 a5 a6 a7 a8 a9 a10 a11 a12 a13 a14 a15 a16 a17 a18 a19 a20 a21 a22 a23 a24 a25 a26) (hs : ∀ rc k x1 x2 x3 x4 x5 x6 x7 x8 x9 x10 x11 x12 x13 x14 x15 x16 x17 x18 x19 x20 x21 x22 x23 x24 x25 x26, I k x1 x2 x3 x4 x5 x6 x7 x8 x9 x10 x11 x12 x13 x14 x15 x16 x17 x18 x19 x20 x21 x22 x23 x24 x25 x26 → (k < n → ∀ y1 y2 y3 y4 y5 y6 y7 y8 y9 y10 y11 y12 y13 y14 y15 y16 y17 y18 y19 y20 y21 y22 y23 y24 y25 y26, I (k + 1) y1 y2 y3 y4 y5 y6 y7 y8 y9 y10 y11 y12 y13 y14 y15 y16 y17 y18 y19 y20 y21 y22 y23 y24 y25 y26 → Rt (rc y1 y2 y3 y4 y5 y6 y7 y8 y9 y10 y11 y12 y13 y14 y15 y16 y17 y18 y19 y20 y21 y22 y23 y24 y25 y26) Q) → Rt (s rc x1 x2 x3 x4 x5 x6 x7 x8 x9 x10 x11 x12 x13 x14 x15 x16 x17 x18 x19 x20 x21 x22 x23 x24 x25 x26) Q) : Rt (ml26 s zN a1 a2 a3 a4 a5 a6 a7 a8 a9 a10 a11 a12 a13 a14 a15 a16 a17 a18 a19 a20 a21 a22 a23 a24 a25 a26) Q := by
  have key : ∀ (m k f : Nat) x1 x2 x3 x4 x5 x6 x7 x8 x9 x10 x11 x12 x13 x14 x15 x16 x17 x18 x19 x20 x21 x22 x23 x24 x25 x26, n ≤ k + m → m < f → I k x1 x2 x3 x4 x5 x6 x7 x8 x9 x10 x11 x12 x13 x14 x15 x16 x17 x18 x19 x20 x21 x22 x23 x24 x25 x26 → Rt (ml26 s f x1 x2 x3 x4 x5 x6 x7 x8 x9 x10 x11 x12 x13 x14 x15 x16 x17 x18 x19 x20 x21 x22 x23 x24 x25 x26) Q := by
    intro m
    induction m with
    | zero =>
      intro k f x1 x2 x3 x4 x5 x6 x7 x8 x9 x10 x11 x12 x13 x14 x15 x16 x17 x18 x19 x20 x21 x22 x23 x24 x25 x26 hk hf hI
      obtain ⟨f, rfl⟩ : ∃ f', f = f' + 1 := ⟨f - 1, by omega⟩
      exact hs (ml26 s f) k x1 x2 x3 x4 x5 x6 x7 x8 x9 x10 x11 x12 x13 x14 x15 x16 x17 x18 x19 x20 x21 x22 x23 x24 x25 x26 hI (fun hk' => absurd hk' (by omega))
    | succ m ih =>
      intro k f x1 x2 x3 x4 x5 x6 x7 x8 x9 x10 x11 x12 x13 x14 x15 x16 x17 x18 x19 x20 x21 x22 x23 x24 x25 x26 hk hf hI
      obtain ⟨f, rfl⟩ : ∃ f', f = f' + 1 := ⟨f - 1, by omega⟩
      exact hs (ml26 s f) k x1 x2 x3 x4 x5 x6 x7 x8 x9 x10 x11 x12 x13 x14 x15 x16 x17 x18 x19 x20 x21 x22 x23 x24 x25 x26 hI (fun _ y1 y2 y3 y4 y5 y6 y7 y8 y9 y10 y11 y12 y13 y14 y15 y16 y17 y18 y19 y20 y21 y22 y23 y24 y25 y26 hI' => ih (k + 1) f y1 y2 y3 y4 y5 y6 y7 y8 y9 y10 y11 y12 y13 y14 y15 y16 y17 y18 y19 y20 y21 y22 y23 y24 y25 y26 (by omega) (by omega) hI')
  exact key n 0 zN a1 a2 a3 a4 a5 a6 a7 a8 a9 a10 a11 a12 a13 a14 a15 a16 a17 a18 a19 a20 a21 a22 a23 a24 a25 a26 (by omega) (by show n < 100000; omega) h0
