/-! LOOPS that count -/
def fo (g : Nat → Int32 → Int32) : Nat → Int32 → Int32
  | 0, a => a
  | n + 1, a => g n (fo g n a)
/-- from k on -/
def fr {A : Type} (g : Nat → A → A) : Nat → Nat → A → A
  | 0, _, a => a
  | n + 1, k, a => fr g n (k + 1) (g k a)
theorem fr_add {A : Type} (g : Nat → A → A) (m : Nat) : ∀ (n k : Nat) (a : A), fr g (n + m) k a = fr g m (k + n) (fr g n k a) := by
  intro n
  induction n with
  | zero => intro k a; simp [fr]
  | succ n ih =>
    intro k a
    rw [show n + 1 + m = (n + m) + 1 by omega]
    show fr g (n + m) (k + 1) (g k a) = fr g m (k + (n + 1)) (fr g n (k + 1) (g k a))
    rw [ih, show k + 1 + n = k + (n + 1) by omega]
/-- one number beside the counter, which comes last -/
theorem for2 {R A : Type} {s : (A → Int32 → Option R) → A → Int32 → Option R} {kk : A → Option R} (n : Nat) (g : Nat → A → A) (hn : n < 99999) (h1 : ∀ rc a k, k < n → s rc a (iI (k : Int)) = rc (g k a) (iI ((k + 1 : Nat) : Int))) (h2 : ∀ rc a, s rc a (iI (n : Int)) = kk a) (a : A) : ml2 s zN a (iI (0 : Int)) = kk (fr g n 0 a) := by
  have key : ∀ (m k : Nat) (a : A) (f : Nat), k + m = n → m < f → ml2 s f a (iI (k : Int)) = kk (fr g m k a) := by
    intro m
    induction m with
    | zero =>
      intro k a f hk hf
      obtain ⟨f, rfl⟩ : ∃ f', f = f' + 1 := ⟨f - 1, by omega⟩
      have : k = n := by omega
      subst this
      exact h2 _ a
    | succ m ih =>
      intro k a f hk hf
      obtain ⟨f, rfl⟩ : ∃ f', f = f' + 1 := ⟨f - 1, by omega⟩
      show s (ml2 s f) a (iI (k : Int)) = _
      rw [h1 _ a k (by omega), ih (k + 1) _ f (by omega) (by omega)]
      rfl
  exact key n 0 a zN (by omega) (by show n < 100000; omega)
theorem for2i {R A : Type} {s : (A → Int32 → Option R) → A → Int32 → Option R} {kk : A → Option R} (n : Nat) (g : Nat → A → A) (I : Nat → A → Prop) (hn : n < 99999) (h1 : ∀ rc a k, k < n → I k a → s rc a (iI (k : Int)) = rc (g k a) (iI ((k + 1 : Nat) : Int)) ∧ I (k + 1) (g k a)) (h2 : ∀ rc a, I n a → s rc a (iI (n : Int)) = kk a) (a : A) (h0 : I 0 a) : ml2 s zN a (iI (0 : Int)) = kk (fr g n 0 a) ∧ I n (fr g n 0 a) := by
  have key : ∀ (m k : Nat) (a : A) (f : Nat), k + m = n → m < f → I k a → ml2 s f a (iI (k : Int)) = kk (fr g m k a) ∧ I n (fr g m k a) := by
    intro m
    induction m with
    | zero =>
      intro k a f hk hf hI
      obtain ⟨f, rfl⟩ : ∃ f', f = f' + 1 := ⟨f - 1, by omega⟩
      have : k = n := by omega
      subst this
      exact ⟨h2 _ a hI, hI⟩
    | succ m ih =>
      intro k a f hk hf hI
      obtain ⟨f, rfl⟩ : ∃ f', f = f' + 1 := ⟨f - 1, by omega⟩
      obtain ⟨e1, e2⟩ := h1 (ml2 s f) a k (by omega) hI
      obtain ⟨e3, e4⟩ := ih (k + 1) (g k a) f (by omega) (by omega) e2
      refine ⟨?_, e4⟩
      show s (ml2 s f) a (iI (k : Int)) = _
      rw [e1, e3]
      rfl
  exact key n 0 a zN (by omega) (by show n < 100000; omega) h0
/-! THE ROW -/
/-- both hold the same row, of n numbers -/
def ivR (n : Nat) (ns : Int32) (nt : Nat → Int64) (mn : Int32) (mr : Nat → Int64) : Prop := n ≤ 12 ∧ ns = iI (n : Int) ∧ mn = iI (n : Int) ∧ ∀ k, k < n → nt k = mr k
theorem ivR_0 {nt mr : Nat → Int64} : ivR 0 (0 : Int32) nt (0 : Int32) mr := ⟨by omega, rfl, rfl, fun k h => absurd h (by omega)⟩
theorem x_put {n : Nat} (h : n < 12) (v : Int64) (nt : Nat → Int64) : f_X6_put v (iI (n : Int)) nt = some (iI ((n + 1 : Nat) : Int), vp_updL nt n v) := by
  unfold f_X6_put
  rw [if_neg (show ¬ (12 : Int32) ≤ iI (n : Int) from fun q => absurd ((iI_len (a := 12) (by omega) (by omega)).mp q) (by omega)), gd_t (ix_n h (by omega)), iI_s, iI_cn (by omega)]
theorem m_tell {n : Nat} (h : n < 12) (v : Int64) (mr : Nat → Int64) : f_X12_tell v (iI (n : Int)) mr = some (iI ((n + 1 : Nat) : Int), vp_updL mr n v) := by
  unfold f_X12_tell
  rw [gd_t (ix_n (by omega) (by omega)), iI_s, iI_cn (by omega)]
theorem ivR_put {n : Nat} {ns mn : Int32} {nt mr : Nat → Int64} (h : ivR n ns nt mn mr) (hn : n < 12) (v : Int64) : f_X6_put v ns nt = some (iI ((n + 1 : Nat) : Int), vp_updL nt n v) ∧ f_X12_tell v mn mr = some (iI ((n + 1 : Nat) : Int), vp_updL mr n v) ∧ ivR (n + 1) (iI ((n + 1 : Nat) : Int)) (vp_updL nt n v) (iI ((n + 1 : Nat) : Int)) (vp_updL mr n v) := by
  obtain ⟨h1, rfl, rfl, h4⟩ := h
  refine ⟨x_put hn v nt, m_tell hn v mr, by omega, rfl, rfl, fun k hk => ?_⟩
  by_cases e : k = n
  · subst e; rw [updL_s, updL_s]
  · rw [updL_n e, updL_n e]; exact h4 k (by omega)
/-! WHAT A TEST ANSWERS -/
theorem bit_if {c : Prop} [Decidable c] : bit (if c then (1 : Int32) else 0) = true := by split <;> decide
theorem m_in01 {a b c : Int32} : f_X12_in a b c = some (if b ≤ a ∧ a ≤ c then 1 else 0) := by
  rw [m_in]
  congr 1
  by_cases h1 : a < b
  · rw [if_pos h1, if_neg (fun q => absurd q.1 (Int32.not_le.mpr h1))]
  · rw [if_neg h1]
    by_cases h2 : c < a
    · rw [if_pos h2, if_neg (fun q => absurd q.2 (Int32.not_le.mpr h2))]
    · rw [if_neg h2, if_pos ⟨Int32.not_lt.mp h1, Int32.not_lt.mp h2⟩]
/-- below a count of n -/
def isB (v : Int32) (n : Nat) : Prop := ∃ k : Nat, k < n ∧ v = iI (k : Int)
theorem isB_iff {v : Int32} {n : Nat} (hn : n < 2147483648) : isB v n ↔ 0 ≤ v ∧ v < iI (n : Int) := by
  constructor
  · rintro ⟨k, hk, rfl⟩
    exact ⟨by rw [iI_0, iI_le (by omega) (by omega)]; omega, (iI_ltn (by omega) (by omega)).mpr hk⟩
  · rintro ⟨h1, h2⟩
    obtain ⟨j, hj, rfl⟩ := nI_of (Int32.not_lt.mpr h1)
    rw [iI_nI] at h2 ⊢
    exact ⟨j, (iI_ltn (by omega) (by omega)).mp h2, rfl⟩
theorem x_has {v : Int32} {n : Nat} (hn : n < 2147483648) : (isB v n ∧ f_X1_hasFence v (iI (n : Int)) = some 1) ∨ (¬ isB v n ∧ f_X1_hasFence v (iI (n : Int)) = some 0) := by
  rw [isB_iff hn]
  unfold f_X1_hasFence
  by_cases h1 : v < 0
  · right; rw [if_pos h1]; exact ⟨fun q => absurd q.1 (Int32.not_le.mpr h1), rfl⟩
  · rw [if_neg h1]
    by_cases h2 : iI (n : Int) ≤ v
    · right; rw [if_pos h2]; exact ⟨fun q => absurd q.2 (Int32.not_lt.mpr h2), rfl⟩
    · left; rw [if_neg h2]; exact ⟨⟨Int32.not_lt.mp h1, Int32.not_le.mp h2⟩, rfl⟩
theorem x_hasH {v c : Int32} : f_X1_hasHorse v c = f_X1_hasFence v c := rfl
theorem x_hasP {v c : Int32} : f_X1_hasPlan v c = f_X1_hasFence v c := rfl
theorem m_is {v : Int32} {n : Nat} (hn : n < 2147483648) : (isB v n ∧ f_X12_isFence v (iI (n : Int)) = some 1) ∨ (¬ isB v n ∧ f_X12_isFence v (iI (n : Int)) = some 0) := by
  unfold f_X12_isFence
  rw [bd1_t m_in01, gd_t bit_if]
  have e : ((0 : Int32) ≤ v ∧ v ≤ iI (n : Int) - 1) ↔ isB v n := by
    rw [isB_iff hn, iI_1, iI_sub]
    constructor
    · rintro ⟨h1, h2⟩
      refine ⟨h1, ?_⟩
      rw [← iI_of v] at h1 h2 ⊢
      have hr := iI_rng v
      rw [iI_le (by omega) (by omega)] at h2
      rw [iI_lt (by omega) (by omega)]
      omega
    · rintro ⟨h1, h2⟩
      refine ⟨h1, ?_⟩
      rw [← iI_of v] at h1 h2 ⊢
      have hr := iI_rng v
      rw [iI_lt (by omega) (by omega)] at h2
      rw [iI_le (by omega) (by omega)]
      omega
  by_cases h : isB v n
  · left; rw [if_pos (e.mpr h)]; exact ⟨h, rfl⟩
  · right; rw [if_neg (fun q => h (e.mp q))]; exact ⟨h, rfl⟩
theorem m_isH {v c : Int32} : f_X12_isHorse v c = f_X12_isFence v c := rfl
theorem m_isP {v c : Int32} : f_X12_isPlan v c = f_X12_isFence v c := rfl
