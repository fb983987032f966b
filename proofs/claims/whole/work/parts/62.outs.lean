/-! what comes of reading a rule: the class's codes, the reference's number -/
def Ev : Type := (Nat → Int32) × Int32 × Int32 × Int32 × Int32 × Int32 × (Nat → Int32) × (Nat → Int32) × (Nat → Int32) × (Nat → Int32) × (Nat → Int32) × (Nat → Int32)
def Ev.mx (e : Ev) : (Nat → Int32) := e.1
def Ev.ia (e : Ev) : Int32 := e.2.1
def Ev.ah (e : Ev) : Int32 := e.2.2.1
def Ev.af (e : Ev) : Int32 := e.2.2.2.1
def Ev.al (e : Ev) : Int32 := e.2.2.2.2.1
def Ev.ai (e : Ev) : Int32 := e.2.2.2.2.2.1
def Ev.mk (e : Ev) : (Nat → Int32) := e.2.2.2.2.2.2.1
def Ev.mf (e : Ev) : (Nat → Int32) := e.2.2.2.2.2.2.2.1
def Ev.ms (e : Ev) : (Nat → Int32) := e.2.2.2.2.2.2.2.2.1
def Ev.mc (e : Ev) : (Nat → Int32) := e.2.2.2.2.2.2.2.2.2.1
def Ev.ma (e : Ev) : (Nat → Int32) := e.2.2.2.2.2.2.2.2.2.2.1
def Ev.t (e : Ev) : (Nat → Int32) := e.2.2.2.2.2.2.2.2.2.2.2
def lt8 (k : Nat) : Nat := if k = 0 then 104 else if k = 1 then 115 else if k = 2 then 99 else if k = 3 then 112 else if k = 4 then 120 else if k = 5 then 102 else if k = 6 then 107 else 121
def okAsk (e : Ev) : Prop := ∀ k, k < 8 → (if e.ia = 0 then e.t k = 0 else f_X12_valueOf (nI (lt8 k)) e.ah e.af e.al e.ai e.mk e.mf e.ms e.mc e.ma = some (e.t k))
def okE (y l : Nat) (tc : Nat → Nat) (sg : Nat → Int32) (e : Ev) : Prop := okRd y 40 l tc sg e.mx ∧ okAsk e
def Out (y l : Nat) (tc : Nat → Nat) (sg : Nat → Int32) (δ : Nat) (pre : (Nat → Int32) → List Int32) (a : Nat) (X : Int32 → (Nat → Int32) → Option (Int32 × Int32 × Int32 × (Nat → Int32))) (Y : Ev → Option (Int32 × Int32 × Int32)) : Prop :=
  (∃ q, q ≤ l ∧ (∀ d g, d + δ ≤ a → Rt (X (nI d) g) (fun r => r.1 = 0 ∧ r.2.1 = nI q)) ∧ ∀ e, okE y l tc sg e → Rt (Y e) (fun r => r.2.2 = nI q)) ∨
  ∃ (a' : Nat) (cs : List Nat) (E : (Nat → Int32) → Int32), a ≤ a' ∧ a' ≤ l ∧ cs.length ≤ a' - a + δ ∧ (∀ c, c ∈ cs → vcd c) ∧ (∀ th st, exe th cs (pre th ++ st) = E th :: st) ∧ (∀ d g, d + δ ≤ a → Rt (X (nI d) g) (fun r => r.1 = 1 ∧ r.2.1 = nI a' ∧ r.2.2.1 = nI (d + cs.length) ∧ (∀ i, i < d → r.2.2.2 i = g i) ∧ apd d r.2.2.2 cs)) ∧ ∀ e, okE y l tc sg e → Y e = some (E e.t, nI a', -1)
section
variable {y l a δ : Nat} {tc : Nat → Nat} {sg : Nat → Int32} {pre rest : (Nat → Int32) → List Int32}
theorem out_cg {X X' : Int32 → (Nat → Int32) → Option (Int32 × Int32 × Int32 × (Nat → Int32))} {Y Y' : Ev → Option (Int32 × Int32 × Int32)} (h : Out y l tc sg δ pre a X Y) (hx : ∀ d g, X' d g = X d g) (hy : ∀ e, okE y l tc sg e → Y' e = Y e) : Out y l tc sg δ pre a X' Y' := by
  rcases h with ⟨q, h1, h2, h3⟩ | ⟨a', cs, E, h1, h2, h3, h4, h5, h6, h7⟩
  · exact .inl ⟨q, h1, fun d g hd => by rw [hx]; exact h2 d g hd, fun e he => by rw [hy e he]; exact h3 e he⟩
  · exact .inr ⟨a', cs, E, h1, h2, h3, h4, h5, fun d g hd => by rw [hx]; exact h6 d g hd, fun e he => by rw [hy e he]; exact h7 e he⟩
theorem out_seq {X1 : Int32 → (Nat → Int32) → Option (Int32 × Int32 × Int32 × (Nat → Int32))} {Y1 : Ev → Option (Int32 × Int32 × Int32)} (X2 : Int32 → Int32 → (Nat → Int32) → Option (Int32 × Int32 × Int32 × (Nat → Int32))) (Y2 : Ev → Int32 → Int32 → Int32 → Option (Int32 × Int32 × Int32)) (h : Out y l tc sg 0 pre a X1 Y1) (hl : l ≤ 80) (hf : ∀ e v at' w, w ≠ -1 → Rt (Y2 e v at' w) (fun r => r.2.2 = w)) (hs : ∀ (a1 : Nat) (E0 : (Nat → Int32) → Int32), a ≤ a1 → a1 ≤ l → Out y l tc sg δ (fun th => E0 th :: rest th) a1 (fun d g => X2 (nI a1) d g) (fun e => Y2 e (E0 e.t) (nI a1) (-1))) : Out y l tc sg δ (fun th => pre th ++ rest th) a (fun d g => bd4 (X1 d g) (fun r at' d' g' => if r = 0 then some (0, at', d', g') else X2 at' d' g')) (fun e => bd3 (Y1 e) (fun v at' w => Y2 e v at' w)) := by
  rcases h with ⟨q, h1, h2, h3⟩ | ⟨a1, cs, E, h1, h2, h3, h4, h5, h6, h7⟩
  · refine .inl ⟨q, h1, fun d g hd => ?_, fun e he => ?_⟩
    · refine rb4 (h2 d g (by omega)) ?_
      rintro r1 r2 r3 r4 ⟨rfl, rfl⟩
      exact rt_t rfl (rt_some ⟨rfl, rfl⟩)
    · refine rb3 (h3 e he) ?_
      rintro v at' w rfl
      exact hf e v at' _ (m1_ne (by omega))
  · rcases hs a1 E h1 h2 with ⟨q, i1, i2, i3⟩ | ⟨a2, cs2, E2, i1, i2, i3, i4, i5, i6, i7⟩
    · refine .inl ⟨q, i1, fun d g hd => ?_, fun e he => ?_⟩
      · refine rb4 (h6 d g (by omega)) ?_
        rintro r1 r2 r3 r4 ⟨rfl, rfl, rfl, _, _⟩
        exact rt_f i10n (i2 (d + cs.length) r4 (by omega))
      · exact re3 (h7 e he) (i3 e he)
    · refine .inr ⟨a2, cs ++ cs2, E2, by omega, i2, ?_, ?_, ?_, fun d g hd => ?_, fun e he => ?_⟩
      · rw [List.length_append]; omega
      · intro c hc
        rcases List.mem_append.mp hc with z | z
        · exact h4 c z
        · exact i4 c z
      · intro th st
        rw [exe_app, List.append_assoc, h5]
        exact i5 th st
      · refine rb4 (h6 d g (by omega)) ?_
        rintro r1 r2 r3 r4 ⟨rfl, rfl, rfl, k1, k2⟩
        refine rt_f i10n (rt_mono (i6 (d + cs.length) r4 (by omega)) ?_)
        rintro r ⟨j1, j2, j3, j4, j5⟩
        refine ⟨j1, j2, ?_, fun i hi => (j4 i (by omega)).trans (k1 i hi), apd_app (apd_cg k2 (fun i _ hi => j4 i hi)) j5⟩
        rw [j3, List.length_append, Nat.add_assoc]
      · show bd3 (Y1 e) _ = _
        rw [h7 e he]
        exact i7 e he
theorem out_step {X : Int32 → (Nat → Int32) → Option (Int32 × Int32 × Int32 × (Nat → Int32))} {Y : Ev → Option (Int32 × Int32 × Int32)} (h : Out y l tc sg (δ + 1) pre (a + 1) X Y) : Out y l tc sg δ pre a X Y := by
  rcases h with ⟨q, h1, h2, h3⟩ | ⟨a1, cs, E, h1, h2, h3, h4, h5, h6, h7⟩
  · exact .inl ⟨q, h1, fun d g hd => h2 d g (by omega), h3⟩
  · exact .inr ⟨a1, cs, E, by omega, h2, by omega, h4, h5, fun d g hd => h6 d g (by omega), h7⟩
theorem out_slack {X : Int32 → (Nat → Int32) → Option (Int32 × Int32 × Int32 × (Nat → Int32))} {Y : Ev → Option (Int32 × Int32 × Int32)} (h : Out y l tc sg 0 pre a X Y) : Out y l tc sg δ pre a X Y := by
  rcases h with ⟨q, h1, h2, h3⟩ | ⟨a1, cs, E, h1, h2, h3, h4, h5, h6, h7⟩
  · exact .inl ⟨q, h1, fun d g hd => h2 d g (by omega), h3⟩
  · exact .inr ⟨a1, cs, E, by omega, h2, by omega, h4, h5, fun d g hd => h6 d g (by omega), h7⟩
theorem x_emit {c d : Nat} (hd : d < 40) (g : Nat → Int32) : f_X7_emit (nI c) (nI d) g = some (nI (d + 1), upd g d (nI c)) := by
  unfold f_X7_emit
  rw [if_neg (show ¬ (40 : Int32) ≤ nI d from nI_ge (b := 40) hd (by omega)), gx hd (by omega), nI_1, nI_clamp (by omega)]
theorem out_emit {X : Int32 → (Nat → Int32) → Option (Int32 × Int32 × Int32 × (Nat → Int32))} {Y : Ev → Option (Int32 × Int32 × Int32)} {pre' : (Nat → Int32) → List Int32} {c : Nat} (h : Out y l tc sg 0 pre' a X Y) (hl : l ≤ 40) (ha : a ≤ l) (hc : vcd c) (hp : ∀ th st, exe1 th (pre th ++ st) c = pre' th ++ st) : Out y l tc sg 1 pre a (fun d g => bd2 (f_X7_emit (nI c) d g) (fun d' g' => X d' g')) Y := by
  rcases h with ⟨q, h1, h2, h3⟩ | ⟨a1, cs, E, h1, h2, h3, h4, h5, h6, h7⟩
  · exact .inl ⟨q, h1, fun d g hd => re2 (x_emit (by omega) g) (h2 (d + 1) _ (by omega)), h3⟩
  · refine .inr ⟨a1, c :: cs, E, by omega, h2, ?_, ?_, ?_, fun d g hd => ?_, h7⟩
    · rw [List.length_cons]; omega
    · intro c' hc'
      rcases List.mem_cons.mp hc' with z | z
      · rw [z]; exact hc
      · exact h4 c' z
    · intro th st
      show exe th cs (exe1 th (pre th ++ st) c) = _
      rw [hp]; exact h5 th st
    · refine re2 (x_emit (by omega) g) (rt_mono (h6 (d + 1) _ (by omega)) ?_)
      rintro r ⟨j1, j2, j3, j4, j5⟩
      refine ⟨j1, j2, ?_, fun i hi => ?_, ?_, j5⟩
      · rw [j3, List.length_cons]; congr 1; omega
      · rw [j4 i (by omega), upd_n (by omega)]
      · rw [j4 d (by omega), upd_s]
theorem out_end {E0 : (Nat → Int32) → Int32} {X : Int32 → (Nat → Int32) → Option (Int32 × Int32 × Int32 × (Nat → Int32))} {Y : Ev → Option (Int32 × Int32 × Int32)} {a' : Nat} (ha : a ≤ a') (ha' : a' ≤ l) (hp : ∀ th, pre th = [E0 th]) (hx : ∀ d g, X d g = some (1, nI a', d, g)) (hy : ∀ e, okE y l tc sg e → Y e = some (E0 e.t, nI a', -1)) : Out y l tc sg δ pre a X Y := by
  refine .inr ⟨a', [], E0, ha, ha', by simp, by simp, ?_, fun d g _ => ?_, hy⟩
  · intro th st
    rw [hp]; rfl
  · rw [hx]; exact rt_some ⟨rfl, rfl, rfl, fun _ _ => rfl, trivial⟩
theorem out_fail {X : Int32 → (Nat → Int32) → Option (Int32 × Int32 × Int32 × (Nat → Int32))} {Y : Ev → Option (Int32 × Int32 × Int32)} {q : Nat} (hq : q ≤ l) (hx : ∀ d g, ∃ d' g', X d g = some (0, nI q, d', g')) (hy : ∀ e, okE y l tc sg e → Rt (Y e) (fun r => r.2.2 = nI q)) : Out y l tc sg δ pre a X Y := by
  refine .inl ⟨q, hq, fun d g _ => ?_, hy⟩
  obtain ⟨d', g', e⟩ := hx (nI d) g
  rw [e]; exact rt_some ⟨rfl, rfl⟩
end
