/-! THE INVARIANT over a state, and what a step is -/
def Inv (S : zS) : Prop := ∃ (y : Nat) (tc : Nat → Nat) (F H P : Nat) (kd ht ft st sc ca pl : Nat → Nat) (V : Nat → Nat → Nat → Nat → Nat → Nat → Nat → Nat → Nat) (al r c : Nat) (mo : Nat → Nat), okTx y tc (S.1 65) (S.2.1 2) (S.1 3470) (S.2.1 64) ∧ okX F H P kd ht ft st sc ca pl V (S.2.1 6) (S.2.1 7) (S.2.1 8) (S.2.1 10) (S.2.1 11) (S.1 769) (S.2.1 13) ∧ okM F H P kd ht ft st sc ca pl V (S.2.1 56) (S.2.1 57) (S.2.1 58) (S.2.1 59) (S.2.1 60) (S.2.1 61) (S.2.1 62) (S.1 3483) (S.2.1 69) ∧ (S.1 323) = nI F ∧ (S.1 3457) = nI F ∧ (S.1 326) = nI H ∧ (S.1 3462) = nI H ∧ (S.1 328) = nI P ∧ (S.1 3466) = nI P ∧ al ≤ 9999 ∧ (S.1 329) = nI al ∧ (S.1 3461) = nI al ∧ rowE r (S.2.2 4) (S.2.2 65) ∧ (S.1 193) = nI r ∧ (S.1 3472) = nI r ∧ tX (S.1 1284) (S.2.1 21) (S.2.1 22) (S.2.1 23) (S.2.1 24) (S.2.1 55) ∧ okHi c (S.2.1 28) (S.2.1 29) (S.2.1 74) ∧ (S.1 1728) = 13 ∧ (S.1 1731) = nI c ∧ (S.1 3494) = nI c ∧ okKe (S.2.1 31) (S.2.1 32) (S.2.1 85) (S.2.1 86) ∧ (S.1 1920) = 2 ∧ okY mo (S.2.1 25) ∧ okY mo (S.2.1 63)
theorem Inv_i {S : zS} {y : Nat} {tc : Nat → Nat} {F H P : Nat} {kd ht ft st sc ca pl : Nat → Nat} {V : Nat → Nat → Nat → Nat → Nat → Nat → Nat → Nat → Nat} {al r c : Nat} {mo : Nat → Nat} (hTx : okTx y tc (S.1 65) (S.2.1 2) (S.1 3470) (S.2.1 64)) (hX : okX F H P kd ht ft st sc ca pl V (S.2.1 6) (S.2.1 7) (S.2.1 8) (S.2.1 10) (S.2.1 11) (S.1 769) (S.2.1 13)) (hM : okM F H P kd ht ft st sc ca pl V (S.2.1 56) (S.2.1 57) (S.2.1 58) (S.2.1 59) (S.2.1 60) (S.2.1 61) (S.2.1 62) (S.1 3483) (S.2.1 69)) (eF1 : (S.1 323) = nI F) (eF2 : (S.1 3457) = nI F) (eH1 : (S.1 326) = nI H) (eH2 : (S.1 3462) = nI H) (eP1 : (S.1 328) = nI P) (eP2 : (S.1 3466) = nI P) (ha : al ≤ 9999) (eA1 : (S.1 329) = nI al) (eA2 : (S.1 3461) = nI al) (hR : rowE r (S.2.2 4) (S.2.2 65)) (eR1 : (S.1 193) = nI r) (eR2 : (S.1 3472) = nI r) (hT : tX (S.1 1284) (S.2.1 21) (S.2.1 22) (S.2.1 23) (S.2.1 24) (S.2.1 55)) (hHi : okHi c (S.2.1 28) (S.2.1 29) (S.2.1 74)) (eS1 : (S.1 1728) = 13) (eC1 : (S.1 1731) = nI c) (eC2 : (S.1 3494) = nI c) (hKe : okKe (S.2.1 31) (S.2.1 32) (S.2.1 85) (S.2.1 86)) (eS2 : (S.1 1920) = 2) (hY : okY mo (S.2.1 25)) (hZ : okY mo (S.2.1 63)) : Inv S := ⟨y, tc, F, H, P, kd, ht, ft, st, sc, ca, pl, V, al, r, c, mo, hTx, hX, hM, eF1, eF2, eH1, eH2, eP1, eP2, ha, eA1, eA2, hR, eR1, eR2, hT, hHi, eS1, eC1, eC2, hKe, eS2, hY, hZ⟩
theorem zMt_at {l : Launch} {V : List zSh} {d : Nat} {mi : zM} {σ : zS} {lc : zL} {av : List Value} {r : Option Value} {M : zL} (h : zMt l V d mi σ lc av r M) (h1 : zle σ.1 lc.1) (h2 : zle σ.2.1 lc.2.1) (h3 : zle σ.2.2 lc.2.2) : zMt l V d mi σ ([], [], []) av r M := by
  intro D cy ad sz
  have e : zap (zap σ ([], [], [])) lc = zap σ ([], [], []) := zap_sub ⟨h1, h2, h3⟩
  have e2 : zap σ lc = zap σ ([], [], []) := e
  have := h D cy ad sz
  rw [e2] at this
  exact this
theorem okTx0 {tc : Nat → Nat} {ts mt : Int32} {sg mx : Nat → Int32} (e1 : ts = 0) (e2 : mt = 0) : okTx 0 tc ts sg mt mx := ⟨by omega, e1, e2, fun k hk => absurd hk (by omega)⟩
/-- one call on both sides: the same answer, and the invariant again -/
def zSt (mx mm : zM) (dx dm : Nat) (args : List Value) (l : Launch) (S : zS) : Prop := ∃ (r : Int32) (M1 M2 : zL), zMt l zW dx mx S ([], [], []) (.ref 0 :: args) (some (.int r)) M1 ∧ zMt l zW dm mm (zap S M1) ([], [], []) (.ref 54 :: args) (some (.int r)) M2 ∧ Inv (zap (zap S M1) M2)
theorem ivC_of {F : Nat} {kd ht ft : Nat → Nat} {ck ch cf mk mh mf : Nat → Int32} {a b : Int32} (e1 : a = nI F) (e2 : b = nI F) (h1 : okC F kd ft ck cf) (h2 : okT F ht ch) (h3 : okC F kd ft mk mf) (h4 : okT F ht mh) : ivC F (fun f => (kd f : Int)) (fun f => (ht f : Int)) (fun f => (ft f : Int)) a ck ch cf b mk mh mf := by
  refine ⟨h1.1, by rw [e1, iI_nI], by rw [e2, iI_nI], fun f hf => ?_⟩
  obtain ⟨⟨k1, k2, k3⟩, k4, k5⟩ := h1.2 f hf
  obtain ⟨_, k6, k7⟩ := h3.2 f hf
  obtain ⟨t1, t2⟩ := h2 f hf
  obtain ⟨_, t3⟩ := h4 f hf
  dsimp only
  exact ⟨⟨⟨by omega, by omega⟩, ⟨by omega, by omega⟩, by omega, by omega⟩, ⟨by rw [k4, iI_nI], by rw [k6, iI_nI]⟩, ⟨by rw [t2, iI_nI], by rw [t3, iI_nI]⟩, ⟨by rw [k5, iI_nI], by rw [k7, iI_nI]⟩⟩
theorem of_ivC {F : Nat} {kd ht ft : Nat → Int} {a b : Int32} {ck ch cf mk mh mf : Nat → Int32} (h : ivC F kd ht ft a ck ch cf b mk mh mf) : ∃ kd' ht' ft' : Nat → Nat, (∀ f, kd' f = (kd f).toNat) ∧ okC F kd' ft' ck cf ∧ okT F ht' ch ∧ okC F kd' ft' mk mf ∧ okT F ht' mh := by
  obtain ⟨h0, h1, h2, h3⟩ := h
  have key : ∀ {z : Int} {x : Int32}, 0 ≤ z → x = iI z → x = nI z.toNat := by
    intro z x hz hx
    rw [hx, iI_nI, Int.toNat_of_nonneg hz]
  refine ⟨fun f => (kd f).toNat, fun f => (ht f).toNat, fun f => (ft f).toNat, fun _ => rfl, ⟨h0, fun f hf => ?_⟩, fun f hf => ?_, ⟨h0, fun f hf => ?_⟩, fun f hf => ?_⟩
  all_goals obtain ⟨⟨⟨a1, a2⟩, ⟨a3, a4⟩, a5, a6⟩, ⟨b1, b2⟩, ⟨b3, b4⟩, b5, b6⟩ := h3 f hf
  · dsimp only
    exact ⟨⟨by omega, by omega, by omega⟩, key a1 b1, key (by omega) b5⟩
  · dsimp only
    exact ⟨by omega, key a3 b3⟩
  · dsimp only
    exact ⟨⟨by omega, by omega, by omega⟩, key a1 b2, key (by omega) b6⟩
  · dsimp only
    exact ⟨by omega, key a3 b4⟩
theorem okP_0 {F : Nat} {pl : Nat → Nat} {cp : Nat → Int32} : okP 0 F pl cp := ⟨by omega, fun p hp => absurd hp (by omega)⟩
