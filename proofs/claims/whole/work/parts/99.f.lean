/-! THE LAW, from its entry -/
theorem CL_L_8 : Cond.classLink RL 8 RX11 ∈ zTB := (zTB_1 (i := 27) (by decide +kernel) rfl)
theorem CL_L_26 : Cond.classLink RL 26 RX12 ∈ zTB := (zTB_6 (i := 62) (by decide +kernel) rfl)
theorem IN_X11 : Cond.instantiable RX11 13 ∈ zTB := (zTB_1 (i := 28) (by decide +kernel) rfl)
theorem IN_X12 : Cond.instantiable RX12 58 ∈ zTB := (zTB_6 (i := 63) (by decide +kernel) rfl)
theorem MB_L_25 : zml RL 25 yX11_init := Or.inl (zTB_1 (i := 29) (by decide +kernel) rfl)
theorem MB_L_28 : zml RL 28 yX12_init := Or.inl (zTB_6 (i := 64) (by decide +kernel) rfl)
def tmS (i : Nat) : Term := Term.string (zkn.getD i ("", 0, "")).1 (zkn.getD i ("", 0, "")).2.1
abbrev FLc : List Cond := flatC (Jvm.Cond.and given_1 narrow_1)
theorem fs_ex : ∀ i, i < 6 → Cond.exactly (tmS i) "java/lang/String" ∈ FLc := by decide +kernel
theorem fs_co : ∀ i, i < 6 → Cond.eq (.field (tmS i) "java/lang/String" "coder" "B") (.int 0) ∈ FLc := by decide +kernel
theorem fs_ar : ∀ i, i < 6 → Cond.arrayOf (.field (tmS i) "java/lang/String" "value" "[B") .byte ∈ FLc := by decide +kernel
theorem fs_lt : ∀ i, i < 6 → Cond.eq (.length (.field (tmS i) "java/lang/String" "value" "[B")) (.int (Int32.ofNat (zkl.getD i 0))) ∈ FLc := by decide +kernel
theorem fs_el : ∀ i, i < 6 → ∀ j, j < zkl.getD i 0 → Cond.eq (.elem (.field (tmS i) "java/lang/String" "value" "[B") (.int (Int32.ofNat j))) (.int ((zkb.getD i []).getD j 0)) ∈ FLc := by decide +kernel
theorem fs_ne : ∀ i, i < 6 → ∀ j, j < 6 → i ≠ j → Cond.not (Cond.eq (tmS i) (tmS j)) ∈ FLc ∨ Cond.not (Cond.eq (tmS j) (tmS i)) ∈ FLc := by decide +kernel
theorem fs_ln : ∀ i, i < 6 → zkl.getD i 0 < 2 ^ 31 := by decide +kernel
theorem fs_cp : Cond.eq (Term.static "java/lang/String" "COMPACT_STRINGS" "Z") (.int 1) ∈ FLc := by decide +kernel
theorem fs_u1 : Cond.isRef (.static Bundle.tN "UNASSIGNED_STACK" Bundle.steD) ∈ FLc := by decide +kernel
theorem zDc_in : ∀ w ∈ zDc, w ∈ lw_tbl := by decide +kernel
theorem fs_u2 : Cond.isRef (.static Bundle.tN "SUPPRESSED_SENTINEL" Bundle.listD) ∈ FLc := by decide +kernel
theorem fs_r0 : Cond.stringRef (zkn.getD 0 ("", 0, "")).1 (zkn.getD 0 ("", 0, "")).2.1 (zkn.getD 0 ("", 0, "")).2.2 ∈ lw_tbl := (zsub_2 (List.mem_of_getElem? (i := 196) (by decide +kernel)))
theorem fs_r1 : Cond.stringRef (zkn.getD 1 ("", 0, "")).1 (zkn.getD 1 ("", 0, "")).2.1 (zkn.getD 1 ("", 0, "")).2.2 ∈ lw_tbl := (zsub_3 (List.mem_of_getElem? (i := 92) (by decide +kernel)))
theorem fs_r2 : Cond.stringRef (zkn.getD 2 ("", 0, "")).1 (zkn.getD 2 ("", 0, "")).2.1 (zkn.getD 2 ("", 0, "")).2.2 ∈ lw_tbl := (zsub_3 (List.mem_of_getElem? (i := 125) (by decide +kernel)))
theorem fs_r3 : Cond.stringRef (zkn.getD 3 ("", 0, "")).1 (zkn.getD 3 ("", 0, "")).2.1 (zkn.getD 3 ("", 0, "")).2.2 ∈ lw_tbl := (zsub_3 (List.mem_of_getElem? (i := 130) (by decide +kernel)))
theorem fs_r4 : Cond.stringRef (zkn.getD 4 ("", 0, "")).1 (zkn.getD 4 ("", 0, "")).2.1 (zkn.getD 4 ("", 0, "")).2.2 ∈ lw_tbl := (zsub_3 (List.mem_of_getElem? (i := 131) (by decide +kernel)))
theorem fs_r5 : Cond.stringRef (zkn.getD 5 ("", 0, "")).1 (zkn.getD 5 ("", 0, "")).2.1 (zkn.getD 5 ("", 0, "")).2.2 ∈ lw_tbl := (zsub_3 (List.mem_of_getElem? (i := 132) (by decide +kernel)))
theorem fs_r : ∀ (i : Nat) (q : String × Nat × String), zkn[i]? = some q → i < 6 ∧ Cond.stringRef q.1 q.2.1 q.2.2 ∈ lw_tbl ∧ tmS i = Term.string q.1 q.2.1
  | 0, _, h => by cases h; exact ⟨by omega, fs_r0, rfl⟩
  | 1, _, h => by cases h; exact ⟨by omega, fs_r1, rfl⟩
  | 2, _, h => by cases h; exact ⟨by omega, fs_r2, rfl⟩
  | 3, _, h => by cases h; exact ⟨by omega, fs_r3, rfl⟩
  | 4, _, h => by cases h; exact ⟨by omega, fs_r4, rfl⟩
  | 5, _, h => by cases h; exact ⟨by omega, fs_r5, rfl⟩
  | i + 6, _, h => by simp [zkn] at h
set_option maxRecDepth 100000 in
set_option maxHeartbeats 8000000 in
/-- what the entry gives: classes, arrays, constants -/
theorem st_env {s : State} {b : Nat} (hts0 : ∀ w ∈ lw_tbl, w.before #[Value.ref b] s = true) (hgv : (Jvm.Cond.and given_1 narrow_1).before #[Value.ref b] s = true) : ∃ (D : va_G) (cy aK aV : Nat → Nat), va_K D zcl (ztys cy) s ∧ vk_S 6 zkl zkb aK aV (fun q => s.heap.size ≤ q) s s.heap ∧ (∀ (i : Nat) (q : String × Nat × String), zkn[i]? = some q → vk_R q.1 q.2.1 q.2.2 (aK i) s) ∧ va_Z "java/lang/String" "COMPACT_STRINGS" "Z" (.int 1) (fun q => s.heap.size ≤ q) s s.heap ∧ (∀ w ∈ zNB, va_Nw w s) ∧ zTx (fun q => s.heap.size ≤ q) s s.heap := by
  have hts : ∀ w ∈ zTB, w.before #[Value.ref b] s = true := fun w hw => hts0 w (List.mem_filter.mp hw).1
  have hs : ∀ w ∈ FLc, w.before #[Value.ref b] s = true := flat_of_before _ hgv
  have hA : ∀ a : Nat, a < s.heap.size → ¬ (fun q => s.heap.size ≤ q) a := fun a h => Nat.not_le.mpr h
  obtain ⟨c0, i0, k0⟩ := u_known (C := RX0) (T := TX0) (N := 5) (n := 5) hts inT0 (hts _ IN_X0)
  obtain ⟨c1, i1, k1⟩ := u_known (C := RX1) (T := TX1) (N := 14) (n := 14) hts inT1 (hts _ IN_X1)
  obtain ⟨c2, i2, k2⟩ := u_known (C := RX2) (T := TX2) (N := 5) (n := 5) hts inT2 (hts _ IN_X2)
  obtain ⟨c3, i3, k3⟩ := u_known (C := RX3) (T := TX3) (N := 11) (n := 11) hts inT3 (hts _ IN_X3)
  obtain ⟨c4, i4, k4⟩ := u_known (C := RX4) (T := TX4) (N := 5) (n := 5) hts inT4 (hts _ IN_X4)
  obtain ⟨c5, i5, k5⟩ := u_known (C := RX5) (T := TX5) (N := 2) (n := 2) hts inT5 (hts _ IN_X5)
  obtain ⟨c6, i6, k6⟩ := u_known (C := RX6) (T := TX6) (N := 2) (n := 2) hts inT6 (hts _ IN_X6)
  obtain ⟨c7, i7, k7⟩ := u_known (C := RX7) (T := TX7) (N := 6) (n := 6) hts inT7 (hts _ IN_X7)
  obtain ⟨c8, i8, k8⟩ := u_known (C := RX8) (T := TX8) (N := 4) (n := 4) hts inT8 (hts _ IN_X8)
  obtain ⟨c9, i9, k9⟩ := u_known (C := RX9) (T := TX9) (N := 4) (n := 4) hts inT9 (hts _ IN_X9)
  obtain ⟨c10, i10, k10⟩ := u_known (C := RX10) (T := TX10) (N := 7) (n := 7) hts inT10 (hts _ IN_X10)
  obtain ⟨c11, i11, k11⟩ := u_known (C := RX11) (T := TX11) (N := 13) (n := 13) hts inT11 (hts _ IN_X11)
  obtain ⟨c12, i12, k12⟩ := u_known (C := RX12) (T := TX12) (N := 58) (n := 58) hts inT12 (hts _ IN_X12)
  obtain ⟨a0, ka0, co0, f0, g0, h0⟩ := Cond.arrayClass_spec (type := .int) (hts _ AC_0)
  obtain ⟨a1, ka1, co1, f1, g1, h1⟩ := Cond.arrayClass_spec (type := .long) (hts _ AC_1)
  obtain ⟨a2, ka2, co2, f2, g2, h2⟩ := Cond.arrayClass_spec (type := .byte) (hts _ AC_2)
  obtain ⟨a3, ka3, co3, f3, g3, h3⟩ := Cond.arrayClass_spec (type := .boolean) (hts _ AC_3)
  obtain ⟨a4, ka4, co4, f4, g4, h4⟩ := Cond.arrayClass_spec (type := .char) (hts _ AC_4)
  obtain ⟨aK, aV, hSt, hev⟩ := vk_Sof (args := #[Value.ref b]) (s := s) (N := 6) (tm := tmS) (len := zkl) (byt := zkb) (A := fun q => s.heap.size ≤ q) fs_ln (fun i hi => hs _ (fs_ex i hi)) (fun i hi => hs _ (fs_co i hi)) (fun i hi => hs _ (fs_ar i hi)) (fun i hi => hs _ (fs_lt i hi)) (fun i hi j hj => hs _ (fs_el i hi j hj)) (fun i j hi hj hij => (fs_ne i hi j hj hij).imp (fun h => hs _ h) (fun h => hs _ h)) hA
  refine ⟨(fun k => [c0, c1, c2, c3, c4, c5, c6, c7, c8, c9, c10, c11, c12].getD k c0, fun k => [i0, i1, i2, i3, i4, i5, i6, i7, i8, i9, i10, i11, i12].getD k i0), fun k => [a0, a1, a2, a3, a4].getD k a0, aK, aV, ⟨?_, ?_⟩, hSt, ?_, ?_, ?_, ?_⟩
  · intro k q hq
    match k, hq with
    | 0, hq => cases hq; exact k0
    | 1, hq => cases hq; exact k1
    | 2, hq => cases hq; exact k2
    | 3, hq => cases hq; exact k3
    | 4, hq => cases hq; exact k4
    | 5, hq => cases hq; exact k5
    | 6, hq => cases hq; exact k6
    | 7, hq => cases hq; exact k7
    | 8, hq => cases hq; exact k8
    | 9, hq => cases hq; exact k9
    | 10, hq => cases hq; exact k10
    | 11, hq => cases hq; exact k11
    | 12, hq => cases hq; exact k12
    | k + 13, hq => simp [zcl] at hq
  · intro k q hq
    match k, hq with
    | 0, hq => cases hq; exact ⟨fun n z => ⟨fun k h => (by cases h), ka0, g0, co0, h0⟩, f0⟩
    | 1, hq => cases hq; exact ⟨fun n z => ⟨fun k h => (by cases h), ka1, g1, co1, h1⟩, f1⟩
    | 2, hq => cases hq; exact ⟨fun n z => ⟨fun k h => (by cases h), ka2, g2, co2, h2⟩, f2⟩
    | 3, hq => cases hq; exact ⟨fun n z => ⟨fun k h => (by cases h), ka3, g3, co3, h3⟩, f3⟩
    | 4, hq => cases hq; exact ⟨fun n z => ⟨fun k h => (by cases h), ka4, g4, co4, h4⟩, f4⟩
    | k + 5, hq => simp [ztys] at hq
  · intro i q hq
    obtain ⟨hi, h1, h2⟩ := fs_r i q hq
    exact vk_R.of (hts0 _ h1) (by rw [← h2]; exact hev i hi)
  · exact va_Zof (hts0 _ (zsub_2 (List.mem_of_getElem? (i := 214) (by decide +kernel)))) (hts0 _ (zsub_1 (List.mem_of_getElem? (i := 16) (by decide +kernel)))) (va_eqv (hs _ fs_cp) rfl) hA
  · intro w hw
    have hq := (List.mem_filter.mp hw).2
    have hm := hts0 w (List.mem_filter.mp hw).1
    cases w <;> first | exact va_Nw.of rfl hm | (cases hq)
  · exact ⟨vx_Zqof (hts0 _ (zsub_6 (List.mem_of_getElem? (i := 7) (by decide +kernel)))) (hts0 _ (zsub_1 (List.mem_of_getElem? (i := 22) (by decide +kernel)))) (hs _ fs_u1) hA, vx_Zqof (hts0 _ (zsub_6 (List.mem_of_getElem? (i := 9) (by decide +kernel)))) (hts0 _ (zsub_1 (List.mem_of_getElem? (i := 22) (by decide +kernel)))) (hs _ fs_u2) hA, fun w hw => va_Nw.of (zDc_on w hw) (hts0 w (zDc_in w hw))⟩
set_option maxRecDepth 100000 in
set_option maxHeartbeats 8000000 in
theorem whole_start {p : Program} {e : Env} {s : State} {m : MethodId} {below : List Frame} {meth : Method} {c : Code} (l : Launch) (hflags : l.flags = flags0) {b L : Nat} {xs : Nat → Int32} (hL : L ≤ 2560) (C0 : lw_At p s m meth c b L xs) : W p l e room_1 s m #[Value.ref b] below meth c s.heap [] 0 0 (lw_Z below #[Value.ref b] s) (entryFrame m ([Value.ref b] : List Value).toArray 8) := by
  obtain ⟨hx, hb, hr, hml, hown, hts0, hX, hbl, hlocks, hgv⟩ := id C0
  obtain ⟨D, cy, aK, aV, hK, hSt, hRf, hZc, hNB, hTx⟩ := st_env hts0 hgv
  have hfl : l.stackTraces = false := by
    unfold Launch.stackTraces
    rw [hflags]
    decide
  have hts : ∀ w ∈ zTB, w.before #[Value.ref b] s = true := fun w hw => hts0 w (List.mem_filter.mp hw).1
  have hA : ∀ q : Nat, s.heap.size ≤ q → (fun q : Nat => s.heap.size ≤ q) q := fun _ h => h
  have hB : bCx cL_law 8 RL 1000 p room_1 s m #[Value.ref b] c D cy (fun q : Nat => s.heap.size ≤ q) := ⟨hx, hb, hml, hown, hts, ⟨Nat.le_of_ble_eq_true rfl, Nat.le_of_ble_eq_true rfl⟩, hK, hA, hNB⟩
  have hP : va_P D zcl [] s.heap := fun k q h => by simp at h
  have hD : va_D (fun q : Nat => s.heap.size ≤ q) [] := ⟨fun i j p q h => by simp at h, fun k q h => by simp at h⟩
  have hS : va_S (fun q : Nat => s.heap.size ≤ q) s.heap s.heap [] := va_S.rf
  have hl := lv_entry ([.ref b]) (n := 8) (Nat.le_of_ble_eq_true rfl)
  rw [lg_entry_eq]
  generalize (lg_sl ([.ref b]) ++ List.replicate (8 - (lg_sl ([.ref b])).length) Slot.unset).toArray = ls at hl ⊢
  have hl : lv_has ls 8 [(0, .ref b)] := hl
  refine bnew (C := RX11) (T := TX11) (N := 13) (ci := 11) (fs := [.null, .null, .null, .null, .null, .null, .null, .null, .null, .null, .null, .null, .null]) (cells' := 1) (slots' := 13) (ws1 := fun q => [] ++ [(q, .inr (11, [.null, .null, .null, .null, .null, .null, .null, .null, .null, .null, .null, .null, .null]))]) hB hP hD hS rfl inT11 tyX11 tyX11_ok CL_L_8 IN_X11 II_X11 (fun j hj => match j, hj with | 0, _ => rfl | 1, _ => rfl | 2, _ => rfl | 3, _ => rfl | 4, _ => rfl | 5, _ => rfl | 6, _ => rfl | 7, _ => rfl | 8, _ => rfl | 9, _ => rfl | 10, _ => rfl | 11, _ => rfl | 12, _ => rfl | j + 13, h => absurd h (by omega)) dL_law_0 rfl rfl ⟨Nat.le_of_ble_eq_true rfl, Nat.le_of_ble_eq_true rfl⟩ rfl (fun _ => rfl) (fun q0 H hP hD hS => ?_)
  refine lv_dup hx hb dL_law_3 rfl ?_
  refine bcallI (yi := mX11_init) (as := []) (rest := [.ref q0]) (cells' := 54) (slots' := 6985) hB hP hD hS hl.1 (c_X11 l D cy [] q0) dL_law_4 MB_L_25 IM_X11 II_X11 CI_X11 ⟨by decide, by decide, by decide⟩ (by decide) rfl rfl rfl (by decide) (Nat.le_of_ble_eq_true rfl) rfl rfl rfl ⟨Nat.le_of_ble_eq_true rfl, Nat.le_of_ble_eq_true rfl⟩ rfl (fun g1 H locs hP hD hS => ?_)
  have hP : va_P D zcl (y_X11 cy q0 g1) H := hP
  have hD : va_D (fun q : Nat => s.heap.size ≤ q) (y_X11 cy q0 g1) := hD
  refine lv_astore_n (lv' := [(1, .ref q0), (0, .ref b)]) hx hb dL_law_7 rfl hl (by decide) rfl (fun ls hl => ?_)
  refine bnew (C := RX12) (T := TX12) (N := 58) (ci := 12) (fs := [.null, .int 0, .null, .null, .null, .int 0, .int 0, .null, .null, .null, .int 0, .null, .null, .null, .int 0, .null, .int 0, .int 0, .null, .int 0, .int 0, .int 0, .int 0, .null, .null, .null, .null, .int 0, .int 0, .int 0, .int 0, .int 0, .int 0, .null, .null, .null, .null, .null, .int 0, .null, .int 0, .int 0, .int 0, .int 0, .null, .null, .null, .int 0, .null, .null, .null, .null, .null, .int 0, .int 0, .null, .null, .null]) (cells' := 55) (slots' := 7043) (ws1 := fun q => y_X11 cy q0 g1 ++ [(q, .inr (12, [.null, .int 0, .null, .null, .null, .int 0, .int 0, .null, .null, .null, .int 0, .null, .null, .null, .int 0, .null, .int 0, .int 0, .null, .int 0, .int 0, .int 0, .int 0, .null, .null, .null, .null, .int 0, .int 0, .int 0, .int 0, .int 0, .int 0, .null, .null, .null, .null, .null, .int 0, .null, .int 0, .int 0, .int 0, .int 0, .null, .null, .null, .int 0, .null, .null, .null, .null, .null, .int 0, .int 0, .null, .null, .null]))]) hB hP hD hS rfl inT12 tyX12 tyX12_ok CL_L_26 IN_X12 II_X12 (fun j hj => match j, hj with | 0, _ => rfl | 1, _ => rfl | 2, _ => rfl | 3, _ => rfl | 4, _ => rfl | 5, _ => rfl | 6, _ => rfl | 7, _ => rfl | 8, _ => rfl | 9, _ => rfl | 10, _ => rfl | 11, _ => rfl | 12, _ => rfl | 13, _ => rfl | 14, _ => rfl | 15, _ => rfl | 16, _ => rfl | 17, _ => rfl | 18, _ => rfl | 19, _ => rfl | 20, _ => rfl | 21, _ => rfl | 22, _ => rfl | 23, _ => rfl | 24, _ => rfl | 25, _ => rfl | 26, _ => rfl | 27, _ => rfl | 28, _ => rfl | 29, _ => rfl | 30, _ => rfl | 31, _ => rfl | 32, _ => rfl | 33, _ => rfl | 34, _ => rfl | 35, _ => rfl | 36, _ => rfl | 37, _ => rfl | 38, _ => rfl | 39, _ => rfl | 40, _ => rfl | 41, _ => rfl | 42, _ => rfl | 43, _ => rfl | 44, _ => rfl | 45, _ => rfl | 46, _ => rfl | 47, _ => rfl | 48, _ => rfl | 49, _ => rfl | 50, _ => rfl | 51, _ => rfl | 52, _ => rfl | 53, _ => rfl | 54, _ => rfl | 55, _ => rfl | 56, _ => rfl | 57, _ => rfl | j + 58, h => absurd h (by omega)) dL_law_8 rfl rfl ⟨Nat.le_of_ble_eq_true rfl, Nat.le_of_ble_eq_true rfl⟩ rfl (fun _ => rfl) (fun q1 H hP hD hS => ?_)
  refine lv_dup hx hb dL_law_11 rfl ?_
  refine bcallI (yi := mX12_init) (as := []) (rest := [.ref q1]) (cells' := 87) (slots' := 20478) hB hP hD hS hl.1 (c_X12 l D cy (y_X11 cy q0 g1) q1) dL_law_12 MB_L_28 IM_X12 II_X12 CI_X12 ⟨by decide, by decide, by decide⟩ (by decide) rfl rfl rfl (by decide) (Nat.le_of_ble_eq_true rfl) rfl rfl rfl ⟨Nat.le_of_ble_eq_true rfl, Nat.le_of_ble_eq_true rfl⟩ rfl (fun g2 H locs hP hD hS => ?_)
  refine lv_astore_n (lv' := [(2, .ref q1), (1, .ref q0), (0, .ref b)]) hx hb dL_law_15 rfl hl (by decide) rfl (fun ls hl => ?_)
  refine lv_iconst (v := 1) hx hb dL_law_16 (by decide) ?_
  refine bnewa (atype := .long) (ty := .long) (t := 1) (N := 1) (a0 := (1, .inr (.inl (fun _ => 0)))) (cells' := 88) (slots' := 20479) (ws1 := fun q => W88 cy q0 g1 q1 g2 q) hB hP hD hS rfl AC_1 rfl RA_1 (fun _ => rfl) (by decide) (by decide) (by decide) dL_law_17 rfl rfl ⟨Nat.le_of_ble_eq_true rfl, Nat.le_of_ble_eq_true rfl⟩ rfl (fun _ => rfl) (fun q2 H hP hD hS => ?_)
  refine lv_astore_n (lv' := [(3, .ref q2), (2, .ref q1), (1, .ref q0), (0, .ref b)]) hx hb dL_law_19 rfl hl (by decide) rfl (fun ls hl => ?_)
  refine lv_iconst (v := 0) hx hb dL_law_20 (by decide) ?_
  refine lv_istore (lv' := [(4, .int 0), (3, .ref q2), (2, .ref q1), (1, .ref q0), (0, .ref b)]) hx hb dL_law_21 hl (by decide) rfl (fun ls hl => ?_)
  have hKx : zKx (adF q0 g1 q1 g2 q2 aK aV) (fun q : Nat => s.heap.size ≤ q) s s.heap := by
    refine ⟨⟨fun i hi => ?_, fun i j hi hj h => ?_⟩, fun i q hq => ?_, hZc, hNB⟩
    · dsimp only
      rw [adF_K hi, adF_V hi]
      exact hSt.1 i hi
    · dsimp only at h
      rw [adF_K hi, adF_K hj] at h
      exact hSt.2 i j hi hj h
    · rw [adF_K (fs_r i q hq).1]
      exact hRf i q hq
  have C : LX p s m meth c D cy (adF q0 g1 q1 g2 q2 aK aV) (fun q : Nat => s.heap.size ≤ q) b L xs := ⟨⟨hx, hb, hml, hr, hown, hts, hlocks, ⟨Nat.le_of_ble_eq_true rfl, Nat.le_of_ble_eq_true rfl⟩, hK, hA, w_Ad hD, hKx⟩, hTx, hX, hbl, Nat.not_le.mpr hbl, hL⟩
  exact law_loop C hfl 512 0 S0 H _ ls 88 20479 (by omega) Inv_0 (by omega) (by omega) (by omega) (w_P hP) hS (lv_sub hl [4, 3, 2, 1, 0] rfl)
