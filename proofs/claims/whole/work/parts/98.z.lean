/-! THE LAW: its loop -/
theorem law_gt {i L : Nat} (hL : L ≤ 2560) (hi : i ≤ L + 5) (h : L < i + 5) : Int32.ofNat L - 5 < nI i := by
  rw [Int32.lt_iff_toInt_lt, nI_toInt (by omega), show Int32.ofNat L - 5 = iI ((L : Int) - 5) from by rw [show Int32.ofNat L = iI (L : Int) from iI_nI L, show (5 : Int32) = iI 5 from by decide, iI_sub], iI_t (by omega)]
  omega
theorem and63 (x : Int32) : 0 ≤ (x &&& 63).toInt ∧ (x &&& 63).toInt < 64 := by
  have h := pk_and x (m := 63) 6 (by decide)
  have h2 : x.toBitVec.toNat % 2 ^ 6 < 64 := Nat.mod_lt _ (by decide)
  rw [show x &&& 63 = nI (x.toBitVec.toNat % 2 ^ 6) from h, nI_toInt (by omega)]
  omega
set_option maxRecDepth 100000 in
set_option maxHeartbeats 8000000 in
theorem lsw {p : Program} {l : Launch} {e : Env} {s : State} {m : MethodId} {below : List Frame} {meth : Method} {c : Code} {D : va_G} {cy : Nat → ClassId} {ad : Nat → Nat} {A : Nat → Prop} {b L : Nat} {xs : Nat → Int32} (C : LX p s m meth c D cy ad A b L xs) (hfl : l.stackTraces = false) {S : zS} (hI : Inv S) {i : Nat} (hi : i + 5 ≤ L) {H : Heap} {locs : List Loc} {la : Array Slot} {cells slots : Nat} {Q : State → Prop} (hcs : cells + 1 ≤ room_1.cells ∧ slots + 6 ≤ room_1.slots) (hP : va_P D zcl (zwd zW cy ad S) H) (hS : va_S A s.heap H locs) (hl : lv_has la 8 [(0, .ref b), (1, .ref (ad 0)), (2, .ref (ad 54)), (3, .ref (ad 87)), (4, .int (nI i))])
    (kk : ∀ (S' : zS) (H' : Heap) (locs' : List Loc) (la' : Array Slot), Inv S' → va_P D zcl (zwd zW cy ad S') H' → va_S A s.heap H' locs' → lv_has la' 8 [(0, .ref b), (1, .ref (ad 0)), (2, .ref (ad 54)), (3, .ref (ad 87)), (4, .int (nI i))] → W p l e room_1 s m #[Value.ref b] below meth c H' locs' (cells + 1) (slots + 6) Q (F0 m 1896 la' [])) (v : Int32) (hv0 : 0 ≤ v.toInt) : W p l e room_1 s m #[Value.ref b] below meth c H locs cells slots Q (F0 m 39 la [.int v]) := by
  have hC := C.1
  have hx := hC.1
  have hb := hC.2.1
  by_cases c0 : v.toInt = 0
  · exact lv_tableIn (off := 209) (tgt := 248) hx hb dL_law_39 (by rw [c0]; decide) (by rw [c0]; decide) (by rw [c0]; rfl) (by decide) (lc_sign C hfl hI hi hcs hP hS hl kk)
  by_cases c1 : v.toInt = 1
  · exact lv_tableIn (off := 234) (tgt := 273) hx hb dL_law_39 (by rw [c1]; decide) (by rw [c1]; decide) (by rw [c1]; rfl) (by decide) (lc_end C hfl hI hi hcs hP hS hl kk)
  by_cases c2 : v.toInt = 2
  · exact lv_tableIn (off := 259) (tgt := 298) hx hb dL_law_39 (by rw [c2]; decide) (by rw [c2]; decide) (by rw [c2]; rfl) (by decide) (lc_ring C hfl hI hi hcs hP hS hl kk)
  by_cases c3 : v.toInt = 3
  · exact lv_tableIn (off := 272) (tgt := 311) hx hb dL_law_39 (by rw [c3]; decide) (by rw [c3]; decide) (by rw [c3]; rfl) (by decide) (lc_horses C hfl hI hi hcs hP hS hl kk)
  by_cases c4 : v.toInt = 4
  · exact lv_tableIn (off := 285) (tgt := 324) hx hb dL_law_39 (by rw [c4]; decide) (by rw [c4]; decide) (by rw [c4]; rfl) (by decide) (lc_plan C hfl hI hi hcs hP hS hl kk)
  by_cases c5 : v.toInt = 5
  · exact lv_tableIn (off := 298) (tgt := 337) hx hb dL_law_39 (by rw [c5]; decide) (by rw [c5]; decide) (by rw [c5]; rfl) (by decide) (lc_rule C hfl hI hi hcs hP hS hl kk)
  by_cases c6 : v.toInt = 6
  · exact lv_tableIn (off := 311) (tgt := 350) hx hb dL_law_39 (by rw [c6]; decide) (by rw [c6]; decide) (by rw [c6]; rfl) (by decide) (lc_prizes C hfl hI hi hcs hP hS hl kk)
  by_cases c7 : v.toInt = 7
  · exact lv_tableIn (off := 324) (tgt := 363) hx hb dL_law_39 (by rw [c7]; decide) (by rw [c7]; decide) (by rw [c7]; rfl) (by decide) (lc_fence C hfl hI hi hcs hP hS hl kk)
  by_cases c8 : v.toInt = 8
  · exact lv_tableIn (off := 392) (tgt := 431) hx hb dL_law_39 (by rw [c8]; decide) (by rw [c8]; decide) (by rw [c8]; rfl) (by decide) (lc_horse C hfl hI hi hcs hP hS hl kk)
  by_cases c9 : v.toInt = 9
  · exact lv_tableIn (off := 460) (tgt := 499) hx hb dL_law_39 (by rw [c9]; decide) (by rw [c9]; decide) (by rw [c9]; rfl) (by decide) (lc_raise C hfl hI hi hcs hP hS hl kk)
  by_cases c10 : v.toInt = 10
  · exact lv_tableIn (off := 497) (tgt := 536) hx hb dL_law_39 (by rw [c10]; decide) (by rw [c10]; decide) (by rw [c10]; rfl) (by decide) (lc_move C hfl hI hi hcs hP hS hl kk)
  by_cases c11 : v.toInt = 11
  · exact lv_tableIn (off := 534) (tgt := 573) hx hb dL_law_39 (by rw [c11]; decide) (by rw [c11]; decide) (by rw [c11]; rfl) (by decide) (lc_allow C hfl hI hi hcs hP hS hl kk)
  by_cases c12 : v.toInt = 12
  · exact lv_tableIn (off := 559) (tgt := 598) hx hb dL_law_39 (by rw [c12]; decide) (by rw [c12]; decide) (by rw [c12]; rfl) (by decide) (lc_sheet C hfl hI hi hcs hP hS hl kk)
  by_cases c13 : v.toInt = 13
  · exact lv_tableIn (off := 620) (tgt := 659) hx hb dL_law_39 (by rw [c13]; decide) (by rw [c13]; decide) (by rw [c13]; rfl) (by decide) (lc_jump C hfl hI hi hcs hP hS hl kk)
  by_cases c14 : v.toInt = 14
  · exact lv_tableIn (off := 669) (tgt := 708) hx hb dL_law_39 (by rw [c14]; decide) (by rw [c14]; decide) (by rw [c14]; rfl) (by decide) (lc_strides C hfl hI hi hcs hP hS hl kk)
  by_cases c15 : v.toInt = 15
  · exact lv_tableIn (off := 706) (tgt := 745) hx hb dL_law_39 (by rw [c15]; decide) (by rw [c15]; decide) (by rw [c15]; rfl) (by decide) (lc_calm C hfl hI hi hcs hP hS hl kk)
  by_cases c16 : v.toInt = 16
  · exact lv_tableIn (off := 743) (tgt := 782) hx hb dL_law_39 (by rw [c16]; decide) (by rw [c16]; decide) (by rw [c16]; rfl) (by decide) (lc_fear C hfl hI hi hcs hP hS hl kk)
  by_cases c17 : v.toInt = 17
  · exact lv_tableIn (off := 780) (tgt := 819) hx hb dL_law_39 (by rw [c17]; decide) (by rw [c17]; decide) (by rw [c17]; rfl) (by decide) (lc_falls C hfl hI hi hcs hP hS hl kk)
  by_cases c18 : v.toInt = 18
  · exact lv_tableIn (off := 817) (tgt := 856) hx hb dL_law_39 (by rw [c18]; decide) (by rw [c18]; decide) (by rw [c18]; rfl) (by decide) (lc_poles C hfl hI hi hcs hP hS hl kk)
  by_cases c19 : v.toInt = 19
  · exact lv_tableIn (off := 866) (tgt := 905) hx hb dL_law_39 (by rw [c19]; decide) (by rw [c19]; decide) (by rw [c19]; rfl) (by decide) (lc_cuts C hfl hI hi hcs hP hS hl kk)
  by_cases c20 : v.toInt = 20
  · exact lv_tableIn (off := 903) (tgt := 942) hx hb dL_law_39 (by rw [c20]; decide) (by rw [c20]; decide) (by rw [c20]; rfl) (by decide) (lc_curve C hfl hI hi hcs hP hS hl kk)
  by_cases c21 : v.toInt = 21
  · exact lv_tableIn (off := 940) (tgt := 979) hx hb dL_law_39 (by rw [c21]; decide) (by rw [c21]; decide) (by rw [c21]; rfl) (by decide) (lc_quick C hfl hI hi hcs hP hS hl kk)
  by_cases c22 : v.toInt = 22
  · exact lv_tableIn (off := 977) (tgt := 1016) hx hb dL_law_39 (by rw [c22]; decide) (by rw [c22]; decide) (by rw [c22]; rfl) (by decide) (lc_sure C hfl hI hi hcs hP hS hl kk)
  by_cases c23 : v.toInt = 23
  · exact lv_tableIn (off := 1002) (tgt := 1041) hx hb dL_law_39 (by rw [c23]; decide) (by rw [c23]; decide) (by rw [c23]; rfl) (by decide) (lc_ride C hfl hI hi hcs hP hS hl kk)
  by_cases c24 : v.toInt = 24
  · exact lv_tableIn (off := 1063) (tgt := 1102) hx hb dL_law_39 (by rw [c24]; decide) (by rw [c24]; decide) (by rw [c24]; rfl) (by decide) (lc_look C hfl hI hi hcs hP hS hl kk)
  by_cases c25 : v.toInt = 25
  · exact lv_tableIn (off := 1112) (tgt := 1151) hx hb dL_law_39 (by rw [c25]; decide) (by rw [c25]; decide) (by rw [c25]; rfl) (by decide) (lc_told C hfl hI hi hcs hP hS hl kk)
  by_cases c26 : v.toInt = 26
  · exact lv_tableIn (off := 1173) (tgt := 1212) hx hb dL_law_39 (by rw [c26]; decide) (by rw [c26]; decide) (by rw [c26]; rfl) (by decide) (lc_show C hfl hI hi hcs hP hS hl kk)
  by_cases c27 : v.toInt = 27
  · exact lv_tableIn (off := 1186) (tgt := 1225) hx hb dL_law_39 (by rw [c27]; decide) (by rw [c27]; decide) (by rw [c27]; rfl) (by decide) (lc_undo C hfl hI hi hcs hP hS hl kk)
  by_cases c28 : v.toInt = 28
  · exact lv_tableIn (off := 1199) (tgt := 1238) hx hb dL_law_39 (by rw [c28]; decide) (by rw [c28]; decide) (by rw [c28]; rfl) (by decide) (lc_round C hfl hI hi hcs hP hS hl kk)
  by_cases c29 : v.toInt = 29
  · exact lv_tableIn (off := 1267) (tgt := 1306) hx hb dL_law_39 (by rw [c29]; decide) (by rw [c29]; decide) (by rw [c29]; rfl) (by decide) (lc_table C hfl hI hi hcs hP hS hl kk)
  by_cases c30 : v.toInt = 30
  · exact lv_tableIn (off := 1280) (tgt := 1319) hx hb dL_law_39 (by rw [c30]; decide) (by rw [c30]; decide) (by rw [c30]; rfl) (by decide) (lc_place C hfl hI hi hcs hP hS hl kk)
  by_cases c31 : v.toInt = 31
  · exact lv_tableIn (off := 1317) (tgt := 1356) hx hb dL_law_39 (by rw [c31]; decide) (by rw [c31]; decide) (by rw [c31]; rfl) (by decide) (lc_beat C hfl hI hi hcs hP hS hl kk)
  by_cases c32 : v.toInt = 32
  · exact lv_tableIn (off := 1342) (tgt := 1381) hx hb dL_law_39 (by rw [c32]; decide) (by rw [c32]; decide) (by rw [c32]; rfl) (by decide) (lc_law C hfl hI hi hcs hP hS hl kk)
  by_cases c33 : v.toInt = 33
  · exact lv_tableIn (off := 1379) (tgt := 1418) hx hb dL_law_39 (by rw [c33]; decide) (by rw [c33]; decide) (by rw [c33]; rfl) (by decide) (lc_mean C hfl hI hi hcs hP hS hl kk)
  by_cases c34 : v.toInt = 34
  · exact lv_tableIn (off := 1416) (tgt := 1455) hx hb dL_law_39 (by rw [c34]; decide) (by rw [c34]; decide) (by rw [c34]; rfl) (by decide) (lc_last C hfl hI hi hcs hP hS hl kk)
  by_cases c35 : v.toInt = 35
  · exact lv_tableIn (off := 1441) (tgt := 1480) hx hb dL_law_39 (by rw [c35]; decide) (by rw [c35]; decide) (by rw [c35]; rfl) (by decide) (lc_buy C hfl hI hi hcs hP hS hl kk)
  by_cases c36 : v.toInt = 36
  · exact lv_tableIn (off := 1454) (tgt := 1493) hx hb dL_law_39 (by rw [c36]; decide) (by rw [c36]; decide) (by rw [c36]; rfl) (by decide) (lc_game C hfl hI hi hcs hP hS hl kk)
  by_cases c37 : v.toInt = 37
  · exact lv_tableIn (off := 1467) (tgt := 1506) hx hb dL_law_39 (by rw [c37]; decide) (by rw [c37]; decide) (by rw [c37]; rfl) (by decide) (lc_lot C hfl hI hi hcs hP hS hl kk)
  by_cases c38 : v.toInt = 38
  · exact lv_tableIn (off := 1480) (tgt := 1519) hx hb dL_law_39 (by rw [c38]; decide) (by rw [c38]; decide) (by rw [c38]; rfl) (by decide) (lc_share C hfl hI hi hcs hP hS hl kk)
  by_cases c39 : v.toInt = 39
  · exact lv_tableIn (off := 1505) (tgt := 1544) hx hb dL_law_39 (by rw [c39]; decide) (by rw [c39]; decide) (by rw [c39]; rfl) (by decide) (lc_through C hfl hI hi hcs hP hS hl kk)
  by_cases c40 : v.toInt = 40
  · exact lv_tableIn (off := 1542) (tgt := 1581) hx hb dL_law_39 (by rw [c40]; decide) (by rw [c40]; decide) (by rw [c40]; rfl) (by decide) (lc_built C hfl hI hi hcs hP hS hl kk)
  by_cases c41 : v.toInt = 41
  · exact lv_tableIn (off := 1591) (tgt := 1630) hx hb dL_law_39 (by rw [c41]; decide) (by rw [c41]; decide) (by rw [c41]; rfl) (by decide) (lc_fair C hfl hI hi hcs hP hS hl kk)
  by_cases c42 : v.toInt = 42
  · exact lv_tableIn (off := 1616) (tgt := 1655) hx hb dL_law_39 (by rw [c42]; decide) (by rw [c42]; decide) (by rw [c42]; rfl) (by decide) (lc_parts C hfl hI hi hcs hP hS hl kk)
  by_cases c43 : v.toInt = 43
  · exact lv_tableIn (off := 1629) (tgt := 1668) hx hb dL_law_39 (by rw [c43]; decide) (by rw [c43]; decide) (by rw [c43]; rfl) (by decide) (lc_riders C hfl hI hi hcs hP hS hl kk)
  by_cases c44 : v.toInt = 44
  · exact lv_tableIn (off := 1666) (tgt := 1705) hx hb dL_law_39 (by rw [c44]; decide) (by rw [c44]; decide) (by rw [c44]; rfl) (by decide) (lc_wind C hfl hI hi hcs hP hS hl kk)
  by_cases c45 : v.toInt = 45
  · exact lv_tableIn (off := 1727) (tgt := 1766) hx hb dL_law_39 (by rw [c45]; decide) (by rw [c45]; decide) (by rw [c45]; rfl) (by decide) (lc_keep C hfl hI hi hcs hP hS hl kk)
  by_cases c46 : v.toInt = 46
  · exact lv_tableIn (off := 1752) (tgt := 1791) hx hb dL_law_39 (by rw [c46]; decide) (by rw [c46]; decide) (by rw [c46]; rfl) (by decide) (lc_again C hfl hI hi hcs hP hS hl kk)
  by_cases c47 : v.toInt = 47
  · exact lv_tableIn (off := 1777) (tgt := 1816) hx hb dL_law_39 (by rw [c47]; decide) (by rw [c47]; decide) (by rw [c47]; rfl) (by decide) (lc_count C hfl hI hi hcs hP hS hl kk)
  by_cases c48 : v.toInt = 48
  · exact lv_tableIn (off := 1802) (tgt := 1841) hx hb dL_law_39 (by rw [c48]; decide) (by rw [c48]; decide) (by rw [c48]; rfl) (by decide) (lc_row C hfl hI hi hcs hP hS hl kk)
  refine lv_tableOut (tgt := 1896) hx hb dL_law_39 (Or.inr (by omega)) (by decide) ?_
  exact W.widen (k := cells + 1) (n := slots + 6) (by omega) (by omega) (kk _ H locs la hI hP hS hl)
theorem lw_fin {p : Program} {l : Launch} {e : Env} {s : State} {m : MethodId} {below : List Frame} {meth : Method} {c : Code} {D : va_G} {cy : Nat → ClassId} {ad : Nat → Nat} {b L : Nat} {xs : Nat → Int32} (C : LX p s m meth c D cy ad (fun q => s.heap.size ≤ q) b L xs) {H : Heap} {locs : List Loc} {la : Array Slot} {cells slots : Nat} (hS : va_S (fun q => s.heap.size ≤ q) s.heap H locs) (hc : cells ≤ 601024) (hs : slots ≤ 7293033) : W p l e room_1 s m #[Value.ref b] below meth c H locs cells slots (lw_Z below #[Value.ref b] s) (F0 m 1902 la []) := by
  have hC := C.1
  have hlocks : meth.locks = false := hC.2.2.2.2.2.2.1
  refine lv_iconst (v := 1) hC.1 hC.2.1 dL_law_1902 (by decide) ?_
  refine va_forget hS.2.2 ?_
  refine W.widen hc hs ?_
  exact lw_ret hC.1 hC.2.1 hC.2.2.2.1 hlocks dL_law_1903
set_option maxRecDepth 100000 in
set_option maxHeartbeats 4000000 in
theorem law_loop {p : Program} {l : Launch} {e : Env} {s : State} {m : MethodId} {below : List Frame} {meth : Method} {c : Code} {D : va_G} {cy : Nat → ClassId} {ad : Nat → Nat} {b L : Nat} {xs : Nat → Int32} (C : LX p s m meth c D cy ad (fun q => s.heap.size ≤ q) b L xs) (hfl : l.stackTraces = false) : ∀ (n i : Nat) (S : zS) (H : Heap) (locs : List Loc) (la : Array Slot) (cells slots : Nat), L < i + 5 * n + 5 → Inv S → i ≤ L + 5 → cells + n ≤ 601024 → slots + 6 * n ≤ 7293033 → va_P D zcl (zwd zW cy ad S) H → va_S (fun q => s.heap.size ≤ q) s.heap H locs → lv_has la 8 [(0, .ref b), (1, .ref (ad 0)), (2, .ref (ad 54)), (3, .ref (ad 87)), (4, .int (nI i))] → W p l e room_1 s m #[Value.ref b] below meth c H locs cells slots (lw_Z below #[Value.ref b] s) (F0 m 23 la []) := by
  have hC := C.1
  have hx := hC.1
  have hb := hC.2.1
  have hL := C.2.2.2.2.2
  have hX := C.2.2.1
  have hbl := C.2.2.2.1
  have hbA := C.2.2.2.2.1
  intro n
  induction n with
  | zero =>
    intro i S H locs la cells slots hn hI hiL hc hs hP hS hl
    refine lv_iload hx hb dL_law_23 (lv_at hl 4 rfl) ?_
    refine lv_aload_n hx hb dL_law_25 rfl (lv_at hl 0 rfl) ?_
    refine va_slen hx hb hX hbl hbA hS dL_law_26 ?_
    refine lv_iconst (v := 5) hx hb dL_law_27 (by decide) ?_
    refine lv_isub hx hb dL_law_28 ?_
    refine lv_icmp_gt (tgt := 1902) hx hb dL_law_29 (by decide) (fun _ => lw_fin C hS (by omega) (by omega)) (fun z => ?_)
    exact absurd (law_gt (i := i) (L := L) (by omega) (by omega) (by omega)) z
  | succ n ih =>
    intro i S H locs la cells slots hn hI hiL hc hs hP hS hl
    refine lv_iload hx hb dL_law_23 (lv_at hl 4 rfl) ?_
    refine lv_aload_n hx hb dL_law_25 rfl (lv_at hl 0 rfl) ?_
    refine va_slen hx hb hX hbl hbA hS dL_law_26 ?_
    refine lv_iconst (v := 5) hx hb dL_law_27 (by decide) ?_
    refine lv_isub hx hb dL_law_28 ?_
    refine lv_icmp_gt (tgt := 1902) hx hb dL_law_29 (by decide) (fun _ => lw_fin C hS (by omega) (by omega)) (fun z => ?_)
    have hi : i + 5 ≤ L := by
      rcases Nat.lt_or_ge L (i + 5) with q | q
      · exact absurd (law_gt (i := i) (L := L) (by omega) (by omega) q) z
      · exact q
    refine lv_aload_n hx hb dL_law_32 rfl (lv_at hl 0 rfl) ?_
    refine lv_iload hx hb dL_law_33 (lv_at hl 4 rfl) ?_
    refine va_sld hx hb hX hbl hbA hS (vp_in_nI (by omega) (by omega)) dL_law_35 ?_
    refine lv_bipush (v := 63) hx hb dL_law_36 (by decide) ?_
    refine lv_iand hx hb dL_law_38 ?_
    refine lsw C hfl hI hi ⟨?_, ?_⟩ hP hS hl (fun S' H' locs' la' hI' hP' hS' hl' => ?_) _ (and63 _).1
    · show cells + 1 ≤ 601024
      omega
    · show slots + 6 ≤ 7293033
      omega
    refine lv_iinc (v := nI (i + 5)) (lv' := [(4, .int (nI (i + 5))), (0, .ref b), (1, .ref (ad 0)), (2, .ref (ad 54)), (3, .ref (ad 87))]) (k := 4) hx hb dL_law_1896 hl' rfl (by rw [show Int32.ofInt 5 = nI 5 from by decide, nI_add]) (by decide) rfl (fun la2 hl2 => ?_)
    refine lv_goto (tgt := 23) hx hb dL_law_1899 (by decide) ?_
    exact ih (i + 5) S' H' locs' la2 (cells + 1) (slots + 6) (by omega) hI' (by omega) (by omega) (by omega) hP' hS' (lv_sub hl2 [1, 2, 3, 4, 0] rfl)
