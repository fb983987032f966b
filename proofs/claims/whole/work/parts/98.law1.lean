/-! THE LAW: its calls, case by case -/
theorem lg_self (x : Int64) : lg_cmp x x = 0 := by
  unfold lg_cmp
  rw [if_neg (fun h => by have := Int64.lt_iff_toInt_lt.mp h; omega), if_pos rfl]
def mL_law : zM := (RL, yL_law, cL_law, 8, some .boolean)
def LX (p : Program) (s : State) (m : MethodId) (meth : Method) (c : Code) (D : va_G) (cy : Nat → ClassId) (ad : Nat → Nat) (A : Nat → Prop) (b L : Nat) (xs : Nat → Int32) : Prop := zC zW 1000 mL_law p room_1 s m #[Value.ref b] meth c D cy ad A ∧ zTx A s s.heap ∧ va_X b L xs s s.heap ∧ b < s.heap.size ∧ ¬ A b ∧ L ≤ 2560
section
variable {p : Program} {l : Launch} {e : Env} {s : State} {m : MethodId} {below : List Frame} {meth : Method} {c : Code} {D : va_G} {cy : Nat → ClassId} {ad : Nat → Nat} {A : Nat → Prop} {b L : Nat} {xs : Nat → Int32}
/-- an argument of a call: script[i + k] -/
theorem larg {k : Int} {kn i pc p2 p3 p4 p5 p6 : Nat} {H : Heap} {locs : List Loc} {la : Array Slot} {cells slots : Nat} {Q : State → Prop} {rest : List Value} (C : LX p s m meth c D cy ad A b L xs) (hS : va_S A s.heap H locs) (hl : lv_has la 8 [(0, .ref b), (1, .ref (ad 0)), (2, .ref (ad 54)), (3, .ref (ad 87)), (4, .int (nI i))]) (hi : i + kn < L)
    (h1 : decode mL_law.2.2.1 pc = .ok (.aload_n 0, 1)) (h2 : decode mL_law.2.2.1 p2 = .ok (.iload 4, 2)) (h3 : decode mL_law.2.2.1 p3 = .ok (.iconst k, 1)) (h4 : decode mL_law.2.2.1 p4 = .ok (.iadd, 1)) (h5 : decode mL_law.2.2.1 p5 = .ok (.iaload, 1)) (e2 : pc + 1 = p2) (e3 : p2 + 2 = p3) (e4 : p3 + 1 = p4) (e5 : p4 + 1 = p5) (e6 : p5 + 1 = p6) (hk : Int32.ofInt k = nI kn)
    (kk : W p l e room_1 s m #[Value.ref b] below meth c H locs cells slots Q (F0 m p6 la (.int (xs (i + kn)) :: rest))) : W p l e room_1 s m #[Value.ref b] below meth c H locs cells slots Q (F0 m pc la rest) := by
  subst e2; subst e3; subst e4; subst e5; subst e6
  obtain ⟨hC, _, hX, hbl, hbA, hL⟩ := C
  refine lv_aload_n hC.1 hC.2.1 h1 rfl (lv_at hl 0 rfl) ?_
  refine lv_iload hC.1 hC.2.1 h2 (lv_at hl 4 rfl) ?_
  refine lv_iconst (v := nI kn) hC.1 hC.2.1 h3 hk ?_
  refine lv_iadd hC.1 hC.2.1 h4 ?_
  rw [nI_add]
  refine va_sld hC.1 hC.2.1 hX hbl hbA hS (vp_in_nI hi (by omega)) h5 ?_
  rw [nI_clamp (by omega)]
  exact kk
end
set_option maxRecDepth 100000 in
set_option maxHeartbeats 4000000 in
theorem lc_sign {p : Program} {l : Launch} {e : Env} {s : State} {m : MethodId} {below : List Frame} {meth : Method} {c : Code} {D : va_G} {cy : Nat → ClassId} {ad : Nat → Nat} {A : Nat → Prop} {b L : Nat} {xs : Nat → Int32} (C : LX p s m meth c D cy ad A b L xs) (hfl : l.stackTraces = false) {S : zS} (hI : Inv S) {i : Nat} (hi : i + 5 ≤ L) {H : Heap} {locs : List Loc} {la : Array Slot} {cells slots : Nat} {Q : State → Prop} (hcs : cells + 1 ≤ room_1.cells ∧ slots + 6 ≤ room_1.slots) (hP : va_P D zcl (zwd zW cy ad S) H) (hS : va_S A s.heap H locs) (hl : lv_has la 8 [(0, .ref b), (1, .ref (ad 0)), (2, .ref (ad 54)), (3, .ref (ad 87)), (4, .int (nI i))])
    (kk : ∀ (S' : zS) (H' : Heap) (locs' : List Loc) (la' : Array Slot), Inv S' → va_P D zcl (zwd zW cy ad S') H' → va_S A s.heap H' locs' → lv_has la' 8 [(0, .ref b), (1, .ref (ad 0)), (2, .ref (ad 54)), (3, .ref (ad 87)), (4, .int (nI i))] → W p l e room_1 s m #[Value.ref b] below meth c H' locs' (cells + 1) (slots + 6) Q (F0 m 1896 la' [])) : W p l e room_1 s m #[Value.ref b] below meth c H locs cells slots Q (F0 m 248 la []) := by
  have hC := C.1
  have hx := hC.1
  have hb := hC.2.1
  have hc0 : cells ≤ room_1.cells ∧ slots ≤ room_1.slots := ⟨by omega, by omega⟩
  obtain ⟨r, M1, M2, m1, m2, hI⟩ := st_sign l hI (xs (i + 1))
  refine lv_aload_n hx hb dL_law_248 rfl (lv_at hl 1 rfl) ?_
  refine larg (kn := 1) C hS hl (by omega) dL_law_249 dL_law_250 dL_law_252 dL_law_253 dL_law_254 rfl rfl rfl rfl rfl rfl ?_
  refine lcallV (mi := mL_law) (yi := mX11_sign) (as := [.int (xs (i + 1))]) (rest := []) hC hP hS hl.1 dL_law_255 ML_L_29 Yv_X11_sign rfl zW_0 rfl rfl m1 (by decide) (Nat.le_of_ble_eq_true rfl) rfl hc0 rfl (fun H locs hP hS => ?_)
  refine lv_aload_n hx hb dL_law_258 rfl (lv_at hl 2 rfl) ?_
  refine larg (kn := 1) C hS hl (by omega) dL_law_259 dL_law_260 dL_law_262 dL_law_263 dL_law_264 rfl rfl rfl rfl rfl rfl ?_
  refine lcallV (mi := mL_law) (yi := mX12_sign) (as := [.int (xs (i + 1))]) (rest := [.int r]) hC hP hS hl.1 dL_law_265 ML_L_33 Yv_X12_sign rfl zW_54 rfl rfl m2 (by decide) (Nat.le_of_ble_eq_true rfl) rfl hc0 rfl (fun H locs hP hS => ?_)
  refine lv_icmp_eq (tgt := 1896) hx hb dL_law_268 (by decide) (fun _ => ?_) (fun z => absurd rfl z)
  exact W.widen (k := cells + 1) (n := slots + 6) (by omega) (by omega) (kk _ H locs la hI hP hS hl)
set_option maxRecDepth 100000 in
set_option maxHeartbeats 4000000 in
theorem lc_end {p : Program} {l : Launch} {e : Env} {s : State} {m : MethodId} {below : List Frame} {meth : Method} {c : Code} {D : va_G} {cy : Nat → ClassId} {ad : Nat → Nat} {A : Nat → Prop} {b L : Nat} {xs : Nat → Int32} (C : LX p s m meth c D cy ad A b L xs) (hfl : l.stackTraces = false) {S : zS} (hI : Inv S) {i : Nat} (hi : i + 5 ≤ L) {H : Heap} {locs : List Loc} {la : Array Slot} {cells slots : Nat} {Q : State → Prop} (hcs : cells + 1 ≤ room_1.cells ∧ slots + 6 ≤ room_1.slots) (hP : va_P D zcl (zwd zW cy ad S) H) (hS : va_S A s.heap H locs) (hl : lv_has la 8 [(0, .ref b), (1, .ref (ad 0)), (2, .ref (ad 54)), (3, .ref (ad 87)), (4, .int (nI i))])
    (kk : ∀ (S' : zS) (H' : Heap) (locs' : List Loc) (la' : Array Slot), Inv S' → va_P D zcl (zwd zW cy ad S') H' → va_S A s.heap H' locs' → lv_has la' 8 [(0, .ref b), (1, .ref (ad 0)), (2, .ref (ad 54)), (3, .ref (ad 87)), (4, .int (nI i))] → W p l e room_1 s m #[Value.ref b] below meth c H' locs' (cells + 1) (slots + 6) Q (F0 m 1896 la' [])) : W p l e room_1 s m #[Value.ref b] below meth c H locs cells slots Q (F0 m 273 la []) := by
  have hC := C.1
  have hx := hC.1
  have hb := hC.2.1
  have hc0 : cells ≤ room_1.cells ∧ slots ≤ room_1.slots := ⟨by omega, by omega⟩
  obtain ⟨r, M1, M2, m1, m2, hI⟩ := st_end l hI (xs (i + 1))
  refine lv_aload_n hx hb dL_law_273 rfl (lv_at hl 1 rfl) ?_
  refine larg (kn := 1) C hS hl (by omega) dL_law_274 dL_law_275 dL_law_277 dL_law_278 dL_law_279 rfl rfl rfl rfl rfl rfl ?_
  refine lcallV (mi := mL_law) (yi := mX11_end) (as := [.int (xs (i + 1))]) (rest := []) hC hP hS hl.1 dL_law_280 ML_L_34 Yv_X11_end rfl zW_0 rfl rfl m1 (by decide) (Nat.le_of_ble_eq_true rfl) rfl hc0 rfl (fun H locs hP hS => ?_)
  refine lv_aload_n hx hb dL_law_283 rfl (lv_at hl 2 rfl) ?_
  refine larg (kn := 1) C hS hl (by omega) dL_law_284 dL_law_285 dL_law_287 dL_law_288 dL_law_289 rfl rfl rfl rfl rfl rfl ?_
  refine lcallV (mi := mL_law) (yi := mX12_end) (as := [.int (xs (i + 1))]) (rest := [.int r]) hC hP hS hl.1 dL_law_290 ML_L_38 Yv_X12_end rfl zW_54 rfl rfl m2 (by decide) (Nat.le_of_ble_eq_true rfl) rfl hc0 rfl (fun H locs hP hS => ?_)
  refine lv_icmp_eq (tgt := 1896) hx hb dL_law_293 (by decide) (fun _ => ?_) (fun z => absurd rfl z)
  exact W.widen (k := cells + 1) (n := slots + 6) (by omega) (by omega) (kk _ H locs la hI hP hS hl)
set_option maxRecDepth 100000 in
set_option maxHeartbeats 4000000 in
theorem lc_ring {p : Program} {l : Launch} {e : Env} {s : State} {m : MethodId} {below : List Frame} {meth : Method} {c : Code} {D : va_G} {cy : Nat → ClassId} {ad : Nat → Nat} {A : Nat → Prop} {b L : Nat} {xs : Nat → Int32} (C : LX p s m meth c D cy ad A b L xs) (hfl : l.stackTraces = false) {S : zS} (hI : Inv S) {i : Nat} (hi : i + 5 ≤ L) {H : Heap} {locs : List Loc} {la : Array Slot} {cells slots : Nat} {Q : State → Prop} (hcs : cells + 1 ≤ room_1.cells ∧ slots + 6 ≤ room_1.slots) (hP : va_P D zcl (zwd zW cy ad S) H) (hS : va_S A s.heap H locs) (hl : lv_has la 8 [(0, .ref b), (1, .ref (ad 0)), (2, .ref (ad 54)), (3, .ref (ad 87)), (4, .int (nI i))])
    (kk : ∀ (S' : zS) (H' : Heap) (locs' : List Loc) (la' : Array Slot), Inv S' → va_P D zcl (zwd zW cy ad S') H' → va_S A s.heap H' locs' → lv_has la' 8 [(0, .ref b), (1, .ref (ad 0)), (2, .ref (ad 54)), (3, .ref (ad 87)), (4, .int (nI i))] → W p l e room_1 s m #[Value.ref b] below meth c H' locs' (cells + 1) (slots + 6) Q (F0 m 1896 la' [])) : W p l e room_1 s m #[Value.ref b] below meth c H locs cells slots Q (F0 m 298 la []) := by
  have hC := C.1
  have hx := hC.1
  have hb := hC.2.1
  have hc0 : cells ≤ room_1.cells ∧ slots ≤ room_1.slots := ⟨by omega, by omega⟩
  obtain ⟨r, M1, M2, m1, m2, hI⟩ := st_ring l hI 
  refine lv_aload_n hx hb dL_law_298 rfl (lv_at hl 1 rfl) ?_
  refine lcallV (mi := mL_law) (yi := mX11_ring) (as := []) (rest := []) hC hP hS hl.1 dL_law_299 ML_L_39 Yv_X11_ring rfl zW_0 rfl rfl m1 (by decide) (Nat.le_of_ble_eq_true rfl) rfl hc0 rfl (fun H locs hP hS => ?_)
  refine lv_aload_n hx hb dL_law_302 rfl (lv_at hl 2 rfl) ?_
  refine lcallV (mi := mL_law) (yi := mX12_ring) (as := []) (rest := [.int r]) hC hP hS hl.1 dL_law_303 ML_L_43 Yv_X12_ring rfl zW_54 rfl rfl m2 (by decide) (Nat.le_of_ble_eq_true rfl) rfl hc0 rfl (fun H locs hP hS => ?_)
  refine lv_icmp_eq (tgt := 1896) hx hb dL_law_306 (by decide) (fun _ => ?_) (fun z => absurd rfl z)
  exact W.widen (k := cells + 1) (n := slots + 6) (by omega) (by omega) (kk _ H locs la hI hP hS hl)
set_option maxRecDepth 100000 in
set_option maxHeartbeats 4000000 in
theorem lc_horses {p : Program} {l : Launch} {e : Env} {s : State} {m : MethodId} {below : List Frame} {meth : Method} {c : Code} {D : va_G} {cy : Nat → ClassId} {ad : Nat → Nat} {A : Nat → Prop} {b L : Nat} {xs : Nat → Int32} (C : LX p s m meth c D cy ad A b L xs) (hfl : l.stackTraces = false) {S : zS} (hI : Inv S) {i : Nat} (hi : i + 5 ≤ L) {H : Heap} {locs : List Loc} {la : Array Slot} {cells slots : Nat} {Q : State → Prop} (hcs : cells + 1 ≤ room_1.cells ∧ slots + 6 ≤ room_1.slots) (hP : va_P D zcl (zwd zW cy ad S) H) (hS : va_S A s.heap H locs) (hl : lv_has la 8 [(0, .ref b), (1, .ref (ad 0)), (2, .ref (ad 54)), (3, .ref (ad 87)), (4, .int (nI i))])
    (kk : ∀ (S' : zS) (H' : Heap) (locs' : List Loc) (la' : Array Slot), Inv S' → va_P D zcl (zwd zW cy ad S') H' → va_S A s.heap H' locs' → lv_has la' 8 [(0, .ref b), (1, .ref (ad 0)), (2, .ref (ad 54)), (3, .ref (ad 87)), (4, .int (nI i))] → W p l e room_1 s m #[Value.ref b] below meth c H' locs' (cells + 1) (slots + 6) Q (F0 m 1896 la' [])) : W p l e room_1 s m #[Value.ref b] below meth c H locs cells slots Q (F0 m 311 la []) := by
  have hC := C.1
  have hx := hC.1
  have hb := hC.2.1
  have hc0 : cells ≤ room_1.cells ∧ slots ≤ room_1.slots := ⟨by omega, by omega⟩
  obtain ⟨r, M1, M2, m1, m2, hI⟩ := st_horses l hI 
  refine lv_aload_n hx hb dL_law_311 rfl (lv_at hl 1 rfl) ?_
  refine lcallV (mi := mL_law) (yi := mX11_horses) (as := []) (rest := []) hC hP hS hl.1 dL_law_312 ML_L_44 Yv_X11_horses rfl zW_0 rfl rfl m1 (by decide) (Nat.le_of_ble_eq_true rfl) rfl hc0 rfl (fun H locs hP hS => ?_)
  refine lv_aload_n hx hb dL_law_315 rfl (lv_at hl 2 rfl) ?_
  refine lcallV (mi := mL_law) (yi := mX12_horses) (as := []) (rest := [.int r]) hC hP hS hl.1 dL_law_316 ML_L_47 Yv_X12_horses rfl zW_54 rfl rfl m2 (by decide) (Nat.le_of_ble_eq_true rfl) rfl hc0 rfl (fun H locs hP hS => ?_)
  refine lv_icmp_eq (tgt := 1896) hx hb dL_law_319 (by decide) (fun _ => ?_) (fun z => absurd rfl z)
  exact W.widen (k := cells + 1) (n := slots + 6) (by omega) (by omega) (kk _ H locs la hI hP hS hl)
set_option maxRecDepth 100000 in
set_option maxHeartbeats 4000000 in
theorem lc_plan {p : Program} {l : Launch} {e : Env} {s : State} {m : MethodId} {below : List Frame} {meth : Method} {c : Code} {D : va_G} {cy : Nat → ClassId} {ad : Nat → Nat} {A : Nat → Prop} {b L : Nat} {xs : Nat → Int32} (C : LX p s m meth c D cy ad A b L xs) (hfl : l.stackTraces = false) {S : zS} (hI : Inv S) {i : Nat} (hi : i + 5 ≤ L) {H : Heap} {locs : List Loc} {la : Array Slot} {cells slots : Nat} {Q : State → Prop} (hcs : cells + 1 ≤ room_1.cells ∧ slots + 6 ≤ room_1.slots) (hP : va_P D zcl (zwd zW cy ad S) H) (hS : va_S A s.heap H locs) (hl : lv_has la 8 [(0, .ref b), (1, .ref (ad 0)), (2, .ref (ad 54)), (3, .ref (ad 87)), (4, .int (nI i))])
    (kk : ∀ (S' : zS) (H' : Heap) (locs' : List Loc) (la' : Array Slot), Inv S' → va_P D zcl (zwd zW cy ad S') H' → va_S A s.heap H' locs' → lv_has la' 8 [(0, .ref b), (1, .ref (ad 0)), (2, .ref (ad 54)), (3, .ref (ad 87)), (4, .int (nI i))] → W p l e room_1 s m #[Value.ref b] below meth c H' locs' (cells + 1) (slots + 6) Q (F0 m 1896 la' [])) : W p l e room_1 s m #[Value.ref b] below meth c H locs cells slots Q (F0 m 324 la []) := by
  have hC := C.1
  have hx := hC.1
  have hb := hC.2.1
  have hc0 : cells ≤ room_1.cells ∧ slots ≤ room_1.slots := ⟨by omega, by omega⟩
  obtain ⟨r, M1, M2, m1, m2, hI⟩ := st_plan l hI 
  refine lv_aload_n hx hb dL_law_324 rfl (lv_at hl 1 rfl) ?_
  refine lcallV (mi := mL_law) (yi := mX11_plan) (as := []) (rest := []) hC hP hS hl.1 dL_law_325 ML_L_48 Yv_X11_plan rfl zW_0 rfl rfl m1 (by decide) (Nat.le_of_ble_eq_true rfl) rfl hc0 rfl (fun H locs hP hS => ?_)
  refine lv_aload_n hx hb dL_law_328 rfl (lv_at hl 2 rfl) ?_
  refine lcallV (mi := mL_law) (yi := mX12_plan) (as := []) (rest := [.int r]) hC hP hS hl.1 dL_law_329 ML_L_51 Yv_X12_plan rfl zW_54 rfl rfl m2 (by decide) (Nat.le_of_ble_eq_true rfl) rfl hc0 rfl (fun H locs hP hS => ?_)
  refine lv_icmp_eq (tgt := 1896) hx hb dL_law_332 (by decide) (fun _ => ?_) (fun z => absurd rfl z)
  exact W.widen (k := cells + 1) (n := slots + 6) (by omega) (by omega) (kk _ H locs la hI hP hS hl)
set_option maxRecDepth 100000 in
set_option maxHeartbeats 4000000 in
theorem lc_rule {p : Program} {l : Launch} {e : Env} {s : State} {m : MethodId} {below : List Frame} {meth : Method} {c : Code} {D : va_G} {cy : Nat → ClassId} {ad : Nat → Nat} {A : Nat → Prop} {b L : Nat} {xs : Nat → Int32} (C : LX p s m meth c D cy ad A b L xs) (hfl : l.stackTraces = false) {S : zS} (hI : Inv S) {i : Nat} (hi : i + 5 ≤ L) {H : Heap} {locs : List Loc} {la : Array Slot} {cells slots : Nat} {Q : State → Prop} (hcs : cells + 1 ≤ room_1.cells ∧ slots + 6 ≤ room_1.slots) (hP : va_P D zcl (zwd zW cy ad S) H) (hS : va_S A s.heap H locs) (hl : lv_has la 8 [(0, .ref b), (1, .ref (ad 0)), (2, .ref (ad 54)), (3, .ref (ad 87)), (4, .int (nI i))])
    (kk : ∀ (S' : zS) (H' : Heap) (locs' : List Loc) (la' : Array Slot), Inv S' → va_P D zcl (zwd zW cy ad S') H' → va_S A s.heap H' locs' → lv_has la' 8 [(0, .ref b), (1, .ref (ad 0)), (2, .ref (ad 54)), (3, .ref (ad 87)), (4, .int (nI i))] → W p l e room_1 s m #[Value.ref b] below meth c H' locs' (cells + 1) (slots + 6) Q (F0 m 1896 la' [])) : W p l e room_1 s m #[Value.ref b] below meth c H locs cells slots Q (F0 m 337 la []) := by
  have hC := C.1
  have hx := hC.1
  have hb := hC.2.1
  have hc0 : cells ≤ room_1.cells ∧ slots ≤ room_1.slots := ⟨by omega, by omega⟩
  obtain ⟨r, M1, M2, m1, m2, hI⟩ := st_rule l hI 
  refine lv_aload_n hx hb dL_law_337 rfl (lv_at hl 1 rfl) ?_
  refine lcallV (mi := mL_law) (yi := mX11_rule) (as := []) (rest := []) hC hP hS hl.1 dL_law_338 ML_L_52 Yv_X11_rule rfl zW_0 rfl rfl m1 (by decide) (Nat.le_of_ble_eq_true rfl) rfl hc0 rfl (fun H locs hP hS => ?_)
  refine lv_aload_n hx hb dL_law_341 rfl (lv_at hl 2 rfl) ?_
  refine lcallV (mi := mL_law) (yi := mX12_rule) (as := []) (rest := [.int r]) hC hP hS hl.1 dL_law_342 ML_L_55 Yv_X12_rule rfl zW_54 rfl rfl m2 (by decide) (Nat.le_of_ble_eq_true rfl) rfl hc0 rfl (fun H locs hP hS => ?_)
  refine lv_icmp_eq (tgt := 1896) hx hb dL_law_345 (by decide) (fun _ => ?_) (fun z => absurd rfl z)
  exact W.widen (k := cells + 1) (n := slots + 6) (by omega) (by omega) (kk _ H locs la hI hP hS hl)
set_option maxRecDepth 100000 in
set_option maxHeartbeats 4000000 in
theorem lc_prizes {p : Program} {l : Launch} {e : Env} {s : State} {m : MethodId} {below : List Frame} {meth : Method} {c : Code} {D : va_G} {cy : Nat → ClassId} {ad : Nat → Nat} {A : Nat → Prop} {b L : Nat} {xs : Nat → Int32} (C : LX p s m meth c D cy ad A b L xs) (hfl : l.stackTraces = false) {S : zS} (hI : Inv S) {i : Nat} (hi : i + 5 ≤ L) {H : Heap} {locs : List Loc} {la : Array Slot} {cells slots : Nat} {Q : State → Prop} (hcs : cells + 1 ≤ room_1.cells ∧ slots + 6 ≤ room_1.slots) (hP : va_P D zcl (zwd zW cy ad S) H) (hS : va_S A s.heap H locs) (hl : lv_has la 8 [(0, .ref b), (1, .ref (ad 0)), (2, .ref (ad 54)), (3, .ref (ad 87)), (4, .int (nI i))])
    (kk : ∀ (S' : zS) (H' : Heap) (locs' : List Loc) (la' : Array Slot), Inv S' → va_P D zcl (zwd zW cy ad S') H' → va_S A s.heap H' locs' → lv_has la' 8 [(0, .ref b), (1, .ref (ad 0)), (2, .ref (ad 54)), (3, .ref (ad 87)), (4, .int (nI i))] → W p l e room_1 s m #[Value.ref b] below meth c H' locs' (cells + 1) (slots + 6) Q (F0 m 1896 la' [])) : W p l e room_1 s m #[Value.ref b] below meth c H locs cells slots Q (F0 m 350 la []) := by
  have hC := C.1
  have hx := hC.1
  have hb := hC.2.1
  have hc0 : cells ≤ room_1.cells ∧ slots ≤ room_1.slots := ⟨by omega, by omega⟩
  obtain ⟨r, M1, M2, m1, m2, hI⟩ := st_prizes l hI 
  refine lv_aload_n hx hb dL_law_350 rfl (lv_at hl 1 rfl) ?_
  refine lcallV (mi := mL_law) (yi := mX11_prizes) (as := []) (rest := []) hC hP hS hl.1 dL_law_351 ML_L_56 Yv_X11_prizes rfl zW_0 rfl rfl m1 (by decide) (Nat.le_of_ble_eq_true rfl) rfl hc0 rfl (fun H locs hP hS => ?_)
  refine lv_aload_n hx hb dL_law_354 rfl (lv_at hl 2 rfl) ?_
  refine lcallV (mi := mL_law) (yi := mX12_prizes) (as := []) (rest := [.int r]) hC hP hS hl.1 dL_law_355 ML_L_59 Yv_X12_prizes rfl zW_54 rfl rfl m2 (by decide) (Nat.le_of_ble_eq_true rfl) rfl hc0 rfl (fun H locs hP hS => ?_)
  refine lv_icmp_eq (tgt := 1896) hx hb dL_law_358 (by decide) (fun _ => ?_) (fun z => absurd rfl z)
  exact W.widen (k := cells + 1) (n := slots + 6) (by omega) (by omega) (kk _ H locs la hI hP hS hl)
set_option maxRecDepth 100000 in
set_option maxHeartbeats 4000000 in
theorem lc_fence {p : Program} {l : Launch} {e : Env} {s : State} {m : MethodId} {below : List Frame} {meth : Method} {c : Code} {D : va_G} {cy : Nat → ClassId} {ad : Nat → Nat} {A : Nat → Prop} {b L : Nat} {xs : Nat → Int32} (C : LX p s m meth c D cy ad A b L xs) (hfl : l.stackTraces = false) {S : zS} (hI : Inv S) {i : Nat} (hi : i + 5 ≤ L) {H : Heap} {locs : List Loc} {la : Array Slot} {cells slots : Nat} {Q : State → Prop} (hcs : cells + 1 ≤ room_1.cells ∧ slots + 6 ≤ room_1.slots) (hP : va_P D zcl (zwd zW cy ad S) H) (hS : va_S A s.heap H locs) (hl : lv_has la 8 [(0, .ref b), (1, .ref (ad 0)), (2, .ref (ad 54)), (3, .ref (ad 87)), (4, .int (nI i))])
    (kk : ∀ (S' : zS) (H' : Heap) (locs' : List Loc) (la' : Array Slot), Inv S' → va_P D zcl (zwd zW cy ad S') H' → va_S A s.heap H' locs' → lv_has la' 8 [(0, .ref b), (1, .ref (ad 0)), (2, .ref (ad 54)), (3, .ref (ad 87)), (4, .int (nI i))] → W p l e room_1 s m #[Value.ref b] below meth c H' locs' (cells + 1) (slots + 6) Q (F0 m 1896 la' [])) : W p l e room_1 s m #[Value.ref b] below meth c H locs cells slots Q (F0 m 363 la []) := by
  have hC := C.1
  have hx := hC.1
  have hb := hC.2.1
  have hc0 : cells ≤ room_1.cells ∧ slots ≤ room_1.slots := ⟨by omega, by omega⟩
  obtain ⟨k, bb, S1, M2, M3, m1, m2, m3, hout, hI⟩ := st_fence l hfl hI (xs (i + 1)) (xs (i + 2))
  refine lv_aload_n hx hb dL_law_363 rfl (lv_at hl 1 rfl) ?_
  refine larg (kn := 1) C hS hl (by omega) dL_law_364 dL_law_365 dL_law_367 dL_law_368 dL_law_369 rfl rfl rfl rfl rfl rfl ?_
  refine larg (kn := 2) C hS hl (by omega) dL_law_370 dL_law_371 dL_law_373 dL_law_374 dL_law_375 rfl rfl rfl rfl rfl rfl ?_
  refine lv_aload_n hx hb dL_law_376 rfl (lv_at hl 3 rfl) ?_
  refine lcallW (n := 4) (mi := mL_law) (yi := mL_fence) (as := [.ref 0, .int (xs (i + 1)), .int (xs (i + 2)), .ref 87]) (rest := []) hC C.2.1 hP hS hl.1 dL_law_377 CK_fence CS_fence C_RL CW_fence ⟨by decide, by decide, by decide⟩ (by decide) rfl m1 (by decide) (Nat.le_of_ble_eq_true rfl) rfl hcs rfl (fun H locs hP hS => ?_)
  refine lv_istore (lv' := (5, .int k) :: [(0, .ref b), (1, .ref (ad 0)), (2, .ref (ad 54)), (3, .ref (ad 87)), (4, .int (nI i))]) hx hb dL_law_380 hl (by decide) rfl (fun la hl5 => ?_)
  have hl := lv_sub (l' := [(0, .ref b), (1, .ref (ad 0)), (2, .ref (ad 54)), (3, .ref (ad 87)), (4, .int (nI i))]) hl5 [1, 2, 3, 4, 5] rfl
  refine lv_aload_n hx hb dL_law_382 rfl (lv_at hl 2 rfl) ?_
  refine larg (kn := 1) C hS hl (by omega) dL_law_383 dL_law_384 dL_law_386 dL_law_387 dL_law_388 rfl rfl rfl rfl rfl rfl ?_
  refine larg (kn := 2) C hS hl (by omega) dL_law_389 dL_law_390 dL_law_392 dL_law_393 dL_law_394 rfl rfl rfl rfl rfl rfl ?_
  refine lcallV (mi := mL_law) (yi := mX12_fence) (as := [.int (xs (i + 1)), .int (xs (i + 2))]) (rest := []) hC hP hS hl.1 dL_law_395 ML_L_65 Yv_X12_fence rfl zW_54 rfl rfl m2 (by decide) (Nat.le_of_ble_eq_true rfl) rfl hcs rfl (fun H locs hP hS => ?_)
  refine lv_istore (lv' := (6, .int bb) :: (5, .int k) :: [(0, .ref b), (1, .ref (ad 0)), (2, .ref (ad 54)), (3, .ref (ad 87)), (4, .int (nI i))]) hx hb dL_law_398 hl5 (by decide) rfl (fun la hl6 => ?_)
  have hl := lv_sub (l' := [(0, .ref b), (1, .ref (ad 0)), (2, .ref (ad 54)), (3, .ref (ad 87)), (4, .int (nI i))]) hl6 [2, 3, 4, 5, 6] rfl
  refine lv_aload_n hx hb dL_law_400 rfl (lv_at hl 2 rfl) ?_
  refine lcallV (mi := mL_law) (yi := mX12_thrown) (as := []) (rest := []) hC hP hS hl.1 dL_law_401 ML_L_66 Yv_X12_thrown rfl zW_54 rfl rfl m3 (by decide) (Nat.le_of_ble_eq_true rfl) rfl hcs rfl (fun H locs hP hS => ?_)
  refine lv_iload hx hb dL_law_404 (lv_at hl6 1 rfl) ?_
  refine lv_icmp_eq (tgt := 411) hx hb dL_law_406 (by decide) (fun _ => ?_) (fun z => absurd rfl z)
  refine lv_iload hx hb dL_law_411 (lv_at hl6 1 rfl) ?_
  have hend : W p l e room_1 s m #[Value.ref b] below meth c H locs (cells + 1) (slots + 6) Q (F0 m 428 la []) := by
    refine lv_goto (tgt := 1896) hx hb dL_law_428 (by decide) ?_
    exact kk _ H locs la hI hP hS hl
  refine lv_if_ne (tgt := 428) hx hb dL_law_413 (by decide) (fun _ => hend) (fun hk => ?_)
  refine lv_aload_n hx hb dL_law_416 rfl (lv_at hl 3 rfl) ?_
  refine lv_iconst (v := 0) hx hb dL_law_417 (by decide) ?_
  refine va_lald hx hb hC.2.2.2.2.2.2.2.2.1 hP 87 1 (zwd_at zW_87) rfl (ix_in (i := 0) (n := 1) (by decide)) dL_law_418 ?_
  refine lv_iload hx hb dL_law_419 (lv_at hl6 0 rfl) ?_
  refine lv_i2l (v := bb.toInt64) hx hb dL_law_421 rfl ?_
  refine W.lcmp hx hb dL_law_422 ?_
  have e0 : lg_cmp ((zap (zap S1 M2) M3).2.2 87 (0 : Int32).toNatClampNeg) bb.toInt64 = 0 := by
    rw [show (0 : Int32).toNatClampNeg = 0 from rfl, hout hk]
    exact lg_self _
  refine lv_if_eq (tgt := 428) hx hb dL_law_423 (by decide) (fun _ => hend) (fun z => absurd e0 z)
set_option maxRecDepth 100000 in
set_option maxHeartbeats 4000000 in
theorem lc_horse {p : Program} {l : Launch} {e : Env} {s : State} {m : MethodId} {below : List Frame} {meth : Method} {c : Code} {D : va_G} {cy : Nat → ClassId} {ad : Nat → Nat} {A : Nat → Prop} {b L : Nat} {xs : Nat → Int32} (C : LX p s m meth c D cy ad A b L xs) (hfl : l.stackTraces = false) {S : zS} (hI : Inv S) {i : Nat} (hi : i + 5 ≤ L) {H : Heap} {locs : List Loc} {la : Array Slot} {cells slots : Nat} {Q : State → Prop} (hcs : cells + 1 ≤ room_1.cells ∧ slots + 6 ≤ room_1.slots) (hP : va_P D zcl (zwd zW cy ad S) H) (hS : va_S A s.heap H locs) (hl : lv_has la 8 [(0, .ref b), (1, .ref (ad 0)), (2, .ref (ad 54)), (3, .ref (ad 87)), (4, .int (nI i))])
    (kk : ∀ (S' : zS) (H' : Heap) (locs' : List Loc) (la' : Array Slot), Inv S' → va_P D zcl (zwd zW cy ad S') H' → va_S A s.heap H' locs' → lv_has la' 8 [(0, .ref b), (1, .ref (ad 0)), (2, .ref (ad 54)), (3, .ref (ad 87)), (4, .int (nI i))] → W p l e room_1 s m #[Value.ref b] below meth c H' locs' (cells + 1) (slots + 6) Q (F0 m 1896 la' [])) : W p l e room_1 s m #[Value.ref b] below meth c H locs cells slots Q (F0 m 431 la []) := by
  have hC := C.1
  have hx := hC.1
  have hb := hC.2.1
  have hc0 : cells ≤ room_1.cells ∧ slots ≤ room_1.slots := ⟨by omega, by omega⟩
  obtain ⟨k, bb, S1, M2, M3, m1, m2, m3, hout, hI⟩ := st_horse l hfl hI (xs (i + 1)) (xs (i + 2))
  refine lv_aload_n hx hb dL_law_431 rfl (lv_at hl 1 rfl) ?_
  refine larg (kn := 1) C hS hl (by omega) dL_law_432 dL_law_433 dL_law_435 dL_law_436 dL_law_437 rfl rfl rfl rfl rfl rfl ?_
  refine larg (kn := 2) C hS hl (by omega) dL_law_438 dL_law_439 dL_law_441 dL_law_442 dL_law_443 rfl rfl rfl rfl rfl rfl ?_
  refine lv_aload_n hx hb dL_law_444 rfl (lv_at hl 3 rfl) ?_
  refine lcallW (n := 4) (mi := mL_law) (yi := mL_horse) (as := [.ref 0, .int (xs (i + 1)), .int (xs (i + 2)), .ref 87]) (rest := []) hC C.2.1 hP hS hl.1 dL_law_445 CK_horse CS_horse C_RL CW_horse ⟨by decide, by decide, by decide⟩ (by decide) rfl m1 (by decide) (Nat.le_of_ble_eq_true rfl) rfl hcs rfl (fun H locs hP hS => ?_)
  refine lv_istore (lv' := (5, .int k) :: [(0, .ref b), (1, .ref (ad 0)), (2, .ref (ad 54)), (3, .ref (ad 87)), (4, .int (nI i))]) hx hb dL_law_448 hl (by decide) rfl (fun la hl5 => ?_)
  have hl := lv_sub (l' := [(0, .ref b), (1, .ref (ad 0)), (2, .ref (ad 54)), (3, .ref (ad 87)), (4, .int (nI i))]) hl5 [1, 2, 3, 4, 5] rfl
  refine lv_aload_n hx hb dL_law_450 rfl (lv_at hl 2 rfl) ?_
  refine larg (kn := 1) C hS hl (by omega) dL_law_451 dL_law_452 dL_law_454 dL_law_455 dL_law_456 rfl rfl rfl rfl rfl rfl ?_
  refine larg (kn := 2) C hS hl (by omega) dL_law_457 dL_law_458 dL_law_460 dL_law_461 dL_law_462 rfl rfl rfl rfl rfl rfl ?_
  refine lcallV (mi := mL_law) (yi := mX12_horse) (as := [.int (xs (i + 1)), .int (xs (i + 2))]) (rest := []) hC hP hS hl.1 dL_law_463 ML_L_71 Yv_X12_horse rfl zW_54 rfl rfl m2 (by decide) (Nat.le_of_ble_eq_true rfl) rfl hcs rfl (fun H locs hP hS => ?_)
  refine lv_istore (lv' := (6, .int bb) :: (5, .int k) :: [(0, .ref b), (1, .ref (ad 0)), (2, .ref (ad 54)), (3, .ref (ad 87)), (4, .int (nI i))]) hx hb dL_law_466 hl5 (by decide) rfl (fun la hl6 => ?_)
  have hl := lv_sub (l' := [(0, .ref b), (1, .ref (ad 0)), (2, .ref (ad 54)), (3, .ref (ad 87)), (4, .int (nI i))]) hl6 [2, 3, 4, 5, 6] rfl
  refine lv_aload_n hx hb dL_law_468 rfl (lv_at hl 2 rfl) ?_
  refine lcallV (mi := mL_law) (yi := mX12_thrown) (as := []) (rest := []) hC hP hS hl.1 dL_law_469 ML_L_66 Yv_X12_thrown rfl zW_54 rfl rfl m3 (by decide) (Nat.le_of_ble_eq_true rfl) rfl hcs rfl (fun H locs hP hS => ?_)
  refine lv_iload hx hb dL_law_472 (lv_at hl6 1 rfl) ?_
  refine lv_icmp_eq (tgt := 479) hx hb dL_law_474 (by decide) (fun _ => ?_) (fun z => absurd rfl z)
  refine lv_iload hx hb dL_law_479 (lv_at hl6 1 rfl) ?_
  have hend : W p l e room_1 s m #[Value.ref b] below meth c H locs (cells + 1) (slots + 6) Q (F0 m 496 la []) := by
    refine lv_goto (tgt := 1896) hx hb dL_law_496 (by decide) ?_
    exact kk _ H locs la hI hP hS hl
  refine lv_if_ne (tgt := 496) hx hb dL_law_481 (by decide) (fun _ => hend) (fun hk => ?_)
  refine lv_aload_n hx hb dL_law_484 rfl (lv_at hl 3 rfl) ?_
  refine lv_iconst (v := 0) hx hb dL_law_485 (by decide) ?_
  refine va_lald hx hb hC.2.2.2.2.2.2.2.2.1 hP 87 1 (zwd_at zW_87) rfl (ix_in (i := 0) (n := 1) (by decide)) dL_law_486 ?_
  refine lv_iload hx hb dL_law_487 (lv_at hl6 0 rfl) ?_
  refine lv_i2l (v := bb.toInt64) hx hb dL_law_489 rfl ?_
  refine W.lcmp hx hb dL_law_490 ?_
  have e0 : lg_cmp ((zap (zap S1 M2) M3).2.2 87 (0 : Int32).toNatClampNeg) bb.toInt64 = 0 := by
    rw [show (0 : Int32).toNatClampNeg = 0 from rfl, hout hk]
    exact lg_self _
  refine lv_if_eq (tgt := 496) hx hb dL_law_491 (by decide) (fun _ => hend) (fun z => absurd e0 z)
set_option maxRecDepth 100000 in
set_option maxHeartbeats 4000000 in
theorem lc_raise {p : Program} {l : Launch} {e : Env} {s : State} {m : MethodId} {below : List Frame} {meth : Method} {c : Code} {D : va_G} {cy : Nat → ClassId} {ad : Nat → Nat} {A : Nat → Prop} {b L : Nat} {xs : Nat → Int32} (C : LX p s m meth c D cy ad A b L xs) (hfl : l.stackTraces = false) {S : zS} (hI : Inv S) {i : Nat} (hi : i + 5 ≤ L) {H : Heap} {locs : List Loc} {la : Array Slot} {cells slots : Nat} {Q : State → Prop} (hcs : cells + 1 ≤ room_1.cells ∧ slots + 6 ≤ room_1.slots) (hP : va_P D zcl (zwd zW cy ad S) H) (hS : va_S A s.heap H locs) (hl : lv_has la 8 [(0, .ref b), (1, .ref (ad 0)), (2, .ref (ad 54)), (3, .ref (ad 87)), (4, .int (nI i))])
    (kk : ∀ (S' : zS) (H' : Heap) (locs' : List Loc) (la' : Array Slot), Inv S' → va_P D zcl (zwd zW cy ad S') H' → va_S A s.heap H' locs' → lv_has la' 8 [(0, .ref b), (1, .ref (ad 0)), (2, .ref (ad 54)), (3, .ref (ad 87)), (4, .int (nI i))] → W p l e room_1 s m #[Value.ref b] below meth c H' locs' (cells + 1) (slots + 6) Q (F0 m 1896 la' [])) : W p l e room_1 s m #[Value.ref b] below meth c H locs cells slots Q (F0 m 499 la []) := by
  have hC := C.1
  have hx := hC.1
  have hb := hC.2.1
  have hc0 : cells ≤ room_1.cells ∧ slots ≤ room_1.slots := ⟨by omega, by omega⟩
  obtain ⟨r, M1, M2, m1, m2, hI⟩ := st_raise l hI (xs (i + 1)) (xs (i + 2))
  refine lv_aload_n hx hb dL_law_499 rfl (lv_at hl 1 rfl) ?_
  refine larg (kn := 1) C hS hl (by omega) dL_law_500 dL_law_501 dL_law_503 dL_law_504 dL_law_505 rfl rfl rfl rfl rfl rfl ?_
  refine larg (kn := 2) C hS hl (by omega) dL_law_506 dL_law_507 dL_law_509 dL_law_510 dL_law_511 rfl rfl rfl rfl rfl rfl ?_
  refine lcallV (mi := mL_law) (yi := mX11_raise) (as := [.int (xs (i + 1)), .int (xs (i + 2))]) (rest := []) hC hP hS hl.1 dL_law_512 ML_L_72 Yv_X11_raise rfl zW_0 rfl rfl m1 (by decide) (Nat.le_of_ble_eq_true rfl) rfl hc0 rfl (fun H locs hP hS => ?_)
  refine lv_aload_n hx hb dL_law_515 rfl (lv_at hl 2 rfl) ?_
  refine larg (kn := 1) C hS hl (by omega) dL_law_516 dL_law_517 dL_law_519 dL_law_520 dL_law_521 rfl rfl rfl rfl rfl rfl ?_
  refine larg (kn := 2) C hS hl (by omega) dL_law_522 dL_law_523 dL_law_525 dL_law_526 dL_law_527 rfl rfl rfl rfl rfl rfl ?_
  refine lcallV (mi := mL_law) (yi := mX12_raise) (as := [.int (xs (i + 1)), .int (xs (i + 2))]) (rest := [.int r]) hC hP hS hl.1 dL_law_528 ML_L_75 Yv_X12_raise rfl zW_54 rfl rfl m2 (by decide) (Nat.le_of_ble_eq_true rfl) rfl hc0 rfl (fun H locs hP hS => ?_)
  refine lv_icmp_eq (tgt := 1896) hx hb dL_law_531 (by decide) (fun _ => ?_) (fun z => absurd rfl z)
  exact W.widen (k := cells + 1) (n := slots + 6) (by omega) (by omega) (kk _ H locs la hI hP hS hl)
set_option maxRecDepth 100000 in
set_option maxHeartbeats 4000000 in
theorem lc_move {p : Program} {l : Launch} {e : Env} {s : State} {m : MethodId} {below : List Frame} {meth : Method} {c : Code} {D : va_G} {cy : Nat → ClassId} {ad : Nat → Nat} {A : Nat → Prop} {b L : Nat} {xs : Nat → Int32} (C : LX p s m meth c D cy ad A b L xs) (hfl : l.stackTraces = false) {S : zS} (hI : Inv S) {i : Nat} (hi : i + 5 ≤ L) {H : Heap} {locs : List Loc} {la : Array Slot} {cells slots : Nat} {Q : State → Prop} (hcs : cells + 1 ≤ room_1.cells ∧ slots + 6 ≤ room_1.slots) (hP : va_P D zcl (zwd zW cy ad S) H) (hS : va_S A s.heap H locs) (hl : lv_has la 8 [(0, .ref b), (1, .ref (ad 0)), (2, .ref (ad 54)), (3, .ref (ad 87)), (4, .int (nI i))])
    (kk : ∀ (S' : zS) (H' : Heap) (locs' : List Loc) (la' : Array Slot), Inv S' → va_P D zcl (zwd zW cy ad S') H' → va_S A s.heap H' locs' → lv_has la' 8 [(0, .ref b), (1, .ref (ad 0)), (2, .ref (ad 54)), (3, .ref (ad 87)), (4, .int (nI i))] → W p l e room_1 s m #[Value.ref b] below meth c H' locs' (cells + 1) (slots + 6) Q (F0 m 1896 la' [])) : W p l e room_1 s m #[Value.ref b] below meth c H locs cells slots Q (F0 m 536 la []) := by
  have hC := C.1
  have hx := hC.1
  have hb := hC.2.1
  have hc0 : cells ≤ room_1.cells ∧ slots ≤ room_1.slots := ⟨by omega, by omega⟩
  obtain ⟨r, M1, M2, m1, m2, hI⟩ := st_move l hI (xs (i + 1)) (xs (i + 2))
  refine lv_aload_n hx hb dL_law_536 rfl (lv_at hl 1 rfl) ?_
  refine larg (kn := 1) C hS hl (by omega) dL_law_537 dL_law_538 dL_law_540 dL_law_541 dL_law_542 rfl rfl rfl rfl rfl rfl ?_
  refine larg (kn := 2) C hS hl (by omega) dL_law_543 dL_law_544 dL_law_546 dL_law_547 dL_law_548 rfl rfl rfl rfl rfl rfl ?_
  refine lcallV (mi := mL_law) (yi := mX11_move) (as := [.int (xs (i + 1)), .int (xs (i + 2))]) (rest := []) hC hP hS hl.1 dL_law_549 ML_L_76 Yv_X11_move rfl zW_0 rfl rfl m1 (by decide) (Nat.le_of_ble_eq_true rfl) rfl hc0 rfl (fun H locs hP hS => ?_)
  refine lv_aload_n hx hb dL_law_552 rfl (lv_at hl 2 rfl) ?_
  refine larg (kn := 1) C hS hl (by omega) dL_law_553 dL_law_554 dL_law_556 dL_law_557 dL_law_558 rfl rfl rfl rfl rfl rfl ?_
  refine larg (kn := 2) C hS hl (by omega) dL_law_559 dL_law_560 dL_law_562 dL_law_563 dL_law_564 rfl rfl rfl rfl rfl rfl ?_
  refine lcallV (mi := mL_law) (yi := mX12_move) (as := [.int (xs (i + 1)), .int (xs (i + 2))]) (rest := [.int r]) hC hP hS hl.1 dL_law_565 ML_L_79 Yv_X12_move rfl zW_54 rfl rfl m2 (by decide) (Nat.le_of_ble_eq_true rfl) rfl hc0 rfl (fun H locs hP hS => ?_)
  refine lv_icmp_eq (tgt := 1896) hx hb dL_law_568 (by decide) (fun _ => ?_) (fun z => absurd rfl z)
  exact W.widen (k := cells + 1) (n := slots + 6) (by omega) (by omega) (kk _ H locs la hI hP hS hl)
set_option maxRecDepth 100000 in
set_option maxHeartbeats 4000000 in
theorem lc_allow {p : Program} {l : Launch} {e : Env} {s : State} {m : MethodId} {below : List Frame} {meth : Method} {c : Code} {D : va_G} {cy : Nat → ClassId} {ad : Nat → Nat} {A : Nat → Prop} {b L : Nat} {xs : Nat → Int32} (C : LX p s m meth c D cy ad A b L xs) (hfl : l.stackTraces = false) {S : zS} (hI : Inv S) {i : Nat} (hi : i + 5 ≤ L) {H : Heap} {locs : List Loc} {la : Array Slot} {cells slots : Nat} {Q : State → Prop} (hcs : cells + 1 ≤ room_1.cells ∧ slots + 6 ≤ room_1.slots) (hP : va_P D zcl (zwd zW cy ad S) H) (hS : va_S A s.heap H locs) (hl : lv_has la 8 [(0, .ref b), (1, .ref (ad 0)), (2, .ref (ad 54)), (3, .ref (ad 87)), (4, .int (nI i))])
    (kk : ∀ (S' : zS) (H' : Heap) (locs' : List Loc) (la' : Array Slot), Inv S' → va_P D zcl (zwd zW cy ad S') H' → va_S A s.heap H' locs' → lv_has la' 8 [(0, .ref b), (1, .ref (ad 0)), (2, .ref (ad 54)), (3, .ref (ad 87)), (4, .int (nI i))] → W p l e room_1 s m #[Value.ref b] below meth c H' locs' (cells + 1) (slots + 6) Q (F0 m 1896 la' [])) : W p l e room_1 s m #[Value.ref b] below meth c H locs cells slots Q (F0 m 573 la []) := by
  have hC := C.1
  have hx := hC.1
  have hb := hC.2.1
  have hc0 : cells ≤ room_1.cells ∧ slots ≤ room_1.slots := ⟨by omega, by omega⟩
  obtain ⟨r, M1, M2, m1, m2, hI⟩ := st_allow l hI (xs (i + 1))
  refine lv_aload_n hx hb dL_law_573 rfl (lv_at hl 1 rfl) ?_
  refine larg (kn := 1) C hS hl (by omega) dL_law_574 dL_law_575 dL_law_577 dL_law_578 dL_law_579 rfl rfl rfl rfl rfl rfl ?_
  refine lcallV (mi := mL_law) (yi := mX11_allow) (as := [.int (xs (i + 1))]) (rest := []) hC hP hS hl.1 dL_law_580 ML_L_80 Yv_X11_allow rfl zW_0 rfl rfl m1 (by decide) (Nat.le_of_ble_eq_true rfl) rfl hc0 rfl (fun H locs hP hS => ?_)
  refine lv_aload_n hx hb dL_law_583 rfl (lv_at hl 2 rfl) ?_
  refine larg (kn := 1) C hS hl (by omega) dL_law_584 dL_law_585 dL_law_587 dL_law_588 dL_law_589 rfl rfl rfl rfl rfl rfl ?_
  refine lcallV (mi := mL_law) (yi := mX12_allow) (as := [.int (xs (i + 1))]) (rest := [.int r]) hC hP hS hl.1 dL_law_590 ML_L_83 Yv_X12_allow rfl zW_54 rfl rfl m2 (by decide) (Nat.le_of_ble_eq_true rfl) rfl hc0 rfl (fun H locs hP hS => ?_)
  refine lv_icmp_eq (tgt := 1896) hx hb dL_law_593 (by decide) (fun _ => ?_) (fun z => absurd rfl z)
  exact W.widen (k := cells + 1) (n := slots + 6) (by omega) (by omega) (kk _ H locs la hI hP hS hl)
set_option maxRecDepth 100000 in
set_option maxHeartbeats 4000000 in
theorem lc_sheet {p : Program} {l : Launch} {e : Env} {s : State} {m : MethodId} {below : List Frame} {meth : Method} {c : Code} {D : va_G} {cy : Nat → ClassId} {ad : Nat → Nat} {A : Nat → Prop} {b L : Nat} {xs : Nat → Int32} (C : LX p s m meth c D cy ad A b L xs) (hfl : l.stackTraces = false) {S : zS} (hI : Inv S) {i : Nat} (hi : i + 5 ≤ L) {H : Heap} {locs : List Loc} {la : Array Slot} {cells slots : Nat} {Q : State → Prop} (hcs : cells + 1 ≤ room_1.cells ∧ slots + 6 ≤ room_1.slots) (hP : va_P D zcl (zwd zW cy ad S) H) (hS : va_S A s.heap H locs) (hl : lv_has la 8 [(0, .ref b), (1, .ref (ad 0)), (2, .ref (ad 54)), (3, .ref (ad 87)), (4, .int (nI i))])
    (kk : ∀ (S' : zS) (H' : Heap) (locs' : List Loc) (la' : Array Slot), Inv S' → va_P D zcl (zwd zW cy ad S') H' → va_S A s.heap H' locs' → lv_has la' 8 [(0, .ref b), (1, .ref (ad 0)), (2, .ref (ad 54)), (3, .ref (ad 87)), (4, .int (nI i))] → W p l e room_1 s m #[Value.ref b] below meth c H' locs' (cells + 1) (slots + 6) Q (F0 m 1896 la' [])) : W p l e room_1 s m #[Value.ref b] below meth c H locs cells slots Q (F0 m 598 la []) := by
  have hC := C.1
  have hx := hC.1
  have hb := hC.2.1
  have hc0 : cells ≤ room_1.cells ∧ slots ≤ room_1.slots := ⟨by omega, by omega⟩
  obtain ⟨r, M1, M2, m1, m2, hI⟩ := st_sheet l hI (xs (i + 1)) (xs (i + 2)) (xs (i + 3)) (xs (i + 4))
  refine lv_aload_n hx hb dL_law_598 rfl (lv_at hl 1 rfl) ?_
  refine larg (kn := 1) C hS hl (by omega) dL_law_599 dL_law_600 dL_law_602 dL_law_603 dL_law_604 rfl rfl rfl rfl rfl rfl ?_
  refine larg (kn := 2) C hS hl (by omega) dL_law_605 dL_law_606 dL_law_608 dL_law_609 dL_law_610 rfl rfl rfl rfl rfl rfl ?_
  refine larg (kn := 3) C hS hl (by omega) dL_law_611 dL_law_612 dL_law_614 dL_law_615 dL_law_616 rfl rfl rfl rfl rfl rfl ?_
  refine larg (kn := 4) C hS hl (by omega) dL_law_617 dL_law_618 dL_law_620 dL_law_621 dL_law_622 rfl rfl rfl rfl rfl rfl ?_
  refine lcallV (mi := mL_law) (yi := mX11_sheet) (as := [.int (xs (i + 1)), .int (xs (i + 2)), .int (xs (i + 3)), .int (xs (i + 4))]) (rest := []) hC hP hS hl.1 dL_law_623 ML_L_84 Yv_X11_sheet rfl zW_0 rfl rfl m1 (by decide) (Nat.le_of_ble_eq_true rfl) rfl hc0 rfl (fun H locs hP hS => ?_)
  refine lv_aload_n hx hb dL_law_626 rfl (lv_at hl 2 rfl) ?_
  refine larg (kn := 1) C hS hl (by omega) dL_law_627 dL_law_628 dL_law_630 dL_law_631 dL_law_632 rfl rfl rfl rfl rfl rfl ?_
  refine larg (kn := 2) C hS hl (by omega) dL_law_633 dL_law_634 dL_law_636 dL_law_637 dL_law_638 rfl rfl rfl rfl rfl rfl ?_
  refine larg (kn := 3) C hS hl (by omega) dL_law_639 dL_law_640 dL_law_642 dL_law_643 dL_law_644 rfl rfl rfl rfl rfl rfl ?_
  refine larg (kn := 4) C hS hl (by omega) dL_law_645 dL_law_646 dL_law_648 dL_law_649 dL_law_650 rfl rfl rfl rfl rfl rfl ?_
  refine lcallV (mi := mL_law) (yi := mX12_sheet) (as := [.int (xs (i + 1)), .int (xs (i + 2)), .int (xs (i + 3)), .int (xs (i + 4))]) (rest := [.int r]) hC hP hS hl.1 dL_law_651 ML_L_88 Yv_X12_sheet rfl zW_54 rfl rfl m2 (by decide) (Nat.le_of_ble_eq_true rfl) rfl hc0 rfl (fun H locs hP hS => ?_)
  refine lv_icmp_eq (tgt := 1896) hx hb dL_law_654 (by decide) (fun _ => ?_) (fun z => absurd rfl z)
  exact W.widen (k := cells + 1) (n := slots + 6) (by omega) (by omega) (kk _ H locs la hI hP hS hl)
