/-! THE LAW, further cases -/
set_option maxRecDepth 100000 in
set_option maxHeartbeats 4000000 in
theorem lc_show {p : Program} {l : Launch} {e : Env} {s : State} {m : MethodId} {below : List Frame} {meth : Method} {c : Code} {D : va_G} {cy : Nat → ClassId} {ad : Nat → Nat} {A : Nat → Prop} {b L : Nat} {xs : Nat → Int32} (C : LX p s m meth c D cy ad A b L xs) (hfl : l.stackTraces = false) {S : zS} (hI : Inv S) {i : Nat} (hi : i + 5 ≤ L) {H : Heap} {locs : List Loc} {la : Array Slot} {cells slots : Nat} {Q : State → Prop} (hcs : cells + 1 ≤ room_1.cells ∧ slots + 6 ≤ room_1.slots) (hP : va_P D zcl (zwd zW cy ad S) H) (hS : va_S A s.heap H locs) (hl : lv_has la 8 [(0, .ref b), (1, .ref (ad 0)), (2, .ref (ad 54)), (3, .ref (ad 87)), (4, .int (nI i))])
    (kk : ∀ (S' : zS) (H' : Heap) (locs' : List Loc) (la' : Array Slot), Inv S' → va_P D zcl (zwd zW cy ad S') H' → va_S A s.heap H' locs' → lv_has la' 8 [(0, .ref b), (1, .ref (ad 0)), (2, .ref (ad 54)), (3, .ref (ad 87)), (4, .int (nI i))] → W p l e room_1 s m #[Value.ref b] below meth c H' locs' (cells + 1) (slots + 6) Q (F0 m 1896 la' [])) : W p l e room_1 s m #[Value.ref b] below meth c H locs cells slots Q (F0 m 1212 la []) := by
  have hC := C.1
  have hx := hC.1
  have hb := hC.2.1
  have hc0 : cells ≤ room_1.cells ∧ slots ≤ room_1.slots := ⟨by omega, by omega⟩
  obtain ⟨r, M1, M2, m1, m2, hI⟩ := st_show l hI 
  refine lv_aload_n hx hb dL_law_1212 rfl (lv_at hl 1 rfl) ?_
  refine lcallV (mi := mL_law) (yi := mX11_show) (as := []) (rest := []) hC hP hS hl.1 dL_law_1213 ML_L_142 Yv_X11_show rfl zW_0 rfl rfl m1 (by decide) (Nat.le_of_ble_eq_true rfl) rfl hc0 rfl (fun H locs hP hS => ?_)
  refine lv_aload_n hx hb dL_law_1216 rfl (lv_at hl 2 rfl) ?_
  refine lcallV (mi := mL_law) (yi := mX12_show) (as := []) (rest := [.int r]) hC hP hS hl.1 dL_law_1217 ML_L_145 Yv_X12_show rfl zW_54 rfl rfl m2 (by decide) (Nat.le_of_ble_eq_true rfl) rfl hc0 rfl (fun H locs hP hS => ?_)
  refine lv_icmp_eq (tgt := 1896) hx hb dL_law_1220 (by decide) (fun _ => ?_) (fun z => absurd rfl z)
  exact W.widen (k := cells + 1) (n := slots + 6) (by omega) (by omega) (kk _ H locs la hI hP hS hl)
set_option maxRecDepth 100000 in
set_option maxHeartbeats 4000000 in
theorem lc_undo {p : Program} {l : Launch} {e : Env} {s : State} {m : MethodId} {below : List Frame} {meth : Method} {c : Code} {D : va_G} {cy : Nat → ClassId} {ad : Nat → Nat} {A : Nat → Prop} {b L : Nat} {xs : Nat → Int32} (C : LX p s m meth c D cy ad A b L xs) (hfl : l.stackTraces = false) {S : zS} (hI : Inv S) {i : Nat} (hi : i + 5 ≤ L) {H : Heap} {locs : List Loc} {la : Array Slot} {cells slots : Nat} {Q : State → Prop} (hcs : cells + 1 ≤ room_1.cells ∧ slots + 6 ≤ room_1.slots) (hP : va_P D zcl (zwd zW cy ad S) H) (hS : va_S A s.heap H locs) (hl : lv_has la 8 [(0, .ref b), (1, .ref (ad 0)), (2, .ref (ad 54)), (3, .ref (ad 87)), (4, .int (nI i))])
    (kk : ∀ (S' : zS) (H' : Heap) (locs' : List Loc) (la' : Array Slot), Inv S' → va_P D zcl (zwd zW cy ad S') H' → va_S A s.heap H' locs' → lv_has la' 8 [(0, .ref b), (1, .ref (ad 0)), (2, .ref (ad 54)), (3, .ref (ad 87)), (4, .int (nI i))] → W p l e room_1 s m #[Value.ref b] below meth c H' locs' (cells + 1) (slots + 6) Q (F0 m 1896 la' [])) : W p l e room_1 s m #[Value.ref b] below meth c H locs cells slots Q (F0 m 1225 la []) := by
  have hC := C.1
  have hx := hC.1
  have hb := hC.2.1
  have hc0 : cells ≤ room_1.cells ∧ slots ≤ room_1.slots := ⟨by omega, by omega⟩
  obtain ⟨r, M1, M2, m1, m2, hI⟩ := st_undo l hI 
  refine lv_aload_n hx hb dL_law_1225 rfl (lv_at hl 1 rfl) ?_
  refine lcallV (mi := mL_law) (yi := mX11_undo) (as := []) (rest := []) hC hP hS hl.1 dL_law_1226 ML_L_146 Yv_X11_undo rfl zW_0 rfl rfl m1 (by decide) (Nat.le_of_ble_eq_true rfl) rfl hc0 rfl (fun H locs hP hS => ?_)
  refine lv_aload_n hx hb dL_law_1229 rfl (lv_at hl 2 rfl) ?_
  refine lcallV (mi := mL_law) (yi := mX12_undo) (as := []) (rest := [.int r]) hC hP hS hl.1 dL_law_1230 ML_L_149 Yv_X12_undo rfl zW_54 rfl rfl m2 (by decide) (Nat.le_of_ble_eq_true rfl) rfl hc0 rfl (fun H locs hP hS => ?_)
  refine lv_icmp_eq (tgt := 1896) hx hb dL_law_1233 (by decide) (fun _ => ?_) (fun z => absurd rfl z)
  exact W.widen (k := cells + 1) (n := slots + 6) (by omega) (by omega) (kk _ H locs la hI hP hS hl)
set_option maxRecDepth 100000 in
set_option maxHeartbeats 4000000 in
theorem lc_round {p : Program} {l : Launch} {e : Env} {s : State} {m : MethodId} {below : List Frame} {meth : Method} {c : Code} {D : va_G} {cy : Nat → ClassId} {ad : Nat → Nat} {A : Nat → Prop} {b L : Nat} {xs : Nat → Int32} (C : LX p s m meth c D cy ad A b L xs) (hfl : l.stackTraces = false) {S : zS} (hI : Inv S) {i : Nat} (hi : i + 5 ≤ L) {H : Heap} {locs : List Loc} {la : Array Slot} {cells slots : Nat} {Q : State → Prop} (hcs : cells + 1 ≤ room_1.cells ∧ slots + 6 ≤ room_1.slots) (hP : va_P D zcl (zwd zW cy ad S) H) (hS : va_S A s.heap H locs) (hl : lv_has la 8 [(0, .ref b), (1, .ref (ad 0)), (2, .ref (ad 54)), (3, .ref (ad 87)), (4, .int (nI i))])
    (kk : ∀ (S' : zS) (H' : Heap) (locs' : List Loc) (la' : Array Slot), Inv S' → va_P D zcl (zwd zW cy ad S') H' → va_S A s.heap H' locs' → lv_has la' 8 [(0, .ref b), (1, .ref (ad 0)), (2, .ref (ad 54)), (3, .ref (ad 87)), (4, .int (nI i))] → W p l e room_1 s m #[Value.ref b] below meth c H' locs' (cells + 1) (slots + 6) Q (F0 m 1896 la' [])) : W p l e room_1 s m #[Value.ref b] below meth c H locs cells slots Q (F0 m 1238 la []) := by
  have hC := C.1
  have hx := hC.1
  have hb := hC.2.1
  have hc0 : cells ≤ room_1.cells ∧ slots ≤ room_1.slots := ⟨by omega, by omega⟩
  obtain ⟨k, bb, S1, M2, M3, m1, m2, m3, hout, hI⟩ := st_round l hfl hI (xs (i + 1)) (xs (i + 2))
  refine lv_aload_n hx hb dL_law_1238 rfl (lv_at hl 1 rfl) ?_
  refine larg (kn := 1) C hS hl (by omega) dL_law_1239 dL_law_1240 dL_law_1242 dL_law_1243 dL_law_1244 rfl rfl rfl rfl rfl rfl ?_
  refine larg (kn := 2) C hS hl (by omega) dL_law_1245 dL_law_1246 dL_law_1248 dL_law_1249 dL_law_1250 rfl rfl rfl rfl rfl rfl ?_
  refine lv_aload_n hx hb dL_law_1251 rfl (lv_at hl 3 rfl) ?_
  refine lcallW (n := 4) (mi := mL_law) (yi := mL_round) (as := [.ref 0, .int (xs (i + 1)), .int (xs (i + 2)), .ref 87]) (rest := []) hC C.2.1 hP hS hl.1 dL_law_1252 CK_round CS_round C_RL CW_round ⟨by decide, by decide, by decide⟩ (by decide) rfl m1 (by decide) (Nat.le_of_ble_eq_true rfl) rfl hcs rfl (fun H locs hP hS => ?_)
  refine lv_istore (lv' := (5, .int k) :: [(0, .ref b), (1, .ref (ad 0)), (2, .ref (ad 54)), (3, .ref (ad 87)), (4, .int (nI i))]) hx hb dL_law_1255 hl (by decide) rfl (fun la hl5 => ?_)
  have hl := lv_sub (l' := [(0, .ref b), (1, .ref (ad 0)), (2, .ref (ad 54)), (3, .ref (ad 87)), (4, .int (nI i))]) hl5 [1, 2, 3, 4, 5] rfl
  refine lv_aload_n hx hb dL_law_1257 rfl (lv_at hl 2 rfl) ?_
  refine larg (kn := 1) C hS hl (by omega) dL_law_1258 dL_law_1259 dL_law_1261 dL_law_1262 dL_law_1263 rfl rfl rfl rfl rfl rfl ?_
  refine larg (kn := 2) C hS hl (by omega) dL_law_1264 dL_law_1265 dL_law_1267 dL_law_1268 dL_law_1269 rfl rfl rfl rfl rfl rfl ?_
  refine lcallV (mi := mL_law) (yi := mX12_round) (as := [.int (xs (i + 1)), .int (xs (i + 2))]) (rest := []) hC hP hS hl.1 dL_law_1270 ML_L_152 Yv_X12_round rfl zW_54 rfl rfl m2 (by decide) (Nat.le_of_ble_eq_true rfl) rfl hcs rfl (fun H locs hP hS => ?_)
  refine lv_istore (lv' := (6, .int bb) :: (5, .int k) :: [(0, .ref b), (1, .ref (ad 0)), (2, .ref (ad 54)), (3, .ref (ad 87)), (4, .int (nI i))]) hx hb dL_law_1273 hl5 (by decide) rfl (fun la hl6 => ?_)
  have hl := lv_sub (l' := [(0, .ref b), (1, .ref (ad 0)), (2, .ref (ad 54)), (3, .ref (ad 87)), (4, .int (nI i))]) hl6 [2, 3, 4, 5, 6] rfl
  refine lv_aload_n hx hb dL_law_1275 rfl (lv_at hl 2 rfl) ?_
  refine lcallV (mi := mL_law) (yi := mX12_thrown) (as := []) (rest := []) hC hP hS hl.1 dL_law_1276 ML_L_66 Yv_X12_thrown rfl zW_54 rfl rfl m3 (by decide) (Nat.le_of_ble_eq_true rfl) rfl hcs rfl (fun H locs hP hS => ?_)
  refine lv_iload hx hb dL_law_1279 (lv_at hl6 1 rfl) ?_
  refine lv_icmp_eq (tgt := 1286) hx hb dL_law_1281 (by decide) (fun _ => ?_) (fun z => absurd rfl z)
  refine lv_iload hx hb dL_law_1286 (lv_at hl6 1 rfl) ?_
  have hend : W p l e room_1 s m #[Value.ref b] below meth c H locs (cells + 1) (slots + 6) Q (F0 m 1303 la []) := by
    refine lv_goto (tgt := 1896) hx hb dL_law_1303 (by decide) ?_
    exact kk _ H locs la hI hP hS hl
  refine lv_if_ne (tgt := 1303) hx hb dL_law_1288 (by decide) (fun _ => hend) (fun hk => ?_)
  refine lv_aload_n hx hb dL_law_1291 rfl (lv_at hl 3 rfl) ?_
  refine lv_iconst (v := 0) hx hb dL_law_1292 (by decide) ?_
  refine va_lald hx hb hC.2.2.2.2.2.2.2.2.1 hP 87 1 (zwd_at zW_87) rfl (ix_in (i := 0) (n := 1) (by decide)) dL_law_1293 ?_
  refine lv_iload hx hb dL_law_1294 (lv_at hl6 0 rfl) ?_
  refine lv_i2l (v := bb.toInt64) hx hb dL_law_1296 rfl ?_
  refine W.lcmp hx hb dL_law_1297 ?_
  have e0 : lg_cmp ((zap (zap S1 M2) M3).2.2 87 (0 : Int32).toNatClampNeg) bb.toInt64 = 0 := by
    rw [show (0 : Int32).toNatClampNeg = 0 from rfl, hout hk]
    exact lg_self _
  refine lv_if_eq (tgt := 1303) hx hb dL_law_1298 (by decide) (fun _ => hend) (fun z => absurd e0 z)
set_option maxRecDepth 100000 in
set_option maxHeartbeats 4000000 in
theorem lc_table {p : Program} {l : Launch} {e : Env} {s : State} {m : MethodId} {below : List Frame} {meth : Method} {c : Code} {D : va_G} {cy : Nat → ClassId} {ad : Nat → Nat} {A : Nat → Prop} {b L : Nat} {xs : Nat → Int32} (C : LX p s m meth c D cy ad A b L xs) (hfl : l.stackTraces = false) {S : zS} (hI : Inv S) {i : Nat} (hi : i + 5 ≤ L) {H : Heap} {locs : List Loc} {la : Array Slot} {cells slots : Nat} {Q : State → Prop} (hcs : cells + 1 ≤ room_1.cells ∧ slots + 6 ≤ room_1.slots) (hP : va_P D zcl (zwd zW cy ad S) H) (hS : va_S A s.heap H locs) (hl : lv_has la 8 [(0, .ref b), (1, .ref (ad 0)), (2, .ref (ad 54)), (3, .ref (ad 87)), (4, .int (nI i))])
    (kk : ∀ (S' : zS) (H' : Heap) (locs' : List Loc) (la' : Array Slot), Inv S' → va_P D zcl (zwd zW cy ad S') H' → va_S A s.heap H' locs' → lv_has la' 8 [(0, .ref b), (1, .ref (ad 0)), (2, .ref (ad 54)), (3, .ref (ad 87)), (4, .int (nI i))] → W p l e room_1 s m #[Value.ref b] below meth c H' locs' (cells + 1) (slots + 6) Q (F0 m 1896 la' [])) : W p l e room_1 s m #[Value.ref b] below meth c H locs cells slots Q (F0 m 1306 la []) := by
  have hC := C.1
  have hx := hC.1
  have hb := hC.2.1
  have hc0 : cells ≤ room_1.cells ∧ slots ≤ room_1.slots := ⟨by omega, by omega⟩
  obtain ⟨r, M1, M2, m1, m2, hI⟩ := st_table l hI 
  refine lv_aload_n hx hb dL_law_1306 rfl (lv_at hl 1 rfl) ?_
  refine lcallV (mi := mL_law) (yi := mX11_table) (as := []) (rest := []) hC hP hS hl.1 dL_law_1307 ML_L_153 Yv_X11_table rfl zW_0 rfl rfl m1 (by decide) (Nat.le_of_ble_eq_true rfl) rfl hc0 rfl (fun H locs hP hS => ?_)
  refine lv_aload_n hx hb dL_law_1310 rfl (lv_at hl 2 rfl) ?_
  refine lcallV (mi := mL_law) (yi := mX12_table) (as := []) (rest := [.int r]) hC hP hS hl.1 dL_law_1311 ML_L_156 Yv_X12_table rfl zW_54 rfl rfl m2 (by decide) (Nat.le_of_ble_eq_true rfl) rfl hc0 rfl (fun H locs hP hS => ?_)
  refine lv_icmp_eq (tgt := 1896) hx hb dL_law_1314 (by decide) (fun _ => ?_) (fun z => absurd rfl z)
  exact W.widen (k := cells + 1) (n := slots + 6) (by omega) (by omega) (kk _ H locs la hI hP hS hl)
set_option maxRecDepth 100000 in
set_option maxHeartbeats 4000000 in
theorem lc_place {p : Program} {l : Launch} {e : Env} {s : State} {m : MethodId} {below : List Frame} {meth : Method} {c : Code} {D : va_G} {cy : Nat → ClassId} {ad : Nat → Nat} {A : Nat → Prop} {b L : Nat} {xs : Nat → Int32} (C : LX p s m meth c D cy ad A b L xs) (hfl : l.stackTraces = false) {S : zS} (hI : Inv S) {i : Nat} (hi : i + 5 ≤ L) {H : Heap} {locs : List Loc} {la : Array Slot} {cells slots : Nat} {Q : State → Prop} (hcs : cells + 1 ≤ room_1.cells ∧ slots + 6 ≤ room_1.slots) (hP : va_P D zcl (zwd zW cy ad S) H) (hS : va_S A s.heap H locs) (hl : lv_has la 8 [(0, .ref b), (1, .ref (ad 0)), (2, .ref (ad 54)), (3, .ref (ad 87)), (4, .int (nI i))])
    (kk : ∀ (S' : zS) (H' : Heap) (locs' : List Loc) (la' : Array Slot), Inv S' → va_P D zcl (zwd zW cy ad S') H' → va_S A s.heap H' locs' → lv_has la' 8 [(0, .ref b), (1, .ref (ad 0)), (2, .ref (ad 54)), (3, .ref (ad 87)), (4, .int (nI i))] → W p l e room_1 s m #[Value.ref b] below meth c H' locs' (cells + 1) (slots + 6) Q (F0 m 1896 la' [])) : W p l e room_1 s m #[Value.ref b] below meth c H locs cells slots Q (F0 m 1319 la []) := by
  have hC := C.1
  have hx := hC.1
  have hb := hC.2.1
  have hc0 : cells ≤ room_1.cells ∧ slots ≤ room_1.slots := ⟨by omega, by omega⟩
  obtain ⟨r, M1, M2, m1, m2, hI⟩ := st_place l hI (xs (i + 1)) (xs (i + 2))
  refine lv_aload_n hx hb dL_law_1319 rfl (lv_at hl 1 rfl) ?_
  refine larg (kn := 1) C hS hl (by omega) dL_law_1320 dL_law_1321 dL_law_1323 dL_law_1324 dL_law_1325 rfl rfl rfl rfl rfl rfl ?_
  refine larg (kn := 2) C hS hl (by omega) dL_law_1326 dL_law_1327 dL_law_1329 dL_law_1330 dL_law_1331 rfl rfl rfl rfl rfl rfl ?_
  refine lcallV (mi := mL_law) (yi := mX11_place) (as := [.int (xs (i + 1)), .int (xs (i + 2))]) (rest := []) hC hP hS hl.1 dL_law_1332 ML_L_157 Yv_X11_place rfl zW_0 rfl rfl m1 (by decide) (Nat.le_of_ble_eq_true rfl) rfl hc0 rfl (fun H locs hP hS => ?_)
  refine lv_aload_n hx hb dL_law_1335 rfl (lv_at hl 2 rfl) ?_
  refine larg (kn := 1) C hS hl (by omega) dL_law_1336 dL_law_1337 dL_law_1339 dL_law_1340 dL_law_1341 rfl rfl rfl rfl rfl rfl ?_
  refine larg (kn := 2) C hS hl (by omega) dL_law_1342 dL_law_1343 dL_law_1345 dL_law_1346 dL_law_1347 rfl rfl rfl rfl rfl rfl ?_
  refine lcallV (mi := mL_law) (yi := mX12_place) (as := [.int (xs (i + 1)), .int (xs (i + 2))]) (rest := [.int r]) hC hP hS hl.1 dL_law_1348 ML_L_160 Yv_X12_place rfl zW_54 rfl rfl m2 (by decide) (Nat.le_of_ble_eq_true rfl) rfl hc0 rfl (fun H locs hP hS => ?_)
  refine lv_icmp_eq (tgt := 1896) hx hb dL_law_1351 (by decide) (fun _ => ?_) (fun z => absurd rfl z)
  exact W.widen (k := cells + 1) (n := slots + 6) (by omega) (by omega) (kk _ H locs la hI hP hS hl)
set_option maxRecDepth 100000 in
set_option maxHeartbeats 4000000 in
theorem lc_beat {p : Program} {l : Launch} {e : Env} {s : State} {m : MethodId} {below : List Frame} {meth : Method} {c : Code} {D : va_G} {cy : Nat → ClassId} {ad : Nat → Nat} {A : Nat → Prop} {b L : Nat} {xs : Nat → Int32} (C : LX p s m meth c D cy ad A b L xs) (hfl : l.stackTraces = false) {S : zS} (hI : Inv S) {i : Nat} (hi : i + 5 ≤ L) {H : Heap} {locs : List Loc} {la : Array Slot} {cells slots : Nat} {Q : State → Prop} (hcs : cells + 1 ≤ room_1.cells ∧ slots + 6 ≤ room_1.slots) (hP : va_P D zcl (zwd zW cy ad S) H) (hS : va_S A s.heap H locs) (hl : lv_has la 8 [(0, .ref b), (1, .ref (ad 0)), (2, .ref (ad 54)), (3, .ref (ad 87)), (4, .int (nI i))])
    (kk : ∀ (S' : zS) (H' : Heap) (locs' : List Loc) (la' : Array Slot), Inv S' → va_P D zcl (zwd zW cy ad S') H' → va_S A s.heap H' locs' → lv_has la' 8 [(0, .ref b), (1, .ref (ad 0)), (2, .ref (ad 54)), (3, .ref (ad 87)), (4, .int (nI i))] → W p l e room_1 s m #[Value.ref b] below meth c H' locs' (cells + 1) (slots + 6) Q (F0 m 1896 la' [])) : W p l e room_1 s m #[Value.ref b] below meth c H locs cells slots Q (F0 m 1356 la []) := by
  have hC := C.1
  have hx := hC.1
  have hb := hC.2.1
  have hc0 : cells ≤ room_1.cells ∧ slots ≤ room_1.slots := ⟨by omega, by omega⟩
  obtain ⟨r, M1, M2, m1, m2, hI⟩ := st_beat l hI (xs (i + 1))
  refine lv_aload_n hx hb dL_law_1356 rfl (lv_at hl 1 rfl) ?_
  refine larg (kn := 1) C hS hl (by omega) dL_law_1357 dL_law_1358 dL_law_1360 dL_law_1361 dL_law_1362 rfl rfl rfl rfl rfl rfl ?_
  refine lcallV (mi := mL_law) (yi := mX11_beat) (as := [.int (xs (i + 1))]) (rest := []) hC hP hS hl.1 dL_law_1363 ML_L_161 Yv_X11_beat rfl zW_0 rfl rfl m1 (by decide) (Nat.le_of_ble_eq_true rfl) rfl hc0 rfl (fun H locs hP hS => ?_)
  refine lv_aload_n hx hb dL_law_1366 rfl (lv_at hl 2 rfl) ?_
  refine larg (kn := 1) C hS hl (by omega) dL_law_1367 dL_law_1368 dL_law_1370 dL_law_1371 dL_law_1372 rfl rfl rfl rfl rfl rfl ?_
  refine lcallV (mi := mL_law) (yi := mX12_beat) (as := [.int (xs (i + 1))]) (rest := [.int r]) hC hP hS hl.1 dL_law_1373 ML_L_164 Yv_X12_beat rfl zW_54 rfl rfl m2 (by decide) (Nat.le_of_ble_eq_true rfl) rfl hc0 rfl (fun H locs hP hS => ?_)
  refine lv_icmp_eq (tgt := 1896) hx hb dL_law_1376 (by decide) (fun _ => ?_) (fun z => absurd rfl z)
  exact W.widen (k := cells + 1) (n := slots + 6) (by omega) (by omega) (kk _ H locs la hI hP hS hl)
set_option maxRecDepth 100000 in
set_option maxHeartbeats 4000000 in
theorem lc_law {p : Program} {l : Launch} {e : Env} {s : State} {m : MethodId} {below : List Frame} {meth : Method} {c : Code} {D : va_G} {cy : Nat → ClassId} {ad : Nat → Nat} {A : Nat → Prop} {b L : Nat} {xs : Nat → Int32} (C : LX p s m meth c D cy ad A b L xs) (hfl : l.stackTraces = false) {S : zS} (hI : Inv S) {i : Nat} (hi : i + 5 ≤ L) {H : Heap} {locs : List Loc} {la : Array Slot} {cells slots : Nat} {Q : State → Prop} (hcs : cells + 1 ≤ room_1.cells ∧ slots + 6 ≤ room_1.slots) (hP : va_P D zcl (zwd zW cy ad S) H) (hS : va_S A s.heap H locs) (hl : lv_has la 8 [(0, .ref b), (1, .ref (ad 0)), (2, .ref (ad 54)), (3, .ref (ad 87)), (4, .int (nI i))])
    (kk : ∀ (S' : zS) (H' : Heap) (locs' : List Loc) (la' : Array Slot), Inv S' → va_P D zcl (zwd zW cy ad S') H' → va_S A s.heap H' locs' → lv_has la' 8 [(0, .ref b), (1, .ref (ad 0)), (2, .ref (ad 54)), (3, .ref (ad 87)), (4, .int (nI i))] → W p l e room_1 s m #[Value.ref b] below meth c H' locs' (cells + 1) (slots + 6) Q (F0 m 1896 la' [])) : W p l e room_1 s m #[Value.ref b] below meth c H locs cells slots Q (F0 m 1381 la []) := by
  have hC := C.1
  have hx := hC.1
  have hb := hC.2.1
  have hc0 : cells ≤ room_1.cells ∧ slots ≤ room_1.slots := ⟨by omega, by omega⟩
  obtain ⟨r, M1, M2, m1, m2, hI⟩ := st_law l hI (xs (i + 1)) (xs (i + 2))
  refine lv_aload_n hx hb dL_law_1381 rfl (lv_at hl 1 rfl) ?_
  refine larg (kn := 1) C hS hl (by omega) dL_law_1382 dL_law_1383 dL_law_1385 dL_law_1386 dL_law_1387 rfl rfl rfl rfl rfl rfl ?_
  refine larg (kn := 2) C hS hl (by omega) dL_law_1388 dL_law_1389 dL_law_1391 dL_law_1392 dL_law_1393 rfl rfl rfl rfl rfl rfl ?_
  refine lcallV (mi := mL_law) (yi := mX11_law) (as := [.int (xs (i + 1)), .int (xs (i + 2))]) (rest := []) hC hP hS hl.1 dL_law_1394 ML_L_165 Yv_X11_law rfl zW_0 rfl rfl m1 (by decide) (Nat.le_of_ble_eq_true rfl) rfl hc0 rfl (fun H locs hP hS => ?_)
  refine lv_aload_n hx hb dL_law_1397 rfl (lv_at hl 2 rfl) ?_
  refine larg (kn := 1) C hS hl (by omega) dL_law_1398 dL_law_1399 dL_law_1401 dL_law_1402 dL_law_1403 rfl rfl rfl rfl rfl rfl ?_
  refine larg (kn := 2) C hS hl (by omega) dL_law_1404 dL_law_1405 dL_law_1407 dL_law_1408 dL_law_1409 rfl rfl rfl rfl rfl rfl ?_
  refine lcallV (mi := mL_law) (yi := mX12_law) (as := [.int (xs (i + 1)), .int (xs (i + 2))]) (rest := [.int r]) hC hP hS hl.1 dL_law_1410 ML_L_168 Yv_X12_law rfl zW_54 rfl rfl m2 (by decide) (Nat.le_of_ble_eq_true rfl) rfl hc0 rfl (fun H locs hP hS => ?_)
  refine lv_icmp_eq (tgt := 1896) hx hb dL_law_1413 (by decide) (fun _ => ?_) (fun z => absurd rfl z)
  exact W.widen (k := cells + 1) (n := slots + 6) (by omega) (by omega) (kk _ H locs la hI hP hS hl)
set_option maxRecDepth 100000 in
set_option maxHeartbeats 4000000 in
theorem lc_mean {p : Program} {l : Launch} {e : Env} {s : State} {m : MethodId} {below : List Frame} {meth : Method} {c : Code} {D : va_G} {cy : Nat → ClassId} {ad : Nat → Nat} {A : Nat → Prop} {b L : Nat} {xs : Nat → Int32} (C : LX p s m meth c D cy ad A b L xs) (hfl : l.stackTraces = false) {S : zS} (hI : Inv S) {i : Nat} (hi : i + 5 ≤ L) {H : Heap} {locs : List Loc} {la : Array Slot} {cells slots : Nat} {Q : State → Prop} (hcs : cells + 1 ≤ room_1.cells ∧ slots + 6 ≤ room_1.slots) (hP : va_P D zcl (zwd zW cy ad S) H) (hS : va_S A s.heap H locs) (hl : lv_has la 8 [(0, .ref b), (1, .ref (ad 0)), (2, .ref (ad 54)), (3, .ref (ad 87)), (4, .int (nI i))])
    (kk : ∀ (S' : zS) (H' : Heap) (locs' : List Loc) (la' : Array Slot), Inv S' → va_P D zcl (zwd zW cy ad S') H' → va_S A s.heap H' locs' → lv_has la' 8 [(0, .ref b), (1, .ref (ad 0)), (2, .ref (ad 54)), (3, .ref (ad 87)), (4, .int (nI i))] → W p l e room_1 s m #[Value.ref b] below meth c H' locs' (cells + 1) (slots + 6) Q (F0 m 1896 la' [])) : W p l e room_1 s m #[Value.ref b] below meth c H locs cells slots Q (F0 m 1418 la []) := by
  have hC := C.1
  have hx := hC.1
  have hb := hC.2.1
  have hc0 : cells ≤ room_1.cells ∧ slots ≤ room_1.slots := ⟨by omega, by omega⟩
  obtain ⟨r, M1, M2, m1, m2, hI⟩ := st_mean l hI (xs (i + 1)) (xs (i + 2))
  refine lv_aload_n hx hb dL_law_1418 rfl (lv_at hl 1 rfl) ?_
  refine larg (kn := 1) C hS hl (by omega) dL_law_1419 dL_law_1420 dL_law_1422 dL_law_1423 dL_law_1424 rfl rfl rfl rfl rfl rfl ?_
  refine larg (kn := 2) C hS hl (by omega) dL_law_1425 dL_law_1426 dL_law_1428 dL_law_1429 dL_law_1430 rfl rfl rfl rfl rfl rfl ?_
  refine lcallV (mi := mL_law) (yi := mX11_mean) (as := [.int (xs (i + 1)), .int (xs (i + 2))]) (rest := []) hC hP hS hl.1 dL_law_1431 ML_L_169 Yv_X11_mean rfl zW_0 rfl rfl m1 (by decide) (Nat.le_of_ble_eq_true rfl) rfl hc0 rfl (fun H locs hP hS => ?_)
  refine lv_aload_n hx hb dL_law_1434 rfl (lv_at hl 2 rfl) ?_
  refine larg (kn := 1) C hS hl (by omega) dL_law_1435 dL_law_1436 dL_law_1438 dL_law_1439 dL_law_1440 rfl rfl rfl rfl rfl rfl ?_
  refine larg (kn := 2) C hS hl (by omega) dL_law_1441 dL_law_1442 dL_law_1444 dL_law_1445 dL_law_1446 rfl rfl rfl rfl rfl rfl ?_
  refine lcallV (mi := mL_law) (yi := mX12_mean) (as := [.int (xs (i + 1)), .int (xs (i + 2))]) (rest := [.int r]) hC hP hS hl.1 dL_law_1447 ML_L_172 Yv_X12_mean rfl zW_54 rfl rfl m2 (by decide) (Nat.le_of_ble_eq_true rfl) rfl hc0 rfl (fun H locs hP hS => ?_)
  refine lv_icmp_eq (tgt := 1896) hx hb dL_law_1450 (by decide) (fun _ => ?_) (fun z => absurd rfl z)
  exact W.widen (k := cells + 1) (n := slots + 6) (by omega) (by omega) (kk _ H locs la hI hP hS hl)
set_option maxRecDepth 100000 in
set_option maxHeartbeats 4000000 in
theorem lc_last {p : Program} {l : Launch} {e : Env} {s : State} {m : MethodId} {below : List Frame} {meth : Method} {c : Code} {D : va_G} {cy : Nat → ClassId} {ad : Nat → Nat} {A : Nat → Prop} {b L : Nat} {xs : Nat → Int32} (C : LX p s m meth c D cy ad A b L xs) (hfl : l.stackTraces = false) {S : zS} (hI : Inv S) {i : Nat} (hi : i + 5 ≤ L) {H : Heap} {locs : List Loc} {la : Array Slot} {cells slots : Nat} {Q : State → Prop} (hcs : cells + 1 ≤ room_1.cells ∧ slots + 6 ≤ room_1.slots) (hP : va_P D zcl (zwd zW cy ad S) H) (hS : va_S A s.heap H locs) (hl : lv_has la 8 [(0, .ref b), (1, .ref (ad 0)), (2, .ref (ad 54)), (3, .ref (ad 87)), (4, .int (nI i))])
    (kk : ∀ (S' : zS) (H' : Heap) (locs' : List Loc) (la' : Array Slot), Inv S' → va_P D zcl (zwd zW cy ad S') H' → va_S A s.heap H' locs' → lv_has la' 8 [(0, .ref b), (1, .ref (ad 0)), (2, .ref (ad 54)), (3, .ref (ad 87)), (4, .int (nI i))] → W p l e room_1 s m #[Value.ref b] below meth c H' locs' (cells + 1) (slots + 6) Q (F0 m 1896 la' [])) : W p l e room_1 s m #[Value.ref b] below meth c H locs cells slots Q (F0 m 1455 la []) := by
  have hC := C.1
  have hx := hC.1
  have hb := hC.2.1
  have hc0 : cells ≤ room_1.cells ∧ slots ≤ room_1.slots := ⟨by omega, by omega⟩
  obtain ⟨r, M1, M2, m1, m2, hI⟩ := st_last l hI (xs (i + 1))
  refine lv_aload_n hx hb dL_law_1455 rfl (lv_at hl 1 rfl) ?_
  refine larg (kn := 1) C hS hl (by omega) dL_law_1456 dL_law_1457 dL_law_1459 dL_law_1460 dL_law_1461 rfl rfl rfl rfl rfl rfl ?_
  refine lcallV (mi := mL_law) (yi := mX11_last) (as := [.int (xs (i + 1))]) (rest := []) hC hP hS hl.1 dL_law_1462 ML_L_173 Yv_X11_last rfl zW_0 rfl rfl m1 (by decide) (Nat.le_of_ble_eq_true rfl) rfl hc0 rfl (fun H locs hP hS => ?_)
  refine lv_aload_n hx hb dL_law_1465 rfl (lv_at hl 2 rfl) ?_
  refine larg (kn := 1) C hS hl (by omega) dL_law_1466 dL_law_1467 dL_law_1469 dL_law_1470 dL_law_1471 rfl rfl rfl rfl rfl rfl ?_
  refine lcallV (mi := mL_law) (yi := mX12_last) (as := [.int (xs (i + 1))]) (rest := [.int r]) hC hP hS hl.1 dL_law_1472 ML_L_176 Yv_X12_last rfl zW_54 rfl rfl m2 (by decide) (Nat.le_of_ble_eq_true rfl) rfl hc0 rfl (fun H locs hP hS => ?_)
  refine lv_icmp_eq (tgt := 1896) hx hb dL_law_1475 (by decide) (fun _ => ?_) (fun z => absurd rfl z)
  exact W.widen (k := cells + 1) (n := slots + 6) (by omega) (by omega) (kk _ H locs la hI hP hS hl)
set_option maxRecDepth 100000 in
set_option maxHeartbeats 4000000 in
theorem lc_buy {p : Program} {l : Launch} {e : Env} {s : State} {m : MethodId} {below : List Frame} {meth : Method} {c : Code} {D : va_G} {cy : Nat → ClassId} {ad : Nat → Nat} {A : Nat → Prop} {b L : Nat} {xs : Nat → Int32} (C : LX p s m meth c D cy ad A b L xs) (hfl : l.stackTraces = false) {S : zS} (hI : Inv S) {i : Nat} (hi : i + 5 ≤ L) {H : Heap} {locs : List Loc} {la : Array Slot} {cells slots : Nat} {Q : State → Prop} (hcs : cells + 1 ≤ room_1.cells ∧ slots + 6 ≤ room_1.slots) (hP : va_P D zcl (zwd zW cy ad S) H) (hS : va_S A s.heap H locs) (hl : lv_has la 8 [(0, .ref b), (1, .ref (ad 0)), (2, .ref (ad 54)), (3, .ref (ad 87)), (4, .int (nI i))])
    (kk : ∀ (S' : zS) (H' : Heap) (locs' : List Loc) (la' : Array Slot), Inv S' → va_P D zcl (zwd zW cy ad S') H' → va_S A s.heap H' locs' → lv_has la' 8 [(0, .ref b), (1, .ref (ad 0)), (2, .ref (ad 54)), (3, .ref (ad 87)), (4, .int (nI i))] → W p l e room_1 s m #[Value.ref b] below meth c H' locs' (cells + 1) (slots + 6) Q (F0 m 1896 la' [])) : W p l e room_1 s m #[Value.ref b] below meth c H locs cells slots Q (F0 m 1480 la []) := by
  have hC := C.1
  have hx := hC.1
  have hb := hC.2.1
  have hc0 : cells ≤ room_1.cells ∧ slots ≤ room_1.slots := ⟨by omega, by omega⟩
  obtain ⟨r, M1, M2, m1, m2, hI⟩ := st_buy l hI 
  refine lv_aload_n hx hb dL_law_1480 rfl (lv_at hl 1 rfl) ?_
  refine lcallV (mi := mL_law) (yi := mX11_buy) (as := []) (rest := []) hC hP hS hl.1 dL_law_1481 ML_L_177 Yv_X11_buy rfl zW_0 rfl rfl m1 (by decide) (Nat.le_of_ble_eq_true rfl) rfl hc0 rfl (fun H locs hP hS => ?_)
  refine lv_aload_n hx hb dL_law_1484 rfl (lv_at hl 2 rfl) ?_
  refine lcallV (mi := mL_law) (yi := mX12_buy) (as := []) (rest := [.int r]) hC hP hS hl.1 dL_law_1485 ML_L_180 Yv_X12_buy rfl zW_54 rfl rfl m2 (by decide) (Nat.le_of_ble_eq_true rfl) rfl hc0 rfl (fun H locs hP hS => ?_)
  refine lv_icmp_eq (tgt := 1896) hx hb dL_law_1488 (by decide) (fun _ => ?_) (fun z => absurd rfl z)
  exact W.widen (k := cells + 1) (n := slots + 6) (by omega) (by omega) (kk _ H locs la hI hP hS hl)
set_option maxRecDepth 100000 in
set_option maxHeartbeats 4000000 in
theorem lc_game {p : Program} {l : Launch} {e : Env} {s : State} {m : MethodId} {below : List Frame} {meth : Method} {c : Code} {D : va_G} {cy : Nat → ClassId} {ad : Nat → Nat} {A : Nat → Prop} {b L : Nat} {xs : Nat → Int32} (C : LX p s m meth c D cy ad A b L xs) (hfl : l.stackTraces = false) {S : zS} (hI : Inv S) {i : Nat} (hi : i + 5 ≤ L) {H : Heap} {locs : List Loc} {la : Array Slot} {cells slots : Nat} {Q : State → Prop} (hcs : cells + 1 ≤ room_1.cells ∧ slots + 6 ≤ room_1.slots) (hP : va_P D zcl (zwd zW cy ad S) H) (hS : va_S A s.heap H locs) (hl : lv_has la 8 [(0, .ref b), (1, .ref (ad 0)), (2, .ref (ad 54)), (3, .ref (ad 87)), (4, .int (nI i))])
    (kk : ∀ (S' : zS) (H' : Heap) (locs' : List Loc) (la' : Array Slot), Inv S' → va_P D zcl (zwd zW cy ad S') H' → va_S A s.heap H' locs' → lv_has la' 8 [(0, .ref b), (1, .ref (ad 0)), (2, .ref (ad 54)), (3, .ref (ad 87)), (4, .int (nI i))] → W p l e room_1 s m #[Value.ref b] below meth c H' locs' (cells + 1) (slots + 6) Q (F0 m 1896 la' [])) : W p l e room_1 s m #[Value.ref b] below meth c H locs cells slots Q (F0 m 1493 la []) := by
  have hC := C.1
  have hx := hC.1
  have hb := hC.2.1
  have hc0 : cells ≤ room_1.cells ∧ slots ≤ room_1.slots := ⟨by omega, by omega⟩
  obtain ⟨r, M1, M2, m1, m2, hI⟩ := st_game l hI 
  refine lv_aload_n hx hb dL_law_1493 rfl (lv_at hl 1 rfl) ?_
  refine lcallV (mi := mL_law) (yi := mX11_game) (as := []) (rest := []) hC hP hS hl.1 dL_law_1494 ML_L_181 Yv_X11_game rfl zW_0 rfl rfl m1 (by decide) (Nat.le_of_ble_eq_true rfl) rfl hc0 rfl (fun H locs hP hS => ?_)
  refine lv_aload_n hx hb dL_law_1497 rfl (lv_at hl 2 rfl) ?_
  refine lcallV (mi := mL_law) (yi := mX12_game) (as := []) (rest := [.int r]) hC hP hS hl.1 dL_law_1498 ML_L_184 Yv_X12_game rfl zW_54 rfl rfl m2 (by decide) (Nat.le_of_ble_eq_true rfl) rfl hc0 rfl (fun H locs hP hS => ?_)
  refine lv_icmp_eq (tgt := 1896) hx hb dL_law_1501 (by decide) (fun _ => ?_) (fun z => absurd rfl z)
  exact W.widen (k := cells + 1) (n := slots + 6) (by omega) (by omega) (kk _ H locs la hI hP hS hl)
set_option maxRecDepth 100000 in
set_option maxHeartbeats 4000000 in
theorem lc_lot {p : Program} {l : Launch} {e : Env} {s : State} {m : MethodId} {below : List Frame} {meth : Method} {c : Code} {D : va_G} {cy : Nat → ClassId} {ad : Nat → Nat} {A : Nat → Prop} {b L : Nat} {xs : Nat → Int32} (C : LX p s m meth c D cy ad A b L xs) (hfl : l.stackTraces = false) {S : zS} (hI : Inv S) {i : Nat} (hi : i + 5 ≤ L) {H : Heap} {locs : List Loc} {la : Array Slot} {cells slots : Nat} {Q : State → Prop} (hcs : cells + 1 ≤ room_1.cells ∧ slots + 6 ≤ room_1.slots) (hP : va_P D zcl (zwd zW cy ad S) H) (hS : va_S A s.heap H locs) (hl : lv_has la 8 [(0, .ref b), (1, .ref (ad 0)), (2, .ref (ad 54)), (3, .ref (ad 87)), (4, .int (nI i))])
    (kk : ∀ (S' : zS) (H' : Heap) (locs' : List Loc) (la' : Array Slot), Inv S' → va_P D zcl (zwd zW cy ad S') H' → va_S A s.heap H' locs' → lv_has la' 8 [(0, .ref b), (1, .ref (ad 0)), (2, .ref (ad 54)), (3, .ref (ad 87)), (4, .int (nI i))] → W p l e room_1 s m #[Value.ref b] below meth c H' locs' (cells + 1) (slots + 6) Q (F0 m 1896 la' [])) : W p l e room_1 s m #[Value.ref b] below meth c H locs cells slots Q (F0 m 1506 la []) := by
  have hC := C.1
  have hx := hC.1
  have hb := hC.2.1
  have hc0 : cells ≤ room_1.cells ∧ slots ≤ room_1.slots := ⟨by omega, by omega⟩
  obtain ⟨r, M1, M2, m1, m2, hI⟩ := st_lot l hI 
  refine lv_aload_n hx hb dL_law_1506 rfl (lv_at hl 1 rfl) ?_
  refine lcallV (mi := mL_law) (yi := mX11_lot) (as := []) (rest := []) hC hP hS hl.1 dL_law_1507 ML_L_185 Yv_X11_lot rfl zW_0 rfl rfl m1 (by decide) (Nat.le_of_ble_eq_true rfl) rfl hc0 rfl (fun H locs hP hS => ?_)
  refine lv_aload_n hx hb dL_law_1510 rfl (lv_at hl 2 rfl) ?_
  refine lcallV (mi := mL_law) (yi := mX12_lot) (as := []) (rest := [.int r]) hC hP hS hl.1 dL_law_1511 ML_L_188 Yv_X12_lot rfl zW_54 rfl rfl m2 (by decide) (Nat.le_of_ble_eq_true rfl) rfl hc0 rfl (fun H locs hP hS => ?_)
  refine lv_icmp_eq (tgt := 1896) hx hb dL_law_1514 (by decide) (fun _ => ?_) (fun z => absurd rfl z)
  exact W.widen (k := cells + 1) (n := slots + 6) (by omega) (by omega) (kk _ H locs la hI hP hS hl)
set_option maxRecDepth 100000 in
set_option maxHeartbeats 4000000 in
theorem lc_share {p : Program} {l : Launch} {e : Env} {s : State} {m : MethodId} {below : List Frame} {meth : Method} {c : Code} {D : va_G} {cy : Nat → ClassId} {ad : Nat → Nat} {A : Nat → Prop} {b L : Nat} {xs : Nat → Int32} (C : LX p s m meth c D cy ad A b L xs) (hfl : l.stackTraces = false) {S : zS} (hI : Inv S) {i : Nat} (hi : i + 5 ≤ L) {H : Heap} {locs : List Loc} {la : Array Slot} {cells slots : Nat} {Q : State → Prop} (hcs : cells + 1 ≤ room_1.cells ∧ slots + 6 ≤ room_1.slots) (hP : va_P D zcl (zwd zW cy ad S) H) (hS : va_S A s.heap H locs) (hl : lv_has la 8 [(0, .ref b), (1, .ref (ad 0)), (2, .ref (ad 54)), (3, .ref (ad 87)), (4, .int (nI i))])
    (kk : ∀ (S' : zS) (H' : Heap) (locs' : List Loc) (la' : Array Slot), Inv S' → va_P D zcl (zwd zW cy ad S') H' → va_S A s.heap H' locs' → lv_has la' 8 [(0, .ref b), (1, .ref (ad 0)), (2, .ref (ad 54)), (3, .ref (ad 87)), (4, .int (nI i))] → W p l e room_1 s m #[Value.ref b] below meth c H' locs' (cells + 1) (slots + 6) Q (F0 m 1896 la' [])) : W p l e room_1 s m #[Value.ref b] below meth c H locs cells slots Q (F0 m 1519 la []) := by
  have hC := C.1
  have hx := hC.1
  have hb := hC.2.1
  have hc0 : cells ≤ room_1.cells ∧ slots ≤ room_1.slots := ⟨by omega, by omega⟩
  obtain ⟨r, M1, M2, m1, m2, hI⟩ := st_share l hI (xs (i + 1))
  refine lv_aload_n hx hb dL_law_1519 rfl (lv_at hl 1 rfl) ?_
  refine larg (kn := 1) C hS hl (by omega) dL_law_1520 dL_law_1521 dL_law_1523 dL_law_1524 dL_law_1525 rfl rfl rfl rfl rfl rfl ?_
  refine lcallV (mi := mL_law) (yi := mX11_share) (as := [.int (xs (i + 1))]) (rest := []) hC hP hS hl.1 dL_law_1526 ML_L_189 Yv_X11_share rfl zW_0 rfl rfl m1 (by decide) (Nat.le_of_ble_eq_true rfl) rfl hc0 rfl (fun H locs hP hS => ?_)
  refine lv_aload_n hx hb dL_law_1529 rfl (lv_at hl 2 rfl) ?_
  refine larg (kn := 1) C hS hl (by omega) dL_law_1530 dL_law_1531 dL_law_1533 dL_law_1534 dL_law_1535 rfl rfl rfl rfl rfl rfl ?_
  refine lcallV (mi := mL_law) (yi := mX12_share) (as := [.int (xs (i + 1))]) (rest := [.int r]) hC hP hS hl.1 dL_law_1536 ML_L_192 Yv_X12_share rfl zW_54 rfl rfl m2 (by decide) (Nat.le_of_ble_eq_true rfl) rfl hc0 rfl (fun H locs hP hS => ?_)
  refine lv_icmp_eq (tgt := 1896) hx hb dL_law_1539 (by decide) (fun _ => ?_) (fun z => absurd rfl z)
  exact W.widen (k := cells + 1) (n := slots + 6) (by omega) (by omega) (kk _ H locs la hI hP hS hl)
