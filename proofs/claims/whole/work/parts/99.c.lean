/-! THE CONSTRUCTORS of the nested classes -/
theorem AC_0 : Cond.arrayClass .int ∈ zTB := (zTB_1 (i := 104) (by decide +kernel) rfl)
theorem RA_0 : ∀ (U : State) (a b : ClassId), va_RA U a .int → va_RA U b .int → a = b := fun U a b h1 h2 => Option.some.inj (h1.symm.trans h2)
theorem AC_1 : Cond.arrayClass .long ∈ zTB := (zTB_1 (i := 71) (by decide +kernel) rfl)
theorem RA_1 : ∀ (U : State) (a b : ClassId), va_RA U a .long → va_RA U b .long → a = b := fun U a b h1 h2 => Option.some.inj (h1.symm.trans h2)
theorem AC_2 : Cond.arrayClass .byte ∈ zTB := (zTB_3 (i := 71) (by decide +kernel) rfl)
theorem RA_2 : ∀ (U : State) (a b : ClassId), va_RA U a .byte → va_RA U b .byte → a = b := fun U a b h1 h2 => Option.some.inj (h1.symm.trans h2)
theorem AC_3 : Cond.arrayClass .boolean ∈ zTB := (zTB_7 (i := 3) (by decide +kernel) rfl)
theorem RA_3 : ∀ (U : State) (a b : ClassId), va_RA U a .boolean → va_RA U b .boolean → a = b := fun U a b h1 h2 => Option.some.inj (h1.symm.trans h2)
theorem AC_4 : Cond.arrayClass .char ∈ zTB := (zTB_1 (i := 55) (by decide +kernel) rfl)
theorem RA_4 : ∀ (U : State) (a b : ClassId), va_RA U a .char → va_RA U b .char → a = b := fun U a b h1 h2 => Option.some.inj (h1.symm.trans h2)
theorem OI : Cond.instanceMethod Lib.objectInit ∈ zTB := (zTB_1 (i := 33) (by decide +kernel) rfl)
theorem OC : Cond.code Lib.objectInit ⟨#[0xb1]⟩ 1 none ∈ zTB := (zTB_1 (i := 34) (by decide +kernel) rfl)
theorem OL_X9 : Cond.methodLink RX9 3 Lib.objectInit ∈ zTB := (zTB_1 (i := 40) (by decide +kernel) rfl)
theorem FB_X9_9 : Cond.fieldLink RX9 9 RX9 (TX9 0).2.1 (TX9 0).2.2.1 ∈ zTB := (zTB_1 (i := 41) (by decide +kernel) rfl)
theorem IM_X9 : Cond.instanceMethod yX9_init ∈ zTB := (zTB_1 (i := 38) (by decide +kernel) rfl)
theorem CI_X9 : Cond.code yX9_init cX9_init 1 none ∈ zTB := (zTB_1 (i := 39) (by decide +kernel) rfl)
theorem II_X9 : Cond.initialized RX9 ∈ zTB := (zTB_1 (i := 2) (by decide +kernel) rfl)
theorem OL_X6 : Cond.methodLink RX6 3 Lib.objectInit ∈ zTB := (zTB_1 (i := 61) (by decide +kernel) rfl)
theorem FB_X6_9 : Cond.fieldLink RX6 9 RX6 (TX6 0).2.1 (TX6 0).2.2.1 ∈ zTB := (zTB_1 (i := 62) (by decide +kernel) rfl)
theorem IM_X6 : Cond.instanceMethod yX6_init ∈ zTB := (zTB_1 (i := 59) (by decide +kernel) rfl)
theorem CI_X6 : Cond.code yX6_init cX6_init 1 none ∈ zTB := (zTB_1 (i := 60) (by decide +kernel) rfl)
theorem II_X6 : Cond.initialized RX6 ∈ zTB := (zTB_1 (i := 3) (by decide +kernel) rfl)
theorem OL_X7 : Cond.methodLink RX7 5 Lib.objectInit ∈ zTB := (zTB_1 (i := 83) (by decide +kernel) rfl)
theorem FB_X7_11 : Cond.fieldLink RX7 11 RX7 (TX7 0).2.1 (TX7 0).2.2.1 ∈ zTB := (zTB_1 (i := 84) (by decide +kernel) rfl)
theorem FB_X7_15 : Cond.fieldLink RX7 15 RX7 (TX7 2).2.1 (TX7 2).2.2.1 ∈ zTB := (zTB_1 (i := 86) (by decide +kernel) rfl)
theorem FB_X7_18 : Cond.fieldLink RX7 18 RX7 (TX7 4).2.1 (TX7 4).2.2.1 ∈ zTB := (zTB_1 (i := 88) (by decide +kernel) rfl)
theorem FB_X7_21 : Cond.fieldLink RX7 21 RX7 (TX7 5).2.1 (TX7 5).2.2.1 ∈ zTB := (zTB_1 (i := 89) (by decide +kernel) rfl)
theorem IM_X7 : Cond.instanceMethod yX7_init ∈ zTB := (zTB_1 (i := 81) (by decide +kernel) rfl)
theorem CI_X7 : Cond.code yX7_init cX7_init 1 none ∈ zTB := (zTB_1 (i := 82) (by decide +kernel) rfl)
theorem II_X7 : Cond.initialized RX7 ∈ zTB := (zTB_1 (i := 5) (by decide +kernel) rfl)
theorem OL_X1 : Cond.methodLink RX1 5 Lib.objectInit ∈ zTB := (zTB_1 (i := 77) (by decide +kernel) rfl)
theorem FB_X1_11 : Cond.fieldLink RX1 11 RX1 (TX1 0).2.1 (TX1 0).2.2.1 ∈ zTB := (zTB_1 (i := 105) (by decide +kernel) rfl)
theorem FB_X1_15 : Cond.fieldLink RX1 15 RX1 (TX1 1).2.1 (TX1 1).2.2.1 ∈ zTB := (zTB_1 (i := 107) (by decide +kernel) rfl)
theorem FB_X1_18 : Cond.fieldLink RX1 18 RX1 (TX1 2).2.1 (TX1 2).2.2.1 ∈ zTB := (zTB_1 (i := 109) (by decide +kernel) rfl)
theorem FB_X1_21 : Cond.fieldLink RX1 21 RX1 (TX1 4).2.1 (TX1 4).2.2.1 ∈ zTB := (zTB_1 (i := 115) (by decide +kernel) rfl)
theorem FB_X1_24 : Cond.fieldLink RX1 24 RX1 (TX1 5).2.1 (TX1 5).2.2.1 ∈ zTB := (zTB_1 (i := 116) (by decide +kernel) rfl)
theorem FB_X1_27 : Cond.fieldLink RX1 27 RX1 (TX1 7).2.1 (TX1 7).2.2.1 ∈ zTB := (zTB_1 (i := 119) (by decide +kernel) rfl)
theorem FB_X1_30 : Cond.fieldLink RX1 30 RX1 (TX1 9).2.1 (TX1 9).2.2.1 ∈ zTB := (zTB_1 (i := 123) (by decide +kernel) rfl)
theorem CL_X1_34 : Cond.classLink RX1 34 RX7 ∈ zTB := (zTB_1 (i := 78) (by decide +kernel) rfl)
theorem IN_X7 : Cond.instantiable RX7 6 ∈ zTB := (zTB_1 (i := 79) (by decide +kernel) rfl)
theorem MB_X1_36 : zml RX1 36 yX7_init := Or.inr ⟨"FourAPole", (zNB_1 (i := 80) (by decide +kernel) rfl)⟩
theorem FB_X1_37 : Cond.fieldLink RX1 37 RX1 (TX1 10).2.1 (TX1 10).2.2.1 ∈ zTB := (zTB_1 (i := 127) (by decide +kernel) rfl)
theorem FB_X1_41 : Cond.fieldLink RX1 41 RX1 (TX1 11).2.1 (TX1 11).2.2.1 ∈ zTB := (zTB_1 (i := 129) (by decide +kernel) rfl)
theorem FB_X1_44 : Cond.fieldLink RX1 44 RX1 (TX1 12).2.1 (TX1 12).2.2.1 ∈ zTB := (zTB_1 (i := 131) (by decide +kernel) rfl)
theorem FB_X1_47 : Cond.fieldLink RX1 47 RX1 (TX1 13).2.1 (TX1 13).2.2.1 ∈ zTB := (zTB_1 (i := 132) (by decide +kernel) rfl)
theorem IM_X1 : Cond.instanceMethod yX1_init ∈ zTB := (zTB_1 (i := 75) (by decide +kernel) rfl)
theorem CI_X1 : Cond.code yX1_init cX1_init 1 none ∈ zTB := (zTB_1 (i := 76) (by decide +kernel) rfl)
theorem II_X1 : Cond.initialized RX1 ∈ zTB := (zTB_1 (i := 4) (by decide +kernel) rfl)
theorem OL_X10 : Cond.methodLink RX10 3 Lib.objectInit ∈ zTB := (zTB_1 (i := 167) (by decide +kernel) rfl)
theorem FB_X10_9 : Cond.fieldLink RX10 9 RX10 (TX10 0).2.1 (TX10 0).2.2.1 ∈ zTB := (zTB_1 (i := 168) (by decide +kernel) rfl)
theorem FB_X10_15 : Cond.fieldLink RX10 15 RX10 (TX10 1).2.1 (TX10 1).2.2.1 ∈ zTB := (zTB_1 (i := 172) (by decide +kernel) rfl)
theorem FB_X10_18 : Cond.fieldLink RX10 18 RX10 (TX10 2).2.1 (TX10 2).2.2.1 ∈ zTB := (zTB_1 (i := 176) (by decide +kernel) rfl)
theorem FB_X10_21 : Cond.fieldLink RX10 21 RX10 (TX10 3).2.1 (TX10 3).2.2.1 ∈ zTB := (zTB_1 (i := 180) (by decide +kernel) rfl)
theorem FB_X10_24 : Cond.fieldLink RX10 24 RX10 (TX10 5).2.1 (TX10 5).2.2.1 ∈ zTB := (zTB_1 (i := 187) (by decide +kernel) rfl)
theorem FB_X10_27 : Cond.fieldLink RX10 27 RX10 (TX10 6).2.1 (TX10 6).2.2.1 ∈ zTB := (zTB_1 (i := 188) (by decide +kernel) rfl)
theorem IM_X10 : Cond.instanceMethod yX10_init ∈ zTB := (zTB_1 (i := 165) (by decide +kernel) rfl)
theorem CI_X10 : Cond.code yX10_init cX10_init 1 none ∈ zTB := (zTB_1 (i := 166) (by decide +kernel) rfl)
theorem II_X10 : Cond.initialized RX10 ∈ zTB := (zTB_1 (i := 6) (by decide +kernel) rfl)
theorem OL_X8 : Cond.methodLink RX8 3 Lib.objectInit ∈ zTB := (zTB_1 (i := 209) (by decide +kernel) rfl)
theorem LM_X8 : Cond.methodLink RX8 9 Lib.Math.max.name ∈ zTB := (zTB_1 (i := 210) (by decide +kernel) rfl)
theorem FB_X8_15 : Cond.fieldLink RX8 15 RX8 (TX8 0).2.1 (TX8 0).2.2.1 ∈ zTB := (zTB_1 (i := 216) (by decide +kernel) rfl)
theorem FB_X8_21 : Cond.fieldLink RX8 21 RX8 (TX8 1).2.1 (TX8 1).2.2.1 ∈ zTB := (zTB_1 (i := 217) (by decide +kernel) rfl)
theorem FB_X8_25 : Cond.fieldLink RX8 25 RX8 (TX8 2).2.1 (TX8 2).2.2.1 ∈ zTB := (zTB_1 (i := 218) (by decide +kernel) rfl)
theorem LF_X8 : Cond.methodLink RX8 28 yJ7_fill_53178 ∈ zTB := (zTB_1 (i := 213) (by decide +kernel) rfl)
theorem IM_X8 : Cond.instanceMethod yX8_init ∈ zTB := (zTB_1 (i := 207) (by decide +kernel) rfl)
theorem CI_X8 : Cond.code yX8_init cX8_init 2 none ∈ zTB := (zTB_1 (i := 208) (by decide +kernel) rfl)
theorem II_X8 : Cond.initialized RX8 ∈ zTB := (zTB_1 (i := 7) (by decide +kernel) rfl)
theorem OL_X2 : Cond.methodLink RX2 3 Lib.objectInit ∈ zTB := (zTB_1 (i := 235) (by decide +kernel) rfl)
theorem IM_X2 : Cond.instanceMethod yX2_init ∈ zTB := (zTB_1 (i := 233) (by decide +kernel) rfl)
theorem CI_X2 : Cond.code yX2_init cX2_init 1 none ∈ zTB := (zTB_1 (i := 234) (by decide +kernel) rfl)
theorem II_X2 : Cond.initialized RX2 ∈ zTB := (zTB_1 (i := 10) (by decide +kernel) rfl)
theorem OL_X4 : Cond.methodLink RX4 5 Lib.objectInit ∈ zTB := (zTB_2 (i := 22) (by decide +kernel) rfl)
theorem FB_X4_11 : Cond.fieldLink RX4 11 RX4 (TX4 0).2.1 (TX4 0).2.2.1 ∈ zTB := (zTB_2 (i := 23) (by decide +kernel) rfl)
theorem FB_X4_15 : Cond.fieldLink RX4 15 RX4 (TX4 1).2.1 (TX4 1).2.2.1 ∈ zTB := (zTB_2 (i := 24) (by decide +kernel) rfl)
theorem FB_X4_18 : Cond.fieldLink RX4 18 RX4 (TX4 2).2.1 (TX4 2).2.2.1 ∈ zTB := (zTB_2 (i := 25) (by decide +kernel) rfl)
theorem FB_X4_21 : Cond.fieldLink RX4 21 RX4 (TX4 3).2.1 (TX4 3).2.2.1 ∈ zTB := (zTB_2 (i := 26) (by decide +kernel) rfl)
theorem IM_X4 : Cond.instanceMethod yX4_init ∈ zTB := (zTB_2 (i := 20) (by decide +kernel) rfl)
theorem CI_X4 : Cond.code yX4_init cX4_init 1 none ∈ zTB := (zTB_2 (i := 21) (by decide +kernel) rfl)
theorem II_X4 : Cond.initialized RX4 ∈ zTB := (zTB_1 (i := 11) (by decide +kernel) rfl)
theorem OL_X3 : Cond.methodLink RX3 3 Lib.objectInit ∈ zTB := (zTB_2 (i := 44) (by decide +kernel) rfl)
theorem FB_X3_11 : Cond.fieldLink RX3 11 RX3 (TX3 0).2.1 (TX3 0).2.2.1 ∈ zTB := (zTB_2 (i := 45) (by decide +kernel) rfl)
theorem FB_X3_15 : Cond.fieldLink RX3 15 RX3 (TX3 4).2.1 (TX3 4).2.2.1 ∈ zTB := (zTB_2 (i := 51) (by decide +kernel) rfl)
theorem FB_X3_18 : Cond.fieldLink RX3 18 RX3 (TX3 5).2.1 (TX3 5).2.2.1 ∈ zTB := (zTB_2 (i := 52) (by decide +kernel) rfl)
theorem FB_X3_21 : Cond.fieldLink RX3 21 RX3 (TX3 6).2.1 (TX3 6).2.2.1 ∈ zTB := (zTB_2 (i := 53) (by decide +kernel) rfl)
theorem FB_X3_24 : Cond.fieldLink RX3 24 RX3 (TX3 7).2.1 (TX3 7).2.2.1 ∈ zTB := (zTB_2 (i := 54) (by decide +kernel) rfl)
theorem FB_X3_27 : Cond.fieldLink RX3 27 RX3 (TX3 8).2.1 (TX3 8).2.2.1 ∈ zTB := (zTB_2 (i := 55) (by decide +kernel) rfl)
theorem FB_X3_30 : Cond.fieldLink RX3 30 RX3 (TX3 9).2.1 (TX3 9).2.2.1 ∈ zTB := (zTB_2 (i := 56) (by decide +kernel) rfl)
theorem FB_X3_34 : Cond.fieldLink RX3 34 RX3 (TX3 10).2.1 (TX3 10).2.2.1 ∈ zTB := (zTB_2 (i := 57) (by decide +kernel) rfl)
theorem IM_X3 : Cond.instanceMethod yX3_init ∈ zTB := (zTB_2 (i := 42) (by decide +kernel) rfl)
theorem CI_X3 : Cond.code yX3_init cX3_init 1 none ∈ zTB := (zTB_2 (i := 43) (by decide +kernel) rfl)
theorem II_X3 : Cond.initialized RX3 ∈ zTB := (zTB_1 (i := 12) (by decide +kernel) rfl)
theorem OL_X0 : Cond.methodLink RX0 3 Lib.objectInit ∈ zTB := (zTB_2 (i := 86) (by decide +kernel) rfl)
theorem IM_X0 : Cond.instanceMethod yX0_init ∈ zTB := (zTB_2 (i := 84) (by decide +kernel) rfl)
theorem CI_X0 : Cond.code yX0_init cX0_init 1 none ∈ zTB := (zTB_2 (i := 85) (by decide +kernel) rfl)
theorem II_X0 : Cond.initialized RX0 ∈ zTB := (zTB_1 (i := 13) (by decide +kernel) rfl)
theorem OL_X5 : Cond.methodLink RX5 5 Lib.objectInit ∈ zTB := (zTB_2 (i := 113) (by decide +kernel) rfl)
theorem FB_X5_11 : Cond.fieldLink RX5 11 RX5 (TX5 0).2.1 (TX5 0).2.2.1 ∈ zTB := (zTB_2 (i := 114) (by decide +kernel) rfl)
theorem FB_X5_15 : Cond.fieldLink RX5 15 RX5 (TX5 1).2.1 (TX5 1).2.2.1 ∈ zTB := (zTB_2 (i := 115) (by decide +kernel) rfl)
theorem IM_X5 : Cond.instanceMethod yX5_init ∈ zTB := (zTB_2 (i := 111) (by decide +kernel) rfl)
theorem CI_X5 : Cond.code yX5_init cX5_init 1 none ∈ zTB := (zTB_2 (i := 112) (by decide +kernel) rfl)
theorem II_X5 : Cond.initialized RX5 ∈ zTB := (zTB_1 (i := 14) (by decide +kernel) rfl)
def mX9_init : zM := (RX9, yX9_init, cX9_init, 1, none)
def y_X9 (cy : Nat → ClassId) (h0 : Nat) (g : Nat → Nat) : va_W := [(h0, .inr (9, [.ref (g 0), .int 0, .int 0, .int 0])), (g 0, .inl (cy 4, 80, .inl (fun _ => 0)))]
set_option maxRecDepth 100000 in
set_option maxHeartbeats 8000000 in
theorem c_X9 (l : Launch) (D : va_G) (cy : Nat → ClassId) (ws0 : va_W) (h0 : Nat) : bMt l 2 1 80 mX9_init [.ref h0] (ws0 ++ [(h0, .inr (9, [.null, .int 0, .int 0, .int 0]))]) (fun g => ws0 ++ y_X9 cy h0 g) D cy := by
  refine bMt_of (by decide) rfl rfl (Nat.le_of_ble_eq_true rfl) ?_
  intro p e R s m args below meth c A ls hR1 hR2 hB hlocks hin hr hP hD hl
  have hl : lv_has ls 1 [(0, .ref h0)] := hl
  have hx := hB.1
  have hb := hB.2.1
  have hts := hB.2.2.2.2.1
  have hRR := hB.2.2.2.2.2.1
  have hin : meth.name = "<init>" := hin
  have hS : va_S A s.heap s.heap [] := va_S.rf
  refine lv_aload_n hx hb dX9_init_0 rfl (lv_at hl 0 rfl) ?_
  refine bobj hB hl.1 (by decide) OL_X9 OI OC dX9_init_1 rfl ?_
  refine lv_aload_n hx hb dX9_init_4 rfl (lv_at hl 0 rfl) ?_
  refine lv_bipush (v := 80) hx hb dX9_init_5 (by decide) ?_
  refine bnewa (atype := .char) (ty := .char) (t := 4) (N := 80) (a0 := (80, .inl (fun _ => 0))) (cells' := 1) (slots' := 80) (ws1 := fun q1 => ws0 ++ [(h0, .inr (9, [.null, .int 0, .int 0, .int 0])), (q1, .inl (cy 4, 80, .inl (fun _ => 0)))]) hB hP hD hS rfl AC_4 rfl RA_4 (fun _ => rfl) (by decide) (by decide) (by decide) dX9_init_7 rfl rfl ⟨by omega, by omega⟩ rfl (fun _ => List.append_assoc _ _ _) (fun q1 H hP hD hS => ?_)
  refine bput (C := RX9) (T := TX9) (N := 4) (ci := 9) (k0 := 0) (k := 0) (v := .ref q1) (ty := tyX9 0) (ys' := [(h0, .inr (9, [.ref q1, .int 0, .int 0, .int 0])), (q1, .inl (cy 4, 80, .inl (fun _ => 0)))]) hB hin hP hD hS rfl rfl inT9 tyX9 tyX9_ok nmX9 (by decide) rfl FB_X9_9 (.inr ⟨rfl, rfl⟩) (tyX9_ok 0 (by decide)) rfl rfl (Nat.le_of_ble_eq_true rfl) dX9_init_9 rfl rfl (fun H locs hP hD hS => ?_)
  exact W.vret hx hb hr (fun t ht _ => ⟨rfl, ⟨fun j => [q1].getD j 0, by rw [ht]; exact hP, hD⟩, hS.F ht⟩) hS.2.2 dX9_init_12 hlocks
def mX6_init : zM := (RX6, yX6_init, cX6_init, 1, none)
def y_X6 (cy : Nat → ClassId) (h0 : Nat) (g : Nat → Nat) : va_W := [(h0, .inr (6, [.ref (g 0), .int 0])), (g 0, .inl (cy 1, 12, .inr (.inl (fun _ => 0))))]
set_option maxRecDepth 100000 in
set_option maxHeartbeats 8000000 in
theorem c_X6 (l : Launch) (D : va_G) (cy : Nat → ClassId) (ws0 : va_W) (h0 : Nat) : bMt l 2 1 12 mX6_init [.ref h0] (ws0 ++ [(h0, .inr (6, [.null, .int 0]))]) (fun g => ws0 ++ y_X6 cy h0 g) D cy := by
  refine bMt_of (by decide) rfl rfl (Nat.le_of_ble_eq_true rfl) ?_
  intro p e R s m args below meth c A ls hR1 hR2 hB hlocks hin hr hP hD hl
  have hl : lv_has ls 1 [(0, .ref h0)] := hl
  have hx := hB.1
  have hb := hB.2.1
  have hts := hB.2.2.2.2.1
  have hRR := hB.2.2.2.2.2.1
  have hin : meth.name = "<init>" := hin
  have hS : va_S A s.heap s.heap [] := va_S.rf
  refine lv_aload_n hx hb dX6_init_0 rfl (lv_at hl 0 rfl) ?_
  refine bobj hB hl.1 (by decide) OL_X6 OI OC dX6_init_1 rfl ?_
  refine lv_aload_n hx hb dX6_init_4 rfl (lv_at hl 0 rfl) ?_
  refine lv_bipush (v := 12) hx hb dX6_init_5 (by decide) ?_
  refine bnewa (atype := .long) (ty := .long) (t := 1) (N := 12) (a0 := (12, .inr (.inl (fun _ => 0)))) (cells' := 1) (slots' := 12) (ws1 := fun q1 => ws0 ++ [(h0, .inr (6, [.null, .int 0])), (q1, .inl (cy 1, 12, .inr (.inl (fun _ => 0))))]) hB hP hD hS rfl AC_1 rfl RA_1 (fun _ => rfl) (by decide) (by decide) (by decide) dX6_init_7 rfl rfl ⟨by omega, by omega⟩ rfl (fun _ => List.append_assoc _ _ _) (fun q1 H hP hD hS => ?_)
  refine bput (C := RX6) (T := TX6) (N := 2) (ci := 6) (k0 := 0) (k := 0) (v := .ref q1) (ty := tyX6 0) (ys' := [(h0, .inr (6, [.ref q1, .int 0])), (q1, .inl (cy 1, 12, .inr (.inl (fun _ => 0))))]) hB hin hP hD hS rfl rfl inT6 tyX6 tyX6_ok nmX6 (by decide) rfl FB_X6_9 (.inr ⟨rfl, rfl⟩) (tyX6_ok 0 (by decide)) rfl rfl (Nat.le_of_ble_eq_true rfl) dX6_init_9 rfl rfl (fun H locs hP hD hS => ?_)
  exact W.vret hx hb hr (fun t ht _ => ⟨rfl, ⟨fun j => [q1].getD j 0, by rw [ht]; exact hP, hD⟩, hS.F ht⟩) hS.2.2 dX6_init_12 hlocks
def mX7_init : zM := (RX7, yX7_init, cX7_init, 1, none)
def y_X7 (cy : Nat → ClassId) (h0 : Nat) (g : Nat → Nat) : va_W := [(h0, .inr (7, [.ref (g 0), .int 0, .ref (g 1), .int 0, .ref (g 2), .ref (g 3)])), (g 0, .inl (cy 0, 40, .inl (fun _ => 0))), (g 1, .inl (cy 0, 40, .inl (fun _ => 0))), (g 2, .inl (cy 0, 40, .inl (fun _ => 0))), (g 3, .inl (cy 0, 8, .inl (fun _ => 0)))]
set_option maxRecDepth 100000 in
set_option maxHeartbeats 8000000 in
theorem c_X7 (l : Launch) (D : va_G) (cy : Nat → ClassId) (ws0 : va_W) (h0 : Nat) : bMt l 2 4 128 mX7_init [.ref h0] (ws0 ++ [(h0, .inr (7, [.null, .int 0, .null, .int 0, .null, .null]))]) (fun g => ws0 ++ y_X7 cy h0 g) D cy := by
  refine bMt_of (by decide) rfl rfl (Nat.le_of_ble_eq_true rfl) ?_
  intro p e R s m args below meth c A ls hR1 hR2 hB hlocks hin hr hP hD hl
  have hl : lv_has ls 1 [(0, .ref h0)] := hl
  have hx := hB.1
  have hb := hB.2.1
  have hts := hB.2.2.2.2.1
  have hRR := hB.2.2.2.2.2.1
  have hin : meth.name = "<init>" := hin
  have hS : va_S A s.heap s.heap [] := va_S.rf
  refine lv_aload_n hx hb dX7_init_0 rfl (lv_at hl 0 rfl) ?_
  refine bobj hB hl.1 (by decide) OL_X7 OI OC dX7_init_1 rfl ?_
  refine lv_aload_n hx hb dX7_init_4 rfl (lv_at hl 0 rfl) ?_
  refine lv_bipush (v := 40) hx hb dX7_init_5 (by decide) ?_
  refine bnewa (atype := .int) (ty := .int) (t := 0) (N := 40) (a0 := (40, .inl (fun _ => 0))) (cells' := 1) (slots' := 40) (ws1 := fun q1 => ws0 ++ [(h0, .inr (7, [.null, .int 0, .null, .int 0, .null, .null])), (q1, .inl (cy 0, 40, .inl (fun _ => 0)))]) hB hP hD hS rfl AC_0 rfl RA_0 (fun _ => rfl) (by decide) (by decide) (by decide) dX7_init_7 rfl rfl ⟨by omega, by omega⟩ rfl (fun _ => List.append_assoc _ _ _) (fun q1 H hP hD hS => ?_)
  refine bput (C := RX7) (T := TX7) (N := 6) (ci := 7) (k0 := 0) (k := 0) (v := .ref q1) (ty := tyX7 0) (ys' := [(h0, .inr (7, [.ref q1, .int 0, .null, .int 0, .null, .null])), (q1, .inl (cy 0, 40, .inl (fun _ => 0)))]) hB hin hP hD hS rfl rfl inT7 tyX7 tyX7_ok nmX7 (by decide) rfl FB_X7_11 (.inr ⟨rfl, rfl⟩) (tyX7_ok 0 (by decide)) rfl rfl (Nat.le_of_ble_eq_true rfl) dX7_init_9 rfl rfl (fun H locs hP hD hS => ?_)
  refine lv_aload_n hx hb dX7_init_12 rfl (lv_at hl 0 rfl) ?_
  refine lv_bipush (v := 40) hx hb dX7_init_13 (by decide) ?_
  refine bnewa (atype := .int) (ty := .int) (t := 0) (N := 40) (a0 := (40, .inl (fun _ => 0))) (cells' := 2) (slots' := 80) (ws1 := fun q2 => ws0 ++ [(h0, .inr (7, [.ref q1, .int 0, .null, .int 0, .null, .null])), (q1, .inl (cy 0, 40, .inl (fun _ => 0))), (q2, .inl (cy 0, 40, .inl (fun _ => 0)))]) hB hP hD hS rfl AC_0 rfl RA_0 (fun _ => rfl) (by decide) (by decide) (by decide) dX7_init_15 rfl rfl ⟨by omega, by omega⟩ rfl (fun _ => List.append_assoc _ _ _) (fun q2 H hP hD hS => ?_)
  refine bput (C := RX7) (T := TX7) (N := 6) (ci := 7) (k0 := 0) (k := 2) (v := .ref q2) (ty := tyX7 2) (ys' := [(h0, .inr (7, [.ref q1, .int 0, .ref q2, .int 0, .null, .null])), (q1, .inl (cy 0, 40, .inl (fun _ => 0))), (q2, .inl (cy 0, 40, .inl (fun _ => 0)))]) hB hin hP hD hS rfl rfl inT7 tyX7 tyX7_ok nmX7 (by decide) rfl FB_X7_15 (.inr ⟨rfl, rfl⟩) (tyX7_ok 2 (by decide)) rfl rfl (Nat.le_of_ble_eq_true rfl) dX7_init_17 rfl rfl (fun H locs hP hD hS => ?_)
  refine lv_aload_n hx hb dX7_init_20 rfl (lv_at hl 0 rfl) ?_
  refine lv_bipush (v := 40) hx hb dX7_init_21 (by decide) ?_
  refine bnewa (atype := .int) (ty := .int) (t := 0) (N := 40) (a0 := (40, .inl (fun _ => 0))) (cells' := 3) (slots' := 120) (ws1 := fun q3 => ws0 ++ [(h0, .inr (7, [.ref q1, .int 0, .ref q2, .int 0, .null, .null])), (q1, .inl (cy 0, 40, .inl (fun _ => 0))), (q2, .inl (cy 0, 40, .inl (fun _ => 0))), (q3, .inl (cy 0, 40, .inl (fun _ => 0)))]) hB hP hD hS rfl AC_0 rfl RA_0 (fun _ => rfl) (by decide) (by decide) (by decide) dX7_init_23 rfl rfl ⟨by omega, by omega⟩ rfl (fun _ => List.append_assoc _ _ _) (fun q3 H hP hD hS => ?_)
  refine bput (C := RX7) (T := TX7) (N := 6) (ci := 7) (k0 := 0) (k := 4) (v := .ref q3) (ty := tyX7 4) (ys' := [(h0, .inr (7, [.ref q1, .int 0, .ref q2, .int 0, .ref q3, .null])), (q1, .inl (cy 0, 40, .inl (fun _ => 0))), (q2, .inl (cy 0, 40, .inl (fun _ => 0))), (q3, .inl (cy 0, 40, .inl (fun _ => 0)))]) hB hin hP hD hS rfl rfl inT7 tyX7 tyX7_ok nmX7 (by decide) rfl FB_X7_18 (.inr ⟨rfl, rfl⟩) (tyX7_ok 4 (by decide)) rfl rfl (Nat.le_of_ble_eq_true rfl) dX7_init_25 rfl rfl (fun H locs hP hD hS => ?_)
  refine lv_aload_n hx hb dX7_init_28 rfl (lv_at hl 0 rfl) ?_
  refine lv_bipush (v := 8) hx hb dX7_init_29 (by decide) ?_
  refine bnewa (atype := .int) (ty := .int) (t := 0) (N := 8) (a0 := (8, .inl (fun _ => 0))) (cells' := 4) (slots' := 128) (ws1 := fun q4 => ws0 ++ [(h0, .inr (7, [.ref q1, .int 0, .ref q2, .int 0, .ref q3, .null])), (q1, .inl (cy 0, 40, .inl (fun _ => 0))), (q2, .inl (cy 0, 40, .inl (fun _ => 0))), (q3, .inl (cy 0, 40, .inl (fun _ => 0))), (q4, .inl (cy 0, 8, .inl (fun _ => 0)))]) hB hP hD hS rfl AC_0 rfl RA_0 (fun _ => rfl) (by decide) (by decide) (by decide) dX7_init_31 rfl rfl ⟨by omega, by omega⟩ rfl (fun _ => List.append_assoc _ _ _) (fun q4 H hP hD hS => ?_)
  refine bput (C := RX7) (T := TX7) (N := 6) (ci := 7) (k0 := 0) (k := 5) (v := .ref q4) (ty := tyX7 5) (ys' := [(h0, .inr (7, [.ref q1, .int 0, .ref q2, .int 0, .ref q3, .ref q4])), (q1, .inl (cy 0, 40, .inl (fun _ => 0))), (q2, .inl (cy 0, 40, .inl (fun _ => 0))), (q3, .inl (cy 0, 40, .inl (fun _ => 0))), (q4, .inl (cy 0, 8, .inl (fun _ => 0)))]) hB hin hP hD hS rfl rfl inT7 tyX7 tyX7_ok nmX7 (by decide) rfl FB_X7_21 (.inr ⟨rfl, rfl⟩) (tyX7_ok 5 (by decide)) rfl rfl (Nat.le_of_ble_eq_true rfl) dX7_init_33 rfl rfl (fun H locs hP hD hS => ?_)
  exact W.vret hx hb hr (fun t ht _ => ⟨rfl, ⟨fun j => [q1, q2, q3, q4].getD j 0, by rw [ht]; exact hP, hD⟩, hS.F ht⟩) hS.2.2 dX7_init_36 hlocks
def mX1_init : zM := (RX1, yX1_init, cX1_init, 1, none)
def y_X1 (cy : Nat → ClassId) (h0 : Nat) (g : Nat → Nat) : va_W := [(h0, .inr (1, [.ref (g 0), .ref (g 1), .ref (g 2), .int 0, .ref (g 3), .ref (g 4), .int 0, .ref (g 5), .int 0, .int 600, .ref (g 6), .ref (g 11), .ref (g 12), .ref (g 13)])), (g 0, .inl (cy 0, 8, .inl (fun _ => 0))), (g 1, .inl (cy 0, 8, .inl (fun _ => 0))), (g 2, .inl (cy 0, 8, .inl (fun _ => 0))), (g 3, .inl (cy 0, 24, .inl (fun _ => 0))), (g 4, .inl (cy 0, 36, .inl (fun _ => 0))), (g 5, .inl (cy 0, 48, .inl (fun _ => 0))), (g 6, .inr (7, [.ref (g 7), .int 0, .ref (g 8), .int 0, .ref (g 9), .ref (g 10)])), (g 7, .inl (cy 0, 40, .inl (fun _ => 0))), (g 8, .inl (cy 0, 40, .inl (fun _ => 0))), (g 9, .inl (cy 0, 40, .inl (fun _ => 0))), (g 10, .inl (cy 0, 8, .inl (fun _ => 0))), (g 11, .inl (cy 0, 80, .inl (fun _ => 0))), (g 12, .inl (cy 0, 8, .inl (fun _ => 0))), (g 13, .inl (cy 0, 8, .inl (fun _ => 0)))]
set_option maxRecDepth 100000 in
set_option maxHeartbeats 8000000 in
theorem c_X1 (l : Launch) (D : va_G) (cy : Nat → ClassId) (ws0 : va_W) (h0 : Nat) : bMt l 4 14 362 mX1_init [.ref h0] (ws0 ++ [(h0, .inr (1, [.null, .null, .null, .int 0, .null, .null, .int 0, .null, .int 0, .int 0, .null, .null, .null, .null]))]) (fun g => ws0 ++ y_X1 cy h0 g) D cy := by
  refine bMt_of (by decide) rfl rfl (Nat.le_of_ble_eq_true rfl) ?_
  intro p e R s m args below meth c A ls hR1 hR2 hB hlocks hin hr hP hD hl
  have hl : lv_has ls 1 [(0, .ref h0)] := hl
  have hx := hB.1
  have hb := hB.2.1
  have hts := hB.2.2.2.2.1
  have hRR := hB.2.2.2.2.2.1
  have hin : meth.name = "<init>" := hin
  have hS : va_S A s.heap s.heap [] := va_S.rf
  refine lv_aload_n hx hb dX1_init_0 rfl (lv_at hl 0 rfl) ?_
  refine bobj hB hl.1 (by decide) OL_X1 OI OC dX1_init_1 rfl ?_
  refine lv_aload_n hx hb dX1_init_4 rfl (lv_at hl 0 rfl) ?_
  refine lv_bipush (v := 8) hx hb dX1_init_5 (by decide) ?_
  refine bnewa (atype := .int) (ty := .int) (t := 0) (N := 8) (a0 := (8, .inl (fun _ => 0))) (cells' := 1) (slots' := 8) (ws1 := fun q1 => ws0 ++ [(h0, .inr (1, [.null, .null, .null, .int 0, .null, .null, .int 0, .null, .int 0, .int 0, .null, .null, .null, .null])), (q1, .inl (cy 0, 8, .inl (fun _ => 0)))]) hB hP hD hS rfl AC_0 rfl RA_0 (fun _ => rfl) (by decide) (by decide) (by decide) dX1_init_7 rfl rfl ⟨by omega, by omega⟩ rfl (fun _ => List.append_assoc _ _ _) (fun q1 H hP hD hS => ?_)
  refine bput (C := RX1) (T := TX1) (N := 14) (ci := 1) (k0 := 0) (k := 0) (v := .ref q1) (ty := tyX1 0) (ys' := [(h0, .inr (1, [.ref q1, .null, .null, .int 0, .null, .null, .int 0, .null, .int 0, .int 0, .null, .null, .null, .null])), (q1, .inl (cy 0, 8, .inl (fun _ => 0)))]) hB hin hP hD hS rfl rfl inT1 tyX1 tyX1_ok nmX1 (by decide) rfl FB_X1_11 (.inr ⟨rfl, rfl⟩) (tyX1_ok 0 (by decide)) rfl rfl (Nat.le_of_ble_eq_true rfl) dX1_init_9 rfl rfl (fun H locs hP hD hS => ?_)
  refine lv_aload_n hx hb dX1_init_12 rfl (lv_at hl 0 rfl) ?_
  refine lv_bipush (v := 8) hx hb dX1_init_13 (by decide) ?_
  refine bnewa (atype := .int) (ty := .int) (t := 0) (N := 8) (a0 := (8, .inl (fun _ => 0))) (cells' := 2) (slots' := 16) (ws1 := fun q2 => ws0 ++ [(h0, .inr (1, [.ref q1, .null, .null, .int 0, .null, .null, .int 0, .null, .int 0, .int 0, .null, .null, .null, .null])), (q1, .inl (cy 0, 8, .inl (fun _ => 0))), (q2, .inl (cy 0, 8, .inl (fun _ => 0)))]) hB hP hD hS rfl AC_0 rfl RA_0 (fun _ => rfl) (by decide) (by decide) (by decide) dX1_init_15 rfl rfl ⟨by omega, by omega⟩ rfl (fun _ => List.append_assoc _ _ _) (fun q2 H hP hD hS => ?_)
  refine bput (C := RX1) (T := TX1) (N := 14) (ci := 1) (k0 := 0) (k := 1) (v := .ref q2) (ty := tyX1 1) (ys' := [(h0, .inr (1, [.ref q1, .ref q2, .null, .int 0, .null, .null, .int 0, .null, .int 0, .int 0, .null, .null, .null, .null])), (q1, .inl (cy 0, 8, .inl (fun _ => 0))), (q2, .inl (cy 0, 8, .inl (fun _ => 0)))]) hB hin hP hD hS rfl rfl inT1 tyX1 tyX1_ok nmX1 (by decide) rfl FB_X1_15 (.inr ⟨rfl, rfl⟩) (tyX1_ok 1 (by decide)) rfl rfl (Nat.le_of_ble_eq_true rfl) dX1_init_17 rfl rfl (fun H locs hP hD hS => ?_)
  refine lv_aload_n hx hb dX1_init_20 rfl (lv_at hl 0 rfl) ?_
  refine lv_bipush (v := 8) hx hb dX1_init_21 (by decide) ?_
  refine bnewa (atype := .int) (ty := .int) (t := 0) (N := 8) (a0 := (8, .inl (fun _ => 0))) (cells' := 3) (slots' := 24) (ws1 := fun q3 => ws0 ++ [(h0, .inr (1, [.ref q1, .ref q2, .null, .int 0, .null, .null, .int 0, .null, .int 0, .int 0, .null, .null, .null, .null])), (q1, .inl (cy 0, 8, .inl (fun _ => 0))), (q2, .inl (cy 0, 8, .inl (fun _ => 0))), (q3, .inl (cy 0, 8, .inl (fun _ => 0)))]) hB hP hD hS rfl AC_0 rfl RA_0 (fun _ => rfl) (by decide) (by decide) (by decide) dX1_init_23 rfl rfl ⟨by omega, by omega⟩ rfl (fun _ => List.append_assoc _ _ _) (fun q3 H hP hD hS => ?_)
  refine bput (C := RX1) (T := TX1) (N := 14) (ci := 1) (k0 := 0) (k := 2) (v := .ref q3) (ty := tyX1 2) (ys' := [(h0, .inr (1, [.ref q1, .ref q2, .ref q3, .int 0, .null, .null, .int 0, .null, .int 0, .int 0, .null, .null, .null, .null])), (q1, .inl (cy 0, 8, .inl (fun _ => 0))), (q2, .inl (cy 0, 8, .inl (fun _ => 0))), (q3, .inl (cy 0, 8, .inl (fun _ => 0)))]) hB hin hP hD hS rfl rfl inT1 tyX1 tyX1_ok nmX1 (by decide) rfl FB_X1_18 (.inr ⟨rfl, rfl⟩) (tyX1_ok 2 (by decide)) rfl rfl (Nat.le_of_ble_eq_true rfl) dX1_init_25 rfl rfl (fun H locs hP hD hS => ?_)
  refine lv_aload_n hx hb dX1_init_28 rfl (lv_at hl 0 rfl) ?_
  refine lv_bipush (v := 24) hx hb dX1_init_29 (by decide) ?_
  refine bnewa (atype := .int) (ty := .int) (t := 0) (N := 24) (a0 := (24, .inl (fun _ => 0))) (cells' := 4) (slots' := 48) (ws1 := fun q4 => ws0 ++ [(h0, .inr (1, [.ref q1, .ref q2, .ref q3, .int 0, .null, .null, .int 0, .null, .int 0, .int 0, .null, .null, .null, .null])), (q1, .inl (cy 0, 8, .inl (fun _ => 0))), (q2, .inl (cy 0, 8, .inl (fun _ => 0))), (q3, .inl (cy 0, 8, .inl (fun _ => 0))), (q4, .inl (cy 0, 24, .inl (fun _ => 0)))]) hB hP hD hS rfl AC_0 rfl RA_0 (fun _ => rfl) (by decide) (by decide) (by decide) dX1_init_31 rfl rfl ⟨by omega, by omega⟩ rfl (fun _ => List.append_assoc _ _ _) (fun q4 H hP hD hS => ?_)
  refine bput (C := RX1) (T := TX1) (N := 14) (ci := 1) (k0 := 0) (k := 4) (v := .ref q4) (ty := tyX1 4) (ys' := [(h0, .inr (1, [.ref q1, .ref q2, .ref q3, .int 0, .ref q4, .null, .int 0, .null, .int 0, .int 0, .null, .null, .null, .null])), (q1, .inl (cy 0, 8, .inl (fun _ => 0))), (q2, .inl (cy 0, 8, .inl (fun _ => 0))), (q3, .inl (cy 0, 8, .inl (fun _ => 0))), (q4, .inl (cy 0, 24, .inl (fun _ => 0)))]) hB hin hP hD hS rfl rfl inT1 tyX1 tyX1_ok nmX1 (by decide) rfl FB_X1_21 (.inr ⟨rfl, rfl⟩) (tyX1_ok 4 (by decide)) rfl rfl (Nat.le_of_ble_eq_true rfl) dX1_init_33 rfl rfl (fun H locs hP hD hS => ?_)
  refine lv_aload_n hx hb dX1_init_36 rfl (lv_at hl 0 rfl) ?_
  refine lv_bipush (v := 36) hx hb dX1_init_37 (by decide) ?_
  refine bnewa (atype := .int) (ty := .int) (t := 0) (N := 36) (a0 := (36, .inl (fun _ => 0))) (cells' := 5) (slots' := 84) (ws1 := fun q5 => ws0 ++ [(h0, .inr (1, [.ref q1, .ref q2, .ref q3, .int 0, .ref q4, .null, .int 0, .null, .int 0, .int 0, .null, .null, .null, .null])), (q1, .inl (cy 0, 8, .inl (fun _ => 0))), (q2, .inl (cy 0, 8, .inl (fun _ => 0))), (q3, .inl (cy 0, 8, .inl (fun _ => 0))), (q4, .inl (cy 0, 24, .inl (fun _ => 0))), (q5, .inl (cy 0, 36, .inl (fun _ => 0)))]) hB hP hD hS rfl AC_0 rfl RA_0 (fun _ => rfl) (by decide) (by decide) (by decide) dX1_init_39 rfl rfl ⟨by omega, by omega⟩ rfl (fun _ => List.append_assoc _ _ _) (fun q5 H hP hD hS => ?_)
  refine bput (C := RX1) (T := TX1) (N := 14) (ci := 1) (k0 := 0) (k := 5) (v := .ref q5) (ty := tyX1 5) (ys' := [(h0, .inr (1, [.ref q1, .ref q2, .ref q3, .int 0, .ref q4, .ref q5, .int 0, .null, .int 0, .int 0, .null, .null, .null, .null])), (q1, .inl (cy 0, 8, .inl (fun _ => 0))), (q2, .inl (cy 0, 8, .inl (fun _ => 0))), (q3, .inl (cy 0, 8, .inl (fun _ => 0))), (q4, .inl (cy 0, 24, .inl (fun _ => 0))), (q5, .inl (cy 0, 36, .inl (fun _ => 0)))]) hB hin hP hD hS rfl rfl inT1 tyX1 tyX1_ok nmX1 (by decide) rfl FB_X1_24 (.inr ⟨rfl, rfl⟩) (tyX1_ok 5 (by decide)) rfl rfl (Nat.le_of_ble_eq_true rfl) dX1_init_41 rfl rfl (fun H locs hP hD hS => ?_)
  refine lv_aload_n hx hb dX1_init_44 rfl (lv_at hl 0 rfl) ?_
  refine lv_bipush (v := 48) hx hb dX1_init_45 (by decide) ?_
  refine bnewa (atype := .int) (ty := .int) (t := 0) (N := 48) (a0 := (48, .inl (fun _ => 0))) (cells' := 6) (slots' := 132) (ws1 := fun q6 => ws0 ++ [(h0, .inr (1, [.ref q1, .ref q2, .ref q3, .int 0, .ref q4, .ref q5, .int 0, .null, .int 0, .int 0, .null, .null, .null, .null])), (q1, .inl (cy 0, 8, .inl (fun _ => 0))), (q2, .inl (cy 0, 8, .inl (fun _ => 0))), (q3, .inl (cy 0, 8, .inl (fun _ => 0))), (q4, .inl (cy 0, 24, .inl (fun _ => 0))), (q5, .inl (cy 0, 36, .inl (fun _ => 0))), (q6, .inl (cy 0, 48, .inl (fun _ => 0)))]) hB hP hD hS rfl AC_0 rfl RA_0 (fun _ => rfl) (by decide) (by decide) (by decide) dX1_init_47 rfl rfl ⟨by omega, by omega⟩ rfl (fun _ => List.append_assoc _ _ _) (fun q6 H hP hD hS => ?_)
  refine bput (C := RX1) (T := TX1) (N := 14) (ci := 1) (k0 := 0) (k := 7) (v := .ref q6) (ty := tyX1 7) (ys' := [(h0, .inr (1, [.ref q1, .ref q2, .ref q3, .int 0, .ref q4, .ref q5, .int 0, .ref q6, .int 0, .int 0, .null, .null, .null, .null])), (q1, .inl (cy 0, 8, .inl (fun _ => 0))), (q2, .inl (cy 0, 8, .inl (fun _ => 0))), (q3, .inl (cy 0, 8, .inl (fun _ => 0))), (q4, .inl (cy 0, 24, .inl (fun _ => 0))), (q5, .inl (cy 0, 36, .inl (fun _ => 0))), (q6, .inl (cy 0, 48, .inl (fun _ => 0)))]) hB hin hP hD hS rfl rfl inT1 tyX1 tyX1_ok nmX1 (by decide) rfl FB_X1_27 (.inr ⟨rfl, rfl⟩) (tyX1_ok 7 (by decide)) rfl rfl (Nat.le_of_ble_eq_true rfl) dX1_init_49 rfl rfl (fun H locs hP hD hS => ?_)
  refine lv_aload_n hx hb dX1_init_52 rfl (lv_at hl 0 rfl) ?_
  refine lv_sipush (v := 600) hx hb dX1_init_53 (by decide) ?_
  refine bput (C := RX1) (T := TX1) (N := 14) (ci := 1) (k0 := 0) (k := 9) (v := .int 600) (ty := tyX1 9) (ys' := [(h0, .inr (1, [.ref q1, .ref q2, .ref q3, .int 0, .ref q4, .ref q5, .int 0, .ref q6, .int 0, .int 600, .null, .null, .null, .null])), (q1, .inl (cy 0, 8, .inl (fun _ => 0))), (q2, .inl (cy 0, 8, .inl (fun _ => 0))), (q3, .inl (cy 0, 8, .inl (fun _ => 0))), (q4, .inl (cy 0, 24, .inl (fun _ => 0))), (q5, .inl (cy 0, 36, .inl (fun _ => 0))), (q6, .inl (cy 0, 48, .inl (fun _ => 0)))]) hB hin hP hD hS rfl rfl inT1 tyX1 tyX1_ok nmX1 (by decide) rfl FB_X1_30 (.inl rfl) (tyX1_ok 9 (by decide)) rfl rfl (Nat.le_of_ble_eq_true rfl) dX1_init_56 rfl rfl (fun H locs hP hD hS => ?_)
  refine lv_aload_n hx hb dX1_init_59 rfl (lv_at hl 0 rfl) ?_
  refine bnew (C := RX7) (T := TX7) (N := 6) (ci := 7) (fs := [.null, .int 0, .null, .int 0, .null, .null]) (cells' := 7) (slots' := 138) (ws1 := fun q7 => ws0 ++ [(h0, .inr (1, [.ref q1, .ref q2, .ref q3, .int 0, .ref q4, .ref q5, .int 0, .ref q6, .int 0, .int 600, .null, .null, .null, .null])), (q1, .inl (cy 0, 8, .inl (fun _ => 0))), (q2, .inl (cy 0, 8, .inl (fun _ => 0))), (q3, .inl (cy 0, 8, .inl (fun _ => 0))), (q4, .inl (cy 0, 24, .inl (fun _ => 0))), (q5, .inl (cy 0, 36, .inl (fun _ => 0))), (q6, .inl (cy 0, 48, .inl (fun _ => 0))), (q7, .inr (7, [.null, .int 0, .null, .int 0, .null, .null]))]) hB hP hD hS rfl inT7 tyX7 tyX7_ok CL_X1_34 IN_X7 II_X7 (fun j hj => match j, hj with | 0, _ => rfl | 1, _ => rfl | 2, _ => rfl | 3, _ => rfl | 4, _ => rfl | 5, _ => rfl | j + 6, h => absurd h (by omega)) dX1_init_60 rfl rfl ⟨by omega, by omega⟩ rfl (fun _ => List.append_assoc _ _ _) (fun q7 H hP hD hS => ?_)
  refine lv_dup hx hb dX1_init_63 rfl ?_
  have hP2 : va_P D zcl ((ws0 ++ [(h0, .inr (1, [.ref q1, .ref q2, .ref q3, .int 0, .ref q4, .ref q5, .int 0, .ref q6, .int 0, .int 600, .null, .null, .null, .null])), (q1, .inl (cy 0, 8, .inl (fun _ => 0))), (q2, .inl (cy 0, 8, .inl (fun _ => 0))), (q3, .inl (cy 0, 8, .inl (fun _ => 0))), (q4, .inl (cy 0, 24, .inl (fun _ => 0))), (q5, .inl (cy 0, 36, .inl (fun _ => 0))), (q6, .inl (cy 0, 48, .inl (fun _ => 0)))]) ++ [(q7, .inr (7, [.null, .int 0, .null, .int 0, .null, .null]))]) H := by rw [List.append_assoc]; exact hP
  have hD2 : va_D A ((ws0 ++ [(h0, .inr (1, [.ref q1, .ref q2, .ref q3, .int 0, .ref q4, .ref q5, .int 0, .ref q6, .int 0, .int 600, .null, .null, .null, .null])), (q1, .inl (cy 0, 8, .inl (fun _ => 0))), (q2, .inl (cy 0, 8, .inl (fun _ => 0))), (q3, .inl (cy 0, 8, .inl (fun _ => 0))), (q4, .inl (cy 0, 24, .inl (fun _ => 0))), (q5, .inl (cy 0, 36, .inl (fun _ => 0))), (q6, .inl (cy 0, 48, .inl (fun _ => 0)))]) ++ [(q7, .inr (7, [.null, .int 0, .null, .int 0, .null, .null]))]) := by rw [List.append_assoc]; exact hD
  refine bcallI (yi := mX7_init) (as := []) (rest := [.ref q7, .ref h0]) (cells' := 11) (slots' := 266) hB hP2 hD2 hS hl.1 (c_X7 l D cy (ws0 ++ [(h0, .inr (1, [.ref q1, .ref q2, .ref q3, .int 0, .ref q4, .ref q5, .int 0, .ref q6, .int 0, .int 600, .null, .null, .null, .null])), (q1, .inl (cy 0, 8, .inl (fun _ => 0))), (q2, .inl (cy 0, 8, .inl (fun _ => 0))), (q3, .inl (cy 0, 8, .inl (fun _ => 0))), (q4, .inl (cy 0, 24, .inl (fun _ => 0))), (q5, .inl (cy 0, 36, .inl (fun _ => 0))), (q6, .inl (cy 0, 48, .inl (fun _ => 0)))]) q7) dX1_init_64 MB_X1_36 IM_X7 II_X7 CI_X7 ⟨by decide, by decide, by decide⟩ (by decide) rfl rfl rfl (by decide) (Nat.le_of_ble_eq_true rfl) rfl rfl rfl ⟨by omega, by omega⟩ rfl (fun g8 H locs hP hD hS => ?_)
  rw [List.append_assoc] at hP hD
  have hP : va_P D zcl (ws0 ++ [(h0, .inr (1, [.ref q1, .ref q2, .ref q3, .int 0, .ref q4, .ref q5, .int 0, .ref q6, .int 0, .int 600, .null, .null, .null, .null])), (q1, .inl (cy 0, 8, .inl (fun _ => 0))), (q2, .inl (cy 0, 8, .inl (fun _ => 0))), (q3, .inl (cy 0, 8, .inl (fun _ => 0))), (q4, .inl (cy 0, 24, .inl (fun _ => 0))), (q5, .inl (cy 0, 36, .inl (fun _ => 0))), (q6, .inl (cy 0, 48, .inl (fun _ => 0))), (q7, .inr (7, [.ref (g8 0), .int 0, .ref (g8 1), .int 0, .ref (g8 2), .ref (g8 3)])), ((g8 0), .inl (cy 0, 40, .inl (fun _ => 0))), ((g8 1), .inl (cy 0, 40, .inl (fun _ => 0))), ((g8 2), .inl (cy 0, 40, .inl (fun _ => 0))), ((g8 3), .inl (cy 0, 8, .inl (fun _ => 0)))]) H := hP
  have hD : va_D A (ws0 ++ [(h0, .inr (1, [.ref q1, .ref q2, .ref q3, .int 0, .ref q4, .ref q5, .int 0, .ref q6, .int 0, .int 600, .null, .null, .null, .null])), (q1, .inl (cy 0, 8, .inl (fun _ => 0))), (q2, .inl (cy 0, 8, .inl (fun _ => 0))), (q3, .inl (cy 0, 8, .inl (fun _ => 0))), (q4, .inl (cy 0, 24, .inl (fun _ => 0))), (q5, .inl (cy 0, 36, .inl (fun _ => 0))), (q6, .inl (cy 0, 48, .inl (fun _ => 0))), (q7, .inr (7, [.ref (g8 0), .int 0, .ref (g8 1), .int 0, .ref (g8 2), .ref (g8 3)])), ((g8 0), .inl (cy 0, 40, .inl (fun _ => 0))), ((g8 1), .inl (cy 0, 40, .inl (fun _ => 0))), ((g8 2), .inl (cy 0, 40, .inl (fun _ => 0))), ((g8 3), .inl (cy 0, 8, .inl (fun _ => 0)))]) := hD
  refine bput (C := RX1) (T := TX1) (N := 14) (ci := 1) (k0 := 0) (k := 10) (v := .ref q7) (ty := tyX1 10) (ys' := [(h0, .inr (1, [.ref q1, .ref q2, .ref q3, .int 0, .ref q4, .ref q5, .int 0, .ref q6, .int 0, .int 600, .ref q7, .null, .null, .null])), (q1, .inl (cy 0, 8, .inl (fun _ => 0))), (q2, .inl (cy 0, 8, .inl (fun _ => 0))), (q3, .inl (cy 0, 8, .inl (fun _ => 0))), (q4, .inl (cy 0, 24, .inl (fun _ => 0))), (q5, .inl (cy 0, 36, .inl (fun _ => 0))), (q6, .inl (cy 0, 48, .inl (fun _ => 0))), (q7, .inr (7, [.ref (g8 0), .int 0, .ref (g8 1), .int 0, .ref (g8 2), .ref (g8 3)])), ((g8 0), .inl (cy 0, 40, .inl (fun _ => 0))), ((g8 1), .inl (cy 0, 40, .inl (fun _ => 0))), ((g8 2), .inl (cy 0, 40, .inl (fun _ => 0))), ((g8 3), .inl (cy 0, 8, .inl (fun _ => 0)))]) hB hin hP hD hS rfl rfl inT1 tyX1 tyX1_ok nmX1 (by decide) rfl FB_X1_37 (.inr ⟨rfl, rfl⟩) (tyX1_ok 10 (by decide)) rfl rfl (Nat.le_of_ble_eq_true rfl) dX1_init_67 rfl rfl (fun H locs hP hD hS => ?_)
  refine lv_aload_n hx hb dX1_init_70 rfl (lv_at hl 0 rfl) ?_
  refine lv_bipush (v := 80) hx hb dX1_init_71 (by decide) ?_
  refine bnewa (atype := .int) (ty := .int) (t := 0) (N := 80) (a0 := (80, .inl (fun _ => 0))) (cells' := 12) (slots' := 346) (ws1 := fun q9 => ws0 ++ [(h0, .inr (1, [.ref q1, .ref q2, .ref q3, .int 0, .ref q4, .ref q5, .int 0, .ref q6, .int 0, .int 600, .ref q7, .null, .null, .null])), (q1, .inl (cy 0, 8, .inl (fun _ => 0))), (q2, .inl (cy 0, 8, .inl (fun _ => 0))), (q3, .inl (cy 0, 8, .inl (fun _ => 0))), (q4, .inl (cy 0, 24, .inl (fun _ => 0))), (q5, .inl (cy 0, 36, .inl (fun _ => 0))), (q6, .inl (cy 0, 48, .inl (fun _ => 0))), (q7, .inr (7, [.ref (g8 0), .int 0, .ref (g8 1), .int 0, .ref (g8 2), .ref (g8 3)])), ((g8 0), .inl (cy 0, 40, .inl (fun _ => 0))), ((g8 1), .inl (cy 0, 40, .inl (fun _ => 0))), ((g8 2), .inl (cy 0, 40, .inl (fun _ => 0))), ((g8 3), .inl (cy 0, 8, .inl (fun _ => 0))), (q9, .inl (cy 0, 80, .inl (fun _ => 0)))]) hB hP hD hS rfl AC_0 rfl RA_0 (fun _ => rfl) (by decide) (by decide) (by decide) dX1_init_73 rfl rfl ⟨by omega, by omega⟩ rfl (fun _ => List.append_assoc _ _ _) (fun q9 H hP hD hS => ?_)
  refine bput (C := RX1) (T := TX1) (N := 14) (ci := 1) (k0 := 0) (k := 11) (v := .ref q9) (ty := tyX1 11) (ys' := [(h0, .inr (1, [.ref q1, .ref q2, .ref q3, .int 0, .ref q4, .ref q5, .int 0, .ref q6, .int 0, .int 600, .ref q7, .ref q9, .null, .null])), (q1, .inl (cy 0, 8, .inl (fun _ => 0))), (q2, .inl (cy 0, 8, .inl (fun _ => 0))), (q3, .inl (cy 0, 8, .inl (fun _ => 0))), (q4, .inl (cy 0, 24, .inl (fun _ => 0))), (q5, .inl (cy 0, 36, .inl (fun _ => 0))), (q6, .inl (cy 0, 48, .inl (fun _ => 0))), (q7, .inr (7, [.ref (g8 0), .int 0, .ref (g8 1), .int 0, .ref (g8 2), .ref (g8 3)])), ((g8 0), .inl (cy 0, 40, .inl (fun _ => 0))), ((g8 1), .inl (cy 0, 40, .inl (fun _ => 0))), ((g8 2), .inl (cy 0, 40, .inl (fun _ => 0))), ((g8 3), .inl (cy 0, 8, .inl (fun _ => 0))), (q9, .inl (cy 0, 80, .inl (fun _ => 0)))]) hB hin hP hD hS rfl rfl inT1 tyX1 tyX1_ok nmX1 (by decide) rfl FB_X1_41 (.inr ⟨rfl, rfl⟩) (tyX1_ok 11 (by decide)) rfl rfl (Nat.le_of_ble_eq_true rfl) dX1_init_75 rfl rfl (fun H locs hP hD hS => ?_)
  refine lv_aload_n hx hb dX1_init_78 rfl (lv_at hl 0 rfl) ?_
  refine lv_bipush (v := 8) hx hb dX1_init_79 (by decide) ?_
  refine bnewa (atype := .int) (ty := .int) (t := 0) (N := 8) (a0 := (8, .inl (fun _ => 0))) (cells' := 13) (slots' := 354) (ws1 := fun q10 => ws0 ++ [(h0, .inr (1, [.ref q1, .ref q2, .ref q3, .int 0, .ref q4, .ref q5, .int 0, .ref q6, .int 0, .int 600, .ref q7, .ref q9, .null, .null])), (q1, .inl (cy 0, 8, .inl (fun _ => 0))), (q2, .inl (cy 0, 8, .inl (fun _ => 0))), (q3, .inl (cy 0, 8, .inl (fun _ => 0))), (q4, .inl (cy 0, 24, .inl (fun _ => 0))), (q5, .inl (cy 0, 36, .inl (fun _ => 0))), (q6, .inl (cy 0, 48, .inl (fun _ => 0))), (q7, .inr (7, [.ref (g8 0), .int 0, .ref (g8 1), .int 0, .ref (g8 2), .ref (g8 3)])), ((g8 0), .inl (cy 0, 40, .inl (fun _ => 0))), ((g8 1), .inl (cy 0, 40, .inl (fun _ => 0))), ((g8 2), .inl (cy 0, 40, .inl (fun _ => 0))), ((g8 3), .inl (cy 0, 8, .inl (fun _ => 0))), (q9, .inl (cy 0, 80, .inl (fun _ => 0))), (q10, .inl (cy 0, 8, .inl (fun _ => 0)))]) hB hP hD hS rfl AC_0 rfl RA_0 (fun _ => rfl) (by decide) (by decide) (by decide) dX1_init_81 rfl rfl ⟨by omega, by omega⟩ rfl (fun _ => List.append_assoc _ _ _) (fun q10 H hP hD hS => ?_)
  refine bput (C := RX1) (T := TX1) (N := 14) (ci := 1) (k0 := 0) (k := 12) (v := .ref q10) (ty := tyX1 12) (ys' := [(h0, .inr (1, [.ref q1, .ref q2, .ref q3, .int 0, .ref q4, .ref q5, .int 0, .ref q6, .int 0, .int 600, .ref q7, .ref q9, .ref q10, .null])), (q1, .inl (cy 0, 8, .inl (fun _ => 0))), (q2, .inl (cy 0, 8, .inl (fun _ => 0))), (q3, .inl (cy 0, 8, .inl (fun _ => 0))), (q4, .inl (cy 0, 24, .inl (fun _ => 0))), (q5, .inl (cy 0, 36, .inl (fun _ => 0))), (q6, .inl (cy 0, 48, .inl (fun _ => 0))), (q7, .inr (7, [.ref (g8 0), .int 0, .ref (g8 1), .int 0, .ref (g8 2), .ref (g8 3)])), ((g8 0), .inl (cy 0, 40, .inl (fun _ => 0))), ((g8 1), .inl (cy 0, 40, .inl (fun _ => 0))), ((g8 2), .inl (cy 0, 40, .inl (fun _ => 0))), ((g8 3), .inl (cy 0, 8, .inl (fun _ => 0))), (q9, .inl (cy 0, 80, .inl (fun _ => 0))), (q10, .inl (cy 0, 8, .inl (fun _ => 0)))]) hB hin hP hD hS rfl rfl inT1 tyX1 tyX1_ok nmX1 (by decide) rfl FB_X1_44 (.inr ⟨rfl, rfl⟩) (tyX1_ok 12 (by decide)) rfl rfl (Nat.le_of_ble_eq_true rfl) dX1_init_83 rfl rfl (fun H locs hP hD hS => ?_)
  refine lv_aload_n hx hb dX1_init_86 rfl (lv_at hl 0 rfl) ?_
  refine lv_bipush (v := 8) hx hb dX1_init_87 (by decide) ?_
  refine bnewa (atype := .int) (ty := .int) (t := 0) (N := 8) (a0 := (8, .inl (fun _ => 0))) (cells' := 14) (slots' := 362) (ws1 := fun q11 => ws0 ++ [(h0, .inr (1, [.ref q1, .ref q2, .ref q3, .int 0, .ref q4, .ref q5, .int 0, .ref q6, .int 0, .int 600, .ref q7, .ref q9, .ref q10, .null])), (q1, .inl (cy 0, 8, .inl (fun _ => 0))), (q2, .inl (cy 0, 8, .inl (fun _ => 0))), (q3, .inl (cy 0, 8, .inl (fun _ => 0))), (q4, .inl (cy 0, 24, .inl (fun _ => 0))), (q5, .inl (cy 0, 36, .inl (fun _ => 0))), (q6, .inl (cy 0, 48, .inl (fun _ => 0))), (q7, .inr (7, [.ref (g8 0), .int 0, .ref (g8 1), .int 0, .ref (g8 2), .ref (g8 3)])), ((g8 0), .inl (cy 0, 40, .inl (fun _ => 0))), ((g8 1), .inl (cy 0, 40, .inl (fun _ => 0))), ((g8 2), .inl (cy 0, 40, .inl (fun _ => 0))), ((g8 3), .inl (cy 0, 8, .inl (fun _ => 0))), (q9, .inl (cy 0, 80, .inl (fun _ => 0))), (q10, .inl (cy 0, 8, .inl (fun _ => 0))), (q11, .inl (cy 0, 8, .inl (fun _ => 0)))]) hB hP hD hS rfl AC_0 rfl RA_0 (fun _ => rfl) (by decide) (by decide) (by decide) dX1_init_89 rfl rfl ⟨by omega, by omega⟩ rfl (fun _ => List.append_assoc _ _ _) (fun q11 H hP hD hS => ?_)
  refine bput (C := RX1) (T := TX1) (N := 14) (ci := 1) (k0 := 0) (k := 13) (v := .ref q11) (ty := tyX1 13) (ys' := [(h0, .inr (1, [.ref q1, .ref q2, .ref q3, .int 0, .ref q4, .ref q5, .int 0, .ref q6, .int 0, .int 600, .ref q7, .ref q9, .ref q10, .ref q11])), (q1, .inl (cy 0, 8, .inl (fun _ => 0))), (q2, .inl (cy 0, 8, .inl (fun _ => 0))), (q3, .inl (cy 0, 8, .inl (fun _ => 0))), (q4, .inl (cy 0, 24, .inl (fun _ => 0))), (q5, .inl (cy 0, 36, .inl (fun _ => 0))), (q6, .inl (cy 0, 48, .inl (fun _ => 0))), (q7, .inr (7, [.ref (g8 0), .int 0, .ref (g8 1), .int 0, .ref (g8 2), .ref (g8 3)])), ((g8 0), .inl (cy 0, 40, .inl (fun _ => 0))), ((g8 1), .inl (cy 0, 40, .inl (fun _ => 0))), ((g8 2), .inl (cy 0, 40, .inl (fun _ => 0))), ((g8 3), .inl (cy 0, 8, .inl (fun _ => 0))), (q9, .inl (cy 0, 80, .inl (fun _ => 0))), (q10, .inl (cy 0, 8, .inl (fun _ => 0))), (q11, .inl (cy 0, 8, .inl (fun _ => 0)))]) hB hin hP hD hS rfl rfl inT1 tyX1 tyX1_ok nmX1 (by decide) rfl FB_X1_47 (.inr ⟨rfl, rfl⟩) (tyX1_ok 13 (by decide)) rfl rfl (Nat.le_of_ble_eq_true rfl) dX1_init_91 rfl rfl (fun H locs hP hD hS => ?_)
  exact W.vret hx hb hr (fun t ht _ => ⟨rfl, ⟨fun j => [q1, q2, q3, q4, q5, q6, q7, (g8 0), (g8 1), (g8 2), (g8 3), q9, q10, q11].getD j 0, by rw [ht]; exact hP, hD⟩, hS.F ht⟩) hS.2.2 dX1_init_94 hlocks
def mX10_init : zM := (RX10, yX10_init, cX10_init, 1, none)
def y_X10 (cy : Nat → ClassId) (h0 : Nat) (g : Nat → Nat) : va_W := [(h0, .inr (10, [.ref (g 0), .ref (g 1), .ref (g 2), .ref (g 3), .int 0, .ref (g 4), .ref (g 5)])), (g 0, .inl (cy 0, 12, .inl (fun _ => 0))), (g 1, .inl (cy 0, 12, .inl (fun _ => 0))), (g 2, .inl (cy 0, 12, .inl (fun _ => 0))), (g 3, .inl (cy 0, 12, .inl (fun _ => 0))), (g 4, .inl (cy 0, 6, .inl (upd (upd (upd (upd (upd (upd (fun _ => 0) 0 50) 1 30) 2 20) 3 10) 4 5) 5 5))), (g 5, .inl (cy 0, 6, .inl (fun _ => 0)))]
set_option maxRecDepth 100000 in
set_option maxHeartbeats 8000000 in
theorem c_X10 (l : Launch) (D : va_G) (cy : Nat → ClassId) (ws0 : va_W) (h0 : Nat) : bMt l 2 6 60 mX10_init [.ref h0] (ws0 ++ [(h0, .inr (10, [.null, .null, .null, .null, .int 0, .null, .null]))]) (fun g => ws0 ++ y_X10 cy h0 g) D cy := by
  refine bMt_of (by decide) rfl rfl (Nat.le_of_ble_eq_true rfl) ?_
  intro p e R s m args below meth c A ls hR1 hR2 hB hlocks hin hr hP hD hl
  have hl : lv_has ls 1 [(0, .ref h0)] := hl
  have hx := hB.1
  have hb := hB.2.1
  have hts := hB.2.2.2.2.1
  have hRR := hB.2.2.2.2.2.1
  have hin : meth.name = "<init>" := hin
  have hS : va_S A s.heap s.heap [] := va_S.rf
  refine lv_aload_n hx hb dX10_init_0 rfl (lv_at hl 0 rfl) ?_
  refine bobj hB hl.1 (by decide) OL_X10 OI OC dX10_init_1 rfl ?_
  refine lv_aload_n hx hb dX10_init_4 rfl (lv_at hl 0 rfl) ?_
  refine lv_bipush (v := 12) hx hb dX10_init_5 (by decide) ?_
  refine bnewa (atype := .int) (ty := .int) (t := 0) (N := 12) (a0 := (12, .inl (fun _ => 0))) (cells' := 1) (slots' := 12) (ws1 := fun q1 => ws0 ++ [(h0, .inr (10, [.null, .null, .null, .null, .int 0, .null, .null])), (q1, .inl (cy 0, 12, .inl (fun _ => 0)))]) hB hP hD hS rfl AC_0 rfl RA_0 (fun _ => rfl) (by decide) (by decide) (by decide) dX10_init_7 rfl rfl ⟨by omega, by omega⟩ rfl (fun _ => List.append_assoc _ _ _) (fun q1 H hP hD hS => ?_)
  refine bput (C := RX10) (T := TX10) (N := 7) (ci := 10) (k0 := 0) (k := 0) (v := .ref q1) (ty := tyX10 0) (ys' := [(h0, .inr (10, [.ref q1, .null, .null, .null, .int 0, .null, .null])), (q1, .inl (cy 0, 12, .inl (fun _ => 0)))]) hB hin hP hD hS rfl rfl inT10 tyX10 tyX10_ok nmX10 (by decide) rfl FB_X10_9 (.inr ⟨rfl, rfl⟩) (tyX10_ok 0 (by decide)) rfl rfl (Nat.le_of_ble_eq_true rfl) dX10_init_9 rfl rfl (fun H locs hP hD hS => ?_)
  refine lv_aload_n hx hb dX10_init_12 rfl (lv_at hl 0 rfl) ?_
  refine lv_bipush (v := 12) hx hb dX10_init_13 (by decide) ?_
  refine bnewa (atype := .int) (ty := .int) (t := 0) (N := 12) (a0 := (12, .inl (fun _ => 0))) (cells' := 2) (slots' := 24) (ws1 := fun q2 => ws0 ++ [(h0, .inr (10, [.ref q1, .null, .null, .null, .int 0, .null, .null])), (q1, .inl (cy 0, 12, .inl (fun _ => 0))), (q2, .inl (cy 0, 12, .inl (fun _ => 0)))]) hB hP hD hS rfl AC_0 rfl RA_0 (fun _ => rfl) (by decide) (by decide) (by decide) dX10_init_15 rfl rfl ⟨by omega, by omega⟩ rfl (fun _ => List.append_assoc _ _ _) (fun q2 H hP hD hS => ?_)
  refine bput (C := RX10) (T := TX10) (N := 7) (ci := 10) (k0 := 0) (k := 1) (v := .ref q2) (ty := tyX10 1) (ys' := [(h0, .inr (10, [.ref q1, .ref q2, .null, .null, .int 0, .null, .null])), (q1, .inl (cy 0, 12, .inl (fun _ => 0))), (q2, .inl (cy 0, 12, .inl (fun _ => 0)))]) hB hin hP hD hS rfl rfl inT10 tyX10 tyX10_ok nmX10 (by decide) rfl FB_X10_15 (.inr ⟨rfl, rfl⟩) (tyX10_ok 1 (by decide)) rfl rfl (Nat.le_of_ble_eq_true rfl) dX10_init_17 rfl rfl (fun H locs hP hD hS => ?_)
  refine lv_aload_n hx hb dX10_init_20 rfl (lv_at hl 0 rfl) ?_
  refine lv_bipush (v := 12) hx hb dX10_init_21 (by decide) ?_
  refine bnewa (atype := .int) (ty := .int) (t := 0) (N := 12) (a0 := (12, .inl (fun _ => 0))) (cells' := 3) (slots' := 36) (ws1 := fun q3 => ws0 ++ [(h0, .inr (10, [.ref q1, .ref q2, .null, .null, .int 0, .null, .null])), (q1, .inl (cy 0, 12, .inl (fun _ => 0))), (q2, .inl (cy 0, 12, .inl (fun _ => 0))), (q3, .inl (cy 0, 12, .inl (fun _ => 0)))]) hB hP hD hS rfl AC_0 rfl RA_0 (fun _ => rfl) (by decide) (by decide) (by decide) dX10_init_23 rfl rfl ⟨by omega, by omega⟩ rfl (fun _ => List.append_assoc _ _ _) (fun q3 H hP hD hS => ?_)
  refine bput (C := RX10) (T := TX10) (N := 7) (ci := 10) (k0 := 0) (k := 2) (v := .ref q3) (ty := tyX10 2) (ys' := [(h0, .inr (10, [.ref q1, .ref q2, .ref q3, .null, .int 0, .null, .null])), (q1, .inl (cy 0, 12, .inl (fun _ => 0))), (q2, .inl (cy 0, 12, .inl (fun _ => 0))), (q3, .inl (cy 0, 12, .inl (fun _ => 0)))]) hB hin hP hD hS rfl rfl inT10 tyX10 tyX10_ok nmX10 (by decide) rfl FB_X10_18 (.inr ⟨rfl, rfl⟩) (tyX10_ok 2 (by decide)) rfl rfl (Nat.le_of_ble_eq_true rfl) dX10_init_25 rfl rfl (fun H locs hP hD hS => ?_)
  refine lv_aload_n hx hb dX10_init_28 rfl (lv_at hl 0 rfl) ?_
  refine lv_bipush (v := 12) hx hb dX10_init_29 (by decide) ?_
  refine bnewa (atype := .int) (ty := .int) (t := 0) (N := 12) (a0 := (12, .inl (fun _ => 0))) (cells' := 4) (slots' := 48) (ws1 := fun q4 => ws0 ++ [(h0, .inr (10, [.ref q1, .ref q2, .ref q3, .null, .int 0, .null, .null])), (q1, .inl (cy 0, 12, .inl (fun _ => 0))), (q2, .inl (cy 0, 12, .inl (fun _ => 0))), (q3, .inl (cy 0, 12, .inl (fun _ => 0))), (q4, .inl (cy 0, 12, .inl (fun _ => 0)))]) hB hP hD hS rfl AC_0 rfl RA_0 (fun _ => rfl) (by decide) (by decide) (by decide) dX10_init_31 rfl rfl ⟨by omega, by omega⟩ rfl (fun _ => List.append_assoc _ _ _) (fun q4 H hP hD hS => ?_)
  refine bput (C := RX10) (T := TX10) (N := 7) (ci := 10) (k0 := 0) (k := 3) (v := .ref q4) (ty := tyX10 3) (ys' := [(h0, .inr (10, [.ref q1, .ref q2, .ref q3, .ref q4, .int 0, .null, .null])), (q1, .inl (cy 0, 12, .inl (fun _ => 0))), (q2, .inl (cy 0, 12, .inl (fun _ => 0))), (q3, .inl (cy 0, 12, .inl (fun _ => 0))), (q4, .inl (cy 0, 12, .inl (fun _ => 0)))]) hB hin hP hD hS rfl rfl inT10 tyX10 tyX10_ok nmX10 (by decide) rfl FB_X10_21 (.inr ⟨rfl, rfl⟩) (tyX10_ok 3 (by decide)) rfl rfl (Nat.le_of_ble_eq_true rfl) dX10_init_33 rfl rfl (fun H locs hP hD hS => ?_)
  refine lv_aload_n hx hb dX10_init_36 rfl (lv_at hl 0 rfl) ?_
  refine lv_bipush (v := 6) hx hb dX10_init_37 (by decide) ?_
  refine bnewa (atype := .int) (ty := .int) (t := 0) (N := 6) (a0 := (6, .inl (fun _ => 0))) (cells' := 5) (slots' := 54) (ws1 := fun q5 => ws0 ++ [(h0, .inr (10, [.ref q1, .ref q2, .ref q3, .ref q4, .int 0, .null, .null])), (q1, .inl (cy 0, 12, .inl (fun _ => 0))), (q2, .inl (cy 0, 12, .inl (fun _ => 0))), (q3, .inl (cy 0, 12, .inl (fun _ => 0))), (q4, .inl (cy 0, 12, .inl (fun _ => 0))), (q5, .inl (cy 0, 6, .inl (fun _ => 0)))]) hB hP hD hS rfl AC_0 rfl RA_0 (fun _ => rfl) (by decide) (by decide) (by decide) dX10_init_39 rfl rfl ⟨by omega, by omega⟩ rfl (fun _ => List.append_assoc _ _ _) (fun q5 H hP hD hS => ?_)
  refine lv_dup hx hb dX10_init_41 rfl ?_
  refine lv_iconst (v := 0) hx hb dX10_init_42 (by decide) ?_
  refine lv_bipush (v := 50) hx hb dX10_init_43 (by decide) ?_
  refine biast (k0 := 5) (f := (fun _ => 0)) (ys' := [(h0, .inr (10, [.ref q1, .ref q2, .ref q3, .ref q4, .int 0, .null, .null])), (q1, .inl (cy 0, 12, .inl (fun _ => 0))), (q2, .inl (cy 0, 12, .inl (fun _ => 0))), (q3, .inl (cy 0, 12, .inl (fun _ => 0))), (q4, .inl (cy 0, 12, .inl (fun _ => 0))), (q5, .inl (cy 0, 6, .inl (upd (fun _ => 0) 0 50)))]) hB hP hD hS rfl (ix_in (i := 0) (n := 6) (by decide)) dX10_init_45 rfl rfl (fun H locs hP hD hS => ?_)
  refine lv_dup hx hb dX10_init_46 rfl ?_
  refine lv_iconst (v := 1) hx hb dX10_init_47 (by decide) ?_
  refine lv_bipush (v := 30) hx hb dX10_init_48 (by decide) ?_
  refine biast (k0 := 5) (f := (upd (fun _ => 0) 0 50)) (ys' := [(h0, .inr (10, [.ref q1, .ref q2, .ref q3, .ref q4, .int 0, .null, .null])), (q1, .inl (cy 0, 12, .inl (fun _ => 0))), (q2, .inl (cy 0, 12, .inl (fun _ => 0))), (q3, .inl (cy 0, 12, .inl (fun _ => 0))), (q4, .inl (cy 0, 12, .inl (fun _ => 0))), (q5, .inl (cy 0, 6, .inl (upd (upd (fun _ => 0) 0 50) 1 30)))]) hB hP hD hS rfl (ix_in (i := 1) (n := 6) (by decide)) dX10_init_50 rfl rfl (fun H locs hP hD hS => ?_)
  refine lv_dup hx hb dX10_init_51 rfl ?_
  refine lv_iconst (v := 2) hx hb dX10_init_52 (by decide) ?_
  refine lv_bipush (v := 20) hx hb dX10_init_53 (by decide) ?_
  refine biast (k0 := 5) (f := (upd (upd (fun _ => 0) 0 50) 1 30)) (ys' := [(h0, .inr (10, [.ref q1, .ref q2, .ref q3, .ref q4, .int 0, .null, .null])), (q1, .inl (cy 0, 12, .inl (fun _ => 0))), (q2, .inl (cy 0, 12, .inl (fun _ => 0))), (q3, .inl (cy 0, 12, .inl (fun _ => 0))), (q4, .inl (cy 0, 12, .inl (fun _ => 0))), (q5, .inl (cy 0, 6, .inl (upd (upd (upd (fun _ => 0) 0 50) 1 30) 2 20)))]) hB hP hD hS rfl (ix_in (i := 2) (n := 6) (by decide)) dX10_init_55 rfl rfl (fun H locs hP hD hS => ?_)
  refine lv_dup hx hb dX10_init_56 rfl ?_
  refine lv_iconst (v := 3) hx hb dX10_init_57 (by decide) ?_
  refine lv_bipush (v := 10) hx hb dX10_init_58 (by decide) ?_
  refine biast (k0 := 5) (f := (upd (upd (upd (fun _ => 0) 0 50) 1 30) 2 20)) (ys' := [(h0, .inr (10, [.ref q1, .ref q2, .ref q3, .ref q4, .int 0, .null, .null])), (q1, .inl (cy 0, 12, .inl (fun _ => 0))), (q2, .inl (cy 0, 12, .inl (fun _ => 0))), (q3, .inl (cy 0, 12, .inl (fun _ => 0))), (q4, .inl (cy 0, 12, .inl (fun _ => 0))), (q5, .inl (cy 0, 6, .inl (upd (upd (upd (upd (fun _ => 0) 0 50) 1 30) 2 20) 3 10)))]) hB hP hD hS rfl (ix_in (i := 3) (n := 6) (by decide)) dX10_init_60 rfl rfl (fun H locs hP hD hS => ?_)
  refine lv_dup hx hb dX10_init_61 rfl ?_
  refine lv_iconst (v := 4) hx hb dX10_init_62 (by decide) ?_
  refine lv_iconst (v := 5) hx hb dX10_init_63 (by decide) ?_
  refine biast (k0 := 5) (f := (upd (upd (upd (upd (fun _ => 0) 0 50) 1 30) 2 20) 3 10)) (ys' := [(h0, .inr (10, [.ref q1, .ref q2, .ref q3, .ref q4, .int 0, .null, .null])), (q1, .inl (cy 0, 12, .inl (fun _ => 0))), (q2, .inl (cy 0, 12, .inl (fun _ => 0))), (q3, .inl (cy 0, 12, .inl (fun _ => 0))), (q4, .inl (cy 0, 12, .inl (fun _ => 0))), (q5, .inl (cy 0, 6, .inl (upd (upd (upd (upd (upd (fun _ => 0) 0 50) 1 30) 2 20) 3 10) 4 5)))]) hB hP hD hS rfl (ix_in (i := 4) (n := 6) (by decide)) dX10_init_64 rfl rfl (fun H locs hP hD hS => ?_)
  refine lv_dup hx hb dX10_init_65 rfl ?_
  refine lv_iconst (v := 5) hx hb dX10_init_66 (by decide) ?_
  refine lv_iconst (v := 5) hx hb dX10_init_67 (by decide) ?_
  refine biast (k0 := 5) (f := (upd (upd (upd (upd (upd (fun _ => 0) 0 50) 1 30) 2 20) 3 10) 4 5)) (ys' := [(h0, .inr (10, [.ref q1, .ref q2, .ref q3, .ref q4, .int 0, .null, .null])), (q1, .inl (cy 0, 12, .inl (fun _ => 0))), (q2, .inl (cy 0, 12, .inl (fun _ => 0))), (q3, .inl (cy 0, 12, .inl (fun _ => 0))), (q4, .inl (cy 0, 12, .inl (fun _ => 0))), (q5, .inl (cy 0, 6, .inl (upd (upd (upd (upd (upd (upd (fun _ => 0) 0 50) 1 30) 2 20) 3 10) 4 5) 5 5)))]) hB hP hD hS rfl (ix_in (i := 5) (n := 6) (by decide)) dX10_init_68 rfl rfl (fun H locs hP hD hS => ?_)
  refine bput (C := RX10) (T := TX10) (N := 7) (ci := 10) (k0 := 0) (k := 5) (v := .ref q5) (ty := tyX10 5) (ys' := [(h0, .inr (10, [.ref q1, .ref q2, .ref q3, .ref q4, .int 0, .ref q5, .null])), (q1, .inl (cy 0, 12, .inl (fun _ => 0))), (q2, .inl (cy 0, 12, .inl (fun _ => 0))), (q3, .inl (cy 0, 12, .inl (fun _ => 0))), (q4, .inl (cy 0, 12, .inl (fun _ => 0))), (q5, .inl (cy 0, 6, .inl (upd (upd (upd (upd (upd (upd (fun _ => 0) 0 50) 1 30) 2 20) 3 10) 4 5) 5 5)))]) hB hin hP hD hS rfl rfl inT10 tyX10 tyX10_ok nmX10 (by decide) rfl FB_X10_24 (.inr ⟨rfl, rfl⟩) (tyX10_ok 5 (by decide)) rfl rfl (Nat.le_of_ble_eq_true rfl) dX10_init_69 rfl rfl (fun H locs hP hD hS => ?_)
  refine lv_aload_n hx hb dX10_init_72 rfl (lv_at hl 0 rfl) ?_
  refine lv_bipush (v := 6) hx hb dX10_init_73 (by decide) ?_
  refine bnewa (atype := .int) (ty := .int) (t := 0) (N := 6) (a0 := (6, .inl (fun _ => 0))) (cells' := 6) (slots' := 60) (ws1 := fun q6 => ws0 ++ [(h0, .inr (10, [.ref q1, .ref q2, .ref q3, .ref q4, .int 0, .ref q5, .null])), (q1, .inl (cy 0, 12, .inl (fun _ => 0))), (q2, .inl (cy 0, 12, .inl (fun _ => 0))), (q3, .inl (cy 0, 12, .inl (fun _ => 0))), (q4, .inl (cy 0, 12, .inl (fun _ => 0))), (q5, .inl (cy 0, 6, .inl (upd (upd (upd (upd (upd (upd (fun _ => 0) 0 50) 1 30) 2 20) 3 10) 4 5) 5 5))), (q6, .inl (cy 0, 6, .inl (fun _ => 0)))]) hB hP hD hS rfl AC_0 rfl RA_0 (fun _ => rfl) (by decide) (by decide) (by decide) dX10_init_75 rfl rfl ⟨by omega, by omega⟩ rfl (fun _ => List.append_assoc _ _ _) (fun q6 H hP hD hS => ?_)
  refine bput (C := RX10) (T := TX10) (N := 7) (ci := 10) (k0 := 0) (k := 6) (v := .ref q6) (ty := tyX10 6) (ys' := [(h0, .inr (10, [.ref q1, .ref q2, .ref q3, .ref q4, .int 0, .ref q5, .ref q6])), (q1, .inl (cy 0, 12, .inl (fun _ => 0))), (q2, .inl (cy 0, 12, .inl (fun _ => 0))), (q3, .inl (cy 0, 12, .inl (fun _ => 0))), (q4, .inl (cy 0, 12, .inl (fun _ => 0))), (q5, .inl (cy 0, 6, .inl (upd (upd (upd (upd (upd (upd (fun _ => 0) 0 50) 1 30) 2 20) 3 10) 4 5) 5 5))), (q6, .inl (cy 0, 6, .inl (fun _ => 0)))]) hB hin hP hD hS rfl rfl inT10 tyX10 tyX10_ok nmX10 (by decide) rfl FB_X10_27 (.inr ⟨rfl, rfl⟩) (tyX10_ok 6 (by decide)) rfl rfl (Nat.le_of_ble_eq_true rfl) dX10_init_77 rfl rfl (fun H locs hP hD hS => ?_)
  exact W.vret hx hb hr (fun t ht _ => ⟨rfl, ⟨fun j => [q1, q2, q3, q4, q5, q6].getD j 0, by rw [ht]; exact hP, hD⟩, hS.F ht⟩) hS.2.2 dX10_init_80 hlocks
def mX8_init : zM := (RX8, yX8_init, cX8_init, 2, none)
def y_X8_13 (cy : Nat → ClassId) (h0 : Nat) (g : Nat → Nat) : va_W := [(h0, .inr (8, [.int 13, .ref (g 0), .ref (g 1), .int 0])), (g 0, .inl (cy 0, 624, .inl (fun _ => 0))), (g 1, .inl (cy 0, 13, .inl (flN (-1) (fun _ => 0) 13)))]
set_option maxRecDepth 100000 in
set_option maxHeartbeats 8000000 in
theorem c_X8_13 (l : Launch) (D : va_G) (cy : Nat → ClassId) (ws0 : va_W) (h0 : Nat) : bMt l 2 2 637 mX8_init [.ref h0, .int 13] (ws0 ++ [(h0, .inr (8, [.int 0, .null, .null, .int 0]))]) (fun g => ws0 ++ y_X8_13 cy h0 g) D cy := by
  refine bMt_of (by decide) rfl rfl (Nat.le_of_ble_eq_true rfl) ?_
  intro p e R s m args below meth c A ls hR1 hR2 hB hlocks hin hr hP hD hl
  have hl : lv_has ls 2 [(0, .ref h0), (1, .int 13)] := hl
  have hx := hB.1
  have hb := hB.2.1
  have hts := hB.2.2.2.2.1
  have hRR := hB.2.2.2.2.2.1
  have hin : meth.name = "<init>" := hin
  have hS : va_S A s.heap s.heap [] := va_S.rf
  refine lv_aload_n hx hb dX8_init_0 rfl (lv_at hl 0 rfl) ?_
  refine bobj hB hl.1 (by decide) OL_X8 OI OC dX8_init_1 rfl ?_
  refine lv_aload_n hx hb dX8_init_4 rfl (lv_at hl 0 rfl) ?_
  refine lv_iconst (v := 1) hx hb dX8_init_5 (by decide) ?_
  refine lv_iload_n hx hb dX8_init_6 rfl (lv_at hl 1 rfl) ?_
  refine va_mmax hx hb (hB.2.2.1.trans hl.1.symm) hB.2.2.2.1 (hts _ LM_X8) (hts _ K_max_s) (hts _ K_math) (hts _ K_max_c) (by omega) ?_ (Nat.zero_le _) (Nat.zero_le _) dX8_init_7 ?_
  · show 1 + 13 ≤ R.locals
    omega
  rw [show (if (1 : Int32) < 13 then (13 : Int32) else 1) = 13 from by decide]
  refine bput (C := RX8) (T := TX8) (N := 4) (ci := 8) (k0 := 0) (k := 0) (v := .int 13) (ty := tyX8 0) (ys' := [(h0, .inr (8, [.int 13, .null, .null, .int 0]))]) hB hin hP hD hS rfl rfl inT8 tyX8 tyX8_ok nmX8 (by decide) rfl FB_X8_15 (.inr ⟨rfl, rfl⟩) (tyX8_ok 0 (by decide)) rfl rfl (Nat.le_of_ble_eq_true rfl) dX8_init_10 rfl rfl (fun H locs hP hD hS => ?_)
  refine lv_aload_n hx hb dX8_init_13 rfl (lv_at hl 0 rfl) ?_
  refine lv_aload_n hx hb dX8_init_14 rfl (lv_at hl 0 rfl) ?_
  refine bgetf (C := RX8) (T := TX8) (N := 4) (ci := 8) (k0 := 0) (k := 0) (v := .int 13) hB hP rfl rfl inT8 (by decide) rfl FB_X8_15 rfl dX8_init_15 rfl ?_
  refine lv_bipush (v := 48) hx hb dX8_init_18 (by decide) ?_
  refine lv_imul hx hb dX8_init_20 ?_
  rw [show (13 : Int32) * 48 = 624 from by decide]
  refine bnewa (atype := .int) (ty := .int) (t := 0) (N := 624) (a0 := (624, .inl (fun _ => 0))) (cells' := 1) (slots' := 624) (ws1 := fun q1 => ws0 ++ [(h0, .inr (8, [.int 13, .null, .null, .int 0])), (q1, .inl (cy 0, 624, .inl (fun _ => 0)))]) hB hP hD hS rfl AC_0 rfl RA_0 (fun _ => rfl) (by decide) (by decide) (by decide) dX8_init_21 rfl rfl ⟨by omega, by omega⟩ rfl (fun _ => List.append_assoc _ _ _) (fun q1 H hP hD hS => ?_)
  refine bput (C := RX8) (T := TX8) (N := 4) (ci := 8) (k0 := 0) (k := 1) (v := .ref q1) (ty := tyX8 1) (ys' := [(h0, .inr (8, [.int 13, .ref q1, .null, .int 0])), (q1, .inl (cy 0, 624, .inl (fun _ => 0)))]) hB hin hP hD hS rfl rfl inT8 tyX8 tyX8_ok nmX8 (by decide) rfl FB_X8_21 (.inr ⟨rfl, rfl⟩) (tyX8_ok 1 (by decide)) rfl rfl (Nat.le_of_ble_eq_true rfl) dX8_init_23 rfl rfl (fun H locs hP hD hS => ?_)
  refine lv_aload_n hx hb dX8_init_26 rfl (lv_at hl 0 rfl) ?_
  refine lv_aload_n hx hb dX8_init_27 rfl (lv_at hl 0 rfl) ?_
  refine bgetf (C := RX8) (T := TX8) (N := 4) (ci := 8) (k0 := 0) (k := 0) (v := .int 13) hB hP rfl rfl inT8 (by decide) rfl FB_X8_15 rfl dX8_init_28 rfl ?_
  refine bnewa (atype := .int) (ty := .int) (t := 0) (N := 13) (a0 := (13, .inl (fun _ => 0))) (cells' := 2) (slots' := 637) (ws1 := fun q2 => ws0 ++ [(h0, .inr (8, [.int 13, .ref q1, .null, .int 0])), (q1, .inl (cy 0, 624, .inl (fun _ => 0))), (q2, .inl (cy 0, 13, .inl (fun _ => 0)))]) hB hP hD hS rfl AC_0 rfl RA_0 (fun _ => rfl) (by decide) (by decide) (by decide) dX8_init_31 rfl rfl ⟨by omega, by omega⟩ rfl (fun _ => List.append_assoc _ _ _) (fun q2 H hP hD hS => ?_)
  refine bput (C := RX8) (T := TX8) (N := 4) (ci := 8) (k0 := 0) (k := 2) (v := .ref q2) (ty := tyX8 2) (ys' := [(h0, .inr (8, [.int 13, .ref q1, .ref q2, .int 0])), (q1, .inl (cy 0, 624, .inl (fun _ => 0))), (q2, .inl (cy 0, 13, .inl (fun _ => 0)))]) hB hin hP hD hS rfl rfl inT8 tyX8 tyX8_ok nmX8 (by decide) rfl FB_X8_25 (.inr ⟨rfl, rfl⟩) (tyX8_ok 2 (by decide)) rfl rfl (Nat.le_of_ble_eq_true rfl) dX8_init_33 rfl rfl (fun H locs hP hD hS => ?_)
  refine lv_aload_n hx hb dX8_init_36 rfl (lv_at hl 0 rfl) ?_
  refine bgetf (C := RX8) (T := TX8) (N := 4) (ci := 8) (k0 := 0) (k := 2) (v := .ref q2) hB hP rfl rfl inT8 (by decide) rfl FB_X8_25 rfl dX8_init_37 rfl ?_
  refine lv_iconst (v := -1) hx hb dX8_init_40 (by decide) ?_
  refine bcallS (as := [.ref q2, .int (-1)]) (rest := []) (cells' := 2) (slots' := 637) hB hP hD hS hl.1 (b_fill l D cy ws0 [(h0, .inr (8, [.int 13, .ref q1, .ref q2, .int 0])), (q1, .inl (cy 0, 624, .inl (fun _ => 0))), (q2, .inl (cy 0, 13, .inl (fun _ => 0)))] 2 q2 13 (fun _ => 0) (-1) (by decide) rfl) dX8_init_41 LF_X8 Ys_J7_fill_53178 rfl rfl (by decide) (Nat.le_of_ble_eq_true rfl) rfl rfl rfl ⟨by omega, by omega⟩ rfl (fun _ H locs hP hD hS => ?_)
  have hP : va_P D zcl (ws0 ++ [(h0, .inr (8, [.int 13, .ref q1, .ref q2, .int 0])), (q1, .inl (cy 0, 624, .inl (fun _ => 0))), (q2, .inl (cy 0, 13, .inl (flN (-1) (fun _ => 0) 13)))]) H := hP
  have hD : va_D A (ws0 ++ [(h0, .inr (8, [.int 13, .ref q1, .ref q2, .int 0])), (q1, .inl (cy 0, 624, .inl (fun _ => 0))), (q2, .inl (cy 0, 13, .inl (flN (-1) (fun _ => 0) 13)))]) := hD
  exact W.vret hx hb hr (fun t ht _ => ⟨rfl, ⟨fun j => [q1, q2].getD j 0, by rw [ht]; exact hP, hD⟩, hS.F ht⟩) hS.2.2 dX8_init_44 hlocks
def y_X8_2 (cy : Nat → ClassId) (h0 : Nat) (g : Nat → Nat) : va_W := [(h0, .inr (8, [.int 2, .ref (g 0), .ref (g 1), .int 0])), (g 0, .inl (cy 0, 96, .inl (fun _ => 0))), (g 1, .inl (cy 0, 2, .inl (flN (-1) (fun _ => 0) 2)))]
set_option maxRecDepth 100000 in
set_option maxHeartbeats 8000000 in
theorem c_X8_2 (l : Launch) (D : va_G) (cy : Nat → ClassId) (ws0 : va_W) (h0 : Nat) : bMt l 2 2 98 mX8_init [.ref h0, .int 2] (ws0 ++ [(h0, .inr (8, [.int 0, .null, .null, .int 0]))]) (fun g => ws0 ++ y_X8_2 cy h0 g) D cy := by
  refine bMt_of (by decide) rfl rfl (Nat.le_of_ble_eq_true rfl) ?_
  intro p e R s m args below meth c A ls hR1 hR2 hB hlocks hin hr hP hD hl
  have hl : lv_has ls 2 [(0, .ref h0), (1, .int 2)] := hl
  have hx := hB.1
  have hb := hB.2.1
  have hts := hB.2.2.2.2.1
  have hRR := hB.2.2.2.2.2.1
  have hin : meth.name = "<init>" := hin
  have hS : va_S A s.heap s.heap [] := va_S.rf
  refine lv_aload_n hx hb dX8_init_0 rfl (lv_at hl 0 rfl) ?_
  refine bobj hB hl.1 (by decide) OL_X8 OI OC dX8_init_1 rfl ?_
  refine lv_aload_n hx hb dX8_init_4 rfl (lv_at hl 0 rfl) ?_
  refine lv_iconst (v := 1) hx hb dX8_init_5 (by decide) ?_
  refine lv_iload_n hx hb dX8_init_6 rfl (lv_at hl 1 rfl) ?_
  refine va_mmax hx hb (hB.2.2.1.trans hl.1.symm) hB.2.2.2.1 (hts _ LM_X8) (hts _ K_max_s) (hts _ K_math) (hts _ K_max_c) (by omega) ?_ (Nat.zero_le _) (Nat.zero_le _) dX8_init_7 ?_
  · show 1 + 13 ≤ R.locals
    omega
  rw [show (if (1 : Int32) < 2 then (2 : Int32) else 1) = 2 from by decide]
  refine bput (C := RX8) (T := TX8) (N := 4) (ci := 8) (k0 := 0) (k := 0) (v := .int 2) (ty := tyX8 0) (ys' := [(h0, .inr (8, [.int 2, .null, .null, .int 0]))]) hB hin hP hD hS rfl rfl inT8 tyX8 tyX8_ok nmX8 (by decide) rfl FB_X8_15 (.inr ⟨rfl, rfl⟩) (tyX8_ok 0 (by decide)) rfl rfl (Nat.le_of_ble_eq_true rfl) dX8_init_10 rfl rfl (fun H locs hP hD hS => ?_)
  refine lv_aload_n hx hb dX8_init_13 rfl (lv_at hl 0 rfl) ?_
  refine lv_aload_n hx hb dX8_init_14 rfl (lv_at hl 0 rfl) ?_
  refine bgetf (C := RX8) (T := TX8) (N := 4) (ci := 8) (k0 := 0) (k := 0) (v := .int 2) hB hP rfl rfl inT8 (by decide) rfl FB_X8_15 rfl dX8_init_15 rfl ?_
  refine lv_bipush (v := 48) hx hb dX8_init_18 (by decide) ?_
  refine lv_imul hx hb dX8_init_20 ?_
  rw [show (2 : Int32) * 48 = 96 from by decide]
  refine bnewa (atype := .int) (ty := .int) (t := 0) (N := 96) (a0 := (96, .inl (fun _ => 0))) (cells' := 1) (slots' := 96) (ws1 := fun q1 => ws0 ++ [(h0, .inr (8, [.int 2, .null, .null, .int 0])), (q1, .inl (cy 0, 96, .inl (fun _ => 0)))]) hB hP hD hS rfl AC_0 rfl RA_0 (fun _ => rfl) (by decide) (by decide) (by decide) dX8_init_21 rfl rfl ⟨by omega, by omega⟩ rfl (fun _ => List.append_assoc _ _ _) (fun q1 H hP hD hS => ?_)
  refine bput (C := RX8) (T := TX8) (N := 4) (ci := 8) (k0 := 0) (k := 1) (v := .ref q1) (ty := tyX8 1) (ys' := [(h0, .inr (8, [.int 2, .ref q1, .null, .int 0])), (q1, .inl (cy 0, 96, .inl (fun _ => 0)))]) hB hin hP hD hS rfl rfl inT8 tyX8 tyX8_ok nmX8 (by decide) rfl FB_X8_21 (.inr ⟨rfl, rfl⟩) (tyX8_ok 1 (by decide)) rfl rfl (Nat.le_of_ble_eq_true rfl) dX8_init_23 rfl rfl (fun H locs hP hD hS => ?_)
  refine lv_aload_n hx hb dX8_init_26 rfl (lv_at hl 0 rfl) ?_
  refine lv_aload_n hx hb dX8_init_27 rfl (lv_at hl 0 rfl) ?_
  refine bgetf (C := RX8) (T := TX8) (N := 4) (ci := 8) (k0 := 0) (k := 0) (v := .int 2) hB hP rfl rfl inT8 (by decide) rfl FB_X8_15 rfl dX8_init_28 rfl ?_
  refine bnewa (atype := .int) (ty := .int) (t := 0) (N := 2) (a0 := (2, .inl (fun _ => 0))) (cells' := 2) (slots' := 98) (ws1 := fun q2 => ws0 ++ [(h0, .inr (8, [.int 2, .ref q1, .null, .int 0])), (q1, .inl (cy 0, 96, .inl (fun _ => 0))), (q2, .inl (cy 0, 2, .inl (fun _ => 0)))]) hB hP hD hS rfl AC_0 rfl RA_0 (fun _ => rfl) (by decide) (by decide) (by decide) dX8_init_31 rfl rfl ⟨by omega, by omega⟩ rfl (fun _ => List.append_assoc _ _ _) (fun q2 H hP hD hS => ?_)
  refine bput (C := RX8) (T := TX8) (N := 4) (ci := 8) (k0 := 0) (k := 2) (v := .ref q2) (ty := tyX8 2) (ys' := [(h0, .inr (8, [.int 2, .ref q1, .ref q2, .int 0])), (q1, .inl (cy 0, 96, .inl (fun _ => 0))), (q2, .inl (cy 0, 2, .inl (fun _ => 0)))]) hB hin hP hD hS rfl rfl inT8 tyX8 tyX8_ok nmX8 (by decide) rfl FB_X8_25 (.inr ⟨rfl, rfl⟩) (tyX8_ok 2 (by decide)) rfl rfl (Nat.le_of_ble_eq_true rfl) dX8_init_33 rfl rfl (fun H locs hP hD hS => ?_)
  refine lv_aload_n hx hb dX8_init_36 rfl (lv_at hl 0 rfl) ?_
  refine bgetf (C := RX8) (T := TX8) (N := 4) (ci := 8) (k0 := 0) (k := 2) (v := .ref q2) hB hP rfl rfl inT8 (by decide) rfl FB_X8_25 rfl dX8_init_37 rfl ?_
  refine lv_iconst (v := -1) hx hb dX8_init_40 (by decide) ?_
  refine bcallS (as := [.ref q2, .int (-1)]) (rest := []) (cells' := 2) (slots' := 98) hB hP hD hS hl.1 (b_fill l D cy ws0 [(h0, .inr (8, [.int 2, .ref q1, .ref q2, .int 0])), (q1, .inl (cy 0, 96, .inl (fun _ => 0))), (q2, .inl (cy 0, 2, .inl (fun _ => 0)))] 2 q2 2 (fun _ => 0) (-1) (by decide) rfl) dX8_init_41 LF_X8 Ys_J7_fill_53178 rfl rfl (by decide) (Nat.le_of_ble_eq_true rfl) rfl rfl rfl ⟨by omega, by omega⟩ rfl (fun _ H locs hP hD hS => ?_)
  have hP : va_P D zcl (ws0 ++ [(h0, .inr (8, [.int 2, .ref q1, .ref q2, .int 0])), (q1, .inl (cy 0, 96, .inl (fun _ => 0))), (q2, .inl (cy 0, 2, .inl (flN (-1) (fun _ => 0) 2)))]) H := hP
  have hD : va_D A (ws0 ++ [(h0, .inr (8, [.int 2, .ref q1, .ref q2, .int 0])), (q1, .inl (cy 0, 96, .inl (fun _ => 0))), (q2, .inl (cy 0, 2, .inl (flN (-1) (fun _ => 0) 2)))]) := hD
  exact W.vret hx hb hr (fun t ht _ => ⟨rfl, ⟨fun j => [q1, q2].getD j 0, by rw [ht]; exact hP, hD⟩, hS.F ht⟩) hS.2.2 dX8_init_44 hlocks
def mX2_init : zM := (RX2, yX2_init, cX2_init, 1, none)
def y_X2 (cy : Nat → ClassId) (h0 : Nat) (g : Nat → Nat) : va_W := [(h0, .inr (2, [.int 0, .int 0, .int 0, .int 0, .int 0]))]
set_option maxRecDepth 100000 in
set_option maxHeartbeats 8000000 in
theorem c_X2 (l : Launch) (D : va_G) (cy : Nat → ClassId) (ws0 : va_W) (h0 : Nat) : bMt l 2 0 0 mX2_init [.ref h0] (ws0 ++ [(h0, .inr (2, [.int 0, .int 0, .int 0, .int 0, .int 0]))]) (fun g => ws0 ++ y_X2 cy h0 g) D cy := by
  refine bMt_of (by decide) rfl rfl (Nat.le_of_ble_eq_true rfl) ?_
  intro p e R s m args below meth c A ls hR1 hR2 hB hlocks hin hr hP hD hl
  have hl : lv_has ls 1 [(0, .ref h0)] := hl
  have hx := hB.1
  have hb := hB.2.1
  have hts := hB.2.2.2.2.1
  have hRR := hB.2.2.2.2.2.1
  have hin : meth.name = "<init>" := hin
  have hS : va_S A s.heap s.heap [] := va_S.rf
  refine lv_aload_n hx hb dX2_init_0 rfl (lv_at hl 0 rfl) ?_
  refine bobj hB hl.1 (by decide) OL_X2 OI OC dX2_init_1 rfl ?_
  exact W.vret hx hb hr (fun t ht _ => ⟨rfl, ⟨fun j => [].getD j 0, by rw [ht]; exact hP, hD⟩, hS.F ht⟩) hS.2.2 dX2_init_4 hlocks
def mX4_init : zM := (RX4, yX4_init, cX4_init, 1, none)
def y_X4 (cy : Nat → ClassId) (h0 : Nat) (g : Nat → Nat) : va_W := [(h0, .inr (4, [.ref (g 0), .ref (g 1), .ref (g 2), .ref (g 3), .int 0])), (g 0, .inl (cy 0, 64, .inl (fun _ => 0))), (g 1, .inl (cy 0, 64, .inl (fun _ => 0))), (g 2, .inl (cy 0, 5409, .inl (fun _ => 0))), (g 3, .inl (cy 0, 9, .inl (fun _ => 0)))]
set_option maxRecDepth 100000 in
set_option maxHeartbeats 8000000 in
theorem c_X4 (l : Launch) (D : va_G) (cy : Nat → ClassId) (ws0 : va_W) (h0 : Nat) : bMt l 2 4 5546 mX4_init [.ref h0] (ws0 ++ [(h0, .inr (4, [.null, .null, .null, .null, .int 0]))]) (fun g => ws0 ++ y_X4 cy h0 g) D cy := by
  refine bMt_of (by decide) rfl rfl (Nat.le_of_ble_eq_true rfl) ?_
  intro p e R s m args below meth c A ls hR1 hR2 hB hlocks hin hr hP hD hl
  have hl : lv_has ls 1 [(0, .ref h0)] := hl
  have hx := hB.1
  have hb := hB.2.1
  have hts := hB.2.2.2.2.1
  have hRR := hB.2.2.2.2.2.1
  have hin : meth.name = "<init>" := hin
  have hS : va_S A s.heap s.heap [] := va_S.rf
  refine lv_aload_n hx hb dX4_init_0 rfl (lv_at hl 0 rfl) ?_
  refine bobj hB hl.1 (by decide) OL_X4 OI OC dX4_init_1 rfl ?_
  refine lv_aload_n hx hb dX4_init_4 rfl (lv_at hl 0 rfl) ?_
  refine lv_bipush (v := 64) hx hb dX4_init_5 (by decide) ?_
  refine bnewa (atype := .int) (ty := .int) (t := 0) (N := 64) (a0 := (64, .inl (fun _ => 0))) (cells' := 1) (slots' := 64) (ws1 := fun q1 => ws0 ++ [(h0, .inr (4, [.null, .null, .null, .null, .int 0])), (q1, .inl (cy 0, 64, .inl (fun _ => 0)))]) hB hP hD hS rfl AC_0 rfl RA_0 (fun _ => rfl) (by decide) (by decide) (by decide) dX4_init_7 rfl rfl ⟨by omega, by omega⟩ rfl (fun _ => List.append_assoc _ _ _) (fun q1 H hP hD hS => ?_)
  refine bput (C := RX4) (T := TX4) (N := 5) (ci := 4) (k0 := 0) (k := 0) (v := .ref q1) (ty := tyX4 0) (ys' := [(h0, .inr (4, [.ref q1, .null, .null, .null, .int 0])), (q1, .inl (cy 0, 64, .inl (fun _ => 0)))]) hB hin hP hD hS rfl rfl inT4 tyX4 tyX4_ok nmX4 (by decide) rfl FB_X4_11 (.inr ⟨rfl, rfl⟩) (tyX4_ok 0 (by decide)) rfl rfl (Nat.le_of_ble_eq_true rfl) dX4_init_9 rfl rfl (fun H locs hP hD hS => ?_)
  refine lv_aload_n hx hb dX4_init_12 rfl (lv_at hl 0 rfl) ?_
  refine lv_bipush (v := 64) hx hb dX4_init_13 (by decide) ?_
  refine bnewa (atype := .int) (ty := .int) (t := 0) (N := 64) (a0 := (64, .inl (fun _ => 0))) (cells' := 2) (slots' := 128) (ws1 := fun q2 => ws0 ++ [(h0, .inr (4, [.ref q1, .null, .null, .null, .int 0])), (q1, .inl (cy 0, 64, .inl (fun _ => 0))), (q2, .inl (cy 0, 64, .inl (fun _ => 0)))]) hB hP hD hS rfl AC_0 rfl RA_0 (fun _ => rfl) (by decide) (by decide) (by decide) dX4_init_15 rfl rfl ⟨by omega, by omega⟩ rfl (fun _ => List.append_assoc _ _ _) (fun q2 H hP hD hS => ?_)
  refine bput (C := RX4) (T := TX4) (N := 5) (ci := 4) (k0 := 0) (k := 1) (v := .ref q2) (ty := tyX4 1) (ys' := [(h0, .inr (4, [.ref q1, .ref q2, .null, .null, .int 0])), (q1, .inl (cy 0, 64, .inl (fun _ => 0))), (q2, .inl (cy 0, 64, .inl (fun _ => 0)))]) hB hin hP hD hS rfl rfl inT4 tyX4 tyX4_ok nmX4 (by decide) rfl FB_X4_15 (.inr ⟨rfl, rfl⟩) (tyX4_ok 1 (by decide)) rfl rfl (Nat.le_of_ble_eq_true rfl) dX4_init_17 rfl rfl (fun H locs hP hD hS => ?_)
  refine lv_aload_n hx hb dX4_init_20 rfl (lv_at hl 0 rfl) ?_
  refine lv_sipush (v := 5409) hx hb dX4_init_21 (by decide) ?_
  refine bnewa (atype := .int) (ty := .int) (t := 0) (N := 5409) (a0 := (5409, .inl (fun _ => 0))) (cells' := 3) (slots' := 5537) (ws1 := fun q3 => ws0 ++ [(h0, .inr (4, [.ref q1, .ref q2, .null, .null, .int 0])), (q1, .inl (cy 0, 64, .inl (fun _ => 0))), (q2, .inl (cy 0, 64, .inl (fun _ => 0))), (q3, .inl (cy 0, 5409, .inl (fun _ => 0)))]) hB hP hD hS rfl AC_0 rfl RA_0 (fun _ => rfl) (by decide) (by decide) (by decide) dX4_init_24 rfl rfl ⟨by omega, by omega⟩ rfl (fun _ => List.append_assoc _ _ _) (fun q3 H hP hD hS => ?_)
  refine bput (C := RX4) (T := TX4) (N := 5) (ci := 4) (k0 := 0) (k := 2) (v := .ref q3) (ty := tyX4 2) (ys' := [(h0, .inr (4, [.ref q1, .ref q2, .ref q3, .null, .int 0])), (q1, .inl (cy 0, 64, .inl (fun _ => 0))), (q2, .inl (cy 0, 64, .inl (fun _ => 0))), (q3, .inl (cy 0, 5409, .inl (fun _ => 0)))]) hB hin hP hD hS rfl rfl inT4 tyX4 tyX4_ok nmX4 (by decide) rfl FB_X4_18 (.inr ⟨rfl, rfl⟩) (tyX4_ok 2 (by decide)) rfl rfl (Nat.le_of_ble_eq_true rfl) dX4_init_26 rfl rfl (fun H locs hP hD hS => ?_)
  refine lv_aload_n hx hb dX4_init_29 rfl (lv_at hl 0 rfl) ?_
  refine lv_bipush (v := 9) hx hb dX4_init_30 (by decide) ?_
  refine bnewa (atype := .int) (ty := .int) (t := 0) (N := 9) (a0 := (9, .inl (fun _ => 0))) (cells' := 4) (slots' := 5546) (ws1 := fun q4 => ws0 ++ [(h0, .inr (4, [.ref q1, .ref q2, .ref q3, .null, .int 0])), (q1, .inl (cy 0, 64, .inl (fun _ => 0))), (q2, .inl (cy 0, 64, .inl (fun _ => 0))), (q3, .inl (cy 0, 5409, .inl (fun _ => 0))), (q4, .inl (cy 0, 9, .inl (fun _ => 0)))]) hB hP hD hS rfl AC_0 rfl RA_0 (fun _ => rfl) (by decide) (by decide) (by decide) dX4_init_32 rfl rfl ⟨by omega, by omega⟩ rfl (fun _ => List.append_assoc _ _ _) (fun q4 H hP hD hS => ?_)
  refine bput (C := RX4) (T := TX4) (N := 5) (ci := 4) (k0 := 0) (k := 3) (v := .ref q4) (ty := tyX4 3) (ys' := [(h0, .inr (4, [.ref q1, .ref q2, .ref q3, .ref q4, .int 0])), (q1, .inl (cy 0, 64, .inl (fun _ => 0))), (q2, .inl (cy 0, 64, .inl (fun _ => 0))), (q3, .inl (cy 0, 5409, .inl (fun _ => 0))), (q4, .inl (cy 0, 9, .inl (fun _ => 0)))]) hB hin hP hD hS rfl rfl inT4 tyX4 tyX4_ok nmX4 (by decide) rfl FB_X4_21 (.inr ⟨rfl, rfl⟩) (tyX4_ok 3 (by decide)) rfl rfl (Nat.le_of_ble_eq_true rfl) dX4_init_34 rfl rfl (fun H locs hP hD hS => ?_)
  exact W.vret hx hb hr (fun t ht _ => ⟨rfl, ⟨fun j => [q1, q2, q3, q4].getD j 0, by rw [ht]; exact hP, hD⟩, hS.F ht⟩) hS.2.2 dX4_init_37 hlocks
def mX3_init : zM := (RX3, yX3_init, cX3_init, 1, none)
def y_X3 (cy : Nat → ClassId) (h0 : Nat) (g : Nat → Nat) : va_W := [(h0, .inr (3, [.ref (g 0), .int 0, .int 0, .int 0, .ref (g 1), .ref (g 2), .ref (g 3), .ref (g 4), .ref (g 5), .ref (g 6), .ref (g 7)])), (g 0, .inl (cy 0, 3, .inl (fun _ => 0))), (g 1, .inl (cy 0, 12, .inl (fun _ => 0))), (g 2, .inl (cy 0, 12, .inl (fun _ => 0))), (g 3, .inl (cy 0, 12, .inl (fun _ => 0))), (g 4, .inl (cy 0, 18, .inl (fun _ => 0))), (g 5, .inl (cy 0, 3, .inl (fun _ => 0))), (g 6, .inl (cy 1, 12, .inr (.inl (fun _ => 0)))), (g 7, .inl (cy 1, 9, .inr (.inl (fun _ => 0))))]
set_option maxRecDepth 100000 in
set_option maxHeartbeats 8000000 in
theorem c_X3 (l : Launch) (D : va_G) (cy : Nat → ClassId) (ws0 : va_W) (h0 : Nat) : bMt l 2 8 81 mX3_init [.ref h0] (ws0 ++ [(h0, .inr (3, [.null, .int 0, .int 0, .int 0, .null, .null, .null, .null, .null, .null, .null]))]) (fun g => ws0 ++ y_X3 cy h0 g) D cy := by
  refine bMt_of (by decide) rfl rfl (Nat.le_of_ble_eq_true rfl) ?_
  intro p e R s m args below meth c A ls hR1 hR2 hB hlocks hin hr hP hD hl
  have hl : lv_has ls 1 [(0, .ref h0)] := hl
  have hx := hB.1
  have hb := hB.2.1
  have hts := hB.2.2.2.2.1
  have hRR := hB.2.2.2.2.2.1
  have hin : meth.name = "<init>" := hin
  have hS : va_S A s.heap s.heap [] := va_S.rf
  refine lv_aload_n hx hb dX3_init_0 rfl (lv_at hl 0 rfl) ?_
  refine bobj hB hl.1 (by decide) OL_X3 OI OC dX3_init_1 rfl ?_
  refine lv_aload_n hx hb dX3_init_4 rfl (lv_at hl 0 rfl) ?_
  refine lv_iconst (v := 3) hx hb dX3_init_5 (by decide) ?_
  refine bnewa (atype := .int) (ty := .int) (t := 0) (N := 3) (a0 := (3, .inl (fun _ => 0))) (cells' := 1) (slots' := 3) (ws1 := fun q1 => ws0 ++ [(h0, .inr (3, [.null, .int 0, .int 0, .int 0, .null, .null, .null, .null, .null, .null, .null])), (q1, .inl (cy 0, 3, .inl (fun _ => 0)))]) hB hP hD hS rfl AC_0 rfl RA_0 (fun _ => rfl) (by decide) (by decide) (by decide) dX3_init_6 rfl rfl ⟨by omega, by omega⟩ rfl (fun _ => List.append_assoc _ _ _) (fun q1 H hP hD hS => ?_)
  refine bput (C := RX3) (T := TX3) (N := 11) (ci := 3) (k0 := 0) (k := 0) (v := .ref q1) (ty := tyX3 0) (ys' := [(h0, .inr (3, [.ref q1, .int 0, .int 0, .int 0, .null, .null, .null, .null, .null, .null, .null])), (q1, .inl (cy 0, 3, .inl (fun _ => 0)))]) hB hin hP hD hS rfl rfl inT3 tyX3 tyX3_ok nmX3 (by decide) rfl FB_X3_11 (.inr ⟨rfl, rfl⟩) (tyX3_ok 0 (by decide)) rfl rfl (Nat.le_of_ble_eq_true rfl) dX3_init_8 rfl rfl (fun H locs hP hD hS => ?_)
  refine lv_aload_n hx hb dX3_init_11 rfl (lv_at hl 0 rfl) ?_
  refine lv_bipush (v := 12) hx hb dX3_init_12 (by decide) ?_
  refine bnewa (atype := .int) (ty := .int) (t := 0) (N := 12) (a0 := (12, .inl (fun _ => 0))) (cells' := 2) (slots' := 15) (ws1 := fun q2 => ws0 ++ [(h0, .inr (3, [.ref q1, .int 0, .int 0, .int 0, .null, .null, .null, .null, .null, .null, .null])), (q1, .inl (cy 0, 3, .inl (fun _ => 0))), (q2, .inl (cy 0, 12, .inl (fun _ => 0)))]) hB hP hD hS rfl AC_0 rfl RA_0 (fun _ => rfl) (by decide) (by decide) (by decide) dX3_init_14 rfl rfl ⟨by omega, by omega⟩ rfl (fun _ => List.append_assoc _ _ _) (fun q2 H hP hD hS => ?_)
  refine bput (C := RX3) (T := TX3) (N := 11) (ci := 3) (k0 := 0) (k := 4) (v := .ref q2) (ty := tyX3 4) (ys' := [(h0, .inr (3, [.ref q1, .int 0, .int 0, .int 0, .ref q2, .null, .null, .null, .null, .null, .null])), (q1, .inl (cy 0, 3, .inl (fun _ => 0))), (q2, .inl (cy 0, 12, .inl (fun _ => 0)))]) hB hin hP hD hS rfl rfl inT3 tyX3 tyX3_ok nmX3 (by decide) rfl FB_X3_15 (.inr ⟨rfl, rfl⟩) (tyX3_ok 4 (by decide)) rfl rfl (Nat.le_of_ble_eq_true rfl) dX3_init_16 rfl rfl (fun H locs hP hD hS => ?_)
  refine lv_aload_n hx hb dX3_init_19 rfl (lv_at hl 0 rfl) ?_
  refine lv_bipush (v := 12) hx hb dX3_init_20 (by decide) ?_
  refine bnewa (atype := .int) (ty := .int) (t := 0) (N := 12) (a0 := (12, .inl (fun _ => 0))) (cells' := 3) (slots' := 27) (ws1 := fun q3 => ws0 ++ [(h0, .inr (3, [.ref q1, .int 0, .int 0, .int 0, .ref q2, .null, .null, .null, .null, .null, .null])), (q1, .inl (cy 0, 3, .inl (fun _ => 0))), (q2, .inl (cy 0, 12, .inl (fun _ => 0))), (q3, .inl (cy 0, 12, .inl (fun _ => 0)))]) hB hP hD hS rfl AC_0 rfl RA_0 (fun _ => rfl) (by decide) (by decide) (by decide) dX3_init_22 rfl rfl ⟨by omega, by omega⟩ rfl (fun _ => List.append_assoc _ _ _) (fun q3 H hP hD hS => ?_)
  refine bput (C := RX3) (T := TX3) (N := 11) (ci := 3) (k0 := 0) (k := 5) (v := .ref q3) (ty := tyX3 5) (ys' := [(h0, .inr (3, [.ref q1, .int 0, .int 0, .int 0, .ref q2, .ref q3, .null, .null, .null, .null, .null])), (q1, .inl (cy 0, 3, .inl (fun _ => 0))), (q2, .inl (cy 0, 12, .inl (fun _ => 0))), (q3, .inl (cy 0, 12, .inl (fun _ => 0)))]) hB hin hP hD hS rfl rfl inT3 tyX3 tyX3_ok nmX3 (by decide) rfl FB_X3_18 (.inr ⟨rfl, rfl⟩) (tyX3_ok 5 (by decide)) rfl rfl (Nat.le_of_ble_eq_true rfl) dX3_init_24 rfl rfl (fun H locs hP hD hS => ?_)
  refine lv_aload_n hx hb dX3_init_27 rfl (lv_at hl 0 rfl) ?_
  refine lv_bipush (v := 12) hx hb dX3_init_28 (by decide) ?_
  refine bnewa (atype := .int) (ty := .int) (t := 0) (N := 12) (a0 := (12, .inl (fun _ => 0))) (cells' := 4) (slots' := 39) (ws1 := fun q4 => ws0 ++ [(h0, .inr (3, [.ref q1, .int 0, .int 0, .int 0, .ref q2, .ref q3, .null, .null, .null, .null, .null])), (q1, .inl (cy 0, 3, .inl (fun _ => 0))), (q2, .inl (cy 0, 12, .inl (fun _ => 0))), (q3, .inl (cy 0, 12, .inl (fun _ => 0))), (q4, .inl (cy 0, 12, .inl (fun _ => 0)))]) hB hP hD hS rfl AC_0 rfl RA_0 (fun _ => rfl) (by decide) (by decide) (by decide) dX3_init_30 rfl rfl ⟨by omega, by omega⟩ rfl (fun _ => List.append_assoc _ _ _) (fun q4 H hP hD hS => ?_)
  refine bput (C := RX3) (T := TX3) (N := 11) (ci := 3) (k0 := 0) (k := 6) (v := .ref q4) (ty := tyX3 6) (ys' := [(h0, .inr (3, [.ref q1, .int 0, .int 0, .int 0, .ref q2, .ref q3, .ref q4, .null, .null, .null, .null])), (q1, .inl (cy 0, 3, .inl (fun _ => 0))), (q2, .inl (cy 0, 12, .inl (fun _ => 0))), (q3, .inl (cy 0, 12, .inl (fun _ => 0))), (q4, .inl (cy 0, 12, .inl (fun _ => 0)))]) hB hin hP hD hS rfl rfl inT3 tyX3 tyX3_ok nmX3 (by decide) rfl FB_X3_21 (.inr ⟨rfl, rfl⟩) (tyX3_ok 6 (by decide)) rfl rfl (Nat.le_of_ble_eq_true rfl) dX3_init_32 rfl rfl (fun H locs hP hD hS => ?_)
  refine lv_aload_n hx hb dX3_init_35 rfl (lv_at hl 0 rfl) ?_
  refine lv_bipush (v := 18) hx hb dX3_init_36 (by decide) ?_
  refine bnewa (atype := .int) (ty := .int) (t := 0) (N := 18) (a0 := (18, .inl (fun _ => 0))) (cells' := 5) (slots' := 57) (ws1 := fun q5 => ws0 ++ [(h0, .inr (3, [.ref q1, .int 0, .int 0, .int 0, .ref q2, .ref q3, .ref q4, .null, .null, .null, .null])), (q1, .inl (cy 0, 3, .inl (fun _ => 0))), (q2, .inl (cy 0, 12, .inl (fun _ => 0))), (q3, .inl (cy 0, 12, .inl (fun _ => 0))), (q4, .inl (cy 0, 12, .inl (fun _ => 0))), (q5, .inl (cy 0, 18, .inl (fun _ => 0)))]) hB hP hD hS rfl AC_0 rfl RA_0 (fun _ => rfl) (by decide) (by decide) (by decide) dX3_init_38 rfl rfl ⟨by omega, by omega⟩ rfl (fun _ => List.append_assoc _ _ _) (fun q5 H hP hD hS => ?_)
  refine bput (C := RX3) (T := TX3) (N := 11) (ci := 3) (k0 := 0) (k := 7) (v := .ref q5) (ty := tyX3 7) (ys' := [(h0, .inr (3, [.ref q1, .int 0, .int 0, .int 0, .ref q2, .ref q3, .ref q4, .ref q5, .null, .null, .null])), (q1, .inl (cy 0, 3, .inl (fun _ => 0))), (q2, .inl (cy 0, 12, .inl (fun _ => 0))), (q3, .inl (cy 0, 12, .inl (fun _ => 0))), (q4, .inl (cy 0, 12, .inl (fun _ => 0))), (q5, .inl (cy 0, 18, .inl (fun _ => 0)))]) hB hin hP hD hS rfl rfl inT3 tyX3 tyX3_ok nmX3 (by decide) rfl FB_X3_24 (.inr ⟨rfl, rfl⟩) (tyX3_ok 7 (by decide)) rfl rfl (Nat.le_of_ble_eq_true rfl) dX3_init_40 rfl rfl (fun H locs hP hD hS => ?_)
  refine lv_aload_n hx hb dX3_init_43 rfl (lv_at hl 0 rfl) ?_
  refine lv_iconst (v := 3) hx hb dX3_init_44 (by decide) ?_
  refine bnewa (atype := .int) (ty := .int) (t := 0) (N := 3) (a0 := (3, .inl (fun _ => 0))) (cells' := 6) (slots' := 60) (ws1 := fun q6 => ws0 ++ [(h0, .inr (3, [.ref q1, .int 0, .int 0, .int 0, .ref q2, .ref q3, .ref q4, .ref q5, .null, .null, .null])), (q1, .inl (cy 0, 3, .inl (fun _ => 0))), (q2, .inl (cy 0, 12, .inl (fun _ => 0))), (q3, .inl (cy 0, 12, .inl (fun _ => 0))), (q4, .inl (cy 0, 12, .inl (fun _ => 0))), (q5, .inl (cy 0, 18, .inl (fun _ => 0))), (q6, .inl (cy 0, 3, .inl (fun _ => 0)))]) hB hP hD hS rfl AC_0 rfl RA_0 (fun _ => rfl) (by decide) (by decide) (by decide) dX3_init_45 rfl rfl ⟨by omega, by omega⟩ rfl (fun _ => List.append_assoc _ _ _) (fun q6 H hP hD hS => ?_)
  refine bput (C := RX3) (T := TX3) (N := 11) (ci := 3) (k0 := 0) (k := 8) (v := .ref q6) (ty := tyX3 8) (ys' := [(h0, .inr (3, [.ref q1, .int 0, .int 0, .int 0, .ref q2, .ref q3, .ref q4, .ref q5, .ref q6, .null, .null])), (q1, .inl (cy 0, 3, .inl (fun _ => 0))), (q2, .inl (cy 0, 12, .inl (fun _ => 0))), (q3, .inl (cy 0, 12, .inl (fun _ => 0))), (q4, .inl (cy 0, 12, .inl (fun _ => 0))), (q5, .inl (cy 0, 18, .inl (fun _ => 0))), (q6, .inl (cy 0, 3, .inl (fun _ => 0)))]) hB hin hP hD hS rfl rfl inT3 tyX3 tyX3_ok nmX3 (by decide) rfl FB_X3_27 (.inr ⟨rfl, rfl⟩) (tyX3_ok 8 (by decide)) rfl rfl (Nat.le_of_ble_eq_true rfl) dX3_init_47 rfl rfl (fun H locs hP hD hS => ?_)
  refine lv_aload_n hx hb dX3_init_50 rfl (lv_at hl 0 rfl) ?_
  refine lv_bipush (v := 12) hx hb dX3_init_51 (by decide) ?_
  refine bnewa (atype := .long) (ty := .long) (t := 1) (N := 12) (a0 := (12, .inr (.inl (fun _ => 0)))) (cells' := 7) (slots' := 72) (ws1 := fun q7 => ws0 ++ [(h0, .inr (3, [.ref q1, .int 0, .int 0, .int 0, .ref q2, .ref q3, .ref q4, .ref q5, .ref q6, .null, .null])), (q1, .inl (cy 0, 3, .inl (fun _ => 0))), (q2, .inl (cy 0, 12, .inl (fun _ => 0))), (q3, .inl (cy 0, 12, .inl (fun _ => 0))), (q4, .inl (cy 0, 12, .inl (fun _ => 0))), (q5, .inl (cy 0, 18, .inl (fun _ => 0))), (q6, .inl (cy 0, 3, .inl (fun _ => 0))), (q7, .inl (cy 1, 12, .inr (.inl (fun _ => 0))))]) hB hP hD hS rfl AC_1 rfl RA_1 (fun _ => rfl) (by decide) (by decide) (by decide) dX3_init_53 rfl rfl ⟨by omega, by omega⟩ rfl (fun _ => List.append_assoc _ _ _) (fun q7 H hP hD hS => ?_)
  refine bput (C := RX3) (T := TX3) (N := 11) (ci := 3) (k0 := 0) (k := 9) (v := .ref q7) (ty := tyX3 9) (ys' := [(h0, .inr (3, [.ref q1, .int 0, .int 0, .int 0, .ref q2, .ref q3, .ref q4, .ref q5, .ref q6, .ref q7, .null])), (q1, .inl (cy 0, 3, .inl (fun _ => 0))), (q2, .inl (cy 0, 12, .inl (fun _ => 0))), (q3, .inl (cy 0, 12, .inl (fun _ => 0))), (q4, .inl (cy 0, 12, .inl (fun _ => 0))), (q5, .inl (cy 0, 18, .inl (fun _ => 0))), (q6, .inl (cy 0, 3, .inl (fun _ => 0))), (q7, .inl (cy 1, 12, .inr (.inl (fun _ => 0))))]) hB hin hP hD hS rfl rfl inT3 tyX3 tyX3_ok nmX3 (by decide) rfl FB_X3_30 (.inr ⟨rfl, rfl⟩) (tyX3_ok 9 (by decide)) rfl rfl (Nat.le_of_ble_eq_true rfl) dX3_init_55 rfl rfl (fun H locs hP hD hS => ?_)
  refine lv_aload_n hx hb dX3_init_58 rfl (lv_at hl 0 rfl) ?_
  refine lv_bipush (v := 9) hx hb dX3_init_59 (by decide) ?_
  refine bnewa (atype := .long) (ty := .long) (t := 1) (N := 9) (a0 := (9, .inr (.inl (fun _ => 0)))) (cells' := 8) (slots' := 81) (ws1 := fun q8 => ws0 ++ [(h0, .inr (3, [.ref q1, .int 0, .int 0, .int 0, .ref q2, .ref q3, .ref q4, .ref q5, .ref q6, .ref q7, .null])), (q1, .inl (cy 0, 3, .inl (fun _ => 0))), (q2, .inl (cy 0, 12, .inl (fun _ => 0))), (q3, .inl (cy 0, 12, .inl (fun _ => 0))), (q4, .inl (cy 0, 12, .inl (fun _ => 0))), (q5, .inl (cy 0, 18, .inl (fun _ => 0))), (q6, .inl (cy 0, 3, .inl (fun _ => 0))), (q7, .inl (cy 1, 12, .inr (.inl (fun _ => 0)))), (q8, .inl (cy 1, 9, .inr (.inl (fun _ => 0))))]) hB hP hD hS rfl AC_1 rfl RA_1 (fun _ => rfl) (by decide) (by decide) (by decide) dX3_init_61 rfl rfl ⟨by omega, by omega⟩ rfl (fun _ => List.append_assoc _ _ _) (fun q8 H hP hD hS => ?_)
  refine bput (C := RX3) (T := TX3) (N := 11) (ci := 3) (k0 := 0) (k := 10) (v := .ref q8) (ty := tyX3 10) (ys' := [(h0, .inr (3, [.ref q1, .int 0, .int 0, .int 0, .ref q2, .ref q3, .ref q4, .ref q5, .ref q6, .ref q7, .ref q8])), (q1, .inl (cy 0, 3, .inl (fun _ => 0))), (q2, .inl (cy 0, 12, .inl (fun _ => 0))), (q3, .inl (cy 0, 12, .inl (fun _ => 0))), (q4, .inl (cy 0, 12, .inl (fun _ => 0))), (q5, .inl (cy 0, 18, .inl (fun _ => 0))), (q6, .inl (cy 0, 3, .inl (fun _ => 0))), (q7, .inl (cy 1, 12, .inr (.inl (fun _ => 0)))), (q8, .inl (cy 1, 9, .inr (.inl (fun _ => 0))))]) hB hin hP hD hS rfl rfl inT3 tyX3 tyX3_ok nmX3 (by decide) rfl FB_X3_34 (.inr ⟨rfl, rfl⟩) (tyX3_ok 10 (by decide)) rfl rfl (Nat.le_of_ble_eq_true rfl) dX3_init_63 rfl rfl (fun H locs hP hD hS => ?_)
  exact W.vret hx hb hr (fun t ht _ => ⟨rfl, ⟨fun j => [q1, q2, q3, q4, q5, q6, q7, q8].getD j 0, by rw [ht]; exact hP, hD⟩, hS.F ht⟩) hS.2.2 dX3_init_66 hlocks
def mX0_init : zM := (RX0, yX0_init, cX0_init, 1, none)
def y_X0 (cy : Nat → ClassId) (h0 : Nat) (g : Nat → Nat) : va_W := [(h0, .inr (0, [.int 0, .int 0, .int 0, .int 0, .int 0]))]
set_option maxRecDepth 100000 in
set_option maxHeartbeats 8000000 in
theorem c_X0 (l : Launch) (D : va_G) (cy : Nat → ClassId) (ws0 : va_W) (h0 : Nat) : bMt l 2 0 0 mX0_init [.ref h0] (ws0 ++ [(h0, .inr (0, [.int 0, .int 0, .int 0, .int 0, .int 0]))]) (fun g => ws0 ++ y_X0 cy h0 g) D cy := by
  refine bMt_of (by decide) rfl rfl (Nat.le_of_ble_eq_true rfl) ?_
  intro p e R s m args below meth c A ls hR1 hR2 hB hlocks hin hr hP hD hl
  have hl : lv_has ls 1 [(0, .ref h0)] := hl
  have hx := hB.1
  have hb := hB.2.1
  have hts := hB.2.2.2.2.1
  have hRR := hB.2.2.2.2.2.1
  have hin : meth.name = "<init>" := hin
  have hS : va_S A s.heap s.heap [] := va_S.rf
  refine lv_aload_n hx hb dX0_init_0 rfl (lv_at hl 0 rfl) ?_
  refine bobj hB hl.1 (by decide) OL_X0 OI OC dX0_init_1 rfl ?_
  exact W.vret hx hb hr (fun t ht _ => ⟨rfl, ⟨fun j => [].getD j 0, by rw [ht]; exact hP, hD⟩, hS.F ht⟩) hS.2.2 dX0_init_4 hlocks
def mX5_init : zM := (RX5, yX5_init, cX5_init, 1, none)
def y_X5 (cy : Nat → ClassId) (h0 : Nat) (g : Nat → Nat) : va_W := [(h0, .inr (5, [.ref (g 0), .ref (g 1)])), (g 0, .inl (cy 0, 6, .inl (fun _ => 0))), (g 1, .inl (cy 0, 6, .inl (fun _ => 0)))]
set_option maxRecDepth 100000 in
set_option maxHeartbeats 8000000 in
theorem c_X5 (l : Launch) (D : va_G) (cy : Nat → ClassId) (ws0 : va_W) (h0 : Nat) : bMt l 2 2 12 mX5_init [.ref h0] (ws0 ++ [(h0, .inr (5, [.null, .null]))]) (fun g => ws0 ++ y_X5 cy h0 g) D cy := by
  refine bMt_of (by decide) rfl rfl (Nat.le_of_ble_eq_true rfl) ?_
  intro p e R s m args below meth c A ls hR1 hR2 hB hlocks hin hr hP hD hl
  have hl : lv_has ls 1 [(0, .ref h0)] := hl
  have hx := hB.1
  have hb := hB.2.1
  have hts := hB.2.2.2.2.1
  have hRR := hB.2.2.2.2.2.1
  have hin : meth.name = "<init>" := hin
  have hS : va_S A s.heap s.heap [] := va_S.rf
  refine lv_aload_n hx hb dX5_init_0 rfl (lv_at hl 0 rfl) ?_
  refine bobj hB hl.1 (by decide) OL_X5 OI OC dX5_init_1 rfl ?_
  refine lv_aload_n hx hb dX5_init_4 rfl (lv_at hl 0 rfl) ?_
  refine lv_bipush (v := 6) hx hb dX5_init_5 (by decide) ?_
  refine bnewa (atype := .int) (ty := .int) (t := 0) (N := 6) (a0 := (6, .inl (fun _ => 0))) (cells' := 1) (slots' := 6) (ws1 := fun q1 => ws0 ++ [(h0, .inr (5, [.null, .null])), (q1, .inl (cy 0, 6, .inl (fun _ => 0)))]) hB hP hD hS rfl AC_0 rfl RA_0 (fun _ => rfl) (by decide) (by decide) (by decide) dX5_init_7 rfl rfl ⟨by omega, by omega⟩ rfl (fun _ => List.append_assoc _ _ _) (fun q1 H hP hD hS => ?_)
  refine bput (C := RX5) (T := TX5) (N := 2) (ci := 5) (k0 := 0) (k := 0) (v := .ref q1) (ty := tyX5 0) (ys' := [(h0, .inr (5, [.ref q1, .null])), (q1, .inl (cy 0, 6, .inl (fun _ => 0)))]) hB hin hP hD hS rfl rfl inT5 tyX5 tyX5_ok nmX5 (by decide) rfl FB_X5_11 (.inr ⟨rfl, rfl⟩) (tyX5_ok 0 (by decide)) rfl rfl (Nat.le_of_ble_eq_true rfl) dX5_init_9 rfl rfl (fun H locs hP hD hS => ?_)
  refine lv_aload_n hx hb dX5_init_12 rfl (lv_at hl 0 rfl) ?_
  refine lv_bipush (v := 6) hx hb dX5_init_13 (by decide) ?_
  refine bnewa (atype := .int) (ty := .int) (t := 0) (N := 6) (a0 := (6, .inl (fun _ => 0))) (cells' := 2) (slots' := 12) (ws1 := fun q2 => ws0 ++ [(h0, .inr (5, [.ref q1, .null])), (q1, .inl (cy 0, 6, .inl (fun _ => 0))), (q2, .inl (cy 0, 6, .inl (fun _ => 0)))]) hB hP hD hS rfl AC_0 rfl RA_0 (fun _ => rfl) (by decide) (by decide) (by decide) dX5_init_15 rfl rfl ⟨by omega, by omega⟩ rfl (fun _ => List.append_assoc _ _ _) (fun q2 H hP hD hS => ?_)
  refine bput (C := RX5) (T := TX5) (N := 2) (ci := 5) (k0 := 0) (k := 1) (v := .ref q2) (ty := tyX5 1) (ys' := [(h0, .inr (5, [.ref q1, .ref q2])), (q1, .inl (cy 0, 6, .inl (fun _ => 0))), (q2, .inl (cy 0, 6, .inl (fun _ => 0)))]) hB hin hP hD hS rfl rfl inT5 tyX5 tyX5_ok nmX5 (by decide) rfl FB_X5_15 (.inr ⟨rfl, rfl⟩) (tyX5_ok 1 (by decide)) rfl rfl (Nat.le_of_ble_eq_true rfl) dX5_init_17 rfl rfl (fun H locs hP hD hS => ?_)
  exact W.vret hx hb hr (fun t ht _ => ⟨rfl, ⟨fun j => [q1, q2].getD j 0, by rw [ht]; exact hP, hD⟩, hS.F ht⟩) hS.2.2 dX5_init_20 hlocks
