/-! THE FIRST STATE -/
def S0 : zS := (zov (fun _ => 0) [(329, 600), (1728, 13), (1920, 2), (3461, 600), (3474, -1)], zov (fun _ _ => 0) [(25, (upd (upd (upd (upd (upd (upd (fun _ => 0) 0 50) 1 30) 2 20) 3 10) 4 5) 5 5)), (29, (flN (-1) (fun _ => 0) 13)), (32, (flN (-1) (fun _ => 0) 2)), (63, (upd (upd (upd (upd (upd (upd (fun _ => 0) 0 50) 1 30) 2 20) 3 10) 4 5) 5 5))], fun _ _ => 0)
def adF (q0 : Nat) (g1 : Nat → Nat) (q1 : Nat) (g2 : Nat → Nat) (q2 : Nat) (aK aV : Nat → Nat) (k : Nat) : Nat := cond (Nat.beq k 0) q0 (cond (Nat.ble k 53) (g1 (k - 1)) (cond (Nat.beq k 54) q1 (cond (Nat.ble k 86) (g2 (k - 55)) (cond (Nat.beq k 87) q2 (cond (Nat.ble k 93) (aK (k - 88)) (aV (k - 94)))))))
def W88 (cy : Nat → ClassId) (q0 : Nat) (g1 : Nat → Nat) (q1 : Nat) (g2 : Nat → Nat) (q2 : Nat) : va_W := (y_X11 cy q0 g1 ++ y_X12 cy q1 g2) ++ [(q2, .inl (cy 1, 1, .inr (.inl (fun _ => 0))))]
section
variable {cy : Nat → ClassId} {q0 q1 q2 : Nat} {g1 g2 aK aV : Nat → Nat}
theorem wf_54 : ([some (some 55), none, some (some 56), some (some 57), some (some 58), none, none, some (some 59), some (some 60), some (some 61), none, some (some 62), some (some 63), some (some 64), none, some (some 65), none, none, some none, none, none, none, none, some (some 66), some (some 67), some (some 68), some (some 69), none, none, none, none, none, none, some (some 70), some (some 71), some (some 72), some (some 73), some (some 74), none, some (some 75), none, none, none, none, some (some 76), some (some 77), some (some 78), none, some (some 79), some (some 80), some (some 81), some (some 82), some (some 83), none, none, some (some 84), some (some 85), some (some 86)] : List zF).mapIdx (zfv (adF q0 g1 q1 g2 q2 aK aV) S0.1 54) = [.ref (g2 0), .int 0, .ref (g2 1), .ref (g2 2), .ref (g2 3), .int 600, .int 0, .ref (g2 4), .ref (g2 5), .ref (g2 6), .int 0, .ref (g2 7), .ref (g2 8), .ref (g2 9), .int 0, .ref (g2 10), .int 0, .int 0, .null, .int 0, .int 0, .int 0, .int 0, .ref (g2 11), .ref (g2 12), .ref (g2 13), .ref (g2 14), .int 0, .int 0, .int 0, .int 0, .int 0, .int 0, .ref (g2 15), .ref (g2 16), .ref (g2 17), .ref (g2 18), .ref (g2 19), .int 0, .ref (g2 20), .int 0, .int 0, .int 0, .int 0, .ref (g2 21), .ref (g2 22), .ref (g2 23), .int 0, .ref (g2 24), .ref (g2 25), .ref (g2 26), .ref (g2 27), .ref (g2 28), .int 0, .int 0, .ref (g2 29), .ref (g2 30), .ref (g2 31)] := by
  apply List.ext_getElem?
  intro i
  rw [List.getElem?_mapIdx]
  match i with
  | 0 => rfl
  | 1 => rfl
  | 2 => rfl
  | 3 => rfl
  | 4 => rfl
  | 5 => rfl
  | 6 => rfl
  | 7 => rfl
  | 8 => rfl
  | 9 => rfl
  | 10 => rfl
  | 11 => rfl
  | 12 => rfl
  | 13 => rfl
  | 14 => rfl
  | 15 => rfl
  | 16 => rfl
  | 17 => rfl
  | 18 => rfl
  | 19 => rfl
  | 20 => rfl
  | 21 => rfl
  | 22 => rfl
  | 23 => rfl
  | 24 => rfl
  | 25 => rfl
  | 26 => rfl
  | 27 => rfl
  | 28 => rfl
  | 29 => rfl
  | 30 => rfl
  | 31 => rfl
  | 32 => rfl
  | 33 => rfl
  | 34 => rfl
  | 35 => rfl
  | 36 => rfl
  | 37 => rfl
  | 38 => rfl
  | 39 => rfl
  | 40 => rfl
  | 41 => rfl
  | 42 => rfl
  | 43 => rfl
  | 44 => rfl
  | 45 => rfl
  | 46 => rfl
  | 47 => rfl
  | 48 => rfl
  | 49 => rfl
  | 50 => rfl
  | 51 => rfl
  | 52 => rfl
  | 53 => rfl
  | 54 => rfl
  | 55 => rfl
  | 56 => rfl
  | 57 => rfl
  | i + 58 => rfl
theorem wk_54 : (zwd zW cy (adF q0 g1 q1 g2 q2 aK aV) S0)[54]? = (W88 cy q0 g1 q1 g2 q2)[54]? := (zwd_at zW_54).trans (congrArg (fun z => some (q1, Sum.inr (12, z))) wf_54)
theorem wk_0 : (zwd zW cy (adF q0 g1 q1 g2 q2 aK aV) S0)[0]? = (W88 cy q0 g1 q1 g2 q2)[0]? := (zwd_at zW_0).trans rfl
theorem wk_1 : (zwd zW cy (adF q0 g1 q1 g2 q2 aK aV) S0)[1]? = (W88 cy q0 g1 q1 g2 q2)[1]? := (zwd_at zW_1).trans rfl
theorem wk_2 : (zwd zW cy (adF q0 g1 q1 g2 q2 aK aV) S0)[2]? = (W88 cy q0 g1 q1 g2 q2)[2]? := (zwd_at zW_2).trans rfl
theorem wk_3 : (zwd zW cy (adF q0 g1 q1 g2 q2 aK aV) S0)[3]? = (W88 cy q0 g1 q1 g2 q2)[3]? := (zwd_at zW_3).trans rfl
theorem wk_4 : (zwd zW cy (adF q0 g1 q1 g2 q2 aK aV) S0)[4]? = (W88 cy q0 g1 q1 g2 q2)[4]? := (zwd_at zW_4).trans rfl
theorem wk_5 : (zwd zW cy (adF q0 g1 q1 g2 q2 aK aV) S0)[5]? = (W88 cy q0 g1 q1 g2 q2)[5]? := (zwd_at zW_5).trans rfl
theorem wk_6 : (zwd zW cy (adF q0 g1 q1 g2 q2 aK aV) S0)[6]? = (W88 cy q0 g1 q1 g2 q2)[6]? := (zwd_at zW_6).trans rfl
theorem wk_7 : (zwd zW cy (adF q0 g1 q1 g2 q2 aK aV) S0)[7]? = (W88 cy q0 g1 q1 g2 q2)[7]? := (zwd_at zW_7).trans rfl
theorem wk_8 : (zwd zW cy (adF q0 g1 q1 g2 q2 aK aV) S0)[8]? = (W88 cy q0 g1 q1 g2 q2)[8]? := (zwd_at zW_8).trans rfl
theorem wk_9 : (zwd zW cy (adF q0 g1 q1 g2 q2 aK aV) S0)[9]? = (W88 cy q0 g1 q1 g2 q2)[9]? := (zwd_at zW_9).trans rfl
theorem wk_10 : (zwd zW cy (adF q0 g1 q1 g2 q2 aK aV) S0)[10]? = (W88 cy q0 g1 q1 g2 q2)[10]? := (zwd_at zW_10).trans rfl
theorem wk_11 : (zwd zW cy (adF q0 g1 q1 g2 q2 aK aV) S0)[11]? = (W88 cy q0 g1 q1 g2 q2)[11]? := (zwd_at zW_11).trans rfl
theorem wk_12 : (zwd zW cy (adF q0 g1 q1 g2 q2 aK aV) S0)[12]? = (W88 cy q0 g1 q1 g2 q2)[12]? := (zwd_at zW_12).trans rfl
theorem wk_13 : (zwd zW cy (adF q0 g1 q1 g2 q2 aK aV) S0)[13]? = (W88 cy q0 g1 q1 g2 q2)[13]? := (zwd_at zW_13).trans rfl
theorem wk_14 : (zwd zW cy (adF q0 g1 q1 g2 q2 aK aV) S0)[14]? = (W88 cy q0 g1 q1 g2 q2)[14]? := (zwd_at zW_14).trans rfl
theorem wk_15 : (zwd zW cy (adF q0 g1 q1 g2 q2 aK aV) S0)[15]? = (W88 cy q0 g1 q1 g2 q2)[15]? := (zwd_at zW_15).trans rfl
theorem wk_16 : (zwd zW cy (adF q0 g1 q1 g2 q2 aK aV) S0)[16]? = (W88 cy q0 g1 q1 g2 q2)[16]? := (zwd_at zW_16).trans rfl
theorem wk_17 : (zwd zW cy (adF q0 g1 q1 g2 q2 aK aV) S0)[17]? = (W88 cy q0 g1 q1 g2 q2)[17]? := (zwd_at zW_17).trans rfl
theorem wk_18 : (zwd zW cy (adF q0 g1 q1 g2 q2 aK aV) S0)[18]? = (W88 cy q0 g1 q1 g2 q2)[18]? := (zwd_at zW_18).trans rfl
theorem wk_19 : (zwd zW cy (adF q0 g1 q1 g2 q2 aK aV) S0)[19]? = (W88 cy q0 g1 q1 g2 q2)[19]? := (zwd_at zW_19).trans rfl
theorem wk_20 : (zwd zW cy (adF q0 g1 q1 g2 q2 aK aV) S0)[20]? = (W88 cy q0 g1 q1 g2 q2)[20]? := (zwd_at zW_20).trans rfl
theorem wk_21 : (zwd zW cy (adF q0 g1 q1 g2 q2 aK aV) S0)[21]? = (W88 cy q0 g1 q1 g2 q2)[21]? := (zwd_at zW_21).trans rfl
theorem wk_22 : (zwd zW cy (adF q0 g1 q1 g2 q2 aK aV) S0)[22]? = (W88 cy q0 g1 q1 g2 q2)[22]? := (zwd_at zW_22).trans rfl
theorem wk_23 : (zwd zW cy (adF q0 g1 q1 g2 q2 aK aV) S0)[23]? = (W88 cy q0 g1 q1 g2 q2)[23]? := (zwd_at zW_23).trans rfl
theorem wk_24 : (zwd zW cy (adF q0 g1 q1 g2 q2 aK aV) S0)[24]? = (W88 cy q0 g1 q1 g2 q2)[24]? := (zwd_at zW_24).trans rfl
theorem wk_25 : (zwd zW cy (adF q0 g1 q1 g2 q2 aK aV) S0)[25]? = (W88 cy q0 g1 q1 g2 q2)[25]? := (zwd_at zW_25).trans rfl
theorem wk_26 : (zwd zW cy (adF q0 g1 q1 g2 q2 aK aV) S0)[26]? = (W88 cy q0 g1 q1 g2 q2)[26]? := (zwd_at zW_26).trans rfl
theorem wk_27 : (zwd zW cy (adF q0 g1 q1 g2 q2 aK aV) S0)[27]? = (W88 cy q0 g1 q1 g2 q2)[27]? := (zwd_at zW_27).trans rfl
theorem wk_28 : (zwd zW cy (adF q0 g1 q1 g2 q2 aK aV) S0)[28]? = (W88 cy q0 g1 q1 g2 q2)[28]? := (zwd_at zW_28).trans rfl
theorem wk_29 : (zwd zW cy (adF q0 g1 q1 g2 q2 aK aV) S0)[29]? = (W88 cy q0 g1 q1 g2 q2)[29]? := (zwd_at zW_29).trans rfl
theorem wk_30 : (zwd zW cy (adF q0 g1 q1 g2 q2 aK aV) S0)[30]? = (W88 cy q0 g1 q1 g2 q2)[30]? := (zwd_at zW_30).trans rfl
theorem wk_31 : (zwd zW cy (adF q0 g1 q1 g2 q2 aK aV) S0)[31]? = (W88 cy q0 g1 q1 g2 q2)[31]? := (zwd_at zW_31).trans rfl
theorem wk_32 : (zwd zW cy (adF q0 g1 q1 g2 q2 aK aV) S0)[32]? = (W88 cy q0 g1 q1 g2 q2)[32]? := (zwd_at zW_32).trans rfl
theorem wk_33 : (zwd zW cy (adF q0 g1 q1 g2 q2 aK aV) S0)[33]? = (W88 cy q0 g1 q1 g2 q2)[33]? := (zwd_at zW_33).trans rfl
theorem wk_34 : (zwd zW cy (adF q0 g1 q1 g2 q2 aK aV) S0)[34]? = (W88 cy q0 g1 q1 g2 q2)[34]? := (zwd_at zW_34).trans rfl
theorem wk_35 : (zwd zW cy (adF q0 g1 q1 g2 q2 aK aV) S0)[35]? = (W88 cy q0 g1 q1 g2 q2)[35]? := (zwd_at zW_35).trans rfl
theorem wk_36 : (zwd zW cy (adF q0 g1 q1 g2 q2 aK aV) S0)[36]? = (W88 cy q0 g1 q1 g2 q2)[36]? := (zwd_at zW_36).trans rfl
theorem wk_37 : (zwd zW cy (adF q0 g1 q1 g2 q2 aK aV) S0)[37]? = (W88 cy q0 g1 q1 g2 q2)[37]? := (zwd_at zW_37).trans rfl
theorem wk_38 : (zwd zW cy (adF q0 g1 q1 g2 q2 aK aV) S0)[38]? = (W88 cy q0 g1 q1 g2 q2)[38]? := (zwd_at zW_38).trans rfl
theorem wk_39 : (zwd zW cy (adF q0 g1 q1 g2 q2 aK aV) S0)[39]? = (W88 cy q0 g1 q1 g2 q2)[39]? := (zwd_at zW_39).trans rfl
theorem wk_40 : (zwd zW cy (adF q0 g1 q1 g2 q2 aK aV) S0)[40]? = (W88 cy q0 g1 q1 g2 q2)[40]? := (zwd_at zW_40).trans rfl
theorem wk_41 : (zwd zW cy (adF q0 g1 q1 g2 q2 aK aV) S0)[41]? = (W88 cy q0 g1 q1 g2 q2)[41]? := (zwd_at zW_41).trans rfl
theorem wk_42 : (zwd zW cy (adF q0 g1 q1 g2 q2 aK aV) S0)[42]? = (W88 cy q0 g1 q1 g2 q2)[42]? := (zwd_at zW_42).trans rfl
theorem wk_43 : (zwd zW cy (adF q0 g1 q1 g2 q2 aK aV) S0)[43]? = (W88 cy q0 g1 q1 g2 q2)[43]? := (zwd_at zW_43).trans rfl
theorem wk_44 : (zwd zW cy (adF q0 g1 q1 g2 q2 aK aV) S0)[44]? = (W88 cy q0 g1 q1 g2 q2)[44]? := (zwd_at zW_44).trans rfl
theorem wk_45 : (zwd zW cy (adF q0 g1 q1 g2 q2 aK aV) S0)[45]? = (W88 cy q0 g1 q1 g2 q2)[45]? := (zwd_at zW_45).trans rfl
theorem wk_46 : (zwd zW cy (adF q0 g1 q1 g2 q2 aK aV) S0)[46]? = (W88 cy q0 g1 q1 g2 q2)[46]? := (zwd_at zW_46).trans rfl
theorem wk_47 : (zwd zW cy (adF q0 g1 q1 g2 q2 aK aV) S0)[47]? = (W88 cy q0 g1 q1 g2 q2)[47]? := (zwd_at zW_47).trans rfl
theorem wk_48 : (zwd zW cy (adF q0 g1 q1 g2 q2 aK aV) S0)[48]? = (W88 cy q0 g1 q1 g2 q2)[48]? := (zwd_at zW_48).trans rfl
theorem wk_49 : (zwd zW cy (adF q0 g1 q1 g2 q2 aK aV) S0)[49]? = (W88 cy q0 g1 q1 g2 q2)[49]? := (zwd_at zW_49).trans rfl
theorem wk_50 : (zwd zW cy (adF q0 g1 q1 g2 q2 aK aV) S0)[50]? = (W88 cy q0 g1 q1 g2 q2)[50]? := (zwd_at zW_50).trans rfl
theorem wk_51 : (zwd zW cy (adF q0 g1 q1 g2 q2 aK aV) S0)[51]? = (W88 cy q0 g1 q1 g2 q2)[51]? := (zwd_at zW_51).trans rfl
theorem wk_52 : (zwd zW cy (adF q0 g1 q1 g2 q2 aK aV) S0)[52]? = (W88 cy q0 g1 q1 g2 q2)[52]? := (zwd_at zW_52).trans rfl
theorem wk_53 : (zwd zW cy (adF q0 g1 q1 g2 q2 aK aV) S0)[53]? = (W88 cy q0 g1 q1 g2 q2)[53]? := (zwd_at zW_53).trans rfl
theorem wk_55 : (zwd zW cy (adF q0 g1 q1 g2 q2 aK aV) S0)[55]? = (W88 cy q0 g1 q1 g2 q2)[55]? := (zwd_at zW_55).trans rfl
theorem wk_56 : (zwd zW cy (adF q0 g1 q1 g2 q2 aK aV) S0)[56]? = (W88 cy q0 g1 q1 g2 q2)[56]? := (zwd_at zW_56).trans rfl
theorem wk_57 : (zwd zW cy (adF q0 g1 q1 g2 q2 aK aV) S0)[57]? = (W88 cy q0 g1 q1 g2 q2)[57]? := (zwd_at zW_57).trans rfl
theorem wk_58 : (zwd zW cy (adF q0 g1 q1 g2 q2 aK aV) S0)[58]? = (W88 cy q0 g1 q1 g2 q2)[58]? := (zwd_at zW_58).trans rfl
theorem wk_59 : (zwd zW cy (adF q0 g1 q1 g2 q2 aK aV) S0)[59]? = (W88 cy q0 g1 q1 g2 q2)[59]? := (zwd_at zW_59).trans rfl
theorem wk_60 : (zwd zW cy (adF q0 g1 q1 g2 q2 aK aV) S0)[60]? = (W88 cy q0 g1 q1 g2 q2)[60]? := (zwd_at zW_60).trans rfl
theorem wk_61 : (zwd zW cy (adF q0 g1 q1 g2 q2 aK aV) S0)[61]? = (W88 cy q0 g1 q1 g2 q2)[61]? := (zwd_at zW_61).trans rfl
theorem wk_62 : (zwd zW cy (adF q0 g1 q1 g2 q2 aK aV) S0)[62]? = (W88 cy q0 g1 q1 g2 q2)[62]? := (zwd_at zW_62).trans rfl
theorem wk_63 : (zwd zW cy (adF q0 g1 q1 g2 q2 aK aV) S0)[63]? = (W88 cy q0 g1 q1 g2 q2)[63]? := (zwd_at zW_63).trans rfl
theorem wk_64 : (zwd zW cy (adF q0 g1 q1 g2 q2 aK aV) S0)[64]? = (W88 cy q0 g1 q1 g2 q2)[64]? := (zwd_at zW_64).trans rfl
theorem wk_65 : (zwd zW cy (adF q0 g1 q1 g2 q2 aK aV) S0)[65]? = (W88 cy q0 g1 q1 g2 q2)[65]? := (zwd_at zW_65).trans rfl
theorem wk_66 : (zwd zW cy (adF q0 g1 q1 g2 q2 aK aV) S0)[66]? = (W88 cy q0 g1 q1 g2 q2)[66]? := (zwd_at zW_66).trans rfl
theorem wk_67 : (zwd zW cy (adF q0 g1 q1 g2 q2 aK aV) S0)[67]? = (W88 cy q0 g1 q1 g2 q2)[67]? := (zwd_at zW_67).trans rfl
theorem wk_68 : (zwd zW cy (adF q0 g1 q1 g2 q2 aK aV) S0)[68]? = (W88 cy q0 g1 q1 g2 q2)[68]? := (zwd_at zW_68).trans rfl
theorem wk_69 : (zwd zW cy (adF q0 g1 q1 g2 q2 aK aV) S0)[69]? = (W88 cy q0 g1 q1 g2 q2)[69]? := (zwd_at zW_69).trans rfl
theorem wk_70 : (zwd zW cy (adF q0 g1 q1 g2 q2 aK aV) S0)[70]? = (W88 cy q0 g1 q1 g2 q2)[70]? := (zwd_at zW_70).trans rfl
theorem wk_71 : (zwd zW cy (adF q0 g1 q1 g2 q2 aK aV) S0)[71]? = (W88 cy q0 g1 q1 g2 q2)[71]? := (zwd_at zW_71).trans rfl
theorem wk_72 : (zwd zW cy (adF q0 g1 q1 g2 q2 aK aV) S0)[72]? = (W88 cy q0 g1 q1 g2 q2)[72]? := (zwd_at zW_72).trans rfl
theorem wk_73 : (zwd zW cy (adF q0 g1 q1 g2 q2 aK aV) S0)[73]? = (W88 cy q0 g1 q1 g2 q2)[73]? := (zwd_at zW_73).trans rfl
theorem wk_74 : (zwd zW cy (adF q0 g1 q1 g2 q2 aK aV) S0)[74]? = (W88 cy q0 g1 q1 g2 q2)[74]? := (zwd_at zW_74).trans rfl
theorem wk_75 : (zwd zW cy (adF q0 g1 q1 g2 q2 aK aV) S0)[75]? = (W88 cy q0 g1 q1 g2 q2)[75]? := (zwd_at zW_75).trans rfl
theorem wk_76 : (zwd zW cy (adF q0 g1 q1 g2 q2 aK aV) S0)[76]? = (W88 cy q0 g1 q1 g2 q2)[76]? := (zwd_at zW_76).trans rfl
theorem wk_77 : (zwd zW cy (adF q0 g1 q1 g2 q2 aK aV) S0)[77]? = (W88 cy q0 g1 q1 g2 q2)[77]? := (zwd_at zW_77).trans rfl
theorem wk_78 : (zwd zW cy (adF q0 g1 q1 g2 q2 aK aV) S0)[78]? = (W88 cy q0 g1 q1 g2 q2)[78]? := (zwd_at zW_78).trans rfl
theorem wk_79 : (zwd zW cy (adF q0 g1 q1 g2 q2 aK aV) S0)[79]? = (W88 cy q0 g1 q1 g2 q2)[79]? := (zwd_at zW_79).trans rfl
theorem wk_80 : (zwd zW cy (adF q0 g1 q1 g2 q2 aK aV) S0)[80]? = (W88 cy q0 g1 q1 g2 q2)[80]? := (zwd_at zW_80).trans rfl
theorem wk_81 : (zwd zW cy (adF q0 g1 q1 g2 q2 aK aV) S0)[81]? = (W88 cy q0 g1 q1 g2 q2)[81]? := (zwd_at zW_81).trans rfl
theorem wk_82 : (zwd zW cy (adF q0 g1 q1 g2 q2 aK aV) S0)[82]? = (W88 cy q0 g1 q1 g2 q2)[82]? := (zwd_at zW_82).trans rfl
theorem wk_83 : (zwd zW cy (adF q0 g1 q1 g2 q2 aK aV) S0)[83]? = (W88 cy q0 g1 q1 g2 q2)[83]? := (zwd_at zW_83).trans rfl
theorem wk_84 : (zwd zW cy (adF q0 g1 q1 g2 q2 aK aV) S0)[84]? = (W88 cy q0 g1 q1 g2 q2)[84]? := (zwd_at zW_84).trans rfl
theorem wk_85 : (zwd zW cy (adF q0 g1 q1 g2 q2 aK aV) S0)[85]? = (W88 cy q0 g1 q1 g2 q2)[85]? := (zwd_at zW_85).trans rfl
theorem wk_86 : (zwd zW cy (adF q0 g1 q1 g2 q2 aK aV) S0)[86]? = (W88 cy q0 g1 q1 g2 q2)[86]? := (zwd_at zW_86).trans rfl
theorem wk_87 : (zwd zW cy (adF q0 g1 q1 g2 q2 aK aV) S0)[87]? = (W88 cy q0 g1 q1 g2 q2)[87]? := (zwd_at zW_87).trans rfl
theorem w_all : ∀ k, k < 88 → (zwd zW cy (adF q0 g1 q1 g2 q2 aK aV) S0)[k]? = (W88 cy q0 g1 q1 g2 q2)[k]?
  | 0, _ => wk_0
  | 1, _ => wk_1
  | 2, _ => wk_2
  | 3, _ => wk_3
  | 4, _ => wk_4
  | 5, _ => wk_5
  | 6, _ => wk_6
  | 7, _ => wk_7
  | 8, _ => wk_8
  | 9, _ => wk_9
  | 10, _ => wk_10
  | 11, _ => wk_11
  | 12, _ => wk_12
  | 13, _ => wk_13
  | 14, _ => wk_14
  | 15, _ => wk_15
  | 16, _ => wk_16
  | 17, _ => wk_17
  | 18, _ => wk_18
  | 19, _ => wk_19
  | 20, _ => wk_20
  | 21, _ => wk_21
  | 22, _ => wk_22
  | 23, _ => wk_23
  | 24, _ => wk_24
  | 25, _ => wk_25
  | 26, _ => wk_26
  | 27, _ => wk_27
  | 28, _ => wk_28
  | 29, _ => wk_29
  | 30, _ => wk_30
  | 31, _ => wk_31
  | 32, _ => wk_32
  | 33, _ => wk_33
  | 34, _ => wk_34
  | 35, _ => wk_35
  | 36, _ => wk_36
  | 37, _ => wk_37
  | 38, _ => wk_38
  | 39, _ => wk_39
  | 40, _ => wk_40
  | 41, _ => wk_41
  | 42, _ => wk_42
  | 43, _ => wk_43
  | 44, _ => wk_44
  | 45, _ => wk_45
  | 46, _ => wk_46
  | 47, _ => wk_47
  | 48, _ => wk_48
  | 49, _ => wk_49
  | 50, _ => wk_50
  | 51, _ => wk_51
  | 52, _ => wk_52
  | 53, _ => wk_53
  | 54, _ => wk_54
  | 55, _ => wk_55
  | 56, _ => wk_56
  | 57, _ => wk_57
  | 58, _ => wk_58
  | 59, _ => wk_59
  | 60, _ => wk_60
  | 61, _ => wk_61
  | 62, _ => wk_62
  | 63, _ => wk_63
  | 64, _ => wk_64
  | 65, _ => wk_65
  | 66, _ => wk_66
  | 67, _ => wk_67
  | 68, _ => wk_68
  | 69, _ => wk_69
  | 70, _ => wk_70
  | 71, _ => wk_71
  | 72, _ => wk_72
  | 73, _ => wk_73
  | 74, _ => wk_74
  | 75, _ => wk_75
  | 76, _ => wk_76
  | 77, _ => wk_77
  | 78, _ => wk_78
  | 79, _ => wk_79
  | 80, _ => wk_80
  | 81, _ => wk_81
  | 82, _ => wk_82
  | 83, _ => wk_83
  | 84, _ => wk_84
  | 85, _ => wk_85
  | 86, _ => wk_86
  | 87, _ => wk_87
  | k + 88, h => absurd h (by omega)
theorem zW_len : zW.length = 88 := by decide +kernel
theorem w_P {D : va_G} {H : Heap} (h : va_P D zcl (W88 cy q0 g1 q1 g2 q2) H) : va_P D zcl (zwd zW cy (adF q0 g1 q1 g2 q2 aK aV) S0) H := by
  intro k x hk
  have hl : k < 88 := by
    have := (List.getElem?_eq_some_iff.mp hk).1
    rw [zwd_len, zW_len] at this
    exact this
  exact h k x ((w_all k hl).symm.trans hk)
theorem w_at {k : Nat} (hk : k < 88) : ∃ x, (W88 cy q0 g1 q1 g2 q2)[k]? = some (adF q0 g1 q1 g2 q2 aK aV k, x) := by
  have h2 : zW[k]? = some (zW[k]'(by rw [zW_len]; exact hk)) := List.getElem?_eq_getElem _
  have h3 := zwd_at (cy := cy) (ad := adF q0 g1 q1 g2 q2 aK aV) (S := S0) h2
  rw [w_all k hk] at h3
  exact ⟨_, h3⟩
theorem w_Ad {A : Nat → Prop} (h : va_D A (W88 cy q0 g1 q1 g2 q2)) : zAd zW.length A (adF q0 g1 q1 g2 q2 aK aV) := by
  rw [zW_len]
  refine ⟨fun i j hi hj e => ?_, fun k hk => ?_⟩
  · obtain ⟨x, hx⟩ := w_at (cy := cy) (q0 := q0) (q1 := q1) (q2 := q2) (g1 := g1) (g2 := g2) (aK := aK) (aV := aV) hi
    obtain ⟨y, hy⟩ := w_at (cy := cy) (q0 := q0) (q1 := q1) (q2 := q2) (g1 := g1) (g2 := g2) (aK := aK) (aV := aV) hj
    exact h.1 i j _ _ hx hy e
  · obtain ⟨x, hx⟩ := w_at (cy := cy) (q0 := q0) (q1 := q1) (q2 := q2) (g1 := g1) (g2 := g2) (aK := aK) (aV := aV) hk
    exact h.2 k _ hx
theorem adF_K {i : Nat} (h : i < 6) : adF q0 g1 q1 g2 q2 aK aV (88 + i) = aK i := by
  rcases (show i = 0 ∨ i = 1 ∨ i = 2 ∨ i = 3 ∨ i = 4 ∨ i = 5 by omega) with rfl | rfl | rfl | rfl | rfl | rfl <;> rfl
theorem adF_V {i : Nat} (h : i < 6) : adF q0 g1 q1 g2 q2 aK aV (94 + i) = aV i := by
  rcases (show i = 0 ∨ i = 1 ∨ i = 2 ∨ i = 3 ∨ i = 4 ∨ i = 5 by omega) with rfl | rfl | rfl | rfl | rfl | rfl <;> rfl
end
def mo0 (j : Nat) : Nat := [50, 30, 20, 10, 5, 5].getD j 0
theorem okY_0 : okY mo0 (upd (upd (upd (upd (upd (upd (fun _ => 0) 0 50) 1 30) 2 20) 3 10) 4 5) 5 5) := by
  intro j hj
  rcases (show j = 0 ∨ j = 1 ∨ j = 2 ∨ j = 3 ∨ j = 4 ∨ j = 5 by omega) with rfl | rfl | rfl | rfl | rfl | rfl <;> exact ⟨by decide, by decide⟩
theorem okG_0 {st sc ca : Nat → Nat} : okG 0 st sc ca := ⟨by omega, fun h hh => absurd hh (by omega)⟩
theorem Inv_0 : Inv S0 := by
  refine Inv_i (y := 0) (tc := fun _ => 0) (F := 0) (H := 0) (P := 0) (kd := fun _ => 0) (ht := fun _ => 0) (ft := fun _ => 0) (st := fun _ => 0) (sc := fun _ => 0) (ca := fun _ => 0) (pl := fun _ => 0) (V := VE usE) (al := 600) (r := 0) (c := 0) (mo := mo0) ?_ ?_ ?_ rfl rfl rfl rfl rfl rfl (by omega) rfl rfl rowE_0 rfl rfl ?_ ?_ rfl rfl rfl ?_ rfl okY_0 okY_0
  · exact okTx0 rfl rfl
  · exact ⟨⟨by omega, fun f hf => absurd hf (by omega)⟩, fun f hf => absurd hf (by omega), ⟨okG_0, fun h hh => absurd hh (by omega)⟩, okP_0, VE_ok usE, us_x _⟩
  · exact ⟨⟨by omega, fun f hf => absurd hf (by omega)⟩, fun f hf => absurd hf (by omega), ⟨okG_0, fun h hh => absurd hh (by omega)⟩, okP_0, VE_ok usE, us_m _⟩
  · exact ⟨0, fun _ => 0, fun _ => 0, fun _ => 0, fun _ => 0, by omega, rfl, rfl, fun i hi => absurd hi (by omega)⟩
  · exact ⟨by omega, fun s hs => absurd hs (by omega)⟩
  · intro s hs
    refine .inl ?_
    rcases (show s = 0 ∨ s = 1 by omega) with rfl | rfl
    · exact ⟨by decide, by decide⟩
    · exact ⟨by decide, by decide⟩
