def f_J6_bitCount_0f7a4 (p0 : Int32) : Option Int32 :=
  lt1 ((p0 - (((p0).toUInt32 >>> (((1 : Int32)).toUInt32 &&& Int32.toUInt32 31)).toInt32 &&& (1431655765 : Int32)))) <| fun v0n1 =>
  lt1 (((v0n1 &&& (858993459 : Int32)) + (((v0n1).toUInt32 >>> (((2 : Int32)).toUInt32 &&& Int32.toUInt32 31)).toInt32 &&& (858993459 : Int32)))) <| fun v0n2 =>
  lt1 (((v0n2 + ((v0n2).toUInt32 >>> (((4 : Int32)).toUInt32 &&& Int32.toUInt32 31)).toInt32) &&& (252645135 : Int32))) <| fun v0n3 =>
  lt1 ((v0n3 + ((v0n3).toUInt32 >>> (((8 : Int32)).toUInt32 &&& Int32.toUInt32 31)).toInt32)) <| fun v0n4 =>
  lt1 ((v0n4 + ((v0n4).toUInt32 >>> (((16 : Int32)).toUInt32 &&& Int32.toUInt32 31)).toInt32)) <| fun v0n5 =>
  some (v0n5 &&& (63 : Int32))
def k_J7_fill_53178_course_counts_5 (course_counts_5x : (Nat → Int32)) : Option (Nat → Int32) :=
  some course_counts_5x
def s_J7_fill_53178_course_counts_5 (p1 : Int32) (kk5 : (Nat → Int32) → Option (Nat → Int32)) (rc5 : Int32 → (Nat → Int32) → Option (Nat → Int32)) (v2_5 : Int32) (course_counts_5 : (Nat → Int32)) : Option (Nat → Int32) :=
  if (80 : Int32) ≤ v2_5 then
    kk5 course_counts_5
  else
    gd (ix v2_5 80) <|
    lt1 ((v2_5 + (1 : Int32))) <| fun v2n1 =>
    rc5 v2n1 ((upd course_counts_5 v2_5.toNatClampNeg p1))
def f_J7_fill_53178_course_counts (p1 : Int32) (course_counts : (Nat → Int32)) : Option (Nat → Int32) :=
  ml2 (s_J7_fill_53178_course_counts_5 p1 (k_J7_fill_53178_course_counts_5)) zN (0 : Int32) course_counts
def k_J7_fill_53178_history_sizes_5 (history_sizes_5x : (Nat → Int32)) : Option (Nat → Int32) :=
  some history_sizes_5x
def s_J7_fill_53178_history_sizes_5 (p1 : Int32) (kk5 : (Nat → Int32) → Option (Nat → Int32)) (rc5 : Int32 → (Nat → Int32) → Option (Nat → Int32)) (v2_5 : Int32) (history_sizes_5 : (Nat → Int32)) : Option (Nat → Int32) :=
  if (13 : Int32) ≤ v2_5 then
    kk5 history_sizes_5
  else
    gd (ix v2_5 13) <|
    lt1 ((v2_5 + (1 : Int32))) <| fun v2n1 =>
    rc5 v2n1 ((upd history_sizes_5 v2_5.toNatClampNeg p1))
def f_J7_fill_53178_history_sizes (p1 : Int32) (history_sizes : (Nat → Int32)) : Option (Nat → Int32) :=
  ml2 (s_J7_fill_53178_history_sizes_5 p1 (k_J7_fill_53178_history_sizes_5)) zN (0 : Int32) history_sizes
def k_J7_fill_53178_kept_sizes_5 (kept_sizes_5x : (Nat → Int32)) : Option (Nat → Int32) :=
  some kept_sizes_5x
def s_J7_fill_53178_kept_sizes_5 (p1 : Int32) (kk5 : (Nat → Int32) → Option (Nat → Int32)) (rc5 : Int32 → (Nat → Int32) → Option (Nat → Int32)) (v2_5 : Int32) (kept_sizes_5 : (Nat → Int32)) : Option (Nat → Int32) :=
  if (2 : Int32) ≤ v2_5 then
    kk5 kept_sizes_5
  else
    gd (ix v2_5 2) <|
    lt1 ((v2_5 + (1 : Int32))) <| fun v2n1 =>
    rc5 v2n1 ((upd kept_sizes_5 v2_5.toNatClampNeg p1))
def f_J7_fill_53178_kept_sizes (p1 : Int32) (kept_sizes : (Nat → Int32)) : Option (Nat → Int32) :=
  ml2 (s_J7_fill_53178_kept_sizes_5 p1 (k_J7_fill_53178_kept_sizes_5)) zN (0 : Int32) kept_sizes
def k_J7_fill_53178_rounds_draft_5 (rounds_draft_5x : (Nat → Int32)) : Option (Nat → Int32) :=
  some rounds_draft_5x
def s_J7_fill_53178_rounds_draft_5 (p1 : Int32) (kk5 : (Nat → Int32) → Option (Nat → Int32)) (rc5 : Int32 → (Nat → Int32) → Option (Nat → Int32)) (v2_5 : Int32) (rounds_draft_5 : (Nat → Int32)) : Option (Nat → Int32) :=
  if (6 : Int32) ≤ v2_5 then
    kk5 rounds_draft_5
  else
    gd (ix v2_5 6) <|
    lt1 ((v2_5 + (1 : Int32))) <| fun v2n1 =>
    rc5 v2n1 ((upd rounds_draft_5 v2_5.toNatClampNeg p1))
def f_J7_fill_53178_rounds_draft (p1 : Int32) (rounds_draft : (Nat → Int32)) : Option (Nat → Int32) :=
  ml2 (s_J7_fill_53178_rounds_draft_5 p1 (k_J7_fill_53178_rounds_draft_5)) zN (0 : Int32) rounds_draft
def k_J7_fill_d0a16_chances_6 (chances_6x : (Nat → Int64)) : Option (Nat → Int64) :=
  some chances_6x
def s_J7_fill_d0a16_chances_6 (p1 : Int64) (kk6 : (Nat → Int64) → Option (Nat → Int64)) (rc6 : Int32 → (Nat → Int64) → Option (Nat → Int64)) (v3_6 : Int32) (chances_6 : (Nat → Int64)) : Option (Nat → Int64) :=
  if (9 : Int32) ≤ v3_6 then
    kk6 chances_6
  else
    gd (ix v3_6 9) <|
    lt1 ((v3_6 + (1 : Int32))) <| fun v3n1 =>
    rc6 v3n1 ((vp_updL chances_6 v3_6.toNatClampNeg p1))
def f_J7_fill_d0a16_chances (p1 : Int64) (chances : (Nat → Int64)) : Option (Nat → Int64) :=
  ml2 (s_J7_fill_d0a16_chances_6 p1 (k_J7_fill_d0a16_chances_6)) zN (0 : Int32) chances
def f_X9_digit (p1 : Int32) (p2 : Int32) (text_limit : Int32) (text_at : Int32) (text_signs : (Nat → Int32)) : Option (Int32 × Int32) :=
  if text_limit ≤ text_at then
    some ((-1 : Int32), text_at)
  else
    gd (ix text_at 80) <|
    if ((text_signs text_at.toNatClampNeg) - (48 : Int32)) < p1 then
      some ((-1 : Int32), text_at)
    else
      gd (ix text_at 80) <|
      if ((text_signs text_at.toNatClampNeg) - (48 : Int32)) ≤ p2 then
        gd (ix ((text_at + (1 : Int32)) - (1 : Int32)) 80) <|
        some (((text_signs ((text_at + (1 : Int32)) - (1 : Int32)).toNatClampNeg) - (48 : Int32)), (text_at + (1 : Int32)))
      else
        some ((-1 : Int32), text_at)
def f_X0_readPair (text_limit : Int32) (text_at : Int32) (act_rider : Int32) (act_horse : Int32) (text_signs : (Nat → Int32)) : Option (Int32 × Int32 × Int32 × Int32) :=
  bd2 (f_X9_digit (0 : Int32) (9 : Int32) text_limit text_at text_signs) <| fun rn1 text_atn2 =>
  if rn1 = (-1 : Int32) then
    some ((0 : Int32), text_atn2, rn1, (-1 : Int32))
  else
    bd2 (f_X9_digit (0 : Int32) (9 : Int32) text_limit text_atn2 text_signs) <| fun rn3 text_atn4 =>
    if rn3 = (-1 : Int32) then
      some ((0 : Int32), text_atn4, rn1, rn3)
    else
      some ((1 : Int32), text_atn4, rn1, rn3)
def f_X9_take (p1 : Int32) (text_limit : Int32) (text_at : Int32) (text_signs : (Nat → Int32)) : Option (Int32 × Int32) :=
  if text_limit ≤ text_at then
    some ((0 : Int32), text_at)
  else
    gd (ix text_at 80) <|
    if (text_signs text_at.toNatClampNeg) = p1 then
      some ((1 : Int32), (text_at + (1 : Int32)))
    else
      some ((0 : Int32), text_at)
def f_X0_readRide (text_limit : Int32) (text_at : Int32) (act_third : Int32) (act_fourth : Int32) (text_signs : (Nat → Int32)) : Option (Int32 × Int32 × Int32 × Int32) :=
  bd2 (f_X9_digit (0 : Int32) (9 : Int32) text_limit text_at text_signs) <| fun rn1 text_atn2 =>
  if rn1 = (-1 : Int32) then
    some ((0 : Int32), text_atn2, rn1, act_fourth)
  else
    bd2 (f_X9_take (42 : Int32) text_limit text_atn2 text_signs) <| fun rn3 text_atn4 =>
    if rn3 = 0 then
      some ((0 : Int32), text_atn4, rn1, act_fourth)
    else
      bd2 (f_X9_digit (0 : Int32) (9 : Int32) text_limit text_atn4 text_signs) <| fun rn5 text_atn6 =>
      if rn5 = (-1 : Int32) then
        some ((0 : Int32), text_atn6, rn1, rn5)
      else
        some ((1 : Int32), text_atn6, rn1, rn5)
def k_X9_number_10 (v2_10x : Int32) (text_at_10x : Int32) : Option (Int32 × Int32) :=
  some (v2_10x, text_at_10x)
def s_X9_number_10 (p1 : Int32) (text_limit : Int32) (text_signs : (Nat → Int32)) (kk10 : Int32 → Int32 → Option (Int32 × Int32)) (rc10 : Int32 → Int32 → Int32 → Option (Int32 × Int32)) (v2_10 : Int32) (v3_10 : Int32) (text_at_10 : Int32) : Option (Int32 × Int32) :=
  if p1 ≤ v3_10 then
    kk10 v2_10 text_at_10
  else
    if v2_10 = (-1 : Int32) then
      kk10 v2_10 text_at_10
    else
      bd2 (f_X9_digit (0 : Int32) (9 : Int32) text_limit text_at_10 text_signs) <| fun rn3 text_atn4 =>
      if rn3 = (-1 : Int32) then
        some (v2_10, text_atn4)
      else
        lt1 (((v2_10 * (10 : Int32)) + rn3)) <| fun v2n5 =>
        lt1 ((v3_10 + (1 : Int32))) <| fun v3n6 =>
        rc10 v2n5 v3n6 text_atn4
def f_X9_number (p1 : Int32) (text_limit : Int32) (text_at : Int32) (text_signs : (Nat → Int32)) : Option (Int32 × Int32) :=
  bd2 (f_X9_digit (0 : Int32) (9 : Int32) text_limit text_at text_signs) <| fun rn1 text_atn2 =>
  ml3 (s_X9_number_10 p1 text_limit text_signs (k_X9_number_10)) zN rn1 (1 : Int32) text_atn2
def f_X0_readTold (text_limit : Int32) (text_at : Int32) (act_third : Int32) (act_fourth : Int32) (text_signs : (Nat → Int32)) : Option (Int32 × Int32 × Int32 × Int32) :=
  bd2 (f_X9_take (58 : Int32) text_limit text_at text_signs) <| fun rn1 text_atn2 =>
  if rn1 = 0 then
    some ((0 : Int32), text_atn2, act_third, act_fourth)
  else
    bd2 (f_X9_number (2 : Int32) text_limit text_atn2 text_signs) <| fun rn3 text_atn4 =>
    if rn3 = (-1 : Int32) then
      some ((0 : Int32), text_atn4, rn3, act_fourth)
    else
      bd2 (f_X9_take (43 : Int32) text_limit text_atn4 text_signs) <| fun rn5 text_atn6 =>
      if rn5 = 0 then
        some ((0 : Int32), text_atn6, rn3, act_fourth)
      else
        bd2 (f_X9_number (4 : Int32) text_limit text_atn6 text_signs) <| fun rn7 text_atn8 =>
        if rn7 = (-1 : Int32) then
          some ((0 : Int32), text_atn8, rn3, rn7)
        else
          some ((1 : Int32), text_atn8, rn3, rn7)
def f_X0_read (text_limit : Int32) (text_at : Int32) (act_kind : Int32) (act_rider : Int32) (act_horse : Int32) (act_third : Int32) (act_fourth : Int32) (text_signs : (Nat → Int32)) : Option (Int32 × Int32 × Int32 × Int32 × Int32 × Int32 × Int32) :=
  bd2 (f_X9_take (120 : Int32) text_limit text_at text_signs) <| fun rn1 text_atn2 =>
  if rn1 = 0 then
    bd2 (f_X9_take (114 : Int32) text_limit text_atn2 text_signs) <| fun rn3 text_atn4 =>
    if rn3 = 0 then
      bd2 (f_X9_take (116 : Int32) text_limit text_atn4 text_signs) <| fun rn5 text_atn6 =>
      if rn5 = 0 then
        some ((0 : Int32), text_atn6, (116 : Int32), act_rider, act_horse, act_third, act_fourth)
      else
        bd4 (f_X0_readPair text_limit text_atn6 act_rider act_horse text_signs) <| fun rn7 text_atn8 act_ridern9 act_horsen10 =>
        if rn7 = 0 then
          some ((0 : Int32), text_atn8, (116 : Int32), act_ridern9, act_horsen10, act_third, act_fourth)
        else
          bd4 (f_X0_readTold text_limit text_atn8 act_third act_fourth text_signs) <| fun rn11 text_atn12 act_thirdn13 act_fourthn14 =>
          if rn11 = 0 then
            some ((0 : Int32), text_atn12, (116 : Int32), act_ridern9, act_horsen10, act_thirdn13, act_fourthn14)
          else
            some ((1 : Int32), text_atn12, (116 : Int32), act_ridern9, act_horsen10, act_thirdn13, act_fourthn14)
    else
      bd4 (f_X0_readPair text_limit text_atn4 act_rider act_horse text_signs) <| fun rn15 text_atn16 act_ridern17 act_horsen18 =>
      if rn15 = 0 then
        some ((0 : Int32), text_atn16, (114 : Int32), act_ridern17, act_horsen18, act_third, act_fourth)
      else
        bd4 (f_X0_readRide text_limit text_atn16 act_third act_fourth text_signs) <| fun rn19 text_atn20 act_thirdn21 act_fourthn22 =>
        if rn19 = 0 then
          some ((0 : Int32), text_atn20, (114 : Int32), act_ridern17, act_horsen18, act_thirdn21, act_fourthn22)
        else
          some ((1 : Int32), text_atn20, (114 : Int32), act_ridern17, act_horsen18, act_thirdn21, act_fourthn22)
  else
    some ((1 : Int32), text_atn2, (120 : Int32), act_rider, act_horse, act_third, act_fourth)
def f_X9_fault (text_at : Int32) : Option Int32 :=
  some ((-1 : Int32) - text_at)
def f_X9_isDone (text_size : Int32) (text_at : Int32) : Option Int32 :=
  if text_at = text_size then
    some (1 : Int32)
  else
    some (0 : Int32)
def f_X9_open (p1 : Int32) (text_size : Int32) (text_limit : Int32) (text_at : Int32) : Option (Int32 × Int32) :=
  some ((if p1 < text_size then p1 else text_size), (0 : Int32))
def k_X0_check_17 (text_limitn1 : Int32) (text_at_17x : Int32) (act_kind_17x : Int32) (act_rider_17x : Int32) (act_horse_17x : Int32) (act_third_17x : Int32) (act_fourth_17x : Int32) : Option (Int32 × Int32 × Int32 × Int32 × Int32 × Int32 × Int32 × Int32) :=
  bd1 (f_X9_fault text_at_17x) <| fun rn4 =>
  some (rn4, text_limitn1, text_at_17x, act_kind_17x, act_rider_17x, act_horse_17x, act_third_17x, act_fourth_17x)
def s_X0_check_17 (text_size : Int32) (text_signs : (Nat → Int32)) (text_limitn1 : Int32) (kk17 : Int32 → Int32 → Int32 → Int32 → Int32 → Int32 → Option (Int32 × Int32 × Int32 × Int32 × Int32 × Int32 × Int32 × Int32)) (rc17 : Int32 → Int32 → Int32 → Int32 → Int32 → Int32 → Int32 → Option (Int32 × Int32 × Int32 × Int32 × Int32 × Int32 × Int32 × Int32)) (v2_17 : Int32) (text_at_17 : Int32) (act_kind_17 : Int32) (act_rider_17 : Int32) (act_horse_17 : Int32) (act_third_17 : Int32) (act_fourth_17 : Int32) : Option (Int32 × Int32 × Int32 × Int32 × Int32 × Int32 × Int32 × Int32) :=
  if (60 : Int32) ≤ v2_17 then
    kk17 text_at_17 act_kind_17 act_rider_17 act_horse_17 act_third_17 act_fourth_17
  else
    bd7 (f_X0_read text_limitn1 text_at_17 act_kind_17 act_rider_17 act_horse_17 act_third_17 act_fourth_17 text_signs) <| fun rn5 text_atn6 act_kindn7 act_ridern8 act_horsen9 act_thirdn10 act_fourthn11 =>
    if rn5 = 0 then
      bd1 (f_X9_fault text_atn6) <| fun rn17 =>
      some (rn17, text_limitn1, text_atn6, act_kindn7, act_ridern8, act_horsen9, act_thirdn10, act_fourthn11)
    else
      bd1 (f_X9_isDone text_size text_atn6) <| fun rn12 =>
      if rn12 = 0 then
        bd2 (f_X9_take (59 : Int32) text_limitn1 text_atn6 text_signs) <| fun rn13 text_atn14 =>
        if rn13 = 0 then
          bd1 (f_X9_fault text_atn14) <| fun rn16 =>
          some (rn16, text_limitn1, text_atn14, act_kindn7, act_ridern8, act_horsen9, act_thirdn10, act_fourthn11)
        else
          lt1 ((v2_17 + (1 : Int32))) <| fun v2n15 =>
          rc17 v2n15 text_atn14 act_kindn7 act_ridern8 act_horsen9 act_thirdn10 act_fourthn11
      else
        some ((0 : Int32), text_limitn1, text_atn6, act_kindn7, act_ridern8, act_horsen9, act_thirdn10, act_fourthn11)
def f_X0_check (text_size : Int32) (text_limit : Int32) (text_at : Int32) (act_kind : Int32) (act_rider : Int32) (act_horse : Int32) (act_third : Int32) (act_fourth : Int32) (text_signs : (Nat → Int32)) : Option (Int32 × Int32 × Int32 × Int32 × Int32 × Int32 × Int32 × Int32) :=
  bd2 (f_X9_open (60 : Int32) text_size text_limit text_at) <| fun text_limitn1 text_atn2 =>
  bd1 (f_X9_isDone text_size text_atn2) <| fun rn3 =>
  if rn3 = 0 then
    ml7 (s_X0_check_17 text_size text_signs text_limitn1 (k_X0_check_17 text_limitn1)) zN (0 : Int32) text_atn2 act_kind act_rider act_horse act_third act_fourth
  else
    some ((0 : Int32), text_limitn1, text_atn2, act_kind, act_rider, act_horse, act_third, act_fourth)
def f_X10_isFull (rounds_size : Int32) : Option Int32 :=
  if rounds_size < (12 : Int32) then
    some (0 : Int32)
  else
    some (1 : Int32)
def f_X10_add (p1 : Int32) (p2 : Int32) (p3 : Int32) (p4 : Int32) (rounds_size : Int32) (rounds_riders : (Nat → Int32)) (rounds_horses : (Nat → Int32)) (rounds_faults : (Nat → Int32)) (rounds_tenths : (Nat → Int32)) : Option (Int32 × (Nat → Int32) × (Nat → Int32) × (Nat → Int32) × (Nat → Int32)) :=
  bd1 (f_X10_isFull rounds_size) <| fun rn1 =>
  if rn1 = 0 then
    gd (ix rounds_size 12) <|
    gd (ix rounds_size 12) <|
    gd (ix rounds_size 12) <|
    gd (ix rounds_size 12) <|
    some ((rounds_size + (1 : Int32)), (upd rounds_riders rounds_size.toNatClampNeg p1), (upd rounds_horses rounds_size.toNatClampNeg p2), (upd rounds_faults rounds_size.toNatClampNeg p3), (upd rounds_tenths rounds_size.toNatClampNeg p4))
  else
    some (rounds_size, rounds_riders, rounds_horses, rounds_faults, rounds_tenths)
def f_X10_moneyAt (p1 : Int32) (rounds_money : (Nat → Int32)) : Option Int32 :=
  if p1 < (1 : Int32) then
    some (0 : Int32)
  else
    if (6 : Int32) < p1 then
      some (0 : Int32)
    else
      gd (ix (p1 - (1 : Int32)) 6) <|
      some (rounds_money (p1 - (1 : Int32)).toNatClampNeg)
def k_X10_moneyInAll_4 (v1_4x : Int32) : Option Int32 :=
  some v1_4x
def s_X10_moneyInAll_4 (rounds_money : (Nat → Int32)) (kk4 : Int32 → Option Int32) (rc4 : Int32 → Int32 → Option Int32) (v1_4 : Int32) (v2_4 : Int32) : Option Int32 :=
  if (6 : Int32) ≤ v2_4 then
    kk4 v1_4
  else
    gd (ix v2_4 6) <|
    lt1 ((v1_4 + (rounds_money v2_4.toNatClampNeg))) <| fun v1n1 =>
    lt1 ((v2_4 + (1 : Int32))) <| fun v2n2 =>
    rc4 v1n1 v2n2
def f_X10_moneyInAll (rounds_money : (Nat → Int32)) : Option Int32 :=
  ml2 (s_X10_moneyInAll_4 rounds_money (k_X10_moneyInAll_4)) zN (0 : Int32) (0 : Int32)
def k_X10_placeFor_5 (v3_5x : Int32) : Option Int32 :=
  some v3_5x
def s_X10_placeFor_5 (p1 : Int32) (p2 : Int32) (rounds_size : Int32) (rounds_faults : (Nat → Int32)) (rounds_tenths : (Nat → Int32)) (kk5 : Int32 → Option Int32) (rc5 : Int32 → Int32 → Option Int32) (v3_5 : Int32) (v4_5 : Int32) : Option Int32 :=
  if rounds_size ≤ v4_5 then
    kk5 v3_5
  else
    gd (ix v4_5 12) <|
    if (rounds_faults v4_5.toNatClampNeg) < p1 then
      lt1 ((v3_5 + (1 : Int32))) <| fun v3n1 =>
      lt1 ((v4_5 + (1 : Int32))) <| fun v4n2 =>
      rc5 v3n1 v4n2
    else
      gd (ix v4_5 12) <|
      if (rounds_faults v4_5.toNatClampNeg) = p1 then
        gd (ix v4_5 12) <|
        if p2 < (rounds_tenths v4_5.toNatClampNeg) then
          lt1 ((v3_5 + (0 : Int32))) <| fun v3n5 =>
          lt1 ((v4_5 + (1 : Int32))) <| fun v4n6 =>
          rc5 v3n5 v4n6
        else
          lt1 ((v3_5 + (1 : Int32))) <| fun v3n7 =>
          lt1 ((v4_5 + (1 : Int32))) <| fun v4n8 =>
          rc5 v3n7 v4n8
      else
        lt1 ((v3_5 + (0 : Int32))) <| fun v3n3 =>
        lt1 ((v4_5 + (1 : Int32))) <| fun v4n4 =>
        rc5 v3n3 v4n4
def f_X10_placeFor (p1 : Int32) (p2 : Int32) (rounds_size : Int32) (rounds_faults : (Nat → Int32)) (rounds_tenths : (Nat → Int32)) : Option Int32 :=
  ml2 (s_X10_placeFor_5 p1 p2 rounds_size rounds_faults rounds_tenths (k_X10_placeFor_5)) zN (1 : Int32) (0 : Int32)
def k_X10_placeOf_newFaults_5 (v3_5x : Int32) : Option Int32 :=
  some v3_5x
def s_X10_placeOf_newFaults_5 (p1 : Int32) (rounds_size : Int32) (rounds_tenths : (Nat → Int32)) (newFaults : (Nat → Int32)) (kk5 : Int32 → Option Int32) (rc5 : Int32 → Int32 → Option Int32) (v3_5 : Int32) (v4_5 : Int32) : Option Int32 :=
  if rounds_size ≤ v4_5 then
    kk5 v3_5
  else
    gd (ix v4_5 12) <|
    gd (ix p1 12) <|
    if (newFaults v4_5.toNatClampNeg) = (newFaults p1.toNatClampNeg) then
      gd (ix v4_5 12) <|
      gd (ix p1 12) <|
      if (rounds_tenths v4_5.toNatClampNeg) = (rounds_tenths p1.toNatClampNeg) then
        if p1 ≤ v4_5 then
          lt1 ((v3_5 + (0 : Int32))) <| fun v3n1 =>
          lt1 ((v4_5 + (1 : Int32))) <| fun v4n2 =>
          rc5 v3n1 v4n2
        else
          lt1 ((v3_5 + (1 : Int32))) <| fun v3n3 =>
          lt1 ((v4_5 + (1 : Int32))) <| fun v4n4 =>
          rc5 v3n3 v4n4
      else
        gd (ix v4_5 12) <|
        gd (ix p1 12) <|
        if (rounds_tenths p1.toNatClampNeg) ≤ (rounds_tenths v4_5.toNatClampNeg) then
          lt1 ((v3_5 + (0 : Int32))) <| fun v3n5 =>
          lt1 ((v4_5 + (1 : Int32))) <| fun v4n6 =>
          rc5 v3n5 v4n6
        else
          lt1 ((v3_5 + (1 : Int32))) <| fun v3n7 =>
          lt1 ((v4_5 + (1 : Int32))) <| fun v4n8 =>
          rc5 v3n7 v4n8
    else
      gd (ix v4_5 12) <|
      gd (ix p1 12) <|
      if (newFaults p1.toNatClampNeg) ≤ (newFaults v4_5.toNatClampNeg) then
        lt1 ((v3_5 + (0 : Int32))) <| fun v3n9 =>
        lt1 ((v4_5 + (1 : Int32))) <| fun v4n10 =>
        rc5 v3n9 v4n10
      else
        lt1 ((v3_5 + (1 : Int32))) <| fun v3n11 =>
        lt1 ((v4_5 + (1 : Int32))) <| fun v4n12 =>
        rc5 v3n11 v4n12
def f_X10_placeOf_newFaults (p1 : Int32) (rounds_size : Int32) (rounds_tenths : (Nat → Int32)) (newFaults : (Nat → Int32)) : Option Int32 :=
  ml2 (s_X10_placeOf_newFaults_5 p1 rounds_size rounds_tenths newFaults (k_X10_placeOf_newFaults_5)) zN (1 : Int32) (0 : Int32)
def k_X10_placeOf_rounds_faults_5 (v3_5x : Int32) : Option Int32 :=
  some v3_5x
def s_X10_placeOf_rounds_faults_5 (p1 : Int32) (rounds_size : Int32) (rounds_faults : (Nat → Int32)) (rounds_tenths : (Nat → Int32)) (kk5 : Int32 → Option Int32) (rc5 : Int32 → Int32 → Option Int32) (v3_5 : Int32) (v4_5 : Int32) : Option Int32 :=
  if rounds_size ≤ v4_5 then
    kk5 v3_5
  else
    gd (ix v4_5 12) <|
    gd (ix p1 12) <|
    if (rounds_faults v4_5.toNatClampNeg) = (rounds_faults p1.toNatClampNeg) then
      gd (ix v4_5 12) <|
      gd (ix p1 12) <|
      if (rounds_tenths v4_5.toNatClampNeg) = (rounds_tenths p1.toNatClampNeg) then
        if p1 ≤ v4_5 then
          lt1 ((v3_5 + (0 : Int32))) <| fun v3n1 =>
          lt1 ((v4_5 + (1 : Int32))) <| fun v4n2 =>
          rc5 v3n1 v4n2
        else
          lt1 ((v3_5 + (1 : Int32))) <| fun v3n3 =>
          lt1 ((v4_5 + (1 : Int32))) <| fun v4n4 =>
          rc5 v3n3 v4n4
      else
        gd (ix v4_5 12) <|
        gd (ix p1 12) <|
        if (rounds_tenths p1.toNatClampNeg) ≤ (rounds_tenths v4_5.toNatClampNeg) then
          lt1 ((v3_5 + (0 : Int32))) <| fun v3n5 =>
          lt1 ((v4_5 + (1 : Int32))) <| fun v4n6 =>
          rc5 v3n5 v4n6
        else
          lt1 ((v3_5 + (1 : Int32))) <| fun v3n7 =>
          lt1 ((v4_5 + (1 : Int32))) <| fun v4n8 =>
          rc5 v3n7 v4n8
    else
      gd (ix v4_5 12) <|
      gd (ix p1 12) <|
      if (rounds_faults p1.toNatClampNeg) ≤ (rounds_faults v4_5.toNatClampNeg) then
        lt1 ((v3_5 + (0 : Int32))) <| fun v3n9 =>
        lt1 ((v4_5 + (1 : Int32))) <| fun v4n10 =>
        rc5 v3n9 v4n10
      else
        lt1 ((v3_5 + (1 : Int32))) <| fun v3n11 =>
        lt1 ((v4_5 + (1 : Int32))) <| fun v4n12 =>
        rc5 v3n11 v4n12
def f_X10_placeOf_rounds_faults (p1 : Int32) (rounds_size : Int32) (rounds_faults : (Nat → Int32)) (rounds_tenths : (Nat → Int32)) : Option Int32 :=
  ml2 (s_X10_placeOf_rounds_faults_5 p1 rounds_size rounds_faults rounds_tenths (k_X10_placeOf_rounds_faults_5)) zN (1 : Int32) (0 : Int32)
def k_X10_readMoney_16 (rounds_money : (Nat → Int32)) (text_limitn1 : Int32) (text_at_16x : Int32) (rounds_draft_16x : (Nat → Int32)) : Option (Int32 × Int32 × Int32 × (Nat → Int32) × (Nat → Int32)) :=
  bd1 (f_X9_fault text_at_16x) <| fun rn4 =>
  some (rn4, text_limitn1, text_at_16x, rounds_money, rounds_draft_16x)
def s_X10_readMoney_16 (text_size : Int32) (text_signs : (Nat → Int32)) (rounds_money : (Nat → Int32)) (text_limitn1 : Int32) (kk16 : Int32 → (Nat → Int32) → Option (Int32 × Int32 × Int32 × (Nat → Int32) × (Nat → Int32))) (rc16 : Int32 → Int32 → (Nat → Int32) → Option (Int32 × Int32 × Int32 × (Nat → Int32) × (Nat → Int32))) (v2_16 : Int32) (text_at_16 : Int32) (rounds_draft_16 : (Nat → Int32)) : Option (Int32 × Int32 × Int32 × (Nat → Int32) × (Nat → Int32)) :=
  if (6 : Int32) ≤ v2_16 then
    kk16 text_at_16 rounds_draft_16
  else
    bd2 (f_X9_number (2 : Int32) text_limitn1 text_at_16 text_signs) <| fun rn5 text_atn6 =>
    gd (ix v2_16 6) <|
    gd (ix v2_16 6) <|
    if (((upd rounds_draft_16 v2_16.toNatClampNeg rn5)) v2_16.toNatClampNeg) = (-1 : Int32) then
      bd1 (f_X9_fault text_atn6) <| fun rn12 =>
      some (rn12, text_limitn1, text_atn6, rounds_money, (upd rounds_draft_16 v2_16.toNatClampNeg rn5))
    else
      bd1 (f_X9_isDone text_size text_atn6) <| fun rn7 =>
      if rn7 = 0 then
        bd2 (f_X9_take (44 : Int32) text_limitn1 text_atn6 text_signs) <| fun rn8 text_atn9 =>
        if rn8 = 0 then
          bd1 (f_X9_fault text_atn9) <| fun rn11 =>
          some (rn11, text_limitn1, text_atn9, rounds_money, (upd rounds_draft_16 v2_16.toNatClampNeg rn5))
        else
          lt1 ((v2_16 + (1 : Int32))) <| fun v2n10 =>
          rc16 v2n10 text_atn9 ((upd rounds_draft_16 v2_16.toNatClampNeg rn5))
      else
        gd (cpok (0 : Int32) (0 : Int32) (6 : Int32) 6 6) <|
        some ((v2_16 + (1 : Int32)), text_limitn1, text_atn6, (va_cpy ((upd rounds_draft_16 v2_16.toNatClampNeg rn5)) rounds_money (0 : Int32).toNatClampNeg (0 : Int32).toNatClampNeg (6 : Int32).toNatClampNeg), (upd rounds_draft_16 v2_16.toNatClampNeg rn5))
def f_X10_readMoney (text_size : Int32) (text_limit : Int32) (text_at : Int32) (text_signs : (Nat → Int32)) (rounds_money : (Nat → Int32)) (rounds_draft : (Nat → Int32)) : Option (Int32 × Int32 × Int32 × (Nat → Int32) × (Nat → Int32)) :=
  bd2 (f_X9_open (80 : Int32) text_size text_limit text_at) <| fun text_limitn1 text_atn2 =>
  bd1 (f_J7_fill_53178_rounds_draft (0 : Int32) rounds_draft) <| fun rounds_draftn3 =>
  ml3 (s_X10_readMoney_16 text_size text_signs rounds_money text_limitn1 (k_X10_readMoney_16 rounds_money text_limitn1)) zN (0 : Int32) text_atn2 rounds_draftn3
def k_X10_scaledMean_8 (v3_8x : Int64) (v5_8x : Int32) : Option Int64 :=
  if v5_8x = 0 then
    some (-1 : Int64)
  else
    gd (nzl v5_8x.toInt64) <|
    some ((v3_8x * (27720 : Int64)) / v5_8x.toInt64)
def s_X10_scaledMean_8 (p1 : Int32) (p2 : Int32) (rounds_size : Int32) (rounds_riders : (Nat → Int32)) (rounds_horses : (Nat → Int32)) (rounds_faults : (Nat → Int32)) (kk8 : Int64 → Int32 → Option Int64) (rc8 : Int64 → Int32 → Int32 → Option Int64) (v3_8 : Int64) (v5_8 : Int32) (v6_8 : Int32) : Option Int64 :=
  if rounds_size ≤ v6_8 then
    kk8 v3_8 v5_8
  else
    gd (ix v6_8 12) <|
    if (rounds_riders v6_8.toNatClampNeg) = p1 then
      gd (ix v6_8 12) <|
      if (rounds_horses v6_8.toNatClampNeg) = p2 then
        gd (ix v6_8 12) <|
        lt1 ((v3_8 + ((rounds_faults v6_8.toNatClampNeg)).toInt64)) <| fun v3n3 =>
        lt1 ((v5_8 + (1 : Int32))) <| fun v5n4 =>
        lt1 ((v6_8 + (1 : Int32))) <| fun v6n5 =>
        rc8 v3n3 v5n4 v6n5
      else
        lt1 ((v6_8 + (1 : Int32))) <| fun v6n2 =>
        rc8 v3_8 v5_8 v6n2
    else
      lt1 ((v6_8 + (1 : Int32))) <| fun v6n1 =>
      rc8 v3_8 v5_8 v6n1
def f_X10_scaledMean (p1 : Int32) (p2 : Int32) (rounds_size : Int32) (rounds_riders : (Nat → Int32)) (rounds_horses : (Nat → Int32)) (rounds_faults : (Nat → Int32)) : Option Int64 :=
  ml3 (s_X10_scaledMean_8 p1 p2 rounds_size rounds_riders rounds_horses rounds_faults (k_X10_scaledMean_8)) zN (0 : Int64) (0 : Int32) (0 : Int32)
def f_X10_strike (rounds_size : Int32) : Option (Int32 × Int32) :=
  if rounds_size = 0 then
    some ((0 : Int32), rounds_size)
  else
    some ((1 : Int32), (rounds_size - (1 : Int32)))
def f_X6_put (p1 : Int64) (numbers_size : Int32) (numbers_told : (Nat → Int64)) : Option (Int32 × (Nat → Int64)) :=
  if (12 : Int32) ≤ numbers_size then
    some (numbers_size, numbers_told)
  else
    gd (ix numbers_size 12) <|
    some ((numbers_size + (1 : Int32)), (vp_updL numbers_told numbers_size.toNatClampNeg p1))
def f_X6_start (numbers_size : Int32) : Option Int32 :=
  some (0 : Int32)
def k_X10_tellOrder_newFaults_6 (numbers_size_6x : Int32) (numbers_told_6x : (Nat → Int64)) : Option (Int32 × (Nat → Int64)) :=
  some (numbers_size_6x, numbers_told_6x)
def k_X10_tellOrder_newFaults_17 (rc6 : Int32 → Int32 → (Nat → Int64) → Option (Int32 × (Nat → Int64))) (v3_6 : Int32) (numbers_size_17x : Int32) (numbers_told_17x : (Nat → Int64)) : Option (Int32 × (Nat → Int64)) :=
  lt1 ((v3_6 + (1 : Int32))) <| fun v3n2 =>
  rc6 v3n2 numbers_size_17x numbers_told_17x
def s_X10_tellOrder_newFaults_17 (rounds_size : Int32) (rounds_tenths : (Nat → Int32)) (newFaults : (Nat → Int32)) (v3_6 : Int32) (kk17 : Int32 → (Nat → Int64) → Option (Int32 × (Nat → Int64))) (rc17 : Int32 → Int32 → (Nat → Int64) → Option (Int32 × (Nat → Int64))) (v4_17 : Int32) (numbers_size_17 : Int32) (numbers_told_17 : (Nat → Int64)) : Option (Int32 × (Nat → Int64)) :=
  if rounds_size ≤ v4_17 then
    kk17 numbers_size_17 numbers_told_17
  else
    bd1 (f_X10_placeOf_newFaults v4_17 rounds_size rounds_tenths newFaults) <| fun rn3 =>
    if rn3 = v3_6 then
      bd2 (f_X6_put (v4_17.toInt64) numbers_size_17 numbers_told_17) <| fun numbers_sizen5 numbers_toldn6 =>
      lt1 ((v4_17 + (1 : Int32))) <| fun v4n7 =>
      rc17 v4n7 numbers_sizen5 numbers_toldn6
    else
      lt1 ((v4_17 + (1 : Int32))) <| fun v4n4 =>
      rc17 v4n4 numbers_size_17 numbers_told_17
def s_X10_tellOrder_newFaults_6 (rounds_size : Int32) (rounds_tenths : (Nat → Int32)) (newFaults : (Nat → Int32)) (kk6 : Int32 → (Nat → Int64) → Option (Int32 × (Nat → Int64))) (rc6 : Int32 → Int32 → (Nat → Int64) → Option (Int32 × (Nat → Int64))) (v3_6 : Int32) (numbers_size_6 : Int32) (numbers_told_6 : (Nat → Int64)) : Option (Int32 × (Nat → Int64)) :=
  if rounds_size < v3_6 then
    kk6 numbers_size_6 numbers_told_6
  else
    ml3 (s_X10_tellOrder_newFaults_17 rounds_size rounds_tenths newFaults v3_6 (k_X10_tellOrder_newFaults_17 rc6 v3_6)) zN (0 : Int32) numbers_size_6 numbers_told_6
def f_X10_tellOrder_newFaults (numbers_size : Int32) (rounds_size : Int32) (rounds_tenths : (Nat → Int32)) (newFaults : (Nat → Int32)) (numbers_told : (Nat → Int64)) : Option (Int32 × (Nat → Int64)) :=
  bd1 (f_X6_start numbers_size) <| fun numbers_sizen1 =>
  ml3 (s_X10_tellOrder_newFaults_6 rounds_size rounds_tenths newFaults (k_X10_tellOrder_newFaults_6)) zN (1 : Int32) numbers_sizen1 numbers_told
def k_X10_tellOrder_rounds_faults_6 (numbers_size_6x : Int32) (numbers_told_6x : (Nat → Int64)) : Option (Int32 × (Nat → Int64)) :=
  some (numbers_size_6x, numbers_told_6x)
def k_X10_tellOrder_rounds_faults_17 (rc6 : Int32 → Int32 → (Nat → Int64) → Option (Int32 × (Nat → Int64))) (v3_6 : Int32) (numbers_size_17x : Int32) (numbers_told_17x : (Nat → Int64)) : Option (Int32 × (Nat → Int64)) :=
  lt1 ((v3_6 + (1 : Int32))) <| fun v3n2 =>
  rc6 v3n2 numbers_size_17x numbers_told_17x
def s_X10_tellOrder_rounds_faults_17 (rounds_size : Int32) (rounds_faults : (Nat → Int32)) (rounds_tenths : (Nat → Int32)) (v3_6 : Int32) (kk17 : Int32 → (Nat → Int64) → Option (Int32 × (Nat → Int64))) (rc17 : Int32 → Int32 → (Nat → Int64) → Option (Int32 × (Nat → Int64))) (v4_17 : Int32) (numbers_size_17 : Int32) (numbers_told_17 : (Nat → Int64)) : Option (Int32 × (Nat → Int64)) :=
  if rounds_size ≤ v4_17 then
    kk17 numbers_size_17 numbers_told_17
  else
    bd1 (f_X10_placeOf_rounds_faults v4_17 rounds_size rounds_faults rounds_tenths) <| fun rn3 =>
    if rn3 = v3_6 then
      bd2 (f_X6_put (v4_17.toInt64) numbers_size_17 numbers_told_17) <| fun numbers_sizen5 numbers_toldn6 =>
      lt1 ((v4_17 + (1 : Int32))) <| fun v4n7 =>
      rc17 v4n7 numbers_sizen5 numbers_toldn6
    else
      lt1 ((v4_17 + (1 : Int32))) <| fun v4n4 =>
      rc17 v4n4 numbers_size_17 numbers_told_17
def s_X10_tellOrder_rounds_faults_6 (rounds_size : Int32) (rounds_faults : (Nat → Int32)) (rounds_tenths : (Nat → Int32)) (kk6 : Int32 → (Nat → Int64) → Option (Int32 × (Nat → Int64))) (rc6 : Int32 → Int32 → (Nat → Int64) → Option (Int32 × (Nat → Int64))) (v3_6 : Int32) (numbers_size_6 : Int32) (numbers_told_6 : (Nat → Int64)) : Option (Int32 × (Nat → Int64)) :=
  if rounds_size < v3_6 then
    kk6 numbers_size_6 numbers_told_6
  else
    ml3 (s_X10_tellOrder_rounds_faults_17 rounds_size rounds_faults rounds_tenths v3_6 (k_X10_tellOrder_rounds_faults_17 rc6 v3_6)) zN (0 : Int32) numbers_size_6 numbers_told_6
def f_X10_tellOrder_rounds_faults (numbers_size : Int32) (rounds_size : Int32) (rounds_faults : (Nat → Int32)) (rounds_tenths : (Nat → Int32)) (numbers_told : (Nat → Int64)) : Option (Int32 × (Nat → Int64)) :=
  bd1 (f_X6_start numbers_size) <| fun numbers_sizen1 =>
  ml3 (s_X10_tellOrder_rounds_faults_6 rounds_size rounds_faults rounds_tenths (k_X10_tellOrder_rounds_faults_6)) zN (1 : Int32) numbers_sizen1 numbers_told
def f_X11_isRider (p0 : Int32) : Option Int32 :=
  if p0 < 0 then
    some (0 : Int32)
  else
    if (6 : Int32) ≤ p0 then
      some (0 : Int32)
    else
      some (1 : Int32)
def f_X1_hasHorse (p1 : Int32) (course_horseCount : Int32) : Option Int32 :=
  if p1 < 0 then
    some (0 : Int32)
  else
    if course_horseCount ≤ p1 then
      some (0 : Int32)
    else
      some (1 : Int32)
def f_X1_hasPlan (p1 : Int32) (course_planCount : Int32) : Option Int32 :=
  if p1 < 0 then
    some (0 : Int32)
  else
    if course_planCount ≤ p1 then
      some (0 : Int32)
    else
      some (1 : Int32)
def f_X11_begun (p0 : Int32) (p1 : Int32) (p2 : Int32) : Option Int32 :=
  if p0 ≤ p1 then
    some (0 : Int32)
  else
    if 0 < p2 then
      gd (nz p2) <|
      some ((((p0 - p1) + p2) - (1 : Int32)) / p2)
    else
      some (0 : Int32)
def f_X1_letterAt (p1 : Int32) (p2 : Int32) (course_plans : (Nat → Int32)) : Option Int32 :=
  gd (ix ((p1 * (8 : Int32)) + p2) 48) <|
  some (course_plans ((p1 * (8 : Int32)) + p2).toNatClampNeg)
def f_X1_isCut (p0 : Int32) : Option Int32 :=
  if p0 < (4 : Int32) then
    some (0 : Int32)
  else
    some (1 : Int32)
def f_X1_fenceTenths (p1 : Int32) (p2 : Int32) (course_kinds : (Nat → Int32)) (course_feet : (Nat → Int32)) : Option Int32 :=
  gd (ix p1 8) <|
  lt1 ((((course_feet p1.toNatClampNeg) * ((6 : Int32) - (p2 - p2 / (4 : Int32) * (4 : Int32)))) / (4 : Int32))) <| fun v3n1 =>
  bd1 (f_X1_isCut p2) <| fun rn2 =>
  if rn2 = 0 then
    gd (ix p1 8) <|
    if (course_kinds p1.toNatClampNeg) = (2 : Int32) then
      lt1 ((v3n1 + (2 : Int32))) <| fun v3n3 =>
      some (if (1 : Int32) < v3n3 then v3n3 else (1 : Int32))
    else
      some (if (1 : Int32) < v3n1 then v3n1 else (1 : Int32))
  else
    gd (ix p1 8) <|
    lt1 ((v3n1 - ((course_feet p1.toNatClampNeg) / (4 : Int32)))) <| fun v3n4 =>
    gd (ix p1 8) <|
    if (course_kinds p1.toNatClampNeg) = (2 : Int32) then
      lt1 ((v3n4 + (2 : Int32))) <| fun v3n5 =>
      some (if (1 : Int32) < v3n5 then v3n5 else (1 : Int32))
    else
      some (if (1 : Int32) < v3n4 then v3n4 else (1 : Int32))
def k_X1_planTenths_4 (v2_4x : Int32) : Option Int32 :=
  some v2_4x
def s_X1_planTenths_4 (p1 : Int32) (course_fences : Int32) (course_kinds : (Nat → Int32)) (course_feet : (Nat → Int32)) (course_plans : (Nat → Int32)) (kk4 : Int32 → Option Int32) (rc4 : Int32 → Int32 → Option Int32) (v2_4 : Int32) (v3_4 : Int32) : Option Int32 :=
  if course_fences ≤ v3_4 then
    kk4 v2_4
  else
    bd1 (f_X1_letterAt p1 v3_4 course_plans) <| fun rn1 =>
    bd1 (f_X1_fenceTenths v3_4 rn1 course_kinds course_feet) <| fun rn2 =>
    lt1 ((v2_4 + rn2)) <| fun v2n3 =>
    lt1 ((v3_4 + (1 : Int32))) <| fun v3n4 =>
    rc4 v2n3 v3n4
def f_X1_planTenths (p1 : Int32) (course_fences : Int32) (course_kinds : (Nat → Int32)) (course_feet : (Nat → Int32)) (course_plans : (Nat → Int32)) : Option Int32 :=
  ml2 (s_X1_planTenths_4 p1 course_fences course_kinds course_feet course_plans (k_X1_planTenths_4)) zN (0 : Int32) (0 : Int32)
def f_X1_lean (p0 : Int32) (p1 : Int32) : Option Int32 :=
  if 0 < p1 then
    gd (nz p1) <|
    lt1 ((p0 - p0 / p1 * p1)) <| fun v2n1 =>
    some (if (p1 - v2n1) < v2n1 then (p1 - v2n1) else v2n1)
  else
    some (0 : Int32)
def f_X1_ofHorse (p1 : Int32) (p2 : Int32) (course_digits : (Nat → Int32)) : Option Int32 :=
  gd (ix ((p1 * (6 : Int32)) + p2) 36) <|
  some (course_digits ((p1 * (6 : Int32)) + p2).toNatClampNeg)
def f_X1_leanAt (p1 : Int32) (p2 : Int32) (course_feet : (Nat → Int32)) (course_digits : (Nat → Int32)) : Option Int32 :=
  gd (ix p2 8) <|
  bd1 (f_X1_ofHorse p1 (0 : Int32) course_digits) <| fun rn1 =>
  bd1 (f_X1_lean ((course_feet p2.toNatClampNeg)) rn1) <| fun rn2 =>
  some rn2
def f_X7_join (p0 : Int32) (p1 : Int32) (p2 : Int32) : Option Int32 :=
  if p0 = (0 : Int32) then
    if p2 ≤ p1 then
      some (0 : Int32)
    else
      some (1 : Int32)
  else
  if p0 = (1 : Int32) then
    if p1 ≤ p2 then
      some (0 : Int32)
    else
      some (1 : Int32)
  else
  if p0 = (2 : Int32) then
    if p1 = p2 then
      some (1 : Int32)
    else
      some (0 : Int32)
  else
  if p0 = (3 : Int32) then
    some (p1 + p2)
  else
  if p0 = (4 : Int32) then
    some (p1 - p2)
  else
  if p0 = (5 : Int32) then
    if p2 = 0 then
      some (0 : Int32)
    else
      gd (nz p2) <|
      some (p1 / p2)
  else
  if p0 = (6 : Int32) then
    some (p1 * p2)
  else
    if p2 = 0 then
      some (0 : Int32)
    else
      gd (nz p2) <|
      some (p1 / p2)
def f_X7_usual (rule_things : (Nat → Int32)) : Option Int32 :=
  gd (ix (0 : Int32) 8) <|
  lt1 ((rule_things (0 : Int32).toNatClampNeg)) <| fun v1n1 =>
  gd (ix (1 : Int32) 8) <|
  lt1 ((rule_things (1 : Int32).toNatClampNeg)) <| fun v2n2 =>
  gd (ix (2 : Int32) 8) <|
  lt1 ((rule_things (2 : Int32).toNatClampNeg)) <| fun v3n3 =>
  gd (ix (3 : Int32) 8) <|
  lt1 ((rule_things (3 : Int32).toNatClampNeg)) <| fun v4n4 =>
  gd (ix (4 : Int32) 8) <|
  lt1 ((rule_things (4 : Int32).toNatClampNeg)) <| fun v5n5 =>
  gd (ix (5 : Int32) 8) <|
  lt1 ((rule_things (5 : Int32).toNatClampNeg)) <| fun v6n6 =>
  some (((((((v1n1 * (3 : Int32)) - (v2n2 * (2 : Int32))) - v3n3) + (v4n4 * v4n4)) + (v5n5 * (4 : Int32))) + (v6n6 * (2 : Int32))) + (5 : Int32))
def k_X7_odds_4 (rule_things : (Nat → Int32)) (v1_4x : Int32) (rule_stack_4x : (Nat → Int32)) : Option (Int32 × (Nat → Int32)) :=
  if v1_4x ≤ 0 then
    bd1 (f_X7_usual rule_things) <| fun rn1 =>
    some ((if (0 : Int32) < (if rn1 < (100 : Int32) then rn1 else (100 : Int32)) then (if rn1 < (100 : Int32) then rn1 else (100 : Int32)) else (0 : Int32)), rule_stack_4x)
  else
    gd (ix (0 : Int32) 40) <|
    lt1 ((rule_stack_4x (0 : Int32).toNatClampNeg)) <| fun v2n2 =>
    some ((if (0 : Int32) < (if v2n2 < (100 : Int32) then v2n2 else (100 : Int32)) then (if v2n2 < (100 : Int32) then v2n2 else (100 : Int32)) else (0 : Int32)), rule_stack_4x)
def j_X7_odds_97 (rc4 : Int32 → Int32 → (Nat → Int32) → Option (Int32 × (Nat → Int32))) (v3n3 : Int32) (v1_65j : Int32) (v2_97j : Int32) (rule_stack_97j : (Nat → Int32)) : Option (Int32 × (Nat → Int32)) :=
  if v1_65j < (2 : Int32) then
    lt1 ((v2_97j + (1 : Int32))) <| fun v2n4 =>
    rc4 v1_65j v2n4 rule_stack_97j
  else
    lt1 ((v1_65j + (-1 : Int32))) <| fun v1n5 =>
    gd (ix (v1n5 - (1 : Int32)) 40) <|
    gd (ix v1n5 40) <|
    bd1 (f_X7_join ((v3n3 - (2000 : Int32))) ((rule_stack_97j (v1n5 - (1 : Int32)).toNatClampNeg)) ((rule_stack_97j v1n5.toNatClampNeg))) <| fun rn6 =>
    gd (ix (v1n5 - (1 : Int32)) 40) <|
    lt1 ((v2_97j + (1 : Int32))) <| fun v2n7 =>
    rc4 v1n5 v2n7 ((upd rule_stack_97j (v1n5 - (1 : Int32)).toNatClampNeg rn6))
def j_X7_odds_65 (rc4 : Int32 → Int32 → (Nat → Int32) → Option (Int32 × (Nat → Int32))) (v3n3 : Int32) (v1_65j : Int32) (v2_65j : Int32) (rule_stack_65j : (Nat → Int32)) : Option (Int32 × (Nat → Int32)) :=
  if v3n3 = (3000 : Int32) then
    if v1_65j < (1 : Int32) then
      j_X7_odds_97 rc4 v3n3 v1_65j v2_65j rule_stack_65j
    else
      gd (ix (v1_65j - (1 : Int32)) 40) <|
      gd (ix (v1_65j - (1 : Int32)) 40) <|
      lt1 ((v2_65j + (1 : Int32))) <| fun v2n8 =>
      rc4 v1_65j v2n8 ((upd rule_stack_65j (v1_65j - (1 : Int32)).toNatClampNeg (-(rule_stack_65j (v1_65j - (1 : Int32)).toNatClampNeg))))
  else
    j_X7_odds_97 rc4 v3n3 v1_65j v2_65j rule_stack_65j
def s_X7_odds_4 (course_rule_size : Int32) (rule_codes : (Nat → Int32)) (rule_things : (Nat → Int32)) (kk4 : Int32 → (Nat → Int32) → Option (Int32 × (Nat → Int32))) (rc4 : Int32 → Int32 → (Nat → Int32) → Option (Int32 × (Nat → Int32))) (v1_4 : Int32) (v2_4 : Int32) (rule_stack_4 : (Nat → Int32)) : Option (Int32 × (Nat → Int32)) :=
  if course_rule_size ≤ v2_4 then
    kk4 v1_4 rule_stack_4
  else
    gd (ix v2_4 40) <|
    lt1 ((rule_codes v2_4.toNatClampNeg)) <| fun v3n3 =>
    if (2000 : Int32) ≤ v3n3 then
      j_X7_odds_65 rc4 v3n3 v1_4 v2_4 rule_stack_4
    else
      if (40 : Int32) ≤ v1_4 then
        j_X7_odds_65 rc4 v3n3 v1_4 v2_4 rule_stack_4
      else
        if (1000 : Int32) ≤ v3n3 then
          gd (ix (v3n3 - (1000 : Int32)) 8) <|
          gd (ix v1_4 40) <|
          lt1 ((v1_4 + (1 : Int32))) <| fun v1n9 =>
          lt1 ((v2_4 + (1 : Int32))) <| fun v2n10 =>
          rc4 v1n9 v2n10 ((upd rule_stack_4 v1_4.toNatClampNeg (rule_things (v3n3 - (1000 : Int32)).toNatClampNeg)))
        else
          gd (ix v1_4 40) <|
          lt1 ((v1_4 + (1 : Int32))) <| fun v1n11 =>
          lt1 ((v2_4 + (1 : Int32))) <| fun v2n12 =>
          rc4 v1n11 v2n12 ((upd rule_stack_4 v1_4.toNatClampNeg v3n3))
def f_X7_odds (course_rule_size : Int32) (rule_codes : (Nat → Int32)) (rule_stack : (Nat → Int32)) (rule_things : (Nat → Int32)) : Option (Int32 × (Nat → Int32)) :=
  ml3 (s_X7_odds_4 course_rule_size rule_codes rule_things (k_X7_odds_4 rule_things)) zN (0 : Int32) (0 : Int32) rule_stack
def j_X1_poleOdds_68 (p1 : Int32) (p2 : Int32) (p3 : Int32) (course_rule_size : Int32) (course_heights : (Nat → Int32)) (course_feet : (Nat → Int32)) (course_digits : (Nat → Int32)) (rule_codes : (Nat → Int32)) (rule_stack : (Nat → Int32)) (rule_things : (Nat → Int32)) (rn1 : Int32) (rn2 : Int32) (t2_68j : Int32) : Option (Int32 × (Nat → Int32) × (Nat → Int32)) :=
  gd (ix (4 : Int32) 8) <|
  bd1 (f_X1_leanAt p1 p2 course_feet course_digits) <| fun rn4 =>
  gd (ix (5 : Int32) 8) <|
  gd (ix (6 : Int32) 8) <|
  gd (ix p2 8) <|
  gd (ix (7 : Int32) 8) <|
  bd2 (f_X7_odds course_rule_size rule_codes rule_stack ((upd ((upd ((upd ((upd ((upd ((upd ((upd ((upd rule_things (0 : Int32).toNatClampNeg (course_heights p2.toNatClampNeg))) (1 : Int32).toNatClampNeg rn1)) (2 : Int32).toNatClampNeg rn2)) (3 : Int32).toNatClampNeg (p3 - p3 / (4 : Int32) * (4 : Int32)))) (4 : Int32).toNatClampNeg t2_68j)) (5 : Int32).toNatClampNeg rn4)) (6 : Int32).toNatClampNeg p2)) (7 : Int32).toNatClampNeg (course_feet p2.toNatClampNeg)))) <| fun rn5 rule_stackn6 =>
  some (rn5, rule_stackn6, (upd ((upd ((upd ((upd ((upd ((upd ((upd ((upd rule_things (0 : Int32).toNatClampNeg (course_heights p2.toNatClampNeg))) (1 : Int32).toNatClampNeg rn1)) (2 : Int32).toNatClampNeg rn2)) (3 : Int32).toNatClampNeg (p3 - p3 / (4 : Int32) * (4 : Int32)))) (4 : Int32).toNatClampNeg t2_68j)) (5 : Int32).toNatClampNeg rn4)) (6 : Int32).toNatClampNeg p2)) (7 : Int32).toNatClampNeg (course_feet p2.toNatClampNeg)))
def f_X1_poleOdds (p1 : Int32) (p2 : Int32) (p3 : Int32) (course_rule_size : Int32) (course_kinds : (Nat → Int32)) (course_heights : (Nat → Int32)) (course_feet : (Nat → Int32)) (course_digits : (Nat → Int32)) (rule_codes : (Nat → Int32)) (rule_stack : (Nat → Int32)) (rule_things : (Nat → Int32)) : Option (Int32 × (Nat → Int32) × (Nat → Int32)) :=
  gd (ix p2 8) <|
  gd (ix (0 : Int32) 8) <|
  bd1 (f_X1_ofHorse p1 (1 : Int32) course_digits) <| fun rn1 =>
  gd (ix (1 : Int32) 8) <|
  gd (ix p2 8) <|
  bd1 (f_X1_ofHorse p1 (((2 : Int32) + (course_kinds p2.toNatClampNeg))) course_digits) <| fun rn2 =>
  gd (ix (2 : Int32) 8) <|
  gd (ix (3 : Int32) 8) <|
  bd1 (f_X1_isCut p3) <| fun rn3 =>
  if rn3 = 0 then
    j_X1_poleOdds_68 p1 p2 p3 course_rule_size course_heights course_feet course_digits rule_codes rule_stack rule_things rn1 rn2 (0 : Int32)
  else
    j_X1_poleOdds_68 p1 p2 p3 course_rule_size course_heights course_feet course_digits rule_codes rule_stack rule_things rn1 rn2 (1 : Int32)
def f_X1_refusalOdds (p1 : Int32) (p2 : Int32) (course_kinds : (Nat → Int32)) (course_feet : (Nat → Int32)) (course_digits : (Nat → Int32)) : Option Int32 :=
  bd1 (f_X1_leanAt p1 p2 course_feet course_digits) <| fun rn1 =>
  lt1 ((if (0 : Int32) < ((8 : Int32) * (rn1 - (2 : Int32))) then ((8 : Int32) * (rn1 - (2 : Int32))) else (0 : Int32))) <| fun v3n2 =>
  gd (ix p2 8) <|
  if (course_kinds p2.toNatClampNeg) = (3 : Int32) then
    bd1 (f_X1_ofHorse p1 (5 : Int32) course_digits) <| fun rn3 =>
    if (5 : Int32) ≤ rn3 then
      some v3n2
    else
      some (v3n2 + (5 : Int32))
  else
    some v3n2
def f_X2_next (p1 : Int32) (drawn_state : Int32) : Option (Int32 × Int32) :=
  if p1 ≤ 0 then
    some ((0 : Int32), ((drawn_state * (1103515245 : Int32)) + (12345 : Int32)))
  else
    gd (nz p1) <|
    some ((((((drawn_state * (1103515245 : Int32)) + (12345 : Int32))).toUInt32 >>> (((16 : Int32)).toUInt32 &&& Int32.toUInt32 31)).toInt32 - ((((drawn_state * (1103515245 : Int32)) + (12345 : Int32))).toUInt32 >>> (((16 : Int32)).toUInt32 &&& Int32.toUInt32 31)).toInt32 / p1 * p1), ((drawn_state * (1103515245 : Int32)) + (12345 : Int32)))
def k_X2_draw_33 (course_allowed : Int32) (drawn_state_33x : Int32) (drawn_faults_33x : Int32) (drawn_tenths_33x : Int32) (drawn_refused_33x : Int32) (drawn_fallen_33x : Int32) (rule_stack_33x : (Nat → Int32)) (rule_things_33x : (Nat → Int32)) : Option (Int32 × Int32 × Int32 × Int32 × Int32 × (Nat → Int32) × (Nat → Int32)) :=
  bd1 (f_X11_begun drawn_tenths_33x course_allowed (40 : Int32)) <| fun rn2 =>
  some (drawn_state_33x, (drawn_faults_33x + rn2), drawn_tenths_33x, drawn_refused_33x, drawn_fallen_33x, rule_stack_33x, rule_things_33x)
def j_X2_draw_92 (p2 : Int32) (p3 : Int32) (course_rule_size : Int32) (course_kinds : (Nat → Int32)) (course_heights : (Nat → Int32)) (course_feet : (Nat → Int32)) (course_digits : (Nat → Int32)) (course_plans : (Nat → Int32)) (rule_codes : (Nat → Int32)) (rc33 : Int32 → Int32 → Int32 → Int32 → Int32 → Int32 → (Nat → Int32) → (Nat → Int32) → Option (Int32 × Int32 × Int32 × Int32 × Int32 × (Nat → Int32) × (Nat → Int32))) (v5_33 : Int32) (drawn_fallen_33 : Int32) (rule_stack_33 : (Nat → Int32)) (rule_things_33 : (Nat → Int32)) (drawn_staten4 : Int32) (drawn_faults_92j : Int32) (drawn_tenths_92j : Int32) (drawn_refused_92j : Int32) : Option (Int32 × Int32 × Int32 × Int32 × Int32 × (Nat → Int32) × (Nat → Int32)) :=
  bd2 (f_X2_next (100 : Int32) drawn_staten4) <| fun rn6 drawn_staten7 =>
  bd1 (f_X1_letterAt p3 v5_33 course_plans) <| fun rn8 =>
  bd3 (f_X1_poleOdds p2 v5_33 rn8 course_rule_size course_kinds course_heights course_feet course_digits rule_codes rule_stack_33 rule_things_33) <| fun rn9 rule_stackn10 rule_thingsn11 =>
  if rn9 ≤ rn6 then
    lt1 ((v5_33 + (1 : Int32))) <| fun v5n12 =>
    rc33 v5n12 drawn_staten7 drawn_faults_92j drawn_tenths_92j drawn_refused_92j drawn_fallen_33 rule_stackn10 rule_thingsn11
  else
    lt1 ((v5_33 + (1 : Int32))) <| fun v5n13 =>
    rc33 v5n13 drawn_staten7 ((drawn_faults_92j + (4 : Int32))) drawn_tenths_92j drawn_refused_92j ((drawn_fallen_33 ||| ((1 : Int32) <<< (v5_33 &&& 31)))) rule_stackn10 rule_thingsn11
def s_X2_draw_33 (p2 : Int32) (p3 : Int32) (course_fences : Int32) (course_rule_size : Int32) (course_kinds : (Nat → Int32)) (course_heights : (Nat → Int32)) (course_feet : (Nat → Int32)) (course_digits : (Nat → Int32)) (course_plans : (Nat → Int32)) (rule_codes : (Nat → Int32)) (kk33 : Int32 → Int32 → Int32 → Int32 → Int32 → (Nat → Int32) → (Nat → Int32) → Option (Int32 × Int32 × Int32 × Int32 × Int32 × (Nat → Int32) × (Nat → Int32))) (rc33 : Int32 → Int32 → Int32 → Int32 → Int32 → Int32 → (Nat → Int32) → (Nat → Int32) → Option (Int32 × Int32 × Int32 × Int32 × Int32 × (Nat → Int32) × (Nat → Int32))) (v5_33 : Int32) (drawn_state_33 : Int32) (drawn_faults_33 : Int32) (drawn_tenths_33 : Int32) (drawn_refused_33 : Int32) (drawn_fallen_33 : Int32) (rule_stack_33 : (Nat → Int32)) (rule_things_33 : (Nat → Int32)) : Option (Int32 × Int32 × Int32 × Int32 × Int32 × (Nat → Int32) × (Nat → Int32)) :=
  if course_fences ≤ v5_33 then
    kk33 drawn_state_33 drawn_faults_33 drawn_tenths_33 drawn_refused_33 drawn_fallen_33 rule_stack_33 rule_things_33
  else
    bd2 (f_X2_next (100 : Int32) drawn_state_33) <| fun rn3 drawn_staten4 =>
    bd1 (f_X1_refusalOdds p2 v5_33 course_kinds course_feet course_digits) <| fun rn5 =>
    if rn5 ≤ rn3 then
      j_X2_draw_92 p2 p3 course_rule_size course_kinds course_heights course_feet course_digits course_plans rule_codes rc33 v5_33 drawn_fallen_33 rule_stack_33 rule_things_33 drawn_staten4 drawn_faults_33 drawn_tenths_33 drawn_refused_33
    else
      j_X2_draw_92 p2 p3 course_rule_size course_kinds course_heights course_feet course_digits course_plans rule_codes rc33 v5_33 drawn_fallen_33 rule_stack_33 rule_things_33 drawn_staten4 ((drawn_faults_33 + (4 : Int32))) ((drawn_tenths_33 + (60 : Int32))) ((drawn_refused_33 ||| ((1 : Int32) <<< (v5_33 &&& 31))))
def f_X2_draw (p2 : Int32) (p3 : Int32) (p4 : Int32) (course_fences : Int32) (course_allowed : Int32) (course_rule_size : Int32) (drawn_state : Int32) (drawn_faults : Int32) (drawn_tenths : Int32) (drawn_refused : Int32) (drawn_fallen : Int32) (course_kinds : (Nat → Int32)) (course_heights : (Nat → Int32)) (course_feet : (Nat → Int32)) (course_digits : (Nat → Int32)) (course_plans : (Nat → Int32)) (rule_codes : (Nat → Int32)) (rule_stack : (Nat → Int32)) (rule_things : (Nat → Int32)) : Option (Int32 × Int32 × Int32 × Int32 × Int32 × (Nat → Int32) × (Nat → Int32)) :=
  bd1 (f_X1_planTenths p3 course_fences course_kinds course_feet course_plans) <| fun rn1 =>
  ml8 (s_X2_draw_33 p2 p3 course_fences course_rule_size course_kinds course_heights course_feet course_digits course_plans rule_codes (k_X2_draw_33 course_allowed)) zN (0 : Int32) p4 (0 : Int32) rn1 (0 : Int32) (0 : Int32) rule_stack rule_things
def f_X11_addRide (p1 : Int32) (p2 : Int32) (p3 : Int32) (p4 : Int32) (course_fences : Int32) (course_horseCount : Int32) (course_planCount : Int32) (course_allowed : Int32) (course_rule_size : Int32) (rounds_size : Int32) (drawn_state : Int32) (drawn_faults : Int32) (drawn_tenths : Int32) (drawn_refused : Int32) (drawn_fallen : Int32) (course_kinds : (Nat → Int32)) (course_heights : (Nat → Int32)) (course_feet : (Nat → Int32)) (course_digits : (Nat → Int32)) (course_plans : (Nat → Int32)) (rule_codes : (Nat → Int32)) (rule_stack : (Nat → Int32)) (rule_things : (Nat → Int32)) (rounds_riders : (Nat → Int32)) (rounds_horses : (Nat → Int32)) (rounds_faults : (Nat → Int32)) (rounds_tenths : (Nat → Int32)) : Option (Int32 × Int32 × Int32 × Int32 × Int32 × Int32 × Int32 × (Nat → Int32) × (Nat → Int32) × (Nat → Int32) × (Nat → Int32) × (Nat → Int32) × (Nat → Int32)) :=
  bd1 (f_X11_isRider p1) <| fun rn1 =>
  if rn1 = 0 then
    some ((-1 : Int32), rounds_size, drawn_state, drawn_faults, drawn_tenths, drawn_refused, drawn_fallen, rule_stack, rule_things, rounds_riders, rounds_horses, rounds_faults, rounds_tenths)
  else
    bd1 (f_X1_hasHorse p2 course_horseCount) <| fun rn2 =>
    if rn2 = 0 then
      some ((-1 : Int32), rounds_size, drawn_state, drawn_faults, drawn_tenths, drawn_refused, drawn_fallen, rule_stack, rule_things, rounds_riders, rounds_horses, rounds_faults, rounds_tenths)
    else
      bd1 (f_X1_hasPlan p3 course_planCount) <| fun rn3 =>
      if rn3 = 0 then
        some ((-1 : Int32), rounds_size, drawn_state, drawn_faults, drawn_tenths, drawn_refused, drawn_fallen, rule_stack, rule_things, rounds_riders, rounds_horses, rounds_faults, rounds_tenths)
      else
        bd1 (f_X10_isFull rounds_size) <| fun rn4 =>
        if rn4 = 0 then
          bd7 (f_X2_draw p2 p3 p4 course_fences course_allowed course_rule_size drawn_state drawn_faults drawn_tenths drawn_refused drawn_fallen course_kinds course_heights course_feet course_digits course_plans rule_codes rule_stack rule_things) <| fun drawn_staten5 drawn_faultsn6 drawn_tenthsn7 drawn_refusedn8 drawn_fallenn9 rule_stackn10 rule_thingsn11 =>
          bd5 (f_X10_add p1 p2 drawn_faultsn6 drawn_tenthsn7 rounds_size rounds_riders rounds_horses rounds_faults rounds_tenths) <| fun rounds_sizen12 rounds_ridersn13 rounds_horsesn14 rounds_faultsn15 rounds_tenthsn16 =>
          some (drawn_faultsn6, rounds_sizen12, drawn_staten5, drawn_faultsn6, drawn_tenthsn7, drawn_refusedn8, drawn_fallenn9, rule_stackn10, rule_thingsn11, rounds_ridersn13, rounds_horsesn14, rounds_faultsn15, rounds_tenthsn16)
        else
          some ((-2 : Int32), rounds_size, drawn_state, drawn_faults, drawn_tenths, drawn_refused, drawn_fallen, rule_stack, rule_things, rounds_riders, rounds_horses, rounds_faults, rounds_tenths)
def f_X11_isResult (p0 : Int32) (p1 : Int32) : Option Int32 :=
  if p0 < 0 then
    some (0 : Int32)
  else
    if (99 : Int32) < p0 then
      some (0 : Int32)
    else
      if p1 < 0 then
        some (0 : Int32)
      else
        if (9999 : Int32) < p1 then
          some (0 : Int32)
        else
          some (1 : Int32)
def f_X11_addTold (p1 : Int32) (p2 : Int32) (p3 : Int32) (p4 : Int32) (course_horseCount : Int32) (rounds_size : Int32) (rounds_riders : (Nat → Int32)) (rounds_horses : (Nat → Int32)) (rounds_faults : (Nat → Int32)) (rounds_tenths : (Nat → Int32)) : Option (Int32 × Int32 × (Nat → Int32) × (Nat → Int32) × (Nat → Int32) × (Nat → Int32)) :=
  bd1 (f_X11_isRider p1) <| fun rn1 =>
  if rn1 = 0 then
    some ((-1 : Int32), rounds_size, rounds_riders, rounds_horses, rounds_faults, rounds_tenths)
  else
    bd1 (f_X1_hasHorse p2 course_horseCount) <| fun rn2 =>
    if rn2 = 0 then
      some ((-1 : Int32), rounds_size, rounds_riders, rounds_horses, rounds_faults, rounds_tenths)
    else
      bd1 (f_X11_isResult p3 p4) <| fun rn3 =>
      if rn3 = 0 then
        some ((-1 : Int32), rounds_size, rounds_riders, rounds_horses, rounds_faults, rounds_tenths)
      else
        bd1 (f_X10_isFull rounds_size) <| fun rn4 =>
        if rn4 = 0 then
          bd5 (f_X10_add p1 p2 p3 p4 rounds_size rounds_riders rounds_horses rounds_faults rounds_tenths) <| fun rounds_sizen5 rounds_ridersn6 rounds_horsesn7 rounds_faultsn8 rounds_tenthsn9 =>
          some (rounds_sizen5, rounds_sizen5, rounds_ridersn6, rounds_horsesn7, rounds_faultsn8, rounds_tenthsn9)
        else
          some ((-2 : Int32), rounds_size, rounds_riders, rounds_horses, rounds_faults, rounds_tenths)
def f_X8_forget_history (history_count : Int32) (history_sizes : (Nat → Int32)) : Option (Int32 × (Nat → Int32)) :=
  bd1 (f_J7_fill_53178_history_sizes (-1 : Int32) history_sizes) <| fun history_sizesn1 =>
  some ((0 : Int32), history_sizesn1)
def f_X8_load_kept (p1 : Int32) (rounds_size : Int32) (kept_slots : Int32) (rounds_riders : (Nat → Int32)) (rounds_horses : (Nat → Int32)) (rounds_faults : (Nat → Int32)) (rounds_tenths : (Nat → Int32)) (kept_cells : (Nat → Int32)) (kept_sizes : (Nat → Int32)) : Option (Int32 × Int32 × (Nat → Int32) × (Nat → Int32) × (Nat → Int32) × (Nat → Int32)) :=
  if p1 < 0 then
    some ((0 : Int32), rounds_size, rounds_riders, rounds_horses, rounds_faults, rounds_tenths)
  else
    if kept_slots ≤ p1 then
      some ((0 : Int32), rounds_size, rounds_riders, rounds_horses, rounds_faults, rounds_tenths)
    else
      gd (ix p1 2) <|
      if (kept_sizes p1.toNatClampNeg) = (-1 : Int32) then
        some ((0 : Int32), rounds_size, rounds_riders, rounds_horses, rounds_faults, rounds_tenths)
      else
        lt1 ((p1 * (48 : Int32))) <| fun v3n1 =>
        gd (cpok v3n1 (0 : Int32) (12 : Int32) 96 12) <|
        gd (cpok (v3n1 + (12 : Int32)) (0 : Int32) (12 : Int32) 96 12) <|
        gd (cpok (v3n1 + (24 : Int32)) (0 : Int32) (12 : Int32) 96 12) <|
        gd (cpok (v3n1 + (36 : Int32)) (0 : Int32) (12 : Int32) 96 12) <|
        gd (ix p1 2) <|
        some ((1 : Int32), (kept_sizes p1.toNatClampNeg), (va_cpy kept_cells rounds_riders v3n1.toNatClampNeg (0 : Int32).toNatClampNeg (12 : Int32).toNatClampNeg), (va_cpy kept_cells rounds_horses (v3n1 + (12 : Int32)).toNatClampNeg (0 : Int32).toNatClampNeg (12 : Int32).toNatClampNeg), (va_cpy kept_cells rounds_faults (v3n1 + (24 : Int32)).toNatClampNeg (0 : Int32).toNatClampNeg (12 : Int32).toNatClampNeg), (va_cpy kept_cells rounds_tenths (v3n1 + (36 : Int32)).toNatClampNeg (0 : Int32).toNatClampNeg (12 : Int32).toNatClampNeg))
def f_X11_again (p1 : Int32) (rounds_size : Int32) (history_count : Int32) (kept_slots : Int32) (rounds_riders : (Nat → Int32)) (rounds_horses : (Nat → Int32)) (rounds_faults : (Nat → Int32)) (rounds_tenths : (Nat → Int32)) (history_sizes : (Nat → Int32)) (kept_cells : (Nat → Int32)) (kept_sizes : (Nat → Int32)) : Option (Int32 × Int32 × Int32 × (Nat → Int32) × (Nat → Int32) × (Nat → Int32) × (Nat → Int32) × (Nat → Int32)) :=
  bd6 (f_X8_load_kept p1 rounds_size kept_slots rounds_riders rounds_horses rounds_faults rounds_tenths kept_cells kept_sizes) <| fun rn1 rounds_sizen2 rounds_ridersn3 rounds_horsesn4 rounds_faultsn5 rounds_tenthsn6 =>
  if rn1 = 0 then
    some ((0 : Int32), rounds_sizen2, history_count, rounds_ridersn3, rounds_horsesn4, rounds_faultsn5, rounds_tenthsn6, history_sizes)
  else
    bd2 (f_X8_forget_history history_count history_sizes) <| fun history_countn7 history_sizesn8 =>
    some ((1 : Int32), rounds_sizen2, history_countn7, rounds_ridersn3, rounds_horsesn4, rounds_faultsn5, rounds_tenthsn6, history_sizesn8)
def f_X11_allow (p1 : Int32) (course_allowed : Int32) : Option (Int32 × Int32) :=
  if p1 < 0 then
    some ((-1 : Int32), course_allowed)
  else
    if p1 ≤ (9999 : Int32) then
      some (course_allowed, p1)
    else
      some ((-1 : Int32), course_allowed)
def k_X11_beat_36 (numbers_size : Int32) (rounds_size : Int32) (rounds_faults : (Nat → Int32)) (rounds_tenths : (Nat → Int32)) (rounds_money : (Nat → Int32)) (numbers_told : (Nat → Int64)) (v2_36x : Int32) : Option (Int32 × Int32 × (Nat → Int64)) :=
  if v2_36x = (-1 : Int32) then
    some ((-2 : Int32), numbers_size, numbers_told)
  else
    bd1 (f_X6_start numbers_size) <| fun numbers_sizen2 =>
    bd1 (f_X10_placeFor (0 : Int32) v2_36x rounds_size rounds_faults rounds_tenths) <| fun rn3 =>
    bd1 (f_X10_moneyAt rn3 rounds_money) <| fun rn4 =>
    bd2 (f_X6_put (rn4.toInt64) numbers_sizen2 numbers_told) <| fun numbers_sizen5 numbers_toldn6 =>
    some (v2_36x, numbers_sizen5, numbers_toldn6)
def s_X11_beat_36 (p1 : Int32) (rounds_size : Int32) (rounds_faults : (Nat → Int32)) (rounds_tenths : (Nat → Int32)) (kk36 : Int32 → Option (Int32 × Int32 × (Nat → Int64))) (rc36 : Int32 → Int32 → Option (Int32 × Int32 × (Nat → Int64))) (v2_36 : Int32) (v3_36 : Int32) : Option (Int32 × Int32 × (Nat → Int64)) :=
  if rounds_size ≤ v3_36 then
    kk36 v2_36
  else
    if v2_36 = (9999 : Int32) then
      kk36 v2_36
    else
      gd (ix v3_36 12) <|
      lt1 (((rounds_tenths v3_36.toNatClampNeg) - (1 : Int32))) <| fun v4n7 =>
      gd (ix v3_36 12) <|
      if (rounds_faults v3_36.toNatClampNeg) = 0 then
        if v4n7 ≤ v2_36 then
          lt1 ((v3_36 + (1 : Int32))) <| fun v3n9 =>
          rc36 v2_36 v3n9
        else
          bd1 (f_X10_placeFor (0 : Int32) v4n7 rounds_size rounds_faults rounds_tenths) <| fun rn10 =>
          if p1 < rn10 then
            lt1 ((v3_36 + (1 : Int32))) <| fun v3n11 =>
            rc36 v2_36 v3n11
          else
            lt1 ((v3_36 + (1 : Int32))) <| fun v3n12 =>
            rc36 v4n7 v3n12
      else
        lt1 ((v3_36 + (1 : Int32))) <| fun v3n8 =>
        rc36 v2_36 v3n8
def j_X11_beat_34 (p1 : Int32) (numbers_size : Int32) (rounds_size : Int32) (rounds_faults : (Nat → Int32)) (rounds_tenths : (Nat → Int32)) (rounds_money : (Nat → Int32)) (numbers_told : (Nat → Int64)) (v2_34j : Int32) : Option (Int32 × Int32 × (Nat → Int64)) :=
  ml2 (s_X11_beat_36 p1 rounds_size rounds_faults rounds_tenths (k_X11_beat_36 numbers_size rounds_size rounds_faults rounds_tenths rounds_money numbers_told)) zN v2_34j (0 : Int32)
def f_X11_beat (p1 : Int32) (numbers_size : Int32) (rounds_size : Int32) (rounds_faults : (Nat → Int32)) (rounds_tenths : (Nat → Int32)) (rounds_money : (Nat → Int32)) (numbers_told : (Nat → Int64)) : Option (Int32 × Int32 × (Nat → Int64)) :=
  if p1 < (1 : Int32) then
    some ((-1 : Int32), numbers_size, numbers_told)
  else
    if p1 ≤ (12 : Int32) then
      bd1 (f_X10_placeFor (0 : Int32) (9999 : Int32) rounds_size rounds_faults rounds_tenths) <| fun rn1 =>
      if p1 < rn1 then
        j_X11_beat_34 p1 numbers_size rounds_size rounds_faults rounds_tenths rounds_money numbers_told (-1 : Int32)
      else
        j_X11_beat_34 p1 numbers_size rounds_size rounds_faults rounds_tenths rounds_money numbers_told (9999 : Int32)
    else
      some ((-1 : Int32), numbers_size, numbers_told)
def f_X11_thoughtMoney (p1 : Int32) (p2 : Int32) (course_fences : Int32) (course_allowed : Int32) (rounds_size : Int32) (course_kinds : (Nat → Int32)) (course_feet : (Nat → Int32)) (course_plans : (Nat → Int32)) (rounds_faults : (Nat → Int32)) (rounds_tenths : (Nat → Int32)) (rounds_money : (Nat → Int32)) : Option Int32 :=
  bd1 (f_X1_planTenths p1 course_fences course_kinds course_feet course_plans) <| fun rn1 =>
  bd1 (f_X11_begun rn1 course_allowed (40 : Int32)) <| fun rn2 =>
  bd1 (f_X10_placeFor ((p2 + rn2)) rn1 rounds_size rounds_faults rounds_tenths) <| fun rn3 =>
  bd1 (f_X10_moneyAt rn3 rounds_money) <| fun rn4 =>
  some rn4
def f_X1_passing (p0 : Int32) (p1 : Int32) (p2 : Int32) : Option Int32 :=
  some ((((p0 * ((100 : Int32) - p1)) / (100 : Int32)) * ((100 : Int32) - p2)) / (100 : Int32))
def k_X1_clearOf_7 (v3_7x : Int32) (rule_stack_7x : (Nat → Int32)) (rule_things_7x : (Nat → Int32)) : Option (Int32 × (Nat → Int32) × (Nat → Int32)) :=
  some (v3_7x, rule_stack_7x, rule_things_7x)
def s_X1_clearOf_7 (p1 : Int32) (p2 : Int32) (course_fences : Int32) (course_rule_size : Int32) (course_kinds : (Nat → Int32)) (course_heights : (Nat → Int32)) (course_feet : (Nat → Int32)) (course_digits : (Nat → Int32)) (course_plans : (Nat → Int32)) (rule_codes : (Nat → Int32)) (kk7 : Int32 → (Nat → Int32) → (Nat → Int32) → Option (Int32 × (Nat → Int32) × (Nat → Int32))) (rc7 : Int32 → Int32 → (Nat → Int32) → (Nat → Int32) → Option (Int32 × (Nat → Int32) × (Nat → Int32))) (v3_7 : Int32) (v4_7 : Int32) (rule_stack_7 : (Nat → Int32)) (rule_things_7 : (Nat → Int32)) : Option (Int32 × (Nat → Int32) × (Nat → Int32)) :=
  if course_fences ≤ v4_7 then
    kk7 v3_7 rule_stack_7 rule_things_7
  else
    bd1 (f_X1_letterAt p2 v4_7 course_plans) <| fun rn1 =>
    bd3 (f_X1_poleOdds p1 v4_7 rn1 course_rule_size course_kinds course_heights course_feet course_digits rule_codes rule_stack_7 rule_things_7) <| fun rn2 rule_stackn3 rule_thingsn4 =>
    bd1 (f_X1_refusalOdds p1 v4_7 course_kinds course_feet course_digits) <| fun rn5 =>
    bd1 (f_X1_passing v3_7 rn5 rn2) <| fun rn6 =>
    lt1 ((v4_7 + (1 : Int32))) <| fun v4n7 =>
    rc7 rn6 v4n7 rule_stackn3 rule_thingsn4
def f_X1_clearOf (p1 : Int32) (p2 : Int32) (course_fences : Int32) (course_rule_size : Int32) (course_kinds : (Nat → Int32)) (course_heights : (Nat → Int32)) (course_feet : (Nat → Int32)) (course_digits : (Nat → Int32)) (course_plans : (Nat → Int32)) (rule_codes : (Nat → Int32)) (rule_stack : (Nat → Int32)) (rule_things : (Nat → Int32)) : Option (Int32 × (Nat → Int32) × (Nat → Int32)) :=
  ml4 (s_X1_clearOf_7 p1 p2 course_fences course_rule_size course_kinds course_heights course_feet course_digits course_plans rule_codes (k_X1_clearOf_7)) zN (10000 : Int32) (0 : Int32) rule_stack rule_things
def f_X11_meanOf (p1 : Int32) (p2 : Int32) (course_fences : Int32) (course_allowed : Int32) (course_rule_size : Int32) (rounds_size : Int32) (course_kinds : (Nat → Int32)) (course_heights : (Nat → Int32)) (course_feet : (Nat → Int32)) (course_digits : (Nat → Int32)) (course_plans : (Nat → Int32)) (rule_codes : (Nat → Int32)) (rule_stack : (Nat → Int32)) (rule_things : (Nat → Int32)) (rounds_faults : (Nat → Int32)) (rounds_tenths : (Nat → Int32)) (rounds_money : (Nat → Int32)) : Option (Int32 × (Nat → Int32) × (Nat → Int32)) :=
  bd3 (f_X1_clearOf p1 p2 course_fences course_rule_size course_kinds course_heights course_feet course_digits course_plans rule_codes rule_stack rule_things) <| fun rn1 rule_stackn2 rule_thingsn3 =>
  bd1 (f_X11_thoughtMoney p2 (0 : Int32) course_fences course_allowed rounds_size course_kinds course_feet course_plans rounds_faults rounds_tenths rounds_money) <| fun rn4 =>
  bd1 (f_X11_thoughtMoney p2 (4 : Int32) course_fences course_allowed rounds_size course_kinds course_feet course_plans rounds_faults rounds_tenths rounds_money) <| fun rn5 =>
  some (((rn1 * rn4) + (((10000 : Int32) - rn1) * rn5)), rule_stackn2, rule_thingsn3)
def k_X11_bestPlan_7 (v2_7x : Int32) (rule_stack_7x : (Nat → Int32)) (rule_things_7x : (Nat → Int32)) : Option (Int32 × (Nat → Int32) × (Nat → Int32)) :=
  some (v2_7x, rule_stack_7x, rule_things_7x)
def s_X11_bestPlan_7 (p1 : Int32) (course_fences : Int32) (course_planCount : Int32) (course_allowed : Int32) (course_rule_size : Int32) (rounds_size : Int32) (course_kinds : (Nat → Int32)) (course_heights : (Nat → Int32)) (course_feet : (Nat → Int32)) (course_digits : (Nat → Int32)) (course_plans : (Nat → Int32)) (rule_codes : (Nat → Int32)) (rounds_faults : (Nat → Int32)) (rounds_tenths : (Nat → Int32)) (rounds_money : (Nat → Int32)) (kk7 : Int32 → (Nat → Int32) → (Nat → Int32) → Option (Int32 × (Nat → Int32) × (Nat → Int32))) (rc7 : Int32 → Int32 → Int32 → (Nat → Int32) → (Nat → Int32) → Option (Int32 × (Nat → Int32) × (Nat → Int32))) (v2_7 : Int32) (v3_7 : Int32) (v4_7 : Int32) (rule_stack_7 : (Nat → Int32)) (rule_things_7 : (Nat → Int32)) : Option (Int32 × (Nat → Int32) × (Nat → Int32)) :=
  if course_planCount ≤ v4_7 then
    kk7 v2_7 rule_stack_7 rule_things_7
  else
    bd3 (f_X11_meanOf p1 v4_7 course_fences course_allowed course_rule_size rounds_size course_kinds course_heights course_feet course_digits course_plans rule_codes rule_stack_7 rule_things_7 rounds_faults rounds_tenths rounds_money) <| fun rn1 rule_stackn2 rule_thingsn3 =>
    if rn1 ≤ v3_7 then
      lt1 ((v4_7 + (1 : Int32))) <| fun v4n4 =>
      rc7 v2_7 v3_7 v4n4 rule_stackn2 rule_thingsn3
    else
      lt1 ((v4_7 + (1 : Int32))) <| fun v4n5 =>
      rc7 v4_7 rn1 v4n5 rule_stackn2 rule_thingsn3
def f_X11_bestPlan (p1 : Int32) (course_fences : Int32) (course_planCount : Int32) (course_allowed : Int32) (course_rule_size : Int32) (rounds_size : Int32) (course_kinds : (Nat → Int32)) (course_heights : (Nat → Int32)) (course_feet : (Nat → Int32)) (course_digits : (Nat → Int32)) (course_plans : (Nat → Int32)) (rule_codes : (Nat → Int32)) (rule_stack : (Nat → Int32)) (rule_things : (Nat → Int32)) (rounds_faults : (Nat → Int32)) (rounds_tenths : (Nat → Int32)) (rounds_money : (Nat → Int32)) : Option (Int32 × (Nat → Int32) × (Nat → Int32)) :=
  ml5 (s_X11_bestPlan_7 p1 course_fences course_planCount course_allowed course_rule_size rounds_size course_kinds course_heights course_feet course_digits course_plans rule_codes rounds_faults rounds_tenths rounds_money (k_X11_bestPlan_7)) zN (0 : Int32) (-1 : Int32) (0 : Int32) rule_stack rule_things
def k_X11_bitsThrough_5 (v3_5x : Int32) (rule_stack_5x : (Nat → Int32)) (rule_things_5x : (Nat → Int32)) : Option (Int32 × (Nat → Int32) × (Nat → Int32)) :=
  some (v3_5x, rule_stack_5x, rule_things_5x)
def s_X11_bitsThrough_5 (p1 : Int32) (p2 : Int32) (course_fences : Int32) (course_horseCount : Int32) (course_rule_size : Int32) (course_kinds : (Nat → Int32)) (course_heights : (Nat → Int32)) (course_feet : (Nat → Int32)) (course_digits : (Nat → Int32)) (course_plans : (Nat → Int32)) (rule_codes : (Nat → Int32)) (kk5 : Int32 → (Nat → Int32) → (Nat → Int32) → Option (Int32 × (Nat → Int32) × (Nat → Int32))) (rc5 : Int32 → Int32 → (Nat → Int32) → (Nat → Int32) → Option (Int32 × (Nat → Int32) × (Nat → Int32))) (v3_5 : Int32) (v4_5 : Int32) (rule_stack_5 : (Nat → Int32)) (rule_things_5 : (Nat → Int32)) : Option (Int32 × (Nat → Int32) × (Nat → Int32)) :=
  if course_horseCount ≤ v4_5 then
    kk5 v3_5 rule_stack_5 rule_things_5
  else
    bd3 (f_X1_clearOf v4_5 p1 course_fences course_rule_size course_kinds course_heights course_feet course_digits course_plans rule_codes rule_stack_5 rule_things_5) <| fun rn1 rule_stackn2 rule_thingsn3 =>
    if rn1 < p2 then
      lt1 ((v4_5 + (1 : Int32))) <| fun v4n4 =>
      rc5 v3_5 v4n4 rule_stackn2 rule_thingsn3
    else
      lt1 ((v3_5 ||| ((1 : Int32) <<< (v4_5 &&& 31)))) <| fun v3n5 =>
      lt1 ((v4_5 + (1 : Int32))) <| fun v4n6 =>
      rc5 v3n5 v4n6 rule_stackn2 rule_thingsn3
def f_X11_bitsThrough (p1 : Int32) (p2 : Int32) (course_fences : Int32) (course_horseCount : Int32) (course_rule_size : Int32) (course_kinds : (Nat → Int32)) (course_heights : (Nat → Int32)) (course_feet : (Nat → Int32)) (course_digits : (Nat → Int32)) (course_plans : (Nat → Int32)) (rule_codes : (Nat → Int32)) (rule_stack : (Nat → Int32)) (rule_things : (Nat → Int32)) : Option (Int32 × (Nat → Int32) × (Nat → Int32)) :=
  ml4 (s_X11_bitsThrough_5 p1 p2 course_fences course_horseCount course_rule_size course_kinds course_heights course_feet course_digits course_plans rule_codes (k_X11_bitsThrough_5)) zN (0 : Int32) (0 : Int32) rule_stack rule_things
def k_X1_countAtHeights_11 (p2 : Int32) (v5n1 : Int32) (course_heights_11x : (Nat → Int32)) (rule_stack_11x : (Nat → Int32)) (rule_things_11x : (Nat → Int32)) (course_counts_11x : (Nat → Int32)) : Option ((Nat → Int32) × (Nat → Int32) × (Nat → Int32) × (Nat → Int32)) :=
  gd (ix p2 8) <|
  some ((upd course_heights_11x p2.toNatClampNeg v5n1), rule_stack_11x, rule_things_11x, course_counts_11x)
def k_X1_countAtHeights_43 (p2 : Int32) (p4 : Int32) (rc11 : Int32 → (Nat → Int32) → (Nat → Int32) → (Nat → Int32) → (Nat → Int32) → Option ((Nat → Int32) × (Nat → Int32) × (Nat → Int32) × (Nat → Int32))) (v6_11 : Int32) (course_heights_11 : (Nat → Int32)) (course_counts_11 : (Nat → Int32)) (rule_stackn3 : (Nat → Int32)) (rule_thingsn4 : (Nat → Int32)) (v8_43x : Int32) : Option ((Nat → Int32) × (Nat → Int32) × (Nat → Int32) × (Nat → Int32)) :=
  gd (ix ((p2 * (10 : Int32)) + v6_11) 80) <|
  if v8_43x < p4 then
    gd (ix ((p2 * (10 : Int32)) + v6_11) 80) <|
    lt1 ((v6_11 + (1 : Int32))) <| fun v6n5 =>
    rc11 v6n5 ((upd course_heights_11 p2.toNatClampNeg v6_11)) rule_stackn3 rule_thingsn4 ((upd course_counts_11 ((p2 * (10 : Int32)) + v6_11).toNatClampNeg ((course_counts_11 ((p2 * (10 : Int32)) + v6_11).toNatClampNeg) + (0 : Int32))))
  else
    gd (ix ((p2 * (10 : Int32)) + v6_11) 80) <|
    lt1 ((v6_11 + (1 : Int32))) <| fun v6n6 =>
    rc11 v6n6 ((upd course_heights_11 p2.toNatClampNeg v6_11)) rule_stackn3 rule_thingsn4 ((upd course_counts_11 ((p2 * (10 : Int32)) + v6_11).toNatClampNeg ((course_counts_11 ((p2 * (10 : Int32)) + v6_11).toNatClampNeg) + (1 : Int32))))
def s_X1_countAtHeights_43 (p2 : Int32) (course_fences : Int32) (course_poles : (Nat → Int32)) (course_refusals : (Nat → Int32)) (rn2 : Int32) (kk43 : Int32 → Option ((Nat → Int32) × (Nat → Int32) × (Nat → Int32) × (Nat → Int32))) (rc43 : Int32 → Int32 → Option ((Nat → Int32) × (Nat → Int32) × (Nat → Int32) × (Nat → Int32))) (v8_43 : Int32) (v9_43 : Int32) : Option ((Nat → Int32) × (Nat → Int32) × (Nat → Int32) × (Nat → Int32)) :=
  if course_fences ≤ v9_43 then
    kk43 v8_43
  else
    gd (ix v9_43 8) <|
    if v9_43 = p2 then
      bd1 (f_X1_passing v8_43 ((course_refusals v9_43.toNatClampNeg)) rn2) <| fun rn9 =>
      lt1 ((v9_43 + (1 : Int32))) <| fun v9n10 =>
      rc43 rn9 v9n10
    else
      gd (ix v9_43 8) <|
      bd1 (f_X1_passing v8_43 ((course_refusals v9_43.toNatClampNeg)) ((course_poles v9_43.toNatClampNeg))) <| fun rn7 =>
      lt1 ((v9_43 + (1 : Int32))) <| fun v9n8 =>
      rc43 rn7 v9n8
def s_X1_countAtHeights_11 (p1 : Int32) (p2 : Int32) (p3 : Int32) (p4 : Int32) (course_fences : Int32) (course_rule_size : Int32) (course_kinds : (Nat → Int32)) (course_feet : (Nat → Int32)) (course_digits : (Nat → Int32)) (rule_codes : (Nat → Int32)) (course_poles : (Nat → Int32)) (course_refusals : (Nat → Int32)) (kk11 : (Nat → Int32) → (Nat → Int32) → (Nat → Int32) → (Nat → Int32) → Option ((Nat → Int32) × (Nat → Int32) × (Nat → Int32) × (Nat → Int32))) (rc11 : Int32 → (Nat → Int32) → (Nat → Int32) → (Nat → Int32) → (Nat → Int32) → Option ((Nat → Int32) × (Nat → Int32) × (Nat → Int32) × (Nat → Int32))) (v6_11 : Int32) (course_heights_11 : (Nat → Int32)) (rule_stack_11 : (Nat → Int32)) (rule_things_11 : (Nat → Int32)) (course_counts_11 : (Nat → Int32)) : Option ((Nat → Int32) × (Nat → Int32) × (Nat → Int32) × (Nat → Int32)) :=
  if (10 : Int32) ≤ v6_11 then
    kk11 course_heights_11 rule_stack_11 rule_things_11 course_counts_11
  else
    gd (ix p2 8) <|
    bd3 (f_X1_poleOdds p1 p2 p3 course_rule_size course_kinds ((upd course_heights_11 p2.toNatClampNeg v6_11)) course_feet course_digits rule_codes rule_stack_11 rule_things_11) <| fun rn2 rule_stackn3 rule_thingsn4 =>
    ml2 (s_X1_countAtHeights_43 p2 course_fences course_poles course_refusals rn2 (k_X1_countAtHeights_43 p2 p4 rc11 v6_11 course_heights_11 course_counts_11 rule_stackn3 rule_thingsn4)) zN (10000 : Int32) (0 : Int32)
def f_X1_countAtHeights (p1 : Int32) (p2 : Int32) (p3 : Int32) (p4 : Int32) (course_fences : Int32) (course_rule_size : Int32) (course_kinds : (Nat → Int32)) (course_heights : (Nat → Int32)) (course_feet : (Nat → Int32)) (course_digits : (Nat → Int32)) (rule_codes : (Nat → Int32)) (rule_stack : (Nat → Int32)) (rule_things : (Nat → Int32)) (course_counts : (Nat → Int32)) (course_poles : (Nat → Int32)) (course_refusals : (Nat → Int32)) : Option ((Nat → Int32) × (Nat → Int32) × (Nat → Int32) × (Nat → Int32)) :=
  gd (ix p2 8) <|
  lt1 ((course_heights p2.toNatClampNeg)) <| fun v5n1 =>
  ml5 (s_X1_countAtHeights_11 p1 p2 p3 p4 course_fences course_rule_size course_kinds course_feet course_digits rule_codes course_poles course_refusals (k_X1_countAtHeights_11 p2 v5n1)) zN (0 : Int32) course_heights rule_stack rule_things course_counts
def k_X1_countThrough_10 (course_heights_10x : (Nat → Int32)) (rule_stack_10x : (Nat → Int32)) (rule_things_10x : (Nat → Int32)) (course_counts_10x : (Nat → Int32)) (course_poles_10x : (Nat → Int32)) (course_refusals_10x : (Nat → Int32)) : Option ((Nat → Int32) × (Nat → Int32) × (Nat → Int32) × (Nat → Int32) × (Nat → Int32) × (Nat → Int32)) :=
  some (course_heights_10x, rule_stack_10x, rule_things_10x, course_counts_10x, course_poles_10x, course_refusals_10x)
def k_X1_countThrough_74 (rc10 : Int32 → (Nat → Int32) → (Nat → Int32) → (Nat → Int32) → (Nat → Int32) → (Nat → Int32) → (Nat → Int32) → Option ((Nat → Int32) × (Nat → Int32) × (Nat → Int32) × (Nat → Int32) × (Nat → Int32) × (Nat → Int32))) (v3_10 : Int32) (course_poles_21x : (Nat → Int32)) (course_refusals_21x : (Nat → Int32)) (course_heights_74x : (Nat → Int32)) (rule_stack_74x : (Nat → Int32)) (rule_things_74x : (Nat → Int32)) (course_counts_74x : (Nat → Int32)) : Option ((Nat → Int32) × (Nat → Int32) × (Nat → Int32) × (Nat → Int32) × (Nat → Int32) × (Nat → Int32)) :=
  lt1 ((v3_10 + (1 : Int32))) <| fun v3n2 =>
  rc10 v3n2 course_heights_74x rule_stack_74x rule_things_74x course_counts_74x course_poles_21x course_refusals_21x
def s_X1_countThrough_74 (p1 : Int32) (p2 : Int32) (course_fences : Int32) (course_rule_size : Int32) (course_kinds : (Nat → Int32)) (course_feet : (Nat → Int32)) (course_digits : (Nat → Int32)) (course_plans : (Nat → Int32)) (rule_codes : (Nat → Int32)) (v3_10 : Int32) (course_poles_21x : (Nat → Int32)) (course_refusals_21x : (Nat → Int32)) (kk74 : (Nat → Int32) → (Nat → Int32) → (Nat → Int32) → (Nat → Int32) → Option ((Nat → Int32) × (Nat → Int32) × (Nat → Int32) × (Nat → Int32) × (Nat → Int32) × (Nat → Int32))) (rc74 : Int32 → (Nat → Int32) → (Nat → Int32) → (Nat → Int32) → (Nat → Int32) → Option ((Nat → Int32) × (Nat → Int32) × (Nat → Int32) × (Nat → Int32) × (Nat → Int32) × (Nat → Int32))) (v4_74 : Int32) (course_heights_74 : (Nat → Int32)) (rule_stack_74 : (Nat → Int32)) (rule_things_74 : (Nat → Int32)) (course_counts_74 : (Nat → Int32)) : Option ((Nat → Int32) × (Nat → Int32) × (Nat → Int32) × (Nat → Int32) × (Nat → Int32) × (Nat → Int32)) :=
  if course_fences ≤ v4_74 then
    kk74 course_heights_74 rule_stack_74 rule_things_74 course_counts_74
  else
    bd1 (f_X1_letterAt p1 v4_74 course_plans) <| fun rn3 =>
    bd4 (f_X1_countAtHeights v3_10 v4_74 rn3 p2 course_fences course_rule_size course_kinds course_heights_74 course_feet course_digits rule_codes rule_stack_74 rule_things_74 course_counts_74 course_poles_21x course_refusals_21x) <| fun course_heightsn4 rule_stackn5 rule_thingsn6 course_countsn7 =>
    lt1 ((v4_74 + (1 : Int32))) <| fun v4n8 =>
    rc74 v4n8 course_heightsn4 rule_stackn5 rule_thingsn6 course_countsn7
def k_X1_countThrough_21 (p1 : Int32) (p2 : Int32) (course_fences : Int32) (course_rule_size : Int32) (course_kinds : (Nat → Int32)) (course_feet : (Nat → Int32)) (course_digits : (Nat → Int32)) (course_plans : (Nat → Int32)) (rule_codes : (Nat → Int32)) (rc10 : Int32 → (Nat → Int32) → (Nat → Int32) → (Nat → Int32) → (Nat → Int32) → (Nat → Int32) → (Nat → Int32) → Option ((Nat → Int32) × (Nat → Int32) × (Nat → Int32) × (Nat → Int32) × (Nat → Int32) × (Nat → Int32))) (v3_10 : Int32) (course_heights_10 : (Nat → Int32)) (course_counts_10 : (Nat → Int32)) (rule_stack_21x : (Nat → Int32)) (rule_things_21x : (Nat → Int32)) (course_poles_21x : (Nat → Int32)) (course_refusals_21x : (Nat → Int32)) : Option ((Nat → Int32) × (Nat → Int32) × (Nat → Int32) × (Nat → Int32) × (Nat → Int32) × (Nat → Int32)) :=
  ml5 (s_X1_countThrough_74 p1 p2 course_fences course_rule_size course_kinds course_feet course_digits course_plans rule_codes v3_10 course_poles_21x course_refusals_21x (k_X1_countThrough_74 rc10 v3_10 course_poles_21x course_refusals_21x)) zN (0 : Int32) course_heights_10 rule_stack_21x rule_things_21x course_counts_10
def s_X1_countThrough_21 (p1 : Int32) (course_fences : Int32) (course_rule_size : Int32) (course_kinds : (Nat → Int32)) (course_feet : (Nat → Int32)) (course_digits : (Nat → Int32)) (course_plans : (Nat → Int32)) (rule_codes : (Nat → Int32)) (v3_10 : Int32) (course_heights_10 : (Nat → Int32)) (kk21 : (Nat → Int32) → (Nat → Int32) → (Nat → Int32) → (Nat → Int32) → Option ((Nat → Int32) × (Nat → Int32) × (Nat → Int32) × (Nat → Int32) × (Nat → Int32) × (Nat → Int32))) (rc21 : Int32 → (Nat → Int32) → (Nat → Int32) → (Nat → Int32) → (Nat → Int32) → Option ((Nat → Int32) × (Nat → Int32) × (Nat → Int32) × (Nat → Int32) × (Nat → Int32) × (Nat → Int32))) (v4_21 : Int32) (rule_stack_21 : (Nat → Int32)) (rule_things_21 : (Nat → Int32)) (course_poles_21 : (Nat → Int32)) (course_refusals_21 : (Nat → Int32)) : Option ((Nat → Int32) × (Nat → Int32) × (Nat → Int32) × (Nat → Int32) × (Nat → Int32) × (Nat → Int32)) :=
  if course_fences ≤ v4_21 then
    kk21 rule_stack_21 rule_things_21 course_poles_21 course_refusals_21
  else
    bd1 (f_X1_letterAt p1 v4_21 course_plans) <| fun rn9 =>
    bd3 (f_X1_poleOdds v3_10 v4_21 rn9 course_rule_size course_kinds course_heights_10 course_feet course_digits rule_codes rule_stack_21 rule_things_21) <| fun rn10 rule_stackn11 rule_thingsn12 =>
    gd (ix v4_21 8) <|
    bd1 (f_X1_refusalOdds v3_10 v4_21 course_kinds course_feet course_digits) <| fun rn13 =>
    gd (ix v4_21 8) <|
    lt1 ((v4_21 + (1 : Int32))) <| fun v4n14 =>
    rc21 v4n14 rule_stackn11 rule_thingsn12 ((upd course_poles_21 v4_21.toNatClampNeg rn10)) ((upd course_refusals_21 v4_21.toNatClampNeg rn13))
def s_X1_countThrough_10 (p1 : Int32) (p2 : Int32) (course_fences : Int32) (course_horseCount : Int32) (course_rule_size : Int32) (course_kinds : (Nat → Int32)) (course_feet : (Nat → Int32)) (course_digits : (Nat → Int32)) (course_plans : (Nat → Int32)) (rule_codes : (Nat → Int32)) (kk10 : (Nat → Int32) → (Nat → Int32) → (Nat → Int32) → (Nat → Int32) → (Nat → Int32) → (Nat → Int32) → Option ((Nat → Int32) × (Nat → Int32) × (Nat → Int32) × (Nat → Int32) × (Nat → Int32) × (Nat → Int32))) (rc10 : Int32 → (Nat → Int32) → (Nat → Int32) → (Nat → Int32) → (Nat → Int32) → (Nat → Int32) → (Nat → Int32) → Option ((Nat → Int32) × (Nat → Int32) × (Nat → Int32) × (Nat → Int32) × (Nat → Int32) × (Nat → Int32))) (v3_10 : Int32) (course_heights_10 : (Nat → Int32)) (rule_stack_10 : (Nat → Int32)) (rule_things_10 : (Nat → Int32)) (course_counts_10 : (Nat → Int32)) (course_poles_10 : (Nat → Int32)) (course_refusals_10 : (Nat → Int32)) : Option ((Nat → Int32) × (Nat → Int32) × (Nat → Int32) × (Nat → Int32) × (Nat → Int32) × (Nat → Int32)) :=
  if course_horseCount ≤ v3_10 then
    kk10 course_heights_10 rule_stack_10 rule_things_10 course_counts_10 course_poles_10 course_refusals_10
  else
    ml5 (s_X1_countThrough_21 p1 course_fences course_rule_size course_kinds course_feet course_digits course_plans rule_codes v3_10 course_heights_10 (k_X1_countThrough_21 p1 p2 course_fences course_rule_size course_kinds course_feet course_digits course_plans rule_codes rc10 v3_10 course_heights_10 course_counts_10)) zN (0 : Int32) rule_stack_10 rule_things_10 course_poles_10 course_refusals_10
def f_X1_countThrough (p1 : Int32) (p2 : Int32) (course_fences : Int32) (course_horseCount : Int32) (course_rule_size : Int32) (course_kinds : (Nat → Int32)) (course_heights : (Nat → Int32)) (course_feet : (Nat → Int32)) (course_digits : (Nat → Int32)) (course_plans : (Nat → Int32)) (rule_codes : (Nat → Int32)) (rule_stack : (Nat → Int32)) (rule_things : (Nat → Int32)) (course_counts : (Nat → Int32)) (course_poles : (Nat → Int32)) (course_refusals : (Nat → Int32)) : Option ((Nat → Int32) × (Nat → Int32) × (Nat → Int32) × (Nat → Int32) × (Nat → Int32) × (Nat → Int32)) :=
  bd1 (f_J7_fill_53178_course_counts (0 : Int32) course_counts) <| fun course_countsn1 =>
  ml7 (s_X1_countThrough_10 p1 p2 course_fences course_horseCount course_rule_size course_kinds course_feet course_digits course_plans rule_codes (k_X1_countThrough_10)) zN (0 : Int32) course_heights rule_stack rule_things course_countsn1 course_poles course_refusals
def j_X11_built_152 (numbers_told : (Nat → Int64)) (course_heightsn2 : (Nat → Int32)) (course_countsn5 : (Nat → Int32)) (course_polesn6 : (Nat → Int32)) (course_refusalsn7 : (Nat → Int32)) (rule_stackn9 : (Nat → Int32)) (rule_thingsn10 : (Nat → Int32)) (v4_61x : Int32) (v5_61x : Int32) (numbers_sizen12 : Int32) (t1_152j : Int64) : Option (Int32 × Int32 × (Nat → Int32) × (Nat → Int32) × (Nat → Int32) × (Nat → Int32) × (Nat → Int32) × (Nat → Int32) × (Nat → Int64)) :=
  bd2 (f_X6_put t1_152j numbers_sizen12 numbers_told) <| fun numbers_sizen13 numbers_toldn14 =>
  bd2 (f_X6_put (v5_61x.toInt64) numbers_sizen13 numbers_toldn14) <| fun numbers_sizen15 numbers_toldn16 =>
  if v4_61x = (-1 : Int32) then
    some ((-1 : Int32), numbers_sizen15, course_heightsn2, rule_stackn9, rule_thingsn10, course_countsn5, course_polesn6, course_refusalsn7, numbers_toldn16)
  else
    some ((v4_61x / (10 : Int32)), numbers_sizen15, course_heightsn2, rule_stackn9, rule_thingsn10, course_countsn5, course_polesn6, course_refusalsn7, numbers_toldn16)
def k_X11_built_61 (numbers_size : Int32) (numbers_told : (Nat → Int64)) (course_heightsn2 : (Nat → Int32)) (course_countsn5 : (Nat → Int32)) (course_polesn6 : (Nat → Int32)) (course_refusalsn7 : (Nat → Int32)) (rule_stackn9 : (Nat → Int32)) (rule_thingsn10 : (Nat → Int32)) (v4_61x : Int32) (v5_61x : Int32) : Option (Int32 × Int32 × (Nat → Int32) × (Nat → Int32) × (Nat → Int32) × (Nat → Int32) × (Nat → Int32) × (Nat → Int32) × (Nat → Int64)) :=
  bd1 (f_X6_start numbers_size) <| fun numbers_sizen12 =>
  if v4_61x = (-1 : Int32) then
    j_X11_built_152 numbers_told course_heightsn2 course_countsn5 course_polesn6 course_refusalsn7 rule_stackn9 rule_thingsn10 v4_61x v5_61x numbers_sizen12 (-1 : Int64)
  else
    j_X11_built_152 numbers_told course_heightsn2 course_countsn5 course_polesn6 course_refusalsn7 rule_stackn9 rule_thingsn10 v4_61x v5_61x numbers_sizen12 (((v4_61x - v4_61x / (10 : Int32) * (10 : Int32))).toInt64)
def s_X11_built_61 (p3 : Int32) (course_fences : Int32) (course_countsn5 : (Nat → Int32)) (kk61 : Int32 → Int32 → Option (Int32 × Int32 × (Nat → Int32) × (Nat → Int32) × (Nat → Int32) × (Nat → Int32) × (Nat → Int32) × (Nat → Int32) × (Nat → Int64))) (rc61 : Int32 → Int32 → Int32 → Option (Int32 × Int32 × (Nat → Int32) × (Nat → Int32) × (Nat → Int32) × (Nat → Int32) × (Nat → Int32) × (Nat → Int32) × (Nat → Int64))) (v4_61 : Int32) (v5_61 : Int32) (v6_61 : Int32) : Option (Int32 × Int32 × (Nat → Int32) × (Nat → Int32) × (Nat → Int32) × (Nat → Int32) × (Nat → Int32) × (Nat → Int32) × (Nat → Int64)) :=
  if (course_fences * (10 : Int32)) ≤ v6_61 then
    kk61 v4_61 v5_61
  else
    gd (ix v6_61 80) <|
    if (if 0 ≤ (v5_61 - p3) then (v5_61 - p3) else 0 - (v5_61 - p3)) ≤ (if 0 ≤ ((course_countsn5 v6_61.toNatClampNeg) - p3) then ((course_countsn5 v6_61.toNatClampNeg) - p3) else 0 - ((course_countsn5 v6_61.toNatClampNeg) - p3)) then
      lt1 ((v6_61 + (1 : Int32))) <| fun v6n17 =>
      rc61 v4_61 v5_61 v6n17
    else
      gd (ix v6_61 80) <|
      lt1 ((course_countsn5 v6_61.toNatClampNeg)) <| fun v5n18 =>
      lt1 ((v6_61 + (1 : Int32))) <| fun v6n19 =>
      rc61 v6_61 v5n18 v6n19
def f_X11_built (p1 : Int32) (p2 : Int32) (p3 : Int32) (numbers_size : Int32) (course_fences : Int32) (course_horseCount : Int32) (course_planCount : Int32) (course_rule_size : Int32) (course_kinds : (Nat → Int32)) (course_heights : (Nat → Int32)) (course_feet : (Nat → Int32)) (course_digits : (Nat → Int32)) (course_plans : (Nat → Int32)) (rule_codes : (Nat → Int32)) (rule_stack : (Nat → Int32)) (rule_things : (Nat → Int32)) (course_counts : (Nat → Int32)) (course_poles : (Nat → Int32)) (course_refusals : (Nat → Int32)) (numbers_told : (Nat → Int64)) : Option (Int32 × Int32 × (Nat → Int32) × (Nat → Int32) × (Nat → Int32) × (Nat → Int32) × (Nat → Int32) × (Nat → Int32) × (Nat → Int64)) :=
  bd1 (f_X1_hasPlan p1 course_planCount) <| fun rn1 =>
  if rn1 = 0 then
    some ((-2 : Int32), numbers_size, course_heights, rule_stack, rule_things, course_counts, course_poles, course_refusals, numbers_told)
  else
    if p2 < 0 then
      some ((-2 : Int32), numbers_size, course_heights, rule_stack, rule_things, course_counts, course_poles, course_refusals, numbers_told)
    else
      if (10000 : Int32) < p2 then
        some ((-2 : Int32), numbers_size, course_heights, rule_stack, rule_things, course_counts, course_poles, course_refusals, numbers_told)
      else
        if p3 < 0 then
          some ((-2 : Int32), numbers_size, course_heights, rule_stack, rule_things, course_counts, course_poles, course_refusals, numbers_told)
        else
          if p3 ≤ (6 : Int32) then
            bd6 (f_X1_countThrough p1 p2 course_fences course_horseCount course_rule_size course_kinds course_heights course_feet course_digits course_plans rule_codes rule_stack rule_things course_counts course_poles course_refusals) <| fun course_heightsn2 rule_stackn3 rule_thingsn4 course_countsn5 course_polesn6 course_refusalsn7 =>
            bd3 (f_X11_bitsThrough p1 p2 course_fences course_horseCount course_rule_size course_kinds course_heightsn2 course_feet course_digits course_plans rule_codes rule_stackn3 rule_thingsn4) <| fun rn8 rule_stackn9 rule_thingsn10 =>
            bd1 (f_J6_bitCount_0f7a4 rn8) <| fun rn11 =>
            ml3 (s_X11_built_61 p3 course_fences course_countsn5 (k_X11_built_61 numbers_size numbers_told course_heightsn2 course_countsn5 course_polesn6 course_refusalsn7 rule_stackn9 rule_thingsn10)) zN (-1 : Int32) rn11 (0 : Int32)
          else
            some ((-2 : Int32), numbers_size, course_heights, rule_stack, rule_things, course_counts, course_poles, course_refusals, numbers_told)
def k_X11_buy_32 (numbers_size : Int32) (course_fences : Int32) (course_planCount : Int32) (course_allowed : Int32) (course_rule_size : Int32) (rounds_size : Int32) (course_kinds : (Nat → Int32)) (course_heights : (Nat → Int32)) (course_feet : (Nat → Int32)) (course_digits : (Nat → Int32)) (course_plans : (Nat → Int32)) (rule_codes : (Nat → Int32)) (rounds_faults : (Nat → Int32)) (rounds_tenths : (Nat → Int32)) (rounds_money : (Nat → Int32)) (numbers_told : (Nat → Int64)) (v1_32x : Int32) (v2_32x : Int32) (v3_32x : Int32) (rule_stack_32x : (Nat → Int32)) (rule_things_32x : (Nat → Int32)) : Option (Int32 × Int32 × (Nat → Int32) × (Nat → Int32) × (Nat → Int64)) :=
  bd1 (f_X6_start numbers_size) <| fun numbers_sizen1 =>
  bd2 (f_X6_put (v2_32x.toInt64) numbers_sizen1 numbers_told) <| fun numbers_sizen2 numbers_toldn3 =>
  bd3 (f_X11_bestPlan v1_32x course_fences course_planCount course_allowed course_rule_size rounds_size course_kinds course_heights course_feet course_digits course_plans rule_codes rule_stack_32x rule_things_32x rounds_faults rounds_tenths rounds_money) <| fun rn4 rule_stackn5 rule_thingsn6 =>
  bd2 (f_X6_put (rn4.toInt64) numbers_sizen2 numbers_toldn3) <| fun numbers_sizen7 numbers_toldn8 =>
  bd2 (f_X6_put (v3_32x.toInt64) numbers_sizen7 numbers_toldn8) <| fun numbers_sizen9 numbers_toldn10 =>
  some (v1_32x, numbers_sizen9, rule_stackn5, rule_thingsn6, numbers_toldn10)
def s_X11_buy_32 (course_fences : Int32) (course_horseCount : Int32) (course_planCount : Int32) (course_allowed : Int32) (course_rule_size : Int32) (rounds_size : Int32) (course_kinds : (Nat → Int32)) (course_heights : (Nat → Int32)) (course_feet : (Nat → Int32)) (course_digits : (Nat → Int32)) (course_plans : (Nat → Int32)) (rule_codes : (Nat → Int32)) (rounds_faults : (Nat → Int32)) (rounds_tenths : (Nat → Int32)) (rounds_money : (Nat → Int32)) (kk32 : Int32 → Int32 → Int32 → (Nat → Int32) → (Nat → Int32) → Option (Int32 × Int32 × (Nat → Int32) × (Nat → Int32) × (Nat → Int64))) (rc32 : Int32 → Int32 → Int32 → Int32 → (Nat → Int32) → (Nat → Int32) → Option (Int32 × Int32 × (Nat → Int32) × (Nat → Int32) × (Nat → Int64))) (v1_32 : Int32) (v2_32 : Int32) (v3_32 : Int32) (v4_32 : Int32) (rule_stack_32 : (Nat → Int32)) (rule_things_32 : (Nat → Int32)) : Option (Int32 × Int32 × (Nat → Int32) × (Nat → Int32) × (Nat → Int64)) :=
  if course_horseCount ≤ v4_32 then
    kk32 v1_32 v2_32 v3_32 rule_stack_32 rule_things_32
  else
    bd3 (f_X11_bestPlan v4_32 course_fences course_planCount course_allowed course_rule_size rounds_size course_kinds course_heights course_feet course_digits course_plans rule_codes rule_stack_32 rule_things_32 rounds_faults rounds_tenths rounds_money) <| fun rn11 rule_stackn12 rule_thingsn13 =>
    bd3 (f_X11_meanOf v4_32 rn11 course_fences course_allowed course_rule_size rounds_size course_kinds course_heights course_feet course_digits course_plans rule_codes rule_stackn12 rule_thingsn13 rounds_faults rounds_tenths rounds_money) <| fun rn14 rule_stackn15 rule_thingsn16 =>
    if rn14 ≤ v2_32 then
      if rn14 ≤ v3_32 then
        lt1 ((v4_32 + (1 : Int32))) <| fun v4n17 =>
        rc32 v1_32 v2_32 v3_32 v4n17 rule_stackn15 rule_thingsn16
      else
        lt1 ((v4_32 + (1 : Int32))) <| fun v4n18 =>
        rc32 v1_32 v2_32 rn14 v4n18 rule_stackn15 rule_thingsn16
    else
      lt1 ((v4_32 + (1 : Int32))) <| fun v4n19 =>
      rc32 v4_32 rn14 v2_32 v4n19 rule_stackn15 rule_thingsn16
def f_X11_buy (numbers_size : Int32) (course_fences : Int32) (course_horseCount : Int32) (course_planCount : Int32) (course_allowed : Int32) (course_rule_size : Int32) (rounds_size : Int32) (course_kinds : (Nat → Int32)) (course_heights : (Nat → Int32)) (course_feet : (Nat → Int32)) (course_digits : (Nat → Int32)) (course_plans : (Nat → Int32)) (rule_codes : (Nat → Int32)) (rule_stack : (Nat → Int32)) (rule_things : (Nat → Int32)) (rounds_faults : (Nat → Int32)) (rounds_tenths : (Nat → Int32)) (rounds_money : (Nat → Int32)) (numbers_told : (Nat → Int64)) : Option (Int32 × Int32 × (Nat → Int32) × (Nat → Int32) × (Nat → Int64)) :=
  if course_horseCount = 0 then
    some ((-2 : Int32), numbers_size, rule_stack, rule_things, numbers_told)
  else
    if course_planCount = 0 then
      some ((-2 : Int32), numbers_size, rule_stack, rule_things, numbers_told)
    else
      ml6 (s_X11_buy_32 course_fences course_horseCount course_planCount course_allowed course_rule_size rounds_size course_kinds course_heights course_feet course_digits course_plans rule_codes rounds_faults rounds_tenths rounds_money (k_X11_buy_32 numbers_size course_fences course_planCount course_allowed course_rule_size rounds_size course_kinds course_heights course_feet course_digits course_plans rule_codes rounds_faults rounds_tenths rounds_money numbers_told)) zN (-1 : Int32) (-1 : Int32) (-1 : Int32) (0 : Int32) rule_stack rule_things
def f_X1_hasFence (p1 : Int32) (course_fences : Int32) : Option Int32 :=
  if p1 < 0 then
    some (0 : Int32)
  else
    if course_fences ≤ p1 then
      some (0 : Int32)
    else
      some (1 : Int32)
def k_X11_calm_46 (numbers_size : Int32) (numbers_told : (Nat → Int64)) (v4_46x : Int32) (v5_46x : Int32) (v6_46x : Int32) (rule_stack_46x : (Nat → Int32)) (rule_things_46x : (Nat → Int32)) : Option (Int32 × Int32 × (Nat → Int32) × (Nat → Int32) × (Nat → Int64)) :=
  bd1 (f_X6_start numbers_size) <| fun numbers_sizen4 =>
  bd2 (f_X6_put (v5_46x.toInt64) numbers_sizen4 numbers_told) <| fun numbers_sizen5 numbers_toldn6 =>
  bd2 (f_X6_put (v6_46x.toInt64) numbers_sizen5 numbers_toldn6) <| fun numbers_sizen7 numbers_toldn8 =>
  some (v4_46x, numbers_sizen7, rule_stack_46x, rule_things_46x, numbers_toldn8)
def s_X11_calm_46 (p1 : Int32) (p2 : Int32) (course_rule_size : Int32) (course_kinds : (Nat → Int32)) (course_heights : (Nat → Int32)) (course_feet : (Nat → Int32)) (course_digits : (Nat → Int32)) (rule_codes : (Nat → Int32)) (rn3 : Int32) (kk46 : Int32 → Int32 → Int32 → (Nat → Int32) → (Nat → Int32) → Option (Int32 × Int32 × (Nat → Int32) × (Nat → Int32) × (Nat → Int64))) (rc46 : Int32 → Int32 → Int32 → Int32 → (Nat → Int32) → (Nat → Int32) → Option (Int32 × Int32 × (Nat → Int32) × (Nat → Int32) × (Nat → Int64))) (v4_46 : Int32) (v5_46 : Int32) (v6_46 : Int32) (v7_46 : Int32) (rule_stack_46 : (Nat → Int32)) (rule_things_46 : (Nat → Int32)) : Option (Int32 × Int32 × (Nat → Int32) × (Nat → Int32) × (Nat → Int64)) :=
  if (8 : Int32) ≤ v7_46 then
    kk46 v4_46 v5_46 v6_46 rule_stack_46 rule_things_46
  else
    bd3 (f_X1_poleOdds p1 p2 v7_46 course_rule_size course_kinds course_heights course_feet course_digits rule_codes rule_stack_46 rule_things_46) <| fun rn9 rule_stackn10 rule_thingsn11 =>
    lt1 ((rn9 + rn3)) <| fun v8n12 =>
    bd1 (f_X1_fenceTenths p2 v7_46 course_kinds course_feet) <| fun rn13 =>
    if v7_46 = 0 then
      lt1 ((v7_46 + (1 : Int32))) <| fun v7n14 =>
      rc46 v7_46 v8n12 rn13 v7n14 rule_stackn10 rule_thingsn11
    else
      if v8n12 < v5_46 then
        lt1 ((v7_46 + (1 : Int32))) <| fun v7n15 =>
        rc46 v7_46 v8n12 rn13 v7n15 rule_stackn10 rule_thingsn11
      else
        if v8n12 = v5_46 then
          if v6_46 ≤ rn13 then
            lt1 ((v7_46 + (1 : Int32))) <| fun v7n17 =>
            rc46 v4_46 v5_46 v6_46 v7n17 rule_stackn10 rule_thingsn11
          else
            lt1 ((v7_46 + (1 : Int32))) <| fun v7n18 =>
            rc46 v7_46 v8n12 rn13 v7n18 rule_stackn10 rule_thingsn11
        else
          lt1 ((v7_46 + (1 : Int32))) <| fun v7n16 =>
          rc46 v4_46 v5_46 v6_46 v7n16 rule_stackn10 rule_thingsn11
def f_X11_calm (p1 : Int32) (p2 : Int32) (numbers_size : Int32) (course_fences : Int32) (course_horseCount : Int32) (course_rule_size : Int32) (course_kinds : (Nat → Int32)) (course_heights : (Nat → Int32)) (course_feet : (Nat → Int32)) (course_digits : (Nat → Int32)) (rule_codes : (Nat → Int32)) (rule_stack : (Nat → Int32)) (rule_things : (Nat → Int32)) (numbers_told : (Nat → Int64)) : Option (Int32 × Int32 × (Nat → Int32) × (Nat → Int32) × (Nat → Int64)) :=
  bd1 (f_X1_hasHorse p1 course_horseCount) <| fun rn1 =>
  if rn1 = 0 then
    some ((-1 : Int32), numbers_size, rule_stack, rule_things, numbers_told)
  else
    bd1 (f_X1_hasFence p2 course_fences) <| fun rn2 =>
    if rn2 = 0 then
      some ((-1 : Int32), numbers_size, rule_stack, rule_things, numbers_told)
    else
      bd1 (f_X1_refusalOdds p1 p2 course_kinds course_feet course_digits) <| fun rn3 =>
      ml6 (s_X11_calm_46 p1 p2 course_rule_size course_kinds course_heights course_feet course_digits rule_codes rn3 (k_X11_calm_46 numbers_size numbers_told)) zN (0 : Int32) (0 : Int32) (0 : Int32) (0 : Int32) rule_stack rule_things
def f_X11_count (p1 : Int32) (text_size : Int32) (numbers_size : Int32) (course_fences : Int32) (course_horseCount : Int32) (course_planCount : Int32) (course_allowed : Int32) (rounds_size : Int32) (history_count : Int32) (rounds_money : (Nat → Int32)) : Option Int32 :=
  if p1 = (0 : Int32) then
    some course_fences
  else
  if p1 = (1 : Int32) then
    some course_horseCount
  else
  if p1 = (2 : Int32) then
    some course_planCount
  else
  if p1 = (3 : Int32) then
    some rounds_size
  else
  if p1 = (4 : Int32) then
    some course_allowed
  else
  if p1 = (5 : Int32) then
    some history_count
  else
  if p1 = (6 : Int32) then
    some numbers_size
  else
  if p1 = (7 : Int32) then
    some text_size
  else
  if p1 = (8 : Int32) then
    bd1 (f_X10_moneyInAll rounds_money) <| fun rn1 =>
    some rn1
  else
    some (-1 : Int32)
def f_X4_from (p0 : Int32) : Option Int32 :=
  some (((((150 : Int32) * p0) * (p0 - (1 : Int32))) / (2 : Int32)) + p0)
def f_X4_fearWith (p1 : Int32) (letters_fences : Int32) (letters_least : (Nat → Int32)) (letters_spans : (Nat → Int32)) : Option Int32 :=
  if p1 < 0 then
    some (-1 : Int32)
  else
    gd (ix letters_fences 9) <|
    if (letters_spans letters_fences.toNatClampNeg) < p1 then
      some (-1 : Int32)
    else
      bd1 (f_X4_from letters_fences) <| fun rn1 =>
      gd (ix (rn1 + p1) 5409) <|
      some (letters_least (rn1 + p1).toNatClampNeg)
def k_X4_calmestTenths_4 (v2_4x : Int32) : Option Int32 :=
  some v2_4x
def s_X4_calmestTenths_4 (p1 : Int32) (letters_fences : Int32) (letters_least : (Nat → Int32)) (letters_spans : (Nat → Int32)) (kk4 : Int32 → Option Int32) (rc4 : Int32 → Int32 → Option Int32) (v2_4 : Int32) (v3_4 : Int32) : Option Int32 :=
  gd (ix letters_fences 9) <|
  if (if (letters_spans letters_fences.toNatClampNeg) < p1 then (letters_spans letters_fences.toNatClampNeg) else p1) < v3_4 then
    kk4 v2_4
  else
    bd1 (f_X4_fearWith v3_4 letters_fences letters_least letters_spans) <| fun rn1 =>
    if rn1 = (-1 : Int32) then
      lt1 ((v3_4 + (1 : Int32))) <| fun v3n2 =>
      rc4 v2_4 v3n2
    else
      if v2_4 = (-1 : Int32) then
        lt1 ((v3_4 + (1 : Int32))) <| fun v3n3 =>
        rc4 v3_4 v3n3
      else
        bd1 (f_X4_fearWith v3_4 letters_fences letters_least letters_spans) <| fun rn4 =>
        bd1 (f_X4_fearWith v2_4 letters_fences letters_least letters_spans) <| fun rn5 =>
        if rn5 ≤ rn4 then
          lt1 ((v3_4 + (1 : Int32))) <| fun v3n6 =>
          rc4 v2_4 v3n6
        else
          lt1 ((v3_4 + (1 : Int32))) <| fun v3n7 =>
          rc4 v3_4 v3n7
def f_X4_calmestTenths (p1 : Int32) (letters_fences : Int32) (letters_least : (Nat → Int32)) (letters_spans : (Nat → Int32)) : Option Int32 :=
  ml2 (s_X4_calmestTenths_4 p1 letters_fences letters_least letters_spans (k_X4_calmestTenths_4)) zN (-1 : Int32) (0 : Int32)
def k_X4_layBehind_98 (p1 : Int32) (letters_spans : (Nat → Int32)) (v3_15x : Int32) (letters_least_98x : (Nat → Int32)) : Option ((Nat → Int32) × (Nat → Int32)) :=
  some (letters_least_98x, (upd letters_spans p1.toNatClampNeg ((letters_spans (p1 - (1 : Int32)).toNatClampNeg) + v3_15x)))
def k_X4_layBehind_130 (rc98 : Int32 → (Nat → Int32) → Option ((Nat → Int32) × (Nat → Int32))) (v5_98 : Int32) (letters_least_130x : (Nat → Int32)) : Option ((Nat → Int32) × (Nat → Int32)) :=
  lt1 ((v5_98 + (1 : Int32))) <| fun v5n5 =>
  rc98 v5n5 letters_least_130x
def s_X4_layBehind_130 (letters_fears : (Nat → Int32)) (letters_tenths : (Nat → Int32)) (v2n1 : Int32) (rn2 : Int32) (v5_98 : Int32) (v6n4 : Int32) (kk130 : (Nat → Int32) → Option ((Nat → Int32) × (Nat → Int32))) (rc130 : Int32 → (Nat → Int32) → Option ((Nat → Int32) × (Nat → Int32))) (v7_130 : Int32) (letters_least_130 : (Nat → Int32)) : Option ((Nat → Int32) × (Nat → Int32)) :=
  if (8 : Int32) ≤ v7_130 then
    kk130 letters_least_130
  else
    if v6n4 = (-1 : Int32) then
      kk130 letters_least_130
    else
      gd (ix (v2n1 + v7_130) 64) <|
      lt1 (((rn2 + v5_98) + (letters_tenths (v2n1 + v7_130).toNatClampNeg))) <| fun v8n6 =>
      gd (ix (v2n1 + v7_130) 64) <|
      lt1 ((v6n4 + (letters_fears (v2n1 + v7_130).toNatClampNeg))) <| fun v9n7 =>
      gd (ix v8n6 5409) <|
      if (letters_least_130 v8n6.toNatClampNeg) = (-1 : Int32) then
        gd (ix v8n6 5409) <|
        lt1 ((v7_130 + (1 : Int32))) <| fun v7n8 =>
        rc130 v7n8 ((upd letters_least_130 v8n6.toNatClampNeg v9n7))
      else
        gd (ix v8n6 5409) <|
        if (letters_least_130 v8n6.toNatClampNeg) ≤ v9n7 then
          lt1 ((v7_130 + (1 : Int32))) <| fun v7n9 =>
          rc130 v7n9 letters_least_130
        else
          gd (ix v8n6 5409) <|
          lt1 ((v7_130 + (1 : Int32))) <| fun v7n10 =>
          rc130 v7n10 ((upd letters_least_130 v8n6.toNatClampNeg v9n7))
def s_X4_layBehind_98 (p1 : Int32) (letters_fears : (Nat → Int32)) (letters_tenths : (Nat → Int32)) (letters_spans : (Nat → Int32)) (v2n1 : Int32) (v3_15x : Int32) (rn2 : Int32) (kk98 : (Nat → Int32) → Option ((Nat → Int32) × (Nat → Int32))) (rc98 : Int32 → (Nat → Int32) → Option ((Nat → Int32) × (Nat → Int32))) (v5_98 : Int32) (letters_least_98 : (Nat → Int32)) : Option ((Nat → Int32) × (Nat → Int32)) :=
  gd (ix (p1 - (1 : Int32)) 9) <|
  if (((upd letters_spans p1.toNatClampNeg ((letters_spans (p1 - (1 : Int32)).toNatClampNeg) + v3_15x))) (p1 - (1 : Int32)).toNatClampNeg) < v5_98 then
    kk98 letters_least_98
  else
    bd1 (f_X4_from ((p1 - (1 : Int32)))) <| fun rn3 =>
    gd (ix (rn3 + v5_98) 5409) <|
    lt1 ((letters_least_98 (rn3 + v5_98).toNatClampNeg)) <| fun v6n4 =>
    ml2 (s_X4_layBehind_130 letters_fears letters_tenths v2n1 rn2 v5_98 v6n4 (k_X4_layBehind_130 rc98 v5_98)) zN (0 : Int32) letters_least_98
def k_X4_layBehind_67 (p1 : Int32) (letters_fears : (Nat → Int32)) (letters_tenths : (Nat → Int32)) (letters_spans : (Nat → Int32)) (v2n1 : Int32) (v3_15x : Int32) (rn2 : Int32) (letters_least_67x : (Nat → Int32)) : Option ((Nat → Int32) × (Nat → Int32)) :=
  ml2 (s_X4_layBehind_98 p1 letters_fears letters_tenths letters_spans v2n1 v3_15x rn2 (k_X4_layBehind_98 p1 letters_spans v3_15x)) zN (0 : Int32) letters_least_67x
def s_X4_layBehind_67 (p1 : Int32) (letters_spans : (Nat → Int32)) (v3_15x : Int32) (rn2 : Int32) (kk67 : (Nat → Int32) → Option ((Nat → Int32) × (Nat → Int32))) (rc67 : Int32 → (Nat → Int32) → Option ((Nat → Int32) × (Nat → Int32))) (v5_67 : Int32) (letters_least_67 : (Nat → Int32)) : Option ((Nat → Int32) × (Nat → Int32)) :=
  gd (ix p1 9) <|
  if (((upd letters_spans p1.toNatClampNeg ((letters_spans (p1 - (1 : Int32)).toNatClampNeg) + v3_15x))) p1.toNatClampNeg) < v5_67 then
    kk67 letters_least_67
  else
    gd (ix (rn2 + v5_67) 5409) <|
    lt1 ((v5_67 + (1 : Int32))) <| fun v5n11 =>
    rc67 v5n11 ((upd letters_least_67 (rn2 + v5_67).toNatClampNeg (-1 : Int32)))
def k_X4_layBehind_15 (p1 : Int32) (letters_fears : (Nat → Int32)) (letters_tenths : (Nat → Int32)) (letters_least : (Nat → Int32)) (letters_spans : (Nat → Int32)) (v2n1 : Int32) (v3_15x : Int32) : Option ((Nat → Int32) × (Nat → Int32)) :=
  gd (ix (p1 - (1 : Int32)) 9) <|
  gd (ix p1 9) <|
  bd1 (f_X4_from p1) <| fun rn2 =>
  ml2 (s_X4_layBehind_67 p1 letters_spans v3_15x rn2 (k_X4_layBehind_67 p1 letters_fears letters_tenths letters_spans v2n1 v3_15x rn2)) zN (0 : Int32) letters_least
def s_X4_layBehind_15 (letters_tenths : (Nat → Int32)) (v2n1 : Int32) (kk15 : Int32 → Option ((Nat → Int32) × (Nat → Int32))) (rc15 : Int32 → Int32 → Option ((Nat → Int32) × (Nat → Int32))) (v3_15 : Int32) (v4_15 : Int32) : Option ((Nat → Int32) × (Nat → Int32)) :=
  if (8 : Int32) ≤ v4_15 then
    kk15 v3_15
  else
    gd (ix (v2n1 + v4_15) 64) <|
    lt1 ((if v3_15 < (letters_tenths (v2n1 + v4_15).toNatClampNeg) then (letters_tenths (v2n1 + v4_15).toNatClampNeg) else v3_15)) <| fun v3n12 =>
    lt1 ((v4_15 + (1 : Int32))) <| fun v4n13 =>
    rc15 v3n12 v4n13
def f_X4_layBehind (p1 : Int32) (letters_fences : Int32) (letters_fears : (Nat → Int32)) (letters_tenths : (Nat → Int32)) (letters_least : (Nat → Int32)) (letters_spans : (Nat → Int32)) : Option ((Nat → Int32) × (Nat → Int32)) :=
  lt1 (((letters_fences - p1) * (8 : Int32))) <| fun v2n1 =>
  ml2 (s_X4_layBehind_15 letters_tenths v2n1 (k_X4_layBehind_15 p1 letters_fears letters_tenths letters_least letters_spans v2n1)) zN (0 : Int32) (0 : Int32)
def k_X4_lay_109 (course_fences : Int32) (rule_stack_10x : (Nat → Int32)) (rule_things_10x : (Nat → Int32)) (letters_fears_10x : (Nat → Int32)) (letters_tenths_10x : (Nat → Int32)) (letters_least_109x : (Nat → Int32)) (letters_spans_109x : (Nat → Int32)) : Option (Int32 × (Nat → Int32) × (Nat → Int32) × (Nat → Int32) × (Nat → Int32) × (Nat → Int32) × (Nat → Int32)) :=
  some (course_fences, rule_stack_10x, rule_things_10x, letters_fears_10x, letters_tenths_10x, letters_least_109x, letters_spans_109x)
def s_X4_lay_109 (course_fences : Int32) (letters_fears_10x : (Nat → Int32)) (letters_tenths_10x : (Nat → Int32)) (kk109 : (Nat → Int32) → (Nat → Int32) → Option (Int32 × (Nat → Int32) × (Nat → Int32) × (Nat → Int32) × (Nat → Int32) × (Nat → Int32) × (Nat → Int32))) (rc109 : Int32 → (Nat → Int32) → (Nat → Int32) → Option (Int32 × (Nat → Int32) × (Nat → Int32) × (Nat → Int32) × (Nat → Int32) × (Nat → Int32) × (Nat → Int32))) (v3_109 : Int32) (letters_least_109 : (Nat → Int32)) (letters_spans_109 : (Nat → Int32)) : Option (Int32 × (Nat → Int32) × (Nat → Int32) × (Nat → Int32) × (Nat → Int32) × (Nat → Int32) × (Nat → Int32)) :=
  if course_fences < v3_109 then
    kk109 letters_least_109 letters_spans_109
  else
    bd2 (f_X4_layBehind v3_109 course_fences letters_fears_10x letters_tenths_10x letters_least_109 letters_spans_109) <| fun letters_leastn2 letters_spansn3 =>
    lt1 ((v3_109 + (1 : Int32))) <| fun v3n4 =>
    rc109 v3n4 letters_leastn2 letters_spansn3
def k_X4_lay_10 (course_fences : Int32) (letters_least : (Nat → Int32)) (letters_spans : (Nat → Int32)) (rule_stack_10x : (Nat → Int32)) (rule_things_10x : (Nat → Int32)) (letters_fears_10x : (Nat → Int32)) (letters_tenths_10x : (Nat → Int32)) : Option (Int32 × (Nat → Int32) × (Nat → Int32) × (Nat → Int32) × (Nat → Int32) × (Nat → Int32) × (Nat → Int32)) :=
  gd (ix (0 : Int32) 9) <|
  bd1 (f_X4_from (0 : Int32)) <| fun rn1 =>
  gd (ix rn1 5409) <|
  ml3 (s_X4_lay_109 course_fences letters_fears_10x letters_tenths_10x (k_X4_lay_109 course_fences rule_stack_10x rule_things_10x letters_fears_10x letters_tenths_10x)) zN (1 : Int32) ((upd letters_least rn1.toNatClampNeg (0 : Int32))) ((upd letters_spans (0 : Int32).toNatClampNeg (0 : Int32)))
def k_X4_lay_29 (rc10 : Int32 → (Nat → Int32) → (Nat → Int32) → (Nat → Int32) → (Nat → Int32) → Option (Int32 × (Nat → Int32) × (Nat → Int32) × (Nat → Int32) × (Nat → Int32) × (Nat → Int32) × (Nat → Int32))) (v3_10 : Int32) (rule_stack_29x : (Nat → Int32)) (rule_things_29x : (Nat → Int32)) (letters_fears_29x : (Nat → Int32)) (letters_tenths_29x : (Nat → Int32)) : Option (Int32 × (Nat → Int32) × (Nat → Int32) × (Nat → Int32) × (Nat → Int32) × (Nat → Int32) × (Nat → Int32)) :=
  lt1 ((v3_10 + (1 : Int32))) <| fun v3n6 =>
  rc10 v3n6 rule_stack_29x rule_things_29x letters_fears_29x letters_tenths_29x
def s_X4_lay_29 (p2 : Int32) (course_rule_size : Int32) (course_kinds : (Nat → Int32)) (course_heights : (Nat → Int32)) (course_feet : (Nat → Int32)) (course_digits : (Nat → Int32)) (rule_codes : (Nat → Int32)) (v3_10 : Int32) (rn5 : Int32) (kk29 : (Nat → Int32) → (Nat → Int32) → (Nat → Int32) → (Nat → Int32) → Option (Int32 × (Nat → Int32) × (Nat → Int32) × (Nat → Int32) × (Nat → Int32) × (Nat → Int32) × (Nat → Int32))) (rc29 : Int32 → (Nat → Int32) → (Nat → Int32) → (Nat → Int32) → (Nat → Int32) → Option (Int32 × (Nat → Int32) × (Nat → Int32) × (Nat → Int32) × (Nat → Int32) × (Nat → Int32) × (Nat → Int32))) (v5_29 : Int32) (rule_stack_29 : (Nat → Int32)) (rule_things_29 : (Nat → Int32)) (letters_fears_29 : (Nat → Int32)) (letters_tenths_29 : (Nat → Int32)) : Option (Int32 × (Nat → Int32) × (Nat → Int32) × (Nat → Int32) × (Nat → Int32) × (Nat → Int32) × (Nat → Int32)) :=
  if (8 : Int32) ≤ v5_29 then
    kk29 rule_stack_29 rule_things_29 letters_fears_29 letters_tenths_29
  else
    bd3 (f_X1_poleOdds p2 v3_10 v5_29 course_rule_size course_kinds course_heights course_feet course_digits rule_codes rule_stack_29 rule_things_29) <| fun rn7 rule_stackn8 rule_thingsn9 =>
    gd (ix ((v3_10 * (8 : Int32)) + v5_29) 64) <|
    bd1 (f_X1_fenceTenths v3_10 v5_29 course_kinds course_feet) <| fun rn10 =>
    gd (ix ((v3_10 * (8 : Int32)) + v5_29) 64) <|
    lt1 ((v5_29 + (1 : Int32))) <| fun v5n11 =>
    rc29 v5n11 rule_stackn8 rule_thingsn9 ((upd letters_fears_29 ((v3_10 * (8 : Int32)) + v5_29).toNatClampNeg (rn7 + rn5))) ((upd letters_tenths_29 ((v3_10 * (8 : Int32)) + v5_29).toNatClampNeg rn10))
def s_X4_lay_10 (p2 : Int32) (course_fences : Int32) (course_rule_size : Int32) (course_kinds : (Nat → Int32)) (course_heights : (Nat → Int32)) (course_feet : (Nat → Int32)) (course_digits : (Nat → Int32)) (rule_codes : (Nat → Int32)) (kk10 : (Nat → Int32) → (Nat → Int32) → (Nat → Int32) → (Nat → Int32) → Option (Int32 × (Nat → Int32) × (Nat → Int32) × (Nat → Int32) × (Nat → Int32) × (Nat → Int32) × (Nat → Int32))) (rc10 : Int32 → (Nat → Int32) → (Nat → Int32) → (Nat → Int32) → (Nat → Int32) → Option (Int32 × (Nat → Int32) × (Nat → Int32) × (Nat → Int32) × (Nat → Int32) × (Nat → Int32) × (Nat → Int32))) (v3_10 : Int32) (rule_stack_10 : (Nat → Int32)) (rule_things_10 : (Nat → Int32)) (letters_fears_10 : (Nat → Int32)) (letters_tenths_10 : (Nat → Int32)) : Option (Int32 × (Nat → Int32) × (Nat → Int32) × (Nat → Int32) × (Nat → Int32) × (Nat → Int32) × (Nat → Int32)) :=
  if course_fences ≤ v3_10 then
    kk10 rule_stack_10 rule_things_10 letters_fears_10 letters_tenths_10
  else
    bd1 (f_X1_refusalOdds p2 v3_10 course_kinds course_feet course_digits) <| fun rn5 =>
    ml5 (s_X4_lay_29 p2 course_rule_size course_kinds course_heights course_feet course_digits rule_codes v3_10 rn5 (k_X4_lay_29 rc10 v3_10)) zN (0 : Int32) rule_stack_10 rule_things_10 letters_fears_10 letters_tenths_10
def f_X4_lay (p2 : Int32) (course_fences : Int32) (course_rule_size : Int32) (letters_fences : Int32) (course_kinds : (Nat → Int32)) (course_heights : (Nat → Int32)) (course_feet : (Nat → Int32)) (course_digits : (Nat → Int32)) (rule_codes : (Nat → Int32)) (rule_stack : (Nat → Int32)) (rule_things : (Nat → Int32)) (letters_fears : (Nat → Int32)) (letters_tenths : (Nat → Int32)) (letters_least : (Nat → Int32)) (letters_spans : (Nat → Int32)) : Option (Int32 × (Nat → Int32) × (Nat → Int32) × (Nat → Int32) × (Nat → Int32) × (Nat → Int32) × (Nat → Int32)) :=
  ml5 (s_X4_lay_10 p2 course_fences course_rule_size course_kinds course_heights course_feet course_digits rule_codes (k_X4_lay_10 course_fences letters_least letters_spans)) zN (0 : Int32) rule_stack rule_things letters_fears letters_tenths
def k_X4_firstLetter_13 (_u : Unit) : Option Int32 :=
  some (0 : Int32)
def j_X4_firstLetter_75 (p1 : Int32) (p3 : Int32) (letters_fears : (Nat → Int32)) (letters_least : (Nat → Int32)) (v4n1 : Int32) (rc13 : Int32 → Option Int32) (v5_13 : Int32) (v6n2 : Int32) (t0_75j : Int32) : Option Int32 :=
  if t0_75j = 0 then
    lt1 ((v5_13 + (1 : Int32))) <| fun v5n3 =>
    rc13 v5n3
  else
    bd1 (f_X4_from v4n1) <| fun rn4 =>
    gd (ix (rn4 + v6n2) 5409) <|
    gd (ix ((p1 * (8 : Int32)) + v5_13) 64) <|
    if ((letters_least (rn4 + v6n2).toNatClampNeg) + (letters_fears ((p1 * (8 : Int32)) + v5_13).toNatClampNeg)) = p3 then
      some v5_13
    else
      lt1 ((v5_13 + (1 : Int32))) <| fun v5n5 =>
      rc13 v5n5
def s_X4_firstLetter_13 (p1 : Int32) (p2 : Int32) (p3 : Int32) (letters_fears : (Nat → Int32)) (letters_tenths : (Nat → Int32)) (letters_least : (Nat → Int32)) (letters_spans : (Nat → Int32)) (v4n1 : Int32) (kk13 : Unit → Option Int32) (rc13 : Int32 → Option Int32) (v5_13 : Int32) : Option Int32 :=
  if (8 : Int32) ≤ v5_13 then
    kk13 ()
  else
    gd (ix ((p1 * (8 : Int32)) + v5_13) 64) <|
    lt1 ((p2 - (letters_tenths ((p1 * (8 : Int32)) + v5_13).toNatClampNeg))) <| fun v6n2 =>
    if v6n2 < 0 then
      j_X4_firstLetter_75 p1 p3 letters_fears letters_least v4n1 rc13 v5_13 v6n2 (0 : Int32)
    else
      gd (ix v4n1 9) <|
      if (letters_spans v4n1.toNatClampNeg) < v6n2 then
        j_X4_firstLetter_75 p1 p3 letters_fears letters_least v4n1 rc13 v5_13 v6n2 (0 : Int32)
      else
        bd1 (f_X4_from v4n1) <| fun rn6 =>
        gd (ix (rn6 + v6n2) 5409) <|
        if (letters_least (rn6 + v6n2).toNatClampNeg) = (-1 : Int32) then
          j_X4_firstLetter_75 p1 p3 letters_fears letters_least v4n1 rc13 v5_13 v6n2 (0 : Int32)
        else
          j_X4_firstLetter_75 p1 p3 letters_fears letters_least v4n1 rc13 v5_13 v6n2 (1 : Int32)
def f_X4_firstLetter (p1 : Int32) (p2 : Int32) (p3 : Int32) (letters_fences : Int32) (letters_fears : (Nat → Int32)) (letters_tenths : (Nat → Int32)) (letters_least : (Nat → Int32)) (letters_spans : (Nat → Int32)) : Option Int32 :=
  lt1 (((letters_fences - p1) - (1 : Int32))) <| fun v4n1 =>
  ml1 (s_X4_firstLetter_13 p1 p2 p3 letters_fears letters_tenths letters_least letters_spans v4n1 (k_X4_firstLetter_13)) zN (0 : Int32)
def k_X4_tell_12 (numbers_size_12x : Int32) (numbers_told_12x : (Nat → Int64)) : Option (Int32 × (Nat → Int64)) :=
  some (numbers_size_12x, numbers_told_12x)
def s_X4_tell_12 (letters_fences : Int32) (letters_fears : (Nat → Int32)) (letters_tenths : (Nat → Int32)) (letters_least : (Nat → Int32)) (letters_spans : (Nat → Int32)) (kk12 : Int32 → (Nat → Int64) → Option (Int32 × (Nat → Int64))) (rc12 : Int32 → Int32 → Int32 → Int32 → (Nat → Int64) → Option (Int32 × (Nat → Int64))) (v3_12 : Int32) (v4_12 : Int32) (v5_12 : Int32) (numbers_size_12 : Int32) (numbers_told_12 : (Nat → Int64)) : Option (Int32 × (Nat → Int64)) :=
  if letters_fences ≤ v5_12 then
    kk12 numbers_size_12 numbers_told_12
  else
    bd1 (f_X4_firstLetter v5_12 v3_12 v4_12 letters_fences letters_fears letters_tenths letters_least letters_spans) <| fun rn2 =>
    bd2 (f_X6_put (rn2.toInt64) numbers_size_12 numbers_told_12) <| fun numbers_sizen3 numbers_toldn4 =>
    gd (ix ((v5_12 * (8 : Int32)) + rn2) 64) <|
    lt1 ((v3_12 - (letters_tenths ((v5_12 * (8 : Int32)) + rn2).toNatClampNeg))) <| fun v3n5 =>
    gd (ix ((v5_12 * (8 : Int32)) + rn2) 64) <|
    lt1 ((v4_12 - (letters_fears ((v5_12 * (8 : Int32)) + rn2).toNatClampNeg))) <| fun v4n6 =>
    lt1 ((v5_12 + (1 : Int32))) <| fun v5n7 =>
    rc12 v3n5 v4n6 v5n7 numbers_sizen3 numbers_toldn4
def f_X4_tell (p2 : Int32) (numbers_size : Int32) (letters_fences : Int32) (letters_fears : (Nat → Int32)) (letters_tenths : (Nat → Int32)) (letters_least : (Nat → Int32)) (letters_spans : (Nat → Int32)) (numbers_told : (Nat → Int64)) : Option (Int32 × (Nat → Int64)) :=
  bd1 (f_X4_fearWith p2 letters_fences letters_least letters_spans) <| fun rn1 =>
  ml5 (s_X4_tell_12 letters_fences letters_fears letters_tenths letters_least letters_spans (k_X4_tell_12)) zN p2 rn1 (0 : Int32) numbers_size numbers_told
def f_X11_leastFear (p1 : Int32) (p2 : Int32) (numbers_size : Int32) (course_fences : Int32) (course_rule_size : Int32) (letters_fences : Int32) (course_kinds : (Nat → Int32)) (course_heights : (Nat → Int32)) (course_feet : (Nat → Int32)) (course_digits : (Nat → Int32)) (rule_codes : (Nat → Int32)) (rule_stack : (Nat → Int32)) (rule_things : (Nat → Int32)) (letters_fears : (Nat → Int32)) (letters_tenths : (Nat → Int32)) (letters_least : (Nat → Int32)) (letters_spans : (Nat → Int32)) (numbers_told : (Nat → Int64)) : Option (Int32 × Int32 × Int32 × (Nat → Int32) × (Nat → Int32) × (Nat → Int32) × (Nat → Int32) × (Nat → Int32) × (Nat → Int32) × (Nat → Int64)) :=
  bd7 (f_X4_lay p1 course_fences course_rule_size letters_fences course_kinds course_heights course_feet course_digits rule_codes rule_stack rule_things letters_fears letters_tenths letters_least letters_spans) <| fun letters_fencesn1 rule_stackn2 rule_thingsn3 letters_fearsn4 letters_tenthsn5 letters_leastn6 letters_spansn7 =>
  bd1 (f_X4_calmestTenths p2 letters_fencesn1 letters_leastn6 letters_spansn7) <| fun rn8 =>
  if rn8 = (-1 : Int32) then
    some ((-2 : Int32), numbers_size, letters_fencesn1, rule_stackn2, rule_thingsn3, letters_fearsn4, letters_tenthsn5, letters_leastn6, letters_spansn7, numbers_told)
  else
    bd1 (f_X6_start numbers_size) <| fun numbers_sizen9 =>
    bd2 (f_X6_put (rn8.toInt64) numbers_sizen9 numbers_told) <| fun numbers_sizen10 numbers_toldn11 =>
    bd2 (f_X4_tell rn8 numbers_sizen10 letters_fencesn1 letters_fearsn4 letters_tenthsn5 letters_leastn6 letters_spansn7 numbers_toldn11) <| fun numbers_sizen12 numbers_toldn13 =>
    bd1 (f_X4_fearWith rn8 letters_fencesn1 letters_leastn6 letters_spansn7) <| fun rn14 =>
    some (rn14, numbers_sizen12, letters_fencesn1, rule_stackn2, rule_thingsn3, letters_fearsn4, letters_tenthsn5, letters_leastn6, letters_spansn7, numbers_toldn13)
def f_X11_curve (p1 : Int32) (p2 : Int32) (numbers_size : Int32) (course_fences : Int32) (course_horseCount : Int32) (course_rule_size : Int32) (letters_fences : Int32) (course_kinds : (Nat → Int32)) (course_heights : (Nat → Int32)) (course_feet : (Nat → Int32)) (course_digits : (Nat → Int32)) (rule_codes : (Nat → Int32)) (rule_stack : (Nat → Int32)) (rule_things : (Nat → Int32)) (letters_fears : (Nat → Int32)) (letters_tenths : (Nat → Int32)) (letters_least : (Nat → Int32)) (letters_spans : (Nat → Int32)) (numbers_told : (Nat → Int64)) : Option (Int32 × Int32 × Int32 × (Nat → Int32) × (Nat → Int32) × (Nat → Int32) × (Nat → Int32) × (Nat → Int32) × (Nat → Int32) × (Nat → Int64)) :=
  bd1 (f_X1_hasHorse p1 course_horseCount) <| fun rn1 =>
  if rn1 = 0 then
    some ((-1 : Int32), numbers_size, letters_fences, rule_stack, rule_things, letters_fears, letters_tenths, letters_least, letters_spans, numbers_told)
  else
    if p2 < 0 then
      some ((-1 : Int32), numbers_size, letters_fences, rule_stack, rule_things, letters_fears, letters_tenths, letters_least, letters_spans, numbers_told)
    else
      if p2 ≤ (9999 : Int32) then
        bd10 (f_X11_leastFear p1 p2 numbers_size course_fences course_rule_size letters_fences course_kinds course_heights course_feet course_digits rule_codes rule_stack rule_things letters_fears letters_tenths letters_least letters_spans numbers_told) <| fun rn2 numbers_sizen3 letters_fencesn4 rule_stackn5 rule_thingsn6 letters_fearsn7 letters_tenthsn8 letters_leastn9 letters_spansn10 numbers_toldn11 =>
        some (rn2, numbers_sizen3, letters_fencesn4, rule_stackn5, rule_thingsn6, letters_fearsn7, letters_tenthsn8, letters_leastn9, letters_spansn10, numbers_toldn11)
      else
        some ((-1 : Int32), numbers_size, letters_fences, rule_stack, rule_things, letters_fears, letters_tenths, letters_least, letters_spans, numbers_told)
def k_X11_cuts_35 (numbers_size : Int32) (numbers_told : (Nat → Int64)) (v3_35x : Int32) (v4_35x : Int32) (v5_35x : Int32) (rule_stack_35x : (Nat → Int32)) (rule_things_35x : (Nat → Int32)) : Option (Int32 × Int32 × (Nat → Int32) × (Nat → Int32) × (Nat → Int64)) :=
  if v3_35x = (-1 : Int32) then
    some ((-2 : Int32), numbers_size, rule_stack_35x, rule_things_35x, numbers_told)
  else
    bd1 (f_X6_start numbers_size) <| fun numbers_sizen3 =>
    bd2 (f_X6_put (v4_35x.toInt64) numbers_sizen3 numbers_told) <| fun numbers_sizen4 numbers_toldn5 =>
    bd2 (f_X6_put (v5_35x.toInt64) numbers_sizen4 numbers_toldn5) <| fun numbers_sizen6 numbers_toldn7 =>
    some (v3_35x, numbers_sizen6, rule_stack_35x, rule_things_35x, numbers_toldn7)
def s_X11_cuts_35 (p1 : Int32) (p2 : Int32) (course_fences : Int32) (course_rule_size : Int32) (course_kinds : (Nat → Int32)) (course_heights : (Nat → Int32)) (course_feet : (Nat → Int32)) (course_digits : (Nat → Int32)) (course_plans : (Nat → Int32)) (rule_codes : (Nat → Int32)) (kk35 : Int32 → Int32 → Int32 → (Nat → Int32) → (Nat → Int32) → Option (Int32 × Int32 × (Nat → Int32) × (Nat → Int32) × (Nat → Int64))) (rc35 : Int32 → Int32 → Int32 → Int32 → (Nat → Int32) → (Nat → Int32) → Option (Int32 × Int32 × (Nat → Int32) × (Nat → Int32) × (Nat → Int64))) (v3_35 : Int32) (v4_35 : Int32) (v5_35 : Int32) (v6_35 : Int32) (rule_stack_35 : (Nat → Int32)) (rule_things_35 : (Nat → Int32)) : Option (Int32 × Int32 × (Nat → Int32) × (Nat → Int32) × (Nat → Int64)) :=
  if course_fences ≤ v6_35 then
    kk35 v3_35 v4_35 v5_35 rule_stack_35 rule_things_35
  else
    bd1 (f_X1_letterAt p2 v6_35 course_plans) <| fun rn8 =>
    bd1 (f_X1_isCut rn8) <| fun rn9 =>
    if rn9 = 0 then
      lt1 ((rn8 + (4 : Int32))) <| fun v8n10 =>
      bd3 (f_X1_poleOdds p1 v6_35 v8n10 course_rule_size course_kinds course_heights course_feet course_digits rule_codes rule_stack_35 rule_things_35) <| fun rn11 rule_stackn12 rule_thingsn13 =>
      bd3 (f_X1_poleOdds p1 v6_35 rn8 course_rule_size course_kinds course_heights course_feet course_digits rule_codes rule_stackn12 rule_thingsn13) <| fun rn14 rule_stackn15 rule_thingsn16 =>
      lt1 ((rn11 - rn14)) <| fun v9n17 =>
      bd1 (f_X1_fenceTenths v6_35 rn8 course_kinds course_feet) <| fun rn18 =>
      bd1 (f_X1_fenceTenths v6_35 v8n10 course_kinds course_feet) <| fun rn19 =>
      lt1 ((rn18 - rn19)) <| fun v10n20 =>
      if v3_35 = (-1 : Int32) then
        lt1 ((v6_35 + (1 : Int32))) <| fun v6n21 =>
        rc35 v6_35 v9n17 v10n20 v6n21 rule_stackn15 rule_thingsn16
      else
        if v9n17 < v4_35 then
          lt1 ((v6_35 + (1 : Int32))) <| fun v6n22 =>
          rc35 v6_35 v9n17 v10n20 v6n22 rule_stackn15 rule_thingsn16
        else
          if v9n17 = v4_35 then
            if v10n20 ≤ v5_35 then
              lt1 ((v6_35 + (1 : Int32))) <| fun v6n24 =>
              rc35 v3_35 v4_35 v5_35 v6n24 rule_stackn15 rule_thingsn16
            else
              lt1 ((v6_35 + (1 : Int32))) <| fun v6n25 =>
              rc35 v6_35 v9n17 v10n20 v6n25 rule_stackn15 rule_thingsn16
          else
            lt1 ((v6_35 + (1 : Int32))) <| fun v6n23 =>
            rc35 v3_35 v4_35 v5_35 v6n23 rule_stackn15 rule_thingsn16
    else
      lt1 ((v6_35 + (1 : Int32))) <| fun v6n26 =>
      rc35 v3_35 v4_35 v5_35 v6n26 rule_stack_35 rule_things_35
def f_X11_cuts (p1 : Int32) (p2 : Int32) (numbers_size : Int32) (course_fences : Int32) (course_horseCount : Int32) (course_planCount : Int32) (course_rule_size : Int32) (course_kinds : (Nat → Int32)) (course_heights : (Nat → Int32)) (course_feet : (Nat → Int32)) (course_digits : (Nat → Int32)) (course_plans : (Nat → Int32)) (rule_codes : (Nat → Int32)) (rule_stack : (Nat → Int32)) (rule_things : (Nat → Int32)) (numbers_told : (Nat → Int64)) : Option (Int32 × Int32 × (Nat → Int32) × (Nat → Int32) × (Nat → Int64)) :=
  bd1 (f_X1_hasHorse p1 course_horseCount) <| fun rn1 =>
  if rn1 = 0 then
    some ((-1 : Int32), numbers_size, rule_stack, rule_things, numbers_told)
  else
    bd1 (f_X1_hasPlan p2 course_planCount) <| fun rn2 =>
    if rn2 = 0 then
      some ((-1 : Int32), numbers_size, rule_stack, rule_things, numbers_told)
    else
      ml6 (s_X11_cuts_35 p1 p2 course_fences course_rule_size course_kinds course_heights course_feet course_digits course_plans rule_codes (k_X11_cuts_35 numbers_size numbers_told)) zN (-1 : Int32) (0 : Int32) (0 : Int32) (0 : Int32) rule_stack rule_things
def f_X9_cut (p1 : Int32) (text_size : Int32) : Option (Int32 × Int32) :=
  if p1 < 0 then
    some ((0 : Int32), text_size)
  else
    if p1 ≤ text_size then
      some ((1 : Int32), p1)
    else
      some ((0 : Int32), text_size)
def f_X11_end (p1 : Int32) (text_size : Int32) : Option (Int32 × Int32) :=
  bd2 (f_X9_cut p1 text_size) <| fun rn1 text_sizen2 =>
  gd (bit rn1) <|
  some (rn1, text_sizen2)
def k_X11_fair_24 (numbers_size : Int32) (numbers_told : (Nat → Int64)) (v2_24x : Int32) (v3_24x : Int32) (v4_24x : Int32) : Option (Int32 × Int32 × (Nat → Int64)) :=
  bd1 (f_X6_start numbers_size) <| fun numbers_sizen2 =>
  bd2 (f_X6_put (v3_24x.toInt64) numbers_sizen2 numbers_told) <| fun numbers_sizen3 numbers_toldn4 =>
  bd2 (f_X6_put (v4_24x.toInt64) numbers_sizen3 numbers_toldn4) <| fun numbers_sizen5 numbers_toldn6 =>
  some (v2_24x, numbers_sizen5, numbers_toldn6)
def k_X11_fair_40 (rc24 : Int32 → Int32 → Int32 → Int32 → Option (Int32 × Int32 × (Nat → Int64))) (v2_24 : Int32) (v3_24 : Int32) (v4_24 : Int32) (v5_24 : Int32) (v6_40x : Int32) (v7_40x : Int32) : Option (Int32 × Int32 × (Nat → Int64)) :=
  if v2_24 = (-1 : Int32) then
    lt1 ((v5_24 + (1 : Int32))) <| fun v5n7 =>
    rc24 v5_24 v6_40x v7_40x v5n7
  else
    if v3_24 ≤ v6_40x then
      lt1 ((v5_24 + (1 : Int32))) <| fun v5n8 =>
      rc24 v2_24 v3_24 v4_24 v5n8
    else
      lt1 ((v5_24 + (1 : Int32))) <| fun v5n9 =>
      rc24 v5_24 v6_40x v7_40x v5n9
def s_X11_fair_40 (course_horseCount : Int32) (course_digits : (Nat → Int32)) (v5_24 : Int32) (kk40 : Int32 → Int32 → Option (Int32 × Int32 × (Nat → Int64))) (rc40 : Int32 → Int32 → Int32 → Option (Int32 × Int32 × (Nat → Int64))) (v6_40 : Int32) (v7_40 : Int32) (v8_40 : Int32) : Option (Int32 × Int32 × (Nat → Int64)) :=
  if course_horseCount ≤ v8_40 then
    kk40 v6_40 v7_40
  else
    bd1 (f_X1_ofHorse v8_40 (0 : Int32) course_digits) <| fun rn10 =>
    bd1 (f_X1_lean v5_24 rn10) <| fun rn11 =>
    lt1 ((v6_40 + rn11)) <| fun v6n12 =>
    lt1 ((if v7_40 < rn11 then rn11 else v7_40)) <| fun v7n13 =>
    lt1 ((v8_40 + (1 : Int32))) <| fun v8n14 =>
    rc40 v6n12 v7n13 v8n14
def s_X11_fair_24 (course_horseCount : Int32) (course_digits : (Nat → Int32)) (kk24 : Int32 → Int32 → Int32 → Option (Int32 × Int32 × (Nat → Int64))) (rc24 : Int32 → Int32 → Int32 → Int32 → Option (Int32 × Int32 × (Nat → Int64))) (v2_24 : Int32) (v3_24 : Int32) (v4_24 : Int32) (v5_24 : Int32) : Option (Int32 × Int32 × (Nat → Int64)) :=
  if (99 : Int32) < v5_24 then
    kk24 v2_24 v3_24 v4_24
  else
    ml3 (s_X11_fair_40 course_horseCount course_digits v5_24 (k_X11_fair_40 rc24 v2_24 v3_24 v4_24 v5_24)) zN (0 : Int32) (0 : Int32) (0 : Int32)
def f_X11_fair (p1 : Int32) (numbers_size : Int32) (course_fences : Int32) (course_horseCount : Int32) (course_digits : (Nat → Int32)) (numbers_told : (Nat → Int64)) : Option (Int32 × Int32 × (Nat → Int64)) :=
  bd1 (f_X1_hasFence p1 course_fences) <| fun rn1 =>
  if rn1 = 0 then
    some ((-1 : Int32), numbers_size, numbers_told)
  else
    ml4 (s_X11_fair_24 course_horseCount course_digits (k_X11_fair_24 numbers_size numbers_told)) zN (-1 : Int32) (0 : Int32) (0 : Int32) (10 : Int32)
def k_X11_falls_45 (numbers_size : Int32) (numbers_told : (Nat → Int64)) (v3_45x : Int32) (v4_45x : Int32) (rule_stack_45x : (Nat → Int32)) (rule_things_45x : (Nat → Int32)) : Option (Int32 × Int32 × (Nat → Int32) × (Nat → Int32) × (Nat → Int64)) :=
  bd1 (f_X6_start numbers_size) <| fun numbers_sizen3 =>
  bd2 (f_X6_put (v4_45x.toInt64) numbers_sizen3 numbers_told) <| fun numbers_sizen4 numbers_toldn5 =>
  some (v3_45x, numbers_sizen4, rule_stack_45x, rule_things_45x, numbers_toldn5)
def s_X11_falls_45 (p1 : Int32) (p2 : Int32) (course_fences : Int32) (course_rule_size : Int32) (course_kinds : (Nat → Int32)) (course_heights : (Nat → Int32)) (course_feet : (Nat → Int32)) (course_digits : (Nat → Int32)) (course_plans : (Nat → Int32)) (rule_codes : (Nat → Int32)) (kk45 : Int32 → Int32 → (Nat → Int32) → (Nat → Int32) → Option (Int32 × Int32 × (Nat → Int32) × (Nat → Int32) × (Nat → Int64))) (rc45 : Int32 → Int32 → Int32 → (Nat → Int32) → (Nat → Int32) → Option (Int32 × Int32 × (Nat → Int32) × (Nat → Int32) × (Nat → Int64))) (v3_45 : Int32) (v4_45 : Int32) (v5_45 : Int32) (rule_stack_45 : (Nat → Int32)) (rule_things_45 : (Nat → Int32)) : Option (Int32 × Int32 × (Nat → Int32) × (Nat → Int32) × (Nat → Int64)) :=
  if course_fences ≤ v5_45 then
    kk45 v3_45 v4_45 rule_stack_45 rule_things_45
  else
    bd1 (f_X1_letterAt p2 v5_45 course_plans) <| fun rn6 =>
    bd3 (f_X1_poleOdds p1 v5_45 rn6 course_rule_size course_kinds course_heights course_feet course_digits rule_codes rule_stack_45 rule_things_45) <| fun rn7 rule_stackn8 rule_thingsn9 =>
    if rn7 ≤ v4_45 then
      lt1 ((v5_45 + (1 : Int32))) <| fun v5n10 =>
      rc45 v3_45 v4_45 v5n10 rule_stackn8 rule_thingsn9
    else
      lt1 ((v5_45 + (1 : Int32))) <| fun v5n11 =>
      rc45 v5_45 rn7 v5n11 rule_stackn8 rule_thingsn9
def f_X11_falls (p1 : Int32) (p2 : Int32) (numbers_size : Int32) (course_fences : Int32) (course_horseCount : Int32) (course_planCount : Int32) (course_rule_size : Int32) (course_kinds : (Nat → Int32)) (course_heights : (Nat → Int32)) (course_feet : (Nat → Int32)) (course_digits : (Nat → Int32)) (course_plans : (Nat → Int32)) (rule_codes : (Nat → Int32)) (rule_stack : (Nat → Int32)) (rule_things : (Nat → Int32)) (numbers_told : (Nat → Int64)) : Option (Int32 × Int32 × (Nat → Int32) × (Nat → Int32) × (Nat → Int64)) :=
  bd1 (f_X1_hasHorse p1 course_horseCount) <| fun rn1 =>
  if rn1 = 0 then
    some ((-1 : Int32), numbers_size, rule_stack, rule_things, numbers_told)
  else
    bd1 (f_X1_hasPlan p2 course_planCount) <| fun rn2 =>
    if rn2 = 0 then
      some ((-1 : Int32), numbers_size, rule_stack, rule_things, numbers_told)
    else
      if course_fences = 0 then
        some ((-2 : Int32), numbers_size, rule_stack, rule_things, numbers_told)
      else
        ml5 (s_X11_falls_45 p1 p2 course_fences course_rule_size course_kinds course_heights course_feet course_digits course_plans rule_codes (k_X11_falls_45 numbers_size numbers_told)) zN (0 : Int32) (-1 : Int32) (0 : Int32) rule_stack rule_things
def k_X11_fear_29 (p1 : Int32) (p2 : Int32) (numbers_size : Int32) (course_fences : Int32) (course_rule_size : Int32) (course_kinds : (Nat → Int32)) (course_heights : (Nat → Int32)) (course_feet : (Nat → Int32)) (course_digits : (Nat → Int32)) (course_plans : (Nat → Int32)) (rule_codes : (Nat → Int32)) (numbers_told : (Nat → Int64)) (v3_29x : Int32) (rule_stack_29x : (Nat → Int32)) (rule_things_29x : (Nat → Int32)) : Option (Int32 × Int32 × (Nat → Int32) × (Nat → Int32) × (Nat → Int64)) :=
  bd1 (f_X6_start numbers_size) <| fun numbers_sizen3 =>
  bd1 (f_X1_planTenths p2 course_fences course_kinds course_feet course_plans) <| fun rn4 =>
  bd2 (f_X6_put (rn4.toInt64) numbers_sizen3 numbers_told) <| fun numbers_sizen5 numbers_toldn6 =>
  bd3 (f_X1_clearOf p1 p2 course_fences course_rule_size course_kinds course_heights course_feet course_digits course_plans rule_codes rule_stack_29x rule_things_29x) <| fun rn7 rule_stackn8 rule_thingsn9 =>
  bd2 (f_X6_put (rn7.toInt64) numbers_sizen5 numbers_toldn6) <| fun numbers_sizen10 numbers_toldn11 =>
  some (v3_29x, numbers_sizen10, rule_stackn8, rule_thingsn9, numbers_toldn11)
def s_X11_fear_29 (p1 : Int32) (p2 : Int32) (course_fences : Int32) (course_rule_size : Int32) (course_kinds : (Nat → Int32)) (course_heights : (Nat → Int32)) (course_feet : (Nat → Int32)) (course_digits : (Nat → Int32)) (course_plans : (Nat → Int32)) (rule_codes : (Nat → Int32)) (kk29 : Int32 → (Nat → Int32) → (Nat → Int32) → Option (Int32 × Int32 × (Nat → Int32) × (Nat → Int32) × (Nat → Int64))) (rc29 : Int32 → Int32 → (Nat → Int32) → (Nat → Int32) → Option (Int32 × Int32 × (Nat → Int32) × (Nat → Int32) × (Nat → Int64))) (v3_29 : Int32) (v4_29 : Int32) (rule_stack_29 : (Nat → Int32)) (rule_things_29 : (Nat → Int32)) : Option (Int32 × Int32 × (Nat → Int32) × (Nat → Int32) × (Nat → Int64)) :=
  if course_fences ≤ v4_29 then
    kk29 v3_29 rule_stack_29 rule_things_29
  else
    bd1 (f_X1_letterAt p2 v4_29 course_plans) <| fun rn12 =>
    bd3 (f_X1_poleOdds p1 v4_29 rn12 course_rule_size course_kinds course_heights course_feet course_digits rule_codes rule_stack_29 rule_things_29) <| fun rn13 rule_stackn14 rule_thingsn15 =>
    bd1 (f_X1_refusalOdds p1 v4_29 course_kinds course_feet course_digits) <| fun rn16 =>
    lt1 ((v3_29 + (rn13 + rn16))) <| fun v3n17 =>
    lt1 ((v4_29 + (1 : Int32))) <| fun v4n18 =>
    rc29 v3n17 v4n18 rule_stackn14 rule_thingsn15
def f_X11_fear (p1 : Int32) (p2 : Int32) (numbers_size : Int32) (course_fences : Int32) (course_horseCount : Int32) (course_planCount : Int32) (course_rule_size : Int32) (course_kinds : (Nat → Int32)) (course_heights : (Nat → Int32)) (course_feet : (Nat → Int32)) (course_digits : (Nat → Int32)) (course_plans : (Nat → Int32)) (rule_codes : (Nat → Int32)) (rule_stack : (Nat → Int32)) (rule_things : (Nat → Int32)) (numbers_told : (Nat → Int64)) : Option (Int32 × Int32 × (Nat → Int32) × (Nat → Int32) × (Nat → Int64)) :=
  bd1 (f_X1_hasHorse p1 course_horseCount) <| fun rn1 =>
  if rn1 = 0 then
    some ((-1 : Int32), numbers_size, rule_stack, rule_things, numbers_told)
  else
    bd1 (f_X1_hasPlan p2 course_planCount) <| fun rn2 =>
    if rn2 = 0 then
      some ((-1 : Int32), numbers_size, rule_stack, rule_things, numbers_told)
    else
      ml4 (s_X11_fear_29 p1 p2 course_fences course_rule_size course_kinds course_heights course_feet course_digits course_plans rule_codes (k_X11_fear_29 p1 p2 numbers_size course_fences course_rule_size course_kinds course_heights course_feet course_digits course_plans rule_codes numbers_told)) zN (0 : Int32) (0 : Int32) rule_stack rule_things
def k_X3_readPlayers_14 (p3 : Int32) (text_size : Int32) (text_limitn1 : Int32) (text_at_14x : Int32) (play_players_14x : Int32) (play_named_14x : (Nat → Int32)) : Option (Int32 × Int32 × Int32 × Int32 × (Nat → Int32)) :=
  if play_players_14x < p3 then
    bd1 (f_X9_fault text_at_14x) <| fun rn3 =>
    some (rn3, text_limitn1, text_at_14x, play_players_14x, play_named_14x)
  else
    bd1 (f_X9_isDone text_size text_at_14x) <| fun rn4 =>
    if rn4 = 0 then
      bd1 (f_X9_fault text_at_14x) <| fun rn5 =>
      some (rn5, text_limitn1, text_at_14x, play_players_14x, play_named_14x)
    else
      some ((0 : Int32), text_limitn1, text_at_14x, play_players_14x, play_named_14x)
def s_X3_readPlayers_14 (p2 : Int32) (p4 : Int32) (text_size : Int32) (text_signs : (Nat → Int32)) (text_limitn1 : Int32) (kk14 : Int32 → Int32 → (Nat → Int32) → Option (Int32 × Int32 × Int32 × Int32 × (Nat → Int32))) (rc14 : Int32 → Int32 → Int32 → (Nat → Int32) → Option (Int32 × Int32 × Int32 × Int32 × (Nat → Int32))) (v5_14 : Int32) (text_at_14 : Int32) (play_players_14 : Int32) (play_named_14 : (Nat → Int32)) : Option (Int32 × Int32 × Int32 × Int32 × (Nat → Int32)) :=
  if p4 ≤ v5_14 then
    kk14 text_at_14 play_players_14 play_named_14
  else
    bd1 (f_X9_isDone text_size text_at_14) <| fun rn6 =>
    if rn6 = 0 then
      bd2 (f_X9_digit (0 : Int32) ((p2 - (1 : Int32))) text_limitn1 text_at_14 text_signs) <| fun rn7 text_atn8 =>
      if rn7 = (-1 : Int32) then
        bd1 (f_X9_fault text_atn8) <| fun rn10 =>
        some (rn10, text_limitn1, text_atn8, play_players_14, play_named_14)
      else
        gd (ix v5_14 3) <|
        lt1 ((v5_14 + (1 : Int32))) <| fun v5n9 =>
        rc14 v5n9 text_atn8 ((play_players_14 + (1 : Int32))) ((upd play_named_14 v5_14.toNatClampNeg rn7))
    else
      kk14 text_at_14 play_players_14 play_named_14
def f_X3_readPlayers (p2 : Int32) (p3 : Int32) (p4 : Int32) (text_size : Int32) (text_limit : Int32) (text_at : Int32) (play_players : Int32) (text_signs : (Nat → Int32)) (play_named : (Nat → Int32)) : Option (Int32 × Int32 × Int32 × Int32 × (Nat → Int32)) :=
  bd2 (f_X9_open (80 : Int32) text_size text_limit text_at) <| fun text_limitn1 text_atn2 =>
  ml4 (s_X3_readPlayers_14 p2 p4 text_size text_signs text_limitn1 (k_X3_readPlayers_14 p3 text_size text_limitn1)) zN (0 : Int32) text_atn2 (0 : Int32) play_named
def f_X9_clear (text_size : Int32) : Option Int32 :=
  some (0 : Int32)
def f_X11_readPlayers (p1 : Int32) (p2 : Int32) (text_size : Int32) (text_limit : Int32) (text_at : Int32) (course_horseCount : Int32) (course_planCount : Int32) (play_players : Int32) (text_signs : (Nat → Int32)) (play_named : (Nat → Int32)) : Option (Int32 × Int32 × Int32 × Int32 × Int32 × (Nat → Int32)) :=
  if course_planCount = 0 then
    bd1 (f_X9_clear text_size) <| fun text_sizen7 =>
    some ((-100 : Int32), text_sizen7, text_limit, text_at, play_players, play_named)
  else
    bd5 (f_X3_readPlayers course_horseCount p1 p2 text_size text_limit text_at play_players text_signs play_named) <| fun rn1 text_limitn2 text_atn3 play_playersn4 play_namedn5 =>
    bd1 (f_X9_clear text_size) <| fun text_sizen6 =>
    some (rn1, text_sizen6, text_limitn2, text_atn3, play_playersn4, play_namedn5)
def k_X3_begin_10 (course_planCount : Int32) (play_faults_10x : (Nat → Int32)) (play_tenths_10x : (Nat → Int32)) (play_places_10x : (Nat → Int32)) : Option (Int32 × (Nat → Int32) × (Nat → Int32) × (Nat → Int32)) :=
  some (course_planCount, play_faults_10x, play_tenths_10x, play_places_10x)
def k_X3_begin_41 (rc10 : Int32 → (Nat → Int32) → (Nat → Int32) → (Nat → Int32) → Option (Int32 × (Nat → Int32) × (Nat → Int32) × (Nat → Int32))) (v3_10 : Int32) (play_faults_41x : (Nat → Int32)) (play_tenths_41x : (Nat → Int32)) (play_places_41x : (Nat → Int32)) : Option (Int32 × (Nat → Int32) × (Nat → Int32) × (Nat → Int32)) :=
  lt1 ((v3_10 + (1 : Int32))) <| fun v3n3 =>
  rc10 v3n3 play_faults_41x play_tenths_41x play_places_41x
def s_X3_begin_41 (rounds_size : Int32) (rounds_faults : (Nat → Int32)) (rounds_tenths : (Nat → Int32)) (v3_10 : Int32) (rn1 : Int32) (rn2 : Int32) (kk41 : (Nat → Int32) → (Nat → Int32) → (Nat → Int32) → Option (Int32 × (Nat → Int32) × (Nat → Int32) × (Nat → Int32))) (rc41 : Int32 → (Nat → Int32) → (Nat → Int32) → (Nat → Int32) → Option (Int32 × (Nat → Int32) × (Nat → Int32) × (Nat → Int32))) (v6_41 : Int32) (play_faults_41 : (Nat → Int32)) (play_tenths_41 : (Nat → Int32)) (play_places_41 : (Nat → Int32)) : Option (Int32 × (Nat → Int32) × (Nat → Int32) × (Nat → Int32)) :=
  if (2 : Int32) ≤ v6_41 then
    kk41 play_faults_41 play_tenths_41 play_places_41
  else
    gd (ix (((2 : Int32) * v3_10) + v6_41) 12) <|
    gd (ix (((2 : Int32) * v3_10) + v6_41) 12) <|
    bd1 (f_X10_placeFor ((rn2 + (v6_41 * (4 : Int32)))) rn1 rounds_size rounds_faults rounds_tenths) <| fun rn4 =>
    gd (ix (((2 : Int32) * v3_10) + v6_41) 12) <|
    lt1 ((v6_41 + (1 : Int32))) <| fun v6n5 =>
    rc41 v6n5 ((upd play_faults_41 (((2 : Int32) * v3_10) + v6_41).toNatClampNeg (rn2 + (v6_41 * (4 : Int32))))) ((upd play_tenths_41 (((2 : Int32) * v3_10) + v6_41).toNatClampNeg rn1)) ((upd play_places_41 (((2 : Int32) * v3_10) + v6_41).toNatClampNeg rn4))
def s_X3_begin_10 (course_fences : Int32) (course_planCount : Int32) (course_allowed : Int32) (rounds_size : Int32) (course_kinds : (Nat → Int32)) (course_feet : (Nat → Int32)) (course_plans : (Nat → Int32)) (rounds_faults : (Nat → Int32)) (rounds_tenths : (Nat → Int32)) (kk10 : (Nat → Int32) → (Nat → Int32) → (Nat → Int32) → Option (Int32 × (Nat → Int32) × (Nat → Int32) × (Nat → Int32))) (rc10 : Int32 → (Nat → Int32) → (Nat → Int32) → (Nat → Int32) → Option (Int32 × (Nat → Int32) × (Nat → Int32) × (Nat → Int32))) (v3_10 : Int32) (play_faults_10 : (Nat → Int32)) (play_tenths_10 : (Nat → Int32)) (play_places_10 : (Nat → Int32)) : Option (Int32 × (Nat → Int32) × (Nat → Int32) × (Nat → Int32)) :=
  if course_planCount ≤ v3_10 then
    kk10 play_faults_10 play_tenths_10 play_places_10
  else
    bd1 (f_X1_planTenths v3_10 course_fences course_kinds course_feet course_plans) <| fun rn1 =>
    bd1 (f_X11_begun rn1 course_allowed (40 : Int32)) <| fun rn2 =>
    ml4 (s_X3_begin_41 rounds_size rounds_faults rounds_tenths v3_10 rn1 rn2 (k_X3_begin_41 rc10 v3_10)) zN (0 : Int32) play_faults_10 play_tenths_10 play_places_10
def f_X3_begin (course_fences : Int32) (course_planCount : Int32) (course_allowed : Int32) (rounds_size : Int32) (play_plans : Int32) (course_kinds : (Nat → Int32)) (course_feet : (Nat → Int32)) (course_plans : (Nat → Int32)) (rounds_faults : (Nat → Int32)) (rounds_tenths : (Nat → Int32)) (play_faults : (Nat → Int32)) (play_tenths : (Nat → Int32)) (play_places : (Nat → Int32)) : Option (Int32 × (Nat → Int32) × (Nat → Int32) × (Nat → Int32)) :=
  ml4 (s_X3_begin_10 course_fences course_planCount course_allowed rounds_size course_kinds course_feet course_plans rounds_faults rounds_tenths (k_X3_begin_10 course_planCount)) zN (0 : Int32) play_faults play_tenths play_places
def k_X3_scale_4 (v1_4x : Int64) : Option Int64 :=
  some v1_4x
def s_X3_scale_4 (play_players : Int32) (kk4 : Int64 → Option Int64) (rc4 : Int64 → Int32 → Option Int64) (v1_4 : Int64) (v3_4 : Int32) : Option Int64 :=
  if play_players ≤ v3_4 then
    kk4 v1_4
  else
    lt1 ((v1_4 * (10000 : Int64))) <| fun v1n1 =>
    lt1 ((v3_4 + (1 : Int32))) <| fun v3n2 =>
    rc4 v1n1 v3n2
def f_X3_scale (play_players : Int32) : Option Int64 :=
  ml2 (s_X3_scale_4 play_players (k_X3_scale_4)) zN (1 : Int64) (0 : Int32)
def f_X3_isAhead (p1 : Int32) (p2 : Int32) (play_faults : (Nat → Int32)) (play_tenths : (Nat → Int32)) (play_ends : (Nat → Int32)) : Option Int32 :=
  gd (ix p1 3) <|
  lt1 ((play_ends p1.toNatClampNeg)) <| fun v3n1 =>
  gd (ix p2 3) <|
  lt1 ((play_ends p2.toNatClampNeg)) <| fun v4n2 =>
  gd (ix v3n1 12) <|
  gd (ix v4n2 12) <|
  if (play_faults v3n1.toNatClampNeg) = (play_faults v4n2.toNatClampNeg) then
    gd (ix v3n1 12) <|
    gd (ix v4n2 12) <|
    if (play_tenths v3n1.toNatClampNeg) < (play_tenths v4n2.toNatClampNeg) then
      some (1 : Int32)
    else
      gd (ix v3n1 12) <|
      gd (ix v4n2 12) <|
      if (play_tenths v3n1.toNatClampNeg) = (play_tenths v4n2.toNatClampNeg) then
        if p2 ≤ p1 then
          some (0 : Int32)
        else
          some (1 : Int32)
      else
        some (0 : Int32)
  else
    gd (ix v3n1 12) <|
    gd (ix v4n2 12) <|
    if (play_faults v4n2.toNatClampNeg) ≤ (play_faults v3n1.toNatClampNeg) then
      some (0 : Int32)
    else
      some (1 : Int32)
def k_X3_pay_2 (play_worth_2x : (Nat → Int64)) : Option (Nat → Int64) :=
  some play_worth_2x
def k_X3_pay_25 (play_players : Int32) (rounds_money : (Nat → Int32)) (rc2 : Int32 → (Nat → Int64) → Option (Nat → Int64)) (v2_2 : Int32) (play_worth_2 : (Nat → Int64)) (v3_25x : Int32) : Option (Nat → Int64) :=
  bd1 (f_X10_moneyAt v3_25x rounds_money) <| fun rn2 =>
  gd (ix ((play_players * (3 : Int32)) + v2_2) 12) <|
  lt1 ((v2_2 + (1 : Int32))) <| fun v2n3 =>
  rc2 v2n3 ((vp_updL play_worth_2 ((play_players * (3 : Int32)) + v2_2).toNatClampNeg rn2.toInt64))
def s_X3_pay_25 (play_players : Int32) (play_faults : (Nat → Int32)) (play_tenths : (Nat → Int32)) (play_ends : (Nat → Int32)) (v2_2 : Int32) (kk25 : Int32 → Option (Nat → Int64)) (rc25 : Int32 → Int32 → Option (Nat → Int64)) (v3_25 : Int32) (v4_25 : Int32) : Option (Nat → Int64) :=
  if play_players ≤ v4_25 then
    kk25 v3_25
  else
    if v4_25 = v2_2 then
      lt1 ((v3_25 + (0 : Int32))) <| fun v3n4 =>
      lt1 ((v4_25 + (1 : Int32))) <| fun v4n5 =>
      rc25 v3n4 v4n5
    else
      bd1 (f_X3_isAhead v4_25 v2_2 play_faults play_tenths play_ends) <| fun rn6 =>
      if rn6 = 0 then
        lt1 ((v3_25 + (0 : Int32))) <| fun v3n7 =>
        lt1 ((v4_25 + (1 : Int32))) <| fun v4n8 =>
        rc25 v3n7 v4n8
      else
        lt1 ((v3_25 + (1 : Int32))) <| fun v3n9 =>
        lt1 ((v4_25 + (1 : Int32))) <| fun v4n10 =>
        rc25 v3n9 v4n10
def s_X3_pay_2 (play_players : Int32) (rounds_money : (Nat → Int32)) (play_faults : (Nat → Int32)) (play_tenths : (Nat → Int32)) (play_places : (Nat → Int32)) (play_ends : (Nat → Int32)) (kk2 : (Nat → Int64) → Option (Nat → Int64)) (rc2 : Int32 → (Nat → Int64) → Option (Nat → Int64)) (v2_2 : Int32) (play_worth_2 : (Nat → Int64)) : Option (Nat → Int64) :=
  if play_players ≤ v2_2 then
    kk2 play_worth_2
  else
    gd (ix v2_2 3) <|
    gd (ix (play_ends v2_2.toNatClampNeg) 12) <|
    lt1 ((play_places (play_ends v2_2.toNatClampNeg).toNatClampNeg)) <| fun v3n1 =>
    ml2 (s_X3_pay_25 play_players play_faults play_tenths play_ends v2_2 (k_X3_pay_25 play_players rounds_money rc2 v2_2 play_worth_2)) zN v3n1 (0 : Int32)
def f_X3_pay (play_players : Int32) (rounds_money : (Nat → Int32)) (play_faults : (Nat → Int32)) (play_tenths : (Nat → Int32)) (play_places : (Nat → Int32)) (play_ends : (Nat → Int32)) (play_worth : (Nat → Int64)) : Option (Nat → Int64) :=
  ml2 (s_X3_pay_2 play_players rounds_money play_faults play_tenths play_places play_ends (k_X3_pay_2)) zN (0 : Int32) play_worth
def k_X3_settle_21 (play_firstPlan_21x : Int32) (play_ends_21x : (Nat → Int32)) (play_worth_21x : (Nat → Int64)) (play_trial_21x : (Nat → Int64)) : Option (Int32 × (Nat → Int32) × (Nat → Int64) × (Nat → Int64)) :=
  some (play_firstPlan_21x, play_ends_21x, play_worth_21x, play_trial_21x)
def j_X3_settle_63 (p2 : Int32) (v3n1 : Int32) (rc21 : Int32 → Int32 → (Nat → Int32) → (Nat → Int64) → (Nat → Int64) → Option (Int32 × (Nat → Int32) × (Nat → Int64) × (Nat → Int64))) (play_firstPlann2 : Int32) (play_endsn3 : (Nat → Int32)) (play_worthn4 : (Nat → Int64)) (play_trialn5 : (Nat → Int64)) (v4_63j : Int32) : Option (Int32 × (Nat → Int32) × (Nat → Int64) × (Nat → Int64)) :=
  gd (cpok v3n1 v3n1 (3 : Int32) 9 12) <|
  if p2 = 0 then
    lt1 ((v4_63j + (1 : Int32))) <| fun v4n7 =>
    rc21 v4n7 v4_63j play_endsn3 ((va_cpy play_trialn5 play_worthn4 v3n1.toNatClampNeg v3n1.toNatClampNeg (3 : Int32).toNatClampNeg)) play_trialn5
  else
    lt1 ((v4_63j + (1 : Int32))) <| fun v4n6 =>
    rc21 v4n6 play_firstPlann2 play_endsn3 ((va_cpy play_trialn5 play_worthn4 v3n1.toNatClampNeg v3n1.toNatClampNeg (3 : Int32).toNatClampNeg)) play_trialn5
def s_X3_settle_21 (q_X3_weigh : Int32 → Int32 → Int32 → Int32 → Int32 → (Nat → Int32) → (Nat → Int32) → (Nat → Int32) → (Nat → Int32) → (Nat → Int32) → (Nat → Int32) → (Nat → Int64) → (Nat → Int64) → Option (Int32 × (Nat → Int32) × (Nat → Int64) × (Nat → Int64))) (p2 : Int32) (play_players : Int32) (play_plans : Int32) (rounds_money : (Nat → Int32)) (play_faults : (Nat → Int32)) (play_tenths : (Nat → Int32)) (play_places : (Nat → Int32)) (play_clears : (Nat → Int32)) (v3n1 : Int32) (kk21 : Int32 → (Nat → Int32) → (Nat → Int64) → (Nat → Int64) → Option (Int32 × (Nat → Int32) × (Nat → Int64) × (Nat → Int64))) (rc21 : Int32 → Int32 → (Nat → Int32) → (Nat → Int64) → (Nat → Int64) → Option (Int32 × (Nat → Int32) × (Nat → Int64) × (Nat → Int64))) (v4_21 : Int32) (play_firstPlan_21 : Int32) (play_ends_21 : (Nat → Int32)) (play_worth_21 : (Nat → Int64)) (play_trial_21 : (Nat → Int64)) : Option (Int32 × (Nat → Int32) × (Nat → Int64) × (Nat → Int64)) :=
  if play_plans ≤ v4_21 then
    kk21 play_firstPlan_21 play_ends_21 play_worth_21 play_trial_21
  else
    bd4 (q_X3_weigh p2 v4_21 play_players play_plans play_firstPlan_21 rounds_money play_faults play_tenths play_places play_clears play_ends_21 play_worth_21 play_trial_21) <| fun play_firstPlann2 play_endsn3 play_worthn4 play_trialn5 =>
    if v4_21 = 0 then
      j_X3_settle_63 p2 v3n1 rc21 play_firstPlann2 play_endsn3 play_worthn4 play_trialn5 v4_21
    else
      gd (ix (v3n1 + p2) 9) <|
      gd (ix (v3n1 + p2) 12) <|
      if (lg_cmp (play_trialn5 (v3n1 + p2).toNatClampNeg) (play_worthn4 (v3n1 + p2).toNatClampNeg)) ≤ 0 then
        lt1 ((v4_21 + (1 : Int32))) <| fun v4n8 =>
        rc21 v4n8 play_firstPlann2 play_endsn3 play_worthn4 play_trialn5
      else
        j_X3_settle_63 p2 v3n1 rc21 play_firstPlann2 play_endsn3 play_worthn4 play_trialn5 v4_21
def g_X3_settle (q_X3_settle : Int32 → Int32 → Int32 → Int32 → (Nat → Int32) → (Nat → Int32) → (Nat → Int32) → (Nat → Int32) → (Nat → Int32) → (Nat → Int32) → (Nat → Int64) → (Nat → Int64) → Option (Int32 × (Nat → Int32) × (Nat → Int64) × (Nat → Int64))) (q_X3_weigh : Int32 → Int32 → Int32 → Int32 → Int32 → (Nat → Int32) → (Nat → Int32) → (Nat → Int32) → (Nat → Int32) → (Nat → Int32) → (Nat → Int32) → (Nat → Int64) → (Nat → Int64) → Option (Int32 × (Nat → Int32) × (Nat → Int64) × (Nat → Int64))) (p2 : Int32) (play_players : Int32) (play_plans : Int32) (play_firstPlan : Int32) (rounds_money : (Nat → Int32)) (play_faults : (Nat → Int32)) (play_tenths : (Nat → Int32)) (play_places : (Nat → Int32)) (play_clears : (Nat → Int32)) (play_ends : (Nat → Int32)) (play_worth : (Nat → Int64)) (play_trial : (Nat → Int64)) : Option (Int32 × (Nat → Int32) × (Nat → Int64) × (Nat → Int64)) :=
  if p2 < play_players then
    lt1 ((p2 * (3 : Int32))) <| fun v3n1 =>
    ml5 (s_X3_settle_21 q_X3_weigh p2 play_players play_plans rounds_money play_faults play_tenths play_places play_clears v3n1 (k_X3_settle_21)) zN (0 : Int32) play_firstPlan play_ends play_worth play_trial
  else
    bd1 (f_X3_pay play_players rounds_money play_faults play_tenths play_places play_ends play_worth) <| fun play_worthn9 =>
    some (play_firstPlan, play_ends, play_worthn9, play_trial)
def k_X3_weigh_101 (play_firstPlann7 : Int32) (play_endsn8 : (Nat → Int32)) (play_worthn9 : (Nat → Int64)) (play_trial_101x : (Nat → Int64)) : Option (Int32 × (Nat → Int32) × (Nat → Int64) × (Nat → Int64)) :=
  some (play_firstPlann7, play_endsn8, play_worthn9, play_trial_101x)
def s_X3_weigh_101 (play_players : Int32) (v4n1 : Int32) (v5n2 : Int64) (play_worthn9 : (Nat → Int64)) (kk101 : (Nat → Int64) → Option (Int32 × (Nat → Int32) × (Nat → Int64) × (Nat → Int64))) (rc101 : Int32 → (Nat → Int64) → Option (Int32 × (Nat → Int32) × (Nat → Int64) × (Nat → Int64))) (v7_101 : Int32) (play_trial_101 : (Nat → Int64)) : Option (Int32 × (Nat → Int32) × (Nat → Int64) × (Nat → Int64)) :=
  if play_players ≤ v7_101 then
    kk101 play_trial_101
  else
    gd (ix (v4n1 + v7_101) 9) <|
    gd (ix ((v4n1 + (3 : Int32)) + v7_101) 12) <|
    gd (ix (v4n1 + v7_101) 9) <|
    lt1 ((v7_101 + (1 : Int32))) <| fun v7n11 =>
    rc101 v7n11 ((vp_updL play_trial_101 (v4n1 + v7_101).toNatClampNeg ((play_trial_101 (v4n1 + v7_101).toNatClampNeg) + (((10000 : Int64) - v5n2) * (play_worthn9 ((v4n1 + (3 : Int32)) + v7_101).toNatClampNeg)))))
def k_X3_weigh_39 (q_X3_settle : Int32 → Int32 → Int32 → Int32 → (Nat → Int32) → (Nat → Int32) → (Nat → Int32) → (Nat → Int32) → (Nat → Int32) → (Nat → Int32) → (Nat → Int64) → (Nat → Int64) → Option (Int32 × (Nat → Int32) × (Nat → Int64) × (Nat → Int64))) (p2 : Int32) (p3 : Int32) (play_players : Int32) (play_plans : Int32) (rounds_money : (Nat → Int32)) (play_faults : (Nat → Int32)) (play_tenths : (Nat → Int32)) (play_places : (Nat → Int32)) (play_clears : (Nat → Int32)) (v4n1 : Int32) (v5n2 : Int64) (play_firstPlann3 : Int32) (play_endsn4 : (Nat → Int32)) (play_worthn5 : (Nat → Int64)) (play_trial_39x : (Nat → Int64)) : Option (Int32 × (Nat → Int32) × (Nat → Int64) × (Nat → Int64)) :=
  gd (ix p2 3) <|
  bd4 (q_X3_settle ((p2 + (1 : Int32))) play_players play_plans play_firstPlann3 rounds_money play_faults play_tenths play_places play_clears ((upd play_endsn4 p2.toNatClampNeg (((2 : Int32) * p3) + (1 : Int32)))) play_worthn5 play_trial_39x) <| fun play_firstPlann7 play_endsn8 play_worthn9 play_trialn10 =>
  ml2 (s_X3_weigh_101 play_players v4n1 v5n2 play_worthn9 (k_X3_weigh_101 play_firstPlann7 play_endsn8 play_worthn9)) zN (0 : Int32) play_trialn10
def s_X3_weigh_39 (play_players : Int32) (v4n1 : Int32) (v5n2 : Int64) (play_worthn5 : (Nat → Int64)) (kk39 : (Nat → Int64) → Option (Int32 × (Nat → Int32) × (Nat → Int64) × (Nat → Int64))) (rc39 : Int32 → (Nat → Int64) → Option (Int32 × (Nat → Int32) × (Nat → Int64) × (Nat → Int64))) (v7_39 : Int32) (play_trial_39 : (Nat → Int64)) : Option (Int32 × (Nat → Int32) × (Nat → Int64) × (Nat → Int64)) :=
  if play_players ≤ v7_39 then
    kk39 play_trial_39
  else
    gd (ix ((v4n1 + (3 : Int32)) + v7_39) 12) <|
    gd (ix (v4n1 + v7_39) 9) <|
    lt1 ((v7_39 + (1 : Int32))) <| fun v7n12 =>
    rc39 v7n12 ((vp_updL play_trial_39 (v4n1 + v7_39).toNatClampNeg (v5n2 * (play_worthn5 ((v4n1 + (3 : Int32)) + v7_39).toNatClampNeg))))
def g_X3_weigh (q_X3_settle : Int32 → Int32 → Int32 → Int32 → (Nat → Int32) → (Nat → Int32) → (Nat → Int32) → (Nat → Int32) → (Nat → Int32) → (Nat → Int32) → (Nat → Int64) → (Nat → Int64) → Option (Int32 × (Nat → Int32) × (Nat → Int64) × (Nat → Int64))) (q_X3_weigh : Int32 → Int32 → Int32 → Int32 → Int32 → (Nat → Int32) → (Nat → Int32) → (Nat → Int32) → (Nat → Int32) → (Nat → Int32) → (Nat → Int32) → (Nat → Int64) → (Nat → Int64) → Option (Int32 × (Nat → Int32) × (Nat → Int64) × (Nat → Int64))) (p2 : Int32) (p3 : Int32) (play_players : Int32) (play_plans : Int32) (play_firstPlan : Int32) (rounds_money : (Nat → Int32)) (play_faults : (Nat → Int32)) (play_tenths : (Nat → Int32)) (play_places : (Nat → Int32)) (play_clears : (Nat → Int32)) (play_ends : (Nat → Int32)) (play_worth : (Nat → Int64)) (play_trial : (Nat → Int64)) : Option (Int32 × (Nat → Int32) × (Nat → Int64) × (Nat → Int64)) :=
  lt1 ((p2 * (3 : Int32))) <| fun v4n1 =>
  gd (ix ((p2 * (6 : Int32)) + p3) 18) <|
  lt1 (((play_clears ((p2 * (6 : Int32)) + p3).toNatClampNeg)).toInt64) <| fun v5n2 =>
  gd (ix p2 3) <|
  bd4 (q_X3_settle ((p2 + (1 : Int32))) play_players play_plans play_firstPlan rounds_money play_faults play_tenths play_places play_clears ((upd play_ends p2.toNatClampNeg ((2 : Int32) * p3))) play_worth play_trial) <| fun play_firstPlann3 play_endsn4 play_worthn5 play_trialn6 =>
  ml2 (s_X3_weigh_39 play_players v4n1 v5n2 play_worthn5 (k_X3_weigh_39 q_X3_settle p2 p3 play_players play_plans rounds_money play_faults play_tenths play_places play_clears v4n1 v5n2 play_firstPlann3 play_endsn4 play_worthn5)) zN (0 : Int32) play_trialn6
def G_X3_settle : Nat → ((Int32 → Int32 → Int32 → Int32 → (Nat → Int32) → (Nat → Int32) → (Nat → Int32) → (Nat → Int32) → (Nat → Int32) → (Nat → Int32) → (Nat → Int64) → (Nat → Int64) → Option (Int32 × (Nat → Int32) × (Nat → Int64) × (Nat → Int64))) × (Int32 → Int32 → Int32 → Int32 → Int32 → (Nat → Int32) → (Nat → Int32) → (Nat → Int32) → (Nat → Int32) → (Nat → Int32) → (Nat → Int32) → (Nat → Int64) → (Nat → Int64) → Option (Int32 × (Nat → Int32) × (Nat → Int64) × (Nat → Int64))))
  | 0 => ((fun _ _ _ _ _ _ _ _ _ _ _ _ => none), (fun _ _ _ _ _ _ _ _ _ _ _ _ _ => none))
  | n + 1 => (g_X3_settle (G_X3_settle n).1 (G_X3_settle n).2, g_X3_weigh (G_X3_settle n).1 (G_X3_settle n).2)
def f_X3_settle (n : Nat) : (Int32 → Int32 → Int32 → Int32 → (Nat → Int32) → (Nat → Int32) → (Nat → Int32) → (Nat → Int32) → (Nat → Int32) → (Nat → Int32) → (Nat → Int64) → (Nat → Int64) → Option (Int32 × (Nat → Int32) × (Nat → Int64) × (Nat → Int64))) := (G_X3_settle n).1
def f_X3_weigh (n : Nat) : (Int32 → Int32 → Int32 → Int32 → Int32 → (Nat → Int32) → (Nat → Int32) → (Nat → Int32) → (Nat → Int32) → (Nat → Int32) → (Nat → Int32) → (Nat → Int64) → (Nat → Int64) → Option (Int32 × (Nat → Int32) × (Nat → Int64) × (Nat → Int64))) := (G_X3_settle n).2
def k_X3_start_3 (play_players : Int32) (play_plans : Int32) (play_firstPlan : Int32) (rounds_money : (Nat → Int32)) (play_faults : (Nat → Int32)) (play_tenths : (Nat → Int32)) (play_places : (Nat → Int32)) (play_ends : (Nat → Int32)) (play_worth : (Nat → Int64)) (play_trial : (Nat → Int64)) (rule_stack_3x : (Nat → Int32)) (rule_things_3x : (Nat → Int32)) (play_clears_3x : (Nat → Int32)) : Option (Int32 × (Nat → Int32) × (Nat → Int32) × (Nat → Int32) × (Nat → Int32) × (Nat → Int64) × (Nat → Int64)) :=
  bd4 (f_X3_settle 200 (0 : Int32) play_players play_plans play_firstPlan rounds_money play_faults play_tenths play_places play_clears_3x play_ends play_worth play_trial) <| fun play_firstPlann1 play_endsn2 play_worthn3 play_trialn4 =>
  some (play_firstPlann1, rule_stack_3x, rule_things_3x, play_clears_3x, play_endsn2, play_worthn3, play_trialn4)
def k_X3_start_41 (rc3 : Int32 → (Nat → Int32) → (Nat → Int32) → (Nat → Int32) → Option (Int32 × (Nat → Int32) × (Nat → Int32) × (Nat → Int32) × (Nat → Int32) × (Nat → Int64) × (Nat → Int64))) (v4_3 : Int32) (rule_stack_41x : (Nat → Int32)) (rule_things_41x : (Nat → Int32)) (play_clears_41x : (Nat → Int32)) : Option (Int32 × (Nat → Int32) × (Nat → Int32) × (Nat → Int32) × (Nat → Int32) × (Nat → Int64) × (Nat → Int64)) :=
  lt1 ((v4_3 + (1 : Int32))) <| fun v4n5 =>
  rc3 v4n5 rule_stack_41x rule_things_41x play_clears_41x
def s_X3_start_41 (course_fences : Int32) (course_rule_size : Int32) (play_players : Int32) (play_plans : Int32) (course_kinds : (Nat → Int32)) (course_heights : (Nat → Int32)) (course_feet : (Nat → Int32)) (course_digits : (Nat → Int32)) (course_plans : (Nat → Int32)) (rule_codes : (Nat → Int32)) (play_named : (Nat → Int32)) (v4_3 : Int32) (v5_38j : Int32) (kk41 : (Nat → Int32) → (Nat → Int32) → (Nat → Int32) → Option (Int32 × (Nat → Int32) × (Nat → Int32) × (Nat → Int32) × (Nat → Int32) × (Nat → Int64) × (Nat → Int64))) (rc41 : Int32 → (Nat → Int32) → (Nat → Int32) → (Nat → Int32) → Option (Int32 × (Nat → Int32) × (Nat → Int32) × (Nat → Int32) × (Nat → Int32) × (Nat → Int64) × (Nat → Int64))) (v6_41 : Int32) (rule_stack_41 : (Nat → Int32)) (rule_things_41 : (Nat → Int32)) (play_clears_41 : (Nat → Int32)) : Option (Int32 × (Nat → Int32) × (Nat → Int32) × (Nat → Int32) × (Nat → Int32) × (Nat → Int64) × (Nat → Int64)) :=
  if play_plans ≤ v6_41 then
    kk41 rule_stack_41 rule_things_41 play_clears_41
  else
    if play_players ≤ v5_38j then
      kk41 rule_stack_41 rule_things_41 play_clears_41
    else
      gd (ix v5_38j 3) <|
      bd3 (f_X1_clearOf ((play_named v5_38j.toNatClampNeg)) v6_41 course_fences course_rule_size course_kinds course_heights course_feet course_digits course_plans rule_codes rule_stack_41 rule_things_41) <| fun rn6 rule_stackn7 rule_thingsn8 =>
      gd (ix ((v4_3 * (6 : Int32)) + v6_41) 18) <|
      lt1 ((v6_41 + (1 : Int32))) <| fun v6n9 =>
      rc41 v6n9 rule_stackn7 rule_thingsn8 ((upd play_clears_41 ((v4_3 * (6 : Int32)) + v6_41).toNatClampNeg rn6))
def j_X3_start_38 (course_fences : Int32) (course_rule_size : Int32) (play_players : Int32) (play_plans : Int32) (course_kinds : (Nat → Int32)) (course_heights : (Nat → Int32)) (course_feet : (Nat → Int32)) (course_digits : (Nat → Int32)) (course_plans : (Nat → Int32)) (rule_codes : (Nat → Int32)) (play_named : (Nat → Int32)) (rc3 : Int32 → (Nat → Int32) → (Nat → Int32) → (Nat → Int32) → Option (Int32 × (Nat → Int32) × (Nat → Int32) × (Nat → Int32) × (Nat → Int32) × (Nat → Int64) × (Nat → Int64))) (v4_3 : Int32) (rule_stack_3 : (Nat → Int32)) (rule_things_3 : (Nat → Int32)) (play_clears_3 : (Nat → Int32)) (v5_38j : Int32) : Option (Int32 × (Nat → Int32) × (Nat → Int32) × (Nat → Int32) × (Nat → Int32) × (Nat → Int64) × (Nat → Int64)) :=
  ml4 (s_X3_start_41 course_fences course_rule_size play_players play_plans course_kinds course_heights course_feet course_digits course_plans rule_codes play_named v4_3 v5_38j (k_X3_start_41 rc3 v4_3)) zN (0 : Int32) rule_stack_3 rule_things_3 play_clears_3
def j_X3_start_24 (p3 : Int32) (course_fences : Int32) (course_rule_size : Int32) (play_players : Int32) (play_plans : Int32) (course_kinds : (Nat → Int32)) (course_heights : (Nat → Int32)) (course_feet : (Nat → Int32)) (course_digits : (Nat → Int32)) (course_plans : (Nat → Int32)) (rule_codes : (Nat → Int32)) (play_named : (Nat → Int32)) (rc3 : Int32 → (Nat → Int32) → (Nat → Int32) → (Nat → Int32) → Option (Int32 × (Nat → Int32) × (Nat → Int32) × (Nat → Int32) × (Nat → Int32) × (Nat → Int64) × (Nat → Int64))) (v4_3 : Int32) (rule_stack_3 : (Nat → Int32)) (rule_things_3 : (Nat → Int32)) (play_clears_3 : (Nat → Int32)) (t0_24j : Int32) : Option (Int32 × (Nat → Int32) × (Nat → Int32) × (Nat → Int32) × (Nat → Int32) × (Nat → Int64) × (Nat → Int64)) :=
  if p3 ≤ v4_3 then
    j_X3_start_38 course_fences course_rule_size play_players play_plans course_kinds course_heights course_feet course_digits course_plans rule_codes play_named rc3 v4_3 rule_stack_3 rule_things_3 play_clears_3 t0_24j
  else
    lt1 ((v4_3 + (1 : Int32))) <| fun v5n10 =>
    j_X3_start_38 course_fences course_rule_size play_players play_plans course_kinds course_heights course_feet course_digits course_plans rule_codes play_named rc3 v4_3 rule_stack_3 rule_things_3 play_clears_3 v5n10
def s_X3_start_3 (p3 : Int32) (course_fences : Int32) (course_rule_size : Int32) (play_players : Int32) (play_plans : Int32) (course_kinds : (Nat → Int32)) (course_heights : (Nat → Int32)) (course_feet : (Nat → Int32)) (course_digits : (Nat → Int32)) (course_plans : (Nat → Int32)) (rule_codes : (Nat → Int32)) (play_named : (Nat → Int32)) (kk3 : (Nat → Int32) → (Nat → Int32) → (Nat → Int32) → Option (Int32 × (Nat → Int32) × (Nat → Int32) × (Nat → Int32) × (Nat → Int32) × (Nat → Int64) × (Nat → Int64))) (rc3 : Int32 → (Nat → Int32) → (Nat → Int32) → (Nat → Int32) → Option (Int32 × (Nat → Int32) × (Nat → Int32) × (Nat → Int32) × (Nat → Int32) × (Nat → Int64) × (Nat → Int64))) (v4_3 : Int32) (rule_stack_3 : (Nat → Int32)) (rule_things_3 : (Nat → Int32)) (play_clears_3 : (Nat → Int32)) : Option (Int32 × (Nat → Int32) × (Nat → Int32) × (Nat → Int32) × (Nat → Int32) × (Nat → Int64) × (Nat → Int64)) :=
  if play_players ≤ v4_3 then
    kk3 rule_stack_3 rule_things_3 play_clears_3
  else
    if v4_3 = p3 then
      j_X3_start_24 p3 course_fences course_rule_size play_players play_plans course_kinds course_heights course_feet course_digits course_plans rule_codes play_named rc3 v4_3 rule_stack_3 rule_things_3 play_clears_3 (0 : Int32)
    else
      j_X3_start_24 p3 course_fences course_rule_size play_players play_plans course_kinds course_heights course_feet course_digits course_plans rule_codes play_named rc3 v4_3 rule_stack_3 rule_things_3 play_clears_3 v4_3
def f_X3_start (p3 : Int32) (course_fences : Int32) (course_rule_size : Int32) (play_players : Int32) (play_plans : Int32) (play_firstPlan : Int32) (course_kinds : (Nat → Int32)) (course_heights : (Nat → Int32)) (course_feet : (Nat → Int32)) (course_digits : (Nat → Int32)) (course_plans : (Nat → Int32)) (rule_codes : (Nat → Int32)) (rule_stack : (Nat → Int32)) (rule_things : (Nat → Int32)) (rounds_money : (Nat → Int32)) (play_named : (Nat → Int32)) (play_faults : (Nat → Int32)) (play_tenths : (Nat → Int32)) (play_places : (Nat → Int32)) (play_clears : (Nat → Int32)) (play_ends : (Nat → Int32)) (play_worth : (Nat → Int64)) (play_trial : (Nat → Int64)) : Option (Int32 × (Nat → Int32) × (Nat → Int32) × (Nat → Int32) × (Nat → Int32) × (Nat → Int64) × (Nat → Int64)) :=
  ml4 (s_X3_start_3 p3 course_fences course_rule_size play_players play_plans course_kinds course_heights course_feet course_digits course_plans rule_codes play_named (k_X3_start_3 play_players play_plans play_firstPlan rounds_money play_faults play_tenths play_places play_ends play_worth play_trial)) zN (0 : Int32) rule_stack rule_things play_clears
def f_X3_won (p1 : Int32) (play_players : Int32) (play_worth : (Nat → Int64)) : Option Int64 :=
  if p1 < 0 then
    some (0 : Int64)
  else
    if play_players ≤ p1 then
      some (0 : Int64)
    else
      gd (ix p1 12) <|
      some (play_worth p1.toNatClampNeg)
def k_X6_common_9 (v4_9x : Int64) : Option Int64 :=
  some v4_9x
def s_X6_common_9  (kk9 : Int64 → Option Int64) (rc9 : Int64 → Int64 → Int32 → Option Int64) (v4_9 : Int64) (v6_9 : Int64) (v8_9 : Int32) : Option Int64 :=
  if (200 : Int32) ≤ v8_9 then
    kk9 v4_9
  else
    if (lg_cmp v6_9 (0 : Int64)) = 0 then
      kk9 v4_9
    else
      gd (nzl v6_9) <|
      lt1 ((v4_9 - v4_9 / v6_9 * v6_9)) <| fun v9n1 =>
      lt1 ((v8_9 + (1 : Int32))) <| fun v8n2 =>
      rc9 v6_9 v9n1 v8n2
def f_X6_common (p0 : Int64) (p2 : Int64) : Option Int64 :=
  ml3 (s_X6_common_9 (k_X6_common_9)) zN p0 p2 (0 : Int32)
def f_X6_putFraction (p1 : Int64) (p3 : Int64) (numbers_size : Int32) (numbers_told : (Nat → Int64)) : Option (Int32 × (Nat → Int64)) :=
  bd1 (f_X6_common ((if 0 < p1 then p1 else -p1)) p3) <| fun rn1 =>
  if (lg_cmp rn1 (0 : Int64)) ≤ 0 then
    bd2 (f_X6_put p1 numbers_size numbers_told) <| fun numbers_sizen2 numbers_toldn3 =>
    if (lg_cmp rn1 (0 : Int64)) ≤ 0 then
      bd2 (f_X6_put p3 numbers_sizen2 numbers_toldn3) <| fun numbers_sizen4 numbers_toldn5 =>
      some (numbers_sizen4, numbers_toldn5)
    else
      gd (nzl rn1) <|
      bd2 (f_X6_put ((p3 / rn1)) numbers_sizen2 numbers_toldn3) <| fun numbers_sizen6 numbers_toldn7 =>
      some (numbers_sizen6, numbers_toldn7)
  else
    gd (nzl rn1) <|
    bd2 (f_X6_put ((p1 / rn1)) numbers_size numbers_told) <| fun numbers_sizen8 numbers_toldn9 =>
    if (lg_cmp rn1 (0 : Int64)) ≤ 0 then
      bd2 (f_X6_put p3 numbers_sizen8 numbers_toldn9) <| fun numbers_sizen10 numbers_toldn11 =>
      some (numbers_sizen10, numbers_toldn11)
    else
      gd (nzl rn1) <|
      bd2 (f_X6_put ((p3 / rn1)) numbers_sizen8 numbers_toldn9) <| fun numbers_sizen12 numbers_toldn13 =>
      some (numbers_sizen12, numbers_toldn13)
def k_X11_game_53 (text_sizen2 : Int32) (text_limitn3 : Int32) (text_atn4 : Int32) (play_playersn5 : Int32) (play_namedn6 : (Nat → Int32)) (play_plansn7 : Int32) (play_faultsn8 : (Nat → Int32)) (play_tenthsn9 : (Nat → Int32)) (play_placesn10 : (Nat → Int32)) (play_firstPlann11 : Int32) (rule_stackn12 : (Nat → Int32)) (rule_thingsn13 : (Nat → Int32)) (play_clearsn14 : (Nat → Int32)) (play_endsn15 : (Nat → Int32)) (play_worthn16 : (Nat → Int64)) (play_trialn17 : (Nat → Int64)) (numbers_size_53x : Int32) (numbers_told_53x : (Nat → Int64)) : Option (Int32 × Int32 × Int32 × Int32 × Int32 × Int32 × Int32 × Int32 × (Nat → Int32) × (Nat → Int32) × (Nat → Int32) × (Nat → Int32) × (Nat → Int32) × (Nat → Int32) × (Nat → Int32) × (Nat → Int32) × (Nat → Int64) × (Nat → Int64) × (Nat → Int64)) :=
  some (play_firstPlann11, text_sizen2, text_limitn3, text_atn4, numbers_size_53x, play_playersn5, play_plansn7, play_firstPlann11, rule_stackn12, rule_thingsn13, play_namedn6, play_faultsn8, play_tenthsn9, play_placesn10, play_clearsn14, play_endsn15, numbers_told_53x, play_worthn16, play_trialn17)
def s_X11_game_53 (play_playersn5 : Int32) (play_worthn16 : (Nat → Int64)) (kk53 : Int32 → (Nat → Int64) → Option (Int32 × Int32 × Int32 × Int32 × Int32 × Int32 × Int32 × Int32 × (Nat → Int32) × (Nat → Int32) × (Nat → Int32) × (Nat → Int32) × (Nat → Int32) × (Nat → Int32) × (Nat → Int32) × (Nat → Int32) × (Nat → Int64) × (Nat → Int64) × (Nat → Int64))) (rc53 : Int32 → Int32 → (Nat → Int64) → Option (Int32 × Int32 × Int32 × Int32 × Int32 × Int32 × Int32 × Int32 × (Nat → Int32) × (Nat → Int32) × (Nat → Int32) × (Nat → Int32) × (Nat → Int32) × (Nat → Int32) × (Nat → Int32) × (Nat → Int32) × (Nat → Int64) × (Nat → Int64) × (Nat → Int64))) (v2_53 : Int32) (numbers_size_53 : Int32) (numbers_told_53 : (Nat → Int64)) : Option (Int32 × Int32 × Int32 × Int32 × Int32 × Int32 × Int32 × Int32 × (Nat → Int32) × (Nat → Int32) × (Nat → Int32) × (Nat → Int32) × (Nat → Int32) × (Nat → Int32) × (Nat → Int32) × (Nat → Int32) × (Nat → Int64) × (Nat → Int64) × (Nat → Int64)) :=
  if play_playersn5 ≤ v2_53 then
    kk53 numbers_size_53 numbers_told_53
  else
    bd1 (f_X3_won v2_53 play_playersn5 play_worthn16) <| fun rn19 =>
    bd1 (f_X3_scale play_playersn5) <| fun rn20 =>
    bd2 (f_X6_putFraction rn19 rn20 numbers_size_53 numbers_told_53) <| fun numbers_sizen21 numbers_toldn22 =>
    lt1 ((v2_53 + (1 : Int32))) <| fun v2n23 =>
    rc53 v2n23 numbers_sizen21 numbers_toldn22
def f_X11_game (text_size : Int32) (text_limit : Int32) (text_at : Int32) (numbers_size : Int32) (course_fences : Int32) (course_horseCount : Int32) (course_planCount : Int32) (course_allowed : Int32) (course_rule_size : Int32) (rounds_size : Int32) (play_players : Int32) (play_plans : Int32) (play_firstPlan : Int32) (text_signs : (Nat → Int32)) (course_kinds : (Nat → Int32)) (course_heights : (Nat → Int32)) (course_feet : (Nat → Int32)) (course_digits : (Nat → Int32)) (course_plans : (Nat → Int32)) (rule_codes : (Nat → Int32)) (rule_stack : (Nat → Int32)) (rule_things : (Nat → Int32)) (rounds_faults : (Nat → Int32)) (rounds_tenths : (Nat → Int32)) (rounds_money : (Nat → Int32)) (play_named : (Nat → Int32)) (play_faults : (Nat → Int32)) (play_tenths : (Nat → Int32)) (play_places : (Nat → Int32)) (play_clears : (Nat → Int32)) (play_ends : (Nat → Int32)) (numbers_told : (Nat → Int64)) (play_worth : (Nat → Int64)) (play_trial : (Nat → Int64)) : Option (Int32 × Int32 × Int32 × Int32 × Int32 × Int32 × Int32 × Int32 × (Nat → Int32) × (Nat → Int32) × (Nat → Int32) × (Nat → Int32) × (Nat → Int32) × (Nat → Int32) × (Nat → Int32) × (Nat → Int32) × (Nat → Int64) × (Nat → Int64) × (Nat → Int64)) :=
  bd6 (f_X11_readPlayers (1 : Int32) (3 : Int32) text_size text_limit text_at course_horseCount course_planCount play_players text_signs play_named) <| fun rn1 text_sizen2 text_limitn3 text_atn4 play_playersn5 play_namedn6 =>
  if 0 ≤ rn1 then
    bd4 (f_X3_begin course_fences course_planCount course_allowed rounds_size play_plans course_kinds course_feet course_plans rounds_faults rounds_tenths play_faults play_tenths play_places) <| fun play_plansn7 play_faultsn8 play_tenthsn9 play_placesn10 =>
    bd7 (f_X3_start (0 : Int32) course_fences course_rule_size play_playersn5 play_plansn7 play_firstPlan course_kinds course_heights course_feet course_digits course_plans rule_codes rule_stack rule_things rounds_money play_namedn6 play_faultsn8 play_tenthsn9 play_placesn10 play_clears play_ends play_worth play_trial) <| fun play_firstPlann11 rule_stackn12 rule_thingsn13 play_clearsn14 play_endsn15 play_worthn16 play_trialn17 =>
    bd1 (f_X6_start numbers_size) <| fun numbers_sizen18 =>
    ml3 (s_X11_game_53 play_playersn5 play_worthn16 (k_X11_game_53 text_sizen2 text_limitn3 text_atn4 play_playersn5 play_namedn6 play_plansn7 play_faultsn8 play_tenthsn9 play_placesn10 play_firstPlann11 rule_stackn12 rule_thingsn13 play_clearsn14 play_endsn15 play_worthn16 play_trialn17)) zN (0 : Int32) numbers_sizen18 numbers_told
  else
    some (rn1, text_sizen2, text_limitn3, text_atn4, numbers_size, play_playersn5, play_plans, play_firstPlan, rule_stack, rule_things, play_namedn6, play_faults, play_tenths, play_places, play_clears, play_ends, numbers_told, play_worth, play_trial)
def k_X1_readHorse_2 (text_at_2x : Int32) (course_digits_2x : (Nat → Int32)) : Option (Int32 × Int32 × (Nat → Int32)) :=
  some ((1 : Int32), text_at_2x, course_digits_2x)
def j_X1_readHorse_18 (p2 : Int32) (text_limit : Int32) (text_signs : (Nat → Int32)) (rc2 : Int32 → Int32 → (Nat → Int32) → Option (Int32 × Int32 × (Nat → Int32))) (v3_2 : Int32) (text_at_2 : Int32) (course_digits_2 : (Nat → Int32)) (t1_18j : Int32) : Option (Int32 × Int32 × (Nat → Int32)) :=
  bd2 (f_X9_digit t1_18j (9 : Int32) text_limit text_at_2 text_signs) <| fun rn1 text_atn2 =>
  if rn1 = (-1 : Int32) then
    some ((0 : Int32), text_atn2, course_digits_2)
  else
    gd (ix ((p2 * (6 : Int32)) + v3_2) 36) <|
    lt1 ((v3_2 + (1 : Int32))) <| fun v3n3 =>
    rc2 v3n3 text_atn2 ((upd course_digits_2 ((p2 * (6 : Int32)) + v3_2).toNatClampNeg rn1))
def s_X1_readHorse_2 (p2 : Int32) (text_limit : Int32) (text_signs : (Nat → Int32)) (kk2 : Int32 → (Nat → Int32) → Option (Int32 × Int32 × (Nat → Int32))) (rc2 : Int32 → Int32 → (Nat → Int32) → Option (Int32 × Int32 × (Nat → Int32))) (v3_2 : Int32) (text_at_2 : Int32) (course_digits_2 : (Nat → Int32)) : Option (Int32 × Int32 × (Nat → Int32)) :=
  if (6 : Int32) ≤ v3_2 then
    kk2 text_at_2 course_digits_2
  else
    if v3_2 = 0 then
      j_X1_readHorse_18 p2 text_limit text_signs rc2 v3_2 text_at_2 course_digits_2 (3 : Int32)
    else
      j_X1_readHorse_18 p2 text_limit text_signs rc2 v3_2 text_at_2 course_digits_2 (0 : Int32)
def f_X1_readHorse (p2 : Int32) (text_limit : Int32) (text_at : Int32) (text_signs : (Nat → Int32)) (course_digits : (Nat → Int32)) : Option (Int32 × Int32 × (Nat → Int32)) :=
  ml3 (s_X1_readHorse_2 p2 text_limit text_signs (k_X1_readHorse_2)) zN (0 : Int32) text_at course_digits
def k_X1_readHorses_17 (course_horseCount : Int32) (text_limitn1 : Int32) (text_at_17x : Int32) (course_digits_17x : (Nat → Int32)) : Option (Int32 × Int32 × Int32 × Int32 × (Nat → Int32)) :=
  bd1 (f_X9_fault text_at_17x) <| fun rn4 =>
  some (rn4, text_limitn1, text_at_17x, course_horseCount, course_digits_17x)
def s_X1_readHorses_17 (text_size : Int32) (course_horseCount : Int32) (text_signs : (Nat → Int32)) (text_limitn1 : Int32) (kk17 : Int32 → (Nat → Int32) → Option (Int32 × Int32 × Int32 × Int32 × (Nat → Int32))) (rc17 : Int32 → Int32 → (Nat → Int32) → Option (Int32 × Int32 × Int32 × Int32 × (Nat → Int32))) (v2_17 : Int32) (text_at_17 : Int32) (course_digits_17 : (Nat → Int32)) : Option (Int32 × Int32 × Int32 × Int32 × (Nat → Int32)) :=
  if (6 : Int32) ≤ (course_horseCount + v2_17) then
    kk17 text_at_17 course_digits_17
  else
    bd3 (f_X1_readHorse ((course_horseCount + v2_17)) text_limitn1 text_at_17 text_signs course_digits_17) <| fun rn5 text_atn6 course_digitsn7 =>
    if rn5 = 0 then
      bd1 (f_X9_fault text_atn6) <| fun rn13 =>
      some (rn13, text_limitn1, text_atn6, course_horseCount, course_digitsn7)
    else
      bd1 (f_X9_isDone text_size text_atn6) <| fun rn8 =>
      if rn8 = 0 then
        bd2 (f_X9_take (59 : Int32) text_limitn1 text_atn6 text_signs) <| fun rn9 text_atn10 =>
        if rn9 = 0 then
          bd1 (f_X9_fault text_atn10) <| fun rn12 =>
          some (rn12, text_limitn1, text_atn10, course_horseCount, course_digitsn7)
        else
          lt1 ((v2_17 + (1 : Int32))) <| fun v2n11 =>
          rc17 v2n11 text_atn10 course_digitsn7
      else
        some ((v2_17 + (1 : Int32)), text_limitn1, text_atn6, (course_horseCount + (v2_17 + (1 : Int32))), course_digitsn7)
def f_X1_readHorses (text_size : Int32) (text_limit : Int32) (text_at : Int32) (course_horseCount : Int32) (text_signs : (Nat → Int32)) (course_digits : (Nat → Int32)) : Option (Int32 × Int32 × Int32 × Int32 × (Nat → Int32)) :=
  bd2 (f_X9_open (76 : Int32) text_size text_limit text_at) <| fun text_limitn1 text_atn2 =>
  bd1 (f_X9_isDone text_size text_atn2) <| fun rn3 =>
  if rn3 = 0 then
    ml3 (s_X1_readHorses_17 text_size course_horseCount text_signs text_limitn1 (k_X1_readHorses_17 course_horseCount text_limitn1)) zN (0 : Int32) text_atn2 course_digits
  else
    some ((0 : Int32), text_limitn1, text_atn2, course_horseCount, course_digits)
def f_X11_horses (text_size : Int32) (text_limit : Int32) (text_at : Int32) (course_horseCount : Int32) (text_signs : (Nat → Int32)) (course_digits : (Nat → Int32)) : Option (Int32 × Int32 × Int32 × Int32 × Int32 × (Nat → Int32)) :=
  bd5 (f_X1_readHorses text_size text_limit text_at course_horseCount text_signs course_digits) <| fun rn1 text_limitn2 text_atn3 course_horseCountn4 course_digitsn5 =>
  bd1 (f_X9_clear text_size) <| fun text_sizen6 =>
  some (rn1, text_sizen6, text_limitn2, text_atn3, course_horseCountn4, course_digitsn5)
def f_X11_jump (p1 : Int32) (p2 : Int32) (p3 : Int32) (numbers_size : Int32) (course_fences : Int32) (course_horseCount : Int32) (course_rule_size : Int32) (course_kinds : (Nat → Int32)) (course_heights : (Nat → Int32)) (course_feet : (Nat → Int32)) (course_digits : (Nat → Int32)) (rule_codes : (Nat → Int32)) (rule_stack : (Nat → Int32)) (rule_things : (Nat → Int32)) (numbers_told : (Nat → Int64)) : Option (Int32 × Int32 × (Nat → Int32) × (Nat → Int32) × (Nat → Int64)) :=
  bd1 (f_X1_hasHorse p1 course_horseCount) <| fun rn1 =>
  if rn1 = 0 then
    some ((-1 : Int32), numbers_size, rule_stack, rule_things, numbers_told)
  else
    bd1 (f_X1_hasFence p2 course_fences) <| fun rn2 =>
    if rn2 = 0 then
      some ((-1 : Int32), numbers_size, rule_stack, rule_things, numbers_told)
    else
      if p3 < 0 then
        some ((-1 : Int32), numbers_size, rule_stack, rule_things, numbers_told)
      else
        if p3 < (8 : Int32) then
          bd1 (f_X6_start numbers_size) <| fun numbers_sizen3 =>
          bd1 (f_X1_refusalOdds p1 p2 course_kinds course_feet course_digits) <| fun rn4 =>
          bd2 (f_X6_put (rn4.toInt64) numbers_sizen3 numbers_told) <| fun numbers_sizen5 numbers_toldn6 =>
          bd1 (f_X1_fenceTenths p2 p3 course_kinds course_feet) <| fun rn7 =>
          bd2 (f_X6_put (rn7.toInt64) numbers_sizen5 numbers_toldn6) <| fun numbers_sizen8 numbers_toldn9 =>
          bd1 (f_X1_leanAt p1 p2 course_feet course_digits) <| fun rn10 =>
          bd2 (f_X6_put (rn10.toInt64) numbers_sizen8 numbers_toldn9) <| fun numbers_sizen11 numbers_toldn12 =>
          bd3 (f_X1_poleOdds p1 p2 p3 course_rule_size course_kinds course_heights course_feet course_digits rule_codes rule_stack rule_things) <| fun rn13 rule_stackn14 rule_thingsn15 =>
          some (rn13, numbers_sizen11, rule_stackn14, rule_thingsn15, numbers_toldn12)
        else
          some ((-1 : Int32), numbers_size, rule_stack, rule_things, numbers_told)
def k_X11_justFall_18 (p2 : Int32) (rule_stack_18x : (Nat → Int32)) (rule_things_18x : (Nat → Int32)) (chances_18x : (Nat → Int64)) : Option (Int64 × (Nat → Int32) × (Nat → Int32) × (Nat → Int64)) :=
  if p2 < 0 then
    some ((0 : Int64), rule_stack_18x, rule_things_18x, chances_18x)
  else
    if (6 : Int32) < p2 then
      some ((0 : Int64), rule_stack_18x, rule_things_18x, chances_18x)
    else
      gd (ix p2 9) <|
      some ((chances_18x p2.toNatClampNeg), rule_stack_18x, rule_things_18x, chances_18x)
def k_X11_justFall_57 (rc18 : Int32 → (Nat → Int32) → (Nat → Int32) → (Nat → Int64) → Option (Int64 × (Nat → Int32) × (Nat → Int32) × (Nat → Int64))) (v5_18 : Int32) (rule_stackn4 : (Nat → Int32)) (rule_thingsn5 : (Nat → Int32)) (v6n6 : Int32) (chances_57x : (Nat → Int64)) : Option (Int64 × (Nat → Int32) × (Nat → Int32) × (Nat → Int64)) :=
  gd (ix (0 : Int32) 9) <|
  gd (ix (0 : Int32) 9) <|
  lt1 ((v5_18 + (1 : Int32))) <| fun v5n7 =>
  rc18 v5n7 rule_stackn4 rule_thingsn5 ((vp_updL chances_57x (0 : Int32).toNatClampNeg ((chances_57x (0 : Int32).toNatClampNeg) * (((100 : Int32) - v6n6)).toInt64)))
def s_X11_justFall_57 (v6n6 : Int32) (kk57 : (Nat → Int64) → Option (Int64 × (Nat → Int32) × (Nat → Int32) × (Nat → Int64))) (rc57 : Int32 → (Nat → Int64) → Option (Int64 × (Nat → Int32) × (Nat → Int32) × (Nat → Int64))) (v7_57 : Int32) (chances_57 : (Nat → Int64)) : Option (Int64 × (Nat → Int32) × (Nat → Int32) × (Nat → Int64)) :=
  if v7_57 ≤ 0 then
    kk57 chances_57
  else
    gd (ix v7_57 9) <|
    gd (ix (v7_57 - (1 : Int32)) 9) <|
    gd (ix v7_57 9) <|
    lt1 ((v7_57 + (-1 : Int32))) <| fun v7n8 =>
    rc57 v7n8 ((vp_updL chances_57 v7_57.toNatClampNeg (((chances_57 v7_57.toNatClampNeg) * (((100 : Int32) - v6n6)).toInt64) + ((chances_57 (v7_57 - (1 : Int32)).toNatClampNeg) * v6n6.toInt64))))
def s_X11_justFall_18 (p1 : Int32) (p3 : Int32) (p4 : Int32) (course_rule_size : Int32) (course_kinds : (Nat → Int32)) (course_heights : (Nat → Int32)) (course_feet : (Nat → Int32)) (course_digits : (Nat → Int32)) (course_plans : (Nat → Int32)) (rule_codes : (Nat → Int32)) (kk18 : (Nat → Int32) → (Nat → Int32) → (Nat → Int64) → Option (Int64 × (Nat → Int32) × (Nat → Int32) × (Nat → Int64))) (rc18 : Int32 → (Nat → Int32) → (Nat → Int32) → (Nat → Int64) → Option (Int64 × (Nat → Int32) × (Nat → Int32) × (Nat → Int64))) (v5_18 : Int32) (rule_stack_18 : (Nat → Int32)) (rule_things_18 : (Nat → Int32)) (chances_18 : (Nat → Int64)) : Option (Int64 × (Nat → Int32) × (Nat → Int32) × (Nat → Int64)) :=
  if p3 ≤ v5_18 then
    kk18 rule_stack_18 rule_things_18 chances_18
  else
    bd1 (f_X1_letterAt (0 : Int32) p1 course_plans) <| fun rn2 =>
    bd3 (f_X1_poleOdds v5_18 p1 rn2 course_rule_size course_kinds course_heights course_feet course_digits rule_codes rule_stack_18 rule_things_18) <| fun rn3 rule_stackn4 rule_thingsn5 =>
    lt1 ((if (rn3 + p4) < (100 : Int32) then (rn3 + p4) else (100 : Int32))) <| fun v6n6 =>
    ml2 (s_X11_justFall_57 v6n6 (k_X11_justFall_57 rc18 v5_18 rule_stackn4 rule_thingsn5 v6n6)) zN (6 : Int32) chances_18
def f_X11_justFall (p1 : Int32) (p2 : Int32) (p3 : Int32) (p4 : Int32) (course_rule_size : Int32) (course_kinds : (Nat → Int32)) (course_heights : (Nat → Int32)) (course_feet : (Nat → Int32)) (course_digits : (Nat → Int32)) (course_plans : (Nat → Int32)) (rule_codes : (Nat → Int32)) (rule_stack : (Nat → Int32)) (rule_things : (Nat → Int32)) (chances : (Nat → Int64)) : Option (Int64 × (Nat → Int32) × (Nat → Int32) × (Nat → Int64)) :=
  bd1 (f_J7_fill_d0a16_chances (0 : Int64) chances) <| fun chancesn1 =>
  gd (ix (0 : Int32) 9) <|
  ml4 (s_X11_justFall_18 p1 p3 p4 course_rule_size course_kinds course_heights course_feet course_digits course_plans rule_codes (k_X11_justFall_18 p2)) zN (0 : Int32) rule_stack rule_things ((vp_updL chancesn1 (0 : Int32).toNatClampNeg (1 : Int64)))
