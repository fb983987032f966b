def f_X8_store_kept (p1 : Int32) (rounds_size : Int32) (kept_slots : Int32) (rounds_riders : (Nat → Int32)) (rounds_horses : (Nat → Int32)) (rounds_faults : (Nat → Int32)) (rounds_tenths : (Nat → Int32)) (kept_cells : (Nat → Int32)) (kept_sizes : (Nat → Int32)) : Option (Int32 × (Nat → Int32) × (Nat → Int32)) :=
  if p1 < 0 then
    some ((0 : Int32), kept_cells, kept_sizes)
  else
    if p1 < kept_slots then
      lt1 ((p1 * (48 : Int32))) <| fun v3n1 =>
      gd (cpok (0 : Int32) v3n1 (12 : Int32) 12 96) <|
      gd (cpok (0 : Int32) (v3n1 + (12 : Int32)) (12 : Int32) 12 96) <|
      gd (cpok (0 : Int32) (v3n1 + (24 : Int32)) (12 : Int32) 12 96) <|
      gd (cpok (0 : Int32) (v3n1 + (36 : Int32)) (12 : Int32) 12 96) <|
      gd (ix p1 2) <|
      some ((1 : Int32), (va_cpy rounds_tenths ((va_cpy rounds_faults ((va_cpy rounds_horses ((va_cpy rounds_riders kept_cells (0 : Int32).toNatClampNeg v3n1.toNatClampNeg (12 : Int32).toNatClampNeg)) (0 : Int32).toNatClampNeg (v3n1 + (12 : Int32)).toNatClampNeg (12 : Int32).toNatClampNeg)) (0 : Int32).toNatClampNeg (v3n1 + (24 : Int32)).toNatClampNeg (12 : Int32).toNatClampNeg)) (0 : Int32).toNatClampNeg (v3n1 + (36 : Int32)).toNatClampNeg (12 : Int32).toNatClampNeg), (upd kept_sizes p1.toNatClampNeg rounds_size))
    else
      some ((0 : Int32), kept_cells, kept_sizes)
def f_X11_keep (p1 : Int32) (rounds_size : Int32) (kept_slots : Int32) (rounds_riders : (Nat → Int32)) (rounds_horses : (Nat → Int32)) (rounds_faults : (Nat → Int32)) (rounds_tenths : (Nat → Int32)) (kept_cells : (Nat → Int32)) (kept_sizes : (Nat → Int32)) : Option (Int32 × (Nat → Int32) × (Nat → Int32)) :=
  bd3 (f_X8_store_kept p1 rounds_size kept_slots rounds_riders rounds_horses rounds_faults rounds_tenths kept_cells kept_sizes) <| fun rn1 kept_cellsn2 kept_sizesn3 =>
  gd (bit rn1) <|
  some (rn1, kept_cellsn2, kept_sizesn3)
def f_X11_last (p1 : Int32) (numbers_size : Int32) (course_fences : Int32) (course_horseCount : Int32) (course_planCount : Int32) (course_allowed : Int32) (course_rule_size : Int32) (rounds_size : Int32) (course_kinds : (Nat → Int32)) (course_heights : (Nat → Int32)) (course_feet : (Nat → Int32)) (course_digits : (Nat → Int32)) (course_plans : (Nat → Int32)) (rule_codes : (Nat → Int32)) (rule_stack : (Nat → Int32)) (rule_things : (Nat → Int32)) (rounds_faults : (Nat → Int32)) (rounds_tenths : (Nat → Int32)) (rounds_money : (Nat → Int32)) (numbers_told : (Nat → Int64)) : Option (Int32 × Int32 × (Nat → Int32) × (Nat → Int32) × (Nat → Int64)) :=
  bd1 (f_X1_hasHorse p1 course_horseCount) <| fun rn1 =>
  if rn1 = 0 then
    some ((-1 : Int32), numbers_size, rule_stack, rule_things, numbers_told)
  else
    if course_planCount = 0 then
      some ((-2 : Int32), numbers_size, rule_stack, rule_things, numbers_told)
    else
      bd3 (f_X11_bestPlan p1 course_fences course_planCount course_allowed course_rule_size rounds_size course_kinds course_heights course_feet course_digits course_plans rule_codes rule_stack rule_things rounds_faults rounds_tenths rounds_money) <| fun rn2 rule_stackn3 rule_thingsn4 =>
      bd1 (f_X6_start numbers_size) <| fun numbers_sizen5 =>
      bd3 (f_X11_meanOf p1 rn2 course_fences course_allowed course_rule_size rounds_size course_kinds course_heights course_feet course_digits course_plans rule_codes rule_stackn3 rule_thingsn4 rounds_faults rounds_tenths rounds_money) <| fun rn6 rule_stackn7 rule_thingsn8 =>
      bd2 (f_X6_put (rn6.toInt64) numbers_sizen5 numbers_told) <| fun numbers_sizen9 numbers_toldn10 =>
      some (rn2, numbers_sizen9, rule_stackn7, rule_thingsn8, numbers_toldn10)
def k_X11_law_120 (numbers_size : Int32) (rounds_size : Int32) (rounds_tenths : (Nat → Int32)) (numbers_told : (Nat → Int64)) (newFaults_26x : (Nat → Int32)) (v3_120x : Int32) : Option (Int32 × Int32 × (Nat → Int32) × (Nat → Int64)) :=
  bd2 (f_X10_tellOrder_newFaults numbers_size rounds_size rounds_tenths newFaults_26x numbers_told) <| fun numbers_sizen1 numbers_toldn2 =>
  some (v3_120x, numbers_sizen1, newFaults_26x, numbers_toldn2)
def s_X11_law_120 (rounds_size : Int32) (rounds_faults : (Nat → Int32)) (rounds_tenths : (Nat → Int32)) (newFaults_26x : (Nat → Int32)) (kk120 : Int32 → Option (Int32 × Int32 × (Nat → Int32) × (Nat → Int64))) (rc120 : Int32 → Int32 → Option (Int32 × Int32 × (Nat → Int32) × (Nat → Int64))) (v3_120 : Int32) (v4_120 : Int32) : Option (Int32 × Int32 × (Nat → Int32) × (Nat → Int64)) :=
  if rounds_size ≤ v4_120 then
    kk120 v3_120
  else
    bd1 (f_X10_placeOf_newFaults v4_120 rounds_size rounds_tenths newFaults_26x) <| fun rn3 =>
    bd1 (f_X10_placeOf_rounds_faults v4_120 rounds_size rounds_faults rounds_tenths) <| fun rn4 =>
    if rn3 = rn4 then
      lt1 ((v3_120 + (0 : Int32))) <| fun v3n5 =>
      lt1 ((v4_120 + (1 : Int32))) <| fun v4n6 =>
      rc120 v3n5 v4n6
    else
      lt1 ((v3_120 + (1 : Int32))) <| fun v3n7 =>
      lt1 ((v4_120 + (1 : Int32))) <| fun v4n8 =>
      rc120 v3n7 v4n8
def k_X11_law_26 (numbers_size : Int32) (rounds_size : Int32) (rounds_faults : (Nat → Int32)) (rounds_tenths : (Nat → Int32)) (numbers_told : (Nat → Int64)) (newFaults_26x : (Nat → Int32)) : Option (Int32 × Int32 × (Nat → Int32) × (Nat → Int64)) :=
  ml2 (s_X11_law_120 rounds_size rounds_faults rounds_tenths newFaults_26x (k_X11_law_120 numbers_size rounds_size rounds_tenths numbers_told newFaults_26x)) zN (0 : Int32) (0 : Int32)
def s_X11_law_26 (p1 : Int32) (p2 : Int32) (course_allowed : Int32) (rounds_size : Int32) (rounds_faults : (Nat → Int32)) (rounds_tenths : (Nat → Int32)) (kk26 : (Nat → Int32) → Option (Int32 × Int32 × (Nat → Int32) × (Nat → Int64))) (rc26 : Int32 → (Nat → Int32) → Option (Int32 × Int32 × (Nat → Int32) × (Nat → Int64))) (v3_26 : Int32) (newFaults_26 : (Nat → Int32)) : Option (Int32 × Int32 × (Nat → Int32) × (Nat → Int64)) :=
  if rounds_size ≤ v3_26 then
    kk26 newFaults_26
  else
    gd (ix v3_26 12) <|
    bd1 (f_X11_begun ((rounds_tenths v3_26.toNatClampNeg)) course_allowed (40 : Int32)) <| fun rn9 =>
    gd (ix v3_26 12) <|
    lt1 ((if (0 : Int32) < ((rounds_faults v3_26.toNatClampNeg) - rn9) then ((rounds_faults v3_26.toNatClampNeg) - rn9) else (0 : Int32))) <| fun v5n10 =>
    gd (ix v3_26 12) <|
    bd1 (f_X11_begun ((rounds_tenths v3_26.toNatClampNeg)) course_allowed p1) <| fun rn11 =>
    gd (ix v3_26 12) <|
    lt1 ((v3_26 + (1 : Int32))) <| fun v3n12 =>
    rc26 v3n12 ((upd newFaults_26 v3_26.toNatClampNeg (v5n10 + (p2 * rn11))))
def f_X11_law (p1 : Int32) (p2 : Int32) (numbers_size : Int32) (course_allowed : Int32) (rounds_size : Int32) (rounds_faults : (Nat → Int32)) (rounds_tenths : (Nat → Int32)) (newFaults : (Nat → Int32)) (numbers_told : (Nat → Int64)) : Option (Int32 × Int32 × (Nat → Int32) × (Nat → Int64)) :=
  if p1 < (1 : Int32) then
    some ((-1 : Int32), numbers_size, newFaults, numbers_told)
  else
    if (999 : Int32) < p1 then
      some ((-1 : Int32), numbers_size, newFaults, numbers_told)
    else
      if p2 < 0 then
        some ((-1 : Int32), numbers_size, newFaults, numbers_told)
      else
        if p2 ≤ (9 : Int32) then
          ml2 (s_X11_law_26 p1 p2 course_allowed rounds_size rounds_faults rounds_tenths (k_X11_law_26 numbers_size rounds_size rounds_faults rounds_tenths numbers_told)) zN (0 : Int32) newFaults
        else
          some ((-1 : Int32), numbers_size, newFaults, numbers_told)
def f_X11_tellDrawn (numbers_size : Int32) (drawn_state : Int32) (drawn_tenths : Int32) (drawn_refused : Int32) (drawn_fallen : Int32) (numbers_told : (Nat → Int64)) : Option (Int32 × (Nat → Int64)) :=
  bd1 (f_X6_start numbers_size) <| fun numbers_sizen1 =>
  bd2 (f_X6_put (drawn_tenths.toInt64) numbers_sizen1 numbers_told) <| fun numbers_sizen2 numbers_toldn3 =>
  bd2 (f_X6_put (drawn_refused.toInt64) numbers_sizen2 numbers_toldn3) <| fun numbers_sizen4 numbers_toldn5 =>
  bd2 (f_X6_put (drawn_fallen.toInt64) numbers_sizen4 numbers_toldn5) <| fun numbers_sizen6 numbers_toldn7 =>
  bd2 (f_X6_put (drawn_state.toInt64) numbers_sizen6 numbers_toldn7) <| fun numbers_sizen8 numbers_toldn9 =>
  some (numbers_sizen8, numbers_toldn9)
def f_X11_look (p1 : Int32) (p2 : Int32) (p3 : Int32) (numbers_size : Int32) (course_fences : Int32) (course_horseCount : Int32) (course_planCount : Int32) (course_allowed : Int32) (course_rule_size : Int32) (drawn_state : Int32) (drawn_faults : Int32) (drawn_tenths : Int32) (drawn_refused : Int32) (drawn_fallen : Int32) (course_kinds : (Nat → Int32)) (course_heights : (Nat → Int32)) (course_feet : (Nat → Int32)) (course_digits : (Nat → Int32)) (course_plans : (Nat → Int32)) (rule_codes : (Nat → Int32)) (rule_stack : (Nat → Int32)) (rule_things : (Nat → Int32)) (numbers_told : (Nat → Int64)) : Option (Int32 × Int32 × Int32 × Int32 × Int32 × Int32 × Int32 × (Nat → Int32) × (Nat → Int32) × (Nat → Int64)) :=
  bd1 (f_X1_hasHorse p1 course_horseCount) <| fun rn1 =>
  if rn1 = 0 then
    some ((-1 : Int32), numbers_size, drawn_state, drawn_faults, drawn_tenths, drawn_refused, drawn_fallen, rule_stack, rule_things, numbers_told)
  else
    bd1 (f_X1_hasPlan p2 course_planCount) <| fun rn2 =>
    if rn2 = 0 then
      some ((-1 : Int32), numbers_size, drawn_state, drawn_faults, drawn_tenths, drawn_refused, drawn_fallen, rule_stack, rule_things, numbers_told)
    else
      bd7 (f_X2_draw p1 p2 p3 course_fences course_allowed course_rule_size drawn_state drawn_faults drawn_tenths drawn_refused drawn_fallen course_kinds course_heights course_feet course_digits course_plans rule_codes rule_stack rule_things) <| fun drawn_staten3 drawn_faultsn4 drawn_tenthsn5 drawn_refusedn6 drawn_fallenn7 rule_stackn8 rule_thingsn9 =>
      bd2 (f_X11_tellDrawn numbers_size drawn_staten3 drawn_tenthsn5 drawn_refusedn6 drawn_fallenn7 numbers_told) <| fun numbers_sizen10 numbers_toldn11 =>
      some (drawn_faultsn4, numbers_sizen10, drawn_staten3, drawn_faultsn4, drawn_tenthsn5, drawn_refusedn6, drawn_fallenn7, rule_stackn8, rule_thingsn9, numbers_toldn11)
def k_X11_lot_37 (numbers_size : Int32) (numbers_told : (Nat → Int64)) (text_sizen2 : Int32) (text_limitn3 : Int32) (text_atn4 : Int32) (play_playersn5 : Int32) (play_namedn6 : (Nat → Int32)) (play_plansn7 : Int32) (play_faultsn8 : (Nat → Int32)) (play_tenthsn9 : (Nat → Int32)) (play_placesn10 : (Nat → Int32)) (v2_37x : Int32) (v3_37x : Int64) (play_firstPlan_37x : Int32) (rule_stack_37x : (Nat → Int32)) (rule_things_37x : (Nat → Int32)) (play_clears_37x : (Nat → Int32)) (play_ends_37x : (Nat → Int32)) (play_worth_37x : (Nat → Int64)) (play_trial_37x : (Nat → Int64)) : Option (Int32 × Int32 × Int32 × Int32 × Int32 × Int32 × Int32 × Int32 × (Nat → Int32) × (Nat → Int32) × (Nat → Int32) × (Nat → Int32) × (Nat → Int32) × (Nat → Int32) × (Nat → Int32) × (Nat → Int32) × (Nat → Int64) × (Nat → Int64) × (Nat → Int64)) :=
  bd1 (f_X6_start numbers_size) <| fun numbers_sizen11 =>
  bd1 (f_X3_scale play_playersn5) <| fun rn12 =>
  bd2 (f_X6_putFraction v3_37x rn12 numbers_sizen11 numbers_told) <| fun numbers_sizen13 numbers_toldn14 =>
  some (v2_37x, text_sizen2, text_limitn3, text_atn4, numbers_sizen13, play_playersn5, play_plansn7, play_firstPlan_37x, rule_stack_37x, rule_things_37x, play_namedn6, play_faultsn8, play_tenthsn9, play_placesn10, play_clears_37x, play_ends_37x, numbers_toldn14, play_worth_37x, play_trial_37x)
def s_X11_lot_37 (course_fences : Int32) (course_rule_size : Int32) (course_kinds : (Nat → Int32)) (course_heights : (Nat → Int32)) (course_feet : (Nat → Int32)) (course_digits : (Nat → Int32)) (course_plans : (Nat → Int32)) (rule_codes : (Nat → Int32)) (rounds_money : (Nat → Int32)) (play_playersn5 : Int32) (play_namedn6 : (Nat → Int32)) (play_plansn7 : Int32) (play_faultsn8 : (Nat → Int32)) (play_tenthsn9 : (Nat → Int32)) (play_placesn10 : (Nat → Int32)) (kk37 : Int32 → Int64 → Int32 → (Nat → Int32) → (Nat → Int32) → (Nat → Int32) → (Nat → Int32) → (Nat → Int64) → (Nat → Int64) → Option (Int32 × Int32 × Int32 × Int32 × Int32 × Int32 × Int32 × Int32 × (Nat → Int32) × (Nat → Int32) × (Nat → Int32) × (Nat → Int32) × (Nat → Int32) × (Nat → Int32) × (Nat → Int32) × (Nat → Int32) × (Nat → Int64) × (Nat → Int64) × (Nat → Int64))) (rc37 : Int32 → Int64 → Int32 → Int32 → (Nat → Int32) → (Nat → Int32) → (Nat → Int32) → (Nat → Int32) → (Nat → Int64) → (Nat → Int64) → Option (Int32 × Int32 × Int32 × Int32 × Int32 × Int32 × Int32 × Int32 × (Nat → Int32) × (Nat → Int32) × (Nat → Int32) × (Nat → Int32) × (Nat → Int32) × (Nat → Int32) × (Nat → Int32) × (Nat → Int32) × (Nat → Int64) × (Nat → Int64) × (Nat → Int64))) (v2_37 : Int32) (v3_37 : Int64) (v5_37 : Int32) (play_firstPlan_37 : Int32) (rule_stack_37 : (Nat → Int32)) (rule_things_37 : (Nat → Int32)) (play_clears_37 : (Nat → Int32)) (play_ends_37 : (Nat → Int32)) (play_worth_37 : (Nat → Int64)) (play_trial_37 : (Nat → Int64)) : Option (Int32 × Int32 × Int32 × Int32 × Int32 × Int32 × Int32 × Int32 × (Nat → Int32) × (Nat → Int32) × (Nat → Int32) × (Nat → Int32) × (Nat → Int32) × (Nat → Int32) × (Nat → Int32) × (Nat → Int32) × (Nat → Int64) × (Nat → Int64) × (Nat → Int64)) :=
  if play_playersn5 ≤ v5_37 then
    kk37 v2_37 v3_37 play_firstPlan_37 rule_stack_37 rule_things_37 play_clears_37 play_ends_37 play_worth_37 play_trial_37
  else
    bd7 (f_X3_start v5_37 course_fences course_rule_size play_playersn5 play_plansn7 play_firstPlan_37 course_kinds course_heights course_feet course_digits course_plans rule_codes rule_stack_37 rule_things_37 rounds_money play_namedn6 play_faultsn8 play_tenthsn9 play_placesn10 play_clears_37 play_ends_37 play_worth_37 play_trial_37) <| fun play_firstPlann15 rule_stackn16 rule_thingsn17 play_clearsn18 play_endsn19 play_worthn20 play_trialn21 =>
    bd1 (f_X3_won v5_37 play_playersn5 play_worthn20) <| fun rn22 =>
    if (lg_cmp rn22 v3_37) ≤ 0 then
      lt1 ((v5_37 + (1 : Int32))) <| fun v5n23 =>
      rc37 v2_37 v3_37 v5n23 play_firstPlann15 rule_stackn16 rule_thingsn17 play_clearsn18 play_endsn19 play_worthn20 play_trialn21
    else
      bd1 (f_X3_won v5_37 play_playersn5 play_worthn20) <| fun rn24 =>
      lt1 ((v5_37 + (1 : Int32))) <| fun v5n25 =>
      rc37 v5_37 rn24 v5n25 play_firstPlann15 rule_stackn16 rule_thingsn17 play_clearsn18 play_endsn19 play_worthn20 play_trialn21
def f_X11_lot (text_size : Int32) (text_limit : Int32) (text_at : Int32) (numbers_size : Int32) (course_fences : Int32) (course_horseCount : Int32) (course_planCount : Int32) (course_allowed : Int32) (course_rule_size : Int32) (rounds_size : Int32) (play_players : Int32) (play_plans : Int32) (play_firstPlan : Int32) (text_signs : (Nat → Int32)) (course_kinds : (Nat → Int32)) (course_heights : (Nat → Int32)) (course_feet : (Nat → Int32)) (course_digits : (Nat → Int32)) (course_plans : (Nat → Int32)) (rule_codes : (Nat → Int32)) (rule_stack : (Nat → Int32)) (rule_things : (Nat → Int32)) (rounds_faults : (Nat → Int32)) (rounds_tenths : (Nat → Int32)) (rounds_money : (Nat → Int32)) (play_named : (Nat → Int32)) (play_faults : (Nat → Int32)) (play_tenths : (Nat → Int32)) (play_places : (Nat → Int32)) (play_clears : (Nat → Int32)) (play_ends : (Nat → Int32)) (numbers_told : (Nat → Int64)) (play_worth : (Nat → Int64)) (play_trial : (Nat → Int64)) : Option (Int32 × Int32 × Int32 × Int32 × Int32 × Int32 × Int32 × Int32 × (Nat → Int32) × (Nat → Int32) × (Nat → Int32) × (Nat → Int32) × (Nat → Int32) × (Nat → Int32) × (Nat → Int32) × (Nat → Int32) × (Nat → Int64) × (Nat → Int64) × (Nat → Int64)) :=
  bd6 (f_X11_readPlayers (2 : Int32) (3 : Int32) text_size text_limit text_at course_horseCount course_planCount play_players text_signs play_named) <| fun rn1 text_sizen2 text_limitn3 text_atn4 play_playersn5 play_namedn6 =>
  if 0 ≤ rn1 then
    bd4 (f_X3_begin course_fences course_planCount course_allowed rounds_size play_plans course_kinds course_feet course_plans rounds_faults rounds_tenths play_faults play_tenths play_places) <| fun play_plansn7 play_faultsn8 play_tenthsn9 play_placesn10 =>
    ml10 (s_X11_lot_37 course_fences course_rule_size course_kinds course_heights course_feet course_digits course_plans rule_codes rounds_money play_playersn5 play_namedn6 play_plansn7 play_faultsn8 play_tenthsn9 play_placesn10 (k_X11_lot_37 numbers_size numbers_told text_sizen2 text_limitn3 text_atn4 play_playersn5 play_namedn6 play_plansn7 play_faultsn8 play_tenthsn9 play_placesn10)) zN (0 : Int32) (-1 : Int64) (0 : Int32) play_firstPlan rule_stack rule_things play_clears play_ends play_worth play_trial
  else
    some (rn1, text_sizen2, text_limitn3, text_atn4, numbers_size, play_playersn5, play_plans, play_firstPlan, rule_stack, rule_things, play_namedn6, play_faults, play_tenths, play_places, play_clears, play_ends, numbers_told, play_worth, play_trial)
def f_X11_mean (p1 : Int32) (p2 : Int32) (numbers_size : Int32) (course_fences : Int32) (course_horseCount : Int32) (course_planCount : Int32) (course_allowed : Int32) (course_rule_size : Int32) (rounds_size : Int32) (course_kinds : (Nat → Int32)) (course_heights : (Nat → Int32)) (course_feet : (Nat → Int32)) (course_digits : (Nat → Int32)) (course_plans : (Nat → Int32)) (rule_codes : (Nat → Int32)) (rule_stack : (Nat → Int32)) (rule_things : (Nat → Int32)) (rounds_faults : (Nat → Int32)) (rounds_tenths : (Nat → Int32)) (rounds_money : (Nat → Int32)) (numbers_told : (Nat → Int64)) : Option (Int32 × Int32 × (Nat → Int32) × (Nat → Int32) × (Nat → Int64)) :=
  bd1 (f_X1_hasHorse p1 course_horseCount) <| fun rn1 =>
  if rn1 = 0 then
    some ((-1 : Int32), numbers_size, rule_stack, rule_things, numbers_told)
  else
    bd1 (f_X1_hasPlan p2 course_planCount) <| fun rn2 =>
    if rn2 = 0 then
      some ((-1 : Int32), numbers_size, rule_stack, rule_things, numbers_told)
    else
      bd1 (f_X6_start numbers_size) <| fun numbers_sizen3 =>
      bd1 (f_X11_thoughtMoney p2 (0 : Int32) course_fences course_allowed rounds_size course_kinds course_feet course_plans rounds_faults rounds_tenths rounds_money) <| fun rn4 =>
      bd2 (f_X6_put (rn4.toInt64) numbers_sizen3 numbers_told) <| fun numbers_sizen5 numbers_toldn6 =>
      bd1 (f_X11_thoughtMoney p2 (4 : Int32) course_fences course_allowed rounds_size course_kinds course_feet course_plans rounds_faults rounds_tenths rounds_money) <| fun rn7 =>
      bd2 (f_X6_put (rn7.toInt64) numbers_sizen5 numbers_toldn6) <| fun numbers_sizen8 numbers_toldn9 =>
      bd3 (f_X11_meanOf p1 p2 course_fences course_allowed course_rule_size rounds_size course_kinds course_heights course_feet course_digits course_plans rule_codes rule_stack rule_things rounds_faults rounds_tenths rounds_money) <| fun rn10 rule_stackn11 rule_thingsn12 =>
      some (rn10, numbers_sizen8, rule_stackn11, rule_thingsn12, numbers_toldn9)
def f_X11_move (p1 : Int32) (p2 : Int32) (course_fences : Int32) (course_feet : (Nat → Int32)) : Option (Int32 × (Nat → Int32)) :=
  bd1 (f_X1_hasFence p1 course_fences) <| fun rn1 =>
  if rn1 = 0 then
    some ((-1 : Int32), course_feet)
  else
    if p2 < (10 : Int32) then
      some ((-1 : Int32), course_feet)
    else
      if p2 ≤ (99 : Int32) then
        gd (ix p1 8) <|
        lt1 ((course_feet p1.toNatClampNeg)) <| fun v3n2 =>
        gd (ix p1 8) <|
        some (v3n2, (upd course_feet p1.toNatClampNeg p2))
      else
        some ((-1 : Int32), course_feet)
def k_X5_countExplained_4 (v1_4x : Int32) : Option Int32 :=
  some v1_4x
def s_X5_countExplained_4 (rounds_size : Int32) (rounds_riders : (Nat → Int32)) (rounds_horses : (Nat → Int32)) (kk4 : Int32 → Option Int32) (rc4 : Int32 → Int32 → Option Int32) (v1_4 : Int32) (v2_4 : Int32) : Option Int32 :=
  if rounds_size ≤ v2_4 then
    kk4 v1_4
  else
    gd (ix v2_4 12) <|
    if (3 : Int32) ≤ (rounds_horses v2_4.toNatClampNeg) then
      lt1 ((v1_4 + (0 : Int32))) <| fun v1n1 =>
      lt1 ((v2_4 + (1 : Int32))) <| fun v2n2 =>
      rc4 v1n1 v2n2
    else
      gd (ix v2_4 12) <|
      if (3 : Int32) ≤ (rounds_riders v2_4.toNatClampNeg) then
        lt1 ((v1_4 + (0 : Int32))) <| fun v1n3 =>
        lt1 ((v2_4 + (1 : Int32))) <| fun v2n4 =>
        rc4 v1n3 v2n4
      else
        lt1 ((v1_4 + (1 : Int32))) <| fun v1n5 =>
        lt1 ((v2_4 + (1 : Int32))) <| fun v2n6 =>
        rc4 v1n5 v2n6
def f_X5_countExplained (rounds_size : Int32) (rounds_riders : (Nat → Int32)) (rounds_horses : (Nat → Int32)) : Option Int32 :=
  ml2 (s_X5_countExplained_4 rounds_size rounds_riders rounds_horses (k_X5_countExplained_4)) zN (0 : Int32) (0 : Int32)
def k_X5_fitHorse_5 (v3_5x : Int32) (blame_trial_5x : (Nat → Int32)) : Option (Int32 × (Nat → Int32)) :=
  some (v3_5x, blame_trial_5x)
def k_X5_fitHorse_17 (p2 : Int32) (rc5 : Int32 → Int32 → (Nat → Int32) → Option (Int32 × (Nat → Int32))) (v3_5 : Int32) (v4_5 : Int32) (blame_trial_5 : (Nat → Int32)) (v5_17x : Int32) : Option (Int32 × (Nat → Int32)) :=
  if v3_5 = (-1 : Int32) then
    gd (ix ((3 : Int32) + p2) 6) <|
    lt1 ((v4_5 + (1 : Int32))) <| fun v4n1 =>
    rc5 v5_17x v4n1 ((upd blame_trial_5 ((3 : Int32) + p2).toNatClampNeg v4_5))
  else
    if v3_5 ≤ v5_17x then
      lt1 ((v4_5 + (1 : Int32))) <| fun v4n2 =>
      rc5 v3_5 v4n2 blame_trial_5
    else
      gd (ix ((3 : Int32) + p2) 6) <|
      lt1 ((v4_5 + (1 : Int32))) <| fun v4n3 =>
      rc5 v5_17x v4n3 ((upd blame_trial_5 ((3 : Int32) + p2).toNatClampNeg v4_5))
def s_X5_fitHorse_17 (p2 : Int32) (rounds_size : Int32) (rounds_riders : (Nat → Int32)) (rounds_horses : (Nat → Int32)) (rounds_faults : (Nat → Int32)) (v4_5 : Int32) (blame_trial_5 : (Nat → Int32)) (kk17 : Int32 → Option (Int32 × (Nat → Int32))) (rc17 : Int32 → Int32 → Option (Int32 × (Nat → Int32))) (v5_17 : Int32) (v6_17 : Int32) : Option (Int32 × (Nat → Int32)) :=
  if rounds_size ≤ v6_17 then
    kk17 v5_17
  else
    gd (ix v6_17 12) <|
    if (rounds_horses v6_17.toNatClampNeg) = p2 then
      gd (ix v6_17 12) <|
      if (3 : Int32) ≤ (rounds_riders v6_17.toNatClampNeg) then
        lt1 ((v6_17 + (1 : Int32))) <| fun v6n5 =>
        rc17 v5_17 v6n5
      else
        gd (ix v6_17 12) <|
        gd (ix v6_17 12) <|
        gd (ix (rounds_riders v6_17.toNatClampNeg) 6) <|
        lt1 ((v5_17 + (if 0 ≤ (((rounds_faults v6_17.toNatClampNeg) - (blame_trial_5 (rounds_riders v6_17.toNatClampNeg).toNatClampNeg)) - v4_5) then (((rounds_faults v6_17.toNatClampNeg) - (blame_trial_5 (rounds_riders v6_17.toNatClampNeg).toNatClampNeg)) - v4_5) else 0 - (((rounds_faults v6_17.toNatClampNeg) - (blame_trial_5 (rounds_riders v6_17.toNatClampNeg).toNatClampNeg)) - v4_5)))) <| fun v5n6 =>
        lt1 ((v6_17 + (1 : Int32))) <| fun v6n7 =>
        rc17 v5n6 v6n7
    else
      lt1 ((v6_17 + (1 : Int32))) <| fun v6n4 =>
      rc17 v5_17 v6n4
def s_X5_fitHorse_5 (p2 : Int32) (rounds_size : Int32) (rounds_riders : (Nat → Int32)) (rounds_horses : (Nat → Int32)) (rounds_faults : (Nat → Int32)) (kk5 : Int32 → (Nat → Int32) → Option (Int32 × (Nat → Int32))) (rc5 : Int32 → Int32 → (Nat → Int32) → Option (Int32 × (Nat → Int32))) (v3_5 : Int32) (v4_5 : Int32) (blame_trial_5 : (Nat → Int32)) : Option (Int32 × (Nat → Int32)) :=
  if (5 : Int32) ≤ v4_5 then
    kk5 v3_5 blame_trial_5
  else
    ml2 (s_X5_fitHorse_17 p2 rounds_size rounds_riders rounds_horses rounds_faults v4_5 blame_trial_5 (k_X5_fitHorse_17 p2 rc5 v3_5 v4_5 blame_trial_5)) zN (0 : Int32) (0 : Int32)
def f_X5_fitHorse (p2 : Int32) (rounds_size : Int32) (rounds_riders : (Nat → Int32)) (rounds_horses : (Nat → Int32)) (rounds_faults : (Nat → Int32)) (blame_trial : (Nat → Int32)) : Option (Int32 × (Nat → Int32)) :=
  ml3 (s_X5_fitHorse_5 p2 rounds_size rounds_riders rounds_horses rounds_faults (k_X5_fitHorse_5)) zN (-1 : Int32) (0 : Int32) blame_trial
def k_X5_explain_117 (rounds_size : Int32) (rounds_riders : (Nat → Int32)) (rounds_horses : (Nat → Int32)) (v3_5x : Int32) (blame_trial_5x : (Nat → Int32)) (blame_best_5x : (Nat → Int32)) (numbers_size_117x : Int32) (numbers_told_117x : (Nat → Int64)) : Option (Int32 × Int32 × (Nat → Int32) × (Nat → Int32) × (Nat → Int64)) :=
  bd1 (f_X5_countExplained rounds_size rounds_riders rounds_horses) <| fun rn2 =>
  bd2 (f_X6_put (rn2.toInt64) numbers_size_117x numbers_told_117x) <| fun numbers_sizen3 numbers_toldn4 =>
  some (v3_5x, numbers_sizen3, blame_trial_5x, blame_best_5x, numbers_toldn4)
def s_X5_explain_117 (blame_best_5x : (Nat → Int32)) (kk117 : Int32 → (Nat → Int64) → Option (Int32 × Int32 × (Nat → Int32) × (Nat → Int32) × (Nat → Int64))) (rc117 : Int32 → Int32 → (Nat → Int64) → Option (Int32 × Int32 × (Nat → Int32) × (Nat → Int32) × (Nat → Int64))) (v4_117 : Int32) (numbers_size_117 : Int32) (numbers_told_117 : (Nat → Int64)) : Option (Int32 × Int32 × (Nat → Int32) × (Nat → Int32) × (Nat → Int64)) :=
  if (6 : Int32) ≤ v4_117 then
    kk117 numbers_size_117 numbers_told_117
  else
    gd (ix v4_117 6) <|
    bd2 (f_X6_put (((blame_best_5x v4_117.toNatClampNeg)).toInt64) numbers_size_117 numbers_told_117) <| fun numbers_sizen5 numbers_toldn6 =>
    lt1 ((v4_117 + (1 : Int32))) <| fun v4n7 =>
    rc117 v4n7 numbers_sizen5 numbers_toldn6
def k_X5_explain_5 (numbers_size : Int32) (rounds_size : Int32) (rounds_riders : (Nat → Int32)) (rounds_horses : (Nat → Int32)) (numbers_told : (Nat → Int64)) (v3_5x : Int32) (blame_trial_5x : (Nat → Int32)) (blame_best_5x : (Nat → Int32)) : Option (Int32 × Int32 × (Nat → Int32) × (Nat → Int32) × (Nat → Int64)) :=
  bd1 (f_X6_start numbers_size) <| fun numbers_sizen1 =>
  ml3 (s_X5_explain_117 blame_best_5x (k_X5_explain_117 rounds_size rounds_riders rounds_horses v3_5x blame_trial_5x blame_best_5x)) zN (0 : Int32) numbers_sizen1 numbers_told
def k_X5_explain_51 (rc5 : Int32 → Int32 → (Nat → Int32) → (Nat → Int32) → Option (Int32 × Int32 × (Nat → Int32) × (Nat → Int32) × (Nat → Int64))) (v3_5 : Int32) (v4_5 : Int32) (blame_best_5 : (Nat → Int32)) (v5_51x : Int32) (blame_trial_51x : (Nat → Int32)) : Option (Int32 × Int32 × (Nat → Int32) × (Nat → Int32) × (Nat → Int64)) :=
  if v3_5 = (-1 : Int32) then
    gd (cpok (0 : Int32) (0 : Int32) (6 : Int32) 6 6) <|
    lt1 ((v4_5 + (1 : Int32))) <| fun v4n8 =>
    rc5 v5_51x v4n8 blame_trial_51x ((va_cpy blame_trial_51x blame_best_5 (0 : Int32).toNatClampNeg (0 : Int32).toNatClampNeg (6 : Int32).toNatClampNeg))
  else
    if v3_5 ≤ v5_51x then
      lt1 ((v4_5 + (1 : Int32))) <| fun v4n9 =>
      rc5 v3_5 v4n9 blame_trial_51x blame_best_5
    else
      gd (cpok (0 : Int32) (0 : Int32) (6 : Int32) 6 6) <|
      lt1 ((v4_5 + (1 : Int32))) <| fun v4n10 =>
      rc5 v5_51x v4n10 blame_trial_51x ((va_cpy blame_trial_51x blame_best_5 (0 : Int32).toNatClampNeg (0 : Int32).toNatClampNeg (6 : Int32).toNatClampNeg))
def s_X5_explain_51 (rounds_size : Int32) (rounds_riders : (Nat → Int32)) (rounds_horses : (Nat → Int32)) (rounds_faults : (Nat → Int32)) (kk51 : Int32 → (Nat → Int32) → Option (Int32 × Int32 × (Nat → Int32) × (Nat → Int32) × (Nat → Int64))) (rc51 : Int32 → Int32 → (Nat → Int32) → Option (Int32 × Int32 × (Nat → Int32) × (Nat → Int32) × (Nat → Int64))) (v5_51 : Int32) (v6_51 : Int32) (blame_trial_51 : (Nat → Int32)) : Option (Int32 × Int32 × (Nat → Int32) × (Nat → Int32) × (Nat → Int64)) :=
  if (3 : Int32) ≤ v6_51 then
    kk51 v5_51 blame_trial_51
  else
    bd2 (f_X5_fitHorse v6_51 rounds_size rounds_riders rounds_horses rounds_faults blame_trial_51) <| fun rn11 blame_trialn12 =>
    lt1 ((v5_51 + rn11)) <| fun v5n13 =>
    lt1 ((v6_51 + (1 : Int32))) <| fun v6n14 =>
    rc51 v5n13 v6n14 blame_trialn12
def s_X5_explain_5 (rounds_size : Int32) (rounds_riders : (Nat → Int32)) (rounds_horses : (Nat → Int32)) (rounds_faults : (Nat → Int32)) (kk5 : Int32 → (Nat → Int32) → (Nat → Int32) → Option (Int32 × Int32 × (Nat → Int32) × (Nat → Int32) × (Nat → Int64))) (rc5 : Int32 → Int32 → (Nat → Int32) → (Nat → Int32) → Option (Int32 × Int32 × (Nat → Int32) × (Nat → Int32) × (Nat → Int64))) (v3_5 : Int32) (v4_5 : Int32) (blame_trial_5 : (Nat → Int32)) (blame_best_5 : (Nat → Int32)) : Option (Int32 × Int32 × (Nat → Int32) × (Nat → Int32) × (Nat → Int64)) :=
  if (125 : Int32) ≤ v4_5 then
    kk5 v3_5 blame_trial_5 blame_best_5
  else
    gd (ix (0 : Int32) 6) <|
    gd (ix (1 : Int32) 6) <|
    gd (ix (2 : Int32) 6) <|
    ml3 (s_X5_explain_51 rounds_size rounds_riders rounds_horses rounds_faults (k_X5_explain_51 rc5 v3_5 v4_5 blame_best_5)) zN (0 : Int32) (0 : Int32) ((upd ((upd ((upd blame_trial_5 (0 : Int32).toNatClampNeg (v4_5 / (25 : Int32)))) (1 : Int32).toNatClampNeg ((v4_5 / (5 : Int32)) - (v4_5 / (5 : Int32)) / (5 : Int32) * (5 : Int32)))) (2 : Int32).toNatClampNeg (v4_5 - v4_5 / (5 : Int32) * (5 : Int32))))
def f_X5_explain (numbers_size : Int32) (rounds_size : Int32) (rounds_riders : (Nat → Int32)) (rounds_horses : (Nat → Int32)) (rounds_faults : (Nat → Int32)) (blame_trial : (Nat → Int32)) (blame_best : (Nat → Int32)) (numbers_told : (Nat → Int64)) : Option (Int32 × Int32 × (Nat → Int32) × (Nat → Int32) × (Nat → Int64)) :=
  ml4 (s_X5_explain_5 rounds_size rounds_riders rounds_horses rounds_faults (k_X5_explain_5 numbers_size rounds_size rounds_riders rounds_horses numbers_told)) zN (-1 : Int32) (0 : Int32) blame_trial blame_best
def f_X11_parts (numbers_size : Int32) (rounds_size : Int32) (rounds_riders : (Nat → Int32)) (rounds_horses : (Nat → Int32)) (rounds_faults : (Nat → Int32)) (blame_trial : (Nat → Int32)) (blame_best : (Nat → Int32)) (numbers_told : (Nat → Int64)) : Option (Int32 × Int32 × (Nat → Int32) × (Nat → Int32) × (Nat → Int64)) :=
  bd5 (f_X5_explain numbers_size rounds_size rounds_riders rounds_horses rounds_faults blame_trial blame_best numbers_told) <| fun rn1 numbers_sizen2 blame_trialn3 blame_bestn4 numbers_toldn5 =>
  some (rn1, numbers_sizen2, blame_trialn3, blame_bestn4, numbers_toldn5)
def f_X11_perform (course_fences : Int32) (course_horseCount : Int32) (course_planCount : Int32) (course_allowed : Int32) (course_rule_size : Int32) (rounds_size : Int32) (drawn_state : Int32) (drawn_faults : Int32) (drawn_tenths : Int32) (drawn_refused : Int32) (drawn_fallen : Int32) (act_kind : Int32) (act_rider : Int32) (act_horse : Int32) (act_third : Int32) (act_fourth : Int32) (course_kinds : (Nat → Int32)) (course_heights : (Nat → Int32)) (course_feet : (Nat → Int32)) (course_digits : (Nat → Int32)) (course_plans : (Nat → Int32)) (rule_codes : (Nat → Int32)) (rule_stack : (Nat → Int32)) (rule_things : (Nat → Int32)) (rounds_riders : (Nat → Int32)) (rounds_horses : (Nat → Int32)) (rounds_faults : (Nat → Int32)) (rounds_tenths : (Nat → Int32)) : Option (Int32 × Int32 × Int32 × Int32 × Int32 × Int32 × Int32 × (Nat → Int32) × (Nat → Int32) × (Nat → Int32) × (Nat → Int32) × (Nat → Int32) × (Nat → Int32)) :=
  if act_kind = (114 : Int32) then
    bd13 (f_X11_addRide act_rider act_horse act_third act_fourth course_fences course_horseCount course_planCount course_allowed course_rule_size rounds_size drawn_state drawn_faults drawn_tenths drawn_refused drawn_fallen course_kinds course_heights course_feet course_digits course_plans rule_codes rule_stack rule_things rounds_riders rounds_horses rounds_faults rounds_tenths) <| fun rn9 rounds_sizen10 drawn_staten11 drawn_faultsn12 drawn_tenthsn13 drawn_refusedn14 drawn_fallenn15 rule_stackn16 rule_thingsn17 rounds_ridersn18 rounds_horsesn19 rounds_faultsn20 rounds_tenthsn21 =>
    if rn9 < 0 then
      some ((0 : Int32), rounds_sizen10, drawn_staten11, drawn_faultsn12, drawn_tenthsn13, drawn_refusedn14, drawn_fallenn15, rule_stackn16, rule_thingsn17, rounds_ridersn18, rounds_horsesn19, rounds_faultsn20, rounds_tenthsn21)
    else
      some ((1 : Int32), rounds_sizen10, drawn_staten11, drawn_faultsn12, drawn_tenthsn13, drawn_refusedn14, drawn_fallenn15, rule_stackn16, rule_thingsn17, rounds_ridersn18, rounds_horsesn19, rounds_faultsn20, rounds_tenthsn21)
  else
    if act_kind = (116 : Int32) then
      bd6 (f_X11_addTold act_rider act_horse act_third act_fourth course_horseCount rounds_size rounds_riders rounds_horses rounds_faults rounds_tenths) <| fun rn3 rounds_sizen4 rounds_ridersn5 rounds_horsesn6 rounds_faultsn7 rounds_tenthsn8 =>
      if rn3 < 0 then
        some ((0 : Int32), rounds_sizen4, drawn_state, drawn_faults, drawn_tenths, drawn_refused, drawn_fallen, rule_stack, rule_things, rounds_ridersn5, rounds_horsesn6, rounds_faultsn7, rounds_tenthsn8)
      else
        some ((1 : Int32), rounds_sizen4, drawn_state, drawn_faults, drawn_tenths, drawn_refused, drawn_fallen, rule_stack, rule_things, rounds_ridersn5, rounds_horsesn6, rounds_faultsn7, rounds_tenthsn8)
    else
      bd2 (f_X10_strike rounds_size) <| fun rn1 rounds_sizen2 =>
      gd (bit rn1) <|
      some (rn1, rounds_sizen2, drawn_state, drawn_faults, drawn_tenths, drawn_refused, drawn_fallen, rule_stack, rule_things, rounds_riders, rounds_horses, rounds_faults, rounds_tenths)
def f_X11_place (p1 : Int32) (p2 : Int32) (numbers_size : Int32) (rounds_size : Int32) (rounds_faults : (Nat → Int32)) (rounds_tenths : (Nat → Int32)) (rounds_money : (Nat → Int32)) (numbers_told : (Nat → Int64)) : Option (Int32 × Int32 × (Nat → Int64)) :=
  bd1 (f_X11_isResult p1 p2) <| fun rn1 =>
  if rn1 = 0 then
    some ((-1 : Int32), numbers_size, numbers_told)
  else
    bd1 (f_X10_placeFor p1 p2 rounds_size rounds_faults rounds_tenths) <| fun rn2 =>
    bd1 (f_X6_start numbers_size) <| fun numbers_sizen3 =>
    bd1 (f_X10_moneyAt rn2 rounds_money) <| fun rn4 =>
    bd2 (f_X6_put (rn4.toInt64) numbers_sizen3 numbers_told) <| fun numbers_sizen5 numbers_toldn6 =>
    some (rn2, numbers_sizen5, numbers_toldn6)
def f_X9_oneOf (p1 : Nat) (text_limit : Int32) (text_at : Int32) (text_signs : (Nat → Int32)) : Option (Int32 × Int32) :=
  if text_limit ≤ text_at then
    some ((-1 : Int32), text_at)
  else
    gd (ix text_at 80) <|
    gd (sok p1) <|
    lt1 ((sidx p1 (text_signs text_at.toNatClampNeg))) <| fun v2n1 =>
    if v2n1 < 0 then
      some (v2n1, text_at)
    else
      some (v2n1, (text_at + (1 : Int32)))
def k_X1_readPlan_20 (text_size : Int32) (course_planCount : Int32) (text_limitn1 : Int32) (text_at_20x : Int32) (course_plans_20x : (Nat → Int32)) : Option (Int32 × Int32 × Int32 × Int32 × (Nat → Int32)) :=
  bd1 (f_X9_isDone text_size text_at_20x) <| fun rn3 =>
  if rn3 = 0 then
    bd1 (f_X9_fault text_at_20x) <| fun rn4 =>
    some (rn4, text_limitn1, text_at_20x, course_planCount, course_plans_20x)
  else
    some (((course_planCount + (1 : Int32)) - (1 : Int32)), text_limitn1, text_at_20x, (course_planCount + (1 : Int32)), course_plans_20x)
def s_X1_readPlan_20 (course_fences : Int32) (course_planCount : Int32) (text_signs : (Nat → Int32)) (text_limitn1 : Int32) (kk20 : Int32 → (Nat → Int32) → Option (Int32 × Int32 × Int32 × Int32 × (Nat → Int32))) (rc20 : Int32 → Int32 → (Nat → Int32) → Option (Int32 × Int32 × Int32 × Int32 × (Nat → Int32))) (v2_20 : Int32) (text_at_20 : Int32) (course_plans_20 : (Nat → Int32)) : Option (Int32 × Int32 × Int32 × Int32 × (Nat → Int32)) :=
  if course_fences ≤ v2_20 then
    kk20 text_at_20 course_plans_20
  else
    bd2 (f_X9_oneOf (89) text_limitn1 text_at_20 text_signs) <| fun rn5 text_atn6 =>
    if 0 ≤ rn5 then
      gd (ix ((course_planCount * (8 : Int32)) + v2_20) 48) <|
      lt1 ((v2_20 + (1 : Int32))) <| fun v2n7 =>
      rc20 v2n7 text_atn6 ((upd course_plans_20 ((course_planCount * (8 : Int32)) + v2_20).toNatClampNeg rn5))
    else
      bd1 (f_X9_fault text_atn6) <| fun rn8 =>
      some (rn8, text_limitn1, text_atn6, course_planCount, course_plans_20)
def f_X1_readPlan (text_size : Int32) (text_limit : Int32) (text_at : Int32) (course_fences : Int32) (course_planCount : Int32) (text_signs : (Nat → Int32)) (course_plans : (Nat → Int32)) : Option (Int32 × Int32 × Int32 × Int32 × (Nat → Int32)) :=
  if course_planCount < (6 : Int32) then
    bd2 (f_X9_open (80 : Int32) text_size text_limit text_at) <| fun text_limitn1 text_atn2 =>
    ml3 (s_X1_readPlan_20 course_fences course_planCount text_signs text_limitn1 (k_X1_readPlan_20 text_size course_planCount text_limitn1)) zN (0 : Int32) text_atn2 course_plans
  else
    some ((-100 : Int32), text_limit, text_at, course_planCount, course_plans)
def f_X11_plan (text_size : Int32) (text_limit : Int32) (text_at : Int32) (course_fences : Int32) (course_planCount : Int32) (text_signs : (Nat → Int32)) (course_plans : (Nat → Int32)) : Option (Int32 × Int32 × Int32 × Int32 × Int32 × (Nat → Int32)) :=
  bd5 (f_X1_readPlan text_size text_limit text_at course_fences course_planCount text_signs course_plans) <| fun rn1 text_limitn2 text_atn3 course_planCountn4 course_plansn5 =>
  bd1 (f_X9_clear text_size) <| fun text_sizen6 =>
  some (rn1, text_sizen6, text_limitn2, text_atn3, course_planCountn4, course_plansn5)
def k_X11_poles_54 (p3 : Int32) (rule_stack_54x : (Nat → Int32)) (rule_things_54x : (Nat → Int32)) (chances_54x : (Nat → Int64)) : Option (Int32 × (Nat → Int32) × (Nat → Int32) × (Nat → Int64)) :=
  gd (ix p3 9) <|
  some (((chances_54x p3.toNatClampNeg)).toInt32, rule_stack_54x, rule_things_54x, chances_54x)
def k_X11_poles_92 (rc54 : Int32 → (Nat → Int32) → (Nat → Int32) → (Nat → Int64) → Option (Int32 × (Nat → Int32) × (Nat → Int32) × (Nat → Int64))) (v4_54 : Int32) (rn5 : Int32) (rule_stackn6 : (Nat → Int32)) (rule_thingsn7 : (Nat → Int32)) (chances_92x : (Nat → Int64)) : Option (Int32 × (Nat → Int32) × (Nat → Int32) × (Nat → Int64)) :=
  gd (ix (0 : Int32) 9) <|
  gd (nzl (100 : Int64)) <|
  gd (ix (0 : Int32) 9) <|
  lt1 ((v4_54 + (1 : Int32))) <| fun v4n8 =>
  rc54 v4n8 rule_stackn6 rule_thingsn7 ((vp_updL chances_92x (0 : Int32).toNatClampNeg (((chances_92x (0 : Int32).toNatClampNeg) * (((100 : Int32) - rn5)).toInt64) / (100 : Int64))))
def s_X11_poles_92 (rn5 : Int32) (kk92 : (Nat → Int64) → Option (Int32 × (Nat → Int32) × (Nat → Int32) × (Nat → Int64))) (rc92 : Int32 → (Nat → Int64) → Option (Int32 × (Nat → Int32) × (Nat → Int32) × (Nat → Int64))) (v6_92 : Int32) (chances_92 : (Nat → Int64)) : Option (Int32 × (Nat → Int32) × (Nat → Int32) × (Nat → Int64)) :=
  if v6_92 ≤ 0 then
    kk92 chances_92
  else
    gd (ix v6_92 9) <|
    gd (nzl (100 : Int64)) <|
    gd (ix (v6_92 - (1 : Int32)) 9) <|
    gd (nzl (100 : Int64)) <|
    gd (ix v6_92 9) <|
    lt1 ((v6_92 + (-1 : Int32))) <| fun v6n9 =>
    rc92 v6n9 ((vp_updL chances_92 v6_92.toNatClampNeg ((((chances_92 v6_92.toNatClampNeg) * (((100 : Int32) - rn5)).toInt64) / (100 : Int64)) + (((chances_92 (v6_92 - (1 : Int32)).toNatClampNeg) * rn5.toInt64) / (100 : Int64)))))
def s_X11_poles_54 (p1 : Int32) (p2 : Int32) (course_fences : Int32) (course_rule_size : Int32) (course_kinds : (Nat → Int32)) (course_heights : (Nat → Int32)) (course_feet : (Nat → Int32)) (course_digits : (Nat → Int32)) (course_plans : (Nat → Int32)) (rule_codes : (Nat → Int32)) (kk54 : (Nat → Int32) → (Nat → Int32) → (Nat → Int64) → Option (Int32 × (Nat → Int32) × (Nat → Int32) × (Nat → Int64))) (rc54 : Int32 → (Nat → Int32) → (Nat → Int32) → (Nat → Int64) → Option (Int32 × (Nat → Int32) × (Nat → Int32) × (Nat → Int64))) (v4_54 : Int32) (rule_stack_54 : (Nat → Int32)) (rule_things_54 : (Nat → Int32)) (chances_54 : (Nat → Int64)) : Option (Int32 × (Nat → Int32) × (Nat → Int32) × (Nat → Int64)) :=
  if course_fences ≤ v4_54 then
    kk54 rule_stack_54 rule_things_54 chances_54
  else
    bd1 (f_X1_letterAt p2 v4_54 course_plans) <| fun rn4 =>
    bd3 (f_X1_poleOdds p1 v4_54 rn4 course_rule_size course_kinds course_heights course_feet course_digits rule_codes rule_stack_54 rule_things_54) <| fun rn5 rule_stackn6 rule_thingsn7 =>
    ml2 (s_X11_poles_92 rn5 (k_X11_poles_92 rc54 v4_54 rn5 rule_stackn6 rule_thingsn7)) zN (8 : Int32) chances_54
def f_X11_poles (p1 : Int32) (p2 : Int32) (p3 : Int32) (course_fences : Int32) (course_horseCount : Int32) (course_planCount : Int32) (course_rule_size : Int32) (course_kinds : (Nat → Int32)) (course_heights : (Nat → Int32)) (course_feet : (Nat → Int32)) (course_digits : (Nat → Int32)) (course_plans : (Nat → Int32)) (rule_codes : (Nat → Int32)) (rule_stack : (Nat → Int32)) (rule_things : (Nat → Int32)) (chances : (Nat → Int64)) : Option (Int32 × (Nat → Int32) × (Nat → Int32) × (Nat → Int64)) :=
  bd1 (f_X1_hasHorse p1 course_horseCount) <| fun rn1 =>
  if rn1 = 0 then
    some ((-1 : Int32), rule_stack, rule_things, chances)
  else
    bd1 (f_X1_hasPlan p2 course_planCount) <| fun rn2 =>
    if rn2 = 0 then
      some ((-1 : Int32), rule_stack, rule_things, chances)
    else
      if p3 < 0 then
        some ((-1 : Int32), rule_stack, rule_things, chances)
      else
        if p3 ≤ (8 : Int32) then
          bd1 (f_J7_fill_d0a16_chances (0 : Int64) chances) <| fun chancesn3 =>
          gd (ix (0 : Int32) 9) <|
          ml4 (s_X11_poles_54 p1 p2 course_fences course_rule_size course_kinds course_heights course_feet course_digits course_plans rule_codes (k_X11_poles_54 p3)) zN (0 : Int32) rule_stack rule_things ((vp_updL chancesn3 (0 : Int32).toNatClampNeg (10000 : Int64)))
        else
          some ((-1 : Int32), rule_stack, rule_things, chances)
def f_X11_prizes (text_size : Int32) (text_limit : Int32) (text_at : Int32) (text_signs : (Nat → Int32)) (rounds_money : (Nat → Int32)) (rounds_draft : (Nat → Int32)) : Option (Int32 × Int32 × Int32 × Int32 × (Nat → Int32) × (Nat → Int32)) :=
  bd5 (f_X10_readMoney text_size text_limit text_at text_signs rounds_money rounds_draft) <| fun rn1 text_limitn2 text_atn3 rounds_moneyn4 rounds_draftn5 =>
  bd1 (f_X9_clear text_size) <| fun text_sizen6 =>
  some (rn1, text_sizen6, text_limitn2, text_atn3, rounds_moneyn4, rounds_draftn5)
def k_X4_fewestTenths_2 (_u : Unit) : Option Int32 :=
  some (-1 : Int32)
def s_X4_fewestTenths_2 (p1 : Int32) (letters_fences : Int32) (letters_least : (Nat → Int32)) (letters_spans : (Nat → Int32)) (kk2 : Unit → Option Int32) (rc2 : Int32 → Option Int32) (v2_2 : Int32) : Option Int32 :=
  gd (ix letters_fences 9) <|
  if (letters_spans letters_fences.toNatClampNeg) < v2_2 then
    kk2 ()
  else
    bd1 (f_X4_fearWith v2_2 letters_fences letters_least letters_spans) <| fun rn1 =>
    if rn1 = (-1 : Int32) then
      lt1 ((v2_2 + (1 : Int32))) <| fun v2n2 =>
      rc2 v2n2
    else
      bd1 (f_X4_fearWith v2_2 letters_fences letters_least letters_spans) <| fun rn3 =>
      if p1 < rn3 then
        lt1 ((v2_2 + (1 : Int32))) <| fun v2n4 =>
        rc2 v2n4
      else
        some v2_2
def f_X4_fewestTenths (p1 : Int32) (letters_fences : Int32) (letters_least : (Nat → Int32)) (letters_spans : (Nat → Int32)) : Option Int32 :=
  ml1 (s_X4_fewestTenths_2 p1 letters_fences letters_least letters_spans (k_X4_fewestTenths_2)) zN (0 : Int32)
def f_X11_quick (p1 : Int32) (p2 : Int32) (numbers_size : Int32) (course_fences : Int32) (course_horseCount : Int32) (course_rule_size : Int32) (letters_fences : Int32) (course_kinds : (Nat → Int32)) (course_heights : (Nat → Int32)) (course_feet : (Nat → Int32)) (course_digits : (Nat → Int32)) (rule_codes : (Nat → Int32)) (rule_stack : (Nat → Int32)) (rule_things : (Nat → Int32)) (letters_fears : (Nat → Int32)) (letters_tenths : (Nat → Int32)) (letters_least : (Nat → Int32)) (letters_spans : (Nat → Int32)) (numbers_told : (Nat → Int64)) : Option (Int32 × Int32 × Int32 × (Nat → Int32) × (Nat → Int32) × (Nat → Int32) × (Nat → Int32) × (Nat → Int32) × (Nat → Int32) × (Nat → Int64)) :=
  bd1 (f_X1_hasHorse p1 course_horseCount) <| fun rn1 =>
  if rn1 = 0 then
    some ((-1 : Int32), numbers_size, letters_fences, rule_stack, rule_things, letters_fears, letters_tenths, letters_least, letters_spans, numbers_told)
  else
    if p2 < 0 then
      some ((-1 : Int32), numbers_size, letters_fences, rule_stack, rule_things, letters_fears, letters_tenths, letters_least, letters_spans, numbers_told)
    else
      if p2 ≤ (9999 : Int32) then
        bd7 (f_X4_lay p1 course_fences course_rule_size letters_fences course_kinds course_heights course_feet course_digits rule_codes rule_stack rule_things letters_fears letters_tenths letters_least letters_spans) <| fun letters_fencesn2 rule_stackn3 rule_thingsn4 letters_fearsn5 letters_tenthsn6 letters_leastn7 letters_spansn8 =>
        bd1 (f_X4_fewestTenths p2 letters_fencesn2 letters_leastn7 letters_spansn8) <| fun rn9 =>
        if rn9 = (-1 : Int32) then
          some ((-2 : Int32), numbers_size, letters_fencesn2, rule_stackn3, rule_thingsn4, letters_fearsn5, letters_tenthsn6, letters_leastn7, letters_spansn8, numbers_told)
        else
          bd1 (f_X6_start numbers_size) <| fun numbers_sizen10 =>
          bd1 (f_X4_fearWith rn9 letters_fencesn2 letters_leastn7 letters_spansn8) <| fun rn11 =>
          bd2 (f_X6_put (rn11.toInt64) numbers_sizen10 numbers_told) <| fun numbers_sizen12 numbers_toldn13 =>
          bd2 (f_X4_tell rn9 numbers_sizen12 letters_fencesn2 letters_fearsn5 letters_tenthsn6 letters_leastn7 letters_spansn8 numbers_toldn13) <| fun numbers_sizen14 numbers_toldn15 =>
          some (rn9, numbers_sizen14, letters_fencesn2, rule_stackn3, rule_thingsn4, letters_fearsn5, letters_tenthsn6, letters_leastn7, letters_spansn8, numbers_toldn15)
      else
        some ((-1 : Int32), numbers_size, letters_fences, rule_stack, rule_things, letters_fears, letters_tenths, letters_least, letters_spans, numbers_told)
def f_X11_raise (p1 : Int32) (p2 : Int32) (course_fences : Int32) (course_heights : (Nat → Int32)) : Option (Int32 × (Nat → Int32)) :=
  bd1 (f_X1_hasFence p1 course_fences) <| fun rn1 =>
  if rn1 = 0 then
    some ((-1 : Int32), course_heights)
  else
    if p2 < 0 then
      some ((-1 : Int32), course_heights)
    else
      if p2 ≤ (9 : Int32) then
        gd (ix p1 8) <|
        lt1 ((course_heights p1.toNatClampNeg)) <| fun v3n2 =>
        gd (ix p1 8) <|
        some (v3n2, (upd course_heights p1.toNatClampNeg p2))
      else
        some ((-1 : Int32), course_heights)
def f_X8_commit_history (history_slots : Int32) (history_count : Int32) (history_cells : (Nat → Int32)) (history_sizes : (Nat → Int32)) : Option (Int32 × (Nat → Int32) × (Nat → Int32)) :=
  if (history_slots - (1 : Int32)) ≤ history_count then
    gd (cpok (48 : Int32) (0 : Int32) ((history_slots - (1 : Int32)) * (48 : Int32)) 624 624) <|
    gd (cpok (1 : Int32) (0 : Int32) (history_slots - (1 : Int32)) 13 13) <|
    some (history_count, (va_cpy history_cells history_cells (48 : Int32).toNatClampNeg (0 : Int32).toNatClampNeg ((history_slots - (1 : Int32)) * (48 : Int32)).toNatClampNeg), (va_cpy history_sizes history_sizes (1 : Int32).toNatClampNeg (0 : Int32).toNatClampNeg (history_slots - (1 : Int32)).toNatClampNeg))
  else
    some ((history_count + (1 : Int32)), history_cells, history_sizes)
def f_X8_store_history (p1 : Int32) (rounds_size : Int32) (history_slots : Int32) (rounds_riders : (Nat → Int32)) (rounds_horses : (Nat → Int32)) (rounds_faults : (Nat → Int32)) (rounds_tenths : (Nat → Int32)) (history_cells : (Nat → Int32)) (history_sizes : (Nat → Int32)) : Option (Int32 × (Nat → Int32) × (Nat → Int32)) :=
  if p1 < 0 then
    some ((0 : Int32), history_cells, history_sizes)
  else
    if p1 < history_slots then
      lt1 ((p1 * (48 : Int32))) <| fun v3n1 =>
      gd (cpok (0 : Int32) v3n1 (12 : Int32) 12 624) <|
      gd (cpok (0 : Int32) (v3n1 + (12 : Int32)) (12 : Int32) 12 624) <|
      gd (cpok (0 : Int32) (v3n1 + (24 : Int32)) (12 : Int32) 12 624) <|
      gd (cpok (0 : Int32) (v3n1 + (36 : Int32)) (12 : Int32) 12 624) <|
      gd (ix p1 13) <|
      some ((1 : Int32), (va_cpy rounds_tenths ((va_cpy rounds_faults ((va_cpy rounds_horses ((va_cpy rounds_riders history_cells (0 : Int32).toNatClampNeg v3n1.toNatClampNeg (12 : Int32).toNatClampNeg)) (0 : Int32).toNatClampNeg (v3n1 + (12 : Int32)).toNatClampNeg (12 : Int32).toNatClampNeg)) (0 : Int32).toNatClampNeg (v3n1 + (24 : Int32)).toNatClampNeg (12 : Int32).toNatClampNeg)) (0 : Int32).toNatClampNeg (v3n1 + (36 : Int32)).toNatClampNeg (12 : Int32).toNatClampNeg), (upd history_sizes p1.toNatClampNeg rounds_size))
    else
      some ((0 : Int32), history_cells, history_sizes)
def f_X8_mark_history (rounds_size : Int32) (history_slots : Int32) (history_count : Int32) (rounds_riders : (Nat → Int32)) (rounds_horses : (Nat → Int32)) (rounds_faults : (Nat → Int32)) (rounds_tenths : (Nat → Int32)) (history_cells : (Nat → Int32)) (history_sizes : (Nat → Int32)) : Option ((Nat → Int32) × (Nat → Int32)) :=
  bd3 (f_X8_store_history history_count rounds_size history_slots rounds_riders rounds_horses rounds_faults rounds_tenths history_cells history_sizes) <| fun rn1 history_cellsn2 history_sizesn3 =>
  some (history_cellsn2, history_sizesn3)
def f_X11_ride (p1 : Int32) (p2 : Int32) (p3 : Int32) (p4 : Int32) (numbers_size : Int32) (course_fences : Int32) (course_horseCount : Int32) (course_planCount : Int32) (course_allowed : Int32) (course_rule_size : Int32) (rounds_size : Int32) (history_slots : Int32) (history_count : Int32) (drawn_state : Int32) (drawn_faults : Int32) (drawn_tenths : Int32) (drawn_refused : Int32) (drawn_fallen : Int32) (course_kinds : (Nat → Int32)) (course_heights : (Nat → Int32)) (course_feet : (Nat → Int32)) (course_digits : (Nat → Int32)) (course_plans : (Nat → Int32)) (rule_codes : (Nat → Int32)) (rule_stack : (Nat → Int32)) (rule_things : (Nat → Int32)) (rounds_riders : (Nat → Int32)) (rounds_horses : (Nat → Int32)) (rounds_faults : (Nat → Int32)) (rounds_tenths : (Nat → Int32)) (history_cells : (Nat → Int32)) (history_sizes : (Nat → Int32)) (numbers_told : (Nat → Int64)) : Option (Int32 × Int32 × Int32 × Int32 × Int32 × Int32 × Int32 × Int32 × Int32 × (Nat → Int32) × (Nat → Int32) × (Nat → Int32) × (Nat → Int32) × (Nat → Int32) × (Nat → Int32) × (Nat → Int32) × (Nat → Int32) × (Nat → Int64)) :=
  bd2 (f_X8_mark_history rounds_size history_slots history_count rounds_riders rounds_horses rounds_faults rounds_tenths history_cells history_sizes) <| fun history_cellsn1 history_sizesn2 =>
  bd13 (f_X11_addRide p1 p2 p3 p4 course_fences course_horseCount course_planCount course_allowed course_rule_size rounds_size drawn_state drawn_faults drawn_tenths drawn_refused drawn_fallen course_kinds course_heights course_feet course_digits course_plans rule_codes rule_stack rule_things rounds_riders rounds_horses rounds_faults rounds_tenths) <| fun rn3 rounds_sizen4 drawn_staten5 drawn_faultsn6 drawn_tenthsn7 drawn_refusedn8 drawn_fallenn9 rule_stackn10 rule_thingsn11 rounds_ridersn12 rounds_horsesn13 rounds_faultsn14 rounds_tenthsn15 =>
  if rn3 < 0 then
    some (rn3, numbers_size, rounds_sizen4, history_count, drawn_staten5, drawn_faultsn6, drawn_tenthsn7, drawn_refusedn8, drawn_fallenn9, rule_stackn10, rule_thingsn11, rounds_ridersn12, rounds_horsesn13, rounds_faultsn14, rounds_tenthsn15, history_cellsn1, history_sizesn2, numbers_told)
  else
    bd3 (f_X8_commit_history history_slots history_count history_cellsn1 history_sizesn2) <| fun history_countn16 history_cellsn17 history_sizesn18 =>
    bd2 (f_X11_tellDrawn numbers_size drawn_staten5 drawn_tenthsn7 drawn_refusedn8 drawn_fallenn9 numbers_told) <| fun numbers_sizen19 numbers_toldn20 =>
    some (rn3, numbers_sizen19, rounds_sizen4, history_countn16, drawn_staten5, drawn_faultsn6, drawn_tenthsn7, drawn_refusedn8, drawn_fallenn9, rule_stackn10, rule_thingsn11, rounds_ridersn12, rounds_horsesn13, rounds_faultsn14, rounds_tenthsn15, history_cellsn17, history_sizesn18, numbers_toldn20)
def k_X11_riders_29 (numbers_size : Int32) (numbers_told : (Nat → Int64)) (v3_29x : Int64) (v5_29x : Int32) : Option (Int32 × Int32 × (Nat → Int64)) :=
  if v5_29x = 0 then
    some ((-2 : Int32), numbers_size, numbers_told)
  else
    bd1 (f_X6_start numbers_size) <| fun numbers_sizen3 =>
    bd2 (f_X6_putFraction v3_29x ((v5_29x.toInt64 * (27720 : Int64))) numbers_sizen3 numbers_told) <| fun numbers_sizen4 numbers_toldn5 =>
    some (v5_29x, numbers_sizen4, numbers_toldn5)
def s_X11_riders_29 (p1 : Int32) (p2 : Int32) (course_horseCount : Int32) (rounds_size : Int32) (rounds_riders : (Nat → Int32)) (rounds_horses : (Nat → Int32)) (rounds_faults : (Nat → Int32)) (kk29 : Int64 → Int32 → Option (Int32 × Int32 × (Nat → Int64))) (rc29 : Int64 → Int32 → Int32 → Option (Int32 × Int32 × (Nat → Int64))) (v3_29 : Int64) (v5_29 : Int32) (v6_29 : Int32) : Option (Int32 × Int32 × (Nat → Int64)) :=
  if course_horseCount ≤ v6_29 then
    kk29 v3_29 v5_29
  else
    bd1 (f_X10_scaledMean p1 v6_29 rounds_size rounds_riders rounds_horses rounds_faults) <| fun rn6 =>
    bd1 (f_X10_scaledMean p2 v6_29 rounds_size rounds_riders rounds_horses rounds_faults) <| fun rn7 =>
    if (lg_cmp rn6 (-1 : Int64)) = 0 then
      lt1 ((v6_29 + (1 : Int32))) <| fun v6n8 =>
      rc29 v3_29 v5_29 v6n8
    else
      if (lg_cmp rn7 (-1 : Int64)) = 0 then
        lt1 ((v6_29 + (1 : Int32))) <| fun v6n9 =>
        rc29 v3_29 v5_29 v6n9
      else
        lt1 ((v3_29 + (rn6 - rn7))) <| fun v3n10 =>
        lt1 ((v5_29 + (1 : Int32))) <| fun v5n11 =>
        lt1 ((v6_29 + (1 : Int32))) <| fun v6n12 =>
        rc29 v3n10 v5n11 v6n12
def f_X11_riders (p1 : Int32) (p2 : Int32) (numbers_size : Int32) (course_horseCount : Int32) (rounds_size : Int32) (rounds_riders : (Nat → Int32)) (rounds_horses : (Nat → Int32)) (rounds_faults : (Nat → Int32)) (numbers_told : (Nat → Int64)) : Option (Int32 × Int32 × (Nat → Int64)) :=
  bd1 (f_X11_isRider p1) <| fun rn1 =>
  if rn1 = 0 then
    some ((-1 : Int32), numbers_size, numbers_told)
  else
    bd1 (f_X11_isRider p2) <| fun rn2 =>
    if rn2 = 0 then
      some ((-1 : Int32), numbers_size, numbers_told)
    else
      if p1 = p2 then
        some ((-1 : Int32), numbers_size, numbers_told)
      else
        ml3 (s_X11_riders_29 p1 p2 course_horseCount rounds_size rounds_riders rounds_horses rounds_faults (k_X11_riders_29 numbers_size numbers_told)) zN (0 : Int64) (0 : Int32) (0 : Int32)
def j_X1_readFence_65 (p2 : Int32) (course_draft : (Nat → Int32)) (rn1 : Int32) (rn3 : Int32) (rn7 : Int32) (t0_65j : Int32) (text_at_65j : Int32) : Option (Int32 × Int32 × (Nat → Int32)) :=
  gd (ix ((3 : Int32) * p2) 24) <|
  gd (ix (((3 : Int32) * p2) + (1 : Int32)) 24) <|
  gd (ix (((3 : Int32) * p2) + (2 : Int32)) 24) <|
  if t0_65j = (-1 : Int32) then
    some ((0 : Int32), text_at_65j, (upd ((upd ((upd course_draft ((3 : Int32) * p2).toNatClampNeg rn1)) (((3 : Int32) * p2) + (1 : Int32)).toNatClampNeg rn3)) (((3 : Int32) * p2) + (2 : Int32)).toNatClampNeg ((rn7 * (10 : Int32)) + t0_65j)))
  else
    some ((1 : Int32), text_at_65j, (upd ((upd ((upd course_draft ((3 : Int32) * p2).toNatClampNeg rn1)) (((3 : Int32) * p2) + (1 : Int32)).toNatClampNeg rn3)) (((3 : Int32) * p2) + (2 : Int32)).toNatClampNeg ((rn7 * (10 : Int32)) + t0_65j)))
def f_X1_readFence (p2 : Int32) (text_limit : Int32) (text_at : Int32) (text_signs : (Nat → Int32)) (course_draft : (Nat → Int32)) : Option (Int32 × Int32 × (Nat → Int32)) :=
  bd2 (f_X9_oneOf (88) text_limit text_at text_signs) <| fun rn1 text_atn2 =>
  if 0 ≤ rn1 then
    bd2 (f_X9_digit (0 : Int32) (9 : Int32) text_limit text_atn2 text_signs) <| fun rn3 text_atn4 =>
    if rn3 = (-1 : Int32) then
      some ((0 : Int32), text_atn4, course_draft)
    else
      bd2 (f_X9_take (64 : Int32) text_limit text_atn4 text_signs) <| fun rn5 text_atn6 =>
      if rn5 = 0 then
        some ((0 : Int32), text_atn6, course_draft)
      else
        bd2 (f_X9_digit (1 : Int32) (9 : Int32) text_limit text_atn6 text_signs) <| fun rn7 text_atn8 =>
        if rn7 = (-1 : Int32) then
          j_X1_readFence_65 p2 course_draft rn1 rn3 rn7 (-1 : Int32) text_atn8
        else
          bd2 (f_X9_digit (0 : Int32) (9 : Int32) text_limit text_atn8 text_signs) <| fun rn9 text_atn10 =>
          j_X1_readFence_65 p2 course_draft rn1 rn3 rn7 rn9 text_atn10
  else
    some ((0 : Int32), text_atn2, course_draft)
def k_X1_takeDraft_2 (p1 : Int32) (course_kinds_2x : (Nat → Int32)) (course_heights_2x : (Nat → Int32)) (course_feet_2x : (Nat → Int32)) : Option (Int32 × Int32 × (Nat → Int32) × (Nat → Int32) × (Nat → Int32)) :=
  some (p1, (0 : Int32), course_kinds_2x, course_heights_2x, course_feet_2x)
def s_X1_takeDraft_2 (p1 : Int32) (course_draft : (Nat → Int32)) (kk2 : (Nat → Int32) → (Nat → Int32) → (Nat → Int32) → Option (Int32 × Int32 × (Nat → Int32) × (Nat → Int32) × (Nat → Int32))) (rc2 : Int32 → (Nat → Int32) → (Nat → Int32) → (Nat → Int32) → Option (Int32 × Int32 × (Nat → Int32) × (Nat → Int32) × (Nat → Int32))) (v2_2 : Int32) (course_kinds_2 : (Nat → Int32)) (course_heights_2 : (Nat → Int32)) (course_feet_2 : (Nat → Int32)) : Option (Int32 × Int32 × (Nat → Int32) × (Nat → Int32) × (Nat → Int32)) :=
  if p1 ≤ v2_2 then
    kk2 course_kinds_2 course_heights_2 course_feet_2
  else
    gd (ix ((3 : Int32) * v2_2) 24) <|
    gd (ix v2_2 8) <|
    gd (ix (((3 : Int32) * v2_2) + (1 : Int32)) 24) <|
    gd (ix v2_2 8) <|
    gd (ix (((3 : Int32) * v2_2) + (2 : Int32)) 24) <|
    gd (ix v2_2 8) <|
    lt1 ((v2_2 + (1 : Int32))) <| fun v2n1 =>
    rc2 v2n1 ((upd course_kinds_2 v2_2.toNatClampNeg (course_draft ((3 : Int32) * v2_2).toNatClampNeg))) ((upd course_heights_2 v2_2.toNatClampNeg (course_draft (((3 : Int32) * v2_2) + (1 : Int32)).toNatClampNeg))) ((upd course_feet_2 v2_2.toNatClampNeg (course_draft (((3 : Int32) * v2_2) + (2 : Int32)).toNatClampNeg)))
def f_X1_takeDraft (p1 : Int32) (course_fences : Int32) (course_planCount : Int32) (course_kinds : (Nat → Int32)) (course_heights : (Nat → Int32)) (course_feet : (Nat → Int32)) (course_draft : (Nat → Int32)) : Option (Int32 × Int32 × (Nat → Int32) × (Nat → Int32) × (Nat → Int32)) :=
  ml4 (s_X1_takeDraft_2 p1 course_draft (k_X1_takeDraft_2 p1)) zN (0 : Int32) course_kinds course_heights course_feet
def k_X1_readRing_8 (course_fences : Int32) (course_planCount : Int32) (course_kinds : (Nat → Int32)) (course_heights : (Nat → Int32)) (course_feet : (Nat → Int32)) (text_limitn1 : Int32) (text_at_8x : Int32) (course_draft_8x : (Nat → Int32)) : Option (Int32 × Int32 × Int32 × Int32 × Int32 × (Nat → Int32) × (Nat → Int32) × (Nat → Int32) × (Nat → Int32)) :=
  bd1 (f_X9_fault text_at_8x) <| fun rn3 =>
  some (rn3, text_limitn1, text_at_8x, course_fences, course_planCount, course_kinds, course_heights, course_feet, course_draft_8x)
def s_X1_readRing_8 (text_size : Int32) (course_fences : Int32) (course_planCount : Int32) (text_signs : (Nat → Int32)) (course_kinds : (Nat → Int32)) (course_heights : (Nat → Int32)) (course_feet : (Nat → Int32)) (text_limitn1 : Int32) (kk8 : Int32 → (Nat → Int32) → Option (Int32 × Int32 × Int32 × Int32 × Int32 × (Nat → Int32) × (Nat → Int32) × (Nat → Int32) × (Nat → Int32))) (rc8 : Int32 → Int32 → (Nat → Int32) → Option (Int32 × Int32 × Int32 × Int32 × Int32 × (Nat → Int32) × (Nat → Int32) × (Nat → Int32) × (Nat → Int32))) (v2_8 : Int32) (text_at_8 : Int32) (course_draft_8 : (Nat → Int32)) : Option (Int32 × Int32 × Int32 × Int32 × Int32 × (Nat → Int32) × (Nat → Int32) × (Nat → Int32) × (Nat → Int32)) :=
  if (8 : Int32) ≤ v2_8 then
    kk8 text_at_8 course_draft_8
  else
    bd3 (f_X1_readFence v2_8 text_limitn1 text_at_8 text_signs course_draft_8) <| fun rn4 text_atn5 course_draftn6 =>
    if rn4 = 0 then
      bd1 (f_X9_fault text_atn5) <| fun rn17 =>
      some (rn17, text_limitn1, text_atn5, course_fences, course_planCount, course_kinds, course_heights, course_feet, course_draftn6)
    else
      bd1 (f_X9_isDone text_size text_atn5) <| fun rn7 =>
      if rn7 = 0 then
        bd2 (f_X9_take (59 : Int32) text_limitn1 text_atn5 text_signs) <| fun rn8 text_atn9 =>
        if rn8 = 0 then
          bd1 (f_X9_fault text_atn9) <| fun rn11 =>
          some (rn11, text_limitn1, text_atn9, course_fences, course_planCount, course_kinds, course_heights, course_feet, course_draftn6)
        else
          lt1 ((v2_8 + (1 : Int32))) <| fun v2n10 =>
          rc8 v2n10 text_atn9 course_draftn6
      else
        bd5 (f_X1_takeDraft ((v2_8 + (1 : Int32))) course_fences course_planCount course_kinds course_heights course_feet course_draftn6) <| fun course_fencesn12 course_planCountn13 course_kindsn14 course_heightsn15 course_feetn16 =>
        some ((v2_8 + (1 : Int32)), text_limitn1, text_atn5, course_fencesn12, course_planCountn13, course_kindsn14, course_heightsn15, course_feetn16, course_draftn6)
def f_X1_readRing (text_size : Int32) (text_limit : Int32) (text_at : Int32) (course_fences : Int32) (course_planCount : Int32) (text_signs : (Nat → Int32)) (course_kinds : (Nat → Int32)) (course_heights : (Nat → Int32)) (course_feet : (Nat → Int32)) (course_draft : (Nat → Int32)) : Option (Int32 × Int32 × Int32 × Int32 × Int32 × (Nat → Int32) × (Nat → Int32) × (Nat → Int32) × (Nat → Int32)) :=
  bd2 (f_X9_open (76 : Int32) text_size text_limit text_at) <| fun text_limitn1 text_atn2 =>
  ml3 (s_X1_readRing_8 text_size course_fences course_planCount text_signs course_kinds course_heights course_feet text_limitn1 (k_X1_readRing_8 course_fences course_planCount course_kinds course_heights course_feet text_limitn1)) zN (0 : Int32) text_atn2 course_draft
def f_X8_forget_kept (kept_count : Int32) (kept_sizes : (Nat → Int32)) : Option (Int32 × (Nat → Int32)) :=
  bd1 (f_J7_fill_53178_kept_sizes (-1 : Int32) kept_sizes) <| fun kept_sizesn1 =>
  some ((0 : Int32), kept_sizesn1)
def f_X11_ring (text_size : Int32) (text_limit : Int32) (text_at : Int32) (course_fences : Int32) (course_planCount : Int32) (rounds_size : Int32) (history_count : Int32) (kept_count : Int32) (text_signs : (Nat → Int32)) (course_kinds : (Nat → Int32)) (course_heights : (Nat → Int32)) (course_feet : (Nat → Int32)) (course_draft : (Nat → Int32)) (history_sizes : (Nat → Int32)) (kept_sizes : (Nat → Int32)) : Option (Int32 × Int32 × Int32 × Int32 × Int32 × Int32 × Int32 × Int32 × Int32 × (Nat → Int32) × (Nat → Int32) × (Nat → Int32) × (Nat → Int32) × (Nat → Int32) × (Nat → Int32)) :=
  bd9 (f_X1_readRing text_size text_limit text_at course_fences course_planCount text_signs course_kinds course_heights course_feet course_draft) <| fun rn1 text_limitn2 text_atn3 course_fencesn4 course_planCountn5 course_kindsn6 course_heightsn7 course_feetn8 course_draftn9 =>
  bd1 (f_X9_clear text_size) <| fun text_sizen10 =>
  if rn1 ≤ 0 then
    some (rn1, text_sizen10, text_limitn2, text_atn3, course_fencesn4, course_planCountn5, rounds_size, history_count, kept_count, course_kindsn6, course_heightsn7, course_feetn8, course_draftn9, history_sizes, kept_sizes)
  else
    bd2 (f_X8_forget_history history_count history_sizes) <| fun history_countn11 history_sizesn12 =>
    bd2 (f_X8_forget_kept kept_count kept_sizes) <| fun kept_countn13 kept_sizesn14 =>
    some (rn1, text_sizen10, text_limitn2, text_atn3, course_fencesn4, course_planCountn5, (0 : Int32), history_countn11, kept_countn13, course_kindsn6, course_heightsn7, course_feetn8, course_draftn9, history_sizesn12, kept_sizesn14)
def f_X7_emit (p1 : Int32) (course_rule_draftSize : Int32) (rule_draft : (Nat → Int32)) : Option (Int32 × (Nat → Int32)) :=
  if (40 : Int32) ≤ course_rule_draftSize then
    some (course_rule_draftSize, rule_draft)
  else
    gd (ix course_rule_draftSize 40) <|
    some ((course_rule_draftSize + (1 : Int32)), (upd rule_draft course_rule_draftSize.toNatClampNeg p1))
def f_X7_signsOf (p0 : Int32) : Option Nat :=
  if p0 = 0 then
    some 91
  else
    if p0 = (1 : Int32) then
      some 92
    else
      some 93
def g_X7_readBareThing (q_X7_readBareThing : Int32 → Int32 → Int32 → Int32 → (Nat → Int32) → (Nat → Int32) → Option (Int32 × Int32 × Int32 × (Nat → Int32))) (q_X7_readLevel : Int32 → Int32 → Int32 → Int32 → Int32 → (Nat → Int32) → (Nat → Int32) → Option (Int32 × Int32 × Int32 × (Nat → Int32))) (q_X7_readThing : Int32 → Int32 → Int32 → Int32 → (Nat → Int32) → (Nat → Int32) → Option (Int32 × Int32 × Int32 × (Nat → Int32))) (p2 : Int32) (text_limit : Int32) (text_at : Int32) (course_rule_draftSize : Int32) (text_signs : (Nat → Int32)) (rule_draft : (Nat → Int32)) : Option (Int32 × Int32 × Int32 × (Nat → Int32)) :=
  bd2 (f_X9_number (3 : Int32) text_limit text_at text_signs) <| fun rn1 text_atn2 =>
  if rn1 = (-1 : Int32) then
    bd2 (f_X9_oneOf (90) text_limit text_atn2 text_signs) <| fun rn3 text_atn4 =>
    if rn3 < 0 then
      if (4 : Int32) ≤ p2 then
        some ((0 : Int32), text_atn4, course_rule_draftSize, rule_draft)
      else
        bd2 (f_X9_take (40 : Int32) text_limit text_atn4 text_signs) <| fun rn5 text_atn6 =>
        if rn5 = 0 then
          some ((0 : Int32), text_atn6, course_rule_draftSize, rule_draft)
        else
          bd4 (q_X7_readLevel (0 : Int32) ((p2 + (1 : Int32))) text_limit text_atn6 course_rule_draftSize text_signs rule_draft) <| fun rn7 text_atn8 course_rule_draftSizen9 rule_draftn10 =>
          if rn7 = 0 then
            some ((0 : Int32), text_atn8, course_rule_draftSizen9, rule_draftn10)
          else
            bd2 (f_X9_take (41 : Int32) text_limit text_atn8 text_signs) <| fun rn11 text_atn12 =>
            if rn11 = 0 then
              some ((0 : Int32), text_atn12, course_rule_draftSizen9, rule_draftn10)
            else
              some ((1 : Int32), text_atn12, course_rule_draftSizen9, rule_draftn10)
    else
      bd2 (f_X7_emit (((1000 : Int32) + rn3)) course_rule_draftSize rule_draft) <| fun course_rule_draftSizen13 rule_draftn14 =>
      some ((1 : Int32), text_atn4, course_rule_draftSizen13, rule_draftn14)
  else
    bd2 (f_X7_emit rn1 course_rule_draftSize rule_draft) <| fun course_rule_draftSizen15 rule_draftn16 =>
    some ((1 : Int32), text_atn2, course_rule_draftSizen15, rule_draftn16)
def k_X7_readLevel_41 (text_at_41x : Int32) (course_rule_draftSize_41x : Int32) (rule_draft_41x : (Nat → Int32)) : Option (Int32 × Int32 × Int32 × (Nat → Int32)) :=
  some ((1 : Int32), text_at_41x, course_rule_draftSize_41x, rule_draft_41x)
def s_X7_readLevel_41 (q_X7_readLevel : Int32 → Int32 → Int32 → Int32 → Int32 → (Nat → Int32) → (Nat → Int32) → Option (Int32 × Int32 × Int32 × (Nat → Int32))) (p2 : Int32) (p3 : Int32) (text_limit : Int32) (text_signs : (Nat → Int32)) (t0_36j : Int32) (kk41 : Int32 → Int32 → (Nat → Int32) → Option (Int32 × Int32 × Int32 × (Nat → Int32))) (rc41 : Int32 → Int32 → Int32 → (Nat → Int32) → Option (Int32 × Int32 × Int32 × (Nat → Int32))) (v5_41 : Int32) (text_at_41 : Int32) (course_rule_draftSize_41 : Int32) (rule_draft_41 : (Nat → Int32)) : Option (Int32 × Int32 × Int32 × (Nat → Int32)) :=
  if t0_36j ≤ v5_41 then
    kk41 text_at_41 course_rule_draftSize_41 rule_draft_41
  else
    bd1 (f_X7_signsOf p2) <| fun rn5 =>
    bd2 (f_X9_oneOf rn5 text_limit text_at_41 text_signs) <| fun rn6 text_atn7 =>
    if 0 ≤ rn6 then
      bd4 (q_X7_readLevel ((p2 + (1 : Int32))) p3 text_limit text_atn7 course_rule_draftSize_41 text_signs rule_draft_41) <| fun rn8 text_atn9 course_rule_draftSizen10 rule_draftn11 =>
      if rn8 = 0 then
        some ((0 : Int32), text_atn9, course_rule_draftSizen10, rule_draftn11)
      else
        bd2 (f_X7_emit ((((2000 : Int32) + (p2 * (3 : Int32))) + rn6)) course_rule_draftSizen10 rule_draftn11) <| fun course_rule_draftSizen12 rule_draftn13 =>
        lt1 ((v5_41 + (1 : Int32))) <| fun v5n14 =>
        rc41 v5n14 text_atn9 course_rule_draftSizen12 rule_draftn13
    else
      some ((1 : Int32), text_atn7, course_rule_draftSize_41, rule_draft_41)
def j_X7_readLevel_36 (q_X7_readLevel : Int32 → Int32 → Int32 → Int32 → Int32 → (Nat → Int32) → (Nat → Int32) → Option (Int32 × Int32 × Int32 × (Nat → Int32))) (p2 : Int32) (p3 : Int32) (text_limit : Int32) (text_signs : (Nat → Int32)) (text_atn2 : Int32) (course_rule_draftSizen3 : Int32) (rule_draftn4 : (Nat → Int32)) (t0_36j : Int32) : Option (Int32 × Int32 × Int32 × (Nat → Int32)) :=
  ml4 (s_X7_readLevel_41 q_X7_readLevel p2 p3 text_limit text_signs t0_36j (k_X7_readLevel_41)) zN (0 : Int32) text_atn2 course_rule_draftSizen3 rule_draftn4
def g_X7_readLevel (q_X7_readBareThing : Int32 → Int32 → Int32 → Int32 → (Nat → Int32) → (Nat → Int32) → Option (Int32 × Int32 × Int32 × (Nat → Int32))) (q_X7_readLevel : Int32 → Int32 → Int32 → Int32 → Int32 → (Nat → Int32) → (Nat → Int32) → Option (Int32 × Int32 × Int32 × (Nat → Int32))) (q_X7_readThing : Int32 → Int32 → Int32 → Int32 → (Nat → Int32) → (Nat → Int32) → Option (Int32 × Int32 × Int32 × (Nat → Int32))) (p2 : Int32) (p3 : Int32) (text_limit : Int32) (text_at : Int32) (course_rule_draftSize : Int32) (text_signs : (Nat → Int32)) (rule_draft : (Nat → Int32)) : Option (Int32 × Int32 × Int32 × (Nat → Int32)) :=
  if p2 < (3 : Int32) then
    bd4 (q_X7_readLevel ((p2 + (1 : Int32))) p3 text_limit text_at course_rule_draftSize text_signs rule_draft) <| fun rn1 text_atn2 course_rule_draftSizen3 rule_draftn4 =>
    if rn1 = 0 then
      some ((0 : Int32), text_atn2, course_rule_draftSizen3, rule_draftn4)
    else
      if p2 = 0 then
        j_X7_readLevel_36 q_X7_readLevel p2 p3 text_limit text_signs text_atn2 course_rule_draftSizen3 rule_draftn4 (1 : Int32)
      else
        j_X7_readLevel_36 q_X7_readLevel p2 p3 text_limit text_signs text_atn2 course_rule_draftSizen3 rule_draftn4 (40 : Int32)
  else
    bd4 (q_X7_readThing p3 text_limit text_at course_rule_draftSize text_signs rule_draft) <| fun rn15 text_atn16 course_rule_draftSizen17 rule_draftn18 =>
    gd (bit rn15) <|
    some (rn15, text_atn16, course_rule_draftSizen17, rule_draftn18)
def k_X7_readThing_5 (q_X7_readBareThing : Int32 → Int32 → Int32 → Int32 → (Nat → Int32) → (Nat → Int32) → Option (Int32 × Int32 × Int32 × (Nat → Int32))) (p2 : Int32) (text_limit : Int32) (course_rule_draftSize : Int32) (text_signs : (Nat → Int32)) (rule_draft : (Nat → Int32)) (v3_5x : Int32) (text_at_5x : Int32) : Option (Int32 × Int32 × Int32 × (Nat → Int32)) :=
  bd4 (q_X7_readBareThing p2 text_limit text_at_5x course_rule_draftSize text_signs rule_draft) <| fun rn1 text_atn2 course_rule_draftSizen3 rule_draftn4 =>
  if rn1 = 0 then
    some ((0 : Int32), text_atn2, course_rule_draftSizen3, rule_draftn4)
  else
    if v3_5x = 0 then
      some ((1 : Int32), text_atn2, course_rule_draftSizen3, rule_draftn4)
    else
      bd2 (f_X7_emit (3000 : Int32) course_rule_draftSizen3 rule_draftn4) <| fun course_rule_draftSizen5 rule_draftn6 =>
      some ((1 : Int32), text_atn2, course_rule_draftSizen5, rule_draftn6)
def s_X7_readThing_5 (text_limit : Int32) (text_signs : (Nat → Int32)) (kk5 : Int32 → Int32 → Option (Int32 × Int32 × Int32 × (Nat → Int32))) (rc5 : Int32 → Int32 → Int32 → Option (Int32 × Int32 × Int32 × (Nat → Int32))) (v3_5 : Int32) (v4_5 : Int32) (text_at_5 : Int32) : Option (Int32 × Int32 × Int32 × (Nat → Int32)) :=
  if (40 : Int32) ≤ v4_5 then
    kk5 v3_5 text_at_5
  else
    bd2 (f_X9_take (45 : Int32) text_limit text_at_5 text_signs) <| fun rn7 text_atn8 =>
    if rn7 = 0 then
      kk5 v3_5 text_atn8
    else
      if v3_5 = 0 then
        lt1 ((v4_5 + (1 : Int32))) <| fun v4n10 =>
        rc5 (1 : Int32) v4n10 text_atn8
      else
        lt1 ((v4_5 + (1 : Int32))) <| fun v4n9 =>
        rc5 (0 : Int32) v4n9 text_atn8
def g_X7_readThing (q_X7_readBareThing : Int32 → Int32 → Int32 → Int32 → (Nat → Int32) → (Nat → Int32) → Option (Int32 × Int32 × Int32 × (Nat → Int32))) (q_X7_readLevel : Int32 → Int32 → Int32 → Int32 → Int32 → (Nat → Int32) → (Nat → Int32) → Option (Int32 × Int32 × Int32 × (Nat → Int32))) (q_X7_readThing : Int32 → Int32 → Int32 → Int32 → (Nat → Int32) → (Nat → Int32) → Option (Int32 × Int32 × Int32 × (Nat → Int32))) (p2 : Int32) (text_limit : Int32) (text_at : Int32) (course_rule_draftSize : Int32) (text_signs : (Nat → Int32)) (rule_draft : (Nat → Int32)) : Option (Int32 × Int32 × Int32 × (Nat → Int32)) :=
  ml3 (s_X7_readThing_5 text_limit text_signs (k_X7_readThing_5 q_X7_readBareThing p2 text_limit course_rule_draftSize text_signs rule_draft)) zN (0 : Int32) (0 : Int32) text_at
def G_X7_readBareThing : Nat → ((Int32 → Int32 → Int32 → Int32 → (Nat → Int32) → (Nat → Int32) → Option (Int32 × Int32 × Int32 × (Nat → Int32))) × (Int32 → Int32 → Int32 → Int32 → Int32 → (Nat → Int32) → (Nat → Int32) → Option (Int32 × Int32 × Int32 × (Nat → Int32))) × (Int32 → Int32 → Int32 → Int32 → (Nat → Int32) → (Nat → Int32) → Option (Int32 × Int32 × Int32 × (Nat → Int32))))
  | 0 => ((fun _ _ _ _ _ _ => none), (fun _ _ _ _ _ _ _ => none), (fun _ _ _ _ _ _ => none))
  | n + 1 => (g_X7_readBareThing (G_X7_readBareThing n).1 (G_X7_readBareThing n).2.1 (G_X7_readBareThing n).2.2, g_X7_readLevel (G_X7_readBareThing n).1 (G_X7_readBareThing n).2.1 (G_X7_readBareThing n).2.2, g_X7_readThing (G_X7_readBareThing n).1 (G_X7_readBareThing n).2.1 (G_X7_readBareThing n).2.2)
def f_X7_readBareThing (n : Nat) : (Int32 → Int32 → Int32 → Int32 → (Nat → Int32) → (Nat → Int32) → Option (Int32 × Int32 × Int32 × (Nat → Int32))) := (G_X7_readBareThing n).1
def f_X7_readLevel (n : Nat) : (Int32 → Int32 → Int32 → Int32 → Int32 → (Nat → Int32) → (Nat → Int32) → Option (Int32 × Int32 × Int32 × (Nat → Int32))) := (G_X7_readBareThing n).2.1
def f_X7_readThing (n : Nat) : (Int32 → Int32 → Int32 → Int32 → (Nat → Int32) → (Nat → Int32) → Option (Int32 × Int32 × Int32 × (Nat → Int32))) := (G_X7_readBareThing n).2.2
def j_X7_readRule_40 (rule_codes : (Nat → Int32)) (text_limitn1 : Int32) (text_at_40j : Int32) (course_rule_draftSize_40j : Int32) (rule_draft_40j : (Nat → Int32)) : Option (Int32 × Int32 × Int32 × Int32 × Int32 × (Nat → Int32) × (Nat → Int32)) :=
  gd (cpok (0 : Int32) (0 : Int32) course_rule_draftSize_40j 40 40) <|
  some ((0 : Int32), text_limitn1, text_at_40j, course_rule_draftSize_40j, course_rule_draftSize_40j, (va_cpy rule_draft_40j rule_codes (0 : Int32).toNatClampNeg (0 : Int32).toNatClampNeg course_rule_draftSize_40j.toNatClampNeg), rule_draft_40j)
def f_X7_readRule (text_size : Int32) (text_limit : Int32) (text_at : Int32) (course_rule_size : Int32) (course_rule_draftSize : Int32) (text_signs : (Nat → Int32)) (rule_codes : (Nat → Int32)) (rule_draft : (Nat → Int32)) : Option (Int32 × Int32 × Int32 × Int32 × Int32 × (Nat → Int32) × (Nat → Int32)) :=
  bd2 (f_X9_open (40 : Int32) text_size text_limit text_at) <| fun text_limitn1 text_atn2 =>
  bd1 (f_X9_isDone text_size text_atn2) <| fun rn3 =>
  if rn3 = 0 then
    bd4 (f_X7_readLevel 200 (0 : Int32) (0 : Int32) text_limitn1 text_atn2 (0 : Int32) text_signs rule_draft) <| fun rn4 text_atn5 course_rule_draftSizen6 rule_draftn7 =>
    if rn4 = 0 then
      bd1 (f_X9_fault text_atn5) <| fun rn8 =>
      some (rn8, text_limitn1, text_atn5, course_rule_size, course_rule_draftSizen6, rule_codes, rule_draftn7)
    else
      bd1 (f_X9_isDone text_size text_atn5) <| fun rn9 =>
      if rn9 = 0 then
        bd1 (f_X9_fault text_atn5) <| fun rn10 =>
        some (rn10, text_limitn1, text_atn5, course_rule_size, course_rule_draftSizen6, rule_codes, rule_draftn7)
      else
        j_X7_readRule_40 rule_codes text_limitn1 text_atn5 course_rule_draftSizen6 rule_draftn7
  else
    j_X7_readRule_40 rule_codes text_limitn1 text_atn2 (0 : Int32) rule_draft
def f_X11_rule (text_size : Int32) (text_limit : Int32) (text_at : Int32) (course_rule_size : Int32) (course_rule_draftSize : Int32) (text_signs : (Nat → Int32)) (rule_codes : (Nat → Int32)) (rule_draft : (Nat → Int32)) : Option (Int32 × Int32 × Int32 × Int32 × Int32 × Int32 × (Nat → Int32) × (Nat → Int32)) :=
  bd7 (f_X7_readRule text_size text_limit text_at course_rule_size course_rule_draftSize text_signs rule_codes rule_draft) <| fun rn1 text_limitn2 text_atn3 course_rule_sizen4 course_rule_draftSizen5 rule_codesn6 rule_draftn7 =>
  bd1 (f_X9_clear text_size) <| fun text_sizen8 =>
  some (rn1, text_sizen8, text_limitn2, text_atn3, course_rule_sizen4, course_rule_draftSizen5, rule_codesn6, rule_draftn7)
def k_X11_share_117 (text_sizen2 : Int32) (text_limitn3 : Int32) (text_atn4 : Int32) (play_playersn5 : Int32) (play_namedn6 : (Nat → Int32)) (play_plansn7 : Int32) (play_faultsn8 : (Nat → Int32)) (play_tenthsn9 : (Nat → Int32)) (play_placesn10 : (Nat → Int32)) (play_firstPlann11 : Int32) (rule_stackn12 : (Nat → Int32)) (rule_thingsn13 : (Nat → Int32)) (play_clearsn14 : (Nat → Int32)) (play_endsn15 : (Nat → Int32)) (play_worthn16 : (Nat → Int64)) (play_trialn17 : (Nat → Int64)) (v4_117x : Int32) (numbers_size_117x : Int32) (numbers_told_117x : (Nat → Int64)) : Option (Int32 × Int32 × Int32 × Int32 × Int32 × Int32 × Int32 × Int32 × (Nat → Int32) × (Nat → Int32) × (Nat → Int32) × (Nat → Int32) × (Nat → Int32) × (Nat → Int32) × (Nat → Int32) × (Nat → Int32) × (Nat → Int64) × (Nat → Int64) × (Nat → Int64)) :=
  if v4_117x = 0 then
    some ((0 : Int32), text_sizen2, text_limitn3, text_atn4, numbers_size_117x, play_playersn5, play_plansn7, play_firstPlann11, rule_stackn12, rule_thingsn13, play_namedn6, play_faultsn8, play_tenthsn9, play_placesn10, play_clearsn14, play_endsn15, numbers_told_117x, play_worthn16, play_trialn17)
  else
    some ((1 : Int32), text_sizen2, text_limitn3, text_atn4, numbers_size_117x, play_playersn5, play_plansn7, play_firstPlann11, rule_stackn12, rule_thingsn13, play_namedn6, play_faultsn8, play_tenthsn9, play_placesn10, play_clearsn14, play_endsn15, numbers_told_117x, play_worthn16, play_trialn17)
def s_X11_share_117 (play_playersn5 : Int32) (play_worthn16 : (Nat → Int64)) (v3n20 : Int32) (kk117 : Int32 → Int32 → (Nat → Int64) → Option (Int32 × Int32 × Int32 × Int32 × Int32 × Int32 × Int32 × Int32 × (Nat → Int32) × (Nat → Int32) × (Nat → Int32) × (Nat → Int32) × (Nat → Int32) × (Nat → Int32) × (Nat → Int32) × (Nat → Int32) × (Nat → Int64) × (Nat → Int64) × (Nat → Int64))) (rc117 : Int32 → Int32 → Int32 → (Nat → Int64) → Option (Int32 × Int32 × Int32 × Int32 × Int32 × Int32 × Int32 × Int32 × (Nat → Int32) × (Nat → Int32) × (Nat → Int32) × (Nat → Int32) × (Nat → Int32) × (Nat → Int32) × (Nat → Int32) × (Nat → Int32) × (Nat → Int64) × (Nat → Int64) × (Nat → Int64))) (v4_117 : Int32) (v5_117 : Int32) (numbers_size_117 : Int32) (numbers_told_117 : (Nat → Int64)) : Option (Int32 × Int32 × Int32 × Int32 × Int32 × Int32 × Int32 × Int32 × (Nat → Int32) × (Nat → Int32) × (Nat → Int32) × (Nat → Int32) × (Nat → Int32) × (Nat → Int32) × (Nat → Int32) × (Nat → Int32) × (Nat → Int64) × (Nat → Int64) × (Nat → Int64)) :=
  if play_playersn5 ≤ v5_117 then
    kk117 v4_117 numbers_size_117 numbers_told_117
  else
    bd1 (f_X3_won v5_117 play_playersn5 play_worthn16) <| fun rn24 =>
    bd1 (f_X3_scale play_playersn5) <| fun rn25 =>
    bd2 (f_X6_putFraction rn24 rn25 numbers_size_117 numbers_told_117) <| fun numbers_sizen26 numbers_toldn27 =>
    if v4_117 = 0 then
      lt1 ((v5_117 + (1 : Int32))) <| fun v5n28 =>
      rc117 (0 : Int32) v5n28 numbers_sizen26 numbers_toldn27
    else
      bd1 (f_X3_scale play_playersn5) <| fun rn29 =>
      bd1 (f_X3_won v5_117 play_playersn5 play_worthn16) <| fun rn30 =>
      if (lg_cmp (v3n20.toInt64 * rn29) ((2 : Int64) * rn30)) < 0 then
        lt1 ((v5_117 + (1 : Int32))) <| fun v5n31 =>
        rc117 (0 : Int32) v5n31 numbers_sizen26 numbers_toldn27
      else
        lt1 ((v5_117 + (1 : Int32))) <| fun v5n32 =>
        rc117 (1 : Int32) v5n32 numbers_sizen26 numbers_toldn27
def j_X11_share_31 (p1 : Int32) (text_limit : Int32) (text_at : Int32) (numbers_size : Int32) (course_fences : Int32) (course_horseCount : Int32) (course_planCount : Int32) (course_allowed : Int32) (course_rule_size : Int32) (rounds_size : Int32) (play_players : Int32) (play_plans : Int32) (play_firstPlan : Int32) (text_signs : (Nat → Int32)) (course_kinds : (Nat → Int32)) (course_heights : (Nat → Int32)) (course_feet : (Nat → Int32)) (course_digits : (Nat → Int32)) (course_plans : (Nat → Int32)) (rule_codes : (Nat → Int32)) (rule_stack : (Nat → Int32)) (rule_things : (Nat → Int32)) (rounds_faults : (Nat → Int32)) (rounds_tenths : (Nat → Int32)) (rounds_money : (Nat → Int32)) (play_named : (Nat → Int32)) (play_faults : (Nat → Int32)) (play_tenths : (Nat → Int32)) (play_places : (Nat → Int32)) (play_clears : (Nat → Int32)) (play_ends : (Nat → Int32)) (numbers_told : (Nat → Int64)) (play_worth : (Nat → Int64)) (play_trial : (Nat → Int64)) (text_size_31j : Int32) : Option (Int32 × Int32 × Int32 × Int32 × Int32 × Int32 × Int32 × Int32 × (Nat → Int32) × (Nat → Int32) × (Nat → Int32) × (Nat → Int32) × (Nat → Int32) × (Nat → Int32) × (Nat → Int32) × (Nat → Int32) × (Nat → Int64) × (Nat → Int64) × (Nat → Int64)) :=
  bd6 (f_X11_readPlayers (2 : Int32) (2 : Int32) text_size_31j text_limit text_at course_horseCount course_planCount play_players text_signs play_named) <| fun rn1 text_sizen2 text_limitn3 text_atn4 play_playersn5 play_namedn6 =>
  if 0 ≤ rn1 then
    bd4 (f_X3_begin course_fences course_planCount course_allowed rounds_size play_plans course_kinds course_feet course_plans rounds_faults rounds_tenths play_faults play_tenths play_places) <| fun play_plansn7 play_faultsn8 play_tenthsn9 play_placesn10 =>
    bd7 (f_X3_start (0 : Int32) course_fences course_rule_size play_playersn5 play_plansn7 play_firstPlan course_kinds course_heights course_feet course_digits course_plans rule_codes rule_stack rule_things rounds_money play_namedn6 play_faultsn8 play_tenthsn9 play_placesn10 play_clears play_ends play_worth play_trial) <| fun play_firstPlann11 rule_stackn12 rule_thingsn13 play_clearsn14 play_endsn15 play_worthn16 play_trialn17 =>
    bd1 (f_X10_moneyAt p1 rounds_money) <| fun rn18 =>
    bd1 (f_X10_moneyAt ((p1 + (1 : Int32))) rounds_money) <| fun rn19 =>
    lt1 ((rn18 + rn19)) <| fun v3n20 =>
    bd1 (f_X6_start numbers_size) <| fun numbers_sizen21 =>
    bd2 (f_X6_put (v3n20.toInt64) numbers_sizen21 numbers_told) <| fun numbers_sizen22 numbers_toldn23 =>
    ml4 (s_X11_share_117 play_playersn5 play_worthn16 v3n20 (k_X11_share_117 text_sizen2 text_limitn3 text_atn4 play_playersn5 play_namedn6 play_plansn7 play_faultsn8 play_tenthsn9 play_placesn10 play_firstPlann11 rule_stackn12 rule_thingsn13 play_clearsn14 play_endsn15 play_worthn16 play_trialn17)) zN (1 : Int32) (0 : Int32) numbers_sizen22 numbers_toldn23
  else
    some (rn1, text_sizen2, text_limitn3, text_atn4, numbers_size, play_playersn5, play_plans, play_firstPlan, rule_stack, rule_things, play_namedn6, play_faults, play_tenths, play_places, play_clears, play_ends, numbers_told, play_worth, play_trial)
def f_X11_share (p1 : Int32) (text_size : Int32) (text_limit : Int32) (text_at : Int32) (numbers_size : Int32) (course_fences : Int32) (course_horseCount : Int32) (course_planCount : Int32) (course_allowed : Int32) (course_rule_size : Int32) (rounds_size : Int32) (play_players : Int32) (play_plans : Int32) (play_firstPlan : Int32) (text_signs : (Nat → Int32)) (course_kinds : (Nat → Int32)) (course_heights : (Nat → Int32)) (course_feet : (Nat → Int32)) (course_digits : (Nat → Int32)) (course_plans : (Nat → Int32)) (rule_codes : (Nat → Int32)) (rule_stack : (Nat → Int32)) (rule_things : (Nat → Int32)) (rounds_faults : (Nat → Int32)) (rounds_tenths : (Nat → Int32)) (rounds_money : (Nat → Int32)) (play_named : (Nat → Int32)) (play_faults : (Nat → Int32)) (play_tenths : (Nat → Int32)) (play_places : (Nat → Int32)) (play_clears : (Nat → Int32)) (play_ends : (Nat → Int32)) (numbers_told : (Nat → Int64)) (play_worth : (Nat → Int64)) (play_trial : (Nat → Int64)) : Option (Int32 × Int32 × Int32 × Int32 × Int32 × Int32 × Int32 × Int32 × (Nat → Int32) × (Nat → Int32) × (Nat → Int32) × (Nat → Int32) × (Nat → Int32) × (Nat → Int32) × (Nat → Int32) × (Nat → Int32) × (Nat → Int64) × (Nat → Int64) × (Nat → Int64)) :=
  if course_planCount ≤ 0 then
    j_X11_share_31 p1 text_limit text_at numbers_size course_fences course_horseCount course_planCount course_allowed course_rule_size rounds_size play_players play_plans play_firstPlan text_signs course_kinds course_heights course_feet course_digits course_plans rule_codes rule_stack rule_things rounds_faults rounds_tenths rounds_money play_named play_faults play_tenths play_places play_clears play_ends numbers_told play_worth play_trial text_size
  else
    if p1 < (1 : Int32) then
      bd1 (f_X9_clear text_size) <| fun text_sizen33 =>
      some ((-200 : Int32), text_sizen33, text_limit, text_at, numbers_size, play_players, play_plans, play_firstPlan, rule_stack, rule_things, play_named, play_faults, play_tenths, play_places, play_clears, play_ends, numbers_told, play_worth, play_trial)
    else
      if p1 ≤ (5 : Int32) then
        j_X11_share_31 p1 text_limit text_at numbers_size course_fences course_horseCount course_planCount course_allowed course_rule_size rounds_size play_players play_plans play_firstPlan text_signs course_kinds course_heights course_feet course_digits course_plans rule_codes rule_stack rule_things rounds_faults rounds_tenths rounds_money play_named play_faults play_tenths play_places play_clears play_ends numbers_told play_worth play_trial text_size
      else
        bd1 (f_X9_clear text_size) <| fun text_sizen34 =>
        some ((-200 : Int32), text_sizen34, text_limit, text_at, numbers_size, play_players, play_plans, play_firstPlan, rule_stack, rule_things, play_named, play_faults, play_tenths, play_places, play_clears, play_ends, numbers_told, play_worth, play_trial)
def f_X11_sheetEntry (p0 : Int32) (p1 : Int32) : Option Int32 :=
  if p0 = 0 then
    lt1 ((p1).toInt8.toInt32) <| fun v2n2 =>
    some (if (0 : Int32) < (if v2n2 < (9 : Int32) then v2n2 else (9 : Int32)) then (if v2n2 < (9 : Int32) then v2n2 else (9 : Int32)) else (0 : Int32))
  else
    if p0 = (1 : Int32) then
      lt1 ((p1).toInt16.toInt32) <| fun v2n1 =>
      some (if (0 : Int32) < (if v2n1 < (9 : Int32) then v2n1 else (9 : Int32)) then (if v2n1 < (9 : Int32) then v2n1 else (9 : Int32)) else (0 : Int32))
    else
      some (if (0 : Int32) < (if p1 < (9 : Int32) then p1 else (9 : Int32)) then (if p1 < (9 : Int32) then p1 else (9 : Int32)) else (0 : Int32))
def k_X11_sheet_59 (t0_27j : Int32) (v7_59x : Int32) (course_heights_59x : (Nat → Int32)) : Option (Int32 × (Nat → Int32)) :=
  if t0_27j = 0 then
    some (v7_59x, course_heights_59x)
  else
    some ((-3 : Int32), course_heights_59x)
def s_X11_sheet_59 (p1 : Int32) (p3 : Int32) (p4 : Int32) (course_fences : Int32) (t0_51j : Int32) (kk59 : Int32 → (Nat → Int32) → Option (Int32 × (Nat → Int32))) (rc59 : Int32 → Int32 → (Nat → Int32) → Option (Int32 × (Nat → Int32))) (v7_59 : Int32) (v8_59 : Int32) (course_heights_59 : (Nat → Int32)) : Option (Int32 × (Nat → Int32)) :=
  if course_fences ≤ v8_59 then
    kk59 v7_59 course_heights_59
  else
    if t0_51j ≤ v8_59 then
      gd (ix v8_59 8) <|
      lt1 ((v7_59 + (0 : Int32))) <| fun v7n1 =>
      lt1 ((v8_59 + (1 : Int32))) <| fun v8n2 =>
      rc59 v7n1 v8n2 ((upd course_heights_59 v8_59.toNatClampNeg (0 : Int32)))
    else
      bd1 (f_X11_sheetEntry p1 ((p3 + (v8_59 * p4)))) <| fun rn3 =>
      gd (ix v8_59 8) <|
      lt1 ((v7_59 + rn3)) <| fun v7n4 =>
      lt1 ((v8_59 + (1 : Int32))) <| fun v8n5 =>
      rc59 v7n4 v8n5 ((upd course_heights_59 v8_59.toNatClampNeg rn3))
def j_X11_sheet_51 (p1 : Int32) (p3 : Int32) (p4 : Int32) (course_fences : Int32) (course_heights : (Nat → Int32)) (t0_27j : Int32) (t0_51j : Int32) : Option (Int32 × (Nat → Int32)) :=
  ml3 (s_X11_sheet_59 p1 p3 p4 course_fences t0_51j (k_X11_sheet_59 t0_27j)) zN (0 : Int32) (0 : Int32) course_heights
def j_X11_sheet_41 (p1 : Int32) (p2 : Int32) (p3 : Int32) (p4 : Int32) (course_fences : Int32) (course_heights : (Nat → Int32)) (t0_27j : Int32) (_u : Unit) : Option (Int32 × (Nat → Int32)) :=
  if t0_27j = 0 then
    j_X11_sheet_51 p1 p3 p4 course_fences course_heights t0_27j p2
  else
    j_X11_sheet_51 p1 p3 p4 course_fences course_heights t0_27j (0 : Int32)
def j_X11_sheet_27 (p1 : Int32) (p2 : Int32) (p3 : Int32) (p4 : Int32) (course_fences : Int32) (course_heights : (Nat → Int32)) (t0_27j : Int32) : Option (Int32 × (Nat → Int32)) :=
  if t0_27j = 0 then
    if 0 ≤ p2 then
      j_X11_sheet_41 p1 p2 p3 p4 course_fences course_heights t0_27j ()
    else
      some ((-2 : Int32), course_heights)
  else
    j_X11_sheet_41 p1 p2 p3 p4 course_fences course_heights t0_27j ()
def f_X11_sheet (p1 : Int32) (p2 : Int32) (p3 : Int32) (p4 : Int32) (course_fences : Int32) (course_heights : (Nat → Int32)) : Option (Int32 × (Nat → Int32)) :=
  if p1 < 0 then
    some ((-1 : Int32), course_heights)
  else
    if (3 : Int32) < p1 then
      some ((-1 : Int32), course_heights)
    else
      if p2 ≤ (8 : Int32) then
        if p1 = (3 : Int32) then
          j_X11_sheet_27 p1 p2 p3 p4 course_fences course_heights (1 : Int32)
        else
          j_X11_sheet_27 p1 p2 p3 p4 course_fences course_heights (0 : Int32)
      else
        some ((-1 : Int32), course_heights)
def j_X11_show_144 (numbers_size : Int32) (numbers_told : (Nat → Int64)) (text_limitn11 : Int32) (v2_52x : Int32) (v3_52x : Int32) (text_at_52x : Int32) (rounds_size_52x : Int32) (drawn_state_52x : Int32) (drawn_faults_52x : Int32) (drawn_tenths_52x : Int32) (drawn_refused_52x : Int32) (drawn_fallen_52x : Int32) (act_kind_52x : Int32) (act_rider_52x : Int32) (act_horse_52x : Int32) (act_third_52x : Int32) (act_fourth_52x : Int32) (rule_stack_52x : (Nat → Int32)) (rule_things_52x : (Nat → Int32)) (rounds_riders_52x : (Nat → Int32)) (rounds_horses_52x : (Nat → Int32)) (rounds_faults_52x : (Nat → Int32)) (rounds_tenths_52x : (Nat → Int32)) (text_sizen13 : Int32) (history_count_144j : Int32) (history_cells_144j : (Nat → Int32)) (history_sizes_144j : (Nat → Int32)) : Option (Int32 × Int32 × Int32 × Int32 × Int32 × Int32 × Int32 × Int32 × Int32 × Int32 × Int32 × Int32 × Int32 × Int32 × Int32 × Int32 × Int32 × (Nat → Int32) × (Nat → Int32) × (Nat → Int32) × (Nat → Int32) × (Nat → Int32) × (Nat → Int32) × (Nat → Int32) × (Nat → Int32) × (Nat → Int64)) :=
  bd1 (f_X6_start numbers_size) <| fun numbers_sizen14 =>
  if v3_52x = 0 then
    bd2 (f_X6_put (0 : Int64) numbers_sizen14 numbers_told) <| fun numbers_sizen15 numbers_toldn16 =>
    bd2 (f_X6_put (rounds_size_52x.toInt64) numbers_sizen15 numbers_toldn16) <| fun numbers_sizen17 numbers_toldn18 =>
    some (v2_52x, text_sizen13, text_limitn11, text_at_52x, numbers_sizen17, rounds_size_52x, history_count_144j, drawn_state_52x, drawn_faults_52x, drawn_tenths_52x, drawn_refused_52x, drawn_fallen_52x, act_kind_52x, act_rider_52x, act_horse_52x, act_third_52x, act_fourth_52x, rule_stack_52x, rule_things_52x, rounds_riders_52x, rounds_horses_52x, rounds_faults_52x, rounds_tenths_52x, history_cells_144j, history_sizes_144j, numbers_toldn18)
  else
    bd2 (f_X6_put (1 : Int64) numbers_sizen14 numbers_told) <| fun numbers_sizen19 numbers_toldn20 =>
    bd2 (f_X6_put (rounds_size_52x.toInt64) numbers_sizen19 numbers_toldn20) <| fun numbers_sizen21 numbers_toldn22 =>
    some (v2_52x, text_sizen13, text_limitn11, text_at_52x, numbers_sizen21, rounds_size_52x, history_count_144j, drawn_state_52x, drawn_faults_52x, drawn_tenths_52x, drawn_refused_52x, drawn_fallen_52x, act_kind_52x, act_rider_52x, act_horse_52x, act_third_52x, act_fourth_52x, rule_stack_52x, rule_things_52x, rounds_riders_52x, rounds_horses_52x, rounds_faults_52x, rounds_tenths_52x, history_cells_144j, history_sizes_144j, numbers_toldn22)
def k_X11_show_52 (text_size : Int32) (numbers_size : Int32) (history_slots : Int32) (history_count : Int32) (numbers_told : (Nat → Int64)) (history_cellsn9 : (Nat → Int32)) (history_sizesn10 : (Nat → Int32)) (text_limitn11 : Int32) (v2_52x : Int32) (v3_52x : Int32) (text_at_52x : Int32) (rounds_size_52x : Int32) (drawn_state_52x : Int32) (drawn_faults_52x : Int32) (drawn_tenths_52x : Int32) (drawn_refused_52x : Int32) (drawn_fallen_52x : Int32) (act_kind_52x : Int32) (act_rider_52x : Int32) (act_horse_52x : Int32) (act_third_52x : Int32) (act_fourth_52x : Int32) (rule_stack_52x : (Nat → Int32)) (rule_things_52x : (Nat → Int32)) (rounds_riders_52x : (Nat → Int32)) (rounds_horses_52x : (Nat → Int32)) (rounds_faults_52x : (Nat → Int32)) (rounds_tenths_52x : (Nat → Int32)) : Option (Int32 × Int32 × Int32 × Int32 × Int32 × Int32 × Int32 × Int32 × Int32 × Int32 × Int32 × Int32 × Int32 × Int32 × Int32 × Int32 × Int32 × (Nat → Int32) × (Nat → Int32) × (Nat → Int32) × (Nat → Int32) × (Nat → Int32) × (Nat → Int32) × (Nat → Int32) × (Nat → Int32) × (Nat → Int64)) :=
  bd1 (f_X9_clear text_size) <| fun text_sizen13 =>
  if v2_52x ≤ 0 then
    j_X11_show_144 numbers_size numbers_told text_limitn11 v2_52x v3_52x text_at_52x rounds_size_52x drawn_state_52x drawn_faults_52x drawn_tenths_52x drawn_refused_52x drawn_fallen_52x act_kind_52x act_rider_52x act_horse_52x act_third_52x act_fourth_52x rule_stack_52x rule_things_52x rounds_riders_52x rounds_horses_52x rounds_faults_52x rounds_tenths_52x text_sizen13 history_count history_cellsn9 history_sizesn10
  else
    bd3 (f_X8_commit_history history_slots history_count history_cellsn9 history_sizesn10) <| fun history_countn23 history_cellsn24 history_sizesn25 =>
    j_X11_show_144 numbers_size numbers_told text_limitn11 v2_52x v3_52x text_at_52x rounds_size_52x drawn_state_52x drawn_faults_52x drawn_tenths_52x drawn_refused_52x drawn_fallen_52x act_kind_52x act_rider_52x act_horse_52x act_third_52x act_fourth_52x rule_stack_52x rule_things_52x rounds_riders_52x rounds_horses_52x rounds_faults_52x rounds_tenths_52x text_sizen13 history_countn23 history_cellsn24 history_sizesn25
def s_X11_show_52 (text_size : Int32) (course_fences : Int32) (course_horseCount : Int32) (course_planCount : Int32) (course_allowed : Int32) (course_rule_size : Int32) (text_signs : (Nat → Int32)) (course_kinds : (Nat → Int32)) (course_heights : (Nat → Int32)) (course_feet : (Nat → Int32)) (course_digits : (Nat → Int32)) (course_plans : (Nat → Int32)) (rule_codes : (Nat → Int32)) (text_limitn11 : Int32) (kk52 : Int32 → Int32 → Int32 → Int32 → Int32 → Int32 → Int32 → Int32 → Int32 → Int32 → Int32 → Int32 → Int32 → Int32 → (Nat → Int32) → (Nat → Int32) → (Nat → Int32) → (Nat → Int32) → (Nat → Int32) → (Nat → Int32) → Option (Int32 × Int32 × Int32 × Int32 × Int32 × Int32 × Int32 × Int32 × Int32 × Int32 × Int32 × Int32 × Int32 × Int32 × Int32 × Int32 × Int32 × (Nat → Int32) × (Nat → Int32) × (Nat → Int32) × (Nat → Int32) × (Nat → Int32) × (Nat → Int32) × (Nat → Int32) × (Nat → Int32) × (Nat → Int64))) (rc52 : Int32 → Int32 → Int32 → Int32 → Int32 → Int32 → Int32 → Int32 → Int32 → Int32 → Int32 → Int32 → Int32 → Int32 → Int32 → (Nat → Int32) → (Nat → Int32) → (Nat → Int32) → (Nat → Int32) → (Nat → Int32) → (Nat → Int32) → Option (Int32 × Int32 × Int32 × Int32 × Int32 × Int32 × Int32 × Int32 × Int32 × Int32 × Int32 × Int32 × Int32 × Int32 × Int32 × Int32 × Int32 × (Nat → Int32) × (Nat → Int32) × (Nat → Int32) × (Nat → Int32) × (Nat → Int32) × (Nat → Int32) × (Nat → Int32) × (Nat → Int32) × (Nat → Int64))) (v2_52 : Int32) (v3_52 : Int32) (v4_52 : Int32) (text_at_52 : Int32) (rounds_size_52 : Int32) (drawn_state_52 : Int32) (drawn_faults_52 : Int32) (drawn_tenths_52 : Int32) (drawn_refused_52 : Int32) (drawn_fallen_52 : Int32) (act_kind_52 : Int32) (act_rider_52 : Int32) (act_horse_52 : Int32) (act_third_52 : Int32) (act_fourth_52 : Int32) (rule_stack_52 : (Nat → Int32)) (rule_things_52 : (Nat → Int32)) (rounds_riders_52 : (Nat → Int32)) (rounds_horses_52 : (Nat → Int32)) (rounds_faults_52 : (Nat → Int32)) (rounds_tenths_52 : (Nat → Int32)) : Option (Int32 × Int32 × Int32 × Int32 × Int32 × Int32 × Int32 × Int32 × Int32 × Int32 × Int32 × Int32 × Int32 × Int32 × Int32 × Int32 × Int32 × (Nat → Int32) × (Nat → Int32) × (Nat → Int32) × (Nat → Int32) × (Nat → Int32) × (Nat → Int32) × (Nat → Int32) × (Nat → Int32) × (Nat → Int64)) :=
  if (60 : Int32) ≤ v4_52 then
    kk52 v2_52 v3_52 text_at_52 rounds_size_52 drawn_state_52 drawn_faults_52 drawn_tenths_52 drawn_refused_52 drawn_fallen_52 act_kind_52 act_rider_52 act_horse_52 act_third_52 act_fourth_52 rule_stack_52 rule_things_52 rounds_riders_52 rounds_horses_52 rounds_faults_52 rounds_tenths_52
  else
    if v3_52 = 0 then
      bd1 (f_X9_isDone text_size text_at_52) <| fun rn26 =>
      if rn26 = 0 then
        bd7 (f_X0_read text_limitn11 text_at_52 act_kind_52 act_rider_52 act_horse_52 act_third_52 act_fourth_52 text_signs) <| fun rn27 text_atn28 act_kindn29 act_ridern30 act_horsen31 act_thirdn32 act_fourthn33 =>
        bd2 (f_X9_take (59 : Int32) text_limitn11 text_atn28 text_signs) <| fun rn34 text_atn35 =>
        bd13 (f_X11_perform course_fences course_horseCount course_planCount course_allowed course_rule_size rounds_size_52 drawn_state_52 drawn_faults_52 drawn_tenths_52 drawn_refused_52 drawn_fallen_52 act_kindn29 act_ridern30 act_horsen31 act_thirdn32 act_fourthn33 course_kinds course_heights course_feet course_digits course_plans rule_codes rule_stack_52 rule_things_52 rounds_riders_52 rounds_horses_52 rounds_faults_52 rounds_tenths_52) <| fun rn36 rounds_sizen37 drawn_staten38 drawn_faultsn39 drawn_tenthsn40 drawn_refusedn41 drawn_fallenn42 rule_stackn43 rule_thingsn44 rounds_ridersn45 rounds_horsesn46 rounds_faultsn47 rounds_tenthsn48 =>
        if rn36 = 0 then
          lt1 ((v2_52 + (0 : Int32))) <| fun v2n51 =>
          lt1 ((v4_52 + (1 : Int32))) <| fun v4n52 =>
          rc52 v2n51 (1 : Int32) v4n52 text_atn35 rounds_sizen37 drawn_staten38 drawn_faultsn39 drawn_tenthsn40 drawn_refusedn41 drawn_fallenn42 act_kindn29 act_ridern30 act_horsen31 act_thirdn32 act_fourthn33 rule_stackn43 rule_thingsn44 rounds_ridersn45 rounds_horsesn46 rounds_faultsn47 rounds_tenthsn48
        else
          lt1 ((v2_52 + (1 : Int32))) <| fun v2n49 =>
          lt1 ((v4_52 + (1 : Int32))) <| fun v4n50 =>
          rc52 v2n49 (0 : Int32) v4n50 text_atn35 rounds_sizen37 drawn_staten38 drawn_faultsn39 drawn_tenthsn40 drawn_refusedn41 drawn_fallenn42 act_kindn29 act_ridern30 act_horsen31 act_thirdn32 act_fourthn33 rule_stackn43 rule_thingsn44 rounds_ridersn45 rounds_horsesn46 rounds_faultsn47 rounds_tenthsn48
      else
        kk52 v2_52 v3_52 text_at_52 rounds_size_52 drawn_state_52 drawn_faults_52 drawn_tenths_52 drawn_refused_52 drawn_fallen_52 act_kind_52 act_rider_52 act_horse_52 act_third_52 act_fourth_52 rule_stack_52 rule_things_52 rounds_riders_52 rounds_horses_52 rounds_faults_52 rounds_tenths_52
    else
      kk52 v2_52 v3_52 text_at_52 rounds_size_52 drawn_state_52 drawn_faults_52 drawn_tenths_52 drawn_refused_52 drawn_fallen_52 act_kind_52 act_rider_52 act_horse_52 act_third_52 act_fourth_52 rule_stack_52 rule_things_52 rounds_riders_52 rounds_horses_52 rounds_faults_52 rounds_tenths_52
def f_X11_show (text_size : Int32) (text_limit : Int32) (text_at : Int32) (numbers_size : Int32) (course_fences : Int32) (course_horseCount : Int32) (course_planCount : Int32) (course_allowed : Int32) (course_rule_size : Int32) (rounds_size : Int32) (history_slots : Int32) (history_count : Int32) (drawn_state : Int32) (drawn_faults : Int32) (drawn_tenths : Int32) (drawn_refused : Int32) (drawn_fallen : Int32) (act_kind : Int32) (act_rider : Int32) (act_horse : Int32) (act_third : Int32) (act_fourth : Int32) (text_signs : (Nat → Int32)) (course_kinds : (Nat → Int32)) (course_heights : (Nat → Int32)) (course_feet : (Nat → Int32)) (course_digits : (Nat → Int32)) (course_plans : (Nat → Int32)) (rule_codes : (Nat → Int32)) (rule_stack : (Nat → Int32)) (rule_things : (Nat → Int32)) (rounds_riders : (Nat → Int32)) (rounds_horses : (Nat → Int32)) (rounds_faults : (Nat → Int32)) (rounds_tenths : (Nat → Int32)) (history_cells : (Nat → Int32)) (history_sizes : (Nat → Int32)) (numbers_told : (Nat → Int64)) : Option (Int32 × Int32 × Int32 × Int32 × Int32 × Int32 × Int32 × Int32 × Int32 × Int32 × Int32 × Int32 × Int32 × Int32 × Int32 × Int32 × Int32 × (Nat → Int32) × (Nat → Int32) × (Nat → Int32) × (Nat → Int32) × (Nat → Int32) × (Nat → Int32) × (Nat → Int32) × (Nat → Int32) × (Nat → Int64)) :=
  bd8 (f_X0_check text_size text_limit text_at act_kind act_rider act_horse act_third act_fourth text_signs) <| fun rn1 text_limitn2 text_atn3 act_kindn4 act_ridern5 act_horsen6 act_thirdn7 act_fourthn8 =>
  if 0 ≤ rn1 then
    bd2 (f_X8_mark_history rounds_size history_slots history_count rounds_riders rounds_horses rounds_faults rounds_tenths history_cells history_sizes) <| fun history_cellsn9 history_sizesn10 =>
    bd2 (f_X9_open (60 : Int32) text_size text_limitn2 text_atn3) <| fun text_limitn11 text_atn12 =>
    ml21 (s_X11_show_52 text_size course_fences course_horseCount course_planCount course_allowed course_rule_size text_signs course_kinds course_heights course_feet course_digits course_plans rule_codes text_limitn11 (k_X11_show_52 text_size numbers_size history_slots history_count numbers_told history_cellsn9 history_sizesn10 text_limitn11)) zN (0 : Int32) (0 : Int32) (0 : Int32) text_atn12 rounds_size drawn_state drawn_faults drawn_tenths drawn_refused drawn_fallen act_kindn4 act_ridern5 act_horsen6 act_thirdn7 act_fourthn8 rule_stack rule_things rounds_riders rounds_horses rounds_faults rounds_tenths
  else
    bd1 (f_X9_clear text_size) <| fun text_sizen53 =>
    some (rn1, text_sizen53, text_limitn2, text_atn3, numbers_size, rounds_size, history_count, drawn_state, drawn_faults, drawn_tenths, drawn_refused, drawn_fallen, act_kindn4, act_ridern5, act_horsen6, act_thirdn7, act_fourthn8, rule_stack, rule_things, rounds_riders, rounds_horses, rounds_faults, rounds_tenths, history_cells, history_sizes, numbers_told)
def k_X9_add_14 (text_size_14x : Int32) (text_signs_14x : (Nat → Int32)) : Option (Int32 × Int32 × (Nat → Int32)) :=
  some (text_size_14x, text_size_14x, text_signs_14x)
def s_X9_add_14 (p1 : Int32) (kk14 : Int32 → (Nat → Int32) → Option (Int32 × Int32 × (Nat → Int32))) (rc14 : Int32 → Int32 → (Nat → Int32) → Option (Int32 × Int32 × (Nat → Int32))) (v2_14 : Int32) (text_size_14 : Int32) (text_signs_14 : (Nat → Int32)) : Option (Int32 × Int32 × (Nat → Int32)) :=
  if v2_14 < 0 then
    kk14 text_size_14 text_signs_14
  else
    gd (ix text_size_14 80) <|
    lt1 ((v2_14 + (-8 : Int32))) <| fun v2n1 =>
    rc14 v2n1 ((text_size_14 + (1 : Int32))) ((upd text_signs_14 text_size_14.toNatClampNeg (vp_nar .char (((((p1).toUInt32 >>> ((v2_14).toUInt32 &&& Int32.toUInt32 31)).toInt32 &&& (255 : Int32))).toUInt32 % 65536).toInt32)))
def f_X9_add (p1 : Int32) (text_size : Int32) (text_signs : (Nat → Int32)) : Option (Int32 × Int32 × (Nat → Int32)) :=
  if text_size ≤ (76 : Int32) then
    ml3 (s_X9_add_14 p1 (k_X9_add_14)) zN (24 : Int32) text_size text_signs
  else
    some ((-1 : Int32), text_size, text_signs)
def f_X11_sign (p1 : Int32) (text_size : Int32) (text_signs : (Nat → Int32)) : Option (Int32 × Int32 × (Nat → Int32)) :=
  bd3 (f_X9_add p1 text_size text_signs) <| fun rn1 text_sizen2 text_signsn3 =>
  some (rn1, text_sizen2, text_signsn3)
def j_X11_strides_91 (numbers_size : Int32) (numbers_told : (Nat → Int64)) (t0_57j : Int32) (rn6 : Int32) (t0_91j : Int32) : Option (Int32 × Int32 × (Nat → Int64)) :=
  bd1 (f_X6_start numbers_size) <| fun numbers_sizen7 =>
  bd2 (f_X6_put (rn6.toInt64) numbers_sizen7 numbers_told) <| fun numbers_sizen8 numbers_toldn9 =>
  bd2 (f_X6_put (t0_91j.toInt64) numbers_sizen8 numbers_toldn9) <| fun numbers_sizen10 numbers_toldn11 =>
  some ((t0_57j + t0_91j), numbers_sizen10, numbers_toldn11)
def j_X11_strides_57 (p1 : Int32) (p2 : Int32) (numbers_size : Int32) (course_feet : (Nat → Int32)) (course_digits : (Nat → Int32)) (numbers_told : (Nat → Int64)) (rn3 : Int32) (v4n4 : Int32) (t0_57j : Int32) : Option (Int32 × Int32 × (Nat → Int64)) :=
  lt1 ((v4n4 - (t0_57j * rn3))) <| fun v6n5 =>
  bd1 (f_X1_leanAt p1 p2 course_feet course_digits) <| fun rn6 =>
  if v6n5 ≤ rn6 then
    j_X11_strides_91 numbers_size numbers_told t0_57j rn6 (0 : Int32)
  else
    j_X11_strides_91 numbers_size numbers_told t0_57j rn6 (1 : Int32)
def f_X11_strides (p1 : Int32) (p2 : Int32) (numbers_size : Int32) (course_fences : Int32) (course_horseCount : Int32) (course_feet : (Nat → Int32)) (course_digits : (Nat → Int32)) (numbers_told : (Nat → Int64)) : Option (Int32 × Int32 × (Nat → Int64)) :=
  bd1 (f_X1_hasHorse p1 course_horseCount) <| fun rn1 =>
  if rn1 = 0 then
    some ((-1 : Int32), numbers_size, numbers_told)
  else
    bd1 (f_X1_hasFence p2 course_fences) <| fun rn2 =>
    if rn2 = 0 then
      some ((-1 : Int32), numbers_size, numbers_told)
    else
      bd1 (f_X1_ofHorse p1 (0 : Int32) course_digits) <| fun rn3 =>
      gd (ix p2 8) <|
      lt1 ((course_feet p2.toNatClampNeg)) <| fun v4n4 =>
      if rn3 ≤ 0 then
        j_X11_strides_57 p1 p2 numbers_size course_feet course_digits numbers_told rn3 v4n4 (0 : Int32)
      else
        gd (nz rn3) <|
        j_X11_strides_57 p1 p2 numbers_size course_feet course_digits numbers_told rn3 v4n4 ((v4n4 / rn3))
def f_X11_sure (p1 : Int32) (numbers_size : Int32) (course_fences : Int32) (course_horseCount : Int32) (course_allowed : Int32) (course_rule_size : Int32) (letters_fences : Int32) (course_kinds : (Nat → Int32)) (course_heights : (Nat → Int32)) (course_feet : (Nat → Int32)) (course_digits : (Nat → Int32)) (rule_codes : (Nat → Int32)) (rule_stack : (Nat → Int32)) (rule_things : (Nat → Int32)) (letters_fears : (Nat → Int32)) (letters_tenths : (Nat → Int32)) (letters_least : (Nat → Int32)) (letters_spans : (Nat → Int32)) (numbers_told : (Nat → Int64)) : Option (Int32 × Int32 × Int32 × (Nat → Int32) × (Nat → Int32) × (Nat → Int32) × (Nat → Int32) × (Nat → Int32) × (Nat → Int32) × (Nat → Int64)) :=
  bd1 (f_X1_hasHorse p1 course_horseCount) <| fun rn1 =>
  if rn1 = 0 then
    some ((-1 : Int32), numbers_size, letters_fences, rule_stack, rule_things, letters_fears, letters_tenths, letters_least, letters_spans, numbers_told)
  else
    bd10 (f_X11_leastFear p1 course_allowed numbers_size course_fences course_rule_size letters_fences course_kinds course_heights course_feet course_digits rule_codes rule_stack rule_things letters_fears letters_tenths letters_least letters_spans numbers_told) <| fun rn2 numbers_sizen3 letters_fencesn4 rule_stackn5 rule_thingsn6 letters_fearsn7 letters_tenthsn8 letters_leastn9 letters_spansn10 numbers_toldn11 =>
    some (rn2, numbers_sizen3, letters_fencesn4, rule_stackn5, rule_thingsn6, letters_fearsn7, letters_tenthsn8, letters_leastn9, letters_spansn10, numbers_toldn11)
def k_X11_table_22 (numbers_sizen1 : Int32) (numbers_toldn2 : (Nat → Int64)) (v1_22x : Int32) : Option (Int32 × Int32 × (Nat → Int64)) :=
  some (v1_22x, numbers_sizen1, numbers_toldn2)
def s_X11_table_22 (rounds_size : Int32) (rounds_faults : (Nat → Int32)) (kk22 : Int32 → Option (Int32 × Int32 × (Nat → Int64))) (rc22 : Int32 → Int32 → Option (Int32 × Int32 × (Nat → Int64))) (v1_22 : Int32) (v2_22 : Int32) : Option (Int32 × Int32 × (Nat → Int64)) :=
  if rounds_size ≤ v2_22 then
    kk22 v1_22
  else
    gd (ix v2_22 12) <|
    if (rounds_faults v2_22.toNatClampNeg) = 0 then
      lt1 ((v1_22 + (1 : Int32))) <| fun v1n5 =>
      lt1 ((v2_22 + (1 : Int32))) <| fun v2n6 =>
      rc22 v1n5 v2n6
    else
      lt1 ((v1_22 + (0 : Int32))) <| fun v1n3 =>
      lt1 ((v2_22 + (1 : Int32))) <| fun v2n4 =>
      rc22 v1n3 v2n4
def f_X11_table (numbers_size : Int32) (rounds_size : Int32) (rounds_faults : (Nat → Int32)) (rounds_tenths : (Nat → Int32)) (numbers_told : (Nat → Int64)) : Option (Int32 × Int32 × (Nat → Int64)) :=
  bd2 (f_X10_tellOrder_rounds_faults numbers_size rounds_size rounds_faults rounds_tenths numbers_told) <| fun numbers_sizen1 numbers_toldn2 =>
  ml2 (s_X11_table_22 rounds_size rounds_faults (k_X11_table_22 numbers_sizen1 numbers_toldn2)) zN (0 : Int32) (0 : Int32)
def f_X11_through (p1 : Int32) (p2 : Int32) (numbers_size : Int32) (course_fences : Int32) (course_horseCount : Int32) (course_planCount : Int32) (course_rule_size : Int32) (course_kinds : (Nat → Int32)) (course_heights : (Nat → Int32)) (course_feet : (Nat → Int32)) (course_digits : (Nat → Int32)) (course_plans : (Nat → Int32)) (rule_codes : (Nat → Int32)) (rule_stack : (Nat → Int32)) (rule_things : (Nat → Int32)) (numbers_told : (Nat → Int64)) : Option (Int32 × Int32 × (Nat → Int32) × (Nat → Int32) × (Nat → Int64)) :=
  bd1 (f_X1_hasPlan p1 course_planCount) <| fun rn1 =>
  if rn1 = 0 then
    some ((-1 : Int32), numbers_size, rule_stack, rule_things, numbers_told)
  else
    if p2 < 0 then
      some ((-1 : Int32), numbers_size, rule_stack, rule_things, numbers_told)
    else
      if p2 ≤ (10000 : Int32) then
        bd3 (f_X11_bitsThrough p1 p2 course_fences course_horseCount course_rule_size course_kinds course_heights course_feet course_digits course_plans rule_codes rule_stack rule_things) <| fun rn2 rule_stackn3 rule_thingsn4 =>
        bd1 (f_X6_start numbers_size) <| fun numbers_sizen5 =>
        bd1 (f_J6_bitCount_0f7a4 rn2) <| fun rn6 =>
        bd2 (f_X6_put (rn6.toInt64) numbers_sizen5 numbers_told) <| fun numbers_sizen7 numbers_toldn8 =>
        some (rn2, numbers_sizen7, rule_stackn3, rule_thingsn4, numbers_toldn8)
      else
        some ((-1 : Int32), numbers_size, rule_stack, rule_things, numbers_told)
def f_X11_told (p1 : Int32) (p2 : Int32) (p3 : Int32) (p4 : Int32) (course_horseCount : Int32) (rounds_size : Int32) (history_slots : Int32) (history_count : Int32) (rounds_riders : (Nat → Int32)) (rounds_horses : (Nat → Int32)) (rounds_faults : (Nat → Int32)) (rounds_tenths : (Nat → Int32)) (history_cells : (Nat → Int32)) (history_sizes : (Nat → Int32)) : Option (Int32 × Int32 × Int32 × (Nat → Int32) × (Nat → Int32) × (Nat → Int32) × (Nat → Int32) × (Nat → Int32) × (Nat → Int32)) :=
  bd2 (f_X8_mark_history rounds_size history_slots history_count rounds_riders rounds_horses rounds_faults rounds_tenths history_cells history_sizes) <| fun history_cellsn1 history_sizesn2 =>
  bd6 (f_X11_addTold p1 p2 p3 p4 course_horseCount rounds_size rounds_riders rounds_horses rounds_faults rounds_tenths) <| fun rn3 rounds_sizen4 rounds_ridersn5 rounds_horsesn6 rounds_faultsn7 rounds_tenthsn8 =>
  if rn3 < 0 then
    some (rn3, rounds_sizen4, history_count, rounds_ridersn5, rounds_horsesn6, rounds_faultsn7, rounds_tenthsn8, history_cellsn1, history_sizesn2)
  else
    bd3 (f_X8_commit_history history_slots history_count history_cellsn1 history_sizesn2) <| fun history_countn9 history_cellsn10 history_sizesn11 =>
    some (rn3, rounds_sizen4, history_countn9, rounds_ridersn5, rounds_horsesn6, rounds_faultsn7, rounds_tenthsn8, history_cellsn10, history_sizesn11)
def f_X8_load_history (p1 : Int32) (rounds_size : Int32) (history_slots : Int32) (rounds_riders : (Nat → Int32)) (rounds_horses : (Nat → Int32)) (rounds_faults : (Nat → Int32)) (rounds_tenths : (Nat → Int32)) (history_cells : (Nat → Int32)) (history_sizes : (Nat → Int32)) : Option (Int32 × Int32 × (Nat → Int32) × (Nat → Int32) × (Nat → Int32) × (Nat → Int32)) :=
  if p1 < 0 then
    some ((0 : Int32), rounds_size, rounds_riders, rounds_horses, rounds_faults, rounds_tenths)
  else
    if history_slots ≤ p1 then
      some ((0 : Int32), rounds_size, rounds_riders, rounds_horses, rounds_faults, rounds_tenths)
    else
      gd (ix p1 13) <|
      if (history_sizes p1.toNatClampNeg) = (-1 : Int32) then
        some ((0 : Int32), rounds_size, rounds_riders, rounds_horses, rounds_faults, rounds_tenths)
      else
        lt1 ((p1 * (48 : Int32))) <| fun v3n1 =>
        gd (cpok v3n1 (0 : Int32) (12 : Int32) 624 12) <|
        gd (cpok (v3n1 + (12 : Int32)) (0 : Int32) (12 : Int32) 624 12) <|
        gd (cpok (v3n1 + (24 : Int32)) (0 : Int32) (12 : Int32) 624 12) <|
        gd (cpok (v3n1 + (36 : Int32)) (0 : Int32) (12 : Int32) 624 12) <|
        gd (ix p1 13) <|
        some ((1 : Int32), (history_sizes p1.toNatClampNeg), (va_cpy history_cells rounds_riders v3n1.toNatClampNeg (0 : Int32).toNatClampNeg (12 : Int32).toNatClampNeg), (va_cpy history_cells rounds_horses (v3n1 + (12 : Int32)).toNatClampNeg (0 : Int32).toNatClampNeg (12 : Int32).toNatClampNeg), (va_cpy history_cells rounds_faults (v3n1 + (24 : Int32)).toNatClampNeg (0 : Int32).toNatClampNeg (12 : Int32).toNatClampNeg), (va_cpy history_cells rounds_tenths (v3n1 + (36 : Int32)).toNatClampNeg (0 : Int32).toNatClampNeg (12 : Int32).toNatClampNeg))
def f_X8_back_history (rounds_size : Int32) (history_slots : Int32) (history_count : Int32) (rounds_riders : (Nat → Int32)) (rounds_horses : (Nat → Int32)) (rounds_faults : (Nat → Int32)) (rounds_tenths : (Nat → Int32)) (history_cells : (Nat → Int32)) (history_sizes : (Nat → Int32)) : Option (Int32 × Int32 × Int32 × (Nat → Int32) × (Nat → Int32) × (Nat → Int32) × (Nat → Int32)) :=
  if history_count = 0 then
    some ((-1 : Int32), rounds_size, history_count, rounds_riders, rounds_horses, rounds_faults, rounds_tenths)
  else
    bd6 (f_X8_load_history ((history_count - (1 : Int32))) rounds_size history_slots rounds_riders rounds_horses rounds_faults rounds_tenths history_cells history_sizes) <| fun rn1 rounds_sizen2 rounds_ridersn3 rounds_horsesn4 rounds_faultsn5 rounds_tenthsn6 =>
    if rn1 = 0 then
      some ((-1 : Int32), rounds_sizen2, history_count, rounds_ridersn3, rounds_horsesn4, rounds_faultsn5, rounds_tenthsn6)
    else
      some ((history_count - (1 : Int32)), rounds_sizen2, (history_count - (1 : Int32)), rounds_ridersn3, rounds_horsesn4, rounds_faultsn5, rounds_tenthsn6)
def f_X11_undo (rounds_size : Int32) (history_slots : Int32) (history_count : Int32) (rounds_riders : (Nat → Int32)) (rounds_horses : (Nat → Int32)) (rounds_faults : (Nat → Int32)) (rounds_tenths : (Nat → Int32)) (history_cells : (Nat → Int32)) (history_sizes : (Nat → Int32)) : Option (Int32 × Int32 × Int32 × (Nat → Int32) × (Nat → Int32) × (Nat → Int32) × (Nat → Int32)) :=
  bd7 (f_X8_back_history rounds_size history_slots history_count rounds_riders rounds_horses rounds_faults rounds_tenths history_cells history_sizes) <| fun rn1 rounds_sizen2 history_countn3 rounds_ridersn4 rounds_horsesn5 rounds_faultsn6 rounds_tenthsn7 =>
  some (rn1, rounds_sizen2, history_countn3, rounds_ridersn4, rounds_horsesn5, rounds_faultsn6, rounds_tenthsn7)
def k_X11_wind_63 (p1 : Int32) (p2 : Int32) (p3 : Int32) (p4 : Int32) (numbers_size : Int32) (course_rule_size : Int32) (course_kinds : (Nat → Int32)) (course_heights : (Nat → Int32)) (course_feet : (Nat → Int32)) (course_digits : (Nat → Int32)) (course_plans : (Nat → Int32)) (rule_codes : (Nat → Int32)) (rule_stack : (Nat → Int32)) (rule_things : (Nat → Int32)) (numbers_told : (Nat → Int64)) (chances : (Nat → Int64)) (v5_63x : Int64) : Option (Int32 × Int32 × (Nat → Int32) × (Nat → Int32) × (Nat → Int64) × (Nat → Int64)) :=
  bd4 (f_X11_justFall p1 p2 p3 (0 : Int32) course_rule_size course_kinds course_heights course_feet course_digits course_plans rule_codes rule_stack rule_things chances) <| fun rn2 rule_stackn3 rule_thingsn4 chancesn5 =>
  bd4 (f_X11_justFall p1 p2 p3 p4 course_rule_size course_kinds course_heights course_feet course_digits course_plans rule_codes rule_stackn3 rule_thingsn4 chancesn5) <| fun rn6 rule_stackn7 rule_thingsn8 chancesn9 =>
  bd1 (f_X6_start numbers_size) <| fun numbers_sizen10 =>
  bd2 (f_X6_putFraction rn2 v5_63x numbers_sizen10 numbers_told) <| fun numbers_sizen11 numbers_toldn12 =>
  bd2 (f_X6_putFraction rn6 v5_63x numbers_sizen11 numbers_toldn12) <| fun numbers_sizen13 numbers_toldn14 =>
  if (lg_cmp rn6 rn2) ≤ 0 then
    some ((0 : Int32), numbers_sizen13, rule_stackn7, rule_thingsn8, numbers_toldn14, chancesn9)
  else
    some ((1 : Int32), numbers_sizen13, rule_stackn7, rule_thingsn8, numbers_toldn14, chancesn9)
def s_X11_wind_63 (p3 : Int32) (kk63 : Int64 → Option (Int32 × Int32 × (Nat → Int32) × (Nat → Int32) × (Nat → Int64) × (Nat → Int64))) (rc63 : Int64 → Int32 → Option (Int32 × Int32 × (Nat → Int32) × (Nat → Int32) × (Nat → Int64) × (Nat → Int64))) (v5_63 : Int64) (v7_63 : Int32) : Option (Int32 × Int32 × (Nat → Int32) × (Nat → Int32) × (Nat → Int64) × (Nat → Int64)) :=
  if p3 ≤ v7_63 then
    kk63 v5_63
  else
    lt1 ((v5_63 * (100 : Int64))) <| fun v5n15 =>
    lt1 ((v7_63 + (1 : Int32))) <| fun v7n16 =>
    rc63 v5n15 v7n16
def f_X11_wind (p1 : Int32) (p2 : Int32) (p3 : Int32) (p4 : Int32) (numbers_size : Int32) (course_fences : Int32) (course_horseCount : Int32) (course_planCount : Int32) (course_rule_size : Int32) (course_kinds : (Nat → Int32)) (course_heights : (Nat → Int32)) (course_feet : (Nat → Int32)) (course_digits : (Nat → Int32)) (course_plans : (Nat → Int32)) (rule_codes : (Nat → Int32)) (rule_stack : (Nat → Int32)) (rule_things : (Nat → Int32)) (numbers_told : (Nat → Int64)) (chances : (Nat → Int64)) : Option (Int32 × Int32 × (Nat → Int32) × (Nat → Int32) × (Nat → Int64) × (Nat → Int64)) :=
  bd1 (f_X1_hasFence p1 course_fences) <| fun rn1 =>
  if rn1 = 0 then
    some ((-1 : Int32), numbers_size, rule_stack, rule_things, numbers_told, chances)
  else
    if p2 < 0 then
      some ((-1 : Int32), numbers_size, rule_stack, rule_things, numbers_told, chances)
    else
      if p3 < p2 then
        some ((-1 : Int32), numbers_size, rule_stack, rule_things, numbers_told, chances)
      else
        if p3 ≤ course_horseCount then
          if p4 < 0 then
            some ((-1 : Int32), numbers_size, rule_stack, rule_things, numbers_told, chances)
          else
            if (100 : Int32) < p4 then
              some ((-1 : Int32), numbers_size, rule_stack, rule_things, numbers_told, chances)
            else
              if course_planCount = 0 then
                some ((-1 : Int32), numbers_size, rule_stack, rule_things, numbers_told, chances)
              else
                ml2 (s_X11_wind_63 p3 (k_X11_wind_63 p1 p2 p3 p4 numbers_size course_rule_size course_kinds course_heights course_feet course_digits course_plans rule_codes rule_stack rule_things numbers_told chances)) zN (1 : Int64) (0 : Int32)
        else
          some ((-1 : Int32), numbers_size, rule_stack, rule_things, numbers_told, chances)
def f_X12_add_m_now (p1 : Int32) (p2 : Int32) (p3 : Int32) (p4 : Int32) (m_now : (Nat → Int32)) : Option (Nat → Int32) :=
  gd (ix (48 : Int32) 49) <|
  lt1 (((4 : Int32) * (m_now (48 : Int32).toNatClampNeg))) <| fun v5n1 =>
  gd (ix v5n1 49) <|
  gd (ix (v5n1 + (1 : Int32)) 49) <|
  gd (ix (v5n1 + (2 : Int32)) 49) <|
  gd (ix (v5n1 + (3 : Int32)) 49) <|
  gd (ix (48 : Int32) 49) <|
  gd (ix (48 : Int32) 49) <|
  some (upd ((upd ((upd ((upd ((upd m_now v5n1.toNatClampNeg p1)) (v5n1 + (1 : Int32)).toNatClampNeg p2)) (v5n1 + (2 : Int32)).toNatClampNeg p3)) (v5n1 + (3 : Int32)).toNatClampNeg p4)) (48 : Int32).toNatClampNeg ((((upd ((upd ((upd ((upd m_now v5n1.toNatClampNeg p1)) (v5n1 + (1 : Int32)).toNatClampNeg p2)) (v5n1 + (2 : Int32)).toNatClampNeg p3)) (v5n1 + (3 : Int32)).toNatClampNeg p4)) (48 : Int32).toNatClampNeg) + (1 : Int32)))
def f_X12_draw (p1 : Int32) (m_drawn : Int32) : Option (Int32 × Int32) :=
  gd (nz p1) <|
  some ((((((m_drawn * (1103515245 : Int32)) + (12345 : Int32))).toUInt32 >>> (((16 : Int32)).toUInt32 &&& Int32.toUInt32 31)).toInt32 - ((((m_drawn * (1103515245 : Int32)) + (12345 : Int32))).toUInt32 >>> (((16 : Int32)).toUInt32 &&& Int32.toUInt32 31)).toInt32 / p1 * p1), ((m_drawn * (1103515245 : Int32)) + (12345 : Int32)))
def f_X12_letterOf (p1 : Int32) (p2 : Int32) (m_plan : (Nat → Int32)) : Option Int32 :=
  gd (ix (((8 : Int32) * p1) + p2) 48) <|
  some (m_plan (((8 : Int32) * p1) + p2).toNatClampNeg)
def f_X12_begin_m_rule (p2 : Int32) (p3 : Int32) (m_read : Int32) (m_length : Int32) (m_top : Int32) (m_at : Int32) (m_wrong : Int32) : Option (Int32 × Int32 × Int32 × Int32) :=
  some (p2, p3, (0 : Int32), (-1 : Int32))
def f_X12_fine (m_wrong : Int32) : Option Int32 :=
  if m_wrong = (-1 : Int32) then
    some (1 : Int32)
  else
    some (0 : Int32)
def f_X12_here_r (m_length : Int32) (m_top : Int32) (m_at : Int32) (m_rule : (Nat → Int32)) : Option Int32 :=
  if m_length ≤ m_at then
    some (-1 : Int32)
  else
    if m_top ≤ m_at then
      some (-1 : Int32)
    else
      gd (ix m_at 40) <|
      some ((m_rule m_at.toNatClampNeg) &&& (255 : Int32))
def f_X12_passes_r (p1 : Int32) (m_length : Int32) (m_top : Int32) (m_at : Int32) (m_wrong : Int32) (m_rule : (Nat → Int32)) : Option (Int32 × Int32) :=
  bd1 (f_X12_fine m_wrong) <| fun rn1 =>
  if rn1 = 0 then
    some ((0 : Int32), m_at)
  else
    bd1 (f_X12_here_r m_length m_top m_at m_rule) <| fun rn2 =>
    if rn2 = p1 then
      some ((1 : Int32), (m_at + (1 : Int32)))
    else
      some ((0 : Int32), m_at)
def f_X12_fault (p1 : Int32) (m_wrong : Int32) : Option Int32 :=
  bd1 (f_X12_fine m_wrong) <| fun rn1 =>
  if rn1 = 0 then
    some m_wrong
  else
    some p1
def f_X12_in (p0 : Int32) (p1 : Int32) (p2 : Int32) : Option Int32 :=
  if p0 < p1 then
    some (0 : Int32)
  else
    if p2 < p0 then
      some (0 : Int32)
    else
      some (1 : Int32)
def f_X12_need_r (p1 : Int32) (m_length : Int32) (m_top : Int32) (m_at : Int32) (m_wrong : Int32) (m_rule : (Nat → Int32)) : Option (Int32 × Int32) :=
  bd2 (f_X12_passes_r p1 m_length m_top m_at m_wrong m_rule) <| fun rn1 m_atn2 =>
  if rn1 = 0 then
    bd1 (f_X12_fault m_atn2 m_wrong) <| fun m_wrongn3 =>
    some (m_atn2, m_wrongn3)
  else
    some (m_atn2, m_wrong)
def f_X12_digit_r (p1 : Int32) (p2 : Int32) (m_length : Int32) (m_top : Int32) (m_at : Int32) (m_wrong : Int32) (m_rule : (Nat → Int32)) : Option (Int32 × Int32 × Int32) :=
  bd1 (f_X12_fine m_wrong) <| fun rn1 =>
  if rn1 = 0 then
    some ((0 : Int32), m_at, m_wrong)
  else
    bd1 (f_X12_here_r m_length m_top m_at m_rule) <| fun rn2 =>
    bd1 (f_X12_in rn2 (((48 : Int32) + p1)) (((48 : Int32) + p2))) <| fun rn3 =>
    if rn3 = 0 then
      bd1 (f_X12_fault m_at m_wrong) <| fun m_wrongn4 =>
      some ((0 : Int32), m_at, m_wrongn4)
    else
      gd (ix ((m_at + (1 : Int32)) - (1 : Int32)) 40) <|
      some (((m_rule ((m_at + (1 : Int32)) - (1 : Int32)).toNatClampNeg) - (48 : Int32)), (m_at + (1 : Int32)), m_wrong)
def k_X12_number_r_10 (v2_10x : Int32) (m_at_10x : Int32) (m_wrong_10x : Int32) : Option (Int32 × Int32 × Int32) :=
  some (v2_10x, m_at_10x, m_wrong_10x)
def s_X12_number_r_10 (p1 : Int32) (m_length : Int32) (m_top : Int32) (m_rule : (Nat → Int32)) (kk10 : Int32 → Int32 → Int32 → Option (Int32 × Int32 × Int32)) (rc10 : Int32 → Int32 → Int32 → Int32 → Option (Int32 × Int32 × Int32)) (v2_10 : Int32) (v3_10 : Int32) (m_at_10 : Int32) (m_wrong_10 : Int32) : Option (Int32 × Int32 × Int32) :=
  if p1 ≤ v3_10 then
    kk10 v2_10 m_at_10 m_wrong_10
  else
    bd1 (f_X12_fine m_wrong_10) <| fun rn4 =>
    if rn4 = 0 then
      kk10 v2_10 m_at_10 m_wrong_10
    else
      bd1 (f_X12_here_r m_length m_top m_at_10 m_rule) <| fun rn5 =>
      bd1 (f_X12_in rn5 (48 : Int32) (57 : Int32)) <| fun rn6 =>
      if rn6 = 0 then
        kk10 v2_10 m_at_10 m_wrong_10
      else
        bd3 (f_X12_digit_r (0 : Int32) (9 : Int32) m_length m_top m_at_10 m_wrong_10 m_rule) <| fun rn7 m_atn8 m_wrongn9 =>
        lt1 ((((10 : Int32) * v2_10) + rn7)) <| fun v2n10 =>
        lt1 ((v3_10 + (1 : Int32))) <| fun v3n11 =>
        rc10 v2n10 v3n11 m_atn8 m_wrongn9
def f_X12_number_r (p1 : Int32) (m_length : Int32) (m_top : Int32) (m_at : Int32) (m_wrong : Int32) (m_rule : (Nat → Int32)) : Option (Int32 × Int32 × Int32) :=
  bd3 (f_X12_digit_r (0 : Int32) (9 : Int32) m_length m_top m_at m_wrong m_rule) <| fun rn1 m_atn2 m_wrongn3 =>
  ml4 (s_X12_number_r_10 p1 m_length m_top m_rule (k_X12_number_r_10)) zN rn1 (1 : Int32) m_atn2 m_wrongn3
def f_X12_leanOf (p1 : Int32) (p2 : Int32) (m_stride : (Nat → Int32)) : Option Int32 :=
  gd (ix p1 6) <|
  gd (nz (m_stride p1.toNatClampNeg)) <|
  lt1 ((p2 - p2 / (m_stride p1.toNatClampNeg) * (m_stride p1.toNatClampNeg))) <| fun v3n1 =>
  gd (ix p1 6) <|
  some (if ((m_stride p1.toNatClampNeg) - v3n1) < v3n1 then ((m_stride p1.toNatClampNeg) - v3n1) else v3n1)
def f_X12_valueOf (p1 : Int32) (m_askedHorse : Int32) (m_askedFence : Int32) (m_askedLetter : Int32) (m_askedHeight : Int32) (m_kind : (Nat → Int32)) (m_feet : (Nat → Int32)) (m_stride : (Nat → Int32)) (m_scope : (Nat → Int32)) (m_care : (Nat → Int32)) : Option Int32 :=
  if p1 = (99 : Int32) then
    gd (ix m_askedFence 8) <|
    gd (ix (((4 : Int32) * m_askedHorse) + (m_kind m_askedFence.toNatClampNeg)) 24) <|
    some (m_care (((4 : Int32) * m_askedHorse) + (m_kind m_askedFence.toNatClampNeg)).toNatClampNeg)
  else
  if p1 = (100 : Int32) then
    gd (ix m_askedFence 8) <|
    some (m_feet m_askedFence.toNatClampNeg)
  else
  if p1 = (101 : Int32) then
    gd (ix m_askedFence 8) <|
    some (m_feet m_askedFence.toNatClampNeg)
  else
  if p1 = (102 : Int32) then
    gd (ix m_askedFence 8) <|
    bd1 (f_X12_leanOf m_askedHorse ((m_feet m_askedFence.toNatClampNeg)) m_stride) <| fun rn1 =>
    some rn1
  else
  if p1 = (103 : Int32) then
    gd (ix m_askedFence 8) <|
    some (m_feet m_askedFence.toNatClampNeg)
  else
  if p1 = (104 : Int32) then
    some m_askedHeight
  else
  if p1 = (105 : Int32) then
    gd (ix m_askedFence 8) <|
    some (m_feet m_askedFence.toNatClampNeg)
  else
  if p1 = (106 : Int32) then
    gd (ix m_askedFence 8) <|
    some (m_feet m_askedFence.toNatClampNeg)
  else
  if p1 = (107 : Int32) then
    some m_askedFence
  else
  if p1 = (108 : Int32) then
    gd (ix m_askedFence 8) <|
    some (m_feet m_askedFence.toNatClampNeg)
  else
  if p1 = (109 : Int32) then
    gd (ix m_askedFence 8) <|
    some (m_feet m_askedFence.toNatClampNeg)
  else
  if p1 = (110 : Int32) then
    gd (ix m_askedFence 8) <|
    some (m_feet m_askedFence.toNatClampNeg)
  else
  if p1 = (111 : Int32) then
    gd (ix m_askedFence 8) <|
    some (m_feet m_askedFence.toNatClampNeg)
  else
  if p1 = (112 : Int32) then
    some (m_askedLetter - m_askedLetter / (4 : Int32) * (4 : Int32))
  else
  if p1 = (113 : Int32) then
    gd (ix m_askedFence 8) <|
    some (m_feet m_askedFence.toNatClampNeg)
  else
  if p1 = (114 : Int32) then
    gd (ix m_askedFence 8) <|
    some (m_feet m_askedFence.toNatClampNeg)
  else
  if p1 = (115 : Int32) then
    gd (ix m_askedHorse 6) <|
    some (m_scope m_askedHorse.toNatClampNeg)
  else
  if p1 = (116 : Int32) then
    gd (ix m_askedFence 8) <|
    some (m_feet m_askedFence.toNatClampNeg)
  else
  if p1 = (117 : Int32) then
    gd (ix m_askedFence 8) <|
    some (m_feet m_askedFence.toNatClampNeg)
  else
  if p1 = (118 : Int32) then
    gd (ix m_askedFence 8) <|
    some (m_feet m_askedFence.toNatClampNeg)
  else
  if p1 = (119 : Int32) then
    gd (ix m_askedFence 8) <|
    some (m_feet m_askedFence.toNatClampNeg)
  else
  if p1 = (120 : Int32) then
    some (m_askedLetter / (4 : Int32))
  else
    gd (ix m_askedFence 8) <|
    some (m_feet m_askedFence.toNatClampNeg)
def g_X12_held_r (q_X12_held_r : Int32 → Int32 → Int32 → Int32 → Int32 → Int32 → Int32 → Int32 → Int32 → Int32 → (Nat → Int32) → (Nat → Int32) → (Nat → Int32) → (Nat → Int32) → (Nat → Int32) → (Nat → Int32) → Option (Int32 × Int32 × Int32)) (q_X12_product_r : Int32 → Int32 → Int32 → Int32 → Int32 → Int32 → Int32 → Int32 → Int32 → Int32 → (Nat → Int32) → (Nat → Int32) → (Nat → Int32) → (Nat → Int32) → (Nat → Int32) → (Nat → Int32) → Option (Int32 × Int32 × Int32)) (q_X12_sum_r : Int32 → Int32 → Int32 → Int32 → Int32 → Int32 → Int32 → Int32 → Int32 → Int32 → (Nat → Int32) → (Nat → Int32) → (Nat → Int32) → (Nat → Int32) → (Nat → Int32) → (Nat → Int32) → Option (Int32 × Int32 × Int32)) (q_X12_thing_r : Int32 → Int32 → Int32 → Int32 → Int32 → Int32 → Int32 → Int32 → Int32 → Int32 → (Nat → Int32) → (Nat → Int32) → (Nat → Int32) → (Nat → Int32) → (Nat → Int32) → (Nat → Int32) → Option (Int32 × Int32 × Int32)) (p1 : Int32) (m_length : Int32) (m_top : Int32) (m_at : Int32) (m_wrong : Int32) (m_isAsked : Int32) (m_askedHorse : Int32) (m_askedFence : Int32) (m_askedLetter : Int32) (m_askedHeight : Int32) (m_kind : (Nat → Int32)) (m_feet : (Nat → Int32)) (m_stride : (Nat → Int32)) (m_scope : (Nat → Int32)) (m_care : (Nat → Int32)) (m_rule : (Nat → Int32)) : Option (Int32 × Int32 × Int32) :=
  bd3 (q_X12_sum_r p1 m_length m_top m_at m_wrong m_isAsked m_askedHorse m_askedFence m_askedLetter m_askedHeight m_kind m_feet m_stride m_scope m_care m_rule) <| fun rn1 m_atn2 m_wrongn3 =>
  bd2 (f_X12_passes_r (60 : Int32) m_length m_top m_atn2 m_wrongn3 m_rule) <| fun rn4 m_atn5 =>
  if rn4 = 0 then
    bd2 (f_X12_passes_r (62 : Int32) m_length m_top m_atn5 m_wrongn3 m_rule) <| fun rn6 m_atn7 =>
    if rn6 = 0 then
      bd2 (f_X12_passes_r (61 : Int32) m_length m_top m_atn7 m_wrongn3 m_rule) <| fun rn8 m_atn9 =>
      if rn8 = 0 then
        some (rn1, m_atn9, m_wrongn3)
      else
        bd3 (q_X12_sum_r p1 m_length m_top m_atn9 m_wrongn3 m_isAsked m_askedHorse m_askedFence m_askedLetter m_askedHeight m_kind m_feet m_stride m_scope m_care m_rule) <| fun rn10 m_atn11 m_wrongn12 =>
        if rn1 = rn10 then
          some ((1 : Int32), m_atn11, m_wrongn12)
        else
          some ((0 : Int32), m_atn11, m_wrongn12)
    else
      bd3 (q_X12_sum_r p1 m_length m_top m_atn7 m_wrongn3 m_isAsked m_askedHorse m_askedFence m_askedLetter m_askedHeight m_kind m_feet m_stride m_scope m_care m_rule) <| fun rn13 m_atn14 m_wrongn15 =>
      if rn1 ≤ rn13 then
        some ((0 : Int32), m_atn14, m_wrongn15)
      else
        some ((1 : Int32), m_atn14, m_wrongn15)
  else
    bd3 (q_X12_sum_r p1 m_length m_top m_atn5 m_wrongn3 m_isAsked m_askedHorse m_askedFence m_askedLetter m_askedHeight m_kind m_feet m_stride m_scope m_care m_rule) <| fun rn16 m_atn17 m_wrongn18 =>
    if rn16 ≤ rn1 then
      some ((0 : Int32), m_atn17, m_wrongn18)
    else
      some ((1 : Int32), m_atn17, m_wrongn18)
def k_X12_product_r_6 (v2_6x : Int32) (m_at_6x : Int32) (m_wrong_6x : Int32) : Option (Int32 × Int32 × Int32) :=
  some (v2_6x, m_at_6x, m_wrong_6x)
def j_X12_product_r_45 (q_X12_thing_r : Int32 → Int32 → Int32 → Int32 → Int32 → Int32 → Int32 → Int32 → Int32 → Int32 → (Nat → Int32) → (Nat → Int32) → (Nat → Int32) → (Nat → Int32) → (Nat → Int32) → (Nat → Int32) → Option (Int32 × Int32 × Int32)) (p1 : Int32) (m_length : Int32) (m_top : Int32) (m_isAsked : Int32) (m_askedHorse : Int32) (m_askedFence : Int32) (m_askedLetter : Int32) (m_askedHeight : Int32) (m_kind : (Nat → Int32)) (m_feet : (Nat → Int32)) (m_stride : (Nat → Int32)) (m_scope : (Nat → Int32)) (m_care : (Nat → Int32)) (m_rule : (Nat → Int32)) (rc6 : Int32 → Int32 → Int32 → Option (Int32 × Int32 × Int32)) (v2_6 : Int32) (m_at_6 : Int32) (m_wrong_6 : Int32) (t0_45j : Int32) : Option (Int32 × Int32 × Int32) :=
  bd3 (q_X12_thing_r p1 m_length m_top ((m_at_6 + (1 : Int32))) m_wrong_6 m_isAsked m_askedHorse m_askedFence m_askedLetter m_askedHeight m_kind m_feet m_stride m_scope m_care m_rule) <| fun rn7 m_atn8 m_wrongn9 =>
  if t0_45j = 0 then
    if rn7 = 0 then
      rc6 (0 : Int32) m_atn8 m_wrongn9
    else
      gd (nz rn7) <|
      lt1 ((v2_6 / rn7)) <| fun v2n10 =>
      rc6 v2n10 m_atn8 m_wrongn9
  else
    lt1 ((v2_6 * rn7)) <| fun v2n11 =>
    rc6 v2n11 m_atn8 m_wrongn9
def j_X12_product_r_31 (q_X12_thing_r : Int32 → Int32 → Int32 → Int32 → Int32 → Int32 → Int32 → Int32 → Int32 → Int32 → (Nat → Int32) → (Nat → Int32) → (Nat → Int32) → (Nat → Int32) → (Nat → Int32) → (Nat → Int32) → Option (Int32 × Int32 × Int32)) (p1 : Int32) (m_length : Int32) (m_top : Int32) (m_isAsked : Int32) (m_askedHorse : Int32) (m_askedFence : Int32) (m_askedLetter : Int32) (m_askedHeight : Int32) (m_kind : (Nat → Int32)) (m_feet : (Nat → Int32)) (m_stride : (Nat → Int32)) (m_scope : (Nat → Int32)) (m_care : (Nat → Int32)) (m_rule : (Nat → Int32)) (rc6 : Int32 → Int32 → Int32 → Option (Int32 × Int32 × Int32)) (v2_6 : Int32) (m_at_6 : Int32) (m_wrong_6 : Int32) (_u : Unit) : Option (Int32 × Int32 × Int32) :=
  bd1 (f_X12_here_r m_length m_top m_at_6 m_rule) <| fun rn6 =>
  if rn6 = (42 : Int32) then
    j_X12_product_r_45 q_X12_thing_r p1 m_length m_top m_isAsked m_askedHorse m_askedFence m_askedLetter m_askedHeight m_kind m_feet m_stride m_scope m_care m_rule rc6 v2_6 m_at_6 m_wrong_6 (1 : Int32)
  else
    j_X12_product_r_45 q_X12_thing_r p1 m_length m_top m_isAsked m_askedHorse m_askedFence m_askedLetter m_askedHeight m_kind m_feet m_stride m_scope m_care m_rule rc6 v2_6 m_at_6 m_wrong_6 (0 : Int32)
def s_X12_product_r_6 (q_X12_thing_r : Int32 → Int32 → Int32 → Int32 → Int32 → Int32 → Int32 → Int32 → Int32 → Int32 → (Nat → Int32) → (Nat → Int32) → (Nat → Int32) → (Nat → Int32) → (Nat → Int32) → (Nat → Int32) → Option (Int32 × Int32 × Int32)) (p1 : Int32) (m_length : Int32) (m_top : Int32) (m_isAsked : Int32) (m_askedHorse : Int32) (m_askedFence : Int32) (m_askedLetter : Int32) (m_askedHeight : Int32) (m_kind : (Nat → Int32)) (m_feet : (Nat → Int32)) (m_stride : (Nat → Int32)) (m_scope : (Nat → Int32)) (m_care : (Nat → Int32)) (m_rule : (Nat → Int32)) (kk6 : Int32 → Int32 → Int32 → Option (Int32 × Int32 × Int32)) (rc6 : Int32 → Int32 → Int32 → Option (Int32 × Int32 × Int32)) (v2_6 : Int32) (m_at_6 : Int32) (m_wrong_6 : Int32) : Option (Int32 × Int32 × Int32) :=
  bd1 (f_X12_fine m_wrong_6) <| fun rn4 =>
  if rn4 = 0 then
    kk6 v2_6 m_at_6 m_wrong_6
  else
    bd1 (f_X12_here_r m_length m_top m_at_6 m_rule) <| fun rn5 =>
    if rn5 = (42 : Int32) then
      j_X12_product_r_31 q_X12_thing_r p1 m_length m_top m_isAsked m_askedHorse m_askedFence m_askedLetter m_askedHeight m_kind m_feet m_stride m_scope m_care m_rule rc6 v2_6 m_at_6 m_wrong_6 ()
    else
      bd1 (f_X12_here_r m_length m_top m_at_6 m_rule) <| fun rn12 =>
      if rn12 = (47 : Int32) then
        j_X12_product_r_31 q_X12_thing_r p1 m_length m_top m_isAsked m_askedHorse m_askedFence m_askedLetter m_askedHeight m_kind m_feet m_stride m_scope m_care m_rule rc6 v2_6 m_at_6 m_wrong_6 ()
      else
        kk6 v2_6 m_at_6 m_wrong_6
def g_X12_product_r (q_X12_held_r : Int32 → Int32 → Int32 → Int32 → Int32 → Int32 → Int32 → Int32 → Int32 → Int32 → (Nat → Int32) → (Nat → Int32) → (Nat → Int32) → (Nat → Int32) → (Nat → Int32) → (Nat → Int32) → Option (Int32 × Int32 × Int32)) (q_X12_product_r : Int32 → Int32 → Int32 → Int32 → Int32 → Int32 → Int32 → Int32 → Int32 → Int32 → (Nat → Int32) → (Nat → Int32) → (Nat → Int32) → (Nat → Int32) → (Nat → Int32) → (Nat → Int32) → Option (Int32 × Int32 × Int32)) (q_X12_sum_r : Int32 → Int32 → Int32 → Int32 → Int32 → Int32 → Int32 → Int32 → Int32 → Int32 → (Nat → Int32) → (Nat → Int32) → (Nat → Int32) → (Nat → Int32) → (Nat → Int32) → (Nat → Int32) → Option (Int32 × Int32 × Int32)) (q_X12_thing_r : Int32 → Int32 → Int32 → Int32 → Int32 → Int32 → Int32 → Int32 → Int32 → Int32 → (Nat → Int32) → (Nat → Int32) → (Nat → Int32) → (Nat → Int32) → (Nat → Int32) → (Nat → Int32) → Option (Int32 × Int32 × Int32)) (p1 : Int32) (m_length : Int32) (m_top : Int32) (m_at : Int32) (m_wrong : Int32) (m_isAsked : Int32) (m_askedHorse : Int32) (m_askedFence : Int32) (m_askedLetter : Int32) (m_askedHeight : Int32) (m_kind : (Nat → Int32)) (m_feet : (Nat → Int32)) (m_stride : (Nat → Int32)) (m_scope : (Nat → Int32)) (m_care : (Nat → Int32)) (m_rule : (Nat → Int32)) : Option (Int32 × Int32 × Int32) :=
  bd3 (q_X12_thing_r p1 m_length m_top m_at m_wrong m_isAsked m_askedHorse m_askedFence m_askedLetter m_askedHeight m_kind m_feet m_stride m_scope m_care m_rule) <| fun rn1 m_atn2 m_wrongn3 =>
  ml3 (s_X12_product_r_6 q_X12_thing_r p1 m_length m_top m_isAsked m_askedHorse m_askedFence m_askedLetter m_askedHeight m_kind m_feet m_stride m_scope m_care m_rule (k_X12_product_r_6)) zN rn1 m_atn2 m_wrongn3
def k_X12_sum_r_6 (v2_6x : Int32) (m_at_6x : Int32) (m_wrong_6x : Int32) : Option (Int32 × Int32 × Int32) :=
  some (v2_6x, m_at_6x, m_wrong_6x)
def j_X12_sum_r_45 (q_X12_product_r : Int32 → Int32 → Int32 → Int32 → Int32 → Int32 → Int32 → Int32 → Int32 → Int32 → (Nat → Int32) → (Nat → Int32) → (Nat → Int32) → (Nat → Int32) → (Nat → Int32) → (Nat → Int32) → Option (Int32 × Int32 × Int32)) (p1 : Int32) (m_length : Int32) (m_top : Int32) (m_isAsked : Int32) (m_askedHorse : Int32) (m_askedFence : Int32) (m_askedLetter : Int32) (m_askedHeight : Int32) (m_kind : (Nat → Int32)) (m_feet : (Nat → Int32)) (m_stride : (Nat → Int32)) (m_scope : (Nat → Int32)) (m_care : (Nat → Int32)) (m_rule : (Nat → Int32)) (rc6 : Int32 → Int32 → Int32 → Option (Int32 × Int32 × Int32)) (v2_6 : Int32) (m_at_6 : Int32) (m_wrong_6 : Int32) (t0_45j : Int32) : Option (Int32 × Int32 × Int32) :=
  bd3 (q_X12_product_r p1 m_length m_top ((m_at_6 + (1 : Int32))) m_wrong_6 m_isAsked m_askedHorse m_askedFence m_askedLetter m_askedHeight m_kind m_feet m_stride m_scope m_care m_rule) <| fun rn7 m_atn8 m_wrongn9 =>
  if t0_45j = 0 then
    lt1 ((v2_6 - rn7)) <| fun v2n10 =>
    rc6 v2n10 m_atn8 m_wrongn9
  else
    lt1 ((v2_6 + rn7)) <| fun v2n11 =>
    rc6 v2n11 m_atn8 m_wrongn9
def j_X12_sum_r_31 (q_X12_product_r : Int32 → Int32 → Int32 → Int32 → Int32 → Int32 → Int32 → Int32 → Int32 → Int32 → (Nat → Int32) → (Nat → Int32) → (Nat → Int32) → (Nat → Int32) → (Nat → Int32) → (Nat → Int32) → Option (Int32 × Int32 × Int32)) (p1 : Int32) (m_length : Int32) (m_top : Int32) (m_isAsked : Int32) (m_askedHorse : Int32) (m_askedFence : Int32) (m_askedLetter : Int32) (m_askedHeight : Int32) (m_kind : (Nat → Int32)) (m_feet : (Nat → Int32)) (m_stride : (Nat → Int32)) (m_scope : (Nat → Int32)) (m_care : (Nat → Int32)) (m_rule : (Nat → Int32)) (rc6 : Int32 → Int32 → Int32 → Option (Int32 × Int32 × Int32)) (v2_6 : Int32) (m_at_6 : Int32) (m_wrong_6 : Int32) (_u : Unit) : Option (Int32 × Int32 × Int32) :=
  bd1 (f_X12_here_r m_length m_top m_at_6 m_rule) <| fun rn6 =>
  if rn6 = (43 : Int32) then
    j_X12_sum_r_45 q_X12_product_r p1 m_length m_top m_isAsked m_askedHorse m_askedFence m_askedLetter m_askedHeight m_kind m_feet m_stride m_scope m_care m_rule rc6 v2_6 m_at_6 m_wrong_6 (1 : Int32)
  else
    j_X12_sum_r_45 q_X12_product_r p1 m_length m_top m_isAsked m_askedHorse m_askedFence m_askedLetter m_askedHeight m_kind m_feet m_stride m_scope m_care m_rule rc6 v2_6 m_at_6 m_wrong_6 (0 : Int32)
def s_X12_sum_r_6 (q_X12_product_r : Int32 → Int32 → Int32 → Int32 → Int32 → Int32 → Int32 → Int32 → Int32 → Int32 → (Nat → Int32) → (Nat → Int32) → (Nat → Int32) → (Nat → Int32) → (Nat → Int32) → (Nat → Int32) → Option (Int32 × Int32 × Int32)) (p1 : Int32) (m_length : Int32) (m_top : Int32) (m_isAsked : Int32) (m_askedHorse : Int32) (m_askedFence : Int32) (m_askedLetter : Int32) (m_askedHeight : Int32) (m_kind : (Nat → Int32)) (m_feet : (Nat → Int32)) (m_stride : (Nat → Int32)) (m_scope : (Nat → Int32)) (m_care : (Nat → Int32)) (m_rule : (Nat → Int32)) (kk6 : Int32 → Int32 → Int32 → Option (Int32 × Int32 × Int32)) (rc6 : Int32 → Int32 → Int32 → Option (Int32 × Int32 × Int32)) (v2_6 : Int32) (m_at_6 : Int32) (m_wrong_6 : Int32) : Option (Int32 × Int32 × Int32) :=
  bd1 (f_X12_fine m_wrong_6) <| fun rn4 =>
  if rn4 = 0 then
    kk6 v2_6 m_at_6 m_wrong_6
  else
    bd1 (f_X12_here_r m_length m_top m_at_6 m_rule) <| fun rn5 =>
    if rn5 = (43 : Int32) then
      j_X12_sum_r_31 q_X12_product_r p1 m_length m_top m_isAsked m_askedHorse m_askedFence m_askedLetter m_askedHeight m_kind m_feet m_stride m_scope m_care m_rule rc6 v2_6 m_at_6 m_wrong_6 ()
    else
      bd1 (f_X12_here_r m_length m_top m_at_6 m_rule) <| fun rn12 =>
      if rn12 = (45 : Int32) then
        j_X12_sum_r_31 q_X12_product_r p1 m_length m_top m_isAsked m_askedHorse m_askedFence m_askedLetter m_askedHeight m_kind m_feet m_stride m_scope m_care m_rule rc6 v2_6 m_at_6 m_wrong_6 ()
      else
        kk6 v2_6 m_at_6 m_wrong_6
def g_X12_sum_r (q_X12_held_r : Int32 → Int32 → Int32 → Int32 → Int32 → Int32 → Int32 → Int32 → Int32 → Int32 → (Nat → Int32) → (Nat → Int32) → (Nat → Int32) → (Nat → Int32) → (Nat → Int32) → (Nat → Int32) → Option (Int32 × Int32 × Int32)) (q_X12_product_r : Int32 → Int32 → Int32 → Int32 → Int32 → Int32 → Int32 → Int32 → Int32 → Int32 → (Nat → Int32) → (Nat → Int32) → (Nat → Int32) → (Nat → Int32) → (Nat → Int32) → (Nat → Int32) → Option (Int32 × Int32 × Int32)) (q_X12_sum_r : Int32 → Int32 → Int32 → Int32 → Int32 → Int32 → Int32 → Int32 → Int32 → Int32 → (Nat → Int32) → (Nat → Int32) → (Nat → Int32) → (Nat → Int32) → (Nat → Int32) → (Nat → Int32) → Option (Int32 × Int32 × Int32)) (q_X12_thing_r : Int32 → Int32 → Int32 → Int32 → Int32 → Int32 → Int32 → Int32 → Int32 → Int32 → (Nat → Int32) → (Nat → Int32) → (Nat → Int32) → (Nat → Int32) → (Nat → Int32) → (Nat → Int32) → Option (Int32 × Int32 × Int32)) (p1 : Int32) (m_length : Int32) (m_top : Int32) (m_at : Int32) (m_wrong : Int32) (m_isAsked : Int32) (m_askedHorse : Int32) (m_askedFence : Int32) (m_askedLetter : Int32) (m_askedHeight : Int32) (m_kind : (Nat → Int32)) (m_feet : (Nat → Int32)) (m_stride : (Nat → Int32)) (m_scope : (Nat → Int32)) (m_care : (Nat → Int32)) (m_rule : (Nat → Int32)) : Option (Int32 × Int32 × Int32) :=
  bd3 (q_X12_product_r p1 m_length m_top m_at m_wrong m_isAsked m_askedHorse m_askedFence m_askedLetter m_askedHeight m_kind m_feet m_stride m_scope m_care m_rule) <| fun rn1 m_atn2 m_wrongn3 =>
  ml3 (s_X12_sum_r_6 q_X12_product_r p1 m_length m_top m_isAsked m_askedHorse m_askedFence m_askedLetter m_askedHeight m_kind m_feet m_stride m_scope m_care m_rule (k_X12_sum_r_6)) zN rn1 m_atn2 m_wrongn3
def j_X12_thing_r_142 (m_isAsked : Int32) (m_askedHorse : Int32) (m_askedFence : Int32) (m_askedLetter : Int32) (m_askedHeight : Int32) (m_kind : (Nat → Int32)) (m_feet : (Nat → Int32)) (m_stride : (Nat → Int32)) (m_scope : (Nat → Int32)) (m_care : (Nat → Int32)) (rn4 : Int32) (m_at_67j : Int32) (m_wrong_142j : Int32) : Option (Int32 × Int32 × Int32) :=
  if m_isAsked = 0 then
    some ((0 : Int32), (m_at_67j + (1 : Int32)), m_wrong_142j)
  else
    bd1 (f_X12_valueOf rn4 m_askedHorse m_askedFence m_askedLetter m_askedHeight m_kind m_feet m_stride m_scope m_care) <| fun rn6 =>
    some (rn6, (m_at_67j + (1 : Int32)), m_wrong_142j)
def j_X12_thing_r_67 (m_length : Int32) (m_top : Int32) (m_isAsked : Int32) (m_askedHorse : Int32) (m_askedFence : Int32) (m_askedLetter : Int32) (m_askedHeight : Int32) (m_kind : (Nat → Int32)) (m_feet : (Nat → Int32)) (m_stride : (Nat → Int32)) (m_scope : (Nat → Int32)) (m_care : (Nat → Int32)) (m_rule : (Nat → Int32)) (rn4 : Int32) (m_at_67j : Int32) (m_wrong_67j : Int32) : Option (Int32 × Int32 × Int32) :=
  bd1 (f_X12_in rn4 (48 : Int32) (57 : Int32)) <| fun rn5 =>
  if rn5 = 0 then
    if rn4 = (104 : Int32) then
      j_X12_thing_r_142 m_isAsked m_askedHorse m_askedFence m_askedLetter m_askedHeight m_kind m_feet m_stride m_scope m_care rn4 m_at_67j m_wrong_67j
    else
      if rn4 = (115 : Int32) then
        j_X12_thing_r_142 m_isAsked m_askedHorse m_askedFence m_askedLetter m_askedHeight m_kind m_feet m_stride m_scope m_care rn4 m_at_67j m_wrong_67j
      else
        if rn4 = (99 : Int32) then
          j_X12_thing_r_142 m_isAsked m_askedHorse m_askedFence m_askedLetter m_askedHeight m_kind m_feet m_stride m_scope m_care rn4 m_at_67j m_wrong_67j
        else
          if rn4 = (112 : Int32) then
            j_X12_thing_r_142 m_isAsked m_askedHorse m_askedFence m_askedLetter m_askedHeight m_kind m_feet m_stride m_scope m_care rn4 m_at_67j m_wrong_67j
          else
            if rn4 = (120 : Int32) then
              j_X12_thing_r_142 m_isAsked m_askedHorse m_askedFence m_askedLetter m_askedHeight m_kind m_feet m_stride m_scope m_care rn4 m_at_67j m_wrong_67j
            else
              if rn4 = (102 : Int32) then
                j_X12_thing_r_142 m_isAsked m_askedHorse m_askedFence m_askedLetter m_askedHeight m_kind m_feet m_stride m_scope m_care rn4 m_at_67j m_wrong_67j
              else
                if rn4 = (107 : Int32) then
                  j_X12_thing_r_142 m_isAsked m_askedHorse m_askedFence m_askedLetter m_askedHeight m_kind m_feet m_stride m_scope m_care rn4 m_at_67j m_wrong_67j
                else
                  if rn4 = (121 : Int32) then
                    j_X12_thing_r_142 m_isAsked m_askedHorse m_askedFence m_askedLetter m_askedHeight m_kind m_feet m_stride m_scope m_care rn4 m_at_67j m_wrong_67j
                  else
                    bd1 (f_X12_fault m_at_67j m_wrong_67j) <| fun m_wrongn7 =>
                    some ((0 : Int32), m_at_67j, m_wrongn7)
  else
    bd3 (f_X12_number_r (3 : Int32) m_length m_top m_at_67j m_wrong_67j m_rule) <| fun rn8 m_atn9 m_wrongn10 =>
    some (rn8, m_atn9, m_wrongn10)
def g_X12_thing_r (q_X12_held_r : Int32 → Int32 → Int32 → Int32 → Int32 → Int32 → Int32 → Int32 → Int32 → Int32 → (Nat → Int32) → (Nat → Int32) → (Nat → Int32) → (Nat → Int32) → (Nat → Int32) → (Nat → Int32) → Option (Int32 × Int32 × Int32)) (q_X12_product_r : Int32 → Int32 → Int32 → Int32 → Int32 → Int32 → Int32 → Int32 → Int32 → Int32 → (Nat → Int32) → (Nat → Int32) → (Nat → Int32) → (Nat → Int32) → (Nat → Int32) → (Nat → Int32) → Option (Int32 × Int32 × Int32)) (q_X12_sum_r : Int32 → Int32 → Int32 → Int32 → Int32 → Int32 → Int32 → Int32 → Int32 → Int32 → (Nat → Int32) → (Nat → Int32) → (Nat → Int32) → (Nat → Int32) → (Nat → Int32) → (Nat → Int32) → Option (Int32 × Int32 × Int32)) (q_X12_thing_r : Int32 → Int32 → Int32 → Int32 → Int32 → Int32 → Int32 → Int32 → Int32 → Int32 → (Nat → Int32) → (Nat → Int32) → (Nat → Int32) → (Nat → Int32) → (Nat → Int32) → (Nat → Int32) → Option (Int32 × Int32 × Int32)) (p1 : Int32) (m_length : Int32) (m_top : Int32) (m_at : Int32) (m_wrong : Int32) (m_isAsked : Int32) (m_askedHorse : Int32) (m_askedFence : Int32) (m_askedLetter : Int32) (m_askedHeight : Int32) (m_kind : (Nat → Int32)) (m_feet : (Nat → Int32)) (m_stride : (Nat → Int32)) (m_scope : (Nat → Int32)) (m_care : (Nat → Int32)) (m_rule : (Nat → Int32)) : Option (Int32 × Int32 × Int32) :=
  bd2 (f_X12_passes_r (45 : Int32) m_length m_top m_at m_wrong m_rule) <| fun rn1 m_atn2 =>
  if rn1 = 0 then
    bd1 (f_X12_fine m_wrong) <| fun rn3 =>
    if rn3 = 0 then
      some ((0 : Int32), m_atn2, m_wrong)
    else
      bd1 (f_X12_here_r m_length m_top m_atn2 m_rule) <| fun rn4 =>
      if rn4 = (40 : Int32) then
        if (4 : Int32) ≤ p1 then
          j_X12_thing_r_67 m_length m_top m_isAsked m_askedHorse m_askedFence m_askedLetter m_askedHeight m_kind m_feet m_stride m_scope m_care m_rule rn4 m_atn2 m_wrong
        else
          bd3 (q_X12_held_r ((p1 + (1 : Int32))) m_length m_top ((m_atn2 + (1 : Int32))) m_wrong m_isAsked m_askedHorse m_askedFence m_askedLetter m_askedHeight m_kind m_feet m_stride m_scope m_care m_rule) <| fun rn11 m_atn12 m_wrongn13 =>
          bd2 (f_X12_need_r (41 : Int32) m_length m_top m_atn12 m_wrongn13 m_rule) <| fun m_atn14 m_wrongn15 =>
          some (rn11, m_atn14, m_wrongn15)
      else
        j_X12_thing_r_67 m_length m_top m_isAsked m_askedHorse m_askedFence m_askedLetter m_askedHeight m_kind m_feet m_stride m_scope m_care m_rule rn4 m_atn2 m_wrong
  else
    bd3 (q_X12_thing_r p1 m_length m_top m_atn2 m_wrong m_isAsked m_askedHorse m_askedFence m_askedLetter m_askedHeight m_kind m_feet m_stride m_scope m_care m_rule) <| fun rn16 m_atn17 m_wrongn18 =>
    some ((-rn16), m_atn17, m_wrongn18)
def G_X12_held_r : Nat → ((Int32 → Int32 → Int32 → Int32 → Int32 → Int32 → Int32 → Int32 → Int32 → Int32 → (Nat → Int32) → (Nat → Int32) → (Nat → Int32) → (Nat → Int32) → (Nat → Int32) → (Nat → Int32) → Option (Int32 × Int32 × Int32)) × (Int32 → Int32 → Int32 → Int32 → Int32 → Int32 → Int32 → Int32 → Int32 → Int32 → (Nat → Int32) → (Nat → Int32) → (Nat → Int32) → (Nat → Int32) → (Nat → Int32) → (Nat → Int32) → Option (Int32 × Int32 × Int32)) × (Int32 → Int32 → Int32 → Int32 → Int32 → Int32 → Int32 → Int32 → Int32 → Int32 → (Nat → Int32) → (Nat → Int32) → (Nat → Int32) → (Nat → Int32) → (Nat → Int32) → (Nat → Int32) → Option (Int32 × Int32 × Int32)) × (Int32 → Int32 → Int32 → Int32 → Int32 → Int32 → Int32 → Int32 → Int32 → Int32 → (Nat → Int32) → (Nat → Int32) → (Nat → Int32) → (Nat → Int32) → (Nat → Int32) → (Nat → Int32) → Option (Int32 × Int32 × Int32)))
  | 0 => ((fun _ _ _ _ _ _ _ _ _ _ _ _ _ _ _ _ => none), (fun _ _ _ _ _ _ _ _ _ _ _ _ _ _ _ _ => none), (fun _ _ _ _ _ _ _ _ _ _ _ _ _ _ _ _ => none), (fun _ _ _ _ _ _ _ _ _ _ _ _ _ _ _ _ => none))
  | n + 1 => (g_X12_held_r (G_X12_held_r n).1 (G_X12_held_r n).2.1 (G_X12_held_r n).2.2.1 (G_X12_held_r n).2.2.2, g_X12_product_r (G_X12_held_r n).1 (G_X12_held_r n).2.1 (G_X12_held_r n).2.2.1 (G_X12_held_r n).2.2.2, g_X12_sum_r (G_X12_held_r n).1 (G_X12_held_r n).2.1 (G_X12_held_r n).2.2.1 (G_X12_held_r n).2.2.2, g_X12_thing_r (G_X12_held_r n).1 (G_X12_held_r n).2.1 (G_X12_held_r n).2.2.1 (G_X12_held_r n).2.2.2)
def f_X12_held_r (n : Nat) : (Int32 → Int32 → Int32 → Int32 → Int32 → Int32 → Int32 → Int32 → Int32 → Int32 → (Nat → Int32) → (Nat → Int32) → (Nat → Int32) → (Nat → Int32) → (Nat → Int32) → (Nat → Int32) → Option (Int32 × Int32 × Int32)) := (G_X12_held_r n).1
def f_X12_product_r (n : Nat) : (Int32 → Int32 → Int32 → Int32 → Int32 → Int32 → Int32 → Int32 → Int32 → Int32 → (Nat → Int32) → (Nat → Int32) → (Nat → Int32) → (Nat → Int32) → (Nat → Int32) → (Nat → Int32) → Option (Int32 × Int32 × Int32)) := (G_X12_held_r n).2.1
def f_X12_sum_r (n : Nat) : (Int32 → Int32 → Int32 → Int32 → Int32 → Int32 → Int32 → Int32 → Int32 → Int32 → (Nat → Int32) → (Nat → Int32) → (Nat → Int32) → (Nat → Int32) → (Nat → Int32) → (Nat → Int32) → Option (Int32 × Int32 × Int32)) := (G_X12_held_r n).2.2.1
def f_X12_thing_r (n : Nat) : (Int32 → Int32 → Int32 → Int32 → Int32 → Int32 → Int32 → Int32 → Int32 → Int32 → (Nat → Int32) → (Nat → Int32) → (Nat → Int32) → (Nat → Int32) → (Nat → Int32) → (Nat → Int32) → Option (Int32 × Int32 × Int32)) := (G_X12_held_r n).2.2.2
def f_X12_oddsOf (p1 : Int32) (p2 : Int32) (p3 : Int32) (p4 : Int32) (m_read : Int32) (m_length : Int32) (m_top : Int32) (m_at : Int32) (m_wrong : Int32) (m_ruleSize : Int32) (m_isAsked : Int32) (m_askedHorse : Int32) (m_askedFence : Int32) (m_askedLetter : Int32) (m_askedHeight : Int32) (m_kind : (Nat → Int32)) (m_feet : (Nat → Int32)) (m_stride : (Nat → Int32)) (m_scope : (Nat → Int32)) (m_care : (Nat → Int32)) (m_rule : (Nat → Int32)) : Option (Int32 × Int32 × Int32 × Int32 × Int32 × Int32 × Int32 × Int32 × Int32 × Int32 × Int32) :=
  if m_ruleSize = 0 then
    lt1 ((p3 - p3 / (4 : Int32) * (4 : Int32))) <| fun v6n8 =>
    gd (ix p1 6) <|
    gd (ix p2 8) <|
    gd (ix (((4 : Int32) * p1) + (m_kind p2.toNatClampNeg)) 24) <|
    gd (ix p2 8) <|
    bd1 (f_X12_leanOf p1 ((m_feet p2.toNatClampNeg)) m_stride) <| fun rn9 =>
    lt1 ((((((((p4 * (3 : Int32)) - ((m_scope p1.toNatClampNeg) * (2 : Int32))) - (m_care (((4 : Int32) * p1) + (m_kind p2.toNatClampNeg)).toNatClampNeg)) + (v6n8 * v6n8)) + ((p3 / (4 : Int32)) * (4 : Int32))) + (rn9 * (2 : Int32))) + (5 : Int32))) <| fun v5n10 =>
    some ((if (0 : Int32) < (if v5n10 < (100 : Int32) then v5n10 else (100 : Int32)) then (if v5n10 < (100 : Int32) then v5n10 else (100 : Int32)) else (0 : Int32)), m_read, m_length, m_top, m_at, m_wrong, m_isAsked, m_askedHorse, m_askedFence, m_askedLetter, m_askedHeight)
  else
    bd4 (f_X12_begin_m_rule m_ruleSize (40 : Int32) m_read m_length m_top m_at m_wrong) <| fun m_lengthn1 m_topn2 m_atn3 m_wrongn4 =>
    bd3 (f_X12_held_r 200 (0 : Int32) m_lengthn1 m_topn2 m_atn3 m_wrongn4 (1 : Int32) p1 p2 p3 p4 m_kind m_feet m_stride m_scope m_care m_rule) <| fun rn5 m_atn6 m_wrongn7 =>
    some ((if (0 : Int32) < (if rn5 < (100 : Int32) then rn5 else (100 : Int32)) then (if rn5 < (100 : Int32) then rn5 else (100 : Int32)) else (0 : Int32)), (nI 69), m_lengthn1, m_topn2, m_atn6, m_wrongn7, (0 : Int32), p1, p2, p3, p4)
def f_X12_oddsOf_ (p1 : Int32) (p2 : Int32) (p3 : Int32) (m_read : Int32) (m_length : Int32) (m_top : Int32) (m_at : Int32) (m_wrong : Int32) (m_ruleSize : Int32) (m_isAsked : Int32) (m_askedHorse : Int32) (m_askedFence : Int32) (m_askedLetter : Int32) (m_askedHeight : Int32) (m_kind : (Nat → Int32)) (m_height : (Nat → Int32)) (m_feet : (Nat → Int32)) (m_stride : (Nat → Int32)) (m_scope : (Nat → Int32)) (m_care : (Nat → Int32)) (m_rule : (Nat → Int32)) : Option (Int32 × Int32 × Int32 × Int32 × Int32 × Int32 × Int32 × Int32 × Int32 × Int32 × Int32) :=
  gd (ix p2 8) <|
  bd11 (f_X12_oddsOf p1 p2 p3 ((m_height p2.toNatClampNeg)) m_read m_length m_top m_at m_wrong m_ruleSize m_isAsked m_askedHorse m_askedFence m_askedLetter m_askedHeight m_kind m_feet m_stride m_scope m_care m_rule) <| fun rn1 m_readn2 m_lengthn3 m_topn4 m_atn5 m_wrongn6 m_isAskedn7 m_askedHorsen8 m_askedFencen9 m_askedLettern10 m_askedHeightn11 =>
  some (rn1, m_readn2, m_lengthn3, m_topn4, m_atn5, m_wrongn6, m_isAskedn7, m_askedHorsen8, m_askedFencen9, m_askedLettern10, m_askedHeightn11)
def f_X12_refusalOf (p1 : Int32) (p2 : Int32) (m_kind : (Nat → Int32)) (m_feet : (Nat → Int32)) (m_stride : (Nat → Int32)) (m_care : (Nat → Int32)) : Option Int32 :=
  gd (ix p2 8) <|
  bd1 (f_X12_leanOf p1 ((m_feet p2.toNatClampNeg)) m_stride) <| fun rn1 =>
  gd (ix p2 8) <|
  if (m_kind p2.toNatClampNeg) = (3 : Int32) then
    gd (ix (((4 : Int32) * p1) + (3 : Int32)) 24) <|
    if (5 : Int32) ≤ (m_care (((4 : Int32) * p1) + (3 : Int32)).toNatClampNeg) then
      some (((8 : Int32) * (if (0 : Int32) < (rn1 - (2 : Int32)) then (rn1 - (2 : Int32)) else (0 : Int32))) + (0 : Int32))
    else
      some (((8 : Int32) * (if (0 : Int32) < (rn1 - (2 : Int32)) then (rn1 - (2 : Int32)) else (0 : Int32))) + (5 : Int32))
  else
    some (((8 : Int32) * (if (0 : Int32) < (rn1 - (2 : Int32)) then (rn1 - (2 : Int32)) else (0 : Int32))) + (0 : Int32))
def j_X12_tenthsOf_32 (p1 : Int32) (p2 : Int32) (m_kind : (Nat → Int32)) (m_feet : (Nat → Int32)) (t1_32j : Int32) : Option Int32 :=
  gd (ix p1 8) <|
  if (m_kind p1.toNatClampNeg) = (2 : Int32) then
    lt1 ((((((m_feet p1.toNatClampNeg) * ((6 : Int32) - (p2 - p2 / (4 : Int32) * (4 : Int32)))) / (4 : Int32)) - t1_32j) + (2 : Int32))) <| fun v3n2 =>
    some (if (1 : Int32) < v3n2 then v3n2 else (1 : Int32))
  else
    lt1 ((((((m_feet p1.toNatClampNeg) * ((6 : Int32) - (p2 - p2 / (4 : Int32) * (4 : Int32)))) / (4 : Int32)) - t1_32j) + (0 : Int32))) <| fun v3n1 =>
    some (if (1 : Int32) < v3n1 then v3n1 else (1 : Int32))
def f_X12_tenthsOf (p1 : Int32) (p2 : Int32) (m_kind : (Nat → Int32)) (m_feet : (Nat → Int32)) : Option Int32 :=
  gd (ix p1 8) <|
  if p2 < (4 : Int32) then
    j_X12_tenthsOf_32 p1 p2 m_kind m_feet (0 : Int32)
  else
    gd (ix p1 8) <|
    j_X12_tenthsOf_32 p1 p2 m_kind m_feet (((m_feet p1.toNatClampNeg) / (4 : Int32)))
def f_X12_timeFaults (p1 : Int32) (p2 : Int32) (p3 : Int32) (m_allowed : Int32) : Option Int32 :=
  if m_allowed < p1 then
    gd (nz p2) <|
    some (((((p1 - m_allowed) + p2) - (1 : Int32)) / p2) * p3)
  else
    some (0 : Int32)
def k_X12_goRound_26 (m_allowed : Int32) (v4_26x : Int32) (m_read_26x : Int32) (m_length_26x : Int32) (m_top_26x : Int32) (m_at_26x : Int32) (m_wrong_26x : Int32) (m_isAsked_26x : Int32) (m_askedHorse_26x : Int32) (m_askedFence_26x : Int32) (m_askedLetter_26x : Int32) (m_askedHeight_26x : Int32) (m_rodeTenths_26x : Int32) (m_refused_26x : Int32) (m_down_26x : Int32) (m_drawn_26x : Int32) : Option (Int32 × Int32 × Int32 × Int32 × Int32 × Int32 × Int32 × Int32 × Int32 × Int32 × Int32 × Int32 × Int32 × Int32 × Int32) :=
  bd1 (f_X12_timeFaults m_rodeTenths_26x (40 : Int32) (1 : Int32) m_allowed) <| fun rn1 =>
  some ((v4_26x + rn1), m_read_26x, m_length_26x, m_top_26x, m_at_26x, m_wrong_26x, m_isAsked_26x, m_askedHorse_26x, m_askedFence_26x, m_askedLetter_26x, m_askedHeight_26x, m_rodeTenths_26x, m_refused_26x, m_down_26x, m_drawn_26x)
def j_X12_goRound_100 (p1 : Int32) (p2 : Int32) (m_ruleSize : Int32) (m_kind : (Nat → Int32)) (m_height : (Nat → Int32)) (m_feet : (Nat → Int32)) (m_stride : (Nat → Int32)) (m_scope : (Nat → Int32)) (m_care : (Nat → Int32)) (m_plan : (Nat → Int32)) (m_rule : (Nat → Int32)) (rc26 : Int32 → Int32 → Int32 → Int32 → Int32 → Int32 → Int32 → Int32 → Int32 → Int32 → Int32 → Int32 → Int32 → Int32 → Int32 → Int32 → Option (Int32 × Int32 × Int32 × Int32 × Int32 × Int32 × Int32 × Int32 × Int32 × Int32 × Int32 × Int32 × Int32 × Int32 × Int32)) (v5_26 : Int32) (m_read_26 : Int32) (m_length_26 : Int32) (m_top_26 : Int32) (m_at_26 : Int32) (m_wrong_26 : Int32) (m_isAsked_26 : Int32) (m_askedHorse_26 : Int32) (m_askedFence_26 : Int32) (m_askedLetter_26 : Int32) (m_askedHeight_26 : Int32) (m_down_26 : Int32) (m_drawnn5 : Int32) (v4_100j : Int32) (m_rodeTenths_100j : Int32) (m_refused_100j : Int32) : Option (Int32 × Int32 × Int32 × Int32 × Int32 × Int32 × Int32 × Int32 × Int32 × Int32 × Int32 × Int32 × Int32 × Int32 × Int32) :=
  bd2 (f_X12_draw (100 : Int32) m_drawnn5) <| fun rn7 m_drawnn8 =>
  bd1 (f_X12_letterOf p2 v5_26 m_plan) <| fun rn9 =>
  bd11 (f_X12_oddsOf_ p1 v5_26 rn9 m_read_26 m_length_26 m_top_26 m_at_26 m_wrong_26 m_ruleSize m_isAsked_26 m_askedHorse_26 m_askedFence_26 m_askedLetter_26 m_askedHeight_26 m_kind m_height m_feet m_stride m_scope m_care m_rule) <| fun rn10 m_readn11 m_lengthn12 m_topn13 m_atn14 m_wrongn15 m_isAskedn16 m_askedHorsen17 m_askedFencen18 m_askedLettern19 m_askedHeightn20 =>
  if rn10 ≤ rn7 then
    lt1 ((v5_26 + (1 : Int32))) <| fun v5n21 =>
    rc26 v4_100j v5n21 m_readn11 m_lengthn12 m_topn13 m_atn14 m_wrongn15 m_isAskedn16 m_askedHorsen17 m_askedFencen18 m_askedLettern19 m_askedHeightn20 m_rodeTenths_100j m_refused_100j m_down_26 m_drawnn8
  else
    lt1 ((v4_100j + (4 : Int32))) <| fun v4n22 =>
    lt1 ((v5_26 + (1 : Int32))) <| fun v5n23 =>
    rc26 v4n22 v5n23 m_readn11 m_lengthn12 m_topn13 m_atn14 m_wrongn15 m_isAskedn16 m_askedHorsen17 m_askedFencen18 m_askedLettern19 m_askedHeightn20 m_rodeTenths_100j m_refused_100j ((m_down_26 ||| ((1 : Int32) <<< (v5_26 &&& 31)))) m_drawnn8
def s_X12_goRound_26 (p1 : Int32) (p2 : Int32) (m_fences : Int32) (m_ruleSize : Int32) (m_kind : (Nat → Int32)) (m_height : (Nat → Int32)) (m_feet : (Nat → Int32)) (m_stride : (Nat → Int32)) (m_scope : (Nat → Int32)) (m_care : (Nat → Int32)) (m_plan : (Nat → Int32)) (m_rule : (Nat → Int32)) (kk26 : Int32 → Int32 → Int32 → Int32 → Int32 → Int32 → Int32 → Int32 → Int32 → Int32 → Int32 → Int32 → Int32 → Int32 → Int32 → Option (Int32 × Int32 × Int32 × Int32 × Int32 × Int32 × Int32 × Int32 × Int32 × Int32 × Int32 × Int32 × Int32 × Int32 × Int32)) (rc26 : Int32 → Int32 → Int32 → Int32 → Int32 → Int32 → Int32 → Int32 → Int32 → Int32 → Int32 → Int32 → Int32 → Int32 → Int32 → Int32 → Option (Int32 × Int32 × Int32 × Int32 × Int32 × Int32 × Int32 × Int32 × Int32 × Int32 × Int32 × Int32 × Int32 × Int32 × Int32)) (v4_26 : Int32) (v5_26 : Int32) (m_read_26 : Int32) (m_length_26 : Int32) (m_top_26 : Int32) (m_at_26 : Int32) (m_wrong_26 : Int32) (m_isAsked_26 : Int32) (m_askedHorse_26 : Int32) (m_askedFence_26 : Int32) (m_askedLetter_26 : Int32) (m_askedHeight_26 : Int32) (m_rodeTenths_26 : Int32) (m_refused_26 : Int32) (m_down_26 : Int32) (m_drawn_26 : Int32) : Option (Int32 × Int32 × Int32 × Int32 × Int32 × Int32 × Int32 × Int32 × Int32 × Int32 × Int32 × Int32 × Int32 × Int32 × Int32) :=
  if m_fences ≤ v5_26 then
    kk26 v4_26 m_read_26 m_length_26 m_top_26 m_at_26 m_wrong_26 m_isAsked_26 m_askedHorse_26 m_askedFence_26 m_askedLetter_26 m_askedHeight_26 m_rodeTenths_26 m_refused_26 m_down_26 m_drawn_26
  else
    bd1 (f_X12_letterOf p2 v5_26 m_plan) <| fun rn2 =>
    bd1 (f_X12_tenthsOf v5_26 rn2 m_kind m_feet) <| fun rn3 =>
    bd2 (f_X12_draw (100 : Int32) m_drawn_26) <| fun rn4 m_drawnn5 =>
    bd1 (f_X12_refusalOf p1 v5_26 m_kind m_feet m_stride m_care) <| fun rn6 =>
    if rn6 ≤ rn4 then
      j_X12_goRound_100 p1 p2 m_ruleSize m_kind m_height m_feet m_stride m_scope m_care m_plan m_rule rc26 v5_26 m_read_26 m_length_26 m_top_26 m_at_26 m_wrong_26 m_isAsked_26 m_askedHorse_26 m_askedFence_26 m_askedLetter_26 m_askedHeight_26 m_down_26 m_drawnn5 v4_26 ((m_rodeTenths_26 + rn3)) m_refused_26
    else
      lt1 ((v4_26 + (4 : Int32))) <| fun v4n24 =>
      j_X12_goRound_100 p1 p2 m_ruleSize m_kind m_height m_feet m_stride m_scope m_care m_plan m_rule rc26 v5_26 m_read_26 m_length_26 m_top_26 m_at_26 m_wrong_26 m_isAsked_26 m_askedHorse_26 m_askedFence_26 m_askedLetter_26 m_askedHeight_26 m_down_26 m_drawnn5 v4n24 (((m_rodeTenths_26 + rn3) + (60 : Int32))) ((m_refused_26 ||| ((1 : Int32) <<< (v5_26 &&& 31))))
def f_X12_goRound (p1 : Int32) (p2 : Int32) (p3 : Int32) (m_fences : Int32) (m_allowed : Int32) (m_read : Int32) (m_length : Int32) (m_top : Int32) (m_at : Int32) (m_wrong : Int32) (m_ruleSize : Int32) (m_isAsked : Int32) (m_askedHorse : Int32) (m_askedFence : Int32) (m_askedLetter : Int32) (m_askedHeight : Int32) (m_rodeTenths : Int32) (m_refused : Int32) (m_down : Int32) (m_drawn : Int32) (m_kind : (Nat → Int32)) (m_height : (Nat → Int32)) (m_feet : (Nat → Int32)) (m_stride : (Nat → Int32)) (m_scope : (Nat → Int32)) (m_care : (Nat → Int32)) (m_plan : (Nat → Int32)) (m_rule : (Nat → Int32)) : Option (Int32 × Int32 × Int32 × Int32 × Int32 × Int32 × Int32 × Int32 × Int32 × Int32 × Int32 × Int32 × Int32 × Int32 × Int32) :=
  ml16 (s_X12_goRound_26 p1 p2 m_fences m_ruleSize m_kind m_height m_feet m_stride m_scope m_care m_plan m_rule (k_X12_goRound_26 m_allowed)) zN (0 : Int32) (0 : Int32) m_read m_length m_top m_at m_wrong m_isAsked m_askedHorse m_askedFence m_askedLetter m_askedHeight (0 : Int32) (0 : Int32) (0 : Int32) p3
def f_X12_isHorse (p1 : Int32) (m_horses : Int32) : Option Int32 :=
  bd1 (f_X12_in p1 (0 : Int32) ((m_horses - (1 : Int32)))) <| fun rn1 =>
  gd (bit rn1) <|
  some rn1
def f_X12_isPlan (p1 : Int32) (m_plans : Int32) : Option Int32 :=
  bd1 (f_X12_in p1 (0 : Int32) ((m_plans - (1 : Int32)))) <| fun rn1 =>
  gd (bit rn1) <|
  some rn1
def f_X12_areBoth (p1 : Int32) (p2 : Int32) (m_horses : Int32) (m_plans : Int32) : Option Int32 :=
  bd1 (f_X12_isHorse p1 m_horses) <| fun rn1 =>
  if rn1 = 0 then
    some (0 : Int32)
  else
    bd1 (f_X12_isPlan p2 m_plans) <| fun rn2 =>
    if rn2 = 0 then
      some (0 : Int32)
    else
      some (1 : Int32)
def f_X12_refusesRide (p1 : Int32) (p2 : Int32) (p3 : Int32) (m_horses : Int32) (m_plans : Int32) (m_now : (Nat → Int32)) : Option Int32 :=
  bd1 (f_X12_in p1 (0 : Int32) (5 : Int32)) <| fun rn1 =>
  if rn1 = 0 then
    some (-1 : Int32)
  else
    bd1 (f_X12_areBoth p2 p3 m_horses m_plans) <| fun rn2 =>
    if rn2 = 0 then
      some (-1 : Int32)
    else
      gd (ix (48 : Int32) 49) <|
      if (m_now (48 : Int32).toNatClampNeg) = (12 : Int32) then
        some (-2 : Int32)
      else
        some (0 : Int32)
def f_X12_isMost (p0 : Int32) : Option Int32 :=
  bd1 (f_X12_in p0 (0 : Int32) (9999 : Int32)) <| fun rn1 =>
  gd (bit rn1) <|
  some rn1
def f_X12_refusesTold (p1 : Int32) (p2 : Int32) (p3 : Int32) (p4 : Int32) (m_horses : Int32) (m_now : (Nat → Int32)) : Option Int32 :=
  bd1 (f_X12_in p1 (0 : Int32) (5 : Int32)) <| fun rn1 =>
  if rn1 = 0 then
    some (-1 : Int32)
  else
    bd1 (f_X12_isHorse p2 m_horses) <| fun rn2 =>
    if rn2 = 0 then
      some (-1 : Int32)
    else
      bd1 (f_X12_in p3 (0 : Int32) (99 : Int32)) <| fun rn3 =>
      if rn3 = 0 then
        some (-1 : Int32)
      else
        bd1 (f_X12_isMost p4) <| fun rn4 =>
        if rn4 = 0 then
          some (-1 : Int32)
        else
          gd (ix (48 : Int32) 49) <|
          if (m_now (48 : Int32).toNatClampNeg) = (12 : Int32) then
            some (-2 : Int32)
          else
            some (0 : Int32)
def f_X12_act (p1 : Int32) (m_fences : Int32) (m_allowed : Int32) (m_horses : Int32) (m_plans : Int32) (m_read : Int32) (m_length : Int32) (m_top : Int32) (m_at : Int32) (m_wrong : Int32) (m_ruleSize : Int32) (m_isAsked : Int32) (m_askedHorse : Int32) (m_askedFence : Int32) (m_askedLetter : Int32) (m_askedHeight : Int32) (m_rodeTenths : Int32) (m_refused : Int32) (m_down : Int32) (m_drawn : Int32) (m_now : (Nat → Int32)) (m_kind : (Nat → Int32)) (m_height : (Nat → Int32)) (m_feet : (Nat → Int32)) (m_stride : (Nat → Int32)) (m_scope : (Nat → Int32)) (m_care : (Nat → Int32)) (m_plan : (Nat → Int32)) (m_rule : (Nat → Int32)) (m_acts : (Nat → Int32)) : Option (Int32 × Int32 × Int32 × Int32 × Int32 × Int32 × Int32 × Int32 × Int32 × Int32 × Int32 × Int32 × Int32 × Int32 × Int32 × (Nat → Int32)) :=
  gd (ix (p1 + (1 : Int32)) 400) <|
  lt1 ((m_acts (p1 + (1 : Int32)).toNatClampNeg)) <| fun v2n1 =>
  gd (ix (p1 + (2 : Int32)) 400) <|
  lt1 ((m_acts (p1 + (2 : Int32)).toNatClampNeg)) <| fun v3n2 =>
  gd (ix (p1 + (3 : Int32)) 400) <|
  lt1 ((m_acts (p1 + (3 : Int32)).toNatClampNeg)) <| fun v4n3 =>
  gd (ix (p1 + (4 : Int32)) 400) <|
  lt1 ((m_acts (p1 + (4 : Int32)).toNatClampNeg)) <| fun v5n4 =>
  gd (ix p1 400) <|
  if (m_acts p1.toNatClampNeg) = (114 : Int32) then
    bd1 (f_X12_refusesRide v2n1 v3n2 v4n3 m_horses m_plans m_now) <| fun rn5 =>
    if 0 ≤ rn5 then
      bd15 (f_X12_goRound v3n2 v4n3 v5n4 m_fences m_allowed m_read m_length m_top m_at m_wrong m_ruleSize m_isAsked m_askedHorse m_askedFence m_askedLetter m_askedHeight m_rodeTenths m_refused m_down m_drawn m_kind m_height m_feet m_stride m_scope m_care m_plan m_rule) <| fun rn6 m_readn7 m_lengthn8 m_topn9 m_atn10 m_wrongn11 m_isAskedn12 m_askedHorsen13 m_askedFencen14 m_askedLettern15 m_askedHeightn16 m_rodeTenthsn17 m_refusedn18 m_downn19 m_drawnn20 =>
      bd1 (f_X12_add_m_now v2n1 v3n2 rn6 m_rodeTenthsn17 m_now) <| fun m_nown21 =>
      some ((1 : Int32), m_readn7, m_lengthn8, m_topn9, m_atn10, m_wrongn11, m_isAskedn12, m_askedHorsen13, m_askedFencen14, m_askedLettern15, m_askedHeightn16, m_rodeTenthsn17, m_refusedn18, m_downn19, m_drawnn20, m_nown21)
    else
      some ((0 : Int32), m_read, m_length, m_top, m_at, m_wrong, m_isAsked, m_askedHorse, m_askedFence, m_askedLetter, m_askedHeight, m_rodeTenths, m_refused, m_down, m_drawn, m_now)
  else
  if (m_acts p1.toNatClampNeg) = (116 : Int32) then
    bd1 (f_X12_refusesTold v2n1 v3n2 v4n3 v5n4 m_horses m_now) <| fun rn22 =>
    if 0 ≤ rn22 then
      bd1 (f_X12_add_m_now v2n1 v3n2 v4n3 v5n4 m_now) <| fun m_nown23 =>
      some ((1 : Int32), m_read, m_length, m_top, m_at, m_wrong, m_isAsked, m_askedHorse, m_askedFence, m_askedLetter, m_askedHeight, m_rodeTenths, m_refused, m_down, m_drawn, m_nown23)
    else
      some ((0 : Int32), m_read, m_length, m_top, m_at, m_wrong, m_isAsked, m_askedHorse, m_askedFence, m_askedLetter, m_askedHeight, m_rodeTenths, m_refused, m_down, m_drawn, m_now)
  else
    gd (ix (48 : Int32) 49) <|
    if (m_now (48 : Int32).toNatClampNeg) = 0 then
      some ((0 : Int32), m_read, m_length, m_top, m_at, m_wrong, m_isAsked, m_askedHorse, m_askedFence, m_askedLetter, m_askedHeight, m_rodeTenths, m_refused, m_down, m_drawn, m_now)
    else
      gd (ix (48 : Int32) 49) <|
      gd (ix (48 : Int32) 49) <|
      some ((1 : Int32), m_read, m_length, m_top, m_at, m_wrong, m_isAsked, m_askedHorse, m_askedFence, m_askedLetter, m_askedHeight, m_rodeTenths, m_refused, m_down, m_drawn, (upd m_now (48 : Int32).toNatClampNeg ((m_now (48 : Int32).toNatClampNeg) - (1 : Int32))))
def k_X12_again_27 (m_now_27x : (Nat → Int32)) : Option (Int32 × Int32 × Int32 × (Nat → Int32)) :=
  some ((1 : Int32), (0 : Int32), (0 : Int32), m_now_27x)
def s_X12_again_27 (p1 : Int32) (m_kept : (Nat → Int32)) (kk27 : (Nat → Int32) → Option (Int32 × Int32 × Int32 × (Nat → Int32))) (rc27 : Int32 → (Nat → Int32) → Option (Int32 × Int32 × Int32 × (Nat → Int32))) (v2_27 : Int32) (m_now_27 : (Nat → Int32)) : Option (Int32 × Int32 × Int32 × (Nat → Int32)) :=
  if (49 : Int32) ≤ v2_27 then
    kk27 m_now_27
  else
    gd (ix (((49 : Int32) * p1) + v2_27) 98) <|
    gd (ix v2_27 49) <|
    lt1 ((v2_27 + (1 : Int32))) <| fun v2n2 =>
    rc27 v2n2 ((upd m_now_27 v2_27.toNatClampNeg (m_kept (((49 : Int32) * p1) + v2_27).toNatClampNeg)))
def f_X12_again (p1 : Int32) (m_thrown : Int32) (m_undoMany : Int32) (m_now : (Nat → Int32)) (m_kept : (Nat → Int32)) (m_isKept : (Nat → Int32)) : Option (Int32 × Int32 × Int32 × (Nat → Int32)) :=
  bd1 (f_X12_in p1 (0 : Int32) (1 : Int32)) <| fun rn1 =>
  if rn1 = 0 then
    some ((0 : Int32), (0 : Int32), m_undoMany, m_now)
  else
    gd (ix p1 2) <|
    if (m_isKept p1.toNatClampNeg) = 0 then
      some ((0 : Int32), (0 : Int32), m_undoMany, m_now)
    else
      ml2 (s_X12_again_27 p1 m_kept (k_X12_again_27)) zN (0 : Int32) m_now
def f_X12_allow (p1 : Int32) (m_allowed : Int32) (m_thrown : Int32) : Option (Int32 × Int32 × Int32) :=
  bd1 (f_X12_isMost p1) <| fun rn1 =>
  if rn1 = 0 then
    some ((-1 : Int32), m_allowed, (0 : Int32))
  else
    some (m_allowed, p1, (0 : Int32))
def f_X12_moneyOf (p1 : Int32) (m_money : (Nat → Int32)) : Option Int32 :=
  if (6 : Int32) < p1 then
    some (0 : Int32)
  else
    gd (ix (p1 - (1 : Int32)) 6) <|
    some (m_money (p1 - (1 : Int32)).toNatClampNeg)
def k_X12_placeFor_m_now_5 (v3_5x : Int32) : Option Int32 :=
  some v3_5x
def s_X12_placeFor_m_now_5 (p1 : Int32) (p2 : Int32) (m_now : (Nat → Int32)) (kk5 : Int32 → Option Int32) (rc5 : Int32 → Int32 → Option Int32) (v3_5 : Int32) (v4_5 : Int32) : Option Int32 :=
  gd (ix (48 : Int32) 49) <|
  if (m_now (48 : Int32).toNatClampNeg) ≤ v4_5 then
    kk5 v3_5
  else
    gd (ix (((4 : Int32) * v4_5) + (2 : Int32)) 49) <|
    if (m_now (((4 : Int32) * v4_5) + (2 : Int32)).toNatClampNeg) < p1 then
      lt1 ((v3_5 + (1 : Int32))) <| fun v3n1 =>
      lt1 ((v4_5 + (1 : Int32))) <| fun v4n2 =>
      rc5 v3n1 v4n2
    else
      gd (ix (((4 : Int32) * v4_5) + (2 : Int32)) 49) <|
      if (m_now (((4 : Int32) * v4_5) + (2 : Int32)).toNatClampNeg) = p1 then
        gd (ix (((4 : Int32) * v4_5) + (3 : Int32)) 49) <|
        if p2 < (m_now (((4 : Int32) * v4_5) + (3 : Int32)).toNatClampNeg) then
          lt1 ((v4_5 + (1 : Int32))) <| fun v4n4 =>
          rc5 v3_5 v4n4
        else
          lt1 ((v3_5 + (1 : Int32))) <| fun v3n5 =>
          lt1 ((v4_5 + (1 : Int32))) <| fun v4n6 =>
          rc5 v3n5 v4n6
      else
        lt1 ((v4_5 + (1 : Int32))) <| fun v4n3 =>
        rc5 v3_5 v4n3
def f_X12_placeFor_m_now (p1 : Int32) (p2 : Int32) (m_now : (Nat → Int32)) : Option Int32 :=
  ml2 (s_X12_placeFor_m_now_5 p1 p2 m_now (k_X12_placeFor_m_now_5)) zN (1 : Int32) (0 : Int32)
def f_X12_tell (p1 : Int64) (m_rowMany : Int32) (m_row : (Nat → Int64)) : Option (Int32 × (Nat → Int64)) :=
  gd (ix m_rowMany 16) <|
  some ((m_rowMany + (1 : Int32)), (vp_updL m_row m_rowMany.toNatClampNeg p1))
def k_X12_beat_21 (m_rowMany : Int32) (m_now : (Nat → Int32)) (m_money : (Nat → Int32)) (m_row : (Nat → Int64)) (v2_21x : Int32) : Option (Int32 × Int32 × Int32 × (Nat → Int64)) :=
  if 0 ≤ v2_21x then
    bd1 (f_X12_placeFor_m_now (0 : Int32) v2_21x m_now) <| fun rn2 =>
    bd1 (f_X12_moneyOf rn2 m_money) <| fun rn3 =>
    bd2 (f_X12_tell (rn3.toInt64) (0 : Int32) m_row) <| fun m_rowManyn4 m_rown5 =>
    some (v2_21x, m_rowManyn4, (0 : Int32), m_rown5)
  else
    some ((-2 : Int32), m_rowMany, (0 : Int32), m_row)
def s_X12_beat_21 (p1 : Int32) (m_now : (Nat → Int32)) (kk21 : Int32 → Option (Int32 × Int32 × Int32 × (Nat → Int64))) (rc21 : Int32 → Option (Int32 × Int32 × Int32 × (Nat → Int64))) (v2_21 : Int32) : Option (Int32 × Int32 × Int32 × (Nat → Int64)) :=
  if v2_21 < 0 then
    kk21 v2_21
  else
    bd1 (f_X12_placeFor_m_now (0 : Int32) v2_21 m_now) <| fun rn6 =>
    if rn6 ≤ p1 then
      kk21 v2_21
    else
      lt1 ((v2_21 + (-1 : Int32))) <| fun v2n7 =>
      rc21 v2n7
def f_X12_beat (p1 : Int32) (m_rowMany : Int32) (m_thrown : Int32) (m_now : (Nat → Int32)) (m_money : (Nat → Int32)) (m_row : (Nat → Int64)) : Option (Int32 × Int32 × Int32 × (Nat → Int64)) :=
  bd1 (f_X12_in p1 (1 : Int32) (12 : Int32)) <| fun rn1 =>
  if rn1 = 0 then
    some ((-1 : Int32), m_rowMany, (0 : Int32), m_row)
  else
    ml1 (s_X12_beat_21 p1 m_now (k_X12_beat_21 m_rowMany m_now m_money m_row)) zN (9999 : Int32)
def f_X12_begin_m_text (p2 : Int32) (p3 : Int32) (m_read : Int32) (m_length : Int32) (m_top : Int32) (m_at : Int32) (m_wrong : Int32) : Option (Int32 × Int32 × Int32 × Int32) :=
  some (p2, p3, (0 : Int32), (-1 : Int32))
def k_X12_clearBy_8 (v5_8x : Int32) (m_read_8x : Int32) (m_length_8x : Int32) (m_top_8x : Int32) (m_at_8x : Int32) (m_wrong_8x : Int32) (m_isAsked_8x : Int32) (m_askedHorse_8x : Int32) (m_askedFence_8x : Int32) (m_askedLetter_8x : Int32) (m_askedHeight_8x : Int32) : Option (Int32 × Int32 × Int32 × Int32 × Int32 × Int32 × Int32 × Int32 × Int32 × Int32 × Int32) :=
  some (v5_8x, m_read_8x, m_length_8x, m_top_8x, m_at_8x, m_wrong_8x, m_isAsked_8x, m_askedHorse_8x, m_askedFence_8x, m_askedLetter_8x, m_askedHeight_8x)
def s_X12_clearBy_8 (p1 : Int32) (p2 : Int32) (p3 : Int32) (p4 : Int32) (m_fences : Int32) (m_ruleSize : Int32) (m_kind : (Nat → Int32)) (m_height : (Nat → Int32)) (m_feet : (Nat → Int32)) (m_stride : (Nat → Int32)) (m_scope : (Nat → Int32)) (m_care : (Nat → Int32)) (m_plan : (Nat → Int32)) (m_rule : (Nat → Int32)) (kk8 : Int32 → Int32 → Int32 → Int32 → Int32 → Int32 → Int32 → Int32 → Int32 → Int32 → Int32 → Option (Int32 × Int32 × Int32 × Int32 × Int32 × Int32 × Int32 × Int32 × Int32 × Int32 × Int32)) (rc8 : Int32 → Int32 → Int32 → Int32 → Int32 → Int32 → Int32 → Int32 → Int32 → Int32 → Int32 → Int32 → Option (Int32 × Int32 × Int32 × Int32 × Int32 × Int32 × Int32 × Int32 × Int32 × Int32 × Int32)) (v5_8 : Int32) (v6_8 : Int32) (m_read_8 : Int32) (m_length_8 : Int32) (m_top_8 : Int32) (m_at_8 : Int32) (m_wrong_8 : Int32) (m_isAsked_8 : Int32) (m_askedHorse_8 : Int32) (m_askedFence_8 : Int32) (m_askedLetter_8 : Int32) (m_askedHeight_8 : Int32) : Option (Int32 × Int32 × Int32 × Int32 × Int32 × Int32 × Int32 × Int32 × Int32 × Int32 × Int32) :=
  if m_fences ≤ v6_8 then
    kk8 v5_8 m_read_8 m_length_8 m_top_8 m_at_8 m_wrong_8 m_isAsked_8 m_askedHorse_8 m_askedFence_8 m_askedLetter_8 m_askedHeight_8
  else
    bd1 (f_X12_refusalOf p1 v6_8 m_kind m_feet m_stride m_care) <| fun rn1 =>
    lt1 (((v5_8 * ((100 : Int32) - rn1)) / (100 : Int32))) <| fun v5n2 =>
    bd1 (f_X12_letterOf p2 v6_8 m_plan) <| fun rn3 =>
    if v6_8 = p3 then
      bd11 (f_X12_oddsOf p1 v6_8 rn3 p4 m_read_8 m_length_8 m_top_8 m_at_8 m_wrong_8 m_ruleSize m_isAsked_8 m_askedHorse_8 m_askedFence_8 m_askedLetter_8 m_askedHeight_8 m_kind m_feet m_stride m_scope m_care m_rule) <| fun rn17 m_readn18 m_lengthn19 m_topn20 m_atn21 m_wrongn22 m_isAskedn23 m_askedHorsen24 m_askedFencen25 m_askedLettern26 m_askedHeightn27 =>
      lt1 (((v5n2 * ((100 : Int32) - rn17)) / (100 : Int32))) <| fun v5n28 =>
      lt1 ((v6_8 + (1 : Int32))) <| fun v6n29 =>
      rc8 v5n28 v6n29 m_readn18 m_lengthn19 m_topn20 m_atn21 m_wrongn22 m_isAskedn23 m_askedHorsen24 m_askedFencen25 m_askedLettern26 m_askedHeightn27
    else
      gd (ix v6_8 8) <|
      bd11 (f_X12_oddsOf p1 v6_8 rn3 ((m_height v6_8.toNatClampNeg)) m_read_8 m_length_8 m_top_8 m_at_8 m_wrong_8 m_ruleSize m_isAsked_8 m_askedHorse_8 m_askedFence_8 m_askedLetter_8 m_askedHeight_8 m_kind m_feet m_stride m_scope m_care m_rule) <| fun rn4 m_readn5 m_lengthn6 m_topn7 m_atn8 m_wrongn9 m_isAskedn10 m_askedHorsen11 m_askedFencen12 m_askedLettern13 m_askedHeightn14 =>
      lt1 (((v5n2 * ((100 : Int32) - rn4)) / (100 : Int32))) <| fun v5n15 =>
      lt1 ((v6_8 + (1 : Int32))) <| fun v6n16 =>
      rc8 v5n15 v6n16 m_readn5 m_lengthn6 m_topn7 m_atn8 m_wrongn9 m_isAskedn10 m_askedHorsen11 m_askedFencen12 m_askedLettern13 m_askedHeightn14
def f_X12_clearBy (p1 : Int32) (p2 : Int32) (p3 : Int32) (p4 : Int32) (m_fences : Int32) (m_read : Int32) (m_length : Int32) (m_top : Int32) (m_at : Int32) (m_wrong : Int32) (m_ruleSize : Int32) (m_isAsked : Int32) (m_askedHorse : Int32) (m_askedFence : Int32) (m_askedLetter : Int32) (m_askedHeight : Int32) (m_kind : (Nat → Int32)) (m_height : (Nat → Int32)) (m_feet : (Nat → Int32)) (m_stride : (Nat → Int32)) (m_scope : (Nat → Int32)) (m_care : (Nat → Int32)) (m_plan : (Nat → Int32)) (m_rule : (Nat → Int32)) : Option (Int32 × Int32 × Int32 × Int32 × Int32 × Int32 × Int32 × Int32 × Int32 × Int32 × Int32) :=
  ml12 (s_X12_clearBy_8 p1 p2 p3 p4 m_fences m_ruleSize m_kind m_height m_feet m_stride m_scope m_care m_plan m_rule (k_X12_clearBy_8)) zN (10000 : Int32) (0 : Int32) m_read m_length m_top m_at m_wrong m_isAsked m_askedHorse m_askedFence m_askedLetter m_askedHeight
def f_X12_clearOf (p1 : Int32) (p2 : Int32) (m_fences : Int32) (m_read : Int32) (m_length : Int32) (m_top : Int32) (m_at : Int32) (m_wrong : Int32) (m_ruleSize : Int32) (m_isAsked : Int32) (m_askedHorse : Int32) (m_askedFence : Int32) (m_askedLetter : Int32) (m_askedHeight : Int32) (m_kind : (Nat → Int32)) (m_height : (Nat → Int32)) (m_feet : (Nat → Int32)) (m_stride : (Nat → Int32)) (m_scope : (Nat → Int32)) (m_care : (Nat → Int32)) (m_plan : (Nat → Int32)) (m_rule : (Nat → Int32)) : Option (Int32 × Int32 × Int32 × Int32 × Int32 × Int32 × Int32 × Int32 × Int32 × Int32 × Int32) :=
  bd11 (f_X12_clearBy p1 p2 (-1 : Int32) (0 : Int32) m_fences m_read m_length m_top m_at m_wrong m_ruleSize m_isAsked m_askedHorse m_askedFence m_askedLetter m_askedHeight m_kind m_height m_feet m_stride m_scope m_care m_plan m_rule) <| fun rn1 m_readn2 m_lengthn3 m_topn4 m_atn5 m_wrongn6 m_isAskedn7 m_askedHorsen8 m_askedFencen9 m_askedLettern10 m_askedHeightn11 =>
  some (rn1, m_readn2, m_lengthn3, m_topn4, m_atn5, m_wrongn6, m_isAskedn7, m_askedHorsen8, m_askedFencen9, m_askedLettern10, m_askedHeightn11)
def k_X12_tenthsOfPlan_4 (v2_4x : Int32) : Option Int32 :=
  some v2_4x
def s_X12_tenthsOfPlan_4 (p1 : Int32) (m_fences : Int32) (m_kind : (Nat → Int32)) (m_feet : (Nat → Int32)) (m_plan : (Nat → Int32)) (kk4 : Int32 → Option Int32) (rc4 : Int32 → Int32 → Option Int32) (v2_4 : Int32) (v3_4 : Int32) : Option Int32 :=
  if m_fences ≤ v3_4 then
    kk4 v2_4
  else
    bd1 (f_X12_letterOf p1 v3_4 m_plan) <| fun rn1 =>
    bd1 (f_X12_tenthsOf v3_4 rn1 m_kind m_feet) <| fun rn2 =>
    lt1 ((v2_4 + rn2)) <| fun v2n3 =>
    lt1 ((v3_4 + (1 : Int32))) <| fun v3n4 =>
    rc4 v2n3 v3n4
def f_X12_tenthsOfPlan (p1 : Int32) (m_fences : Int32) (m_kind : (Nat → Int32)) (m_feet : (Nat → Int32)) (m_plan : (Nat → Int32)) : Option Int32 :=
  ml2 (s_X12_tenthsOfPlan_4 p1 m_fences m_kind m_feet m_plan (k_X12_tenthsOfPlan_4)) zN (0 : Int32) (0 : Int32)
def f_X12_moneyFor_m_now (p2 : Int32) (p3 : Int32) (m_fences : Int32) (m_allowed : Int32) (m_now : (Nat → Int32)) (m_kind : (Nat → Int32)) (m_feet : (Nat → Int32)) (m_plan : (Nat → Int32)) (m_money : (Nat → Int32)) : Option Int32 :=
  bd1 (f_X12_tenthsOfPlan p2 m_fences m_kind m_feet m_plan) <| fun rn1 =>
  bd1 (f_X12_timeFaults rn1 (40 : Int32) (1 : Int32) m_allowed) <| fun rn2 =>
  if p3 = 0 then
    bd1 (f_X12_placeFor_m_now ((rn2 + (4 : Int32))) rn1 m_now) <| fun rn3 =>
    bd1 (f_X12_moneyOf rn3 m_money) <| fun rn4 =>
    some rn4
  else
    bd1 (f_X12_placeFor_m_now ((rn2 + (0 : Int32))) rn1 m_now) <| fun rn5 =>
    bd1 (f_X12_moneyOf rn5 m_money) <| fun rn6 =>
    some rn6
def f_X12_meanOf (p1 : Int32) (p2 : Int32) (m_fences : Int32) (m_allowed : Int32) (m_read : Int32) (m_length : Int32) (m_top : Int32) (m_at : Int32) (m_wrong : Int32) (m_ruleSize : Int32) (m_isAsked : Int32) (m_askedHorse : Int32) (m_askedFence : Int32) (m_askedLetter : Int32) (m_askedHeight : Int32) (m_now : (Nat → Int32)) (m_kind : (Nat → Int32)) (m_height : (Nat → Int32)) (m_feet : (Nat → Int32)) (m_stride : (Nat → Int32)) (m_scope : (Nat → Int32)) (m_care : (Nat → Int32)) (m_plan : (Nat → Int32)) (m_money : (Nat → Int32)) (m_rule : (Nat → Int32)) : Option (Int32 × Int32 × Int32 × Int32 × Int32 × Int32 × Int32 × Int32 × Int32 × Int32 × Int32) :=
  bd11 (f_X12_clearOf p1 p2 m_fences m_read m_length m_top m_at m_wrong m_ruleSize m_isAsked m_askedHorse m_askedFence m_askedLetter m_askedHeight m_kind m_height m_feet m_stride m_scope m_care m_plan m_rule) <| fun rn1 m_readn2 m_lengthn3 m_topn4 m_atn5 m_wrongn6 m_isAskedn7 m_askedHorsen8 m_askedFencen9 m_askedLettern10 m_askedHeightn11 =>
  bd1 (f_X12_moneyFor_m_now p2 (1 : Int32) m_fences m_allowed m_now m_kind m_feet m_plan m_money) <| fun rn12 =>
  bd1 (f_X12_moneyFor_m_now p2 (0 : Int32) m_fences m_allowed m_now m_kind m_feet m_plan m_money) <| fun rn13 =>
  some (((rn1 * rn12) + (((10000 : Int32) - rn1) * rn13)), m_readn2, m_lengthn3, m_topn4, m_atn5, m_wrongn6, m_isAskedn7, m_askedHorsen8, m_askedFencen9, m_askedLettern10, m_askedHeightn11)
