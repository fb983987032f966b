def k_X12_plan_82 (m_plans : Int32) (m_plan_82x : (Nat → Int32)) : Option (Int32 × Int32 × Int32 × Int32 × (Nat → Int32)) :=
  some (((m_plans + (1 : Int32)) - (1 : Int32)), (m_plans + (1 : Int32)), (0 : Int32), (0 : Int32), m_plan_82x)
def s_X12_plan_82 (m_plans : Int32) (m_typed : Int32) (m_text : (Nat → Int32)) (kk82 : (Nat → Int32) → Option (Int32 × Int32 × Int32 × Int32 × (Nat → Int32))) (rc82 : Int32 → (Nat → Int32) → Option (Int32 × Int32 × Int32 × Int32 × (Nat → Int32))) (v2_82 : Int32) (m_plan_82 : (Nat → Int32)) : Option (Int32 × Int32 × Int32 × Int32 × (Nat → Int32)) :=
  if m_typed ≤ v2_82 then
    kk82 m_plan_82
  else
    gd (ix v2_82 80) <|
    gd (ix (((8 : Int32) * m_plans) + v2_82) 48) <|
    lt1 ((v2_82 + (1 : Int32))) <| fun v2n1 =>
    rc82 v2n1 ((upd m_plan_82 (((8 : Int32) * m_plans) + v2_82).toNatClampNeg ((m_text v2_82.toNatClampNeg) - (97 : Int32))))
def k_X12_plan_29 (m_fences : Int32) (m_plans : Int32) (m_typed : Int32) (m_plan : (Nat → Int32)) (m_text : (Nat → Int32)) (_u : Unit) : Option (Int32 × Int32 × Int32 × Int32 × (Nat → Int32)) :=
  if m_fences ≤ m_typed then
    ml2 (s_X12_plan_82 m_plans m_typed m_text (k_X12_plan_82 m_plans)) zN (0 : Int32) m_plan
  else
    some (((-1 : Int32) - m_typed), m_plans, (0 : Int32), (0 : Int32), m_plan)
def s_X12_plan_29 (m_fences : Int32) (m_plans : Int32) (m_typed : Int32) (m_plan : (Nat → Int32)) (m_text : (Nat → Int32)) (kk29 : Unit → Option (Int32 × Int32 × Int32 × Int32 × (Nat → Int32))) (rc29 : Int32 → Option (Int32 × Int32 × Int32 × Int32 × (Nat → Int32))) (v2_29 : Int32) : Option (Int32 × Int32 × Int32 × Int32 × (Nat → Int32)) :=
  if m_typed ≤ v2_29 then
    kk29 ()
  else
    if v2_29 = m_fences then
      some (((-1 : Int32) - v2_29), m_plans, (0 : Int32), (0 : Int32), m_plan)
    else
      gd (ix v2_29 80) <|
      bd1 (f_X12_in ((m_text v2_29.toNatClampNeg)) (97 : Int32) (104 : Int32)) <| fun rn2 =>
      if rn2 = 0 then
        some (((-1 : Int32) - v2_29), m_plans, (0 : Int32), (0 : Int32), m_plan)
      else
        lt1 ((v2_29 + (1 : Int32))) <| fun v2n3 =>
        rc29 v2n3
def f_X12_plan (m_fences : Int32) (m_plans : Int32) (m_typed : Int32) (m_thrown : Int32) (m_plan : (Nat → Int32)) (m_text : (Nat → Int32)) : Option (Int32 × Int32 × Int32 × Int32 × (Nat → Int32)) :=
  if m_plans = (6 : Int32) then
    some ((-100 : Int32), m_plans, (0 : Int32), (0 : Int32), m_plan)
  else
    ml1 (s_X12_plan_29 m_fences m_plans m_typed m_plan m_text (k_X12_plan_29 m_fences m_plans m_typed m_plan m_text)) zN (0 : Int32)
def k_X12_poles_64 (p3 : Int32) (m_read_64x : Int32) (m_length_64x : Int32) (m_top_64x : Int32) (m_at_64x : Int32) (m_wrong_64x : Int32) (m_isAsked_64x : Int32) (m_askedHorse_64x : Int32) (m_askedFence_64x : Int32) (m_askedLetter_64x : Int32) (m_askedHeight_64x : Int32) (m_fallen_64x : (Nat → Int32)) : Option (Int32 × Int32 × Int32 × Int32 × Int32 × Int32 × Int32 × Int32 × Int32 × Int32 × Int32 × Int32 × (Nat → Int32)) :=
  gd (ix p3 9) <|
  some ((m_fallen_64x p3.toNatClampNeg), (0 : Int32), m_read_64x, m_length_64x, m_top_64x, m_at_64x, m_wrong_64x, m_isAsked_64x, m_askedHorse_64x, m_askedFence_64x, m_askedLetter_64x, m_askedHeight_64x, m_fallen_64x)
def k_X12_poles_93 (rc64 : Int32 → Int32 → Int32 → Int32 → Int32 → Int32 → Int32 → Int32 → Int32 → Int32 → Int32 → (Nat → Int32) → Option (Int32 × Int32 × Int32 × Int32 × Int32 × Int32 × Int32 × Int32 × Int32 × Int32 × Int32 × Int32 × (Nat → Int32))) (v4_64 : Int32) (m_readn5 : Int32) (m_lengthn6 : Int32) (m_topn7 : Int32) (m_atn8 : Int32) (m_wrongn9 : Int32) (m_isAskedn10 : Int32) (m_askedHorsen11 : Int32) (m_askedFencen12 : Int32) (m_askedLettern13 : Int32) (m_askedHeightn14 : Int32) (m_fallen_93x : (Nat → Int32)) : Option (Int32 × Int32 × Int32 × Int32 × Int32 × Int32 × Int32 × Int32 × Int32 × Int32 × Int32 × Int32 × (Nat → Int32)) :=
  lt1 ((v4_64 + (1 : Int32))) <| fun v4n15 =>
  rc64 v4n15 m_readn5 m_lengthn6 m_topn7 m_atn8 m_wrongn9 m_isAskedn10 m_askedHorsen11 m_askedFencen12 m_askedLettern13 m_askedHeightn14 m_fallen_93x
def s_X12_poles_93 (rn4 : Int32) (kk93 : (Nat → Int32) → Option (Int32 × Int32 × Int32 × Int32 × Int32 × Int32 × Int32 × Int32 × Int32 × Int32 × Int32 × Int32 × (Nat → Int32))) (rc93 : Int32 → (Nat → Int32) → Option (Int32 × Int32 × Int32 × Int32 × Int32 × Int32 × Int32 × Int32 × Int32 × Int32 × Int32 × Int32 × (Nat → Int32))) (v6_93 : Int32) (m_fallen_93 : (Nat → Int32)) : Option (Int32 × Int32 × Int32 × Int32 × Int32 × Int32 × Int32 × Int32 × Int32 × Int32 × Int32 × Int32 × (Nat → Int32)) :=
  if v6_93 < 0 then
    kk93 m_fallen_93
  else
    gd (ix v6_93 9) <|
    if v6_93 = 0 then
      gd (ix v6_93 9) <|
      lt1 ((v6_93 + (-1 : Int32))) <| fun v6n17 =>
      rc93 v6n17 ((upd m_fallen_93 v6_93.toNatClampNeg ((((m_fallen_93 v6_93.toNatClampNeg) * ((100 : Int32) - rn4)) / (100 : Int32)) + (0 : Int32))))
    else
      gd (ix (v6_93 - (1 : Int32)) 9) <|
      gd (ix v6_93 9) <|
      lt1 ((v6_93 + (-1 : Int32))) <| fun v6n16 =>
      rc93 v6n16 ((upd m_fallen_93 v6_93.toNatClampNeg ((((m_fallen_93 v6_93.toNatClampNeg) * ((100 : Int32) - rn4)) / (100 : Int32)) + (((m_fallen_93 (v6_93 - (1 : Int32)).toNatClampNeg) * rn4) / (100 : Int32)))))
def s_X12_poles_64 (p1 : Int32) (p2 : Int32) (m_fences : Int32) (m_ruleSize : Int32) (m_kind : (Nat → Int32)) (m_height : (Nat → Int32)) (m_feet : (Nat → Int32)) (m_stride : (Nat → Int32)) (m_scope : (Nat → Int32)) (m_care : (Nat → Int32)) (m_plan : (Nat → Int32)) (m_rule : (Nat → Int32)) (kk64 : Int32 → Int32 → Int32 → Int32 → Int32 → Int32 → Int32 → Int32 → Int32 → Int32 → (Nat → Int32) → Option (Int32 × Int32 × Int32 × Int32 × Int32 × Int32 × Int32 × Int32 × Int32 × Int32 × Int32 × Int32 × (Nat → Int32))) (rc64 : Int32 → Int32 → Int32 → Int32 → Int32 → Int32 → Int32 → Int32 → Int32 → Int32 → Int32 → (Nat → Int32) → Option (Int32 × Int32 × Int32 × Int32 × Int32 × Int32 × Int32 × Int32 × Int32 × Int32 × Int32 × Int32 × (Nat → Int32))) (v4_64 : Int32) (m_read_64 : Int32) (m_length_64 : Int32) (m_top_64 : Int32) (m_at_64 : Int32) (m_wrong_64 : Int32) (m_isAsked_64 : Int32) (m_askedHorse_64 : Int32) (m_askedFence_64 : Int32) (m_askedLetter_64 : Int32) (m_askedHeight_64 : Int32) (m_fallen_64 : (Nat → Int32)) : Option (Int32 × Int32 × Int32 × Int32 × Int32 × Int32 × Int32 × Int32 × Int32 × Int32 × Int32 × Int32 × (Nat → Int32)) :=
  if m_fences ≤ v4_64 then
    kk64 m_read_64 m_length_64 m_top_64 m_at_64 m_wrong_64 m_isAsked_64 m_askedHorse_64 m_askedFence_64 m_askedLetter_64 m_askedHeight_64 m_fallen_64
  else
    bd1 (f_X12_letterOf p2 v4_64 m_plan) <| fun rn3 =>
    bd11 (f_X12_oddsOf_ p1 v4_64 rn3 m_read_64 m_length_64 m_top_64 m_at_64 m_wrong_64 m_ruleSize m_isAsked_64 m_askedHorse_64 m_askedFence_64 m_askedLetter_64 m_askedHeight_64 m_kind m_height m_feet m_stride m_scope m_care m_rule) <| fun rn4 m_readn5 m_lengthn6 m_topn7 m_atn8 m_wrongn9 m_isAskedn10 m_askedHorsen11 m_askedFencen12 m_askedLettern13 m_askedHeightn14 =>
    ml2 (s_X12_poles_93 rn4 (k_X12_poles_93 rc64 v4_64 m_readn5 m_lengthn6 m_topn7 m_atn8 m_wrongn9 m_isAskedn10 m_askedHorsen11 m_askedFencen12 m_askedLettern13 m_askedHeightn14)) zN (8 : Int32) m_fallen_64
def k_X12_poles_29 (p1 : Int32) (p2 : Int32) (p3 : Int32) (m_fences : Int32) (m_read : Int32) (m_length : Int32) (m_top : Int32) (m_at : Int32) (m_wrong : Int32) (m_ruleSize : Int32) (m_isAsked : Int32) (m_askedHorse : Int32) (m_askedFence : Int32) (m_askedLetter : Int32) (m_askedHeight : Int32) (m_kind : (Nat → Int32)) (m_height : (Nat → Int32)) (m_feet : (Nat → Int32)) (m_stride : (Nat → Int32)) (m_scope : (Nat → Int32)) (m_care : (Nat → Int32)) (m_plan : (Nat → Int32)) (m_rule : (Nat → Int32)) (m_fallen_29x : (Nat → Int32)) : Option (Int32 × Int32 × Int32 × Int32 × Int32 × Int32 × Int32 × Int32 × Int32 × Int32 × Int32 × Int32 × (Nat → Int32)) :=
  ml12 (s_X12_poles_64 p1 p2 m_fences m_ruleSize m_kind m_height m_feet m_stride m_scope m_care m_plan m_rule (k_X12_poles_64 p3)) zN (0 : Int32) m_read m_length m_top m_at m_wrong m_isAsked m_askedHorse m_askedFence m_askedLetter m_askedHeight m_fallen_29x
def s_X12_poles_29  (kk29 : (Nat → Int32) → Option (Int32 × Int32 × Int32 × Int32 × Int32 × Int32 × Int32 × Int32 × Int32 × Int32 × Int32 × Int32 × (Nat → Int32))) (rc29 : Int32 → (Nat → Int32) → Option (Int32 × Int32 × Int32 × Int32 × Int32 × Int32 × Int32 × Int32 × Int32 × Int32 × Int32 × Int32 × (Nat → Int32))) (v4_29 : Int32) (m_fallen_29 : (Nat → Int32)) : Option (Int32 × Int32 × Int32 × Int32 × Int32 × Int32 × Int32 × Int32 × Int32 × Int32 × Int32 × Int32 × (Nat → Int32)) :=
  if (8 : Int32) < v4_29 then
    kk29 m_fallen_29
  else
    if v4_29 = 0 then
      gd (ix v4_29 9) <|
      lt1 ((v4_29 + (1 : Int32))) <| fun v4n19 =>
      rc29 v4n19 ((upd m_fallen_29 v4_29.toNatClampNeg (10000 : Int32)))
    else
      gd (ix v4_29 9) <|
      lt1 ((v4_29 + (1 : Int32))) <| fun v4n18 =>
      rc29 v4n18 ((upd m_fallen_29 v4_29.toNatClampNeg (0 : Int32)))
def f_X12_poles (p1 : Int32) (p2 : Int32) (p3 : Int32) (m_fences : Int32) (m_horses : Int32) (m_plans : Int32) (m_thrown : Int32) (m_read : Int32) (m_length : Int32) (m_top : Int32) (m_at : Int32) (m_wrong : Int32) (m_ruleSize : Int32) (m_isAsked : Int32) (m_askedHorse : Int32) (m_askedFence : Int32) (m_askedLetter : Int32) (m_askedHeight : Int32) (m_kind : (Nat → Int32)) (m_height : (Nat → Int32)) (m_feet : (Nat → Int32)) (m_stride : (Nat → Int32)) (m_scope : (Nat → Int32)) (m_care : (Nat → Int32)) (m_plan : (Nat → Int32)) (m_rule : (Nat → Int32)) (m_fallen : (Nat → Int32)) : Option (Int32 × Int32 × Int32 × Int32 × Int32 × Int32 × Int32 × Int32 × Int32 × Int32 × Int32 × Int32 × (Nat → Int32)) :=
  bd1 (f_X12_areBoth p1 p2 m_horses m_plans) <| fun rn1 =>
  if rn1 = 0 then
    some ((-1 : Int32), (0 : Int32), m_read, m_length, m_top, m_at, m_wrong, m_isAsked, m_askedHorse, m_askedFence, m_askedLetter, m_askedHeight, m_fallen)
  else
    bd1 (f_X12_in p3 (0 : Int32) (8 : Int32)) <| fun rn2 =>
    if rn2 = 0 then
      some ((-1 : Int32), (0 : Int32), m_read, m_length, m_top, m_at, m_wrong, m_isAsked, m_askedHorse, m_askedFence, m_askedLetter, m_askedHeight, m_fallen)
    else
      ml2 (s_X12_poles_29 (k_X12_poles_29 p1 p2 p3 m_fences m_read m_length m_top m_at m_wrong m_ruleSize m_isAsked m_askedHorse m_askedFence m_askedLetter m_askedHeight m_kind m_height m_feet m_stride m_scope m_care m_plan m_rule)) zN (0 : Int32) m_fallen
def k_X12_prizes_115 (m_lengthn1 : Int32) (m_topn2 : Int32) (v1_28x : Int32) (m_at_28x : Int32) (m_newMoney_28x : (Nat → Int32)) (m_wrong_99j : Int32) (m_money_115x : (Nat → Int32)) : Option (Int32 × Int32 × Int32 × Int32 × Int32 × Int32 × Int32 × (Nat → Int32) × (Nat → Int32)) :=
  some (v1_28x, (0 : Int32), (0 : Int32), m_lengthn1, m_topn2, m_at_28x, m_wrong_99j, m_money_115x, m_newMoney_28x)
def s_X12_prizes_115 (v1_28x : Int32) (m_newMoney_28x : (Nat → Int32)) (kk115 : (Nat → Int32) → Option (Int32 × Int32 × Int32 × Int32 × Int32 × Int32 × Int32 × (Nat → Int32) × (Nat → Int32))) (rc115 : Int32 → (Nat → Int32) → Option (Int32 × Int32 × Int32 × Int32 × Int32 × Int32 × Int32 × (Nat → Int32) × (Nat → Int32))) (v3_115 : Int32) (m_money_115 : (Nat → Int32)) : Option (Int32 × Int32 × Int32 × Int32 × Int32 × Int32 × Int32 × (Nat → Int32) × (Nat → Int32)) :=
  if (6 : Int32) ≤ v3_115 then
    kk115 m_money_115
  else
    if v1_28x ≤ v3_115 then
      gd (ix v3_115 6) <|
      lt1 ((v3_115 + (1 : Int32))) <| fun v3n6 =>
      rc115 v3n6 ((upd m_money_115 v3_115.toNatClampNeg (0 : Int32)))
    else
      gd (ix v3_115 6) <|
      gd (ix v3_115 6) <|
      lt1 ((v3_115 + (1 : Int32))) <| fun v3n7 =>
      rc115 v3n7 ((upd m_money_115 v3_115.toNatClampNeg (m_newMoney_28x v3_115.toNatClampNeg)))
def j_X12_prizes_99 (m_money : (Nat → Int32)) (m_lengthn1 : Int32) (m_topn2 : Int32) (v1_28x : Int32) (m_at_28x : Int32) (m_newMoney_28x : (Nat → Int32)) (m_wrong_99j : Int32) : Option (Int32 × Int32 × Int32 × Int32 × Int32 × Int32 × Int32 × (Nat → Int32) × (Nat → Int32)) :=
  bd1 (f_X12_fine m_wrong_99j) <| fun rn5 =>
  if rn5 = 0 then
    some (((-1 : Int32) - m_wrong_99j), (0 : Int32), (0 : Int32), m_lengthn1, m_topn2, m_at_28x, m_wrong_99j, m_money, m_newMoney_28x)
  else
    ml2 (s_X12_prizes_115 v1_28x m_newMoney_28x (k_X12_prizes_115 m_lengthn1 m_topn2 v1_28x m_at_28x m_newMoney_28x m_wrong_99j)) zN (0 : Int32) m_money
def k_X12_prizes_28 (m_money : (Nat → Int32)) (m_lengthn1 : Int32) (m_topn2 : Int32) (v1_28x : Int32) (m_at_28x : Int32) (m_wrong_28x : Int32) (m_newMoney_28x : (Nat → Int32)) : Option (Int32 × Int32 × Int32 × Int32 × Int32 × Int32 × Int32 × (Nat → Int32) × (Nat → Int32)) :=
  if m_lengthn1 ≤ m_at_28x then
    j_X12_prizes_99 m_money m_lengthn1 m_topn2 v1_28x m_at_28x m_newMoney_28x m_wrong_28x
  else
    bd1 (f_X12_fault m_at_28x m_wrong_28x) <| fun m_wrongn8 =>
    j_X12_prizes_99 m_money m_lengthn1 m_topn2 v1_28x m_at_28x m_newMoney_28x m_wrongn8
def s_X12_prizes_28 (m_text : (Nat → Int32)) (m_lengthn1 : Int32) (m_topn2 : Int32) (kk28 : Int32 → Int32 → Int32 → (Nat → Int32) → Option (Int32 × Int32 × Int32 × Int32 × Int32 × Int32 × Int32 × (Nat → Int32) × (Nat → Int32))) (rc28 : Int32 → Int32 → Int32 → Int32 → (Nat → Int32) → Option (Int32 × Int32 × Int32 × Int32 × Int32 × Int32 × Int32 × (Nat → Int32) × (Nat → Int32))) (v1_28 : Int32) (v2_28 : Int32) (m_at_28 : Int32) (m_wrong_28 : Int32) (m_newMoney_28 : (Nat → Int32)) : Option (Int32 × Int32 × Int32 × Int32 × Int32 × Int32 × Int32 × (Nat → Int32) × (Nat → Int32)) :=
  if v2_28 = 0 then
    kk28 v1_28 m_at_28 m_wrong_28 m_newMoney_28
  else
    bd1 (f_X12_fine m_wrong_28) <| fun rn9 =>
    if rn9 = 0 then
      kk28 v1_28 m_at_28 m_wrong_28 m_newMoney_28
    else
      if v1_28 = (6 : Int32) then
        bd1 (f_X12_fault m_at_28 m_wrong_28) <| fun m_wrongn16 =>
        lt1 ((v1_28 + (1 : Int32))) <| fun v1n17 =>
        bd2 (f_X12_passes_t (44 : Int32) m_lengthn1 m_topn2 m_at_28 m_wrongn16 m_text) <| fun rn18 m_atn19 =>
        rc28 v1n17 rn18 m_atn19 m_wrongn16 m_newMoney_28
      else
        bd3 (f_X12_number_t (2 : Int32) m_lengthn1 m_topn2 m_at_28 m_wrong_28 m_text) <| fun rn10 m_atn11 m_wrongn12 =>
        gd (ix v1_28 6) <|
        lt1 ((v1_28 + (1 : Int32))) <| fun v1n13 =>
        bd2 (f_X12_passes_t (44 : Int32) m_lengthn1 m_topn2 m_atn11 m_wrongn12 m_text) <| fun rn14 m_atn15 =>
        rc28 v1n13 rn14 m_atn15 m_wrongn12 ((upd m_newMoney_28 v1_28.toNatClampNeg rn10))
def f_X12_prizes (m_typed : Int32) (m_thrown : Int32) (m_read : Int32) (m_length : Int32) (m_top : Int32) (m_at : Int32) (m_wrong : Int32) (m_money : (Nat → Int32)) (m_text : (Nat → Int32)) (m_newMoney : (Nat → Int32)) : Option (Int32 × Int32 × Int32 × Int32 × Int32 × Int32 × Int32 × (Nat → Int32) × (Nat → Int32)) :=
  bd4 (f_X12_begin_m_text m_typed (80 : Int32) m_read m_length m_top m_at m_wrong) <| fun m_lengthn1 m_topn2 m_atn3 m_wrongn4 =>
  ml5 (s_X12_prizes_28 m_text m_lengthn1 m_topn2 (k_X12_prizes_28 m_money m_lengthn1 m_topn2)) zN (0 : Int32) (1 : Int32) m_atn3 m_wrongn4 m_newMoney
def f_X12_quick (p1 : Int32) (p2 : Int32) (m_fences : Int32) (m_horses : Int32) (m_rowMany : Int32) (m_thrown : Int32) (m_read : Int32) (m_length : Int32) (m_top : Int32) (m_at : Int32) (m_wrong : Int32) (m_ruleSize : Int32) (m_isAsked : Int32) (m_askedHorse : Int32) (m_askedFence : Int32) (m_askedLetter : Int32) (m_askedHeight : Int32) (m_kind : (Nat → Int32)) (m_height : (Nat → Int32)) (m_feet : (Nat → Int32)) (m_stride : (Nat → Int32)) (m_scope : (Nat → Int32)) (m_care : (Nat → Int32)) (m_rule : (Nat → Int32)) (m_left : (Nat → Int32)) (m_spent : (Nat → Int32)) (m_little : (Nat → Int32)) (m_row : (Nat → Int64)) : Option (Int32 × Int32 × Int32 × Int32 × Int32 × Int32 × Int32 × Int32 × Int32 × Int32 × Int32 × Int32 × Int32 × (Nat → Int32) × (Nat → Int32) × (Nat → Int32) × (Nat → Int64)) :=
  bd1 (f_X12_isHorse p1 m_horses) <| fun rn1 =>
  if rn1 = 0 then
    some ((-1 : Int32), m_rowMany, (0 : Int32), m_read, m_length, m_top, m_at, m_wrong, m_isAsked, m_askedHorse, m_askedFence, m_askedLetter, m_askedHeight, m_left, m_spent, m_little, m_row)
  else
    bd1 (f_X12_isMost p2) <| fun rn2 =>
    if rn2 = 0 then
      some ((-1 : Int32), m_rowMany, (0 : Int32), m_read, m_length, m_top, m_at, m_wrong, m_isAsked, m_askedHorse, m_askedFence, m_askedLetter, m_askedHeight, m_left, m_spent, m_little, m_row)
    else
      bd12 (f_X12_layFences p1 (0 : Int32) m_fences m_read m_length m_top m_at m_wrong m_ruleSize m_isAsked m_askedHorse m_askedFence m_askedLetter m_askedHeight m_kind m_height m_feet m_stride m_scope m_care m_rule m_spent m_little) <| fun m_readn3 m_lengthn4 m_topn5 m_atn6 m_wrongn7 m_isAskedn8 m_askedHorsen9 m_askedFencen10 m_askedLettern11 m_askedHeightn12 m_spentn13 m_littlen14 =>
      bd4 (f_X12_least p2 m_fences m_rowMany m_left m_spentn13 m_littlen14 m_row) <| fun rn15 m_rowManyn16 m_leftn17 m_rown18 =>
      some (rn15, m_rowManyn16, (0 : Int32), m_readn3, m_lengthn4, m_topn5, m_atn6, m_wrongn7, m_isAskedn8, m_askedHorsen9, m_askedFencen10, m_askedLettern11, m_askedHeightn12, m_leftn17, m_spentn13, m_littlen14, m_rown18)
def f_X12_raise (p1 : Int32) (p2 : Int32) (m_fences : Int32) (m_thrown : Int32) (m_height : (Nat → Int32)) : Option (Int32 × Int32 × (Nat → Int32)) :=
  bd1 (f_X12_isFence p1 m_fences) <| fun rn1 =>
  if rn1 = 0 then
    some ((-1 : Int32), (0 : Int32), m_height)
  else
    bd1 (f_X12_in p2 (0 : Int32) (9 : Int32)) <| fun rn2 =>
    if rn2 = 0 then
      some ((-1 : Int32), (0 : Int32), m_height)
    else
      gd (ix p1 8) <|
      lt1 ((m_height p1.toNatClampNeg)) <| fun v3n3 =>
      gd (ix p1 8) <|
      some (v3n3, (0 : Int32), (upd m_height p1.toNatClampNeg p2))
def j_X12_readAct_t_31 (p1 : Int32) (m_length : Int32) (m_top : Int32) (m_at : Int32) (m_text : (Nat → Int32)) (m_acts : (Nat → Int32)) (rn1 : Int32) (m_wrong_31j : Int32) : Option (Int32 × Int32 × (Nat → Int32)) :=
  gd (ix p1 400) <|
  if rn1 = (120 : Int32) then
    some ((m_at + (1 : Int32)), m_wrong_31j, (upd m_acts p1.toNatClampNeg rn1))
  else
    bd3 (f_X12_digit_t (0 : Int32) (9 : Int32) m_length m_top ((m_at + (1 : Int32))) m_wrong_31j m_text) <| fun rn2 m_atn3 m_wrongn4 =>
    gd (ix (p1 + (1 : Int32)) 400) <|
    bd3 (f_X12_digit_t (0 : Int32) (9 : Int32) m_length m_top m_atn3 m_wrongn4 m_text) <| fun rn5 m_atn6 m_wrongn7 =>
    gd (ix (p1 + (2 : Int32)) 400) <|
    if rn1 = (114 : Int32) then
      bd3 (f_X12_digit_t (0 : Int32) (9 : Int32) m_length m_top m_atn6 m_wrongn7 m_text) <| fun rn18 m_atn19 m_wrongn20 =>
      gd (ix (p1 + (3 : Int32)) 400) <|
      bd2 (f_X12_need_t (42 : Int32) m_length m_top m_atn19 m_wrongn20 m_text) <| fun m_atn21 m_wrongn22 =>
      bd3 (f_X12_digit_t (0 : Int32) (9 : Int32) m_length m_top m_atn21 m_wrongn22 m_text) <| fun rn23 m_atn24 m_wrongn25 =>
      gd (ix (p1 + (4 : Int32)) 400) <|
      some (m_atn24, m_wrongn25, (upd ((upd ((upd ((upd ((upd m_acts p1.toNatClampNeg rn1)) (p1 + (1 : Int32)).toNatClampNeg rn2)) (p1 + (2 : Int32)).toNatClampNeg rn5)) (p1 + (3 : Int32)).toNatClampNeg rn18)) (p1 + (4 : Int32)).toNatClampNeg rn23))
    else
      bd2 (f_X12_need_t (58 : Int32) m_length m_top m_atn6 m_wrongn7 m_text) <| fun m_atn8 m_wrongn9 =>
      bd3 (f_X12_number_t (2 : Int32) m_length m_top m_atn8 m_wrongn9 m_text) <| fun rn10 m_atn11 m_wrongn12 =>
      gd (ix (p1 + (3 : Int32)) 400) <|
      bd2 (f_X12_need_t (43 : Int32) m_length m_top m_atn11 m_wrongn12 m_text) <| fun m_atn13 m_wrongn14 =>
      bd3 (f_X12_number_t (4 : Int32) m_length m_top m_atn13 m_wrongn14 m_text) <| fun rn15 m_atn16 m_wrongn17 =>
      gd (ix (p1 + (4 : Int32)) 400) <|
      some (m_atn16, m_wrongn17, (upd ((upd ((upd ((upd ((upd m_acts p1.toNatClampNeg rn1)) (p1 + (1 : Int32)).toNatClampNeg rn2)) (p1 + (2 : Int32)).toNatClampNeg rn5)) (p1 + (3 : Int32)).toNatClampNeg rn10)) (p1 + (4 : Int32)).toNatClampNeg rn15))
def f_X12_readAct_t (p1 : Int32) (m_length : Int32) (m_top : Int32) (m_at : Int32) (m_wrong : Int32) (m_text : (Nat → Int32)) (m_acts : (Nat → Int32)) : Option (Int32 × Int32 × (Nat → Int32)) :=
  bd1 (f_X12_here_t m_length m_top m_at m_text) <| fun rn1 =>
  if rn1 = (114 : Int32) then
    j_X12_readAct_t_31 p1 m_length m_top m_at m_text m_acts rn1 m_wrong
  else
    if rn1 = (116 : Int32) then
      j_X12_readAct_t_31 p1 m_length m_top m_at m_text m_acts rn1 m_wrong
    else
      if rn1 = (120 : Int32) then
        j_X12_readAct_t_31 p1 m_length m_top m_at m_text m_acts rn1 m_wrong
      else
        bd1 (f_X12_fault m_at m_wrong) <| fun m_wrongn26 =>
        j_X12_readAct_t_31 p1 m_length m_top m_at m_text m_acts rn1 m_wrongn26
def j_X12_readFence_t_31 (p1 : Int32) (m_length : Int32) (m_top : Int32) (m_at : Int32) (m_text : (Nat → Int32)) (m_newFences : (Nat → Int32)) (rn2 : Int32) (m_wrong_31j : Int32) : Option (Int32 × Int32 × (Nat → Int32)) :=
  bd3 (f_X12_digit_t (0 : Int32) (9 : Int32) m_length m_top ((m_at + (1 : Int32))) m_wrong_31j m_text) <| fun rn3 m_atn4 m_wrongn5 =>
  gd (ix (p1 + (1 : Int32)) 24) <|
  bd2 (f_X12_need_t (64 : Int32) m_length m_top m_atn4 m_wrongn5 m_text) <| fun m_atn6 m_wrongn7 =>
  bd3 (f_X12_digit_t (1 : Int32) (9 : Int32) m_length m_top m_atn6 m_wrongn7 m_text) <| fun rn8 m_atn9 m_wrongn10 =>
  bd3 (f_X12_digit_t (0 : Int32) (9 : Int32) m_length m_top m_atn9 m_wrongn10 m_text) <| fun rn11 m_atn12 m_wrongn13 =>
  gd (ix (p1 + (2 : Int32)) 24) <|
  some (m_atn12, m_wrongn13, (upd ((upd ((upd m_newFences p1.toNatClampNeg rn2)) (p1 + (1 : Int32)).toNatClampNeg rn3)) (p1 + (2 : Int32)).toNatClampNeg (((10 : Int32) * rn8) + rn11)))
def f_X12_readFence_t (p1 : Int32) (m_length : Int32) (m_top : Int32) (m_at : Int32) (m_wrong : Int32) (m_text : (Nat → Int32)) (m_newFences : (Nat → Int32)) : Option (Int32 × Int32 × (Nat → Int32)) :=
  bd1 (f_X12_here_t m_length m_top m_at m_text) <| fun rn1 =>
  bd1 (f_X12_kindOf rn1) <| fun rn2 =>
  gd (ix p1 24) <|
  gd (ix p1 24) <|
  if (((upd m_newFences p1.toNatClampNeg rn2)) p1.toNatClampNeg) = (-1 : Int32) then
    bd1 (f_X12_fault m_at m_wrong) <| fun m_wrongn14 =>
    j_X12_readFence_t_31 p1 m_length m_top m_at m_text m_newFences rn2 m_wrongn14
  else
    j_X12_readFence_t_31 p1 m_length m_top m_at m_text m_newFences rn2 m_wrong
def j_X12_remember_m_aside_49 (m_aside : (Nat → Int32)) (m_undoMany_49j : Int32) (m_undos_49j : (Nat → Int32)) : Option (Int32 × (Nat → Int32)) :=
  bd1 (f_X12_lay_m_aside_m_undos (((49 : Int32) * m_undoMany_49j)) m_undos_49j m_aside) <| fun m_undosn1 =>
  some ((m_undoMany_49j + (1 : Int32)), m_undosn1)
def k_X12_remember_m_aside_11 (m_undoMany : Int32) (m_aside : (Nat → Int32)) (m_undos_11x : (Nat → Int32)) : Option (Int32 × (Nat → Int32)) :=
  j_X12_remember_m_aside_49 m_aside ((m_undoMany - (1 : Int32))) m_undos_11x
def s_X12_remember_m_aside_11  (kk11 : (Nat → Int32) → Option (Int32 × (Nat → Int32))) (rc11 : Int32 → (Nat → Int32) → Option (Int32 × (Nat → Int32))) (v2_11 : Int32) (m_undos_11 : (Nat → Int32)) : Option (Int32 × (Nat → Int32)) :=
  if (539 : Int32) ≤ v2_11 then
    kk11 m_undos_11
  else
    gd (ix (v2_11 + (49 : Int32)) 588) <|
    gd (ix v2_11 588) <|
    lt1 ((v2_11 + (1 : Int32))) <| fun v2n2 =>
    rc11 v2n2 ((upd m_undos_11 v2_11.toNatClampNeg (m_undos_11 (v2_11 + (49 : Int32)).toNatClampNeg)))
def f_X12_remember_m_aside (m_undoMany : Int32) (m_undos : (Nat → Int32)) (m_aside : (Nat → Int32)) : Option (Int32 × (Nat → Int32)) :=
  if m_undoMany = (12 : Int32) then
    ml2 (s_X12_remember_m_aside_11 (k_X12_remember_m_aside_11 m_undoMany m_aside)) zN (0 : Int32) m_undos
  else
    j_X12_remember_m_aside_49 m_aside m_undoMany m_undos
def j_X12_remember_m_now_49 (m_now : (Nat → Int32)) (m_undoMany_49j : Int32) (m_undos_49j : (Nat → Int32)) : Option (Int32 × (Nat → Int32)) :=
  bd1 (f_X12_lay_m_now_m_undos (((49 : Int32) * m_undoMany_49j)) m_now m_undos_49j) <| fun m_undosn1 =>
  some ((m_undoMany_49j + (1 : Int32)), m_undosn1)
def k_X12_remember_m_now_11 (m_undoMany : Int32) (m_now : (Nat → Int32)) (m_undos_11x : (Nat → Int32)) : Option (Int32 × (Nat → Int32)) :=
  j_X12_remember_m_now_49 m_now ((m_undoMany - (1 : Int32))) m_undos_11x
def s_X12_remember_m_now_11  (kk11 : (Nat → Int32) → Option (Int32 × (Nat → Int32))) (rc11 : Int32 → (Nat → Int32) → Option (Int32 × (Nat → Int32))) (v2_11 : Int32) (m_undos_11 : (Nat → Int32)) : Option (Int32 × (Nat → Int32)) :=
  if (539 : Int32) ≤ v2_11 then
    kk11 m_undos_11
  else
    gd (ix (v2_11 + (49 : Int32)) 588) <|
    gd (ix v2_11 588) <|
    lt1 ((v2_11 + (1 : Int32))) <| fun v2n2 =>
    rc11 v2n2 ((upd m_undos_11 v2_11.toNatClampNeg (m_undos_11 (v2_11 + (49 : Int32)).toNatClampNeg)))
def f_X12_remember_m_now (m_undoMany : Int32) (m_now : (Nat → Int32)) (m_undos : (Nat → Int32)) : Option (Int32 × (Nat → Int32)) :=
  if m_undoMany = (12 : Int32) then
    ml2 (s_X12_remember_m_now_11 (k_X12_remember_m_now_11 m_undoMany m_now)) zN (0 : Int32) m_undos
  else
    j_X12_remember_m_now_49 m_now m_undoMany m_undos
def k_X12_ridden_12 (m_riddenMany_12x : Int32) (m_riddenFaults_12x : Int32) : Option (Int32 × Int32) :=
  some (m_riddenMany_12x, m_riddenFaults_12x)
def s_X12_ridden_12 (p1 : Int32) (p2 : Int32) (m_now : (Nat → Int32)) (kk12 : Int32 → Int32 → Option (Int32 × Int32)) (rc12 : Int32 → Int32 → Int32 → Option (Int32 × Int32)) (v3_12 : Int32) (m_riddenMany_12 : Int32) (m_riddenFaults_12 : Int32) : Option (Int32 × Int32) :=
  gd (ix (48 : Int32) 49) <|
  if (m_now (48 : Int32).toNatClampNeg) ≤ v3_12 then
    kk12 m_riddenMany_12 m_riddenFaults_12
  else
    gd (ix ((4 : Int32) * v3_12) 49) <|
    if (m_now ((4 : Int32) * v3_12).toNatClampNeg) = p1 then
      gd (ix (((4 : Int32) * v3_12) + (1 : Int32)) 49) <|
      if (m_now (((4 : Int32) * v3_12) + (1 : Int32)).toNatClampNeg) = p2 then
        gd (ix (((4 : Int32) * v3_12) + (2 : Int32)) 49) <|
        lt1 ((v3_12 + (1 : Int32))) <| fun v3n2 =>
        rc12 v3n2 ((m_riddenMany_12 + (1 : Int32))) ((m_riddenFaults_12 + (m_now (((4 : Int32) * v3_12) + (2 : Int32)).toNatClampNeg)))
      else
        lt1 ((v3_12 + (1 : Int32))) <| fun v3n3 =>
        rc12 v3n3 m_riddenMany_12 m_riddenFaults_12
    else
      lt1 ((v3_12 + (1 : Int32))) <| fun v3n1 =>
      rc12 v3n1 m_riddenMany_12 m_riddenFaults_12
def f_X12_ridden (p1 : Int32) (p2 : Int32) (m_riddenMany : Int32) (m_riddenFaults : Int32) (m_now : (Nat → Int32)) : Option (Int32 × Int32) :=
  ml3 (s_X12_ridden_12 p1 p2 m_now (k_X12_ridden_12)) zN (0 : Int32) (0 : Int32) (0 : Int32)
def f_X12_ride (p1 : Int32) (p2 : Int32) (p3 : Int32) (p4 : Int32) (m_fences : Int32) (m_allowed : Int32) (m_horses : Int32) (m_plans : Int32) (m_rowMany : Int32) (m_thrown : Int32) (m_read : Int32) (m_length : Int32) (m_top : Int32) (m_at : Int32) (m_wrong : Int32) (m_ruleSize : Int32) (m_isAsked : Int32) (m_askedHorse : Int32) (m_askedFence : Int32) (m_askedLetter : Int32) (m_askedHeight : Int32) (m_undoMany : Int32) (m_rodeTenths : Int32) (m_refused : Int32) (m_down : Int32) (m_drawn : Int32) (m_now : (Nat → Int32)) (m_kind : (Nat → Int32)) (m_height : (Nat → Int32)) (m_feet : (Nat → Int32)) (m_stride : (Nat → Int32)) (m_scope : (Nat → Int32)) (m_care : (Nat → Int32)) (m_plan : (Nat → Int32)) (m_rule : (Nat → Int32)) (m_undos : (Nat → Int32)) (m_row : (Nat → Int64)) : Option (Int32 × Int32 × Int32 × Int32 × Int32 × Int32 × Int32 × Int32 × Int32 × Int32 × Int32 × Int32 × Int32 × Int32 × Int32 × Int32 × Int32 × Int32 × (Nat → Int32) × (Nat → Int32) × (Nat → Int64)) :=
  bd1 (f_X12_refusesRide p1 p2 p3 m_horses m_plans m_now) <| fun rn1 =>
  if 0 ≤ rn1 then
    bd2 (f_X12_remember_m_now m_undoMany m_now m_undos) <| fun m_undoManyn2 m_undosn3 =>
    bd15 (f_X12_goRound p2 p3 p4 m_fences m_allowed m_read m_length m_top m_at m_wrong m_ruleSize m_isAsked m_askedHorse m_askedFence m_askedLetter m_askedHeight m_rodeTenths m_refused m_down m_drawn m_kind m_height m_feet m_stride m_scope m_care m_plan m_rule) <| fun rn4 m_readn5 m_lengthn6 m_topn7 m_atn8 m_wrongn9 m_isAskedn10 m_askedHorsen11 m_askedFencen12 m_askedLettern13 m_askedHeightn14 m_rodeTenthsn15 m_refusedn16 m_downn17 m_drawnn18 =>
    bd1 (f_X12_add_m_now p1 p2 rn4 m_rodeTenthsn15 m_now) <| fun m_nown19 =>
    bd2 (f_X12_tellRound m_rowMany m_rodeTenthsn15 m_refusedn16 m_downn17 m_drawnn18 m_row) <| fun m_rowManyn20 m_rown21 =>
    some (rn4, m_rowManyn20, (0 : Int32), m_readn5, m_lengthn6, m_topn7, m_atn8, m_wrongn9, m_isAskedn10, m_askedHorsen11, m_askedFencen12, m_askedLettern13, m_askedHeightn14, m_undoManyn2, m_rodeTenthsn15, m_refusedn16, m_downn17, m_drawnn18, m_nown19, m_undosn3, m_rown21)
  else
    some (rn1, m_rowMany, (0 : Int32), m_read, m_length, m_top, m_at, m_wrong, m_isAsked, m_askedHorse, m_askedFence, m_askedLetter, m_askedHeight, m_undoMany, m_rodeTenths, m_refused, m_down, m_drawn, m_now, m_undos, m_row)
def k_X12_riders_41 (m_rowMany : Int32) (m_row : (Nat → Int64)) (v3_41x : Int32) (v4_41x : Int64) (v6_41x : Int64) (m_riddenMany_41x : Int32) (m_riddenFaults_41x : Int32) : Option (Int32 × Int32 × Int32 × Int32 × Int32 × (Nat → Int64)) :=
  if v3_41x = 0 then
    some ((-2 : Int32), m_rowMany, (0 : Int32), m_riddenMany_41x, m_riddenFaults_41x, m_row)
  else
    bd2 (f_X12_tellPart v4_41x ((v6_41x * v3_41x.toInt64)) (0 : Int32) m_row) <| fun m_rowManyn3 m_rown4 =>
    some (v3_41x, m_rowManyn3, (0 : Int32), m_riddenMany_41x, m_riddenFaults_41x, m_rown4)
def s_X12_riders_41 (p1 : Int32) (p2 : Int32) (m_horses : Int32) (m_now : (Nat → Int32)) (kk41 : Int32 → Int64 → Int64 → Int32 → Int32 → Option (Int32 × Int32 × Int32 × Int32 × Int32 × (Nat → Int64))) (rc41 : Int32 → Int64 → Int64 → Int32 → Int32 → Int32 → Option (Int32 × Int32 × Int32 × Int32 × Int32 × (Nat → Int64))) (v3_41 : Int32) (v4_41 : Int64) (v6_41 : Int64) (v8_41 : Int32) (m_riddenMany_41 : Int32) (m_riddenFaults_41 : Int32) : Option (Int32 × Int32 × Int32 × Int32 × Int32 × (Nat → Int64)) :=
  if m_horses ≤ v8_41 then
    kk41 v3_41 v4_41 v6_41 m_riddenMany_41 m_riddenFaults_41
  else
    bd2 (f_X12_ridden p1 v8_41 m_riddenMany_41 m_riddenFaults_41 m_now) <| fun m_riddenManyn5 m_riddenFaultsn6 =>
    bd2 (f_X12_ridden p2 v8_41 m_riddenManyn5 m_riddenFaultsn6 m_now) <| fun m_riddenManyn7 m_riddenFaultsn8 =>
    if m_riddenManyn5 = 0 then
      lt1 ((v8_41 + (1 : Int32))) <| fun v8n9 =>
      rc41 v3_41 v4_41 v6_41 v8n9 m_riddenManyn7 m_riddenFaultsn8
    else
      if m_riddenManyn7 = 0 then
        lt1 ((v8_41 + (1 : Int32))) <| fun v8n18 =>
        rc41 v3_41 v4_41 v6_41 v8n18 m_riddenManyn7 m_riddenFaultsn8
      else
        lt1 ((m_riddenManyn5.toInt64 * m_riddenManyn7.toInt64)) <| fun v11n10 =>
        lt1 (((v4_41 * v11n10) + (v6_41 * ((m_riddenFaultsn6.toInt64 * m_riddenManyn7.toInt64) - (m_riddenFaultsn8.toInt64 * m_riddenManyn5.toInt64))))) <| fun v4n11 =>
        lt1 ((v6_41 * v11n10)) <| fun v6n12 =>
        bd1 (f_X12_common 200 ((if 0 < v4n11 then v4n11 else -v4n11)) v6n12) <| fun rn13 =>
        gd (nzl rn13) <|
        lt1 ((v4n11 / rn13)) <| fun v4n14 =>
        gd (nzl rn13) <|
        lt1 ((v6n12 / rn13)) <| fun v6n15 =>
        lt1 ((v3_41 + (1 : Int32))) <| fun v3n16 =>
        lt1 ((v8_41 + (1 : Int32))) <| fun v8n17 =>
        rc41 v3n16 v4n14 v6n15 v8n17 m_riddenManyn7 m_riddenFaultsn8
def f_X12_riders (p1 : Int32) (p2 : Int32) (m_horses : Int32) (m_rowMany : Int32) (m_thrown : Int32) (m_riddenMany : Int32) (m_riddenFaults : Int32) (m_now : (Nat → Int32)) (m_row : (Nat → Int64)) : Option (Int32 × Int32 × Int32 × Int32 × Int32 × (Nat → Int64)) :=
  bd1 (f_X12_in p1 (0 : Int32) (5 : Int32)) <| fun rn1 =>
  if rn1 = 0 then
    some ((-1 : Int32), m_rowMany, (0 : Int32), m_riddenMany, m_riddenFaults, m_row)
  else
    bd1 (f_X12_in p2 (0 : Int32) (5 : Int32)) <| fun rn2 =>
    if rn2 = 0 then
      some ((-1 : Int32), m_rowMany, (0 : Int32), m_riddenMany, m_riddenFaults, m_row)
    else
      if p1 = p2 then
        some ((-1 : Int32), m_rowMany, (0 : Int32), m_riddenMany, m_riddenFaults, m_row)
      else
        ml6 (s_X12_riders_41 p1 p2 m_horses m_now (k_X12_riders_41 m_rowMany m_row)) zN (0 : Int32) (0 : Int64) (1 : Int64) (0 : Int32) m_riddenMany m_riddenFaults
def k_X12_ring_193 (m_now : (Nat → Int32)) (m_lengthn1 : Int32) (m_topn2 : Int32) (v1_28x : Int32) (m_at_28x : Int32) (m_newFences_28x : (Nat → Int32)) (m_wrong_95j : Int32) (m_kind_111x : (Nat → Int32)) (m_height_111x : (Nat → Int32)) (m_feet_111x : (Nat → Int32)) (m_isKept_193x : (Nat → Int32)) : Option (Int32 × Int32 × Int32 × Int32 × Int32 × Int32 × Int32 × Int32 × Int32 × Int32 × (Nat → Int32) × (Nat → Int32) × (Nat → Int32) × (Nat → Int32) × (Nat → Int32) × (Nat → Int32)) :=
  some (v1_28x, v1_28x, (0 : Int32), (0 : Int32), (0 : Int32), m_lengthn1, m_topn2, m_at_28x, m_wrong_95j, (0 : Int32), (upd m_now (48 : Int32).toNatClampNeg (0 : Int32)), m_kind_111x, m_height_111x, m_feet_111x, m_newFences_28x, m_isKept_193x)
def s_X12_ring_193  (kk193 : (Nat → Int32) → Option (Int32 × Int32 × Int32 × Int32 × Int32 × Int32 × Int32 × Int32 × Int32 × Int32 × (Nat → Int32) × (Nat → Int32) × (Nat → Int32) × (Nat → Int32) × (Nat → Int32) × (Nat → Int32))) (rc193 : Int32 → (Nat → Int32) → Option (Int32 × Int32 × Int32 × Int32 × Int32 × Int32 × Int32 × Int32 × Int32 × Int32 × (Nat → Int32) × (Nat → Int32) × (Nat → Int32) × (Nat → Int32) × (Nat → Int32) × (Nat → Int32))) (v3_193 : Int32) (m_isKept_193 : (Nat → Int32)) : Option (Int32 × Int32 × Int32 × Int32 × Int32 × Int32 × Int32 × Int32 × Int32 × Int32 × (Nat → Int32) × (Nat → Int32) × (Nat → Int32) × (Nat → Int32) × (Nat → Int32) × (Nat → Int32)) :=
  if (2 : Int32) ≤ v3_193 then
    kk193 m_isKept_193
  else
    gd (ix v3_193 2) <|
    lt1 ((v3_193 + (1 : Int32))) <| fun v3n6 =>
    rc193 v3n6 ((upd m_isKept_193 v3_193.toNatClampNeg (vp_nar .boolean (0 : Int32))))
def k_X12_ring_111 (m_now : (Nat → Int32)) (m_isKept : (Nat → Int32)) (m_lengthn1 : Int32) (m_topn2 : Int32) (v1_28x : Int32) (m_at_28x : Int32) (m_newFences_28x : (Nat → Int32)) (m_wrong_95j : Int32) (m_kind_111x : (Nat → Int32)) (m_height_111x : (Nat → Int32)) (m_feet_111x : (Nat → Int32)) : Option (Int32 × Int32 × Int32 × Int32 × Int32 × Int32 × Int32 × Int32 × Int32 × Int32 × (Nat → Int32) × (Nat → Int32) × (Nat → Int32) × (Nat → Int32) × (Nat → Int32) × (Nat → Int32)) :=
  gd (ix (48 : Int32) 49) <|
  ml2 (s_X12_ring_193 (k_X12_ring_193 m_now m_lengthn1 m_topn2 v1_28x m_at_28x m_newFences_28x m_wrong_95j m_kind_111x m_height_111x m_feet_111x)) zN (0 : Int32) m_isKept
def s_X12_ring_111 (v1_28x : Int32) (m_newFences_28x : (Nat → Int32)) (kk111 : (Nat → Int32) → (Nat → Int32) → (Nat → Int32) → Option (Int32 × Int32 × Int32 × Int32 × Int32 × Int32 × Int32 × Int32 × Int32 × Int32 × (Nat → Int32) × (Nat → Int32) × (Nat → Int32) × (Nat → Int32) × (Nat → Int32) × (Nat → Int32))) (rc111 : Int32 → (Nat → Int32) → (Nat → Int32) → (Nat → Int32) → Option (Int32 × Int32 × Int32 × Int32 × Int32 × Int32 × Int32 × Int32 × Int32 × Int32 × (Nat → Int32) × (Nat → Int32) × (Nat → Int32) × (Nat → Int32) × (Nat → Int32) × (Nat → Int32))) (v3_111 : Int32) (m_kind_111 : (Nat → Int32)) (m_height_111 : (Nat → Int32)) (m_feet_111 : (Nat → Int32)) : Option (Int32 × Int32 × Int32 × Int32 × Int32 × Int32 × Int32 × Int32 × Int32 × Int32 × (Nat → Int32) × (Nat → Int32) × (Nat → Int32) × (Nat → Int32) × (Nat → Int32) × (Nat → Int32)) :=
  if v1_28x ≤ v3_111 then
    kk111 m_kind_111 m_height_111 m_feet_111
  else
    gd (ix ((3 : Int32) * v3_111) 24) <|
    gd (ix v3_111 8) <|
    gd (ix (((3 : Int32) * v3_111) + (1 : Int32)) 24) <|
    gd (ix v3_111 8) <|
    gd (ix (((3 : Int32) * v3_111) + (2 : Int32)) 24) <|
    gd (ix v3_111 8) <|
    lt1 ((v3_111 + (1 : Int32))) <| fun v3n7 =>
    rc111 v3n7 ((upd m_kind_111 v3_111.toNatClampNeg (m_newFences_28x ((3 : Int32) * v3_111).toNatClampNeg))) ((upd m_height_111 v3_111.toNatClampNeg (m_newFences_28x (((3 : Int32) * v3_111) + (1 : Int32)).toNatClampNeg))) ((upd m_feet_111 v3_111.toNatClampNeg (m_newFences_28x (((3 : Int32) * v3_111) + (2 : Int32)).toNatClampNeg)))
def j_X12_ring_95 (m_fences : Int32) (m_plans : Int32) (m_undoMany : Int32) (m_now : (Nat → Int32)) (m_kind : (Nat → Int32)) (m_height : (Nat → Int32)) (m_feet : (Nat → Int32)) (m_isKept : (Nat → Int32)) (m_lengthn1 : Int32) (m_topn2 : Int32) (v1_28x : Int32) (m_at_28x : Int32) (m_newFences_28x : (Nat → Int32)) (m_wrong_95j : Int32) : Option (Int32 × Int32 × Int32 × Int32 × Int32 × Int32 × Int32 × Int32 × Int32 × Int32 × (Nat → Int32) × (Nat → Int32) × (Nat → Int32) × (Nat → Int32) × (Nat → Int32) × (Nat → Int32)) :=
  bd1 (f_X12_fine m_wrong_95j) <| fun rn5 =>
  if rn5 = 0 then
    some (((-1 : Int32) - m_wrong_95j), m_fences, m_plans, (0 : Int32), (0 : Int32), m_lengthn1, m_topn2, m_at_28x, m_wrong_95j, m_undoMany, m_now, m_kind, m_height, m_feet, m_newFences_28x, m_isKept)
  else
    ml4 (s_X12_ring_111 v1_28x m_newFences_28x (k_X12_ring_111 m_now m_isKept m_lengthn1 m_topn2 v1_28x m_at_28x m_newFences_28x m_wrong_95j)) zN (0 : Int32) m_kind m_height m_feet
def k_X12_ring_28 (m_fences : Int32) (m_plans : Int32) (m_undoMany : Int32) (m_now : (Nat → Int32)) (m_kind : (Nat → Int32)) (m_height : (Nat → Int32)) (m_feet : (Nat → Int32)) (m_isKept : (Nat → Int32)) (m_lengthn1 : Int32) (m_topn2 : Int32) (v1_28x : Int32) (m_at_28x : Int32) (m_wrong_28x : Int32) (m_newFences_28x : (Nat → Int32)) : Option (Int32 × Int32 × Int32 × Int32 × Int32 × Int32 × Int32 × Int32 × Int32 × Int32 × (Nat → Int32) × (Nat → Int32) × (Nat → Int32) × (Nat → Int32) × (Nat → Int32) × (Nat → Int32)) :=
  if m_lengthn1 ≤ m_at_28x then
    j_X12_ring_95 m_fences m_plans m_undoMany m_now m_kind m_height m_feet m_isKept m_lengthn1 m_topn2 v1_28x m_at_28x m_newFences_28x m_wrong_28x
  else
    bd1 (f_X12_fault m_at_28x m_wrong_28x) <| fun m_wrongn8 =>
    j_X12_ring_95 m_fences m_plans m_undoMany m_now m_kind m_height m_feet m_isKept m_lengthn1 m_topn2 v1_28x m_at_28x m_newFences_28x m_wrongn8
def s_X12_ring_28 (m_text : (Nat → Int32)) (m_lengthn1 : Int32) (m_topn2 : Int32) (kk28 : Int32 → Int32 → Int32 → (Nat → Int32) → Option (Int32 × Int32 × Int32 × Int32 × Int32 × Int32 × Int32 × Int32 × Int32 × Int32 × (Nat → Int32) × (Nat → Int32) × (Nat → Int32) × (Nat → Int32) × (Nat → Int32) × (Nat → Int32))) (rc28 : Int32 → Int32 → Int32 → Int32 → (Nat → Int32) → Option (Int32 × Int32 × Int32 × Int32 × Int32 × Int32 × Int32 × Int32 × Int32 × Int32 × (Nat → Int32) × (Nat → Int32) × (Nat → Int32) × (Nat → Int32) × (Nat → Int32) × (Nat → Int32))) (v1_28 : Int32) (v2_28 : Int32) (m_at_28 : Int32) (m_wrong_28 : Int32) (m_newFences_28 : (Nat → Int32)) : Option (Int32 × Int32 × Int32 × Int32 × Int32 × Int32 × Int32 × Int32 × Int32 × Int32 × (Nat → Int32) × (Nat → Int32) × (Nat → Int32) × (Nat → Int32) × (Nat → Int32) × (Nat → Int32)) :=
  if v2_28 = 0 then
    kk28 v1_28 m_at_28 m_wrong_28 m_newFences_28
  else
    bd1 (f_X12_fine m_wrong_28) <| fun rn9 =>
    if rn9 = 0 then
      kk28 v1_28 m_at_28 m_wrong_28 m_newFences_28
    else
      if v1_28 = (8 : Int32) then
        bd1 (f_X12_fault m_at_28 m_wrong_28) <| fun m_wrongn16 =>
        lt1 ((v1_28 + (1 : Int32))) <| fun v1n17 =>
        bd2 (f_X12_passes_t (59 : Int32) m_lengthn1 m_topn2 m_at_28 m_wrongn16 m_text) <| fun rn18 m_atn19 =>
        rc28 v1n17 rn18 m_atn19 m_wrongn16 m_newFences_28
      else
        bd3 (f_X12_readFence_t (((3 : Int32) * v1_28)) m_lengthn1 m_topn2 m_at_28 m_wrong_28 m_text m_newFences_28) <| fun m_atn10 m_wrongn11 m_newFencesn12 =>
        lt1 ((v1_28 + (1 : Int32))) <| fun v1n13 =>
        bd2 (f_X12_passes_t (59 : Int32) m_lengthn1 m_topn2 m_atn10 m_wrongn11 m_text) <| fun rn14 m_atn15 =>
        rc28 v1n13 rn14 m_atn15 m_wrongn11 m_newFencesn12
def f_X12_ring (m_fences : Int32) (m_plans : Int32) (m_typed : Int32) (m_thrown : Int32) (m_read : Int32) (m_length : Int32) (m_top : Int32) (m_at : Int32) (m_wrong : Int32) (m_undoMany : Int32) (m_now : (Nat → Int32)) (m_kind : (Nat → Int32)) (m_height : (Nat → Int32)) (m_feet : (Nat → Int32)) (m_text : (Nat → Int32)) (m_newFences : (Nat → Int32)) (m_isKept : (Nat → Int32)) : Option (Int32 × Int32 × Int32 × Int32 × Int32 × Int32 × Int32 × Int32 × Int32 × Int32 × (Nat → Int32) × (Nat → Int32) × (Nat → Int32) × (Nat → Int32) × (Nat → Int32) × (Nat → Int32)) :=
  bd4 (f_X12_begin_m_text m_typed (76 : Int32) m_read m_length m_top m_at m_wrong) <| fun m_lengthn1 m_topn2 m_atn3 m_wrongn4 =>
  ml5 (s_X12_ring_28 m_text m_lengthn1 m_topn2 (k_X12_ring_28 m_fences m_plans m_undoMany m_now m_kind m_height m_feet m_isKept m_lengthn1 m_topn2)) zN (0 : Int32) (1 : Int32) m_atn3 m_wrongn4 m_newFences
def f_X12_round (p1 : Int32) (p2 : Int32) (m_thrown : Int32) (m_now : (Nat → Int32)) (m_money : (Nat → Int32)) : Option (Int32 × Int32) :=
  gd (ix (48 : Int32) 49) <|
  bd1 (f_X12_in p1 (0 : Int32) (((m_now (48 : Int32).toNatClampNeg) - (1 : Int32)))) <| fun rn1 =>
  if rn1 = 0 then
    bd2 (f_X12_lost (0 : Int32)) <| fun rn2 m_thrownn3 =>
    some (rn2, m_thrownn3)
  else
    bd1 (f_X12_in p2 (0 : Int32) (5 : Int32)) <| fun rn4 =>
    if rn4 = 0 then
      bd2 (f_X12_lost (0 : Int32)) <| fun rn8 m_thrownn9 =>
      some (rn8, m_thrownn9)
    else
      if (4 : Int32) ≤ p2 then
        if p2 = (4 : Int32) then
          bd1 (f_X12_placeOf_m_now p1 m_now) <| fun rn7 =>
          some (rn7, (0 : Int32))
        else
          bd1 (f_X12_placeOf_m_now p1 m_now) <| fun rn5 =>
          bd1 (f_X12_moneyOf rn5 m_money) <| fun rn6 =>
          some (rn6, (0 : Int32))
      else
        gd (ix (((4 : Int32) * p1) + p2) 49) <|
        some ((m_now (((4 : Int32) * p1) + p2).toNatClampNeg), (0 : Int32))
def f_X12_row (p1 : Int32) (m_rowMany : Int32) (m_thrown : Int32) (m_row : (Nat → Int64)) : Option (Int64 × Int32) :=
  bd1 (f_X12_in p1 (0 : Int32) ((m_rowMany - (1 : Int32)))) <| fun rn1 =>
  if rn1 = 0 then
    bd2 (f_X12_lost (0 : Int32)) <| fun rn2 m_thrownn3 =>
    some (rn2.toInt64, m_thrownn3)
  else
    gd (ix p1 16) <|
    some ((m_row p1.toNatClampNeg), (0 : Int32))
def k_X12_rule_73 (m_typed : Int32) (m_lengthn1 : Int32) (m_topn2 : Int32) (m_at_71j : Int32) (m_wrong_71j : Int32) (m_rule_73x : (Nat → Int32)) : Option (Int32 × Int32 × Int32 × Int32 × Int32 × Int32 × Int32 × Int32 × Int32 × (Nat → Int32)) :=
  some ((0 : Int32), (0 : Int32), (0 : Int32), m_lengthn1, m_topn2, m_at_71j, m_wrong_71j, m_typed, (0 : Int32), m_rule_73x)
def s_X12_rule_73 (m_typed : Int32) (m_text : (Nat → Int32)) (kk73 : (Nat → Int32) → Option (Int32 × Int32 × Int32 × Int32 × Int32 × Int32 × Int32 × Int32 × Int32 × (Nat → Int32))) (rc73 : Int32 → (Nat → Int32) → Option (Int32 × Int32 × Int32 × Int32 × Int32 × Int32 × Int32 × Int32 × Int32 × (Nat → Int32))) (v2_73 : Int32) (m_rule_73 : (Nat → Int32)) : Option (Int32 × Int32 × Int32 × Int32 × Int32 × Int32 × Int32 × Int32 × Int32 × (Nat → Int32)) :=
  if m_typed ≤ v2_73 then
    kk73 m_rule_73
  else
    gd (ix v2_73 80) <|
    gd (ix v2_73 40) <|
    lt1 ((v2_73 + (1 : Int32))) <| fun v2n5 =>
    rc73 v2n5 ((upd m_rule_73 v2_73.toNatClampNeg (vp_nar .byte (m_text v2_73.toNatClampNeg))))
def j_X12_rule_71 (m_typed : Int32) (m_text : (Nat → Int32)) (m_rule : (Nat → Int32)) (m_lengthn1 : Int32) (m_topn2 : Int32) (m_at_71j : Int32) (m_wrong_71j : Int32) : Option (Int32 × Int32 × Int32 × Int32 × Int32 × Int32 × Int32 × Int32 × Int32 × (Nat → Int32)) :=
  ml2 (s_X12_rule_73 m_typed m_text (k_X12_rule_73 m_typed m_lengthn1 m_topn2 m_at_71j m_wrong_71j)) zN (0 : Int32) m_rule
def f_X12_rule (m_typed : Int32) (m_thrown : Int32) (m_read : Int32) (m_length : Int32) (m_top : Int32) (m_at : Int32) (m_wrong : Int32) (m_ruleSize : Int32) (m_isAsked : Int32) (m_askedHorse : Int32) (m_askedFence : Int32) (m_askedLetter : Int32) (m_askedHeight : Int32) (m_kind : (Nat → Int32)) (m_feet : (Nat → Int32)) (m_stride : (Nat → Int32)) (m_scope : (Nat → Int32)) (m_care : (Nat → Int32)) (m_text : (Nat → Int32)) (m_rule : (Nat → Int32)) : Option (Int32 × Int32 × Int32 × Int32 × Int32 × Int32 × Int32 × Int32 × Int32 × (Nat → Int32)) :=
  bd4 (f_X12_begin_m_text m_typed (40 : Int32) m_read m_length m_top m_at m_wrong) <| fun m_lengthn1 m_topn2 m_atn3 m_wrongn4 =>
  if m_typed ≤ 0 then
    j_X12_rule_71 m_typed m_text m_rule m_lengthn1 m_topn2 m_atn3 m_wrongn4
  else
    bd3 (f_X12_held_t 200 (0 : Int32) m_lengthn1 m_topn2 m_atn3 m_wrongn4 (0 : Int32) m_askedHorse m_askedFence m_askedLetter m_askedHeight m_kind m_feet m_stride m_scope m_care m_text) <| fun rn6 m_atn7 m_wrongn8 =>
    if m_typed ≤ m_atn7 then
      bd1 (f_X12_fine m_wrongn8) <| fun rn9 =>
      if rn9 = 0 then
        some (((-1 : Int32) - m_wrongn8), (0 : Int32), (0 : Int32), m_lengthn1, m_topn2, m_atn7, m_wrongn8, m_ruleSize, (0 : Int32), m_rule)
      else
        j_X12_rule_71 m_typed m_text m_rule m_lengthn1 m_topn2 m_atn7 m_wrongn8
    else
      bd1 (f_X12_fault m_atn7 m_wrongn8) <| fun m_wrongn10 =>
      bd1 (f_X12_fine m_wrongn10) <| fun rn11 =>
      if rn11 = 0 then
        some (((-1 : Int32) - m_wrongn10), (0 : Int32), (0 : Int32), m_lengthn1, m_topn2, m_atn7, m_wrongn10, m_ruleSize, (0 : Int32), m_rule)
      else
        j_X12_rule_71 m_typed m_text m_rule m_lengthn1 m_topn2 m_atn7 m_wrongn10
def j_X12_share_109 (m_row : (Nat → Int64)) (m_typedn2 : Int32) (m_comingManyn3 : Int32) (m_comingn4 : (Nat → Int32)) (m_readn5 : Int32) (m_lengthn6 : Int32) (m_topn7 : Int32) (m_atn8 : Int32) (m_wrongn9 : Int32) (m_isAskedn10 : Int32) (m_askedHorsen11 : Int32) (m_askedFencen12 : Int32) (m_askedLettern13 : Int32) (m_askedHeightn14 : Int32) (m_planOfn15 : (Nat → Int32)) (m_extran16 : (Nat → Int32)) (m_winsn17 : (Nat → Int64)) (v5n20 : Int64) (t0_109j : Int32) : Option (Int32 × Int32 × Int32 × Int32 × Int32 × Int32 × Int32 × Int32 × Int32 × Int32 × Int32 × Int32 × Int32 × Int32 × Int32 × (Nat → Int32) × (Nat → Int32) × (Nat → Int32) × (Nat → Int64) × (Nat → Int64)) :=
  bd2 (f_X12_tell v5n20 (0 : Int32) m_row) <| fun m_rowManyn21 m_rown22 =>
  gd (ix (0 : Int32) 12) <|
  bd2 (f_X12_tellPart ((m_winsn17 (0 : Int32).toNatClampNeg)) (100000000 : Int64) m_rowManyn21 m_rown22) <| fun m_rowManyn23 m_rown24 =>
  gd (ix (1 : Int32) 12) <|
  bd2 (f_X12_tellPart ((m_winsn17 (1 : Int32).toNatClampNeg)) (100000000 : Int64) m_rowManyn23 m_rown24) <| fun m_rowManyn25 m_rown26 =>
  if t0_109j = 0 then
    some ((0 : Int32), m_typedn2, m_rowManyn25, (0 : Int32), m_readn5, m_lengthn6, m_topn7, m_atn8, m_wrongn9, m_isAskedn10, m_askedHorsen11, m_askedFencen12, m_askedLettern13, m_askedHeightn14, m_comingManyn3, m_comingn4, m_planOfn15, m_extran16, m_rown26, m_winsn17)
  else
    some ((1 : Int32), m_typedn2, m_rowManyn25, (0 : Int32), m_readn5, m_lengthn6, m_topn7, m_atn8, m_wrongn9, m_isAskedn10, m_askedHorsen11, m_askedFencen12, m_askedLettern13, m_askedHeightn14, m_comingManyn3, m_comingn4, m_planOfn15, m_extran16, m_rown26, m_winsn17)
def j_X12_share_30 (p1 : Int32) (m_fences : Int32) (m_allowed : Int32) (m_horses : Int32) (m_plans : Int32) (m_rowMany : Int32) (m_read : Int32) (m_length : Int32) (m_top : Int32) (m_at : Int32) (m_wrong : Int32) (m_ruleSize : Int32) (m_isAsked : Int32) (m_askedHorse : Int32) (m_askedFence : Int32) (m_askedLetter : Int32) (m_askedHeight : Int32) (m_comingMany : Int32) (m_now : (Nat → Int32)) (m_kind : (Nat → Int32)) (m_height : (Nat → Int32)) (m_feet : (Nat → Int32)) (m_stride : (Nat → Int32)) (m_scope : (Nat → Int32)) (m_care : (Nat → Int32)) (m_plan : (Nat → Int32)) (m_money : (Nat → Int32)) (m_text : (Nat → Int32)) (m_rule : (Nat → Int32)) (m_coming : (Nat → Int32)) (m_planOf : (Nat → Int32)) (m_extra : (Nat → Int32)) (m_row : (Nat → Int64)) (m_wins : (Nat → Int64)) (m_typed_30j : Int32) : Option (Int32 × Int32 × Int32 × Int32 × Int32 × Int32 × Int32 × Int32 × Int32 × Int32 × Int32 × Int32 × Int32 × Int32 × Int32 × (Nat → Int32) × (Nat → Int32) × (Nat → Int32) × (Nat → Int64) × (Nat → Int64)) :=
  bd4 (f_X12_readComing (2 : Int32) (2 : Int32) m_horses m_plans m_typed_30j m_comingMany m_text m_coming) <| fun rn1 m_typedn2 m_comingManyn3 m_comingn4 =>
  if 0 ≤ rn1 then
    bd13 (f_X12_goGame 200 (0 : Int32) m_fences m_allowed m_plans m_read m_length m_top m_at m_wrong m_ruleSize m_isAsked m_askedHorse m_askedFence m_askedLetter m_askedHeight m_comingManyn3 m_now m_kind m_height m_feet m_stride m_scope m_care m_plan m_money m_rule m_comingn4 m_planOf m_extra m_wins) <| fun m_readn5 m_lengthn6 m_topn7 m_atn8 m_wrongn9 m_isAskedn10 m_askedHorsen11 m_askedFencen12 m_askedLettern13 m_askedHeightn14 m_planOfn15 m_extran16 m_winsn17 =>
    bd1 (f_X12_moneyOf p1 m_money) <| fun rn18 =>
    bd1 (f_X12_moneyOf ((p1 + (1 : Int32))) m_money) <| fun rn19 =>
    lt1 (((rn18 + rn19)).toInt64) <| fun v5n20 =>
    gd (ix (0 : Int32) 12) <|
    if (lg_cmp (v5n20 * (100000000 : Int64)) ((2 : Int64) * (m_winsn17 (0 : Int32).toNatClampNeg))) < 0 then
      j_X12_share_109 m_row m_typedn2 m_comingManyn3 m_comingn4 m_readn5 m_lengthn6 m_topn7 m_atn8 m_wrongn9 m_isAskedn10 m_askedHorsen11 m_askedFencen12 m_askedLettern13 m_askedHeightn14 m_planOfn15 m_extran16 m_winsn17 v5n20 (0 : Int32)
    else
      gd (ix (1 : Int32) 12) <|
      if (lg_cmp (v5n20 * (100000000 : Int64)) ((2 : Int64) * (m_winsn17 (1 : Int32).toNatClampNeg))) < 0 then
        j_X12_share_109 m_row m_typedn2 m_comingManyn3 m_comingn4 m_readn5 m_lengthn6 m_topn7 m_atn8 m_wrongn9 m_isAskedn10 m_askedHorsen11 m_askedFencen12 m_askedLettern13 m_askedHeightn14 m_planOfn15 m_extran16 m_winsn17 v5n20 (0 : Int32)
      else
        j_X12_share_109 m_row m_typedn2 m_comingManyn3 m_comingn4 m_readn5 m_lengthn6 m_topn7 m_atn8 m_wrongn9 m_isAskedn10 m_askedHorsen11 m_askedFencen12 m_askedLettern13 m_askedHeightn14 m_planOfn15 m_extran16 m_winsn17 v5n20 (1 : Int32)
  else
    some (rn1, m_typedn2, m_rowMany, (0 : Int32), m_read, m_length, m_top, m_at, m_wrong, m_isAsked, m_askedHorse, m_askedFence, m_askedLetter, m_askedHeight, m_comingManyn3, m_comingn4, m_planOf, m_extra, m_row, m_wins)
def f_X12_share (p1 : Int32) (m_fences : Int32) (m_allowed : Int32) (m_horses : Int32) (m_plans : Int32) (m_typed : Int32) (m_rowMany : Int32) (m_thrown : Int32) (m_read : Int32) (m_length : Int32) (m_top : Int32) (m_at : Int32) (m_wrong : Int32) (m_ruleSize : Int32) (m_isAsked : Int32) (m_askedHorse : Int32) (m_askedFence : Int32) (m_askedLetter : Int32) (m_askedHeight : Int32) (m_comingMany : Int32) (m_now : (Nat → Int32)) (m_kind : (Nat → Int32)) (m_height : (Nat → Int32)) (m_feet : (Nat → Int32)) (m_stride : (Nat → Int32)) (m_scope : (Nat → Int32)) (m_care : (Nat → Int32)) (m_plan : (Nat → Int32)) (m_money : (Nat → Int32)) (m_text : (Nat → Int32)) (m_rule : (Nat → Int32)) (m_coming : (Nat → Int32)) (m_planOf : (Nat → Int32)) (m_extra : (Nat → Int32)) (m_row : (Nat → Int64)) (m_wins : (Nat → Int64)) : Option (Int32 × Int32 × Int32 × Int32 × Int32 × Int32 × Int32 × Int32 × Int32 × Int32 × Int32 × Int32 × Int32 × Int32 × Int32 × (Nat → Int32) × (Nat → Int32) × (Nat → Int32) × (Nat → Int64) × (Nat → Int64)) :=
  if m_plans ≤ 0 then
    j_X12_share_30 p1 m_fences m_allowed m_horses m_plans m_rowMany m_read m_length m_top m_at m_wrong m_ruleSize m_isAsked m_askedHorse m_askedFence m_askedLetter m_askedHeight m_comingMany m_now m_kind m_height m_feet m_stride m_scope m_care m_plan m_money m_text m_rule m_coming m_planOf m_extra m_row m_wins m_typed
  else
    bd1 (f_X12_in p1 (1 : Int32) (5 : Int32)) <| fun rn27 =>
    if rn27 = 0 then
      some ((-200 : Int32), (0 : Int32), m_rowMany, (0 : Int32), m_read, m_length, m_top, m_at, m_wrong, m_isAsked, m_askedHorse, m_askedFence, m_askedLetter, m_askedHeight, m_comingMany, m_coming, m_planOf, m_extra, m_row, m_wins)
    else
      j_X12_share_30 p1 m_fences m_allowed m_horses m_plans m_rowMany m_read m_length m_top m_at m_wrong m_ruleSize m_isAsked m_askedHorse m_askedFence m_askedLetter m_askedHeight m_comingMany m_now m_kind m_height m_feet m_stride m_scope m_care m_plan m_money m_text m_rule m_coming m_planOf m_extra m_row m_wins m_typed
def k_X12_sheet_43 (p1 : Int32) (v5_43x : Int32) (m_height_43x : (Nat → Int32)) : Option (Int32 × Int32 × (Nat → Int32)) :=
  if p1 = (3 : Int32) then
    some ((-3 : Int32), (0 : Int32), m_height_43x)
  else
    some (v5_43x, (0 : Int32), m_height_43x)
def j_X12_sheet_94 (p4 : Int32) (rc43 : Int32 → Int32 → Int32 → (Nat → Int32) → Option (Int32 × Int32 × (Nat → Int32))) (v7_43 : Int32) (v5_94j : Int32) (v6_94j : Int32) (v7_94j : Int32) (m_height_94j : (Nat → Int32)) : Option (Int32 × Int32 × (Nat → Int32)) :=
  gd (ix v7_43 8) <|
  gd (ix v7_94j 8) <|
  lt1 ((v5_94j + (((upd m_height_94j v7_43.toNatClampNeg (0 : Int32))) v7_94j.toNatClampNeg))) <| fun v5n2 =>
  lt1 ((v6_94j + p4)) <| fun v6n3 =>
  lt1 ((v7_94j + (1 : Int32))) <| fun v7n4 =>
  rc43 v5n2 v6n3 v7n4 ((upd m_height_94j v7_43.toNatClampNeg (0 : Int32)))
def j_X12_sheet_75 (p1 : Int32) (p2 : Int32) (p4 : Int32) (rc43 : Int32 → Int32 → Int32 → (Nat → Int32) → Option (Int32 × Int32 × (Nat → Int32))) (v5_43 : Int32) (v6_43 : Int32) (v7_43 : Int32) (m_height_43 : (Nat → Int32)) (t0_75j : Int32) : Option (Int32 × Int32 × (Nat → Int32)) :=
  if p1 = (3 : Int32) then
    j_X12_sheet_94 p4 rc43 v7_43 v5_43 v6_43 v7_43 m_height_43
  else
    if v7_43 < p2 then
      gd (ix v7_43 8) <|
      gd (ix v7_43 8) <|
      lt1 ((v5_43 + (((upd m_height_43 v7_43.toNatClampNeg (if (0 : Int32) < (if t0_75j < (9 : Int32) then t0_75j else (9 : Int32)) then (if t0_75j < (9 : Int32) then t0_75j else (9 : Int32)) else (0 : Int32)))) v7_43.toNatClampNeg))) <| fun v5n5 =>
      lt1 ((v6_43 + p4)) <| fun v6n6 =>
      lt1 ((v7_43 + (1 : Int32))) <| fun v7n7 =>
      rc43 v5n5 v6n6 v7n7 ((upd m_height_43 v7_43.toNatClampNeg (if (0 : Int32) < (if t0_75j < (9 : Int32) then t0_75j else (9 : Int32)) then (if t0_75j < (9 : Int32) then t0_75j else (9 : Int32)) else (0 : Int32))))
    else
      j_X12_sheet_94 p4 rc43 v7_43 v5_43 v6_43 v7_43 m_height_43
def s_X12_sheet_43 (p1 : Int32) (p2 : Int32) (p4 : Int32) (m_fences : Int32) (kk43 : Int32 → (Nat → Int32) → Option (Int32 × Int32 × (Nat → Int32))) (rc43 : Int32 → Int32 → Int32 → (Nat → Int32) → Option (Int32 × Int32 × (Nat → Int32))) (v5_43 : Int32) (v6_43 : Int32) (v7_43 : Int32) (m_height_43 : (Nat → Int32)) : Option (Int32 × Int32 × (Nat → Int32)) :=
  if m_fences ≤ v7_43 then
    kk43 v5_43 m_height_43
  else
    if p1 = 0 then
      j_X12_sheet_75 p1 p2 p4 rc43 v5_43 v6_43 v7_43 m_height_43 ((v6_43).toInt8.toInt32)
    else
      if p1 = (1 : Int32) then
        j_X12_sheet_75 p1 p2 p4 rc43 v5_43 v6_43 v7_43 m_height_43 ((v6_43).toInt16.toInt32)
      else
        j_X12_sheet_75 p1 p2 p4 rc43 v5_43 v6_43 v7_43 m_height_43 v6_43
def j_X12_sheet_34 (p1 : Int32) (p2 : Int32) (p3 : Int32) (p4 : Int32) (m_fences : Int32) (m_height : (Nat → Int32)) (_u : Unit) : Option (Int32 × Int32 × (Nat → Int32)) :=
  ml4 (s_X12_sheet_43 p1 p2 p4 m_fences (k_X12_sheet_43 p1)) zN (0 : Int32) p3 (0 : Int32) m_height
def f_X12_sheet (p1 : Int32) (p2 : Int32) (p3 : Int32) (p4 : Int32) (m_fences : Int32) (m_thrown : Int32) (m_height : (Nat → Int32)) : Option (Int32 × Int32 × (Nat → Int32)) :=
  bd1 (f_X12_in p1 (0 : Int32) (3 : Int32)) <| fun rn1 =>
  if rn1 = 0 then
    some ((-1 : Int32), (0 : Int32), m_height)
  else
    if p2 ≤ (8 : Int32) then
      if (3 : Int32) ≤ p1 then
        j_X12_sheet_34 p1 p2 p3 p4 m_fences m_height ()
      else
        if 0 ≤ p2 then
          j_X12_sheet_34 p1 p2 p3 p4 m_fences m_height ()
        else
          some ((-2 : Int32), (0 : Int32), m_height)
    else
      some ((-1 : Int32), (0 : Int32), m_height)
def j_X12_show_150 (m_row : (Nat → Int64)) (v1_39x : Int32) (m_acts_39x : (Nat → Int32)) (m_asiden6 : (Nat → Int32)) (v3_117x : Int32) (m_read_117x : Int32) (m_length_117x : Int32) (m_top_117x : Int32) (m_at_117x : Int32) (m_wrong_117x : Int32) (m_isAsked_117x : Int32) (m_askedHorse_117x : Int32) (m_askedFence_117x : Int32) (m_askedLetter_117x : Int32) (m_askedHeight_117x : Int32) (m_rodeTenths_117x : Int32) (m_refused_117x : Int32) (m_down_117x : Int32) (m_drawn_117x : Int32) (m_now_117x : (Nat → Int32)) (m_undoMany_150j : Int32) (m_undos_150j : (Nat → Int32)) : Option (Int32 × Int32 × Int32 × Int32 × Int32 × Int32 × Int32 × Int32 × Int32 × Int32 × Int32 × Int32 × Int32 × Int32 × Int32 × Int32 × Int32 × Int32 × Int32 × (Nat → Int32) × (Nat → Int32) × (Nat → Int32) × (Nat → Int32) × (Nat → Int64)) :=
  if v1_39x ≤ v3_117x then
    bd2 (f_X12_tell (0 : Int64) (0 : Int32) m_row) <| fun m_rowManyn7 m_rown8 =>
    gd (ix (48 : Int32) 49) <|
    bd2 (f_X12_tell (((m_now_117x (48 : Int32).toNatClampNeg)).toInt64) m_rowManyn7 m_rown8) <| fun m_rowManyn9 m_rown10 =>
    some (v3_117x, (0 : Int32), m_rowManyn9, (0 : Int32), m_read_117x, m_length_117x, m_top_117x, m_at_117x, m_wrong_117x, m_isAsked_117x, m_askedHorse_117x, m_askedFence_117x, m_askedLetter_117x, m_askedHeight_117x, m_undoMany_150j, m_rodeTenths_117x, m_refused_117x, m_down_117x, m_drawn_117x, m_now_117x, m_undos_150j, m_asiden6, m_acts_39x, m_rown10)
  else
    bd2 (f_X12_tell (1 : Int64) (0 : Int32) m_row) <| fun m_rowManyn11 m_rown12 =>
    gd (ix (48 : Int32) 49) <|
    bd2 (f_X12_tell (((m_now_117x (48 : Int32).toNatClampNeg)).toInt64) m_rowManyn11 m_rown12) <| fun m_rowManyn13 m_rown14 =>
    some (v3_117x, (0 : Int32), m_rowManyn13, (0 : Int32), m_read_117x, m_length_117x, m_top_117x, m_at_117x, m_wrong_117x, m_isAsked_117x, m_askedHorse_117x, m_askedFence_117x, m_askedLetter_117x, m_askedHeight_117x, m_undoMany_150j, m_rodeTenths_117x, m_refused_117x, m_down_117x, m_drawn_117x, m_now_117x, m_undos_150j, m_asiden6, m_acts_39x, m_rown14)
def k_X12_show_117 (m_undoMany : Int32) (m_undos : (Nat → Int32)) (m_row : (Nat → Int64)) (v1_39x : Int32) (m_acts_39x : (Nat → Int32)) (m_asiden6 : (Nat → Int32)) (v3_117x : Int32) (m_read_117x : Int32) (m_length_117x : Int32) (m_top_117x : Int32) (m_at_117x : Int32) (m_wrong_117x : Int32) (m_isAsked_117x : Int32) (m_askedHorse_117x : Int32) (m_askedFence_117x : Int32) (m_askedLetter_117x : Int32) (m_askedHeight_117x : Int32) (m_rodeTenths_117x : Int32) (m_refused_117x : Int32) (m_down_117x : Int32) (m_drawn_117x : Int32) (m_now_117x : (Nat → Int32)) : Option (Int32 × Int32 × Int32 × Int32 × Int32 × Int32 × Int32 × Int32 × Int32 × Int32 × Int32 × Int32 × Int32 × Int32 × Int32 × Int32 × Int32 × Int32 × Int32 × (Nat → Int32) × (Nat → Int32) × (Nat → Int32) × (Nat → Int32) × (Nat → Int64)) :=
  if v3_117x ≤ 0 then
    j_X12_show_150 m_row v1_39x m_acts_39x m_asiden6 v3_117x m_read_117x m_length_117x m_top_117x m_at_117x m_wrong_117x m_isAsked_117x m_askedHorse_117x m_askedFence_117x m_askedLetter_117x m_askedHeight_117x m_rodeTenths_117x m_refused_117x m_down_117x m_drawn_117x m_now_117x m_undoMany m_undos
  else
    bd2 (f_X12_remember_m_aside m_undoMany m_undos m_asiden6) <| fun m_undoManyn15 m_undosn16 =>
    j_X12_show_150 m_row v1_39x m_acts_39x m_asiden6 v3_117x m_read_117x m_length_117x m_top_117x m_at_117x m_wrong_117x m_isAsked_117x m_askedHorse_117x m_askedFence_117x m_askedLetter_117x m_askedHeight_117x m_rodeTenths_117x m_refused_117x m_down_117x m_drawn_117x m_now_117x m_undoManyn15 m_undosn16
def s_X12_show_117 (m_fences : Int32) (m_allowed : Int32) (m_horses : Int32) (m_plans : Int32) (m_ruleSize : Int32) (m_kind : (Nat → Int32)) (m_height : (Nat → Int32)) (m_feet : (Nat → Int32)) (m_stride : (Nat → Int32)) (m_scope : (Nat → Int32)) (m_care : (Nat → Int32)) (m_plan : (Nat → Int32)) (m_rule : (Nat → Int32)) (v1_39x : Int32) (m_acts_39x : (Nat → Int32)) (kk117 : Int32 → Int32 → Int32 → Int32 → Int32 → Int32 → Int32 → Int32 → Int32 → Int32 → Int32 → Int32 → Int32 → Int32 → Int32 → (Nat → Int32) → Option (Int32 × Int32 × Int32 × Int32 × Int32 × Int32 × Int32 × Int32 × Int32 × Int32 × Int32 × Int32 × Int32 × Int32 × Int32 × Int32 × Int32 × Int32 × Int32 × (Nat → Int32) × (Nat → Int32) × (Nat → Int32) × (Nat → Int32) × (Nat → Int64))) (rc117 : Int32 → Int32 → Int32 → Int32 → Int32 → Int32 → Int32 → Int32 → Int32 → Int32 → Int32 → Int32 → Int32 → Int32 → Int32 → (Nat → Int32) → Option (Int32 × Int32 × Int32 × Int32 × Int32 × Int32 × Int32 × Int32 × Int32 × Int32 × Int32 × Int32 × Int32 × Int32 × Int32 × Int32 × Int32 × Int32 × Int32 × (Nat → Int32) × (Nat → Int32) × (Nat → Int32) × (Nat → Int32) × (Nat → Int64))) (v3_117 : Int32) (m_read_117 : Int32) (m_length_117 : Int32) (m_top_117 : Int32) (m_at_117 : Int32) (m_wrong_117 : Int32) (m_isAsked_117 : Int32) (m_askedHorse_117 : Int32) (m_askedFence_117 : Int32) (m_askedLetter_117 : Int32) (m_askedHeight_117 : Int32) (m_rodeTenths_117 : Int32) (m_refused_117 : Int32) (m_down_117 : Int32) (m_drawn_117 : Int32) (m_now_117 : (Nat → Int32)) : Option (Int32 × Int32 × Int32 × Int32 × Int32 × Int32 × Int32 × Int32 × Int32 × Int32 × Int32 × Int32 × Int32 × Int32 × Int32 × Int32 × Int32 × Int32 × Int32 × (Nat → Int32) × (Nat → Int32) × (Nat → Int32) × (Nat → Int32) × (Nat → Int64)) :=
  if v1_39x ≤ v3_117 then
    kk117 v3_117 m_read_117 m_length_117 m_top_117 m_at_117 m_wrong_117 m_isAsked_117 m_askedHorse_117 m_askedFence_117 m_askedLetter_117 m_askedHeight_117 m_rodeTenths_117 m_refused_117 m_down_117 m_drawn_117 m_now_117
  else
    bd16 (f_X12_act (((5 : Int32) * v3_117)) m_fences m_allowed m_horses m_plans m_read_117 m_length_117 m_top_117 m_at_117 m_wrong_117 m_ruleSize m_isAsked_117 m_askedHorse_117 m_askedFence_117 m_askedLetter_117 m_askedHeight_117 m_rodeTenths_117 m_refused_117 m_down_117 m_drawn_117 m_now_117 m_kind m_height m_feet m_stride m_scope m_care m_plan m_rule m_acts_39x) <| fun rn17 m_readn18 m_lengthn19 m_topn20 m_atn21 m_wrongn22 m_isAskedn23 m_askedHorsen24 m_askedFencen25 m_askedLettern26 m_askedHeightn27 m_rodeTenthsn28 m_refusedn29 m_downn30 m_drawnn31 m_nown32 =>
    if rn17 = 0 then
      kk117 v3_117 m_readn18 m_lengthn19 m_topn20 m_atn21 m_wrongn22 m_isAskedn23 m_askedHorsen24 m_askedFencen25 m_askedLettern26 m_askedHeightn27 m_rodeTenthsn28 m_refusedn29 m_downn30 m_drawnn31 m_nown32
    else
      lt1 ((v3_117 + (1 : Int32))) <| fun v3n33 =>
      rc117 v3n33 m_readn18 m_lengthn19 m_topn20 m_atn21 m_wrongn22 m_isAskedn23 m_askedHorsen24 m_askedFencen25 m_askedLettern26 m_askedHeightn27 m_rodeTenthsn28 m_refusedn29 m_downn30 m_drawnn31 m_nown32
def j_X12_show_89 (m_fences : Int32) (m_allowed : Int32) (m_horses : Int32) (m_plans : Int32) (m_rowMany : Int32) (m_ruleSize : Int32) (m_isAsked : Int32) (m_askedHorse : Int32) (m_askedFence : Int32) (m_askedLetter : Int32) (m_askedHeight : Int32) (m_undoMany : Int32) (m_rodeTenths : Int32) (m_refused : Int32) (m_down : Int32) (m_drawn : Int32) (m_now : (Nat → Int32)) (m_kind : (Nat → Int32)) (m_height : (Nat → Int32)) (m_feet : (Nat → Int32)) (m_stride : (Nat → Int32)) (m_scope : (Nat → Int32)) (m_care : (Nat → Int32)) (m_plan : (Nat → Int32)) (m_rule : (Nat → Int32)) (m_undos : (Nat → Int32)) (m_aside : (Nat → Int32)) (m_row : (Nat → Int64)) (m_lengthn1 : Int32) (m_topn2 : Int32) (v1_39x : Int32) (m_at_39x : Int32) (m_acts_39x : (Nat → Int32)) (m_wrong_89j : Int32) : Option (Int32 × Int32 × Int32 × Int32 × Int32 × Int32 × Int32 × Int32 × Int32 × Int32 × Int32 × Int32 × Int32 × Int32 × Int32 × Int32 × Int32 × Int32 × Int32 × (Nat → Int32) × (Nat → Int32) × (Nat → Int32) × (Nat → Int32) × (Nat → Int64)) :=
  bd1 (f_X12_fine m_wrong_89j) <| fun rn5 =>
  if rn5 = 0 then
    some (((-1 : Int32) - m_wrong_89j), (0 : Int32), m_rowMany, (0 : Int32), (nI 64), m_lengthn1, m_topn2, m_at_39x, m_wrong_89j, m_isAsked, m_askedHorse, m_askedFence, m_askedLetter, m_askedHeight, m_undoMany, m_rodeTenths, m_refused, m_down, m_drawn, m_now, m_undos, m_aside, m_acts_39x, m_row)
  else
    bd1 (f_X12_lay_m_now_m_aside (0 : Int32) m_now m_aside) <| fun m_asiden6 =>
    ml16 (s_X12_show_117 m_fences m_allowed m_horses m_plans m_ruleSize m_kind m_height m_feet m_stride m_scope m_care m_plan m_rule v1_39x m_acts_39x (k_X12_show_117 m_undoMany m_undos m_row v1_39x m_acts_39x m_asiden6)) zN (0 : Int32) ((nI 64)) m_lengthn1 m_topn2 m_at_39x m_wrong_89j m_isAsked m_askedHorse m_askedFence m_askedLetter m_askedHeight m_rodeTenths m_refused m_down m_drawn m_now
def k_X12_show_39 (m_fences : Int32) (m_allowed : Int32) (m_horses : Int32) (m_plans : Int32) (m_rowMany : Int32) (m_ruleSize : Int32) (m_isAsked : Int32) (m_askedHorse : Int32) (m_askedFence : Int32) (m_askedLetter : Int32) (m_askedHeight : Int32) (m_undoMany : Int32) (m_rodeTenths : Int32) (m_refused : Int32) (m_down : Int32) (m_drawn : Int32) (m_now : (Nat → Int32)) (m_kind : (Nat → Int32)) (m_height : (Nat → Int32)) (m_feet : (Nat → Int32)) (m_stride : (Nat → Int32)) (m_scope : (Nat → Int32)) (m_care : (Nat → Int32)) (m_plan : (Nat → Int32)) (m_rule : (Nat → Int32)) (m_undos : (Nat → Int32)) (m_aside : (Nat → Int32)) (m_row : (Nat → Int64)) (m_lengthn1 : Int32) (m_topn2 : Int32) (v1_39x : Int32) (m_at_39x : Int32) (m_wrong_39x : Int32) (m_acts_39x : (Nat → Int32)) : Option (Int32 × Int32 × Int32 × Int32 × Int32 × Int32 × Int32 × Int32 × Int32 × Int32 × Int32 × Int32 × Int32 × Int32 × Int32 × Int32 × Int32 × Int32 × Int32 × (Nat → Int32) × (Nat → Int32) × (Nat → Int32) × (Nat → Int32) × (Nat → Int64)) :=
  if m_lengthn1 ≤ m_at_39x then
    j_X12_show_89 m_fences m_allowed m_horses m_plans m_rowMany m_ruleSize m_isAsked m_askedHorse m_askedFence m_askedLetter m_askedHeight m_undoMany m_rodeTenths m_refused m_down m_drawn m_now m_kind m_height m_feet m_stride m_scope m_care m_plan m_rule m_undos m_aside m_row m_lengthn1 m_topn2 v1_39x m_at_39x m_acts_39x m_wrong_39x
  else
    bd1 (f_X12_fault m_at_39x m_wrong_39x) <| fun m_wrongn34 =>
    j_X12_show_89 m_fences m_allowed m_horses m_plans m_rowMany m_ruleSize m_isAsked m_askedHorse m_askedFence m_askedLetter m_askedHeight m_undoMany m_rodeTenths m_refused m_down m_drawn m_now m_kind m_height m_feet m_stride m_scope m_care m_plan m_rule m_undos m_aside m_row m_lengthn1 m_topn2 v1_39x m_at_39x m_acts_39x m_wrongn34
def s_X12_show_39 (m_text : (Nat → Int32)) (m_lengthn1 : Int32) (m_topn2 : Int32) (kk39 : Int32 → Int32 → Int32 → (Nat → Int32) → Option (Int32 × Int32 × Int32 × Int32 × Int32 × Int32 × Int32 × Int32 × Int32 × Int32 × Int32 × Int32 × Int32 × Int32 × Int32 × Int32 × Int32 × Int32 × Int32 × (Nat → Int32) × (Nat → Int32) × (Nat → Int32) × (Nat → Int32) × (Nat → Int64))) (rc39 : Int32 → Int32 → Int32 → Int32 → (Nat → Int32) → Option (Int32 × Int32 × Int32 × Int32 × Int32 × Int32 × Int32 × Int32 × Int32 × Int32 × Int32 × Int32 × Int32 × Int32 × Int32 × Int32 × Int32 × Int32 × Int32 × (Nat → Int32) × (Nat → Int32) × (Nat → Int32) × (Nat → Int32) × (Nat → Int64))) (v1_39 : Int32) (v2_39 : Int32) (m_at_39 : Int32) (m_wrong_39 : Int32) (m_acts_39 : (Nat → Int32)) : Option (Int32 × Int32 × Int32 × Int32 × Int32 × Int32 × Int32 × Int32 × Int32 × Int32 × Int32 × Int32 × Int32 × Int32 × Int32 × Int32 × Int32 × Int32 × Int32 × (Nat → Int32) × (Nat → Int32) × (Nat → Int32) × (Nat → Int32) × (Nat → Int64)) :=
  if v2_39 = 0 then
    kk39 v1_39 m_at_39 m_wrong_39 m_acts_39
  else
    bd1 (f_X12_fine m_wrong_39) <| fun rn35 =>
    if rn35 = 0 then
      kk39 v1_39 m_at_39 m_wrong_39 m_acts_39
    else
      bd3 (f_X12_readAct_t (((5 : Int32) * v1_39)) m_lengthn1 m_topn2 m_at_39 m_wrong_39 m_text m_acts_39) <| fun m_atn36 m_wrongn37 m_actsn38 =>
      lt1 ((v1_39 + (1 : Int32))) <| fun v1n39 =>
      bd2 (f_X12_passes_t (59 : Int32) m_lengthn1 m_topn2 m_atn36 m_wrongn37 m_text) <| fun rn40 m_atn41 =>
      rc39 v1n39 rn40 m_atn41 m_wrongn37 m_actsn38
def j_X12_show_38 (m_fences : Int32) (m_allowed : Int32) (m_horses : Int32) (m_plans : Int32) (m_rowMany : Int32) (m_ruleSize : Int32) (m_isAsked : Int32) (m_askedHorse : Int32) (m_askedFence : Int32) (m_askedLetter : Int32) (m_askedHeight : Int32) (m_undoMany : Int32) (m_rodeTenths : Int32) (m_refused : Int32) (m_down : Int32) (m_drawn : Int32) (m_now : (Nat → Int32)) (m_kind : (Nat → Int32)) (m_height : (Nat → Int32)) (m_feet : (Nat → Int32)) (m_stride : (Nat → Int32)) (m_scope : (Nat → Int32)) (m_care : (Nat → Int32)) (m_plan : (Nat → Int32)) (m_text : (Nat → Int32)) (m_rule : (Nat → Int32)) (m_undos : (Nat → Int32)) (m_aside : (Nat → Int32)) (m_acts : (Nat → Int32)) (m_row : (Nat → Int64)) (m_lengthn1 : Int32) (m_topn2 : Int32) (m_atn3 : Int32) (m_wrongn4 : Int32) (t0_38j : Int32) : Option (Int32 × Int32 × Int32 × Int32 × Int32 × Int32 × Int32 × Int32 × Int32 × Int32 × Int32 × Int32 × Int32 × Int32 × Int32 × Int32 × Int32 × Int32 × Int32 × (Nat → Int32) × (Nat → Int32) × (Nat → Int32) × (Nat → Int32) × (Nat → Int64)) :=
  ml5 (s_X12_show_39 m_text m_lengthn1 m_topn2 (k_X12_show_39 m_fences m_allowed m_horses m_plans m_rowMany m_ruleSize m_isAsked m_askedHorse m_askedFence m_askedLetter m_askedHeight m_undoMany m_rodeTenths m_refused m_down m_drawn m_now m_kind m_height m_feet m_stride m_scope m_care m_plan m_rule m_undos m_aside m_row m_lengthn1 m_topn2)) zN (0 : Int32) t0_38j m_atn3 m_wrongn4 m_acts
def f_X12_show (m_fences : Int32) (m_allowed : Int32) (m_horses : Int32) (m_plans : Int32) (m_typed : Int32) (m_rowMany : Int32) (m_thrown : Int32) (m_read : Int32) (m_length : Int32) (m_top : Int32) (m_at : Int32) (m_wrong : Int32) (m_ruleSize : Int32) (m_isAsked : Int32) (m_askedHorse : Int32) (m_askedFence : Int32) (m_askedLetter : Int32) (m_askedHeight : Int32) (m_undoMany : Int32) (m_rodeTenths : Int32) (m_refused : Int32) (m_down : Int32) (m_drawn : Int32) (m_now : (Nat → Int32)) (m_kind : (Nat → Int32)) (m_height : (Nat → Int32)) (m_feet : (Nat → Int32)) (m_stride : (Nat → Int32)) (m_scope : (Nat → Int32)) (m_care : (Nat → Int32)) (m_plan : (Nat → Int32)) (m_text : (Nat → Int32)) (m_rule : (Nat → Int32)) (m_undos : (Nat → Int32)) (m_aside : (Nat → Int32)) (m_acts : (Nat → Int32)) (m_row : (Nat → Int64)) : Option (Int32 × Int32 × Int32 × Int32 × Int32 × Int32 × Int32 × Int32 × Int32 × Int32 × Int32 × Int32 × Int32 × Int32 × Int32 × Int32 × Int32 × Int32 × Int32 × (Nat → Int32) × (Nat → Int32) × (Nat → Int32) × (Nat → Int32) × (Nat → Int64)) :=
  bd4 (f_X12_begin_m_text m_typed (60 : Int32) m_read m_length m_top m_at m_wrong) <| fun m_lengthn1 m_topn2 m_atn3 m_wrongn4 =>
  if m_lengthn1 ≤ 0 then
    j_X12_show_38 m_fences m_allowed m_horses m_plans m_rowMany m_ruleSize m_isAsked m_askedHorse m_askedFence m_askedLetter m_askedHeight m_undoMany m_rodeTenths m_refused m_down m_drawn m_now m_kind m_height m_feet m_stride m_scope m_care m_plan m_text m_rule m_undos m_aside m_acts m_row m_lengthn1 m_topn2 m_atn3 m_wrongn4 (0 : Int32)
  else
    j_X12_show_38 m_fences m_allowed m_horses m_plans m_rowMany m_ruleSize m_isAsked m_askedHorse m_askedFence m_askedLetter m_askedHeight m_undoMany m_rodeTenths m_refused m_down m_drawn m_now m_kind m_height m_feet m_stride m_scope m_care m_plan m_text m_rule m_undos m_aside m_acts m_row m_lengthn1 m_topn2 m_atn3 m_wrongn4 (1 : Int32)
def k_X12_sign_20 (m_typed_20x : Int32) (m_text_20x : (Nat → Int32)) : Option (Int32 × Int32 × Int32 × (Nat → Int32)) :=
  some (m_typed_20x, m_typed_20x, (0 : Int32), m_text_20x)
def s_X12_sign_20 (p1 : Int32) (kk20 : Int32 → (Nat → Int32) → Option (Int32 × Int32 × Int32 × (Nat → Int32))) (rc20 : Int32 → Int32 → (Nat → Int32) → Option (Int32 × Int32 × Int32 × (Nat → Int32))) (v2_20 : Int32) (m_typed_20 : Int32) (m_text_20 : (Nat → Int32)) : Option (Int32 × Int32 × Int32 × (Nat → Int32)) :=
  if v2_20 < 0 then
    kk20 m_typed_20 m_text_20
  else
    gd (ix m_typed_20 80) <|
    lt1 ((v2_20 + (-1 : Int32))) <| fun v2n1 =>
    rc20 v2n1 ((m_typed_20 + (1 : Int32))) ((upd m_text_20 m_typed_20.toNatClampNeg (vp_nar .byte ((p1 >>> (((8 : Int32) * v2_20) &&& 31))).toInt8.toInt32)))
def f_X12_sign (p1 : Int32) (m_typed : Int32) (m_thrown : Int32) (m_text : (Nat → Int32)) : Option (Int32 × Int32 × Int32 × (Nat → Int32)) :=
  if (m_typed + (4 : Int32)) ≤ (80 : Int32) then
    ml3 (s_X12_sign_20 p1 (k_X12_sign_20)) zN (3 : Int32) m_typed m_text
  else
    some ((-1 : Int32), m_typed, (0 : Int32), m_text)
def j_X12_strides_54 (p1 : Int32) (p2 : Int32) (m_feet : (Nat → Int32)) (m_stride : (Nat → Int32)) (m_row : (Nat → Int64)) (t0_54j : Int32) : Option (Int32 × Int32 × Int32 × (Nat → Int64)) :=
  gd (ix p2 8) <|
  bd1 (f_X12_leanOf p1 ((m_feet p2.toNatClampNeg)) m_stride) <| fun rn4 =>
  bd2 (f_X12_tell (rn4.toInt64) (0 : Int32) m_row) <| fun m_rowManyn5 m_rown6 =>
  bd2 (f_X12_tell (t0_54j.toInt64) m_rowManyn5 m_rown6) <| fun m_rowManyn7 m_rown8 =>
  gd (ix p2 8) <|
  gd (ix p1 6) <|
  gd (nz (m_stride p1.toNatClampNeg)) <|
  some ((((m_feet p2.toNatClampNeg) / (m_stride p1.toNatClampNeg)) + t0_54j), m_rowManyn7, (0 : Int32), m_rown8)
def f_X12_strides (p1 : Int32) (p2 : Int32) (m_fences : Int32) (m_horses : Int32) (m_rowMany : Int32) (m_thrown : Int32) (m_feet : (Nat → Int32)) (m_stride : (Nat → Int32)) (m_row : (Nat → Int64)) : Option (Int32 × Int32 × Int32 × (Nat → Int64)) :=
  bd1 (f_X12_isHorse p1 m_horses) <| fun rn1 =>
  if rn1 = 0 then
    some ((-1 : Int32), m_rowMany, (0 : Int32), m_row)
  else
    bd1 (f_X12_isFence p2 m_fences) <| fun rn2 =>
    if rn2 = 0 then
      some ((-1 : Int32), m_rowMany, (0 : Int32), m_row)
    else
      gd (ix p2 8) <|
      gd (ix p1 6) <|
      gd (nz (m_stride p1.toNatClampNeg)) <|
      lt1 (((m_feet p2.toNatClampNeg) - (m_feet p2.toNatClampNeg) / (m_stride p1.toNatClampNeg) * (m_stride p1.toNatClampNeg))) <| fun v3n3 =>
      gd (ix p1 6) <|
      if v3n3 ≤ ((m_stride p1.toNatClampNeg) - v3n3) then
        j_X12_strides_54 p1 p2 m_feet m_stride m_row (0 : Int32)
      else
        j_X12_strides_54 p1 p2 m_feet m_stride m_row (1 : Int32)
def f_X12_sure (p1 : Int32) (m_fences : Int32) (m_allowed : Int32) (m_horses : Int32) (m_rowMany : Int32) (m_thrown : Int32) (m_read : Int32) (m_length : Int32) (m_top : Int32) (m_at : Int32) (m_wrong : Int32) (m_ruleSize : Int32) (m_isAsked : Int32) (m_askedHorse : Int32) (m_askedFence : Int32) (m_askedLetter : Int32) (m_askedHeight : Int32) (m_kind : (Nat → Int32)) (m_height : (Nat → Int32)) (m_feet : (Nat → Int32)) (m_stride : (Nat → Int32)) (m_scope : (Nat → Int32)) (m_care : (Nat → Int32)) (m_rule : (Nat → Int32)) (m_left : (Nat → Int32)) (m_spent : (Nat → Int32)) (m_little : (Nat → Int32)) (m_row : (Nat → Int64)) : Option (Int32 × Int32 × Int32 × Int32 × Int32 × Int32 × Int32 × Int32 × Int32 × Int32 × Int32 × Int32 × Int32 × (Nat → Int32) × (Nat → Int32) × (Nat → Int32) × (Nat → Int64)) :=
  bd17 (f_X12_curve p1 m_allowed m_fences m_horses m_rowMany m_thrown m_read m_length m_top m_at m_wrong m_ruleSize m_isAsked m_askedHorse m_askedFence m_askedLetter m_askedHeight m_kind m_height m_feet m_stride m_scope m_care m_rule m_left m_spent m_little m_row) <| fun rn1 m_rowManyn2 m_thrownn3 m_readn4 m_lengthn5 m_topn6 m_atn7 m_wrongn8 m_isAskedn9 m_askedHorsen10 m_askedFencen11 m_askedLettern12 m_askedHeightn13 m_leftn14 m_spentn15 m_littlen16 m_rown17 =>
  some (rn1, m_rowManyn2, m_thrownn3, m_readn4, m_lengthn5, m_topn6, m_atn7, m_wrongn8, m_isAskedn9, m_askedHorsen10, m_askedFencen11, m_askedLettern12, m_askedHeightn13, m_leftn14, m_spentn15, m_littlen16, m_rown17)
def k_X12_tellPlaces_m_now_2 (m_rowMany_2x : Int32) (m_row_2x : (Nat → Int64)) : Option (Int32 × (Nat → Int64)) :=
  some (m_rowMany_2x, m_row_2x)
def k_X12_tellPlaces_m_now_12 (rc2 : Int32 → Int32 → (Nat → Int64) → Option (Int32 × (Nat → Int64))) (v2_2 : Int32) (m_rowMany_12x : Int32) (m_row_12x : (Nat → Int64)) : Option (Int32 × (Nat → Int64)) :=
  lt1 ((v2_2 + (1 : Int32))) <| fun v2n1 =>
  rc2 v2n1 m_rowMany_12x m_row_12x
def s_X12_tellPlaces_m_now_12 (m_now : (Nat → Int32)) (v2_2 : Int32) (kk12 : Int32 → (Nat → Int64) → Option (Int32 × (Nat → Int64))) (rc12 : Int32 → Int32 → (Nat → Int64) → Option (Int32 × (Nat → Int64))) (v3_12 : Int32) (m_rowMany_12 : Int32) (m_row_12 : (Nat → Int64)) : Option (Int32 × (Nat → Int64)) :=
  gd (ix (48 : Int32) 49) <|
  if (m_now (48 : Int32).toNatClampNeg) ≤ v3_12 then
    kk12 m_rowMany_12 m_row_12
  else
    bd1 (f_X12_placeOf_m_now v3_12 m_now) <| fun rn2 =>
    if rn2 = v2_2 then
      bd2 (f_X12_tell (v3_12.toInt64) m_rowMany_12 m_row_12) <| fun m_rowManyn4 m_rown5 =>
      lt1 ((v3_12 + (1 : Int32))) <| fun v3n6 =>
      rc12 v3n6 m_rowManyn4 m_rown5
    else
      lt1 ((v3_12 + (1 : Int32))) <| fun v3n3 =>
      rc12 v3n3 m_rowMany_12 m_row_12
def s_X12_tellPlaces_m_now_2 (m_now : (Nat → Int32)) (kk2 : Int32 → (Nat → Int64) → Option (Int32 × (Nat → Int64))) (rc2 : Int32 → Int32 → (Nat → Int64) → Option (Int32 × (Nat → Int64))) (v2_2 : Int32) (m_rowMany_2 : Int32) (m_row_2 : (Nat → Int64)) : Option (Int32 × (Nat → Int64)) :=
  gd (ix (48 : Int32) 49) <|
  if (m_now (48 : Int32).toNatClampNeg) < v2_2 then
    kk2 m_rowMany_2 m_row_2
  else
    ml3 (s_X12_tellPlaces_m_now_12 m_now v2_2 (k_X12_tellPlaces_m_now_12 rc2 v2_2)) zN (0 : Int32) m_rowMany_2 m_row_2
def f_X12_tellPlaces_m_now (m_rowMany : Int32) (m_now : (Nat → Int32)) (m_row : (Nat → Int64)) : Option (Int32 × (Nat → Int64)) :=
  ml3 (s_X12_tellPlaces_m_now_2 m_now (k_X12_tellPlaces_m_now_2)) zN (1 : Int32) m_rowMany m_row
def k_X12_table_9 (m_now : (Nat → Int32)) (m_row : (Nat → Int64)) (v1_9x : Int32) : Option (Int32 × Int32 × Int32 × (Nat → Int64)) :=
  bd2 (f_X12_tellPlaces_m_now (0 : Int32) m_now m_row) <| fun m_rowManyn1 m_rown2 =>
  some (v1_9x, m_rowManyn1, (0 : Int32), m_rown2)
def s_X12_table_9 (m_now : (Nat → Int32)) (kk9 : Int32 → Option (Int32 × Int32 × Int32 × (Nat → Int64))) (rc9 : Int32 → Int32 → Option (Int32 × Int32 × Int32 × (Nat → Int64))) (v1_9 : Int32) (v2_9 : Int32) : Option (Int32 × Int32 × Int32 × (Nat → Int64)) :=
  gd (ix (48 : Int32) 49) <|
  if (m_now (48 : Int32).toNatClampNeg) ≤ v2_9 then
    kk9 v1_9
  else
    gd (ix (((4 : Int32) * v2_9) + (2 : Int32)) 49) <|
    if (m_now (((4 : Int32) * v2_9) + (2 : Int32)).toNatClampNeg) = 0 then
      lt1 ((v1_9 + (1 : Int32))) <| fun v1n5 =>
      lt1 ((v2_9 + (1 : Int32))) <| fun v2n6 =>
      rc9 v1n5 v2n6
    else
      lt1 ((v1_9 + (0 : Int32))) <| fun v1n3 =>
      lt1 ((v2_9 + (1 : Int32))) <| fun v2n4 =>
      rc9 v1n3 v2n4
def f_X12_table (m_rowMany : Int32) (m_thrown : Int32) (m_now : (Nat → Int32)) (m_row : (Nat → Int64)) : Option (Int32 × Int32 × Int32 × (Nat → Int64)) :=
  ml2 (s_X12_table_9 m_now (k_X12_table_9 m_now m_row)) zN (0 : Int32) (0 : Int32)
def f_X12_through (p1 : Int32) (p2 : Int32) (m_fences : Int32) (m_horses : Int32) (m_plans : Int32) (m_rowMany : Int32) (m_thrown : Int32) (m_read : Int32) (m_length : Int32) (m_top : Int32) (m_at : Int32) (m_wrong : Int32) (m_ruleSize : Int32) (m_isAsked : Int32) (m_askedHorse : Int32) (m_askedFence : Int32) (m_askedLetter : Int32) (m_askedHeight : Int32) (m_kind : (Nat → Int32)) (m_height : (Nat → Int32)) (m_feet : (Nat → Int32)) (m_stride : (Nat → Int32)) (m_scope : (Nat → Int32)) (m_care : (Nat → Int32)) (m_plan : (Nat → Int32)) (m_rule : (Nat → Int32)) (m_row : (Nat → Int64)) : Option (Int32 × Int32 × Int32 × Int32 × Int32 × Int32 × Int32 × Int32 × Int32 × Int32 × Int32 × Int32 × Int32 × (Nat → Int64)) :=
  bd1 (f_X12_isPlan p1 m_plans) <| fun rn1 =>
  if rn1 = 0 then
    some ((-1 : Int32), m_rowMany, (0 : Int32), m_read, m_length, m_top, m_at, m_wrong, m_isAsked, m_askedHorse, m_askedFence, m_askedLetter, m_askedHeight, m_row)
  else
    bd1 (f_X12_in p2 (0 : Int32) (10000 : Int32)) <| fun rn2 =>
    if rn2 = 0 then
      some ((-1 : Int32), m_rowMany, (0 : Int32), m_read, m_length, m_top, m_at, m_wrong, m_isAsked, m_askedHorse, m_askedFence, m_askedLetter, m_askedHeight, m_row)
    else
      bd11 (f_X12_throughBy p1 p2 (-1 : Int32) (0 : Int32) m_fences m_horses m_read m_length m_top m_at m_wrong m_ruleSize m_isAsked m_askedHorse m_askedFence m_askedLetter m_askedHeight m_kind m_height m_feet m_stride m_scope m_care m_plan m_rule) <| fun rn3 m_readn4 m_lengthn5 m_topn6 m_atn7 m_wrongn8 m_isAskedn9 m_askedHorsen10 m_askedFencen11 m_askedLettern12 m_askedHeightn13 =>
      bd1 (f_J6_bitCount_0f7a4 rn3) <| fun rn14 =>
      bd2 (f_X12_tell (rn14.toInt64) (0 : Int32) m_row) <| fun m_rowManyn15 m_rown16 =>
      some (rn3, m_rowManyn15, (0 : Int32), m_readn4, m_lengthn5, m_topn6, m_atn7, m_wrongn8, m_isAskedn9, m_askedHorsen10, m_askedFencen11, m_askedLettern12, m_askedHeightn13, m_rown16)
def f_X12_thrown (m_thrown : Int32) : Option Int32 :=
  some m_thrown
def f_X12_told (p1 : Int32) (p2 : Int32) (p3 : Int32) (p4 : Int32) (m_horses : Int32) (m_thrown : Int32) (m_undoMany : Int32) (m_now : (Nat → Int32)) (m_undos : (Nat → Int32)) : Option (Int32 × Int32 × Int32 × (Nat → Int32) × (Nat → Int32)) :=
  bd1 (f_X12_refusesTold p1 p2 p3 p4 m_horses m_now) <| fun rn1 =>
  if 0 ≤ rn1 then
    bd2 (f_X12_remember_m_now m_undoMany m_now m_undos) <| fun m_undoManyn2 m_undosn3 =>
    bd1 (f_X12_add_m_now p1 p2 p3 p4 m_now) <| fun m_nown4 =>
    gd (ix (48 : Int32) 49) <|
    some ((m_nown4 (48 : Int32).toNatClampNeg), (0 : Int32), m_undoManyn2, m_nown4, m_undosn3)
  else
    some (rn1, (0 : Int32), m_undoMany, m_now, m_undos)
def k_X12_undo_26 (m_undoMany : Int32) (m_now_26x : (Nat → Int32)) : Option (Int32 × Int32 × Int32 × (Nat → Int32)) :=
  some ((m_undoMany - (1 : Int32)), (0 : Int32), (m_undoMany - (1 : Int32)), m_now_26x)
def s_X12_undo_26 (m_undoMany : Int32) (m_undos : (Nat → Int32)) (kk26 : (Nat → Int32) → Option (Int32 × Int32 × Int32 × (Nat → Int32))) (rc26 : Int32 → (Nat → Int32) → Option (Int32 × Int32 × Int32 × (Nat → Int32))) (v1_26 : Int32) (m_now_26 : (Nat → Int32)) : Option (Int32 × Int32 × Int32 × (Nat → Int32)) :=
  if (49 : Int32) ≤ v1_26 then
    kk26 m_now_26
  else
    gd (ix (((49 : Int32) * (m_undoMany - (1 : Int32))) + v1_26) 588) <|
    gd (ix v1_26 49) <|
    lt1 ((v1_26 + (1 : Int32))) <| fun v1n1 =>
    rc26 v1n1 ((upd m_now_26 v1_26.toNatClampNeg (m_undos (((49 : Int32) * (m_undoMany - (1 : Int32))) + v1_26).toNatClampNeg)))
def f_X12_undo (m_thrown : Int32) (m_undoMany : Int32) (m_now : (Nat → Int32)) (m_undos : (Nat → Int32)) : Option (Int32 × Int32 × Int32 × (Nat → Int32)) :=
  if m_undoMany = 0 then
    some ((-1 : Int32), (0 : Int32), m_undoMany, m_now)
  else
    ml2 (s_X12_undo_26 m_undoMany m_undos (k_X12_undo_26 m_undoMany)) zN (0 : Int32) m_now
def f_X12_wind (p1 : Int32) (p2 : Int32) (p3 : Int32) (p4 : Int32) (m_fences : Int32) (m_horses : Int32) (m_plans : Int32) (m_rowMany : Int32) (m_thrown : Int32) (m_read : Int32) (m_length : Int32) (m_top : Int32) (m_at : Int32) (m_wrong : Int32) (m_ruleSize : Int32) (m_isAsked : Int32) (m_askedHorse : Int32) (m_askedFence : Int32) (m_askedLetter : Int32) (m_askedHeight : Int32) (m_kind : (Nat → Int32)) (m_height : (Nat → Int32)) (m_feet : (Nat → Int32)) (m_stride : (Nat → Int32)) (m_scope : (Nat → Int32)) (m_care : (Nat → Int32)) (m_plan : (Nat → Int32)) (m_rule : (Nat → Int32)) (m_row : (Nat → Int64)) (m_falling : (Nat → Int64)) : Option (Int32 × Int32 × Int32 × Int32 × Int32 × Int32 × Int32 × Int32 × Int32 × Int32 × Int32 × Int32 × Int32 × (Nat → Int64) × (Nat → Int64)) :=
  bd1 (f_X12_isFence p1 m_fences) <| fun rn1 =>
  if rn1 = 0 then
    some ((-1 : Int32), m_rowMany, (0 : Int32), m_read, m_length, m_top, m_at, m_wrong, m_isAsked, m_askedHorse, m_askedFence, m_askedLetter, m_askedHeight, m_row, m_falling)
  else
    bd1 (f_X12_in p3 (0 : Int32) (6 : Int32)) <| fun rn2 =>
    if rn2 = 0 then
      some ((-1 : Int32), m_rowMany, (0 : Int32), m_read, m_length, m_top, m_at, m_wrong, m_isAsked, m_askedHorse, m_askedFence, m_askedLetter, m_askedHeight, m_row, m_falling)
    else
      bd1 (f_X12_in p2 (0 : Int32) p3) <| fun rn3 =>
      if rn3 = 0 then
        some ((-1 : Int32), m_rowMany, (0 : Int32), m_read, m_length, m_top, m_at, m_wrong, m_isAsked, m_askedHorse, m_askedFence, m_askedLetter, m_askedHeight, m_row, m_falling)
      else
        bd1 (f_X12_in p4 (0 : Int32) (100 : Int32)) <| fun rn4 =>
        if rn4 = 0 then
          some ((-1 : Int32), m_rowMany, (0 : Int32), m_read, m_length, m_top, m_at, m_wrong, m_isAsked, m_askedHorse, m_askedFence, m_askedLetter, m_askedHeight, m_row, m_falling)
        else
          if m_horses < p3 then
            some ((-1 : Int32), m_rowMany, (0 : Int32), m_read, m_length, m_top, m_at, m_wrong, m_isAsked, m_askedHorse, m_askedFence, m_askedLetter, m_askedHeight, m_row, m_falling)
          else
            if m_plans = 0 then
              some ((-1 : Int32), m_rowMany, (0 : Int32), m_read, m_length, m_top, m_at, m_wrong, m_isAsked, m_askedHorse, m_askedFence, m_askedLetter, m_askedHeight, m_row, m_falling)
            else
              bd12 (f_X12_justFall p1 p2 p3 (0 : Int32) m_read m_length m_top m_at m_wrong m_ruleSize m_isAsked m_askedHorse m_askedFence m_askedLetter m_askedHeight m_kind m_height m_feet m_stride m_scope m_care m_plan m_rule m_falling) <| fun rn5 m_readn6 m_lengthn7 m_topn8 m_atn9 m_wrongn10 m_isAskedn11 m_askedHorsen12 m_askedFencen13 m_askedLettern14 m_askedHeightn15 m_fallingn16 =>
              bd12 (f_X12_justFall p1 p2 p3 p4 m_readn6 m_lengthn7 m_topn8 m_atn9 m_wrongn10 m_ruleSize m_isAskedn11 m_askedHorsen12 m_askedFencen13 m_askedLettern14 m_askedHeightn15 m_kind m_height m_feet m_stride m_scope m_care m_plan m_rule m_fallingn16) <| fun rn17 m_readn18 m_lengthn19 m_topn20 m_atn21 m_wrongn22 m_isAskedn23 m_askedHorsen24 m_askedFencen25 m_askedLettern26 m_askedHeightn27 m_fallingn28 =>
              bd1 (f_X12_power (100 : Int64) p3) <| fun rn29 =>
              bd2 (f_X12_tellPart rn5 rn29 (0 : Int32) m_row) <| fun m_rowManyn30 m_rown31 =>
              bd1 (f_X12_power (100 : Int64) p3) <| fun rn32 =>
              bd2 (f_X12_tellPart rn17 rn32 m_rowManyn30 m_rown31) <| fun m_rowManyn33 m_rown34 =>
              if (lg_cmp rn17 rn5) ≤ 0 then
                some ((0 : Int32), m_rowManyn33, (0 : Int32), m_readn18, m_lengthn19, m_topn20, m_atn21, m_wrongn22, m_isAskedn23, m_askedHorsen24, m_askedFencen25, m_askedLettern26, m_askedHeightn27, m_rown34, m_fallingn28)
              else
                some ((1 : Int32), m_rowManyn33, (0 : Int32), m_readn18, m_lengthn19, m_topn20, m_atn21, m_wrongn22, m_isAskedn23, m_askedHorsen24, m_askedFencen25, m_askedLettern26, m_askedHeightn27, m_rown34, m_fallingn28)
