def k_X12_bestPlan_4 (v2_4x : Int32) (m_read_4x : Int32) (m_length_4x : Int32) (m_top_4x : Int32) (m_at_4x : Int32) (m_wrong_4x : Int32) (m_isAsked_4x : Int32) (m_askedHorse_4x : Int32) (m_askedFence_4x : Int32) (m_askedLetter_4x : Int32) (m_askedHeight_4x : Int32) : Option (Int32 × Int32 × Int32 × Int32 × Int32 × Int32 × Int32 × Int32 × Int32 × Int32 × Int32) :=
  some (v2_4x, m_read_4x, m_length_4x, m_top_4x, m_at_4x, m_wrong_4x, m_isAsked_4x, m_askedHorse_4x, m_askedFence_4x, m_askedLetter_4x, m_askedHeight_4x)
def s_X12_bestPlan_4 (p1 : Int32) (m_fences : Int32) (m_allowed : Int32) (m_plans : Int32) (m_ruleSize : Int32) (m_now : (Nat → Int32)) (m_kind : (Nat → Int32)) (m_height : (Nat → Int32)) (m_feet : (Nat → Int32)) (m_stride : (Nat → Int32)) (m_scope : (Nat → Int32)) (m_care : (Nat → Int32)) (m_plan : (Nat → Int32)) (m_money : (Nat → Int32)) (m_rule : (Nat → Int32)) (kk4 : Int32 → Int32 → Int32 → Int32 → Int32 → Int32 → Int32 → Int32 → Int32 → Int32 → Int32 → Option (Int32 × Int32 × Int32 × Int32 × Int32 × Int32 × Int32 × Int32 × Int32 × Int32 × Int32)) (rc4 : Int32 → Int32 → Int32 → Int32 → Int32 → Int32 → Int32 → Int32 → Int32 → Int32 → Int32 → Int32 → Option (Int32 × Int32 × Int32 × Int32 × Int32 × Int32 × Int32 × Int32 × Int32 × Int32 × Int32)) (v2_4 : Int32) (v3_4 : Int32) (m_read_4 : Int32) (m_length_4 : Int32) (m_top_4 : Int32) (m_at_4 : Int32) (m_wrong_4 : Int32) (m_isAsked_4 : Int32) (m_askedHorse_4 : Int32) (m_askedFence_4 : Int32) (m_askedLetter_4 : Int32) (m_askedHeight_4 : Int32) : Option (Int32 × Int32 × Int32 × Int32 × Int32 × Int32 × Int32 × Int32 × Int32 × Int32 × Int32) :=
  if m_plans ≤ v3_4 then
    kk4 v2_4 m_read_4 m_length_4 m_top_4 m_at_4 m_wrong_4 m_isAsked_4 m_askedHorse_4 m_askedFence_4 m_askedLetter_4 m_askedHeight_4
  else
    bd11 (f_X12_meanOf p1 v3_4 m_fences m_allowed m_read_4 m_length_4 m_top_4 m_at_4 m_wrong_4 m_ruleSize m_isAsked_4 m_askedHorse_4 m_askedFence_4 m_askedLetter_4 m_askedHeight_4 m_now m_kind m_height m_feet m_stride m_scope m_care m_plan m_money m_rule) <| fun rn1 m_readn2 m_lengthn3 m_topn4 m_atn5 m_wrongn6 m_isAskedn7 m_askedHorsen8 m_askedFencen9 m_askedLettern10 m_askedHeightn11 =>
    bd11 (f_X12_meanOf p1 v2_4 m_fences m_allowed m_readn2 m_lengthn3 m_topn4 m_atn5 m_wrongn6 m_ruleSize m_isAskedn7 m_askedHorsen8 m_askedFencen9 m_askedLettern10 m_askedHeightn11 m_now m_kind m_height m_feet m_stride m_scope m_care m_plan m_money m_rule) <| fun rn12 m_readn13 m_lengthn14 m_topn15 m_atn16 m_wrongn17 m_isAskedn18 m_askedHorsen19 m_askedFencen20 m_askedLettern21 m_askedHeightn22 =>
    if rn1 ≤ rn12 then
      lt1 ((v3_4 + (1 : Int32))) <| fun v3n23 =>
      rc4 v2_4 v3n23 m_readn13 m_lengthn14 m_topn15 m_atn16 m_wrongn17 m_isAskedn18 m_askedHorsen19 m_askedFencen20 m_askedLettern21 m_askedHeightn22
    else
      lt1 ((v3_4 + (1 : Int32))) <| fun v3n24 =>
      rc4 v3_4 v3n24 m_readn13 m_lengthn14 m_topn15 m_atn16 m_wrongn17 m_isAskedn18 m_askedHorsen19 m_askedFencen20 m_askedLettern21 m_askedHeightn22
def f_X12_bestPlan (p1 : Int32) (m_fences : Int32) (m_allowed : Int32) (m_plans : Int32) (m_read : Int32) (m_length : Int32) (m_top : Int32) (m_at : Int32) (m_wrong : Int32) (m_ruleSize : Int32) (m_isAsked : Int32) (m_askedHorse : Int32) (m_askedFence : Int32) (m_askedLetter : Int32) (m_askedHeight : Int32) (m_now : (Nat → Int32)) (m_kind : (Nat → Int32)) (m_height : (Nat → Int32)) (m_feet : (Nat → Int32)) (m_stride : (Nat → Int32)) (m_scope : (Nat → Int32)) (m_care : (Nat → Int32)) (m_plan : (Nat → Int32)) (m_money : (Nat → Int32)) (m_rule : (Nat → Int32)) : Option (Int32 × Int32 × Int32 × Int32 × Int32 × Int32 × Int32 × Int32 × Int32 × Int32 × Int32) :=
  ml12 (s_X12_bestPlan_4 p1 m_fences m_allowed m_plans m_ruleSize m_now m_kind m_height m_feet m_stride m_scope m_care m_plan m_money m_rule (k_X12_bestPlan_4)) zN (0 : Int32) (1 : Int32) m_read m_length m_top m_at m_wrong m_isAsked m_askedHorse m_askedFence m_askedLetter m_askedHeight
def k_X12_throughBy_6 (v5_6x : Int32) (m_read_6x : Int32) (m_length_6x : Int32) (m_top_6x : Int32) (m_at_6x : Int32) (m_wrong_6x : Int32) (m_isAsked_6x : Int32) (m_askedHorse_6x : Int32) (m_askedFence_6x : Int32) (m_askedLetter_6x : Int32) (m_askedHeight_6x : Int32) : Option (Int32 × Int32 × Int32 × Int32 × Int32 × Int32 × Int32 × Int32 × Int32 × Int32 × Int32) :=
  some (v5_6x, m_read_6x, m_length_6x, m_top_6x, m_at_6x, m_wrong_6x, m_isAsked_6x, m_askedHorse_6x, m_askedFence_6x, m_askedLetter_6x, m_askedHeight_6x)
def s_X12_throughBy_6 (p1 : Int32) (p2 : Int32) (p3 : Int32) (p4 : Int32) (m_fences : Int32) (m_horses : Int32) (m_ruleSize : Int32) (m_kind : (Nat → Int32)) (m_height : (Nat → Int32)) (m_feet : (Nat → Int32)) (m_stride : (Nat → Int32)) (m_scope : (Nat → Int32)) (m_care : (Nat → Int32)) (m_plan : (Nat → Int32)) (m_rule : (Nat → Int32)) (kk6 : Int32 → Int32 → Int32 → Int32 → Int32 → Int32 → Int32 → Int32 → Int32 → Int32 → Int32 → Option (Int32 × Int32 × Int32 × Int32 × Int32 × Int32 × Int32 × Int32 × Int32 × Int32 × Int32)) (rc6 : Int32 → Int32 → Int32 → Int32 → Int32 → Int32 → Int32 → Int32 → Int32 → Int32 → Int32 → Int32 → Option (Int32 × Int32 × Int32 × Int32 × Int32 × Int32 × Int32 × Int32 × Int32 × Int32 × Int32)) (v5_6 : Int32) (v6_6 : Int32) (m_read_6 : Int32) (m_length_6 : Int32) (m_top_6 : Int32) (m_at_6 : Int32) (m_wrong_6 : Int32) (m_isAsked_6 : Int32) (m_askedHorse_6 : Int32) (m_askedFence_6 : Int32) (m_askedLetter_6 : Int32) (m_askedHeight_6 : Int32) : Option (Int32 × Int32 × Int32 × Int32 × Int32 × Int32 × Int32 × Int32 × Int32 × Int32 × Int32) :=
  if m_horses ≤ v6_6 then
    kk6 v5_6 m_read_6 m_length_6 m_top_6 m_at_6 m_wrong_6 m_isAsked_6 m_askedHorse_6 m_askedFence_6 m_askedLetter_6 m_askedHeight_6
  else
    bd11 (f_X12_clearBy v6_6 p1 p3 p4 m_fences m_read_6 m_length_6 m_top_6 m_at_6 m_wrong_6 m_ruleSize m_isAsked_6 m_askedHorse_6 m_askedFence_6 m_askedLetter_6 m_askedHeight_6 m_kind m_height m_feet m_stride m_scope m_care m_plan m_rule) <| fun rn1 m_readn2 m_lengthn3 m_topn4 m_atn5 m_wrongn6 m_isAskedn7 m_askedHorsen8 m_askedFencen9 m_askedLettern10 m_askedHeightn11 =>
    if rn1 < p2 then
      lt1 ((v5_6 ||| (0 : Int32))) <| fun v5n12 =>
      lt1 ((v6_6 + (1 : Int32))) <| fun v6n13 =>
      rc6 v5n12 v6n13 m_readn2 m_lengthn3 m_topn4 m_atn5 m_wrongn6 m_isAskedn7 m_askedHorsen8 m_askedFencen9 m_askedLettern10 m_askedHeightn11
    else
      lt1 ((v5_6 ||| ((1 : Int32) <<< (v6_6 &&& 31)))) <| fun v5n14 =>
      lt1 ((v6_6 + (1 : Int32))) <| fun v6n15 =>
      rc6 v5n14 v6n15 m_readn2 m_lengthn3 m_topn4 m_atn5 m_wrongn6 m_isAskedn7 m_askedHorsen8 m_askedFencen9 m_askedLettern10 m_askedHeightn11
def f_X12_throughBy (p1 : Int32) (p2 : Int32) (p3 : Int32) (p4 : Int32) (m_fences : Int32) (m_horses : Int32) (m_read : Int32) (m_length : Int32) (m_top : Int32) (m_at : Int32) (m_wrong : Int32) (m_ruleSize : Int32) (m_isAsked : Int32) (m_askedHorse : Int32) (m_askedFence : Int32) (m_askedLetter : Int32) (m_askedHeight : Int32) (m_kind : (Nat → Int32)) (m_height : (Nat → Int32)) (m_feet : (Nat → Int32)) (m_stride : (Nat → Int32)) (m_scope : (Nat → Int32)) (m_care : (Nat → Int32)) (m_plan : (Nat → Int32)) (m_rule : (Nat → Int32)) : Option (Int32 × Int32 × Int32 × Int32 × Int32 × Int32 × Int32 × Int32 × Int32 × Int32 × Int32) :=
  ml12 (s_X12_throughBy_6 p1 p2 p3 p4 m_fences m_horses m_ruleSize m_kind m_height m_feet m_stride m_scope m_care m_plan m_rule (k_X12_throughBy_6)) zN (0 : Int32) (0 : Int32) m_read m_length m_top m_at m_wrong m_isAsked m_askedHorse m_askedFence m_askedLetter m_askedHeight
def k_X12_built_59 (m_row : (Nat → Int64)) (v4_59x : Int32) (v5_59x : Int32) (v6_59x : Int32) (m_read_59x : Int32) (m_length_59x : Int32) (m_top_59x : Int32) (m_at_59x : Int32) (m_wrong_59x : Int32) (m_isAsked_59x : Int32) (m_askedHorse_59x : Int32) (m_askedFence_59x : Int32) (m_askedLetter_59x : Int32) (m_askedHeight_59x : Int32) : Option (Int32 × Int32 × Int32 × Int32 × Int32 × Int32 × Int32 × Int32 × Int32 × Int32 × Int32 × Int32 × Int32 × (Nat → Int64)) :=
  bd2 (f_X12_tell (v5_59x.toInt64) (0 : Int32) m_row) <| fun m_rowManyn16 m_rown17 =>
  bd2 (f_X12_tell (v6_59x.toInt64) m_rowManyn16 m_rown17) <| fun m_rowManyn18 m_rown19 =>
  some (v4_59x, m_rowManyn18, (0 : Int32), m_read_59x, m_length_59x, m_top_59x, m_at_59x, m_wrong_59x, m_isAsked_59x, m_askedHorse_59x, m_askedFence_59x, m_askedLetter_59x, m_askedHeight_59x, m_rown19)
def k_X12_built_71 (rc59 : Int32 → Int32 → Int32 → Int32 → Int32 → Int32 → Int32 → Int32 → Int32 → Int32 → Int32 → Int32 → Int32 → Int32 → Option (Int32 × Int32 × Int32 × Int32 × Int32 × Int32 × Int32 × Int32 × Int32 × Int32 × Int32 × Int32 × Int32 × (Nat → Int64))) (v7_59 : Int32) (v4_71x : Int32) (v5_71x : Int32) (v6_71x : Int32) (m_read_71x : Int32) (m_length_71x : Int32) (m_top_71x : Int32) (m_at_71x : Int32) (m_wrong_71x : Int32) (m_isAsked_71x : Int32) (m_askedHorse_71x : Int32) (m_askedFence_71x : Int32) (m_askedLetter_71x : Int32) (m_askedHeight_71x : Int32) : Option (Int32 × Int32 × Int32 × Int32 × Int32 × Int32 × Int32 × Int32 × Int32 × Int32 × Int32 × Int32 × Int32 × (Nat → Int64)) :=
  lt1 ((v7_59 + (1 : Int32))) <| fun v7n20 =>
  rc59 v4_71x v5_71x v6_71x v7n20 m_read_71x m_length_71x m_top_71x m_at_71x m_wrong_71x m_isAsked_71x m_askedHorse_71x m_askedFence_71x m_askedLetter_71x m_askedHeight_71x
def s_X12_built_71 (p1 : Int32) (p2 : Int32) (p3 : Int32) (m_fences : Int32) (m_horses : Int32) (m_ruleSize : Int32) (m_kind : (Nat → Int32)) (m_height : (Nat → Int32)) (m_feet : (Nat → Int32)) (m_stride : (Nat → Int32)) (m_scope : (Nat → Int32)) (m_care : (Nat → Int32)) (m_plan : (Nat → Int32)) (m_rule : (Nat → Int32)) (v7_59 : Int32) (kk71 : Int32 → Int32 → Int32 → Int32 → Int32 → Int32 → Int32 → Int32 → Int32 → Int32 → Int32 → Int32 → Int32 → Option (Int32 × Int32 × Int32 × Int32 × Int32 × Int32 × Int32 × Int32 × Int32 × Int32 × Int32 × Int32 × Int32 × (Nat → Int64))) (rc71 : Int32 → Int32 → Int32 → Int32 → Int32 → Int32 → Int32 → Int32 → Int32 → Int32 → Int32 → Int32 → Int32 → Int32 → Option (Int32 × Int32 × Int32 × Int32 × Int32 × Int32 × Int32 × Int32 × Int32 × Int32 × Int32 × Int32 × Int32 × (Nat → Int64))) (v4_71 : Int32) (v5_71 : Int32) (v6_71 : Int32) (v8_71 : Int32) (m_read_71 : Int32) (m_length_71 : Int32) (m_top_71 : Int32) (m_at_71 : Int32) (m_wrong_71 : Int32) (m_isAsked_71 : Int32) (m_askedHorse_71 : Int32) (m_askedFence_71 : Int32) (m_askedLetter_71 : Int32) (m_askedHeight_71 : Int32) : Option (Int32 × Int32 × Int32 × Int32 × Int32 × Int32 × Int32 × Int32 × Int32 × Int32 × Int32 × Int32 × Int32 × (Nat → Int64)) :=
  if (9 : Int32) < v8_71 then
    kk71 v4_71 v5_71 v6_71 m_read_71 m_length_71 m_top_71 m_at_71 m_wrong_71 m_isAsked_71 m_askedHorse_71 m_askedFence_71 m_askedLetter_71 m_askedHeight_71
  else
    bd11 (f_X12_throughBy p1 p2 v7_59 v8_71 m_fences m_horses m_read_71 m_length_71 m_top_71 m_at_71 m_wrong_71 m_ruleSize m_isAsked_71 m_askedHorse_71 m_askedFence_71 m_askedLetter_71 m_askedHeight_71 m_kind m_height m_feet m_stride m_scope m_care m_plan m_rule) <| fun rn21 m_readn22 m_lengthn23 m_topn24 m_atn25 m_wrongn26 m_isAskedn27 m_askedHorsen28 m_askedFencen29 m_askedLettern30 m_askedHeightn31 =>
    bd1 (f_J6_bitCount_0f7a4 rn21) <| fun rn32 =>
    if (if 0 ≤ (rn32 - p3) then (rn32 - p3) else 0 - (rn32 - p3)) < (if 0 ≤ (v6_71 - p3) then (v6_71 - p3) else 0 - (v6_71 - p3)) then
      lt1 ((v8_71 + (1 : Int32))) <| fun v8n33 =>
      rc71 v7_59 v8_71 rn32 v8n33 m_readn22 m_lengthn23 m_topn24 m_atn25 m_wrongn26 m_isAskedn27 m_askedHorsen28 m_askedFencen29 m_askedLettern30 m_askedHeightn31
    else
      lt1 ((v8_71 + (1 : Int32))) <| fun v8n34 =>
      rc71 v4_71 v5_71 v6_71 v8n34 m_readn22 m_lengthn23 m_topn24 m_atn25 m_wrongn26 m_isAskedn27 m_askedHorsen28 m_askedFencen29 m_askedLettern30 m_askedHeightn31
def s_X12_built_59 (p1 : Int32) (p2 : Int32) (p3 : Int32) (m_fences : Int32) (m_horses : Int32) (m_ruleSize : Int32) (m_kind : (Nat → Int32)) (m_height : (Nat → Int32)) (m_feet : (Nat → Int32)) (m_stride : (Nat → Int32)) (m_scope : (Nat → Int32)) (m_care : (Nat → Int32)) (m_plan : (Nat → Int32)) (m_rule : (Nat → Int32)) (kk59 : Int32 → Int32 → Int32 → Int32 → Int32 → Int32 → Int32 → Int32 → Int32 → Int32 → Int32 → Int32 → Int32 → Option (Int32 × Int32 × Int32 × Int32 × Int32 × Int32 × Int32 × Int32 × Int32 × Int32 × Int32 × Int32 × Int32 × (Nat → Int64))) (rc59 : Int32 → Int32 → Int32 → Int32 → Int32 → Int32 → Int32 → Int32 → Int32 → Int32 → Int32 → Int32 → Int32 → Int32 → Option (Int32 × Int32 × Int32 × Int32 × Int32 × Int32 × Int32 × Int32 × Int32 × Int32 × Int32 × Int32 × Int32 × (Nat → Int64))) (v4_59 : Int32) (v5_59 : Int32) (v6_59 : Int32) (v7_59 : Int32) (m_read_59 : Int32) (m_length_59 : Int32) (m_top_59 : Int32) (m_at_59 : Int32) (m_wrong_59 : Int32) (m_isAsked_59 : Int32) (m_askedHorse_59 : Int32) (m_askedFence_59 : Int32) (m_askedLetter_59 : Int32) (m_askedHeight_59 : Int32) : Option (Int32 × Int32 × Int32 × Int32 × Int32 × Int32 × Int32 × Int32 × Int32 × Int32 × Int32 × Int32 × Int32 × (Nat → Int64)) :=
  if m_fences ≤ v7_59 then
    kk59 v4_59 v5_59 v6_59 m_read_59 m_length_59 m_top_59 m_at_59 m_wrong_59 m_isAsked_59 m_askedHorse_59 m_askedFence_59 m_askedLetter_59 m_askedHeight_59
  else
    ml14 (s_X12_built_71 p1 p2 p3 m_fences m_horses m_ruleSize m_kind m_height m_feet m_stride m_scope m_care m_plan m_rule v7_59 (k_X12_built_71 rc59 v7_59)) zN v4_59 v5_59 v6_59 (0 : Int32) m_read_59 m_length_59 m_top_59 m_at_59 m_wrong_59 m_isAsked_59 m_askedHorse_59 m_askedFence_59 m_askedLetter_59 m_askedHeight_59
def f_X12_built (p1 : Int32) (p2 : Int32) (p3 : Int32) (m_fences : Int32) (m_horses : Int32) (m_plans : Int32) (m_rowMany : Int32) (m_thrown : Int32) (m_read : Int32) (m_length : Int32) (m_top : Int32) (m_at : Int32) (m_wrong : Int32) (m_ruleSize : Int32) (m_isAsked : Int32) (m_askedHorse : Int32) (m_askedFence : Int32) (m_askedLetter : Int32) (m_askedHeight : Int32) (m_kind : (Nat → Int32)) (m_height : (Nat → Int32)) (m_feet : (Nat → Int32)) (m_stride : (Nat → Int32)) (m_scope : (Nat → Int32)) (m_care : (Nat → Int32)) (m_plan : (Nat → Int32)) (m_rule : (Nat → Int32)) (m_row : (Nat → Int64)) : Option (Int32 × Int32 × Int32 × Int32 × Int32 × Int32 × Int32 × Int32 × Int32 × Int32 × Int32 × Int32 × Int32 × (Nat → Int64)) :=
  bd1 (f_X12_isPlan p1 m_plans) <| fun rn1 =>
  if rn1 = 0 then
    some ((-2 : Int32), m_rowMany, (0 : Int32), m_read, m_length, m_top, m_at, m_wrong, m_isAsked, m_askedHorse, m_askedFence, m_askedLetter, m_askedHeight, m_row)
  else
    bd1 (f_X12_in p2 (0 : Int32) (10000 : Int32)) <| fun rn2 =>
    if rn2 = 0 then
      some ((-2 : Int32), m_rowMany, (0 : Int32), m_read, m_length, m_top, m_at, m_wrong, m_isAsked, m_askedHorse, m_askedFence, m_askedLetter, m_askedHeight, m_row)
    else
      bd1 (f_X12_in p3 (0 : Int32) (6 : Int32)) <| fun rn3 =>
      if rn3 = 0 then
        some ((-2 : Int32), m_rowMany, (0 : Int32), m_read, m_length, m_top, m_at, m_wrong, m_isAsked, m_askedHorse, m_askedFence, m_askedLetter, m_askedHeight, m_row)
      else
        bd11 (f_X12_throughBy p1 p2 (-1 : Int32) (0 : Int32) m_fences m_horses m_read m_length m_top m_at m_wrong m_ruleSize m_isAsked m_askedHorse m_askedFence m_askedLetter m_askedHeight m_kind m_height m_feet m_stride m_scope m_care m_plan m_rule) <| fun rn4 m_readn5 m_lengthn6 m_topn7 m_atn8 m_wrongn9 m_isAskedn10 m_askedHorsen11 m_askedFencen12 m_askedLettern13 m_askedHeightn14 =>
        bd1 (f_J6_bitCount_0f7a4 rn4) <| fun rn15 =>
        ml14 (s_X12_built_59 p1 p2 p3 m_fences m_horses m_ruleSize m_kind m_height m_feet m_stride m_scope m_care m_plan m_rule (k_X12_built_59 m_row)) zN (-1 : Int32) (-1 : Int32) rn15 (0 : Int32) m_readn5 m_lengthn6 m_topn7 m_atn8 m_wrongn9 m_isAskedn10 m_askedHorsen11 m_askedFencen12 m_askedLettern13 m_askedHeightn14
def k_X12_buy_31 (m_fences : Int32) (m_allowed : Int32) (m_plans : Int32) (m_ruleSize : Int32) (m_now : (Nat → Int32)) (m_kind : (Nat → Int32)) (m_height : (Nat → Int32)) (m_feet : (Nat → Int32)) (m_stride : (Nat → Int32)) (m_scope : (Nat → Int32)) (m_care : (Nat → Int32)) (m_plan : (Nat → Int32)) (m_money : (Nat → Int32)) (m_rule : (Nat → Int32)) (m_row : (Nat → Int64)) (v1_31x : Int32) (v2_31x : Int32) (v3_31x : Int32) (m_read_31x : Int32) (m_length_31x : Int32) (m_top_31x : Int32) (m_at_31x : Int32) (m_wrong_31x : Int32) (m_isAsked_31x : Int32) (m_askedHorse_31x : Int32) (m_askedFence_31x : Int32) (m_askedLetter_31x : Int32) (m_askedHeight_31x : Int32) : Option (Int32 × Int32 × Int32 × Int32 × Int32 × Int32 × Int32 × Int32 × Int32 × Int32 × Int32 × Int32 × Int32 × (Nat → Int64)) :=
  bd2 (f_X12_tell (v2_31x.toInt64) (0 : Int32) m_row) <| fun m_rowManyn1 m_rown2 =>
  bd11 (f_X12_bestPlan v1_31x m_fences m_allowed m_plans m_read_31x m_length_31x m_top_31x m_at_31x m_wrong_31x m_ruleSize m_isAsked_31x m_askedHorse_31x m_askedFence_31x m_askedLetter_31x m_askedHeight_31x m_now m_kind m_height m_feet m_stride m_scope m_care m_plan m_money m_rule) <| fun rn3 m_readn4 m_lengthn5 m_topn6 m_atn7 m_wrongn8 m_isAskedn9 m_askedHorsen10 m_askedFencen11 m_askedLettern12 m_askedHeightn13 =>
  bd2 (f_X12_tell (rn3.toInt64) m_rowManyn1 m_rown2) <| fun m_rowManyn14 m_rown15 =>
  bd2 (f_X12_tell (v3_31x.toInt64) m_rowManyn14 m_rown15) <| fun m_rowManyn16 m_rown17 =>
  some (v1_31x, m_rowManyn16, (0 : Int32), m_readn4, m_lengthn5, m_topn6, m_atn7, m_wrongn8, m_isAskedn9, m_askedHorsen10, m_askedFencen11, m_askedLettern12, m_askedHeightn13, m_rown17)
def s_X12_buy_31 (m_fences : Int32) (m_allowed : Int32) (m_horses : Int32) (m_plans : Int32) (m_ruleSize : Int32) (m_now : (Nat → Int32)) (m_kind : (Nat → Int32)) (m_height : (Nat → Int32)) (m_feet : (Nat → Int32)) (m_stride : (Nat → Int32)) (m_scope : (Nat → Int32)) (m_care : (Nat → Int32)) (m_plan : (Nat → Int32)) (m_money : (Nat → Int32)) (m_rule : (Nat → Int32)) (kk31 : Int32 → Int32 → Int32 → Int32 → Int32 → Int32 → Int32 → Int32 → Int32 → Int32 → Int32 → Int32 → Int32 → Option (Int32 × Int32 × Int32 × Int32 × Int32 × Int32 × Int32 × Int32 × Int32 × Int32 × Int32 × Int32 × Int32 × (Nat → Int64))) (rc31 : Int32 → Int32 → Int32 → Int32 → Int32 → Int32 → Int32 → Int32 → Int32 → Int32 → Int32 → Int32 → Int32 → Int32 → Option (Int32 × Int32 × Int32 × Int32 × Int32 × Int32 × Int32 × Int32 × Int32 × Int32 × Int32 × Int32 × Int32 × (Nat → Int64))) (v1_31 : Int32) (v2_31 : Int32) (v3_31 : Int32) (v4_31 : Int32) (m_read_31 : Int32) (m_length_31 : Int32) (m_top_31 : Int32) (m_at_31 : Int32) (m_wrong_31 : Int32) (m_isAsked_31 : Int32) (m_askedHorse_31 : Int32) (m_askedFence_31 : Int32) (m_askedLetter_31 : Int32) (m_askedHeight_31 : Int32) : Option (Int32 × Int32 × Int32 × Int32 × Int32 × Int32 × Int32 × Int32 × Int32 × Int32 × Int32 × Int32 × Int32 × (Nat → Int64)) :=
  if m_horses ≤ v4_31 then
    kk31 v1_31 v2_31 v3_31 m_read_31 m_length_31 m_top_31 m_at_31 m_wrong_31 m_isAsked_31 m_askedHorse_31 m_askedFence_31 m_askedLetter_31 m_askedHeight_31
  else
    bd11 (f_X12_bestPlan v4_31 m_fences m_allowed m_plans m_read_31 m_length_31 m_top_31 m_at_31 m_wrong_31 m_ruleSize m_isAsked_31 m_askedHorse_31 m_askedFence_31 m_askedLetter_31 m_askedHeight_31 m_now m_kind m_height m_feet m_stride m_scope m_care m_plan m_money m_rule) <| fun rn18 m_readn19 m_lengthn20 m_topn21 m_atn22 m_wrongn23 m_isAskedn24 m_askedHorsen25 m_askedFencen26 m_askedLettern27 m_askedHeightn28 =>
    bd11 (f_X12_meanOf v4_31 rn18 m_fences m_allowed m_readn19 m_lengthn20 m_topn21 m_atn22 m_wrongn23 m_ruleSize m_isAskedn24 m_askedHorsen25 m_askedFencen26 m_askedLettern27 m_askedHeightn28 m_now m_kind m_height m_feet m_stride m_scope m_care m_plan m_money m_rule) <| fun rn29 m_readn30 m_lengthn31 m_topn32 m_atn33 m_wrongn34 m_isAskedn35 m_askedHorsen36 m_askedFencen37 m_askedLettern38 m_askedHeightn39 =>
    if rn29 ≤ v2_31 then
      lt1 ((if v3_31 < rn29 then rn29 else v3_31)) <| fun v3n40 =>
      lt1 ((v4_31 + (1 : Int32))) <| fun v4n41 =>
      rc31 v1_31 v2_31 v3n40 v4n41 m_readn30 m_lengthn31 m_topn32 m_atn33 m_wrongn34 m_isAskedn35 m_askedHorsen36 m_askedFencen37 m_askedLettern38 m_askedHeightn39
    else
      lt1 ((v4_31 + (1 : Int32))) <| fun v4n42 =>
      rc31 v4_31 rn29 v2_31 v4n42 m_readn30 m_lengthn31 m_topn32 m_atn33 m_wrongn34 m_isAskedn35 m_askedHorsen36 m_askedFencen37 m_askedLettern38 m_askedHeightn39
def f_X12_buy (m_fences : Int32) (m_allowed : Int32) (m_horses : Int32) (m_plans : Int32) (m_rowMany : Int32) (m_thrown : Int32) (m_read : Int32) (m_length : Int32) (m_top : Int32) (m_at : Int32) (m_wrong : Int32) (m_ruleSize : Int32) (m_isAsked : Int32) (m_askedHorse : Int32) (m_askedFence : Int32) (m_askedLetter : Int32) (m_askedHeight : Int32) (m_now : (Nat → Int32)) (m_kind : (Nat → Int32)) (m_height : (Nat → Int32)) (m_feet : (Nat → Int32)) (m_stride : (Nat → Int32)) (m_scope : (Nat → Int32)) (m_care : (Nat → Int32)) (m_plan : (Nat → Int32)) (m_money : (Nat → Int32)) (m_rule : (Nat → Int32)) (m_row : (Nat → Int64)) : Option (Int32 × Int32 × Int32 × Int32 × Int32 × Int32 × Int32 × Int32 × Int32 × Int32 × Int32 × Int32 × Int32 × (Nat → Int64)) :=
  if m_horses = 0 then
    some ((-2 : Int32), m_rowMany, (0 : Int32), m_read, m_length, m_top, m_at, m_wrong, m_isAsked, m_askedHorse, m_askedFence, m_askedLetter, m_askedHeight, m_row)
  else
    if m_plans = 0 then
      some ((-2 : Int32), m_rowMany, (0 : Int32), m_read, m_length, m_top, m_at, m_wrong, m_isAsked, m_askedHorse, m_askedFence, m_askedLetter, m_askedHeight, m_row)
    else
      ml14 (s_X12_buy_31 m_fences m_allowed m_horses m_plans m_ruleSize m_now m_kind m_height m_feet m_stride m_scope m_care m_plan m_money m_rule (k_X12_buy_31 m_fences m_allowed m_plans m_ruleSize m_now m_kind m_height m_feet m_stride m_scope m_care m_plan m_money m_rule m_row)) zN (-1 : Int32) (-1 : Int32) (-1 : Int32) (0 : Int32) m_read m_length m_top m_at m_wrong m_isAsked m_askedHorse m_askedFence m_askedLetter m_askedHeight
def f_X12_isFence (p1 : Int32) (m_fences : Int32) : Option Int32 :=
  bd1 (f_X12_in p1 (0 : Int32) ((m_fences - (1 : Int32)))) <| fun rn1 =>
  gd (bit rn1) <|
  some rn1
def k_X12_calm_33 (p1 : Int32) (p2 : Int32) (m_kind : (Nat → Int32)) (m_feet : (Nat → Int32)) (m_stride : (Nat → Int32)) (m_care : (Nat → Int32)) (m_row : (Nat → Int64)) (v3_33x : Int32) (v4_33x : Int32) (m_read_33x : Int32) (m_length_33x : Int32) (m_top_33x : Int32) (m_at_33x : Int32) (m_wrong_33x : Int32) (m_isAsked_33x : Int32) (m_askedHorse_33x : Int32) (m_askedFence_33x : Int32) (m_askedLetter_33x : Int32) (m_askedHeight_33x : Int32) : Option (Int32 × Int32 × Int32 × Int32 × Int32 × Int32 × Int32 × Int32 × Int32 × Int32 × Int32 × Int32 × Int32 × (Nat → Int64)) :=
  bd1 (f_X12_refusalOf p1 p2 m_kind m_feet m_stride m_care) <| fun rn3 =>
  bd2 (f_X12_tell (((v4_33x + rn3)).toInt64) (0 : Int32) m_row) <| fun m_rowManyn4 m_rown5 =>
  bd1 (f_X12_tenthsOf p2 v3_33x m_kind m_feet) <| fun rn6 =>
  bd2 (f_X12_tell (rn6.toInt64) m_rowManyn4 m_rown5) <| fun m_rowManyn7 m_rown8 =>
  some (v3_33x, m_rowManyn7, (0 : Int32), m_read_33x, m_length_33x, m_top_33x, m_at_33x, m_wrong_33x, m_isAsked_33x, m_askedHorse_33x, m_askedFence_33x, m_askedLetter_33x, m_askedHeight_33x, m_rown8)
def s_X12_calm_33 (p1 : Int32) (p2 : Int32) (m_ruleSize : Int32) (m_kind : (Nat → Int32)) (m_height : (Nat → Int32)) (m_feet : (Nat → Int32)) (m_stride : (Nat → Int32)) (m_scope : (Nat → Int32)) (m_care : (Nat → Int32)) (m_rule : (Nat → Int32)) (kk33 : Int32 → Int32 → Int32 → Int32 → Int32 → Int32 → Int32 → Int32 → Int32 → Int32 → Int32 → Int32 → Option (Int32 × Int32 × Int32 × Int32 × Int32 × Int32 × Int32 × Int32 × Int32 × Int32 × Int32 × Int32 × Int32 × (Nat → Int64))) (rc33 : Int32 → Int32 → Int32 → Int32 → Int32 → Int32 → Int32 → Int32 → Int32 → Int32 → Int32 → Int32 → Int32 → Option (Int32 × Int32 × Int32 × Int32 × Int32 × Int32 × Int32 × Int32 × Int32 × Int32 × Int32 × Int32 × Int32 × (Nat → Int64))) (v3_33 : Int32) (v4_33 : Int32) (v5_33 : Int32) (m_read_33 : Int32) (m_length_33 : Int32) (m_top_33 : Int32) (m_at_33 : Int32) (m_wrong_33 : Int32) (m_isAsked_33 : Int32) (m_askedHorse_33 : Int32) (m_askedFence_33 : Int32) (m_askedLetter_33 : Int32) (m_askedHeight_33 : Int32) : Option (Int32 × Int32 × Int32 × Int32 × Int32 × Int32 × Int32 × Int32 × Int32 × Int32 × Int32 × Int32 × Int32 × (Nat → Int64)) :=
  if (8 : Int32) ≤ v5_33 then
    kk33 v3_33 v4_33 m_read_33 m_length_33 m_top_33 m_at_33 m_wrong_33 m_isAsked_33 m_askedHorse_33 m_askedFence_33 m_askedLetter_33 m_askedHeight_33
  else
    bd11 (f_X12_oddsOf_ p1 p2 v5_33 m_read_33 m_length_33 m_top_33 m_at_33 m_wrong_33 m_ruleSize m_isAsked_33 m_askedHorse_33 m_askedFence_33 m_askedLetter_33 m_askedHeight_33 m_kind m_height m_feet m_stride m_scope m_care m_rule) <| fun rn9 m_readn10 m_lengthn11 m_topn12 m_atn13 m_wrongn14 m_isAskedn15 m_askedHorsen16 m_askedFencen17 m_askedLettern18 m_askedHeightn19 =>
    if v4_33 < rn9 then
      lt1 ((v5_33 + (1 : Int32))) <| fun v5n20 =>
      rc33 v3_33 v4_33 v5n20 m_readn10 m_lengthn11 m_topn12 m_atn13 m_wrongn14 m_isAskedn15 m_askedHorsen16 m_askedFencen17 m_askedLettern18 m_askedHeightn19
    else
      if rn9 = v4_33 then
        bd1 (f_X12_tenthsOf p2 v5_33 m_kind m_feet) <| fun rn22 =>
        bd1 (f_X12_tenthsOf p2 v3_33 m_kind m_feet) <| fun rn23 =>
        if rn22 < rn23 then
          lt1 ((v5_33 + (1 : Int32))) <| fun v5n24 =>
          rc33 v5_33 rn9 v5n24 m_readn10 m_lengthn11 m_topn12 m_atn13 m_wrongn14 m_isAskedn15 m_askedHorsen16 m_askedFencen17 m_askedLettern18 m_askedHeightn19
        else
          lt1 ((v5_33 + (1 : Int32))) <| fun v5n25 =>
          rc33 v3_33 v4_33 v5n25 m_readn10 m_lengthn11 m_topn12 m_atn13 m_wrongn14 m_isAskedn15 m_askedHorsen16 m_askedFencen17 m_askedLettern18 m_askedHeightn19
      else
        lt1 ((v5_33 + (1 : Int32))) <| fun v5n21 =>
        rc33 v5_33 rn9 v5n21 m_readn10 m_lengthn11 m_topn12 m_atn13 m_wrongn14 m_isAskedn15 m_askedHorsen16 m_askedFencen17 m_askedLettern18 m_askedHeightn19
def f_X12_calm (p1 : Int32) (p2 : Int32) (m_fences : Int32) (m_horses : Int32) (m_rowMany : Int32) (m_thrown : Int32) (m_read : Int32) (m_length : Int32) (m_top : Int32) (m_at : Int32) (m_wrong : Int32) (m_ruleSize : Int32) (m_isAsked : Int32) (m_askedHorse : Int32) (m_askedFence : Int32) (m_askedLetter : Int32) (m_askedHeight : Int32) (m_kind : (Nat → Int32)) (m_height : (Nat → Int32)) (m_feet : (Nat → Int32)) (m_stride : (Nat → Int32)) (m_scope : (Nat → Int32)) (m_care : (Nat → Int32)) (m_rule : (Nat → Int32)) (m_row : (Nat → Int64)) : Option (Int32 × Int32 × Int32 × Int32 × Int32 × Int32 × Int32 × Int32 × Int32 × Int32 × Int32 × Int32 × Int32 × (Nat → Int64)) :=
  bd1 (f_X12_isHorse p1 m_horses) <| fun rn1 =>
  if rn1 = 0 then
    some ((-1 : Int32), m_rowMany, (0 : Int32), m_read, m_length, m_top, m_at, m_wrong, m_isAsked, m_askedHorse, m_askedFence, m_askedLetter, m_askedHeight, m_row)
  else
    bd1 (f_X12_isFence p2 m_fences) <| fun rn2 =>
    if rn2 = 0 then
      some ((-1 : Int32), m_rowMany, (0 : Int32), m_read, m_length, m_top, m_at, m_wrong, m_isAsked, m_askedHorse, m_askedFence, m_askedLetter, m_askedHeight, m_row)
    else
      ml13 (s_X12_calm_33 p1 p2 m_ruleSize m_kind m_height m_feet m_stride m_scope m_care m_rule (k_X12_calm_33 p1 p2 m_kind m_feet m_stride m_care m_row)) zN (0 : Int32) (100000000 : Int32) (0 : Int32) m_read m_length m_top m_at m_wrong m_isAsked m_askedHorse m_askedFence m_askedLetter m_askedHeight
def g_X12_common (q_X12_common : Int64 → Int64 → Option Int64) (p0 : Int64) (p2 : Int64) : Option Int64 :=
  if (lg_cmp p2 (0 : Int64)) = 0 then
    some p0
  else
    gd (nzl p2) <|
    bd1 (q_X12_common p2 ((p0 - p0 / p2 * p2))) <| fun rn1 =>
    some rn1
def G_X12_common : Nat → (Int64 → Int64 → Option Int64)
  | 0 => (fun _ _ => none)
  | n + 1 => g_X12_common (G_X12_common n)
def f_X12_common (n : Nat) : (Int64 → Int64 → Option Int64) := (G_X12_common n)
def k_X12_count_115 (v2_115x : Int32) : Option (Int32 × Int32) :=
  some (v2_115x, (0 : Int32))
def s_X12_count_115 (m_money : (Nat → Int32)) (kk115 : Int32 → Option (Int32 × Int32)) (rc115 : Int32 → Int32 → Option (Int32 × Int32)) (v2_115 : Int32) (v5_115 : Int32) : Option (Int32 × Int32) :=
  if (6 : Int32) ≤ v5_115 then
    kk115 v2_115
  else
    gd (ix v5_115 6) <|
    lt1 ((m_money v5_115.toNatClampNeg)) <| fun v6n1 =>
    lt1 ((v2_115 + v6n1)) <| fun v2n2 =>
    lt1 ((v5_115 + (1 : Int32))) <| fun v5n3 =>
    rc115 v2n2 v5n3
def f_X12_count (p1 : Int32) (m_fences : Int32) (m_allowed : Int32) (m_horses : Int32) (m_plans : Int32) (m_typed : Int32) (m_rowMany : Int32) (m_thrown : Int32) (m_undoMany : Int32) (m_now : (Nat → Int32)) (m_money : (Nat → Int32)) : Option (Int32 × Int32) :=
  if p1 = (0 : Int32) then
    some (m_fences, (0 : Int32))
  else
  if p1 = (1 : Int32) then
    some (m_horses, (0 : Int32))
  else
  if p1 = (2 : Int32) then
    some (m_plans, (0 : Int32))
  else
  if p1 = (3 : Int32) then
    gd (ix (48 : Int32) 49) <|
    some ((m_now (48 : Int32).toNatClampNeg), (0 : Int32))
  else
  if p1 = (4 : Int32) then
    some (m_allowed, (0 : Int32))
  else
  if p1 = (5 : Int32) then
    some (m_undoMany, (0 : Int32))
  else
  if p1 = (6 : Int32) then
    some (m_rowMany, (0 : Int32))
  else
  if p1 = (7 : Int32) then
    some (m_typed, (0 : Int32))
  else
  if p1 = (8 : Int32) then
    ml2 (s_X12_count_115 m_money (k_X12_count_115)) zN (0 : Int32) (0 : Int32)
  else
    some ((-1 : Int32), (0 : Int32))
def k_X12_layFences_2 (m_read_2x : Int32) (m_length_2x : Int32) (m_top_2x : Int32) (m_at_2x : Int32) (m_wrong_2x : Int32) (m_isAsked_2x : Int32) (m_askedHorse_2x : Int32) (m_askedFence_2x : Int32) (m_askedLetter_2x : Int32) (m_askedHeight_2x : Int32) (m_spent_2x : (Nat → Int32)) (m_little_2x : (Nat → Int32)) : Option (Int32 × Int32 × Int32 × Int32 × Int32 × Int32 × Int32 × Int32 × Int32 × Int32 × (Nat → Int32) × (Nat → Int32)) :=
  some (m_read_2x, m_length_2x, m_top_2x, m_at_2x, m_wrong_2x, m_isAsked_2x, m_askedHorse_2x, m_askedFence_2x, m_askedLetter_2x, m_askedHeight_2x, m_spent_2x, m_little_2x)
def k_X12_layFences_13 (rc2 : Int32 → Int32 → Int32 → Int32 → Int32 → Int32 → Int32 → Int32 → Int32 → Int32 → Int32 → (Nat → Int32) → (Nat → Int32) → Option (Int32 × Int32 × Int32 × Int32 × Int32 × Int32 × Int32 × Int32 × Int32 × Int32 × (Nat → Int32) × (Nat → Int32))) (v3_2 : Int32) (m_read_13x : Int32) (m_length_13x : Int32) (m_top_13x : Int32) (m_at_13x : Int32) (m_wrong_13x : Int32) (m_isAsked_13x : Int32) (m_askedHorse_13x : Int32) (m_askedFence_13x : Int32) (m_askedLetter_13x : Int32) (m_askedHeight_13x : Int32) (m_spent_13x : (Nat → Int32)) (m_little_13x : (Nat → Int32)) : Option (Int32 × Int32 × Int32 × Int32 × Int32 × Int32 × Int32 × Int32 × Int32 × Int32 × (Nat → Int32) × (Nat → Int32)) :=
  lt1 ((v3_2 + (1 : Int32))) <| fun v3n1 =>
  rc2 v3n1 m_read_13x m_length_13x m_top_13x m_at_13x m_wrong_13x m_isAsked_13x m_askedHorse_13x m_askedFence_13x m_askedLetter_13x m_askedHeight_13x m_spent_13x m_little_13x
def j_X12_layFences_68 (p2 : Int32) (v3_2 : Int32) (rc13 : Int32 → Int32 → Int32 → Int32 → Int32 → Int32 → Int32 → Int32 → Int32 → Int32 → Int32 → (Nat → Int32) → (Nat → Int32) → Option (Int32 × Int32 × Int32 × Int32 × Int32 × Int32 × Int32 × Int32 × Int32 × Int32 × (Nat → Int32) × (Nat → Int32))) (v4_13 : Int32) (m_spent_13 : (Nat → Int32)) (m_little_13 : (Nat → Int32)) (rn2 : Int32) (m_readn4 : Int32) (m_lengthn5 : Int32) (m_topn6 : Int32) (m_atn7 : Int32) (m_wrongn8 : Int32) (m_isAskedn9 : Int32) (m_askedHorsen10 : Int32) (m_askedFencen11 : Int32) (m_askedLettern12 : Int32) (m_askedHeightn13 : Int32) (v6n15 : Int32) (t2_68j : Int32) : Option (Int32 × Int32 × Int32 × Int32 × Int32 × Int32 × Int32 × Int32 × Int32 × Int32 × (Nat → Int32) × (Nat → Int32)) :=
  gd (ix (((8 : Int32) * v3_2) + v4_13) 64) <|
  if p2 = 0 then
    gd (ix (((8 : Int32) * v3_2) + v4_13) 64) <|
    lt1 ((v4_13 + (1 : Int32))) <| fun v4n16 =>
    rc13 v4n16 m_readn4 m_lengthn5 m_topn6 m_atn7 m_wrongn8 m_isAskedn9 m_askedHorsen10 m_askedFencen11 m_askedLettern12 m_askedHeightn13 ((upd m_spent_13 (((8 : Int32) * v3_2) + v4_13).toNatClampNeg t2_68j)) ((upd m_little_13 (((8 : Int32) * v3_2) + v4_13).toNatClampNeg rn2))
  else
    gd (ix (((8 : Int32) * v3_2) + v4_13) 64) <|
    lt1 ((v4_13 + (1 : Int32))) <| fun v4n17 =>
    rc13 v4n17 m_readn4 m_lengthn5 m_topn6 m_atn7 m_wrongn8 m_isAskedn9 m_askedHorsen10 m_askedFencen11 m_askedLettern12 m_askedHeightn13 ((upd m_spent_13 (((8 : Int32) * v3_2) + v4_13).toNatClampNeg t2_68j)) ((upd m_little_13 (((8 : Int32) * v3_2) + v4_13).toNatClampNeg v6n15))
def s_X12_layFences_13 (p1 : Int32) (p2 : Int32) (m_ruleSize : Int32) (m_kind : (Nat → Int32)) (m_height : (Nat → Int32)) (m_feet : (Nat → Int32)) (m_stride : (Nat → Int32)) (m_scope : (Nat → Int32)) (m_care : (Nat → Int32)) (m_rule : (Nat → Int32)) (v3_2 : Int32) (kk13 : Int32 → Int32 → Int32 → Int32 → Int32 → Int32 → Int32 → Int32 → Int32 → Int32 → (Nat → Int32) → (Nat → Int32) → Option (Int32 × Int32 × Int32 × Int32 × Int32 × Int32 × Int32 × Int32 × Int32 × Int32 × (Nat → Int32) × (Nat → Int32))) (rc13 : Int32 → Int32 → Int32 → Int32 → Int32 → Int32 → Int32 → Int32 → Int32 → Int32 → Int32 → (Nat → Int32) → (Nat → Int32) → Option (Int32 × Int32 × Int32 × Int32 × Int32 × Int32 × Int32 × Int32 × Int32 × Int32 × (Nat → Int32) × (Nat → Int32))) (v4_13 : Int32) (m_read_13 : Int32) (m_length_13 : Int32) (m_top_13 : Int32) (m_at_13 : Int32) (m_wrong_13 : Int32) (m_isAsked_13 : Int32) (m_askedHorse_13 : Int32) (m_askedFence_13 : Int32) (m_askedLetter_13 : Int32) (m_askedHeight_13 : Int32) (m_spent_13 : (Nat → Int32)) (m_little_13 : (Nat → Int32)) : Option (Int32 × Int32 × Int32 × Int32 × Int32 × Int32 × Int32 × Int32 × Int32 × Int32 × (Nat → Int32) × (Nat → Int32)) :=
  if (8 : Int32) ≤ v4_13 then
    kk13 m_read_13 m_length_13 m_top_13 m_at_13 m_wrong_13 m_isAsked_13 m_askedHorse_13 m_askedFence_13 m_askedLetter_13 m_askedHeight_13 m_spent_13 m_little_13
  else
    bd1 (f_X12_tenthsOf v3_2 v4_13 m_kind m_feet) <| fun rn2 =>
    bd11 (f_X12_oddsOf_ p1 v3_2 v4_13 m_read_13 m_length_13 m_top_13 m_at_13 m_wrong_13 m_ruleSize m_isAsked_13 m_askedHorse_13 m_askedFence_13 m_askedLetter_13 m_askedHeight_13 m_kind m_height m_feet m_stride m_scope m_care m_rule) <| fun rn3 m_readn4 m_lengthn5 m_topn6 m_atn7 m_wrongn8 m_isAskedn9 m_askedHorsen10 m_askedFencen11 m_askedLettern12 m_askedHeightn13 =>
    bd1 (f_X12_refusalOf p1 v3_2 m_kind m_feet m_stride m_care) <| fun rn14 =>
    lt1 ((rn3 + rn14)) <| fun v6n15 =>
    if p2 = 0 then
      j_X12_layFences_68 p2 v3_2 rc13 v4_13 m_spent_13 m_little_13 rn2 m_readn4 m_lengthn5 m_topn6 m_atn7 m_wrongn8 m_isAskedn9 m_askedHorsen10 m_askedFencen11 m_askedLettern12 m_askedHeightn13 v6n15 v6n15
    else
      j_X12_layFences_68 p2 v3_2 rc13 v4_13 m_spent_13 m_little_13 rn2 m_readn4 m_lengthn5 m_topn6 m_atn7 m_wrongn8 m_isAskedn9 m_askedHorsen10 m_askedFencen11 m_askedLettern12 m_askedHeightn13 v6n15 rn2
def s_X12_layFences_2 (p1 : Int32) (p2 : Int32) (m_fences : Int32) (m_ruleSize : Int32) (m_kind : (Nat → Int32)) (m_height : (Nat → Int32)) (m_feet : (Nat → Int32)) (m_stride : (Nat → Int32)) (m_scope : (Nat → Int32)) (m_care : (Nat → Int32)) (m_rule : (Nat → Int32)) (kk2 : Int32 → Int32 → Int32 → Int32 → Int32 → Int32 → Int32 → Int32 → Int32 → Int32 → (Nat → Int32) → (Nat → Int32) → Option (Int32 × Int32 × Int32 × Int32 × Int32 × Int32 × Int32 × Int32 × Int32 × Int32 × (Nat → Int32) × (Nat → Int32))) (rc2 : Int32 → Int32 → Int32 → Int32 → Int32 → Int32 → Int32 → Int32 → Int32 → Int32 → Int32 → (Nat → Int32) → (Nat → Int32) → Option (Int32 × Int32 × Int32 × Int32 × Int32 × Int32 × Int32 × Int32 × Int32 × Int32 × (Nat → Int32) × (Nat → Int32))) (v3_2 : Int32) (m_read_2 : Int32) (m_length_2 : Int32) (m_top_2 : Int32) (m_at_2 : Int32) (m_wrong_2 : Int32) (m_isAsked_2 : Int32) (m_askedHorse_2 : Int32) (m_askedFence_2 : Int32) (m_askedLetter_2 : Int32) (m_askedHeight_2 : Int32) (m_spent_2 : (Nat → Int32)) (m_little_2 : (Nat → Int32)) : Option (Int32 × Int32 × Int32 × Int32 × Int32 × Int32 × Int32 × Int32 × Int32 × Int32 × (Nat → Int32) × (Nat → Int32)) :=
  if m_fences ≤ v3_2 then
    kk2 m_read_2 m_length_2 m_top_2 m_at_2 m_wrong_2 m_isAsked_2 m_askedHorse_2 m_askedFence_2 m_askedLetter_2 m_askedHeight_2 m_spent_2 m_little_2
  else
    ml13 (s_X12_layFences_13 p1 p2 m_ruleSize m_kind m_height m_feet m_stride m_scope m_care m_rule v3_2 (k_X12_layFences_13 rc2 v3_2)) zN (0 : Int32) m_read_2 m_length_2 m_top_2 m_at_2 m_wrong_2 m_isAsked_2 m_askedHorse_2 m_askedFence_2 m_askedLetter_2 m_askedHeight_2 m_spent_2 m_little_2
def f_X12_layFences (p1 : Int32) (p2 : Int32) (m_fences : Int32) (m_read : Int32) (m_length : Int32) (m_top : Int32) (m_at : Int32) (m_wrong : Int32) (m_ruleSize : Int32) (m_isAsked : Int32) (m_askedHorse : Int32) (m_askedFence : Int32) (m_askedLetter : Int32) (m_askedHeight : Int32) (m_kind : (Nat → Int32)) (m_height : (Nat → Int32)) (m_feet : (Nat → Int32)) (m_stride : (Nat → Int32)) (m_scope : (Nat → Int32)) (m_care : (Nat → Int32)) (m_rule : (Nat → Int32)) (m_spent : (Nat → Int32)) (m_little : (Nat → Int32)) : Option (Int32 × Int32 × Int32 × Int32 × Int32 × Int32 × Int32 × Int32 × Int32 × Int32 × (Nat → Int32) × (Nat → Int32)) :=
  ml13 (s_X12_layFences_2 p1 p2 m_fences m_ruleSize m_kind m_height m_feet m_stride m_scope m_care m_rule (k_X12_layFences_2)) zN (0 : Int32) m_read m_length m_top m_at m_wrong m_isAsked m_askedHorse m_askedFence m_askedLetter m_askedHeight m_spent m_little
def f_X12_leftBy (p1 : Int32) (p2 : Int32) (p3 : Int32) (m_left : (Nat → Int32)) (m_spent : (Nat → Int32)) (m_little : (Nat → Int32)) : Option Int32 :=
  lt1 ((((8 : Int32) * p1) + p2)) <| fun v4n1 =>
  gd (ix v4n1 64) <|
  if (m_spent v4n1.toNatClampNeg) ≤ p3 then
    gd (ix v4n1 64) <|
    gd (ix ((((1300 : Int32) * (p1 + (1 : Int32))) + p3) - (m_spent v4n1.toNatClampNeg)) 11700) <|
    lt1 ((m_left ((((1300 : Int32) * (p1 + (1 : Int32))) + p3) - (m_spent v4n1.toNatClampNeg)).toNatClampNeg)) <| fun v5n2 =>
    if v5n2 = (100000000 : Int32) then
      some (100000000 : Int32)
    else
      gd (ix v4n1 64) <|
      gd (ix v4n1 64) <|
      some ((v5n2 + ((10000 : Int32) * (m_little v4n1.toNatClampNeg))) + (m_spent v4n1.toNatClampNeg))
  else
    some (100000000 : Int32)
def k_X12_least_165 (v2n1 : Int32) (m_left_46x : (Nat → Int32)) (m_rowMany_165x : Int32) (m_row_165x : (Nat → Int64)) : Option (Int32 × Int32 × (Nat → Int32) × (Nat → Int64)) :=
  gd (ix v2n1 11700) <|
  some (((m_left_46x v2n1.toNatClampNeg) / (10000 : Int32)), m_rowMany_165x, m_left_46x, m_row_165x)
def k_X12_least_177 (m_spent : (Nat → Int32)) (rc165 : Int32 → Int32 → Int32 → (Nat → Int64) → Option (Int32 × Int32 × (Nat → Int32) × (Nat → Int64))) (v3_165 : Int32) (v4_165 : Int32) (m_rowMany_165 : Int32) (m_row_165 : (Nat → Int64)) (v5_177x : Int32) : Option (Int32 × Int32 × (Nat → Int32) × (Nat → Int64)) :=
  bd2 (f_X12_tell (v5_177x.toInt64) m_rowMany_165 m_row_165) <| fun m_rowManyn5 m_rown6 =>
  gd (ix (((8 : Int32) * v4_165) + v5_177x) 64) <|
  lt1 ((v3_165 - (m_spent (((8 : Int32) * v4_165) + v5_177x).toNatClampNeg))) <| fun v3n7 =>
  lt1 ((v4_165 + (1 : Int32))) <| fun v4n8 =>
  rc165 v3n7 v4n8 m_rowManyn5 m_rown6
def s_X12_least_177 (m_spent : (Nat → Int32)) (m_little : (Nat → Int32)) (m_left_46x : (Nat → Int32)) (v3_165 : Int32) (v4_165 : Int32) (kk177 : Int32 → Option (Int32 × Int32 × (Nat → Int32) × (Nat → Int64))) (rc177 : Int32 → Option (Int32 × Int32 × (Nat → Int32) × (Nat → Int64))) (v5_177 : Int32) : Option (Int32 × Int32 × (Nat → Int32) × (Nat → Int64)) :=
  bd1 (f_X12_leftBy v4_165 v5_177 v3_165 m_left_46x m_spent m_little) <| fun rn9 =>
  gd (ix (((1300 : Int32) * v4_165) + v3_165) 11700) <|
  if rn9 = (m_left_46x (((1300 : Int32) * v4_165) + v3_165).toNatClampNeg) then
    kk177 v5_177
  else
    lt1 ((v5_177 + (1 : Int32))) <| fun v5n10 =>
    rc177 v5n10
def s_X12_least_165 (m_fences : Int32) (m_spent : (Nat → Int32)) (m_little : (Nat → Int32)) (m_left_46x : (Nat → Int32)) (kk165 : Int32 → (Nat → Int64) → Option (Int32 × Int32 × (Nat → Int32) × (Nat → Int64))) (rc165 : Int32 → Int32 → Int32 → (Nat → Int64) → Option (Int32 × Int32 × (Nat → Int32) × (Nat → Int64))) (v3_165 : Int32) (v4_165 : Int32) (m_rowMany_165 : Int32) (m_row_165 : (Nat → Int64)) : Option (Int32 × Int32 × (Nat → Int32) × (Nat → Int64)) :=
  if m_fences ≤ v4_165 then
    kk165 m_rowMany_165 m_row_165
  else
    ml1 (s_X12_least_177 m_spent m_little m_left_46x v3_165 v4_165 (k_X12_least_177 m_spent rc165 v3_165 v4_165 m_rowMany_165 m_row_165)) zN (0 : Int32)
def k_X12_least_46 (m_fences : Int32) (m_rowMany : Int32) (m_spent : (Nat → Int32)) (m_little : (Nat → Int32)) (m_row : (Nat → Int64)) (v2n1 : Int32) (m_left_46x : (Nat → Int32)) : Option (Int32 × Int32 × (Nat → Int32) × (Nat → Int64)) :=
  gd (ix v2n1 11700) <|
  if (m_left_46x v2n1.toNatClampNeg) = (100000000 : Int32) then
    some ((-2 : Int32), m_rowMany, m_left_46x, m_row)
  else
    gd (ix v2n1 11700) <|
    bd2 (f_X12_tell ((((m_left_46x v2n1.toNatClampNeg) - (m_left_46x v2n1.toNatClampNeg) / (10000 : Int32) * (10000 : Int32))).toInt64) (0 : Int32) m_row) <| fun m_rowManyn3 m_rown4 =>
    ml4 (s_X12_least_165 m_fences m_spent m_little m_left_46x (k_X12_least_165 v2n1 m_left_46x)) zN v2n1 (0 : Int32) m_rowManyn3 m_rown4
def k_X12_least_53 (rc46 : Int32 → (Nat → Int32) → Option (Int32 × Int32 × (Nat → Int32) × (Nat → Int64))) (v3_46 : Int32) (m_left_53x : (Nat → Int32)) : Option (Int32 × Int32 × (Nat → Int32) × (Nat → Int64)) :=
  lt1 ((v3_46 + (-1 : Int32))) <| fun v3n11 =>
  rc46 v3n11 m_left_53x
def k_X12_least_69 (v3_46 : Int32) (rc53 : Int32 → (Nat → Int32) → Option (Int32 × Int32 × (Nat → Int32) × (Nat → Int64))) (v4_53 : Int32) (m_left_53 : (Nat → Int32)) (v5_69x : Int32) : Option (Int32 × Int32 × (Nat → Int32) × (Nat → Int64)) :=
  gd (ix (((1300 : Int32) * v3_46) + v4_53) 11700) <|
  lt1 ((v4_53 + (1 : Int32))) <| fun v4n12 =>
  rc53 v4n12 ((upd m_left_53 (((1300 : Int32) * v3_46) + v4_53).toNatClampNeg v5_69x))
def s_X12_least_69 (m_spent : (Nat → Int32)) (m_little : (Nat → Int32)) (v3_46 : Int32) (v4_53 : Int32) (m_left_53 : (Nat → Int32)) (kk69 : Int32 → Option (Int32 × Int32 × (Nat → Int32) × (Nat → Int64))) (rc69 : Int32 → Int32 → Option (Int32 × Int32 × (Nat → Int32) × (Nat → Int64))) (v5_69 : Int32) (v6_69 : Int32) : Option (Int32 × Int32 × (Nat → Int32) × (Nat → Int64)) :=
  if (8 : Int32) ≤ v6_69 then
    kk69 v5_69
  else
    bd1 (f_X12_leftBy v3_46 v6_69 v4_53 m_left_53 m_spent m_little) <| fun rn13 =>
    lt1 ((if rn13 < v5_69 then rn13 else v5_69)) <| fun v5n14 =>
    lt1 ((v6_69 + (1 : Int32))) <| fun v6n15 =>
    rc69 v5n14 v6n15
def s_X12_least_53 (m_spent : (Nat → Int32)) (m_little : (Nat → Int32)) (v3_46 : Int32) (kk53 : (Nat → Int32) → Option (Int32 × Int32 × (Nat → Int32) × (Nat → Int64))) (rc53 : Int32 → (Nat → Int32) → Option (Int32 × Int32 × (Nat → Int32) × (Nat → Int64))) (v4_53 : Int32) (m_left_53 : (Nat → Int32)) : Option (Int32 × Int32 × (Nat → Int32) × (Nat → Int64)) :=
  if (1300 : Int32) ≤ v4_53 then
    kk53 m_left_53
  else
    ml2 (s_X12_least_69 m_spent m_little v3_46 v4_53 m_left_53 (k_X12_least_69 v3_46 rc53 v4_53 m_left_53)) zN (100000000 : Int32) (0 : Int32)
def s_X12_least_46 (m_spent : (Nat → Int32)) (m_little : (Nat → Int32)) (kk46 : (Nat → Int32) → Option (Int32 × Int32 × (Nat → Int32) × (Nat → Int64))) (rc46 : Int32 → (Nat → Int32) → Option (Int32 × Int32 × (Nat → Int32) × (Nat → Int64))) (v3_46 : Int32) (m_left_46 : (Nat → Int32)) : Option (Int32 × Int32 × (Nat → Int32) × (Nat → Int64)) :=
  if v3_46 < 0 then
    kk46 m_left_46
  else
    ml2 (s_X12_least_53 m_spent m_little v3_46 (k_X12_least_53 rc46 v3_46)) zN (0 : Int32) m_left_46
def k_X12_least_10 (m_fences : Int32) (m_rowMany : Int32) (m_spent : (Nat → Int32)) (m_little : (Nat → Int32)) (m_row : (Nat → Int64)) (v2n1 : Int32) (m_left_10x : (Nat → Int32)) : Option (Int32 × Int32 × (Nat → Int32) × (Nat → Int64)) :=
  lt1 ((m_fences - (1 : Int32))) <| fun v3n2 =>
  ml2 (s_X12_least_46 m_spent m_little (k_X12_least_46 m_fences m_rowMany m_spent m_little m_row v2n1)) zN v3n2 m_left_10x
def s_X12_least_10 (m_fences : Int32) (kk10 : (Nat → Int32) → Option (Int32 × Int32 × (Nat → Int32) × (Nat → Int64))) (rc10 : Int32 → (Nat → Int32) → Option (Int32 × Int32 × (Nat → Int32) × (Nat → Int64))) (v3_10 : Int32) (m_left_10 : (Nat → Int32)) : Option (Int32 × Int32 × (Nat → Int32) × (Nat → Int64)) :=
  if (1300 : Int32) ≤ v3_10 then
    kk10 m_left_10
  else
    gd (ix (((1300 : Int32) * m_fences) + v3_10) 11700) <|
    lt1 ((v3_10 + (1 : Int32))) <| fun v3n16 =>
    rc10 v3n16 ((upd m_left_10 (((1300 : Int32) * m_fences) + v3_10).toNatClampNeg (0 : Int32)))
def f_X12_least (p1 : Int32) (m_fences : Int32) (m_rowMany : Int32) (m_left : (Nat → Int32)) (m_spent : (Nat → Int32)) (m_little : (Nat → Int32)) (m_row : (Nat → Int64)) : Option (Int32 × Int32 × (Nat → Int32) × (Nat → Int64)) :=
  lt1 ((if (1299 : Int32) < p1 then (1299 : Int32) else p1)) <| fun v2n1 =>
  ml2 (s_X12_least_10 m_fences (k_X12_least_10 m_fences m_rowMany m_spent m_little m_row v2n1)) zN (0 : Int32) m_left
def f_X12_curve (p1 : Int32) (p2 : Int32) (m_fences : Int32) (m_horses : Int32) (m_rowMany : Int32) (m_thrown : Int32) (m_read : Int32) (m_length : Int32) (m_top : Int32) (m_at : Int32) (m_wrong : Int32) (m_ruleSize : Int32) (m_isAsked : Int32) (m_askedHorse : Int32) (m_askedFence : Int32) (m_askedLetter : Int32) (m_askedHeight : Int32) (m_kind : (Nat → Int32)) (m_height : (Nat → Int32)) (m_feet : (Nat → Int32)) (m_stride : (Nat → Int32)) (m_scope : (Nat → Int32)) (m_care : (Nat → Int32)) (m_rule : (Nat → Int32)) (m_left : (Nat → Int32)) (m_spent : (Nat → Int32)) (m_little : (Nat → Int32)) (m_row : (Nat → Int64)) : Option (Int32 × Int32 × Int32 × Int32 × Int32 × Int32 × Int32 × Int32 × Int32 × Int32 × Int32 × Int32 × Int32 × (Nat → Int32) × (Nat → Int32) × (Nat → Int32) × (Nat → Int64)) :=
  bd1 (f_X12_isHorse p1 m_horses) <| fun rn1 =>
  if rn1 = 0 then
    some ((-1 : Int32), m_rowMany, (0 : Int32), m_read, m_length, m_top, m_at, m_wrong, m_isAsked, m_askedHorse, m_askedFence, m_askedLetter, m_askedHeight, m_left, m_spent, m_little, m_row)
  else
    bd1 (f_X12_isMost p2) <| fun rn2 =>
    if rn2 = 0 then
      some ((-1 : Int32), m_rowMany, (0 : Int32), m_read, m_length, m_top, m_at, m_wrong, m_isAsked, m_askedHorse, m_askedFence, m_askedLetter, m_askedHeight, m_left, m_spent, m_little, m_row)
    else
      bd12 (f_X12_layFences p1 (1 : Int32) m_fences m_read m_length m_top m_at m_wrong m_ruleSize m_isAsked m_askedHorse m_askedFence m_askedLetter m_askedHeight m_kind m_height m_feet m_stride m_scope m_care m_rule m_spent m_little) <| fun m_readn3 m_lengthn4 m_topn5 m_atn6 m_wrongn7 m_isAskedn8 m_askedHorsen9 m_askedFencen10 m_askedLettern11 m_askedHeightn12 m_spentn13 m_littlen14 =>
      bd4 (f_X12_least p2 m_fences m_rowMany m_left m_spentn13 m_littlen14 m_row) <| fun rn15 m_rowManyn16 m_leftn17 m_rown18 =>
      some (rn15, m_rowManyn16, (0 : Int32), m_readn3, m_lengthn4, m_topn5, m_atn6, m_wrongn7, m_isAskedn8, m_askedHorsen9, m_askedFencen10, m_askedLettern11, m_askedHeightn12, m_leftn17, m_spentn13, m_littlen14, m_rown18)
def k_X12_cuts_28 (m_rowMany : Int32) (m_row : (Nat → Int64)) (v3_28x : Int32) (v4_28x : Int32) (v5_28x : Int32) (m_read_28x : Int32) (m_length_28x : Int32) (m_top_28x : Int32) (m_at_28x : Int32) (m_wrong_28x : Int32) (m_isAsked_28x : Int32) (m_askedHorse_28x : Int32) (m_askedFence_28x : Int32) (m_askedLetter_28x : Int32) (m_askedHeight_28x : Int32) : Option (Int32 × Int32 × Int32 × Int32 × Int32 × Int32 × Int32 × Int32 × Int32 × Int32 × Int32 × Int32 × Int32 × (Nat → Int64)) :=
  if 0 ≤ v3_28x then
    bd2 (f_X12_tell (v4_28x.toInt64) (0 : Int32) m_row) <| fun m_rowManyn2 m_rown3 =>
    bd2 (f_X12_tell (v5_28x.toInt64) m_rowManyn2 m_rown3) <| fun m_rowManyn4 m_rown5 =>
    some (v3_28x, m_rowManyn4, (0 : Int32), m_read_28x, m_length_28x, m_top_28x, m_at_28x, m_wrong_28x, m_isAsked_28x, m_askedHorse_28x, m_askedFence_28x, m_askedLetter_28x, m_askedHeight_28x, m_rown5)
  else
    some ((-2 : Int32), m_rowMany, (0 : Int32), m_read_28x, m_length_28x, m_top_28x, m_at_28x, m_wrong_28x, m_isAsked_28x, m_askedHorse_28x, m_askedFence_28x, m_askedLetter_28x, m_askedHeight_28x, m_row)
def s_X12_cuts_28 (p1 : Int32) (p2 : Int32) (m_fences : Int32) (m_ruleSize : Int32) (m_kind : (Nat → Int32)) (m_height : (Nat → Int32)) (m_feet : (Nat → Int32)) (m_stride : (Nat → Int32)) (m_scope : (Nat → Int32)) (m_care : (Nat → Int32)) (m_plan : (Nat → Int32)) (m_rule : (Nat → Int32)) (kk28 : Int32 → Int32 → Int32 → Int32 → Int32 → Int32 → Int32 → Int32 → Int32 → Int32 → Int32 → Int32 → Int32 → Option (Int32 × Int32 × Int32 × Int32 × Int32 × Int32 × Int32 × Int32 × Int32 × Int32 × Int32 × Int32 × Int32 × (Nat → Int64))) (rc28 : Int32 → Int32 → Int32 → Int32 → Int32 → Int32 → Int32 → Int32 → Int32 → Int32 → Int32 → Int32 → Int32 → Int32 → Option (Int32 × Int32 × Int32 × Int32 × Int32 × Int32 × Int32 × Int32 × Int32 × Int32 × Int32 × Int32 × Int32 × (Nat → Int64))) (v3_28 : Int32) (v4_28 : Int32) (v5_28 : Int32) (v6_28 : Int32) (m_read_28 : Int32) (m_length_28 : Int32) (m_top_28 : Int32) (m_at_28 : Int32) (m_wrong_28 : Int32) (m_isAsked_28 : Int32) (m_askedHorse_28 : Int32) (m_askedFence_28 : Int32) (m_askedLetter_28 : Int32) (m_askedHeight_28 : Int32) : Option (Int32 × Int32 × Int32 × Int32 × Int32 × Int32 × Int32 × Int32 × Int32 × Int32 × Int32 × Int32 × Int32 × (Nat → Int64)) :=
  if m_fences ≤ v6_28 then
    kk28 v3_28 v4_28 v5_28 m_read_28 m_length_28 m_top_28 m_at_28 m_wrong_28 m_isAsked_28 m_askedHorse_28 m_askedFence_28 m_askedLetter_28 m_askedHeight_28
  else
    bd1 (f_X12_letterOf p2 v6_28 m_plan) <| fun rn6 =>
    if rn6 < (4 : Int32) then
      bd11 (f_X12_oddsOf_ p1 v6_28 ((rn6 + (4 : Int32))) m_read_28 m_length_28 m_top_28 m_at_28 m_wrong_28 m_ruleSize m_isAsked_28 m_askedHorse_28 m_askedFence_28 m_askedLetter_28 m_askedHeight_28 m_kind m_height m_feet m_stride m_scope m_care m_rule) <| fun rn7 m_readn8 m_lengthn9 m_topn10 m_atn11 m_wrongn12 m_isAskedn13 m_askedHorsen14 m_askedFencen15 m_askedLettern16 m_askedHeightn17 =>
      bd11 (f_X12_oddsOf_ p1 v6_28 rn6 m_readn8 m_lengthn9 m_topn10 m_atn11 m_wrongn12 m_ruleSize m_isAskedn13 m_askedHorsen14 m_askedFencen15 m_askedLettern16 m_askedHeightn17 m_kind m_height m_feet m_stride m_scope m_care m_rule) <| fun rn18 m_readn19 m_lengthn20 m_topn21 m_atn22 m_wrongn23 m_isAskedn24 m_askedHorsen25 m_askedFencen26 m_askedLettern27 m_askedHeightn28 =>
      lt1 ((rn7 - rn18)) <| fun v8n29 =>
      bd1 (f_X12_tenthsOf v6_28 rn6 m_kind m_feet) <| fun rn30 =>
      bd1 (f_X12_tenthsOf v6_28 ((rn6 + (4 : Int32))) m_kind m_feet) <| fun rn31 =>
      lt1 ((rn30 - rn31)) <| fun v9n32 =>
      if v3_28 < 0 then
        lt1 ((v6_28 + (1 : Int32))) <| fun v6n33 =>
        rc28 v6_28 v8n29 v9n32 v6n33 m_readn19 m_lengthn20 m_topn21 m_atn22 m_wrongn23 m_isAskedn24 m_askedHorsen25 m_askedFencen26 m_askedLettern27 m_askedHeightn28
      else
        if v4_28 < v8n29 then
          lt1 ((v6_28 + (1 : Int32))) <| fun v6n34 =>
          rc28 v3_28 v4_28 v5_28 v6n34 m_readn19 m_lengthn20 m_topn21 m_atn22 m_wrongn23 m_isAskedn24 m_askedHorsen25 m_askedFencen26 m_askedLettern27 m_askedHeightn28
        else
          if v8n29 = v4_28 then
            if v5_28 < v9n32 then
              lt1 ((v6_28 + (1 : Int32))) <| fun v6n36 =>
              rc28 v6_28 v8n29 v9n32 v6n36 m_readn19 m_lengthn20 m_topn21 m_atn22 m_wrongn23 m_isAskedn24 m_askedHorsen25 m_askedFencen26 m_askedLettern27 m_askedHeightn28
            else
              lt1 ((v6_28 + (1 : Int32))) <| fun v6n37 =>
              rc28 v3_28 v4_28 v5_28 v6n37 m_readn19 m_lengthn20 m_topn21 m_atn22 m_wrongn23 m_isAskedn24 m_askedHorsen25 m_askedFencen26 m_askedLettern27 m_askedHeightn28
          else
            lt1 ((v6_28 + (1 : Int32))) <| fun v6n35 =>
            rc28 v6_28 v8n29 v9n32 v6n35 m_readn19 m_lengthn20 m_topn21 m_atn22 m_wrongn23 m_isAskedn24 m_askedHorsen25 m_askedFencen26 m_askedLettern27 m_askedHeightn28
    else
      lt1 ((v6_28 + (1 : Int32))) <| fun v6n38 =>
      rc28 v3_28 v4_28 v5_28 v6n38 m_read_28 m_length_28 m_top_28 m_at_28 m_wrong_28 m_isAsked_28 m_askedHorse_28 m_askedFence_28 m_askedLetter_28 m_askedHeight_28
def f_X12_cuts (p1 : Int32) (p2 : Int32) (m_fences : Int32) (m_horses : Int32) (m_plans : Int32) (m_rowMany : Int32) (m_thrown : Int32) (m_read : Int32) (m_length : Int32) (m_top : Int32) (m_at : Int32) (m_wrong : Int32) (m_ruleSize : Int32) (m_isAsked : Int32) (m_askedHorse : Int32) (m_askedFence : Int32) (m_askedLetter : Int32) (m_askedHeight : Int32) (m_kind : (Nat → Int32)) (m_height : (Nat → Int32)) (m_feet : (Nat → Int32)) (m_stride : (Nat → Int32)) (m_scope : (Nat → Int32)) (m_care : (Nat → Int32)) (m_plan : (Nat → Int32)) (m_rule : (Nat → Int32)) (m_row : (Nat → Int64)) : Option (Int32 × Int32 × Int32 × Int32 × Int32 × Int32 × Int32 × Int32 × Int32 × Int32 × Int32 × Int32 × Int32 × (Nat → Int64)) :=
  bd1 (f_X12_areBoth p1 p2 m_horses m_plans) <| fun rn1 =>
  if rn1 = 0 then
    some ((-1 : Int32), m_rowMany, (0 : Int32), m_read, m_length, m_top, m_at, m_wrong, m_isAsked, m_askedHorse, m_askedFence, m_askedLetter, m_askedHeight, m_row)
  else
    ml14 (s_X12_cuts_28 p1 p2 m_fences m_ruleSize m_kind m_height m_feet m_stride m_scope m_care m_plan m_rule (k_X12_cuts_28 m_rowMany m_row)) zN (-2 : Int32) (0 : Int32) (0 : Int32) (0 : Int32) m_read m_length m_top m_at m_wrong m_isAsked m_askedHorse m_askedFence m_askedLetter m_askedHeight
def f_X12_here_t (m_length : Int32) (m_top : Int32) (m_at : Int32) (m_text : (Nat → Int32)) : Option Int32 :=
  if m_length ≤ m_at then
    some (-1 : Int32)
  else
    if m_top ≤ m_at then
      some (-1 : Int32)
    else
      gd (ix m_at 80) <|
      some ((m_text m_at.toNatClampNeg) &&& (255 : Int32))
def f_X12_digit_t (p1 : Int32) (p2 : Int32) (m_length : Int32) (m_top : Int32) (m_at : Int32) (m_wrong : Int32) (m_text : (Nat → Int32)) : Option (Int32 × Int32 × Int32) :=
  bd1 (f_X12_fine m_wrong) <| fun rn1 =>
  if rn1 = 0 then
    some ((0 : Int32), m_at, m_wrong)
  else
    bd1 (f_X12_here_t m_length m_top m_at m_text) <| fun rn2 =>
    bd1 (f_X12_in rn2 (((48 : Int32) + p1)) (((48 : Int32) + p2))) <| fun rn3 =>
    if rn3 = 0 then
      bd1 (f_X12_fault m_at m_wrong) <| fun m_wrongn4 =>
      some ((0 : Int32), m_at, m_wrongn4)
    else
      gd (ix ((m_at + (1 : Int32)) - (1 : Int32)) 80) <|
      some (((m_text ((m_at + (1 : Int32)) - (1 : Int32)).toNatClampNeg) - (48 : Int32)), (m_at + (1 : Int32)), m_wrong)
def f_X12_end (p1 : Int32) (m_typed : Int32) (m_thrown : Int32) : Option (Int32 × Int32 × Int32) :=
  bd1 (f_X12_in p1 (0 : Int32) m_typed) <| fun rn1 =>
  if rn1 = 0 then
    some ((0 : Int32), m_typed, (0 : Int32))
  else
    some ((1 : Int32), p1, (0 : Int32))
def k_X12_fair_28 (m_row : (Nat → Int64)) (v2_28x : Int32) (v3_28x : Int32) (v4_28x : Int32) : Option (Int32 × Int32 × Int32 × (Nat → Int64)) :=
  bd2 (f_X12_tell (v3_28x.toInt64) (0 : Int32) m_row) <| fun m_rowManyn2 m_rown3 =>
  bd2 (f_X12_tell (v4_28x.toInt64) m_rowManyn2 m_rown3) <| fun m_rowManyn4 m_rown5 =>
  some (v2_28x, m_rowManyn4, (0 : Int32), m_rown5)
def k_X12_fair_44 (rc28 : Int32 → Int32 → Int32 → Int32 → Option (Int32 × Int32 × Int32 × (Nat → Int64))) (v2_28 : Int32) (v3_28 : Int32) (v4_28 : Int32) (v5_28 : Int32) (v6_44x : Int32) (v7_44x : Int32) : Option (Int32 × Int32 × Int32 × (Nat → Int64)) :=
  if v6_44x < v3_28 then
    lt1 ((v5_28 + (1 : Int32))) <| fun v5n6 =>
    rc28 v5_28 v6_44x v7_44x v5n6
  else
    lt1 ((v5_28 + (1 : Int32))) <| fun v5n7 =>
    rc28 v2_28 v3_28 v4_28 v5n7
def s_X12_fair_44 (m_horses : Int32) (m_stride : (Nat → Int32)) (v5_28 : Int32) (kk44 : Int32 → Int32 → Option (Int32 × Int32 × Int32 × (Nat → Int64))) (rc44 : Int32 → Int32 → Int32 → Option (Int32 × Int32 × Int32 × (Nat → Int64))) (v6_44 : Int32) (v7_44 : Int32) (v8_44 : Int32) : Option (Int32 × Int32 × Int32 × (Nat → Int64)) :=
  if m_horses ≤ v8_44 then
    kk44 v6_44 v7_44
  else
    bd1 (f_X12_leanOf v8_44 v5_28 m_stride) <| fun rn8 =>
    lt1 ((v6_44 + rn8)) <| fun v6n9 =>
    bd1 (f_X12_leanOf v8_44 v5_28 m_stride) <| fun rn10 =>
    lt1 ((if v7_44 < rn10 then rn10 else v7_44)) <| fun v7n11 =>
    lt1 ((v8_44 + (1 : Int32))) <| fun v8n12 =>
    rc44 v6n9 v7n11 v8n12
def s_X12_fair_28 (m_horses : Int32) (m_stride : (Nat → Int32)) (kk28 : Int32 → Int32 → Int32 → Option (Int32 × Int32 × Int32 × (Nat → Int64))) (rc28 : Int32 → Int32 → Int32 → Int32 → Option (Int32 × Int32 × Int32 × (Nat → Int64))) (v2_28 : Int32) (v3_28 : Int32) (v4_28 : Int32) (v5_28 : Int32) : Option (Int32 × Int32 × Int32 × (Nat → Int64)) :=
  if (99 : Int32) < v5_28 then
    kk28 v2_28 v3_28 v4_28
  else
    ml3 (s_X12_fair_44 m_horses m_stride v5_28 (k_X12_fair_44 rc28 v2_28 v3_28 v4_28 v5_28)) zN (0 : Int32) (0 : Int32) (0 : Int32)
def f_X12_fair (p1 : Int32) (m_fences : Int32) (m_horses : Int32) (m_rowMany : Int32) (m_thrown : Int32) (m_stride : (Nat → Int32)) (m_row : (Nat → Int64)) : Option (Int32 × Int32 × Int32 × (Nat → Int64)) :=
  bd1 (f_X12_isFence p1 m_fences) <| fun rn1 =>
  if rn1 = 0 then
    some ((-1 : Int32), m_rowMany, (0 : Int32), m_row)
  else
    ml4 (s_X12_fair_28 m_horses m_stride (k_X12_fair_28 m_row)) zN (0 : Int32) (100000000 : Int32) (0 : Int32) (10 : Int32)
def k_X12_falls_25 (m_rowMany : Int32) (m_row : (Nat → Int64)) (v3_25x : Int32) (v4_25x : Int32) (m_read_25x : Int32) (m_length_25x : Int32) (m_top_25x : Int32) (m_at_25x : Int32) (m_wrong_25x : Int32) (m_isAsked_25x : Int32) (m_askedHorse_25x : Int32) (m_askedFence_25x : Int32) (m_askedLetter_25x : Int32) (m_askedHeight_25x : Int32) : Option (Int32 × Int32 × Int32 × Int32 × Int32 × Int32 × Int32 × Int32 × Int32 × Int32 × Int32 × Int32 × Int32 × (Nat → Int64)) :=
  if 0 ≤ v3_25x then
    bd2 (f_X12_tell (v4_25x.toInt64) (0 : Int32) m_row) <| fun m_rowManyn2 m_rown3 =>
    some (v3_25x, m_rowManyn2, (0 : Int32), m_read_25x, m_length_25x, m_top_25x, m_at_25x, m_wrong_25x, m_isAsked_25x, m_askedHorse_25x, m_askedFence_25x, m_askedLetter_25x, m_askedHeight_25x, m_rown3)
  else
    some ((-2 : Int32), m_rowMany, (0 : Int32), m_read_25x, m_length_25x, m_top_25x, m_at_25x, m_wrong_25x, m_isAsked_25x, m_askedHorse_25x, m_askedFence_25x, m_askedLetter_25x, m_askedHeight_25x, m_row)
def s_X12_falls_25 (p1 : Int32) (p2 : Int32) (m_fences : Int32) (m_ruleSize : Int32) (m_kind : (Nat → Int32)) (m_height : (Nat → Int32)) (m_feet : (Nat → Int32)) (m_stride : (Nat → Int32)) (m_scope : (Nat → Int32)) (m_care : (Nat → Int32)) (m_plan : (Nat → Int32)) (m_rule : (Nat → Int32)) (kk25 : Int32 → Int32 → Int32 → Int32 → Int32 → Int32 → Int32 → Int32 → Int32 → Int32 → Int32 → Int32 → Option (Int32 × Int32 × Int32 × Int32 × Int32 × Int32 × Int32 × Int32 × Int32 × Int32 × Int32 × Int32 × Int32 × (Nat → Int64))) (rc25 : Int32 → Int32 → Int32 → Int32 → Int32 → Int32 → Int32 → Int32 → Int32 → Int32 → Int32 → Int32 → Int32 → Option (Int32 × Int32 × Int32 × Int32 × Int32 × Int32 × Int32 × Int32 × Int32 × Int32 × Int32 × Int32 × Int32 × (Nat → Int64))) (v3_25 : Int32) (v4_25 : Int32) (v5_25 : Int32) (m_read_25 : Int32) (m_length_25 : Int32) (m_top_25 : Int32) (m_at_25 : Int32) (m_wrong_25 : Int32) (m_isAsked_25 : Int32) (m_askedHorse_25 : Int32) (m_askedFence_25 : Int32) (m_askedLetter_25 : Int32) (m_askedHeight_25 : Int32) : Option (Int32 × Int32 × Int32 × Int32 × Int32 × Int32 × Int32 × Int32 × Int32 × Int32 × Int32 × Int32 × Int32 × (Nat → Int64)) :=
  if m_fences ≤ v5_25 then
    kk25 v3_25 v4_25 m_read_25 m_length_25 m_top_25 m_at_25 m_wrong_25 m_isAsked_25 m_askedHorse_25 m_askedFence_25 m_askedLetter_25 m_askedHeight_25
  else
    bd1 (f_X12_letterOf p2 v5_25 m_plan) <| fun rn4 =>
    bd11 (f_X12_oddsOf_ p1 v5_25 rn4 m_read_25 m_length_25 m_top_25 m_at_25 m_wrong_25 m_ruleSize m_isAsked_25 m_askedHorse_25 m_askedFence_25 m_askedLetter_25 m_askedHeight_25 m_kind m_height m_feet m_stride m_scope m_care m_rule) <| fun rn5 m_readn6 m_lengthn7 m_topn8 m_atn9 m_wrongn10 m_isAskedn11 m_askedHorsen12 m_askedFencen13 m_askedLettern14 m_askedHeightn15 =>
    if v4_25 < rn5 then
      lt1 ((v5_25 + (1 : Int32))) <| fun v5n16 =>
      rc25 v5_25 rn5 v5n16 m_readn6 m_lengthn7 m_topn8 m_atn9 m_wrongn10 m_isAskedn11 m_askedHorsen12 m_askedFencen13 m_askedLettern14 m_askedHeightn15
    else
      lt1 ((v5_25 + (1 : Int32))) <| fun v5n17 =>
      rc25 v3_25 v4_25 v5n17 m_readn6 m_lengthn7 m_topn8 m_atn9 m_wrongn10 m_isAskedn11 m_askedHorsen12 m_askedFencen13 m_askedLettern14 m_askedHeightn15
def f_X12_falls (p1 : Int32) (p2 : Int32) (m_fences : Int32) (m_horses : Int32) (m_plans : Int32) (m_rowMany : Int32) (m_thrown : Int32) (m_read : Int32) (m_length : Int32) (m_top : Int32) (m_at : Int32) (m_wrong : Int32) (m_ruleSize : Int32) (m_isAsked : Int32) (m_askedHorse : Int32) (m_askedFence : Int32) (m_askedLetter : Int32) (m_askedHeight : Int32) (m_kind : (Nat → Int32)) (m_height : (Nat → Int32)) (m_feet : (Nat → Int32)) (m_stride : (Nat → Int32)) (m_scope : (Nat → Int32)) (m_care : (Nat → Int32)) (m_plan : (Nat → Int32)) (m_rule : (Nat → Int32)) (m_row : (Nat → Int64)) : Option (Int32 × Int32 × Int32 × Int32 × Int32 × Int32 × Int32 × Int32 × Int32 × Int32 × Int32 × Int32 × Int32 × (Nat → Int64)) :=
  bd1 (f_X12_areBoth p1 p2 m_horses m_plans) <| fun rn1 =>
  if rn1 = 0 then
    some ((-1 : Int32), m_rowMany, (0 : Int32), m_read, m_length, m_top, m_at, m_wrong, m_isAsked, m_askedHorse, m_askedFence, m_askedLetter, m_askedHeight, m_row)
  else
    ml13 (s_X12_falls_25 p1 p2 m_fences m_ruleSize m_kind m_height m_feet m_stride m_scope m_care m_plan m_rule (k_X12_falls_25 m_rowMany m_row)) zN (-2 : Int32) (-1 : Int32) (0 : Int32) m_read m_length m_top m_at m_wrong m_isAsked m_askedHorse m_askedFence m_askedLetter m_askedHeight
def k_X12_fearOf_5 (v3_5x : Int32) (m_read_5x : Int32) (m_length_5x : Int32) (m_top_5x : Int32) (m_at_5x : Int32) (m_wrong_5x : Int32) (m_isAsked_5x : Int32) (m_askedHorse_5x : Int32) (m_askedFence_5x : Int32) (m_askedLetter_5x : Int32) (m_askedHeight_5x : Int32) : Option (Int32 × Int32 × Int32 × Int32 × Int32 × Int32 × Int32 × Int32 × Int32 × Int32 × Int32) :=
  some (v3_5x, m_read_5x, m_length_5x, m_top_5x, m_at_5x, m_wrong_5x, m_isAsked_5x, m_askedHorse_5x, m_askedFence_5x, m_askedLetter_5x, m_askedHeight_5x)
def s_X12_fearOf_5 (p1 : Int32) (p2 : Int32) (m_fences : Int32) (m_ruleSize : Int32) (m_kind : (Nat → Int32)) (m_height : (Nat → Int32)) (m_feet : (Nat → Int32)) (m_stride : (Nat → Int32)) (m_scope : (Nat → Int32)) (m_care : (Nat → Int32)) (m_plan : (Nat → Int32)) (m_rule : (Nat → Int32)) (kk5 : Int32 → Int32 → Int32 → Int32 → Int32 → Int32 → Int32 → Int32 → Int32 → Int32 → Int32 → Option (Int32 × Int32 × Int32 × Int32 × Int32 × Int32 × Int32 × Int32 × Int32 × Int32 × Int32)) (rc5 : Int32 → Int32 → Int32 → Int32 → Int32 → Int32 → Int32 → Int32 → Int32 → Int32 → Int32 → Int32 → Option (Int32 × Int32 × Int32 × Int32 × Int32 × Int32 × Int32 × Int32 × Int32 × Int32 × Int32)) (v3_5 : Int32) (v4_5 : Int32) (m_read_5 : Int32) (m_length_5 : Int32) (m_top_5 : Int32) (m_at_5 : Int32) (m_wrong_5 : Int32) (m_isAsked_5 : Int32) (m_askedHorse_5 : Int32) (m_askedFence_5 : Int32) (m_askedLetter_5 : Int32) (m_askedHeight_5 : Int32) : Option (Int32 × Int32 × Int32 × Int32 × Int32 × Int32 × Int32 × Int32 × Int32 × Int32 × Int32) :=
  if m_fences ≤ v4_5 then
    kk5 v3_5 m_read_5 m_length_5 m_top_5 m_at_5 m_wrong_5 m_isAsked_5 m_askedHorse_5 m_askedFence_5 m_askedLetter_5 m_askedHeight_5
  else
    bd1 (f_X12_letterOf p2 v4_5 m_plan) <| fun rn1 =>
    bd11 (f_X12_oddsOf_ p1 v4_5 rn1 m_read_5 m_length_5 m_top_5 m_at_5 m_wrong_5 m_ruleSize m_isAsked_5 m_askedHorse_5 m_askedFence_5 m_askedLetter_5 m_askedHeight_5 m_kind m_height m_feet m_stride m_scope m_care m_rule) <| fun rn2 m_readn3 m_lengthn4 m_topn5 m_atn6 m_wrongn7 m_isAskedn8 m_askedHorsen9 m_askedFencen10 m_askedLettern11 m_askedHeightn12 =>
    bd1 (f_X12_refusalOf p1 v4_5 m_kind m_feet m_stride m_care) <| fun rn13 =>
    lt1 ((v3_5 + (rn2 + rn13))) <| fun v3n14 =>
    lt1 ((v4_5 + (1 : Int32))) <| fun v4n15 =>
    rc5 v3n14 v4n15 m_readn3 m_lengthn4 m_topn5 m_atn6 m_wrongn7 m_isAskedn8 m_askedHorsen9 m_askedFencen10 m_askedLettern11 m_askedHeightn12
def f_X12_fearOf (p1 : Int32) (p2 : Int32) (m_fences : Int32) (m_read : Int32) (m_length : Int32) (m_top : Int32) (m_at : Int32) (m_wrong : Int32) (m_ruleSize : Int32) (m_isAsked : Int32) (m_askedHorse : Int32) (m_askedFence : Int32) (m_askedLetter : Int32) (m_askedHeight : Int32) (m_kind : (Nat → Int32)) (m_height : (Nat → Int32)) (m_feet : (Nat → Int32)) (m_stride : (Nat → Int32)) (m_scope : (Nat → Int32)) (m_care : (Nat → Int32)) (m_plan : (Nat → Int32)) (m_rule : (Nat → Int32)) : Option (Int32 × Int32 × Int32 × Int32 × Int32 × Int32 × Int32 × Int32 × Int32 × Int32 × Int32) :=
  ml12 (s_X12_fearOf_5 p1 p2 m_fences m_ruleSize m_kind m_height m_feet m_stride m_scope m_care m_plan m_rule (k_X12_fearOf_5)) zN (0 : Int32) (0 : Int32) m_read m_length m_top m_at m_wrong m_isAsked m_askedHorse m_askedFence m_askedLetter m_askedHeight
def f_X12_fear (p1 : Int32) (p2 : Int32) (m_fences : Int32) (m_horses : Int32) (m_plans : Int32) (m_rowMany : Int32) (m_thrown : Int32) (m_read : Int32) (m_length : Int32) (m_top : Int32) (m_at : Int32) (m_wrong : Int32) (m_ruleSize : Int32) (m_isAsked : Int32) (m_askedHorse : Int32) (m_askedFence : Int32) (m_askedLetter : Int32) (m_askedHeight : Int32) (m_kind : (Nat → Int32)) (m_height : (Nat → Int32)) (m_feet : (Nat → Int32)) (m_stride : (Nat → Int32)) (m_scope : (Nat → Int32)) (m_care : (Nat → Int32)) (m_plan : (Nat → Int32)) (m_rule : (Nat → Int32)) (m_row : (Nat → Int64)) : Option (Int32 × Int32 × Int32 × Int32 × Int32 × Int32 × Int32 × Int32 × Int32 × Int32 × Int32 × Int32 × Int32 × (Nat → Int64)) :=
  bd1 (f_X12_areBoth p1 p2 m_horses m_plans) <| fun rn1 =>
  if rn1 = 0 then
    some ((-1 : Int32), m_rowMany, (0 : Int32), m_read, m_length, m_top, m_at, m_wrong, m_isAsked, m_askedHorse, m_askedFence, m_askedLetter, m_askedHeight, m_row)
  else
    bd1 (f_X12_tenthsOfPlan p2 m_fences m_kind m_feet m_plan) <| fun rn2 =>
    bd2 (f_X12_tell (rn2.toInt64) (0 : Int32) m_row) <| fun m_rowManyn3 m_rown4 =>
    bd11 (f_X12_clearOf p1 p2 m_fences m_read m_length m_top m_at m_wrong m_ruleSize m_isAsked m_askedHorse m_askedFence m_askedLetter m_askedHeight m_kind m_height m_feet m_stride m_scope m_care m_plan m_rule) <| fun rn5 m_readn6 m_lengthn7 m_topn8 m_atn9 m_wrongn10 m_isAskedn11 m_askedHorsen12 m_askedFencen13 m_askedLettern14 m_askedHeightn15 =>
    bd2 (f_X12_tell (rn5.toInt64) m_rowManyn3 m_rown4) <| fun m_rowManyn16 m_rown17 =>
    bd11 (f_X12_fearOf p1 p2 m_fences m_readn6 m_lengthn7 m_topn8 m_atn9 m_wrongn10 m_ruleSize m_isAskedn11 m_askedHorsen12 m_askedFencen13 m_askedLettern14 m_askedHeightn15 m_kind m_height m_feet m_stride m_scope m_care m_plan m_rule) <| fun rn18 m_readn19 m_lengthn20 m_topn21 m_atn22 m_wrongn23 m_isAskedn24 m_askedHorsen25 m_askedFencen26 m_askedLettern27 m_askedHeightn28 =>
    some (rn18, m_rowManyn16, (0 : Int32), m_readn19, m_lengthn20, m_topn21, m_atn22, m_wrongn23, m_isAskedn24, m_askedHorsen25, m_askedFencen26, m_askedLettern27, m_askedHeightn28, m_rown17)
def f_X12_lost (m_thrown : Int32) : Option (Int32 × Int32) :=
  some ((0 : Int32), (1 : Int32))
def f_X12_fence (p1 : Int32) (p2 : Int32) (m_fences : Int32) (m_thrown : Int32) (m_kind : (Nat → Int32)) (m_height : (Nat → Int32)) (m_feet : (Nat → Int32)) : Option (Int32 × Int32) :=
  bd1 (f_X12_isFence p1 m_fences) <| fun rn1 =>
  if rn1 = 0 then
    bd2 (f_X12_lost (0 : Int32)) <| fun rn2 m_thrownn3 =>
    some (rn2, m_thrownn3)
  else
    bd1 (f_X12_in p2 (0 : Int32) (2 : Int32)) <| fun rn4 =>
    if rn4 = 0 then
      bd2 (f_X12_lost (0 : Int32)) <| fun rn5 m_thrownn6 =>
      some (rn5, m_thrownn6)
    else
      if p2 = 0 then
        gd (ix p1 8) <|
        some ((m_kind p1.toNatClampNeg), (0 : Int32))
      else
        if p2 = (1 : Int32) then
          gd (ix p1 8) <|
          some ((m_height p1.toNatClampNeg), (0 : Int32))
        else
          gd (ix p1 8) <|
          some ((m_feet p1.toNatClampNeg), (0 : Int32))
def f_X12_layThought (p1 : Int32) (p2 : Int32) (p3 : Int32) (m_fences : Int32) (m_allowed : Int32) (m_kind : (Nat → Int32)) (m_feet : (Nat → Int32)) (m_plan : (Nat → Int32)) (m_extra : (Nat → Int32)) : Option (Nat → Int32) :=
  bd1 (f_X12_tenthsOfPlan p2 m_fences m_kind m_feet m_plan) <| fun rn1 =>
  bd1 (f_X12_timeFaults rn1 (40 : Int32) (1 : Int32) m_allowed) <| fun rn2 =>
  if p3 = 0 then
    gd (ix ((4 : Int32) * p1) 12) <|
    gd (ix (((4 : Int32) * p1) + (1 : Int32)) 12) <|
    some (upd ((upd m_extra ((4 : Int32) * p1).toNatClampNeg (rn2 + (4 : Int32)))) (((4 : Int32) * p1) + (1 : Int32)).toNatClampNeg rn1)
  else
    gd (ix ((4 : Int32) * p1) 12) <|
    gd (ix (((4 : Int32) * p1) + (1 : Int32)) 12) <|
    some (upd ((upd m_extra ((4 : Int32) * p1).toNatClampNeg (rn2 + (0 : Int32)))) (((4 : Int32) * p1) + (1 : Int32)).toNatClampNeg rn1)
def k_X12_placeThought_34 (v4_34x : Int32) : Option Int32 :=
  some v4_34x
def s_X12_placeThought_34 (p1 : Int32) (m_comingMany : Int32) (m_extra : (Nat → Int32)) (v2n1 : Int32) (v3n2 : Int32) (kk34 : Int32 → Option Int32) (rc34 : Int32 → Int32 → Option Int32) (v4_34 : Int32) (v5_34 : Int32) : Option Int32 :=
  if m_comingMany ≤ v5_34 then
    kk34 v4_34
  else
    if v5_34 = p1 then
      lt1 ((v5_34 + (1 : Int32))) <| fun v5n15 =>
      rc34 v4_34 v5n15
    else
      gd (ix ((4 : Int32) * v5_34) 12) <|
      lt1 (((m_extra ((4 : Int32) * v5_34).toNatClampNeg) - v2n1)) <| fun v6n4 =>
      gd (ix (((4 : Int32) * v5_34) + (1 : Int32)) 12) <|
      lt1 (((m_extra (((4 : Int32) * v5_34) + (1 : Int32)).toNatClampNeg) - v3n2)) <| fun v7n5 =>
      if v6n4 < 0 then
        lt1 ((v4_34 + (1 : Int32))) <| fun v4n6 =>
        lt1 ((v5_34 + (1 : Int32))) <| fun v5n7 =>
        rc34 v4n6 v5n7
      else
        if v6n4 = 0 then
          if v7n5 < 0 then
            lt1 ((v4_34 + (1 : Int32))) <| fun v4n9 =>
            lt1 ((v5_34 + (1 : Int32))) <| fun v5n10 =>
            rc34 v4n9 v5n10
          else
            if v7n5 = 0 then
              if p1 ≤ v5_34 then
                lt1 ((v5_34 + (1 : Int32))) <| fun v5n12 =>
                rc34 v4_34 v5n12
              else
                lt1 ((v4_34 + (1 : Int32))) <| fun v4n13 =>
                lt1 ((v5_34 + (1 : Int32))) <| fun v5n14 =>
                rc34 v4n13 v5n14
            else
              lt1 ((v5_34 + (1 : Int32))) <| fun v5n11 =>
              rc34 v4_34 v5n11
        else
          lt1 ((v5_34 + (1 : Int32))) <| fun v5n8 =>
          rc34 v4_34 v5n8
def f_X12_placeThought (p1 : Int32) (m_comingMany : Int32) (m_now : (Nat → Int32)) (m_extra : (Nat → Int32)) : Option Int32 :=
  gd (ix ((4 : Int32) * p1) 12) <|
  lt1 ((m_extra ((4 : Int32) * p1).toNatClampNeg)) <| fun v2n1 =>
  gd (ix (((4 : Int32) * p1) + (1 : Int32)) 12) <|
  lt1 ((m_extra (((4 : Int32) * p1) + (1 : Int32)).toNatClampNeg)) <| fun v3n2 =>
  bd1 (f_X12_placeFor_m_now v2n1 v3n2 m_now) <| fun rn3 =>
  ml2 (s_X12_placeThought_34 p1 m_comingMany m_extra v2n1 v3n2 (k_X12_placeThought_34)) zN rn3 (0 : Int32)
def k_X12_goGame_64 (p1 : Int32) (v4_64x : Int64) (v6_64x : Int64) (v8_64x : Int64) (v10_64x : Int32) (m_read_64x : Int32) (m_length_64x : Int32) (m_top_64x : Int32) (m_at_64x : Int32) (m_wrong_64x : Int32) (m_isAsked_64x : Int32) (m_askedHorse_64x : Int32) (m_askedFence_64x : Int32) (m_askedLetter_64x : Int32) (m_askedHeight_64x : Int32) (m_planOf_64x : (Nat → Int32)) (m_extra_64x : (Nat → Int32)) (m_wins_64x : (Nat → Int64)) : Option (Int32 × Int32 × Int32 × Int32 × Int32 × Int32 × Int32 × Int32 × Int32 × Int32 × (Nat → Int32) × (Nat → Int32) × (Nat → Int64)) :=
  gd (ix ((3 : Int32) * p1) 12) <|
  gd (ix (((3 : Int32) * p1) + (1 : Int32)) 12) <|
  gd (ix (((3 : Int32) * p1) + (2 : Int32)) 12) <|
  gd (ix p1 4) <|
  some (m_read_64x, m_length_64x, m_top_64x, m_at_64x, m_wrong_64x, m_isAsked_64x, m_askedHorse_64x, m_askedFence_64x, m_askedLetter_64x, m_askedHeight_64x, (upd m_planOf_64x p1.toNatClampNeg v10_64x), m_extra_64x, (vp_updL ((vp_updL ((vp_updL m_wins_64x ((3 : Int32) * p1).toNatClampNeg v4_64x)) (((3 : Int32) * p1) + (1 : Int32)).toNatClampNeg v6_64x)) (((3 : Int32) * p1) + (2 : Int32)).toNatClampNeg v8_64x))
def j_X12_goGame_263 (rc64 : Int64 → Int64 → Int64 → Int64 → Int32 → Int32 → Int32 → Int32 → Int32 → Int32 → Int32 → Int32 → Int32 → Int32 → Int32 → Int32 → (Nat → Int32) → (Nat → Int32) → (Nat → Int64) → Option (Int32 × Int32 × Int32 × Int32 × Int32 × Int32 × Int32 × Int32 × Int32 × Int32 × (Nat → Int32) × (Nat → Int32) × (Nat → Int64))) (v2_64 : Int64) (v4_64 : Int64) (v6_64 : Int64) (v8_64 : Int64) (v10_64 : Int32) (v11_64 : Int32) (m_readn30 : Int32) (m_lengthn31 : Int32) (m_topn32 : Int32) (m_atn33 : Int32) (m_wrongn34 : Int32) (m_isAskedn35 : Int32) (m_askedHorsen36 : Int32) (m_askedFencen37 : Int32) (m_askedLettern38 : Int32) (m_askedHeightn39 : Int32) (m_planOfn40 : (Nat → Int32)) (m_extran41 : (Nat → Int32)) (m_winsn42 : (Nat → Int64)) (v13n43 : Int64) (v15n44 : Int64) (v17n45 : Int64) (t0_263j : Int64) : Option (Int32 × Int32 × Int32 × Int32 × Int32 × Int32 × Int32 × Int32 × Int32 × Int32 × (Nat → Int32) × (Nat → Int32) × (Nat → Int64)) :=
  if 0 < (lg_cmp t0_263j v2_64) then
    lt1 ((v11_64 + (1 : Int32))) <| fun v11n46 =>
    rc64 t0_263j v13n43 v15n44 v17n45 v11_64 v11n46 m_readn30 m_lengthn31 m_topn32 m_atn33 m_wrongn34 m_isAskedn35 m_askedHorsen36 m_askedFencen37 m_askedLettern38 m_askedHeightn39 m_planOfn40 m_extran41 m_winsn42
  else
    lt1 ((v11_64 + (1 : Int32))) <| fun v11n47 =>
    rc64 v2_64 v4_64 v6_64 v8_64 v10_64 v11n47 m_readn30 m_lengthn31 m_topn32 m_atn33 m_wrongn34 m_isAskedn35 m_askedHorsen36 m_askedFencen37 m_askedLettern38 m_askedHeightn39 m_planOfn40 m_extran41 m_winsn42
def s_X12_goGame_64 (q_X12_goGame : Int32 → Int32 → Int32 → Int32 → Int32 → Int32 → Int32 → Int32 → Int32 → Int32 → Int32 → Int32 → Int32 → Int32 → Int32 → Int32 → (Nat → Int32) → (Nat → Int32) → (Nat → Int32) → (Nat → Int32) → (Nat → Int32) → (Nat → Int32) → (Nat → Int32) → (Nat → Int32) → (Nat → Int32) → (Nat → Int32) → (Nat → Int32) → (Nat → Int32) → (Nat → Int32) → (Nat → Int64) → Option (Int32 × Int32 × Int32 × Int32 × Int32 × Int32 × Int32 × Int32 × Int32 × Int32 × (Nat → Int32) × (Nat → Int32) × (Nat → Int64))) (p1 : Int32) (m_fences : Int32) (m_allowed : Int32) (m_plans : Int32) (m_ruleSize : Int32) (m_comingMany : Int32) (m_now : (Nat → Int32)) (m_kind : (Nat → Int32)) (m_height : (Nat → Int32)) (m_feet : (Nat → Int32)) (m_stride : (Nat → Int32)) (m_scope : (Nat → Int32)) (m_care : (Nat → Int32)) (m_plan : (Nat → Int32)) (m_money : (Nat → Int32)) (m_rule : (Nat → Int32)) (m_coming : (Nat → Int32)) (kk64 : Int64 → Int64 → Int64 → Int32 → Int32 → Int32 → Int32 → Int32 → Int32 → Int32 → Int32 → Int32 → Int32 → Int32 → (Nat → Int32) → (Nat → Int32) → (Nat → Int64) → Option (Int32 × Int32 × Int32 × Int32 × Int32 × Int32 × Int32 × Int32 × Int32 × Int32 × (Nat → Int32) × (Nat → Int32) × (Nat → Int64))) (rc64 : Int64 → Int64 → Int64 → Int64 → Int32 → Int32 → Int32 → Int32 → Int32 → Int32 → Int32 → Int32 → Int32 → Int32 → Int32 → Int32 → (Nat → Int32) → (Nat → Int32) → (Nat → Int64) → Option (Int32 × Int32 × Int32 × Int32 × Int32 × Int32 × Int32 × Int32 × Int32 × Int32 × (Nat → Int32) × (Nat → Int32) × (Nat → Int64))) (v2_64 : Int64) (v4_64 : Int64) (v6_64 : Int64) (v8_64 : Int64) (v10_64 : Int32) (v11_64 : Int32) (m_read_64 : Int32) (m_length_64 : Int32) (m_top_64 : Int32) (m_at_64 : Int32) (m_wrong_64 : Int32) (m_isAsked_64 : Int32) (m_askedHorse_64 : Int32) (m_askedFence_64 : Int32) (m_askedLetter_64 : Int32) (m_askedHeight_64 : Int32) (m_planOf_64 : (Nat → Int32)) (m_extra_64 : (Nat → Int32)) (m_wins_64 : (Nat → Int64)) : Option (Int32 × Int32 × Int32 × Int32 × Int32 × Int32 × Int32 × Int32 × Int32 × Int32 × (Nat → Int32) × (Nat → Int32) × (Nat → Int64)) :=
  if m_plans ≤ v11_64 then
    kk64 v4_64 v6_64 v8_64 v10_64 m_read_64 m_length_64 m_top_64 m_at_64 m_wrong_64 m_isAsked_64 m_askedHorse_64 m_askedFence_64 m_askedLetter_64 m_askedHeight_64 m_planOf_64 m_extra_64 m_wins_64
  else
    gd (ix p1 3) <|
    bd11 (f_X12_clearOf ((m_coming p1.toNatClampNeg)) v11_64 m_fences m_read_64 m_length_64 m_top_64 m_at_64 m_wrong_64 m_ruleSize m_isAsked_64 m_askedHorse_64 m_askedFence_64 m_askedLetter_64 m_askedHeight_64 m_kind m_height m_feet m_stride m_scope m_care m_plan m_rule) <| fun rn1 m_readn2 m_lengthn3 m_topn4 m_atn5 m_wrongn6 m_isAskedn7 m_askedHorsen8 m_askedFencen9 m_askedLettern10 m_askedHeightn11 =>
    bd1 (f_X12_layThought p1 v11_64 (1 : Int32) m_fences m_allowed m_kind m_feet m_plan m_extra_64) <| fun m_extran12 =>
    bd13 (q_X12_goGame ((p1 + (1 : Int32))) m_fences m_allowed m_plans m_readn2 m_lengthn3 m_topn4 m_atn5 m_wrongn6 m_ruleSize m_isAskedn7 m_askedHorsen8 m_askedFencen9 m_askedLettern10 m_askedHeightn11 m_comingMany m_now m_kind m_height m_feet m_stride m_scope m_care m_plan m_money m_rule m_coming m_planOf_64 m_extran12 m_wins_64) <| fun m_readn13 m_lengthn14 m_topn15 m_atn16 m_wrongn17 m_isAskedn18 m_askedHorsen19 m_askedFencen20 m_askedLettern21 m_askedHeightn22 m_planOfn23 m_extran24 m_winsn25 =>
    gd (ix ((3 : Int32) * (p1 + (1 : Int32))) 12) <|
    lt1 ((rn1.toInt64 * (m_winsn25 ((3 : Int32) * (p1 + (1 : Int32))).toNatClampNeg))) <| fun v13n26 =>
    gd (ix (((3 : Int32) * (p1 + (1 : Int32))) + (1 : Int32)) 12) <|
    lt1 ((rn1.toInt64 * (m_winsn25 (((3 : Int32) * (p1 + (1 : Int32))) + (1 : Int32)).toNatClampNeg))) <| fun v15n27 =>
    gd (ix (((3 : Int32) * (p1 + (1 : Int32))) + (2 : Int32)) 12) <|
    lt1 ((rn1.toInt64 * (m_winsn25 (((3 : Int32) * (p1 + (1 : Int32))) + (2 : Int32)).toNatClampNeg))) <| fun v17n28 =>
    bd1 (f_X12_layThought p1 v11_64 (0 : Int32) m_fences m_allowed m_kind m_feet m_plan m_extran24) <| fun m_extran29 =>
    bd13 (q_X12_goGame ((p1 + (1 : Int32))) m_fences m_allowed m_plans m_readn13 m_lengthn14 m_topn15 m_atn16 m_wrongn17 m_ruleSize m_isAskedn18 m_askedHorsen19 m_askedFencen20 m_askedLettern21 m_askedHeightn22 m_comingMany m_now m_kind m_height m_feet m_stride m_scope m_care m_plan m_money m_rule m_coming m_planOfn23 m_extran29 m_winsn25) <| fun m_readn30 m_lengthn31 m_topn32 m_atn33 m_wrongn34 m_isAskedn35 m_askedHorsen36 m_askedFencen37 m_askedLettern38 m_askedHeightn39 m_planOfn40 m_extran41 m_winsn42 =>
    gd (ix ((3 : Int32) * (p1 + (1 : Int32))) 12) <|
    lt1 ((v13n26 + ((((10000 : Int32) - rn1)).toInt64 * (m_winsn42 ((3 : Int32) * (p1 + (1 : Int32))).toNatClampNeg)))) <| fun v13n43 =>
    gd (ix (((3 : Int32) * (p1 + (1 : Int32))) + (1 : Int32)) 12) <|
    lt1 ((v15n27 + ((((10000 : Int32) - rn1)).toInt64 * (m_winsn42 (((3 : Int32) * (p1 + (1 : Int32))) + (1 : Int32)).toNatClampNeg)))) <| fun v15n44 =>
    gd (ix (((3 : Int32) * (p1 + (1 : Int32))) + (2 : Int32)) 12) <|
    lt1 ((v17n28 + ((((10000 : Int32) - rn1)).toInt64 * (m_winsn42 (((3 : Int32) * (p1 + (1 : Int32))) + (2 : Int32)).toNatClampNeg)))) <| fun v17n45 =>
    if p1 = 0 then
      j_X12_goGame_263 rc64 v2_64 v4_64 v6_64 v8_64 v10_64 v11_64 m_readn30 m_lengthn31 m_topn32 m_atn33 m_wrongn34 m_isAskedn35 m_askedHorsen36 m_askedFencen37 m_askedLettern38 m_askedHeightn39 m_planOfn40 m_extran41 m_winsn42 v13n43 v15n44 v17n45 v13n43
    else
      if p1 = (1 : Int32) then
        j_X12_goGame_263 rc64 v2_64 v4_64 v6_64 v8_64 v10_64 v11_64 m_readn30 m_lengthn31 m_topn32 m_atn33 m_wrongn34 m_isAskedn35 m_askedHorsen36 m_askedFencen37 m_askedLettern38 m_askedHeightn39 m_planOfn40 m_extran41 m_winsn42 v13n43 v15n44 v17n45 v15n44
      else
        j_X12_goGame_263 rc64 v2_64 v4_64 v6_64 v8_64 v10_64 v11_64 m_readn30 m_lengthn31 m_topn32 m_atn33 m_wrongn34 m_isAskedn35 m_askedHorsen36 m_askedFencen37 m_askedLettern38 m_askedHeightn39 m_planOfn40 m_extran41 m_winsn42 v13n43 v15n44 v17n45 v17n45
def k_X12_goGame_10 (m_read : Int32) (m_length : Int32) (m_top : Int32) (m_at : Int32) (m_wrong : Int32) (m_isAsked : Int32) (m_askedHorse : Int32) (m_askedFence : Int32) (m_askedLetter : Int32) (m_askedHeight : Int32) (m_planOf : (Nat → Int32)) (m_extra : (Nat → Int32)) (m_wins_10x : (Nat → Int64)) : Option (Int32 × Int32 × Int32 × Int32 × Int32 × Int32 × Int32 × Int32 × Int32 × Int32 × (Nat → Int32) × (Nat → Int32) × (Nat → Int64)) :=
  some (m_read, m_length, m_top, m_at, m_wrong, m_isAsked, m_askedHorse, m_askedFence, m_askedLetter, m_askedHeight, m_planOf, m_extra, m_wins_10x)
def s_X12_goGame_10 (p1 : Int32) (m_comingMany : Int32) (m_now : (Nat → Int32)) (m_money : (Nat → Int32)) (m_extra : (Nat → Int32)) (kk10 : (Nat → Int64) → Option (Int32 × Int32 × Int32 × Int32 × Int32 × Int32 × Int32 × Int32 × Int32 × Int32 × (Nat → Int32) × (Nat → Int32) × (Nat → Int64))) (rc10 : Int32 → (Nat → Int64) → Option (Int32 × Int32 × Int32 × Int32 × Int32 × Int32 × Int32 × Int32 × Int32 × Int32 × (Nat → Int32) × (Nat → Int32) × (Nat → Int64))) (v2_10 : Int32) (m_wins_10 : (Nat → Int64)) : Option (Int32 × Int32 × Int32 × Int32 × Int32 × Int32 × Int32 × Int32 × Int32 × Int32 × (Nat → Int32) × (Nat → Int32) × (Nat → Int64)) :=
  if m_comingMany ≤ v2_10 then
    kk10 m_wins_10
  else
    bd1 (f_X12_placeThought v2_10 m_comingMany m_now m_extra) <| fun rn48 =>
    bd1 (f_X12_moneyOf rn48 m_money) <| fun rn49 =>
    gd (ix (((3 : Int32) * p1) + v2_10) 12) <|
    lt1 ((v2_10 + (1 : Int32))) <| fun v2n50 =>
    rc10 v2n50 ((vp_updL m_wins_10 (((3 : Int32) * p1) + v2_10).toNatClampNeg rn49.toInt64))
def g_X12_goGame (q_X12_goGame : Int32 → Int32 → Int32 → Int32 → Int32 → Int32 → Int32 → Int32 → Int32 → Int32 → Int32 → Int32 → Int32 → Int32 → Int32 → Int32 → (Nat → Int32) → (Nat → Int32) → (Nat → Int32) → (Nat → Int32) → (Nat → Int32) → (Nat → Int32) → (Nat → Int32) → (Nat → Int32) → (Nat → Int32) → (Nat → Int32) → (Nat → Int32) → (Nat → Int32) → (Nat → Int32) → (Nat → Int64) → Option (Int32 × Int32 × Int32 × Int32 × Int32 × Int32 × Int32 × Int32 × Int32 × Int32 × (Nat → Int32) × (Nat → Int32) × (Nat → Int64))) (p1 : Int32) (m_fences : Int32) (m_allowed : Int32) (m_plans : Int32) (m_read : Int32) (m_length : Int32) (m_top : Int32) (m_at : Int32) (m_wrong : Int32) (m_ruleSize : Int32) (m_isAsked : Int32) (m_askedHorse : Int32) (m_askedFence : Int32) (m_askedLetter : Int32) (m_askedHeight : Int32) (m_comingMany : Int32) (m_now : (Nat → Int32)) (m_kind : (Nat → Int32)) (m_height : (Nat → Int32)) (m_feet : (Nat → Int32)) (m_stride : (Nat → Int32)) (m_scope : (Nat → Int32)) (m_care : (Nat → Int32)) (m_plan : (Nat → Int32)) (m_money : (Nat → Int32)) (m_rule : (Nat → Int32)) (m_coming : (Nat → Int32)) (m_planOf : (Nat → Int32)) (m_extra : (Nat → Int32)) (m_wins : (Nat → Int64)) : Option (Int32 × Int32 × Int32 × Int32 × Int32 × Int32 × Int32 × Int32 × Int32 × Int32 × (Nat → Int32) × (Nat → Int32) × (Nat → Int64)) :=
  if p1 = m_comingMany then
    ml2 (s_X12_goGame_10 p1 m_comingMany m_now m_money m_extra (k_X12_goGame_10 m_read m_length m_top m_at m_wrong m_isAsked m_askedHorse m_askedFence m_askedLetter m_askedHeight m_planOf m_extra)) zN (0 : Int32) m_wins
  else
    ml19 (s_X12_goGame_64 q_X12_goGame p1 m_fences m_allowed m_plans m_ruleSize m_comingMany m_now m_kind m_height m_feet m_stride m_scope m_care m_plan m_money m_rule m_coming (k_X12_goGame_64 p1)) zN (-1 : Int64) (0 : Int64) (0 : Int64) (0 : Int64) (0 : Int32) (0 : Int32) m_read m_length m_top m_at m_wrong m_isAsked m_askedHorse m_askedFence m_askedLetter m_askedHeight m_planOf m_extra m_wins
def G_X12_goGame : Nat → (Int32 → Int32 → Int32 → Int32 → Int32 → Int32 → Int32 → Int32 → Int32 → Int32 → Int32 → Int32 → Int32 → Int32 → Int32 → Int32 → (Nat → Int32) → (Nat → Int32) → (Nat → Int32) → (Nat → Int32) → (Nat → Int32) → (Nat → Int32) → (Nat → Int32) → (Nat → Int32) → (Nat → Int32) → (Nat → Int32) → (Nat → Int32) → (Nat → Int32) → (Nat → Int32) → (Nat → Int64) → Option (Int32 × Int32 × Int32 × Int32 × Int32 × Int32 × Int32 × Int32 × Int32 × Int32 × (Nat → Int32) × (Nat → Int32) × (Nat → Int64)))
  | 0 => (fun _ _ _ _ _ _ _ _ _ _ _ _ _ _ _ _ _ _ _ _ _ _ _ _ _ _ _ _ _ _ => none)
  | n + 1 => g_X12_goGame (G_X12_goGame n)
def f_X12_goGame (n : Nat) : (Int32 → Int32 → Int32 → Int32 → Int32 → Int32 → Int32 → Int32 → Int32 → Int32 → Int32 → Int32 → Int32 → Int32 → Int32 → Int32 → (Nat → Int32) → (Nat → Int32) → (Nat → Int32) → (Nat → Int32) → (Nat → Int32) → (Nat → Int32) → (Nat → Int32) → (Nat → Int32) → (Nat → Int32) → (Nat → Int32) → (Nat → Int32) → (Nat → Int32) → (Nat → Int32) → (Nat → Int64) → Option (Int32 × Int32 × Int32 × Int32 × Int32 × Int32 × Int32 × Int32 × Int32 × Int32 × (Nat → Int32) × (Nat → Int32) × (Nat → Int64))) := (G_X12_goGame n)
def k_X12_power_5 (v3_5x : Int64) : Option Int64 :=
  some v3_5x
def s_X12_power_5 (p0 : Int64) (p2 : Int32) (kk5 : Int64 → Option Int64) (rc5 : Int64 → Int32 → Option Int64) (v3_5 : Int64) (v5_5 : Int32) : Option Int64 :=
  if p2 ≤ v5_5 then
    kk5 v3_5
  else
    lt1 ((v3_5 * p0)) <| fun v3n1 =>
    lt1 ((v5_5 + (1 : Int32))) <| fun v5n2 =>
    rc5 v3n1 v5n2
def f_X12_power (p0 : Int64) (p2 : Int32) : Option Int64 :=
  ml2 (s_X12_power_5 p0 p2 (k_X12_power_5)) zN (1 : Int64) (0 : Int32)
def k_X12_readComing_82 (m_typed : Int32) (m_coming_82x : (Nat → Int32)) : Option (Int32 × Int32 × Int32 × (Nat → Int32)) :=
  some ((0 : Int32), (0 : Int32), m_typed, m_coming_82x)
def s_X12_readComing_82 (m_typed : Int32) (m_text : (Nat → Int32)) (kk82 : (Nat → Int32) → Option (Int32 × Int32 × Int32 × (Nat → Int32))) (rc82 : Int32 → (Nat → Int32) → Option (Int32 × Int32 × Int32 × (Nat → Int32))) (v4_82 : Int32) (m_coming_82 : (Nat → Int32)) : Option (Int32 × Int32 × Int32 × (Nat → Int32)) :=
  if m_typed ≤ v4_82 then
    kk82 m_coming_82
  else
    gd (ix v4_82 80) <|
    gd (ix v4_82 3) <|
    lt1 ((v4_82 + (1 : Int32))) <| fun v4n1 =>
    rc82 v4n1 ((upd m_coming_82 v4_82.toNatClampNeg ((m_text v4_82.toNatClampNeg) - (48 : Int32))))
def k_X12_readComing_23 (p1 : Int32) (m_typed : Int32) (m_comingMany : Int32) (m_text : (Nat → Int32)) (m_coming : (Nat → Int32)) (_u : Unit) : Option (Int32 × Int32 × Int32 × (Nat → Int32)) :=
  if p1 ≤ m_typed then
    ml2 (s_X12_readComing_82 m_typed m_text (k_X12_readComing_82 m_typed)) zN (0 : Int32) m_coming
  else
    some (((-1 : Int32) - m_typed), (0 : Int32), m_comingMany, m_coming)
def s_X12_readComing_23 (p2 : Int32) (m_horses : Int32) (m_typed : Int32) (m_comingMany : Int32) (m_text : (Nat → Int32)) (m_coming : (Nat → Int32)) (kk23 : Unit → Option (Int32 × Int32 × Int32 × (Nat → Int32))) (rc23 : Int32 → Option (Int32 × Int32 × Int32 × (Nat → Int32))) (v4_23 : Int32) : Option (Int32 × Int32 × Int32 × (Nat → Int32)) :=
  if m_typed ≤ v4_23 then
    kk23 ()
  else
    if v4_23 = p2 then
      some (((-1 : Int32) - v4_23), (0 : Int32), m_comingMany, m_coming)
    else
      gd (ix v4_23 80) <|
      bd1 (f_X12_in ((m_text v4_23.toNatClampNeg)) (48 : Int32) ((((48 : Int32) + m_horses) - (1 : Int32)))) <| fun rn2 =>
      if rn2 = 0 then
        some (((-1 : Int32) - v4_23), (0 : Int32), m_comingMany, m_coming)
      else
        lt1 ((v4_23 + (1 : Int32))) <| fun v4n3 =>
        rc23 v4n3
def f_X12_readComing (p1 : Int32) (p2 : Int32) (m_horses : Int32) (m_plans : Int32) (m_typed : Int32) (m_comingMany : Int32) (m_text : (Nat → Int32)) (m_coming : (Nat → Int32)) : Option (Int32 × Int32 × Int32 × (Nat → Int32)) :=
  if m_plans = 0 then
    some ((-100 : Int32), (0 : Int32), m_comingMany, m_coming)
  else
    ml1 (s_X12_readComing_23 p2 m_horses m_typed m_comingMany m_text m_coming (k_X12_readComing_23 p1 m_typed m_comingMany m_text m_coming)) zN (0 : Int32)
def f_X12_tellPart (p1 : Int64) (p3 : Int64) (m_rowMany : Int32) (m_row : (Nat → Int64)) : Option (Int32 × (Nat → Int64)) :=
  bd1 (f_X12_common 200 ((if 0 < p1 then p1 else -p1)) p3) <| fun rn1 =>
  gd (nzl rn1) <|
  bd2 (f_X12_tell ((p1 / rn1)) m_rowMany m_row) <| fun m_rowManyn2 m_rown3 =>
  gd (nzl rn1) <|
  bd2 (f_X12_tell ((p3 / rn1)) m_rowManyn2 m_rown3) <| fun m_rowManyn4 m_rown5 =>
  some (m_rowManyn4, m_rown5)
def k_X12_game_30 (m_typedn2 : Int32) (m_comingManyn3 : Int32) (m_comingn4 : (Nat → Int32)) (m_readn5 : Int32) (m_lengthn6 : Int32) (m_topn7 : Int32) (m_atn8 : Int32) (m_wrongn9 : Int32) (m_isAskedn10 : Int32) (m_askedHorsen11 : Int32) (m_askedFencen12 : Int32) (m_askedLettern13 : Int32) (m_askedHeightn14 : Int32) (m_planOfn15 : (Nat → Int32)) (m_extran16 : (Nat → Int32)) (m_winsn17 : (Nat → Int64)) (m_rowMany_30x : Int32) (m_row_30x : (Nat → Int64)) : Option (Int32 × Int32 × Int32 × Int32 × Int32 × Int32 × Int32 × Int32 × Int32 × Int32 × Int32 × Int32 × Int32 × Int32 × Int32 × (Nat → Int32) × (Nat → Int32) × (Nat → Int32) × (Nat → Int64) × (Nat → Int64)) :=
  gd (ix (0 : Int32) 4) <|
  some ((m_planOfn15 (0 : Int32).toNatClampNeg), m_typedn2, m_rowMany_30x, (0 : Int32), m_readn5, m_lengthn6, m_topn7, m_atn8, m_wrongn9, m_isAskedn10, m_askedHorsen11, m_askedFencen12, m_askedLettern13, m_askedHeightn14, m_comingManyn3, m_comingn4, m_planOfn15, m_extran16, m_row_30x, m_winsn17)
def s_X12_game_30 (m_comingManyn3 : Int32) (m_winsn17 : (Nat → Int64)) (kk30 : Int32 → (Nat → Int64) → Option (Int32 × Int32 × Int32 × Int32 × Int32 × Int32 × Int32 × Int32 × Int32 × Int32 × Int32 × Int32 × Int32 × Int32 × Int32 × (Nat → Int32) × (Nat → Int32) × (Nat → Int32) × (Nat → Int64) × (Nat → Int64))) (rc30 : Int32 → Int32 → (Nat → Int64) → Option (Int32 × Int32 × Int32 × Int32 × Int32 × Int32 × Int32 × Int32 × Int32 × Int32 × Int32 × Int32 × Int32 × Int32 × Int32 × (Nat → Int32) × (Nat → Int32) × (Nat → Int32) × (Nat → Int64) × (Nat → Int64))) (v2_30 : Int32) (m_rowMany_30 : Int32) (m_row_30 : (Nat → Int64)) : Option (Int32 × Int32 × Int32 × Int32 × Int32 × Int32 × Int32 × Int32 × Int32 × Int32 × Int32 × Int32 × Int32 × Int32 × Int32 × (Nat → Int32) × (Nat → Int32) × (Nat → Int32) × (Nat → Int64) × (Nat → Int64)) :=
  if m_comingManyn3 ≤ v2_30 then
    kk30 m_rowMany_30 m_row_30
  else
    gd (ix v2_30 12) <|
    bd1 (f_X12_power (10000 : Int64) m_comingManyn3) <| fun rn18 =>
    bd2 (f_X12_tellPart ((m_winsn17 v2_30.toNatClampNeg)) rn18 m_rowMany_30 m_row_30) <| fun m_rowManyn19 m_rown20 =>
    lt1 ((v2_30 + (1 : Int32))) <| fun v2n21 =>
    rc30 v2n21 m_rowManyn19 m_rown20
def f_X12_game (m_fences : Int32) (m_allowed : Int32) (m_horses : Int32) (m_plans : Int32) (m_typed : Int32) (m_rowMany : Int32) (m_thrown : Int32) (m_read : Int32) (m_length : Int32) (m_top : Int32) (m_at : Int32) (m_wrong : Int32) (m_ruleSize : Int32) (m_isAsked : Int32) (m_askedHorse : Int32) (m_askedFence : Int32) (m_askedLetter : Int32) (m_askedHeight : Int32) (m_comingMany : Int32) (m_now : (Nat → Int32)) (m_kind : (Nat → Int32)) (m_height : (Nat → Int32)) (m_feet : (Nat → Int32)) (m_stride : (Nat → Int32)) (m_scope : (Nat → Int32)) (m_care : (Nat → Int32)) (m_plan : (Nat → Int32)) (m_money : (Nat → Int32)) (m_text : (Nat → Int32)) (m_rule : (Nat → Int32)) (m_coming : (Nat → Int32)) (m_planOf : (Nat → Int32)) (m_extra : (Nat → Int32)) (m_row : (Nat → Int64)) (m_wins : (Nat → Int64)) : Option (Int32 × Int32 × Int32 × Int32 × Int32 × Int32 × Int32 × Int32 × Int32 × Int32 × Int32 × Int32 × Int32 × Int32 × Int32 × (Nat → Int32) × (Nat → Int32) × (Nat → Int32) × (Nat → Int64) × (Nat → Int64)) :=
  bd4 (f_X12_readComing (1 : Int32) (3 : Int32) m_horses m_plans m_typed m_comingMany m_text m_coming) <| fun rn1 m_typedn2 m_comingManyn3 m_comingn4 =>
  if 0 ≤ rn1 then
    bd13 (f_X12_goGame 200 (0 : Int32) m_fences m_allowed m_plans m_read m_length m_top m_at m_wrong m_ruleSize m_isAsked m_askedHorse m_askedFence m_askedLetter m_askedHeight m_comingManyn3 m_now m_kind m_height m_feet m_stride m_scope m_care m_plan m_money m_rule m_comingn4 m_planOf m_extra m_wins) <| fun m_readn5 m_lengthn6 m_topn7 m_atn8 m_wrongn9 m_isAskedn10 m_askedHorsen11 m_askedFencen12 m_askedLettern13 m_askedHeightn14 m_planOfn15 m_extran16 m_winsn17 =>
    ml3 (s_X12_game_30 m_comingManyn3 m_winsn17 (k_X12_game_30 m_typedn2 m_comingManyn3 m_comingn4 m_readn5 m_lengthn6 m_topn7 m_atn8 m_wrongn9 m_isAskedn10 m_askedHorsen11 m_askedFencen12 m_askedLettern13 m_askedHeightn14 m_planOfn15 m_extran16 m_winsn17)) zN (0 : Int32) (0 : Int32) m_row
  else
    some (rn1, m_typedn2, m_rowMany, (0 : Int32), m_read, m_length, m_top, m_at, m_wrong, m_isAsked, m_askedHorse, m_askedFence, m_askedLetter, m_askedHeight, m_comingManyn3, m_comingn4, m_planOf, m_extra, m_row, m_wins)
def f_X12_passes_t (p1 : Int32) (m_length : Int32) (m_top : Int32) (m_at : Int32) (m_wrong : Int32) (m_text : (Nat → Int32)) : Option (Int32 × Int32) :=
  bd1 (f_X12_fine m_wrong) <| fun rn1 =>
  if rn1 = 0 then
    some ((0 : Int32), m_at)
  else
    bd1 (f_X12_here_t m_length m_top m_at m_text) <| fun rn2 =>
    if rn2 = p1 then
      some ((1 : Int32), (m_at + (1 : Int32)))
    else
      some ((0 : Int32), m_at)
def f_X12_need_t (p1 : Int32) (m_length : Int32) (m_top : Int32) (m_at : Int32) (m_wrong : Int32) (m_text : (Nat → Int32)) : Option (Int32 × Int32) :=
  bd2 (f_X12_passes_t p1 m_length m_top m_at m_wrong m_text) <| fun rn1 m_atn2 =>
  if rn1 = 0 then
    bd1 (f_X12_fault m_atn2 m_wrong) <| fun m_wrongn3 =>
    some (m_atn2, m_wrongn3)
  else
    some (m_atn2, m_wrong)
def k_X12_number_t_10 (v2_10x : Int32) (m_at_10x : Int32) (m_wrong_10x : Int32) : Option (Int32 × Int32 × Int32) :=
  some (v2_10x, m_at_10x, m_wrong_10x)
def s_X12_number_t_10 (p1 : Int32) (m_length : Int32) (m_top : Int32) (m_text : (Nat → Int32)) (kk10 : Int32 → Int32 → Int32 → Option (Int32 × Int32 × Int32)) (rc10 : Int32 → Int32 → Int32 → Int32 → Option (Int32 × Int32 × Int32)) (v2_10 : Int32) (v3_10 : Int32) (m_at_10 : Int32) (m_wrong_10 : Int32) : Option (Int32 × Int32 × Int32) :=
  if p1 ≤ v3_10 then
    kk10 v2_10 m_at_10 m_wrong_10
  else
    bd1 (f_X12_fine m_wrong_10) <| fun rn4 =>
    if rn4 = 0 then
      kk10 v2_10 m_at_10 m_wrong_10
    else
      bd1 (f_X12_here_t m_length m_top m_at_10 m_text) <| fun rn5 =>
      bd1 (f_X12_in rn5 (48 : Int32) (57 : Int32)) <| fun rn6 =>
      if rn6 = 0 then
        kk10 v2_10 m_at_10 m_wrong_10
      else
        bd3 (f_X12_digit_t (0 : Int32) (9 : Int32) m_length m_top m_at_10 m_wrong_10 m_text) <| fun rn7 m_atn8 m_wrongn9 =>
        lt1 ((((10 : Int32) * v2_10) + rn7)) <| fun v2n10 =>
        lt1 ((v3_10 + (1 : Int32))) <| fun v3n11 =>
        rc10 v2n10 v3n11 m_atn8 m_wrongn9
def f_X12_number_t (p1 : Int32) (m_length : Int32) (m_top : Int32) (m_at : Int32) (m_wrong : Int32) (m_text : (Nat → Int32)) : Option (Int32 × Int32 × Int32) :=
  bd3 (f_X12_digit_t (0 : Int32) (9 : Int32) m_length m_top m_at m_wrong m_text) <| fun rn1 m_atn2 m_wrongn3 =>
  ml4 (s_X12_number_t_10 p1 m_length m_top m_text (k_X12_number_t_10)) zN rn1 (1 : Int32) m_atn2 m_wrongn3
def g_X12_held_t (q_X12_held_t : Int32 → Int32 → Int32 → Int32 → Int32 → Int32 → Int32 → Int32 → Int32 → Int32 → (Nat → Int32) → (Nat → Int32) → (Nat → Int32) → (Nat → Int32) → (Nat → Int32) → (Nat → Int32) → Option (Int32 × Int32 × Int32)) (q_X12_product_t : Int32 → Int32 → Int32 → Int32 → Int32 → Int32 → Int32 → Int32 → Int32 → Int32 → (Nat → Int32) → (Nat → Int32) → (Nat → Int32) → (Nat → Int32) → (Nat → Int32) → (Nat → Int32) → Option (Int32 × Int32 × Int32)) (q_X12_sum_t : Int32 → Int32 → Int32 → Int32 → Int32 → Int32 → Int32 → Int32 → Int32 → Int32 → (Nat → Int32) → (Nat → Int32) → (Nat → Int32) → (Nat → Int32) → (Nat → Int32) → (Nat → Int32) → Option (Int32 × Int32 × Int32)) (q_X12_thing_t : Int32 → Int32 → Int32 → Int32 → Int32 → Int32 → Int32 → Int32 → Int32 → Int32 → (Nat → Int32) → (Nat → Int32) → (Nat → Int32) → (Nat → Int32) → (Nat → Int32) → (Nat → Int32) → Option (Int32 × Int32 × Int32)) (p1 : Int32) (m_length : Int32) (m_top : Int32) (m_at : Int32) (m_wrong : Int32) (m_isAsked : Int32) (m_askedHorse : Int32) (m_askedFence : Int32) (m_askedLetter : Int32) (m_askedHeight : Int32) (m_kind : (Nat → Int32)) (m_feet : (Nat → Int32)) (m_stride : (Nat → Int32)) (m_scope : (Nat → Int32)) (m_care : (Nat → Int32)) (m_text : (Nat → Int32)) : Option (Int32 × Int32 × Int32) :=
  bd3 (q_X12_sum_t p1 m_length m_top m_at m_wrong m_isAsked m_askedHorse m_askedFence m_askedLetter m_askedHeight m_kind m_feet m_stride m_scope m_care m_text) <| fun rn1 m_atn2 m_wrongn3 =>
  bd2 (f_X12_passes_t (60 : Int32) m_length m_top m_atn2 m_wrongn3 m_text) <| fun rn4 m_atn5 =>
  if rn4 = 0 then
    bd2 (f_X12_passes_t (62 : Int32) m_length m_top m_atn5 m_wrongn3 m_text) <| fun rn6 m_atn7 =>
    if rn6 = 0 then
      bd2 (f_X12_passes_t (61 : Int32) m_length m_top m_atn7 m_wrongn3 m_text) <| fun rn8 m_atn9 =>
      if rn8 = 0 then
        some (rn1, m_atn9, m_wrongn3)
      else
        bd3 (q_X12_sum_t p1 m_length m_top m_atn9 m_wrongn3 m_isAsked m_askedHorse m_askedFence m_askedLetter m_askedHeight m_kind m_feet m_stride m_scope m_care m_text) <| fun rn10 m_atn11 m_wrongn12 =>
        if rn1 = rn10 then
          some ((1 : Int32), m_atn11, m_wrongn12)
        else
          some ((0 : Int32), m_atn11, m_wrongn12)
    else
      bd3 (q_X12_sum_t p1 m_length m_top m_atn7 m_wrongn3 m_isAsked m_askedHorse m_askedFence m_askedLetter m_askedHeight m_kind m_feet m_stride m_scope m_care m_text) <| fun rn13 m_atn14 m_wrongn15 =>
      if rn1 ≤ rn13 then
        some ((0 : Int32), m_atn14, m_wrongn15)
      else
        some ((1 : Int32), m_atn14, m_wrongn15)
  else
    bd3 (q_X12_sum_t p1 m_length m_top m_atn5 m_wrongn3 m_isAsked m_askedHorse m_askedFence m_askedLetter m_askedHeight m_kind m_feet m_stride m_scope m_care m_text) <| fun rn16 m_atn17 m_wrongn18 =>
    if rn16 ≤ rn1 then
      some ((0 : Int32), m_atn17, m_wrongn18)
    else
      some ((1 : Int32), m_atn17, m_wrongn18)
def k_X12_product_t_6 (v2_6x : Int32) (m_at_6x : Int32) (m_wrong_6x : Int32) : Option (Int32 × Int32 × Int32) :=
  some (v2_6x, m_at_6x, m_wrong_6x)
def j_X12_product_t_45 (q_X12_thing_t : Int32 → Int32 → Int32 → Int32 → Int32 → Int32 → Int32 → Int32 → Int32 → Int32 → (Nat → Int32) → (Nat → Int32) → (Nat → Int32) → (Nat → Int32) → (Nat → Int32) → (Nat → Int32) → Option (Int32 × Int32 × Int32)) (p1 : Int32) (m_length : Int32) (m_top : Int32) (m_isAsked : Int32) (m_askedHorse : Int32) (m_askedFence : Int32) (m_askedLetter : Int32) (m_askedHeight : Int32) (m_kind : (Nat → Int32)) (m_feet : (Nat → Int32)) (m_stride : (Nat → Int32)) (m_scope : (Nat → Int32)) (m_care : (Nat → Int32)) (m_text : (Nat → Int32)) (rc6 : Int32 → Int32 → Int32 → Option (Int32 × Int32 × Int32)) (v2_6 : Int32) (m_at_6 : Int32) (m_wrong_6 : Int32) (t0_45j : Int32) : Option (Int32 × Int32 × Int32) :=
  bd3 (q_X12_thing_t p1 m_length m_top ((m_at_6 + (1 : Int32))) m_wrong_6 m_isAsked m_askedHorse m_askedFence m_askedLetter m_askedHeight m_kind m_feet m_stride m_scope m_care m_text) <| fun rn7 m_atn8 m_wrongn9 =>
  if t0_45j = 0 then
    if rn7 = 0 then
      rc6 (0 : Int32) m_atn8 m_wrongn9
    else
      gd (nz rn7) <|
      lt1 ((v2_6 / rn7)) <| fun v2n10 =>
      rc6 v2n10 m_atn8 m_wrongn9
  else
    lt1 ((v2_6 * rn7)) <| fun v2n11 =>
    rc6 v2n11 m_atn8 m_wrongn9
def j_X12_product_t_31 (q_X12_thing_t : Int32 → Int32 → Int32 → Int32 → Int32 → Int32 → Int32 → Int32 → Int32 → Int32 → (Nat → Int32) → (Nat → Int32) → (Nat → Int32) → (Nat → Int32) → (Nat → Int32) → (Nat → Int32) → Option (Int32 × Int32 × Int32)) (p1 : Int32) (m_length : Int32) (m_top : Int32) (m_isAsked : Int32) (m_askedHorse : Int32) (m_askedFence : Int32) (m_askedLetter : Int32) (m_askedHeight : Int32) (m_kind : (Nat → Int32)) (m_feet : (Nat → Int32)) (m_stride : (Nat → Int32)) (m_scope : (Nat → Int32)) (m_care : (Nat → Int32)) (m_text : (Nat → Int32)) (rc6 : Int32 → Int32 → Int32 → Option (Int32 × Int32 × Int32)) (v2_6 : Int32) (m_at_6 : Int32) (m_wrong_6 : Int32) (_u : Unit) : Option (Int32 × Int32 × Int32) :=
  bd1 (f_X12_here_t m_length m_top m_at_6 m_text) <| fun rn6 =>
  if rn6 = (42 : Int32) then
    j_X12_product_t_45 q_X12_thing_t p1 m_length m_top m_isAsked m_askedHorse m_askedFence m_askedLetter m_askedHeight m_kind m_feet m_stride m_scope m_care m_text rc6 v2_6 m_at_6 m_wrong_6 (1 : Int32)
  else
    j_X12_product_t_45 q_X12_thing_t p1 m_length m_top m_isAsked m_askedHorse m_askedFence m_askedLetter m_askedHeight m_kind m_feet m_stride m_scope m_care m_text rc6 v2_6 m_at_6 m_wrong_6 (0 : Int32)
def s_X12_product_t_6 (q_X12_thing_t : Int32 → Int32 → Int32 → Int32 → Int32 → Int32 → Int32 → Int32 → Int32 → Int32 → (Nat → Int32) → (Nat → Int32) → (Nat → Int32) → (Nat → Int32) → (Nat → Int32) → (Nat → Int32) → Option (Int32 × Int32 × Int32)) (p1 : Int32) (m_length : Int32) (m_top : Int32) (m_isAsked : Int32) (m_askedHorse : Int32) (m_askedFence : Int32) (m_askedLetter : Int32) (m_askedHeight : Int32) (m_kind : (Nat → Int32)) (m_feet : (Nat → Int32)) (m_stride : (Nat → Int32)) (m_scope : (Nat → Int32)) (m_care : (Nat → Int32)) (m_text : (Nat → Int32)) (kk6 : Int32 → Int32 → Int32 → Option (Int32 × Int32 × Int32)) (rc6 : Int32 → Int32 → Int32 → Option (Int32 × Int32 × Int32)) (v2_6 : Int32) (m_at_6 : Int32) (m_wrong_6 : Int32) : Option (Int32 × Int32 × Int32) :=
  bd1 (f_X12_fine m_wrong_6) <| fun rn4 =>
  if rn4 = 0 then
    kk6 v2_6 m_at_6 m_wrong_6
  else
    bd1 (f_X12_here_t m_length m_top m_at_6 m_text) <| fun rn5 =>
    if rn5 = (42 : Int32) then
      j_X12_product_t_31 q_X12_thing_t p1 m_length m_top m_isAsked m_askedHorse m_askedFence m_askedLetter m_askedHeight m_kind m_feet m_stride m_scope m_care m_text rc6 v2_6 m_at_6 m_wrong_6 ()
    else
      bd1 (f_X12_here_t m_length m_top m_at_6 m_text) <| fun rn12 =>
      if rn12 = (47 : Int32) then
        j_X12_product_t_31 q_X12_thing_t p1 m_length m_top m_isAsked m_askedHorse m_askedFence m_askedLetter m_askedHeight m_kind m_feet m_stride m_scope m_care m_text rc6 v2_6 m_at_6 m_wrong_6 ()
      else
        kk6 v2_6 m_at_6 m_wrong_6
def g_X12_product_t (q_X12_held_t : Int32 → Int32 → Int32 → Int32 → Int32 → Int32 → Int32 → Int32 → Int32 → Int32 → (Nat → Int32) → (Nat → Int32) → (Nat → Int32) → (Nat → Int32) → (Nat → Int32) → (Nat → Int32) → Option (Int32 × Int32 × Int32)) (q_X12_product_t : Int32 → Int32 → Int32 → Int32 → Int32 → Int32 → Int32 → Int32 → Int32 → Int32 → (Nat → Int32) → (Nat → Int32) → (Nat → Int32) → (Nat → Int32) → (Nat → Int32) → (Nat → Int32) → Option (Int32 × Int32 × Int32)) (q_X12_sum_t : Int32 → Int32 → Int32 → Int32 → Int32 → Int32 → Int32 → Int32 → Int32 → Int32 → (Nat → Int32) → (Nat → Int32) → (Nat → Int32) → (Nat → Int32) → (Nat → Int32) → (Nat → Int32) → Option (Int32 × Int32 × Int32)) (q_X12_thing_t : Int32 → Int32 → Int32 → Int32 → Int32 → Int32 → Int32 → Int32 → Int32 → Int32 → (Nat → Int32) → (Nat → Int32) → (Nat → Int32) → (Nat → Int32) → (Nat → Int32) → (Nat → Int32) → Option (Int32 × Int32 × Int32)) (p1 : Int32) (m_length : Int32) (m_top : Int32) (m_at : Int32) (m_wrong : Int32) (m_isAsked : Int32) (m_askedHorse : Int32) (m_askedFence : Int32) (m_askedLetter : Int32) (m_askedHeight : Int32) (m_kind : (Nat → Int32)) (m_feet : (Nat → Int32)) (m_stride : (Nat → Int32)) (m_scope : (Nat → Int32)) (m_care : (Nat → Int32)) (m_text : (Nat → Int32)) : Option (Int32 × Int32 × Int32) :=
  bd3 (q_X12_thing_t p1 m_length m_top m_at m_wrong m_isAsked m_askedHorse m_askedFence m_askedLetter m_askedHeight m_kind m_feet m_stride m_scope m_care m_text) <| fun rn1 m_atn2 m_wrongn3 =>
  ml3 (s_X12_product_t_6 q_X12_thing_t p1 m_length m_top m_isAsked m_askedHorse m_askedFence m_askedLetter m_askedHeight m_kind m_feet m_stride m_scope m_care m_text (k_X12_product_t_6)) zN rn1 m_atn2 m_wrongn3
def k_X12_sum_t_6 (v2_6x : Int32) (m_at_6x : Int32) (m_wrong_6x : Int32) : Option (Int32 × Int32 × Int32) :=
  some (v2_6x, m_at_6x, m_wrong_6x)
def j_X12_sum_t_45 (q_X12_product_t : Int32 → Int32 → Int32 → Int32 → Int32 → Int32 → Int32 → Int32 → Int32 → Int32 → (Nat → Int32) → (Nat → Int32) → (Nat → Int32) → (Nat → Int32) → (Nat → Int32) → (Nat → Int32) → Option (Int32 × Int32 × Int32)) (p1 : Int32) (m_length : Int32) (m_top : Int32) (m_isAsked : Int32) (m_askedHorse : Int32) (m_askedFence : Int32) (m_askedLetter : Int32) (m_askedHeight : Int32) (m_kind : (Nat → Int32)) (m_feet : (Nat → Int32)) (m_stride : (Nat → Int32)) (m_scope : (Nat → Int32)) (m_care : (Nat → Int32)) (m_text : (Nat → Int32)) (rc6 : Int32 → Int32 → Int32 → Option (Int32 × Int32 × Int32)) (v2_6 : Int32) (m_at_6 : Int32) (m_wrong_6 : Int32) (t0_45j : Int32) : Option (Int32 × Int32 × Int32) :=
  bd3 (q_X12_product_t p1 m_length m_top ((m_at_6 + (1 : Int32))) m_wrong_6 m_isAsked m_askedHorse m_askedFence m_askedLetter m_askedHeight m_kind m_feet m_stride m_scope m_care m_text) <| fun rn7 m_atn8 m_wrongn9 =>
  if t0_45j = 0 then
    lt1 ((v2_6 - rn7)) <| fun v2n10 =>
    rc6 v2n10 m_atn8 m_wrongn9
  else
    lt1 ((v2_6 + rn7)) <| fun v2n11 =>
    rc6 v2n11 m_atn8 m_wrongn9
def j_X12_sum_t_31 (q_X12_product_t : Int32 → Int32 → Int32 → Int32 → Int32 → Int32 → Int32 → Int32 → Int32 → Int32 → (Nat → Int32) → (Nat → Int32) → (Nat → Int32) → (Nat → Int32) → (Nat → Int32) → (Nat → Int32) → Option (Int32 × Int32 × Int32)) (p1 : Int32) (m_length : Int32) (m_top : Int32) (m_isAsked : Int32) (m_askedHorse : Int32) (m_askedFence : Int32) (m_askedLetter : Int32) (m_askedHeight : Int32) (m_kind : (Nat → Int32)) (m_feet : (Nat → Int32)) (m_stride : (Nat → Int32)) (m_scope : (Nat → Int32)) (m_care : (Nat → Int32)) (m_text : (Nat → Int32)) (rc6 : Int32 → Int32 → Int32 → Option (Int32 × Int32 × Int32)) (v2_6 : Int32) (m_at_6 : Int32) (m_wrong_6 : Int32) (_u : Unit) : Option (Int32 × Int32 × Int32) :=
  bd1 (f_X12_here_t m_length m_top m_at_6 m_text) <| fun rn6 =>
  if rn6 = (43 : Int32) then
    j_X12_sum_t_45 q_X12_product_t p1 m_length m_top m_isAsked m_askedHorse m_askedFence m_askedLetter m_askedHeight m_kind m_feet m_stride m_scope m_care m_text rc6 v2_6 m_at_6 m_wrong_6 (1 : Int32)
  else
    j_X12_sum_t_45 q_X12_product_t p1 m_length m_top m_isAsked m_askedHorse m_askedFence m_askedLetter m_askedHeight m_kind m_feet m_stride m_scope m_care m_text rc6 v2_6 m_at_6 m_wrong_6 (0 : Int32)
def s_X12_sum_t_6 (q_X12_product_t : Int32 → Int32 → Int32 → Int32 → Int32 → Int32 → Int32 → Int32 → Int32 → Int32 → (Nat → Int32) → (Nat → Int32) → (Nat → Int32) → (Nat → Int32) → (Nat → Int32) → (Nat → Int32) → Option (Int32 × Int32 × Int32)) (p1 : Int32) (m_length : Int32) (m_top : Int32) (m_isAsked : Int32) (m_askedHorse : Int32) (m_askedFence : Int32) (m_askedLetter : Int32) (m_askedHeight : Int32) (m_kind : (Nat → Int32)) (m_feet : (Nat → Int32)) (m_stride : (Nat → Int32)) (m_scope : (Nat → Int32)) (m_care : (Nat → Int32)) (m_text : (Nat → Int32)) (kk6 : Int32 → Int32 → Int32 → Option (Int32 × Int32 × Int32)) (rc6 : Int32 → Int32 → Int32 → Option (Int32 × Int32 × Int32)) (v2_6 : Int32) (m_at_6 : Int32) (m_wrong_6 : Int32) : Option (Int32 × Int32 × Int32) :=
  bd1 (f_X12_fine m_wrong_6) <| fun rn4 =>
  if rn4 = 0 then
    kk6 v2_6 m_at_6 m_wrong_6
  else
    bd1 (f_X12_here_t m_length m_top m_at_6 m_text) <| fun rn5 =>
    if rn5 = (43 : Int32) then
      j_X12_sum_t_31 q_X12_product_t p1 m_length m_top m_isAsked m_askedHorse m_askedFence m_askedLetter m_askedHeight m_kind m_feet m_stride m_scope m_care m_text rc6 v2_6 m_at_6 m_wrong_6 ()
    else
      bd1 (f_X12_here_t m_length m_top m_at_6 m_text) <| fun rn12 =>
      if rn12 = (45 : Int32) then
        j_X12_sum_t_31 q_X12_product_t p1 m_length m_top m_isAsked m_askedHorse m_askedFence m_askedLetter m_askedHeight m_kind m_feet m_stride m_scope m_care m_text rc6 v2_6 m_at_6 m_wrong_6 ()
      else
        kk6 v2_6 m_at_6 m_wrong_6
def g_X12_sum_t (q_X12_held_t : Int32 → Int32 → Int32 → Int32 → Int32 → Int32 → Int32 → Int32 → Int32 → Int32 → (Nat → Int32) → (Nat → Int32) → (Nat → Int32) → (Nat → Int32) → (Nat → Int32) → (Nat → Int32) → Option (Int32 × Int32 × Int32)) (q_X12_product_t : Int32 → Int32 → Int32 → Int32 → Int32 → Int32 → Int32 → Int32 → Int32 → Int32 → (Nat → Int32) → (Nat → Int32) → (Nat → Int32) → (Nat → Int32) → (Nat → Int32) → (Nat → Int32) → Option (Int32 × Int32 × Int32)) (q_X12_sum_t : Int32 → Int32 → Int32 → Int32 → Int32 → Int32 → Int32 → Int32 → Int32 → Int32 → (Nat → Int32) → (Nat → Int32) → (Nat → Int32) → (Nat → Int32) → (Nat → Int32) → (Nat → Int32) → Option (Int32 × Int32 × Int32)) (q_X12_thing_t : Int32 → Int32 → Int32 → Int32 → Int32 → Int32 → Int32 → Int32 → Int32 → Int32 → (Nat → Int32) → (Nat → Int32) → (Nat → Int32) → (Nat → Int32) → (Nat → Int32) → (Nat → Int32) → Option (Int32 × Int32 × Int32)) (p1 : Int32) (m_length : Int32) (m_top : Int32) (m_at : Int32) (m_wrong : Int32) (m_isAsked : Int32) (m_askedHorse : Int32) (m_askedFence : Int32) (m_askedLetter : Int32) (m_askedHeight : Int32) (m_kind : (Nat → Int32)) (m_feet : (Nat → Int32)) (m_stride : (Nat → Int32)) (m_scope : (Nat → Int32)) (m_care : (Nat → Int32)) (m_text : (Nat → Int32)) : Option (Int32 × Int32 × Int32) :=
  bd3 (q_X12_product_t p1 m_length m_top m_at m_wrong m_isAsked m_askedHorse m_askedFence m_askedLetter m_askedHeight m_kind m_feet m_stride m_scope m_care m_text) <| fun rn1 m_atn2 m_wrongn3 =>
  ml3 (s_X12_sum_t_6 q_X12_product_t p1 m_length m_top m_isAsked m_askedHorse m_askedFence m_askedLetter m_askedHeight m_kind m_feet m_stride m_scope m_care m_text (k_X12_sum_t_6)) zN rn1 m_atn2 m_wrongn3
def j_X12_thing_t_142 (m_isAsked : Int32) (m_askedHorse : Int32) (m_askedFence : Int32) (m_askedLetter : Int32) (m_askedHeight : Int32) (m_kind : (Nat → Int32)) (m_feet : (Nat → Int32)) (m_stride : (Nat → Int32)) (m_scope : (Nat → Int32)) (m_care : (Nat → Int32)) (rn4 : Int32) (m_at_67j : Int32) (m_wrong_142j : Int32) : Option (Int32 × Int32 × Int32) :=
  if m_isAsked = 0 then
    some ((0 : Int32), (m_at_67j + (1 : Int32)), m_wrong_142j)
  else
    bd1 (f_X12_valueOf rn4 m_askedHorse m_askedFence m_askedLetter m_askedHeight m_kind m_feet m_stride m_scope m_care) <| fun rn6 =>
    some (rn6, (m_at_67j + (1 : Int32)), m_wrong_142j)
def j_X12_thing_t_67 (m_length : Int32) (m_top : Int32) (m_isAsked : Int32) (m_askedHorse : Int32) (m_askedFence : Int32) (m_askedLetter : Int32) (m_askedHeight : Int32) (m_kind : (Nat → Int32)) (m_feet : (Nat → Int32)) (m_stride : (Nat → Int32)) (m_scope : (Nat → Int32)) (m_care : (Nat → Int32)) (m_text : (Nat → Int32)) (rn4 : Int32) (m_at_67j : Int32) (m_wrong_67j : Int32) : Option (Int32 × Int32 × Int32) :=
  bd1 (f_X12_in rn4 (48 : Int32) (57 : Int32)) <| fun rn5 =>
  if rn5 = 0 then
    if rn4 = (104 : Int32) then
      j_X12_thing_t_142 m_isAsked m_askedHorse m_askedFence m_askedLetter m_askedHeight m_kind m_feet m_stride m_scope m_care rn4 m_at_67j m_wrong_67j
    else
      if rn4 = (115 : Int32) then
        j_X12_thing_t_142 m_isAsked m_askedHorse m_askedFence m_askedLetter m_askedHeight m_kind m_feet m_stride m_scope m_care rn4 m_at_67j m_wrong_67j
      else
        if rn4 = (99 : Int32) then
          j_X12_thing_t_142 m_isAsked m_askedHorse m_askedFence m_askedLetter m_askedHeight m_kind m_feet m_stride m_scope m_care rn4 m_at_67j m_wrong_67j
        else
          if rn4 = (112 : Int32) then
            j_X12_thing_t_142 m_isAsked m_askedHorse m_askedFence m_askedLetter m_askedHeight m_kind m_feet m_stride m_scope m_care rn4 m_at_67j m_wrong_67j
          else
            if rn4 = (120 : Int32) then
              j_X12_thing_t_142 m_isAsked m_askedHorse m_askedFence m_askedLetter m_askedHeight m_kind m_feet m_stride m_scope m_care rn4 m_at_67j m_wrong_67j
            else
              if rn4 = (102 : Int32) then
                j_X12_thing_t_142 m_isAsked m_askedHorse m_askedFence m_askedLetter m_askedHeight m_kind m_feet m_stride m_scope m_care rn4 m_at_67j m_wrong_67j
              else
                if rn4 = (107 : Int32) then
                  j_X12_thing_t_142 m_isAsked m_askedHorse m_askedFence m_askedLetter m_askedHeight m_kind m_feet m_stride m_scope m_care rn4 m_at_67j m_wrong_67j
                else
                  if rn4 = (121 : Int32) then
                    j_X12_thing_t_142 m_isAsked m_askedHorse m_askedFence m_askedLetter m_askedHeight m_kind m_feet m_stride m_scope m_care rn4 m_at_67j m_wrong_67j
                  else
                    bd1 (f_X12_fault m_at_67j m_wrong_67j) <| fun m_wrongn7 =>
                    some ((0 : Int32), m_at_67j, m_wrongn7)
  else
    bd3 (f_X12_number_t (3 : Int32) m_length m_top m_at_67j m_wrong_67j m_text) <| fun rn8 m_atn9 m_wrongn10 =>
    some (rn8, m_atn9, m_wrongn10)
def g_X12_thing_t (q_X12_held_t : Int32 → Int32 → Int32 → Int32 → Int32 → Int32 → Int32 → Int32 → Int32 → Int32 → (Nat → Int32) → (Nat → Int32) → (Nat → Int32) → (Nat → Int32) → (Nat → Int32) → (Nat → Int32) → Option (Int32 × Int32 × Int32)) (q_X12_product_t : Int32 → Int32 → Int32 → Int32 → Int32 → Int32 → Int32 → Int32 → Int32 → Int32 → (Nat → Int32) → (Nat → Int32) → (Nat → Int32) → (Nat → Int32) → (Nat → Int32) → (Nat → Int32) → Option (Int32 × Int32 × Int32)) (q_X12_sum_t : Int32 → Int32 → Int32 → Int32 → Int32 → Int32 → Int32 → Int32 → Int32 → Int32 → (Nat → Int32) → (Nat → Int32) → (Nat → Int32) → (Nat → Int32) → (Nat → Int32) → (Nat → Int32) → Option (Int32 × Int32 × Int32)) (q_X12_thing_t : Int32 → Int32 → Int32 → Int32 → Int32 → Int32 → Int32 → Int32 → Int32 → Int32 → (Nat → Int32) → (Nat → Int32) → (Nat → Int32) → (Nat → Int32) → (Nat → Int32) → (Nat → Int32) → Option (Int32 × Int32 × Int32)) (p1 : Int32) (m_length : Int32) (m_top : Int32) (m_at : Int32) (m_wrong : Int32) (m_isAsked : Int32) (m_askedHorse : Int32) (m_askedFence : Int32) (m_askedLetter : Int32) (m_askedHeight : Int32) (m_kind : (Nat → Int32)) (m_feet : (Nat → Int32)) (m_stride : (Nat → Int32)) (m_scope : (Nat → Int32)) (m_care : (Nat → Int32)) (m_text : (Nat → Int32)) : Option (Int32 × Int32 × Int32) :=
  bd2 (f_X12_passes_t (45 : Int32) m_length m_top m_at m_wrong m_text) <| fun rn1 m_atn2 =>
  if rn1 = 0 then
    bd1 (f_X12_fine m_wrong) <| fun rn3 =>
    if rn3 = 0 then
      some ((0 : Int32), m_atn2, m_wrong)
    else
      bd1 (f_X12_here_t m_length m_top m_atn2 m_text) <| fun rn4 =>
      if rn4 = (40 : Int32) then
        if (4 : Int32) ≤ p1 then
          j_X12_thing_t_67 m_length m_top m_isAsked m_askedHorse m_askedFence m_askedLetter m_askedHeight m_kind m_feet m_stride m_scope m_care m_text rn4 m_atn2 m_wrong
        else
          bd3 (q_X12_held_t ((p1 + (1 : Int32))) m_length m_top ((m_atn2 + (1 : Int32))) m_wrong m_isAsked m_askedHorse m_askedFence m_askedLetter m_askedHeight m_kind m_feet m_stride m_scope m_care m_text) <| fun rn11 m_atn12 m_wrongn13 =>
          bd2 (f_X12_need_t (41 : Int32) m_length m_top m_atn12 m_wrongn13 m_text) <| fun m_atn14 m_wrongn15 =>
          some (rn11, m_atn14, m_wrongn15)
      else
        j_X12_thing_t_67 m_length m_top m_isAsked m_askedHorse m_askedFence m_askedLetter m_askedHeight m_kind m_feet m_stride m_scope m_care m_text rn4 m_atn2 m_wrong
  else
    bd3 (q_X12_thing_t p1 m_length m_top m_atn2 m_wrong m_isAsked m_askedHorse m_askedFence m_askedLetter m_askedHeight m_kind m_feet m_stride m_scope m_care m_text) <| fun rn16 m_atn17 m_wrongn18 =>
    some ((-rn16), m_atn17, m_wrongn18)
def G_X12_held_t : Nat → ((Int32 → Int32 → Int32 → Int32 → Int32 → Int32 → Int32 → Int32 → Int32 → Int32 → (Nat → Int32) → (Nat → Int32) → (Nat → Int32) → (Nat → Int32) → (Nat → Int32) → (Nat → Int32) → Option (Int32 × Int32 × Int32)) × (Int32 → Int32 → Int32 → Int32 → Int32 → Int32 → Int32 → Int32 → Int32 → Int32 → (Nat → Int32) → (Nat → Int32) → (Nat → Int32) → (Nat → Int32) → (Nat → Int32) → (Nat → Int32) → Option (Int32 × Int32 × Int32)) × (Int32 → Int32 → Int32 → Int32 → Int32 → Int32 → Int32 → Int32 → Int32 → Int32 → (Nat → Int32) → (Nat → Int32) → (Nat → Int32) → (Nat → Int32) → (Nat → Int32) → (Nat → Int32) → Option (Int32 × Int32 × Int32)) × (Int32 → Int32 → Int32 → Int32 → Int32 → Int32 → Int32 → Int32 → Int32 → Int32 → (Nat → Int32) → (Nat → Int32) → (Nat → Int32) → (Nat → Int32) → (Nat → Int32) → (Nat → Int32) → Option (Int32 × Int32 × Int32)))
  | 0 => ((fun _ _ _ _ _ _ _ _ _ _ _ _ _ _ _ _ => none), (fun _ _ _ _ _ _ _ _ _ _ _ _ _ _ _ _ => none), (fun _ _ _ _ _ _ _ _ _ _ _ _ _ _ _ _ => none), (fun _ _ _ _ _ _ _ _ _ _ _ _ _ _ _ _ => none))
  | n + 1 => (g_X12_held_t (G_X12_held_t n).1 (G_X12_held_t n).2.1 (G_X12_held_t n).2.2.1 (G_X12_held_t n).2.2.2, g_X12_product_t (G_X12_held_t n).1 (G_X12_held_t n).2.1 (G_X12_held_t n).2.2.1 (G_X12_held_t n).2.2.2, g_X12_sum_t (G_X12_held_t n).1 (G_X12_held_t n).2.1 (G_X12_held_t n).2.2.1 (G_X12_held_t n).2.2.2, g_X12_thing_t (G_X12_held_t n).1 (G_X12_held_t n).2.1 (G_X12_held_t n).2.2.1 (G_X12_held_t n).2.2.2)
def f_X12_held_t (n : Nat) : (Int32 → Int32 → Int32 → Int32 → Int32 → Int32 → Int32 → Int32 → Int32 → Int32 → (Nat → Int32) → (Nat → Int32) → (Nat → Int32) → (Nat → Int32) → (Nat → Int32) → (Nat → Int32) → Option (Int32 × Int32 × Int32)) := (G_X12_held_t n).1
def f_X12_product_t (n : Nat) : (Int32 → Int32 → Int32 → Int32 → Int32 → Int32 → Int32 → Int32 → Int32 → Int32 → (Nat → Int32) → (Nat → Int32) → (Nat → Int32) → (Nat → Int32) → (Nat → Int32) → (Nat → Int32) → Option (Int32 × Int32 × Int32)) := (G_X12_held_t n).2.1
def f_X12_sum_t (n : Nat) : (Int32 → Int32 → Int32 → Int32 → Int32 → Int32 → Int32 → Int32 → Int32 → Int32 → (Nat → Int32) → (Nat → Int32) → (Nat → Int32) → (Nat → Int32) → (Nat → Int32) → (Nat → Int32) → Option (Int32 × Int32 × Int32)) := (G_X12_held_t n).2.2.1
def f_X12_thing_t (n : Nat) : (Int32 → Int32 → Int32 → Int32 → Int32 → Int32 → Int32 → Int32 → Int32 → Int32 → (Nat → Int32) → (Nat → Int32) → (Nat → Int32) → (Nat → Int32) → (Nat → Int32) → (Nat → Int32) → Option (Int32 × Int32 × Int32)) := (G_X12_held_t n).2.2.2
def f_X12_horse (p1 : Int32) (p2 : Int32) (m_horses : Int32) (m_thrown : Int32) (m_stride : (Nat → Int32)) (m_scope : (Nat → Int32)) (m_care : (Nat → Int32)) : Option (Int32 × Int32) :=
  bd1 (f_X12_isHorse p1 m_horses) <| fun rn1 =>
  if rn1 = 0 then
    bd2 (f_X12_lost (0 : Int32)) <| fun rn2 m_thrownn3 =>
    some (rn2, m_thrownn3)
  else
    bd1 (f_X12_in p2 (0 : Int32) (5 : Int32)) <| fun rn4 =>
    if rn4 = 0 then
      bd2 (f_X12_lost (0 : Int32)) <| fun rn5 m_thrownn6 =>
      some (rn5, m_thrownn6)
    else
      if p2 = 0 then
        gd (ix p1 6) <|
        some ((m_stride p1.toNatClampNeg), (0 : Int32))
      else
        if p2 = (1 : Int32) then
          gd (ix p1 6) <|
          some ((m_scope p1.toNatClampNeg), (0 : Int32))
        else
          gd (ix ((((4 : Int32) * p1) + p2) - (2 : Int32)) 24) <|
          some ((m_care ((((4 : Int32) * p1) + p2) - (2 : Int32)).toNatClampNeg), (0 : Int32))
def k_X12_readHorse_t_15 (m_at_15x : Int32) (m_wrong_15x : Int32) (m_newHorses_15x : (Nat → Int32)) : Option (Int32 × Int32 × (Nat → Int32)) :=
  some (m_at_15x, m_wrong_15x, m_newHorses_15x)
def s_X12_readHorse_t_15 (p1 : Int32) (m_length : Int32) (m_top : Int32) (m_text : (Nat → Int32)) (kk15 : Int32 → Int32 → (Nat → Int32) → Option (Int32 × Int32 × (Nat → Int32))) (rc15 : Int32 → Int32 → Int32 → (Nat → Int32) → Option (Int32 × Int32 × (Nat → Int32))) (v2_15 : Int32) (m_at_15 : Int32) (m_wrong_15 : Int32) (m_newHorses_15 : (Nat → Int32)) : Option (Int32 × Int32 × (Nat → Int32)) :=
  if (6 : Int32) ≤ v2_15 then
    kk15 m_at_15 m_wrong_15 m_newHorses_15
  else
    bd3 (f_X12_digit_t (0 : Int32) (9 : Int32) m_length m_top m_at_15 m_wrong_15 m_text) <| fun rn4 m_atn5 m_wrongn6 =>
    gd (ix (p1 + v2_15) 36) <|
    lt1 ((v2_15 + (1 : Int32))) <| fun v2n7 =>
    rc15 v2n7 m_atn5 m_wrongn6 ((upd m_newHorses_15 (p1 + v2_15).toNatClampNeg rn4))
def f_X12_readHorse_t (p1 : Int32) (m_length : Int32) (m_top : Int32) (m_at : Int32) (m_wrong : Int32) (m_text : (Nat → Int32)) (m_newHorses : (Nat → Int32)) : Option (Int32 × Int32 × (Nat → Int32)) :=
  bd3 (f_X12_digit_t (3 : Int32) (9 : Int32) m_length m_top m_at m_wrong m_text) <| fun rn1 m_atn2 m_wrongn3 =>
  gd (ix p1 36) <|
  ml4 (s_X12_readHorse_t_15 p1 m_length m_top m_text (k_X12_readHorse_t_15)) zN (1 : Int32) m_atn2 m_wrongn3 ((upd m_newHorses p1.toNatClampNeg rn1))
def k_X12_horses_126 (m_lengthn1 : Int32) (m_topn2 : Int32) (v1_37x : Int32) (m_at_37x : Int32) (m_newHorses_37x : (Nat → Int32)) (m_wrong_110j : Int32) (m_horses_126x : Int32) (m_stride_126x : (Nat → Int32)) (m_scope_126x : (Nat → Int32)) (m_care_126x : (Nat → Int32)) : Option (Int32 × Int32 × Int32 × Int32 × Int32 × Int32 × Int32 × Int32 × (Nat → Int32) × (Nat → Int32) × (Nat → Int32) × (Nat → Int32)) :=
  some (v1_37x, m_horses_126x, (0 : Int32), (0 : Int32), m_lengthn1, m_topn2, m_at_37x, m_wrong_110j, m_stride_126x, m_scope_126x, m_care_126x, m_newHorses_37x)
def k_X12_horses_174 (m_newHorses_37x : (Nat → Int32)) (rc126 : Int32 → Int32 → (Nat → Int32) → (Nat → Int32) → (Nat → Int32) → Option (Int32 × Int32 × Int32 × Int32 × Int32 × Int32 × Int32 × Int32 × (Nat → Int32) × (Nat → Int32) × (Nat → Int32) × (Nat → Int32))) (v3_126 : Int32) (m_horses_126 : Int32) (m_stride_126 : (Nat → Int32)) (m_scope_126 : (Nat → Int32)) (v4n6 : Int32) (m_care_174x : (Nat → Int32)) : Option (Int32 × Int32 × Int32 × Int32 × Int32 × Int32 × Int32 × Int32 × (Nat → Int32) × (Nat → Int32) × (Nat → Int32) × (Nat → Int32)) :=
  lt1 ((v3_126 + (1 : Int32))) <| fun v3n7 =>
  rc126 v3n7 ((m_horses_126 + (1 : Int32))) ((upd m_stride_126 m_horses_126.toNatClampNeg (m_newHorses_37x v4n6.toNatClampNeg))) ((upd m_scope_126 m_horses_126.toNatClampNeg (m_newHorses_37x (v4n6 + (1 : Int32)).toNatClampNeg))) m_care_174x
def s_X12_horses_174 (m_newHorses_37x : (Nat → Int32)) (m_horses_126 : Int32) (v4n6 : Int32) (kk174 : (Nat → Int32) → Option (Int32 × Int32 × Int32 × Int32 × Int32 × Int32 × Int32 × Int32 × (Nat → Int32) × (Nat → Int32) × (Nat → Int32) × (Nat → Int32))) (rc174 : Int32 → (Nat → Int32) → Option (Int32 × Int32 × Int32 × Int32 × Int32 × Int32 × Int32 × Int32 × (Nat → Int32) × (Nat → Int32) × (Nat → Int32) × (Nat → Int32))) (v5_174 : Int32) (m_care_174 : (Nat → Int32)) : Option (Int32 × Int32 × Int32 × Int32 × Int32 × Int32 × Int32 × Int32 × (Nat → Int32) × (Nat → Int32) × (Nat → Int32) × (Nat → Int32)) :=
  if (4 : Int32) ≤ v5_174 then
    kk174 m_care_174
  else
    gd (ix ((v4n6 + (2 : Int32)) + v5_174) 36) <|
    gd (ix (((4 : Int32) * m_horses_126) + v5_174) 24) <|
    lt1 ((v5_174 + (1 : Int32))) <| fun v5n8 =>
    rc174 v5n8 ((upd m_care_174 (((4 : Int32) * m_horses_126) + v5_174).toNatClampNeg (m_newHorses_37x ((v4n6 + (2 : Int32)) + v5_174).toNatClampNeg)))
def s_X12_horses_126 (v1_37x : Int32) (m_newHorses_37x : (Nat → Int32)) (kk126 : Int32 → (Nat → Int32) → (Nat → Int32) → (Nat → Int32) → Option (Int32 × Int32 × Int32 × Int32 × Int32 × Int32 × Int32 × Int32 × (Nat → Int32) × (Nat → Int32) × (Nat → Int32) × (Nat → Int32))) (rc126 : Int32 → Int32 → (Nat → Int32) → (Nat → Int32) → (Nat → Int32) → Option (Int32 × Int32 × Int32 × Int32 × Int32 × Int32 × Int32 × Int32 × (Nat → Int32) × (Nat → Int32) × (Nat → Int32) × (Nat → Int32))) (v3_126 : Int32) (m_horses_126 : Int32) (m_stride_126 : (Nat → Int32)) (m_scope_126 : (Nat → Int32)) (m_care_126 : (Nat → Int32)) : Option (Int32 × Int32 × Int32 × Int32 × Int32 × Int32 × Int32 × Int32 × (Nat → Int32) × (Nat → Int32) × (Nat → Int32) × (Nat → Int32)) :=
  if v1_37x ≤ v3_126 then
    kk126 m_horses_126 m_stride_126 m_scope_126 m_care_126
  else
    lt1 (((6 : Int32) * v3_126)) <| fun v4n6 =>
    gd (ix v4n6 36) <|
    gd (ix m_horses_126 6) <|
    gd (ix (v4n6 + (1 : Int32)) 36) <|
    gd (ix m_horses_126 6) <|
    ml2 (s_X12_horses_174 m_newHorses_37x m_horses_126 v4n6 (k_X12_horses_174 m_newHorses_37x rc126 v3_126 m_horses_126 m_stride_126 m_scope_126 v4n6)) zN (0 : Int32) m_care_126
def j_X12_horses_110 (m_horses : Int32) (m_stride : (Nat → Int32)) (m_scope : (Nat → Int32)) (m_care : (Nat → Int32)) (m_lengthn1 : Int32) (m_topn2 : Int32) (v1_37x : Int32) (m_at_37x : Int32) (m_newHorses_37x : (Nat → Int32)) (m_wrong_110j : Int32) : Option (Int32 × Int32 × Int32 × Int32 × Int32 × Int32 × Int32 × Int32 × (Nat → Int32) × (Nat → Int32) × (Nat → Int32) × (Nat → Int32)) :=
  bd1 (f_X12_fine m_wrong_110j) <| fun rn5 =>
  if rn5 = 0 then
    some (((-1 : Int32) - m_wrong_110j), m_horses, (0 : Int32), (0 : Int32), m_lengthn1, m_topn2, m_at_37x, m_wrong_110j, m_stride, m_scope, m_care, m_newHorses_37x)
  else
    ml5 (s_X12_horses_126 v1_37x m_newHorses_37x (k_X12_horses_126 m_lengthn1 m_topn2 v1_37x m_at_37x m_newHorses_37x m_wrong_110j)) zN (0 : Int32) m_horses m_stride m_scope m_care
def k_X12_horses_37 (m_horses : Int32) (m_stride : (Nat → Int32)) (m_scope : (Nat → Int32)) (m_care : (Nat → Int32)) (m_lengthn1 : Int32) (m_topn2 : Int32) (v1_37x : Int32) (m_at_37x : Int32) (m_wrong_37x : Int32) (m_newHorses_37x : (Nat → Int32)) : Option (Int32 × Int32 × Int32 × Int32 × Int32 × Int32 × Int32 × Int32 × (Nat → Int32) × (Nat → Int32) × (Nat → Int32) × (Nat → Int32)) :=
  if m_lengthn1 ≤ m_at_37x then
    j_X12_horses_110 m_horses m_stride m_scope m_care m_lengthn1 m_topn2 v1_37x m_at_37x m_newHorses_37x m_wrong_37x
  else
    bd1 (f_X12_fault m_at_37x m_wrong_37x) <| fun m_wrongn9 =>
    j_X12_horses_110 m_horses m_stride m_scope m_care m_lengthn1 m_topn2 v1_37x m_at_37x m_newHorses_37x m_wrongn9
def s_X12_horses_37 (m_horses : Int32) (m_text : (Nat → Int32)) (m_lengthn1 : Int32) (m_topn2 : Int32) (kk37 : Int32 → Int32 → Int32 → (Nat → Int32) → Option (Int32 × Int32 × Int32 × Int32 × Int32 × Int32 × Int32 × Int32 × (Nat → Int32) × (Nat → Int32) × (Nat → Int32) × (Nat → Int32))) (rc37 : Int32 → Int32 → Int32 → Int32 → (Nat → Int32) → Option (Int32 × Int32 × Int32 × Int32 × Int32 × Int32 × Int32 × Int32 × (Nat → Int32) × (Nat → Int32) × (Nat → Int32) × (Nat → Int32))) (v1_37 : Int32) (v2_37 : Int32) (m_at_37 : Int32) (m_wrong_37 : Int32) (m_newHorses_37 : (Nat → Int32)) : Option (Int32 × Int32 × Int32 × Int32 × Int32 × Int32 × Int32 × Int32 × (Nat → Int32) × (Nat → Int32) × (Nat → Int32) × (Nat → Int32)) :=
  if v2_37 = 0 then
    kk37 v1_37 m_at_37 m_wrong_37 m_newHorses_37
  else
    bd1 (f_X12_fine m_wrong_37) <| fun rn10 =>
    if rn10 = 0 then
      kk37 v1_37 m_at_37 m_wrong_37 m_newHorses_37
    else
      if (m_horses + v1_37) = (6 : Int32) then
        bd1 (f_X12_fault m_at_37 m_wrong_37) <| fun m_wrongn17 =>
        lt1 ((v1_37 + (1 : Int32))) <| fun v1n18 =>
        bd2 (f_X12_passes_t (59 : Int32) m_lengthn1 m_topn2 m_at_37 m_wrongn17 m_text) <| fun rn19 m_atn20 =>
        rc37 v1n18 rn19 m_atn20 m_wrongn17 m_newHorses_37
      else
        bd3 (f_X12_readHorse_t (((6 : Int32) * v1_37)) m_lengthn1 m_topn2 m_at_37 m_wrong_37 m_text m_newHorses_37) <| fun m_atn11 m_wrongn12 m_newHorsesn13 =>
        lt1 ((v1_37 + (1 : Int32))) <| fun v1n14 =>
        bd2 (f_X12_passes_t (59 : Int32) m_lengthn1 m_topn2 m_atn11 m_wrongn12 m_text) <| fun rn15 m_atn16 =>
        rc37 v1n14 rn15 m_atn16 m_wrongn12 m_newHorsesn13
def f_X12_horses (m_horses : Int32) (m_typed : Int32) (m_thrown : Int32) (m_read : Int32) (m_length : Int32) (m_top : Int32) (m_at : Int32) (m_wrong : Int32) (m_stride : (Nat → Int32)) (m_scope : (Nat → Int32)) (m_care : (Nat → Int32)) (m_text : (Nat → Int32)) (m_newHorses : (Nat → Int32)) : Option (Int32 × Int32 × Int32 × Int32 × Int32 × Int32 × Int32 × Int32 × (Nat → Int32) × (Nat → Int32) × (Nat → Int32) × (Nat → Int32)) :=
  bd4 (f_X12_begin_m_text m_typed (76 : Int32) m_read m_length m_top m_at m_wrong) <| fun m_lengthn1 m_topn2 m_atn3 m_wrongn4 =>
  if m_lengthn1 = 0 then
    some ((0 : Int32), m_horses, (0 : Int32), (0 : Int32), m_lengthn1, m_topn2, m_atn3, m_wrongn4, m_stride, m_scope, m_care, m_newHorses)
  else
    ml5 (s_X12_horses_37 m_horses m_text m_lengthn1 m_topn2 (k_X12_horses_37 m_horses m_stride m_scope m_care m_lengthn1 m_topn2)) zN (0 : Int32) (1 : Int32) m_atn3 m_wrongn4 m_newHorses
def f_X12_isAhead_m_now (p1 : Int32) (p2 : Int32) (m_now : (Nat → Int32)) : Option Int32 :=
  gd (ix (((4 : Int32) * p1) + (2 : Int32)) 49) <|
  gd (ix (((4 : Int32) * p2) + (2 : Int32)) 49) <|
  lt1 (((m_now (((4 : Int32) * p1) + (2 : Int32)).toNatClampNeg) - (m_now (((4 : Int32) * p2) + (2 : Int32)).toNatClampNeg))) <| fun v3n1 =>
  gd (ix (((4 : Int32) * p1) + (3 : Int32)) 49) <|
  gd (ix (((4 : Int32) * p2) + (3 : Int32)) 49) <|
  lt1 (((m_now (((4 : Int32) * p1) + (3 : Int32)).toNatClampNeg) - (m_now (((4 : Int32) * p2) + (3 : Int32)).toNatClampNeg))) <| fun v4n2 =>
  if v3n1 < 0 then
    some (1 : Int32)
  else
    if v3n1 = 0 then
      if v4n2 < 0 then
        some (1 : Int32)
      else
        if v4n2 = 0 then
          if p2 ≤ p1 then
            some (0 : Int32)
          else
            some (1 : Int32)
        else
          some (0 : Int32)
    else
      some (0 : Int32)
def f_X12_isAhead_m_then (p1 : Int32) (p2 : Int32) (m_then : (Nat → Int32)) : Option Int32 :=
  gd (ix (((4 : Int32) * p1) + (2 : Int32)) 49) <|
  gd (ix (((4 : Int32) * p2) + (2 : Int32)) 49) <|
  lt1 (((m_then (((4 : Int32) * p1) + (2 : Int32)).toNatClampNeg) - (m_then (((4 : Int32) * p2) + (2 : Int32)).toNatClampNeg))) <| fun v3n1 =>
  gd (ix (((4 : Int32) * p1) + (3 : Int32)) 49) <|
  gd (ix (((4 : Int32) * p2) + (3 : Int32)) 49) <|
  lt1 (((m_then (((4 : Int32) * p1) + (3 : Int32)).toNatClampNeg) - (m_then (((4 : Int32) * p2) + (3 : Int32)).toNatClampNeg))) <| fun v4n2 =>
  if v3n1 < 0 then
    some (1 : Int32)
  else
    if v3n1 = 0 then
      if v4n2 < 0 then
        some (1 : Int32)
      else
        if v4n2 = 0 then
          if p2 ≤ p1 then
            some (0 : Int32)
          else
            some (1 : Int32)
        else
          some (0 : Int32)
    else
      some (0 : Int32)
def f_X12_jump (p1 : Int32) (p2 : Int32) (p3 : Int32) (m_fences : Int32) (m_horses : Int32) (m_rowMany : Int32) (m_thrown : Int32) (m_read : Int32) (m_length : Int32) (m_top : Int32) (m_at : Int32) (m_wrong : Int32) (m_ruleSize : Int32) (m_isAsked : Int32) (m_askedHorse : Int32) (m_askedFence : Int32) (m_askedLetter : Int32) (m_askedHeight : Int32) (m_kind : (Nat → Int32)) (m_height : (Nat → Int32)) (m_feet : (Nat → Int32)) (m_stride : (Nat → Int32)) (m_scope : (Nat → Int32)) (m_care : (Nat → Int32)) (m_rule : (Nat → Int32)) (m_row : (Nat → Int64)) : Option (Int32 × Int32 × Int32 × Int32 × Int32 × Int32 × Int32 × Int32 × Int32 × Int32 × Int32 × Int32 × Int32 × (Nat → Int64)) :=
  bd1 (f_X12_isHorse p1 m_horses) <| fun rn1 =>
  if rn1 = 0 then
    some ((-1 : Int32), m_rowMany, (0 : Int32), m_read, m_length, m_top, m_at, m_wrong, m_isAsked, m_askedHorse, m_askedFence, m_askedLetter, m_askedHeight, m_row)
  else
    bd1 (f_X12_isFence p2 m_fences) <| fun rn2 =>
    if rn2 = 0 then
      some ((-1 : Int32), m_rowMany, (0 : Int32), m_read, m_length, m_top, m_at, m_wrong, m_isAsked, m_askedHorse, m_askedFence, m_askedLetter, m_askedHeight, m_row)
    else
      bd1 (f_X12_in p3 (0 : Int32) (7 : Int32)) <| fun rn3 =>
      if rn3 = 0 then
        some ((-1 : Int32), m_rowMany, (0 : Int32), m_read, m_length, m_top, m_at, m_wrong, m_isAsked, m_askedHorse, m_askedFence, m_askedLetter, m_askedHeight, m_row)
      else
        bd11 (f_X12_oddsOf_ p1 p2 p3 m_read m_length m_top m_at m_wrong m_ruleSize m_isAsked m_askedHorse m_askedFence m_askedLetter m_askedHeight m_kind m_height m_feet m_stride m_scope m_care m_rule) <| fun rn4 m_readn5 m_lengthn6 m_topn7 m_atn8 m_wrongn9 m_isAskedn10 m_askedHorsen11 m_askedFencen12 m_askedLettern13 m_askedHeightn14 =>
        bd1 (f_X12_refusalOf p1 p2 m_kind m_feet m_stride m_care) <| fun rn15 =>
        bd2 (f_X12_tell (rn15.toInt64) (0 : Int32) m_row) <| fun m_rowManyn16 m_rown17 =>
        bd1 (f_X12_tenthsOf p2 p3 m_kind m_feet) <| fun rn18 =>
        bd2 (f_X12_tell (rn18.toInt64) m_rowManyn16 m_rown17) <| fun m_rowManyn19 m_rown20 =>
        gd (ix p2 8) <|
        bd1 (f_X12_leanOf p1 ((m_feet p2.toNatClampNeg)) m_stride) <| fun rn21 =>
        bd2 (f_X12_tell (rn21.toInt64) m_rowManyn19 m_rown20) <| fun m_rowManyn22 m_rown23 =>
        some (rn4, m_rowManyn22, (0 : Int32), m_readn5, m_lengthn6, m_topn7, m_atn8, m_wrongn9, m_isAskedn10, m_askedHorsen11, m_askedFencen12, m_askedLettern13, m_askedHeightn14, m_rown23)
def k_X12_justFall_36 (p2 : Int32) (m_read_36x : Int32) (m_length_36x : Int32) (m_top_36x : Int32) (m_at_36x : Int32) (m_wrong_36x : Int32) (m_isAsked_36x : Int32) (m_askedHorse_36x : Int32) (m_askedFence_36x : Int32) (m_askedLetter_36x : Int32) (m_askedHeight_36x : Int32) (m_falling_36x : (Nat → Int64)) : Option (Int64 × Int32 × Int32 × Int32 × Int32 × Int32 × Int32 × Int32 × Int32 × Int32 × Int32 × (Nat → Int64)) :=
  gd (ix p2 7) <|
  some ((m_falling_36x p2.toNatClampNeg), m_read_36x, m_length_36x, m_top_36x, m_at_36x, m_wrong_36x, m_isAsked_36x, m_askedHorse_36x, m_askedFence_36x, m_askedLetter_36x, m_askedHeight_36x, m_falling_36x)
def k_X12_justFall_69 (rc36 : Int32 → Int32 → Int32 → Int32 → Int32 → Int32 → Int32 → Int32 → Int32 → Int32 → Int32 → (Nat → Int64) → Option (Int64 × Int32 × Int32 × Int32 × Int32 × Int32 × Int32 × Int32 × Int32 × Int32 × Int32 × (Nat → Int64))) (v5_36 : Int32) (m_readn3 : Int32) (m_lengthn4 : Int32) (m_topn5 : Int32) (m_atn6 : Int32) (m_wrongn7 : Int32) (m_isAskedn8 : Int32) (m_askedHorsen9 : Int32) (m_askedFencen10 : Int32) (m_askedLettern11 : Int32) (m_askedHeightn12 : Int32) (m_falling_69x : (Nat → Int64)) : Option (Int64 × Int32 × Int32 × Int32 × Int32 × Int32 × Int32 × Int32 × Int32 × Int32 × Int32 × (Nat → Int64)) :=
  lt1 ((v5_36 + (1 : Int32))) <| fun v5n14 =>
  rc36 v5n14 m_readn3 m_lengthn4 m_topn5 m_atn6 m_wrongn7 m_isAskedn8 m_askedHorsen9 m_askedFencen10 m_askedLettern11 m_askedHeightn12 m_falling_69x
def s_X12_justFall_69 (v6n13 : Int32) (kk69 : (Nat → Int64) → Option (Int64 × Int32 × Int32 × Int32 × Int32 × Int32 × Int32 × Int32 × Int32 × Int32 × Int32 × (Nat → Int64))) (rc69 : Int32 → (Nat → Int64) → Option (Int64 × Int32 × Int32 × Int32 × Int32 × Int32 × Int32 × Int32 × Int32 × Int32 × Int32 × (Nat → Int64))) (v7_69 : Int32) (m_falling_69 : (Nat → Int64)) : Option (Int64 × Int32 × Int32 × Int32 × Int32 × Int32 × Int32 × Int32 × Int32 × Int32 × Int32 × (Nat → Int64)) :=
  if v7_69 < 0 then
    kk69 m_falling_69
  else
    gd (ix v7_69 7) <|
    if v7_69 = 0 then
      gd (ix v7_69 7) <|
      lt1 ((v7_69 + (-1 : Int32))) <| fun v7n16 =>
      rc69 v7n16 ((vp_updL m_falling_69 v7_69.toNatClampNeg (((m_falling_69 v7_69.toNatClampNeg) * (((100 : Int32) - v6n13)).toInt64) + (0 : Int64))))
    else
      gd (ix (v7_69 - (1 : Int32)) 7) <|
      gd (ix v7_69 7) <|
      lt1 ((v7_69 + (-1 : Int32))) <| fun v7n15 =>
      rc69 v7n15 ((vp_updL m_falling_69 v7_69.toNatClampNeg (((m_falling_69 v7_69.toNatClampNeg) * (((100 : Int32) - v6n13)).toInt64) + ((m_falling_69 (v7_69 - (1 : Int32)).toNatClampNeg) * v6n13.toInt64))))
def s_X12_justFall_36 (p1 : Int32) (p3 : Int32) (p4 : Int32) (m_ruleSize : Int32) (m_kind : (Nat → Int32)) (m_height : (Nat → Int32)) (m_feet : (Nat → Int32)) (m_stride : (Nat → Int32)) (m_scope : (Nat → Int32)) (m_care : (Nat → Int32)) (m_plan : (Nat → Int32)) (m_rule : (Nat → Int32)) (kk36 : Int32 → Int32 → Int32 → Int32 → Int32 → Int32 → Int32 → Int32 → Int32 → Int32 → (Nat → Int64) → Option (Int64 × Int32 × Int32 × Int32 × Int32 × Int32 × Int32 × Int32 × Int32 × Int32 × Int32 × (Nat → Int64))) (rc36 : Int32 → Int32 → Int32 → Int32 → Int32 → Int32 → Int32 → Int32 → Int32 → Int32 → Int32 → (Nat → Int64) → Option (Int64 × Int32 × Int32 × Int32 × Int32 × Int32 × Int32 × Int32 × Int32 × Int32 × Int32 × (Nat → Int64))) (v5_36 : Int32) (m_read_36 : Int32) (m_length_36 : Int32) (m_top_36 : Int32) (m_at_36 : Int32) (m_wrong_36 : Int32) (m_isAsked_36 : Int32) (m_askedHorse_36 : Int32) (m_askedFence_36 : Int32) (m_askedLetter_36 : Int32) (m_askedHeight_36 : Int32) (m_falling_36 : (Nat → Int64)) : Option (Int64 × Int32 × Int32 × Int32 × Int32 × Int32 × Int32 × Int32 × Int32 × Int32 × Int32 × (Nat → Int64)) :=
  if p3 ≤ v5_36 then
    kk36 m_read_36 m_length_36 m_top_36 m_at_36 m_wrong_36 m_isAsked_36 m_askedHorse_36 m_askedFence_36 m_askedLetter_36 m_askedHeight_36 m_falling_36
  else
    bd1 (f_X12_letterOf (0 : Int32) p1 m_plan) <| fun rn1 =>
    bd11 (f_X12_oddsOf_ v5_36 p1 rn1 m_read_36 m_length_36 m_top_36 m_at_36 m_wrong_36 m_ruleSize m_isAsked_36 m_askedHorse_36 m_askedFence_36 m_askedLetter_36 m_askedHeight_36 m_kind m_height m_feet m_stride m_scope m_care m_rule) <| fun rn2 m_readn3 m_lengthn4 m_topn5 m_atn6 m_wrongn7 m_isAskedn8 m_askedHorsen9 m_askedFencen10 m_askedLettern11 m_askedHeightn12 =>
    lt1 ((if (rn2 + p4) < (100 : Int32) then (rn2 + p4) else (100 : Int32))) <| fun v6n13 =>
    ml2 (s_X12_justFall_69 v6n13 (k_X12_justFall_69 rc36 v5_36 m_readn3 m_lengthn4 m_topn5 m_atn6 m_wrongn7 m_isAskedn8 m_askedHorsen9 m_askedFencen10 m_askedLettern11 m_askedHeightn12)) zN (6 : Int32) m_falling_36
def k_X12_justFall_3 (p1 : Int32) (p2 : Int32) (p3 : Int32) (p4 : Int32) (m_read : Int32) (m_length : Int32) (m_top : Int32) (m_at : Int32) (m_wrong : Int32) (m_ruleSize : Int32) (m_isAsked : Int32) (m_askedHorse : Int32) (m_askedFence : Int32) (m_askedLetter : Int32) (m_askedHeight : Int32) (m_kind : (Nat → Int32)) (m_height : (Nat → Int32)) (m_feet : (Nat → Int32)) (m_stride : (Nat → Int32)) (m_scope : (Nat → Int32)) (m_care : (Nat → Int32)) (m_plan : (Nat → Int32)) (m_rule : (Nat → Int32)) (m_falling_3x : (Nat → Int64)) : Option (Int64 × Int32 × Int32 × Int32 × Int32 × Int32 × Int32 × Int32 × Int32 × Int32 × Int32 × (Nat → Int64)) :=
  ml12 (s_X12_justFall_36 p1 p3 p4 m_ruleSize m_kind m_height m_feet m_stride m_scope m_care m_plan m_rule (k_X12_justFall_36 p2)) zN (0 : Int32) m_read m_length m_top m_at m_wrong m_isAsked m_askedHorse m_askedFence m_askedLetter m_askedHeight m_falling_3x
def s_X12_justFall_3  (kk3 : (Nat → Int64) → Option (Int64 × Int32 × Int32 × Int32 × Int32 × Int32 × Int32 × Int32 × Int32 × Int32 × Int32 × (Nat → Int64))) (rc3 : Int32 → (Nat → Int64) → Option (Int64 × Int32 × Int32 × Int32 × Int32 × Int32 × Int32 × Int32 × Int32 × Int32 × Int32 × (Nat → Int64))) (v5_3 : Int32) (m_falling_3 : (Nat → Int64)) : Option (Int64 × Int32 × Int32 × Int32 × Int32 × Int32 × Int32 × Int32 × Int32 × Int32 × Int32 × (Nat → Int64)) :=
  if (6 : Int32) < v5_3 then
    kk3 m_falling_3
  else
    if v5_3 = 0 then
      gd (ix v5_3 7) <|
      lt1 ((v5_3 + (1 : Int32))) <| fun v5n18 =>
      rc3 v5n18 ((vp_updL m_falling_3 v5_3.toNatClampNeg (1 : Int64)))
    else
      gd (ix v5_3 7) <|
      lt1 ((v5_3 + (1 : Int32))) <| fun v5n17 =>
      rc3 v5n17 ((vp_updL m_falling_3 v5_3.toNatClampNeg (0 : Int64)))
def f_X12_justFall (p1 : Int32) (p2 : Int32) (p3 : Int32) (p4 : Int32) (m_read : Int32) (m_length : Int32) (m_top : Int32) (m_at : Int32) (m_wrong : Int32) (m_ruleSize : Int32) (m_isAsked : Int32) (m_askedHorse : Int32) (m_askedFence : Int32) (m_askedLetter : Int32) (m_askedHeight : Int32) (m_kind : (Nat → Int32)) (m_height : (Nat → Int32)) (m_feet : (Nat → Int32)) (m_stride : (Nat → Int32)) (m_scope : (Nat → Int32)) (m_care : (Nat → Int32)) (m_plan : (Nat → Int32)) (m_rule : (Nat → Int32)) (m_falling : (Nat → Int64)) : Option (Int64 × Int32 × Int32 × Int32 × Int32 × Int32 × Int32 × Int32 × Int32 × Int32 × Int32 × (Nat → Int64)) :=
  ml2 (s_X12_justFall_3 (k_X12_justFall_3 p1 p2 p3 p4 m_read m_length m_top m_at m_wrong m_ruleSize m_isAsked m_askedHorse m_askedFence m_askedLetter m_askedHeight m_kind m_height m_feet m_stride m_scope m_care m_plan m_rule)) zN (0 : Int32) m_falling
def k_X12_lay_m_now_m_kept_2 (m_kept_2x : (Nat → Int32)) : Option (Nat → Int32) :=
  some m_kept_2x
def s_X12_lay_m_now_m_kept_2 (p2 : Int32) (m_now : (Nat → Int32)) (kk2 : (Nat → Int32) → Option (Nat → Int32)) (rc2 : Int32 → (Nat → Int32) → Option (Nat → Int32)) (v3_2 : Int32) (m_kept_2 : (Nat → Int32)) : Option (Nat → Int32) :=
  if (49 : Int32) ≤ v3_2 then
    kk2 m_kept_2
  else
    gd (ix v3_2 49) <|
    gd (ix (p2 + v3_2) 98) <|
    lt1 ((v3_2 + (1 : Int32))) <| fun v3n1 =>
    rc2 v3n1 ((upd m_kept_2 (p2 + v3_2).toNatClampNeg (m_now v3_2.toNatClampNeg)))
def f_X12_lay_m_now_m_kept (p2 : Int32) (m_now : (Nat → Int32)) (m_kept : (Nat → Int32)) : Option (Nat → Int32) :=
  ml2 (s_X12_lay_m_now_m_kept_2 p2 m_now (k_X12_lay_m_now_m_kept_2)) zN (0 : Int32) m_kept
def f_X12_keep (p1 : Int32) (m_thrown : Int32) (m_now : (Nat → Int32)) (m_kept : (Nat → Int32)) (m_isKept : (Nat → Int32)) : Option (Int32 × Int32 × (Nat → Int32) × (Nat → Int32)) :=
  bd1 (f_X12_in p1 (0 : Int32) (1 : Int32)) <| fun rn1 =>
  if rn1 = 0 then
    some ((0 : Int32), (0 : Int32), m_kept, m_isKept)
  else
    gd (ix p1 2) <|
    bd1 (f_X12_lay_m_now_m_kept (((49 : Int32) * p1)) m_now m_kept) <| fun m_keptn2 =>
    some ((1 : Int32), (0 : Int32), m_keptn2, (upd m_isKept p1.toNatClampNeg (vp_nar .boolean (1 : Int32))))
def f_X12_kindOf (p0 : Int32) : Option Int32 :=
  if p0 = (117 : Int32) then
    some (0 : Int32)
  else
    if p0 = (119 : Int32) then
      some (1 : Int32)
    else
      if p0 = (100 : Int32) then
        some (2 : Int32)
      else
        if p0 = (108 : Int32) then
          some (3 : Int32)
        else
          some (-1 : Int32)
def f_X12_last (p1 : Int32) (m_fences : Int32) (m_allowed : Int32) (m_horses : Int32) (m_plans : Int32) (m_rowMany : Int32) (m_thrown : Int32) (m_read : Int32) (m_length : Int32) (m_top : Int32) (m_at : Int32) (m_wrong : Int32) (m_ruleSize : Int32) (m_isAsked : Int32) (m_askedHorse : Int32) (m_askedFence : Int32) (m_askedLetter : Int32) (m_askedHeight : Int32) (m_now : (Nat → Int32)) (m_kind : (Nat → Int32)) (m_height : (Nat → Int32)) (m_feet : (Nat → Int32)) (m_stride : (Nat → Int32)) (m_scope : (Nat → Int32)) (m_care : (Nat → Int32)) (m_plan : (Nat → Int32)) (m_money : (Nat → Int32)) (m_rule : (Nat → Int32)) (m_row : (Nat → Int64)) : Option (Int32 × Int32 × Int32 × Int32 × Int32 × Int32 × Int32 × Int32 × Int32 × Int32 × Int32 × Int32 × Int32 × (Nat → Int64)) :=
  bd1 (f_X12_isHorse p1 m_horses) <| fun rn1 =>
  if rn1 = 0 then
    some ((-1 : Int32), m_rowMany, (0 : Int32), m_read, m_length, m_top, m_at, m_wrong, m_isAsked, m_askedHorse, m_askedFence, m_askedLetter, m_askedHeight, m_row)
  else
    if m_plans = 0 then
      some ((-2 : Int32), m_rowMany, (0 : Int32), m_read, m_length, m_top, m_at, m_wrong, m_isAsked, m_askedHorse, m_askedFence, m_askedLetter, m_askedHeight, m_row)
    else
      bd11 (f_X12_bestPlan p1 m_fences m_allowed m_plans m_read m_length m_top m_at m_wrong m_ruleSize m_isAsked m_askedHorse m_askedFence m_askedLetter m_askedHeight m_now m_kind m_height m_feet m_stride m_scope m_care m_plan m_money m_rule) <| fun rn2 m_readn3 m_lengthn4 m_topn5 m_atn6 m_wrongn7 m_isAskedn8 m_askedHorsen9 m_askedFencen10 m_askedLettern11 m_askedHeightn12 =>
      bd11 (f_X12_meanOf p1 rn2 m_fences m_allowed m_readn3 m_lengthn4 m_topn5 m_atn6 m_wrongn7 m_ruleSize m_isAskedn8 m_askedHorsen9 m_askedFencen10 m_askedLettern11 m_askedHeightn12 m_now m_kind m_height m_feet m_stride m_scope m_care m_plan m_money m_rule) <| fun rn13 m_readn14 m_lengthn15 m_topn16 m_atn17 m_wrongn18 m_isAskedn19 m_askedHorsen20 m_askedFencen21 m_askedLettern22 m_askedHeightn23 =>
      bd2 (f_X12_tell (rn13.toInt64) (0 : Int32) m_row) <| fun m_rowManyn24 m_rown25 =>
      some (rn2, m_rowManyn24, (0 : Int32), m_readn14, m_lengthn15, m_topn16, m_atn17, m_wrongn18, m_isAskedn19, m_askedHorsen20, m_askedFencen21, m_askedLettern22, m_askedHeightn23, m_rown25)
def k_X12_lay_m_now_m_then_2 (m_then_2x : (Nat → Int32)) : Option (Nat → Int32) :=
  some m_then_2x
def s_X12_lay_m_now_m_then_2 (p2 : Int32) (m_now : (Nat → Int32)) (kk2 : (Nat → Int32) → Option (Nat → Int32)) (rc2 : Int32 → (Nat → Int32) → Option (Nat → Int32)) (v3_2 : Int32) (m_then_2 : (Nat → Int32)) : Option (Nat → Int32) :=
  if (49 : Int32) ≤ v3_2 then
    kk2 m_then_2
  else
    gd (ix v3_2 49) <|
    gd (ix (p2 + v3_2) 49) <|
    lt1 ((v3_2 + (1 : Int32))) <| fun v3n1 =>
    rc2 v3n1 ((upd m_then_2 (p2 + v3_2).toNatClampNeg (m_now v3_2.toNatClampNeg)))
def f_X12_lay_m_now_m_then (p2 : Int32) (m_now : (Nat → Int32)) (m_then : (Nat → Int32)) : Option (Nat → Int32) :=
  ml2 (s_X12_lay_m_now_m_then_2 p2 m_now (k_X12_lay_m_now_m_then_2)) zN (0 : Int32) m_then
def k_X12_placeOf_m_now_4 (v2_4x : Int32) : Option Int32 :=
  some v2_4x
def s_X12_placeOf_m_now_4 (p1 : Int32) (m_now : (Nat → Int32)) (kk4 : Int32 → Option Int32) (rc4 : Int32 → Int32 → Option Int32) (v2_4 : Int32) (v3_4 : Int32) : Option Int32 :=
  gd (ix (48 : Int32) 49) <|
  if (m_now (48 : Int32).toNatClampNeg) ≤ v3_4 then
    kk4 v2_4
  else
    if v3_4 = p1 then
      lt1 ((v3_4 + (1 : Int32))) <| fun v3n1 =>
      rc4 v2_4 v3n1
    else
      bd1 (f_X12_isAhead_m_now v3_4 p1 m_now) <| fun rn2 =>
      if rn2 = 0 then
        lt1 ((v3_4 + (1 : Int32))) <| fun v3n3 =>
        rc4 v2_4 v3n3
      else
        lt1 ((v2_4 + (1 : Int32))) <| fun v2n4 =>
        lt1 ((v3_4 + (1 : Int32))) <| fun v3n5 =>
        rc4 v2n4 v3n5
def f_X12_placeOf_m_now (p1 : Int32) (m_now : (Nat → Int32)) : Option Int32 :=
  ml2 (s_X12_placeOf_m_now_4 p1 m_now (k_X12_placeOf_m_now_4)) zN (1 : Int32) (0 : Int32)
def k_X12_placeOf_m_then_4 (v2_4x : Int32) : Option Int32 :=
  some v2_4x
def s_X12_placeOf_m_then_4 (p1 : Int32) (m_then : (Nat → Int32)) (kk4 : Int32 → Option Int32) (rc4 : Int32 → Int32 → Option Int32) (v2_4 : Int32) (v3_4 : Int32) : Option Int32 :=
  gd (ix (48 : Int32) 49) <|
  if (m_then (48 : Int32).toNatClampNeg) ≤ v3_4 then
    kk4 v2_4
  else
    if v3_4 = p1 then
      lt1 ((v3_4 + (1 : Int32))) <| fun v3n1 =>
      rc4 v2_4 v3n1
    else
      bd1 (f_X12_isAhead_m_then v3_4 p1 m_then) <| fun rn2 =>
      if rn2 = 0 then
        lt1 ((v3_4 + (1 : Int32))) <| fun v3n3 =>
        rc4 v2_4 v3n3
      else
        lt1 ((v2_4 + (1 : Int32))) <| fun v2n4 =>
        lt1 ((v3_4 + (1 : Int32))) <| fun v3n5 =>
        rc4 v2n4 v3n5
def f_X12_placeOf_m_then (p1 : Int32) (m_then : (Nat → Int32)) : Option Int32 :=
  ml2 (s_X12_placeOf_m_then_4 p1 m_then (k_X12_placeOf_m_then_4)) zN (1 : Int32) (0 : Int32)
def k_X12_tellPlaces_m_then_2 (m_rowMany_2x : Int32) (m_row_2x : (Nat → Int64)) : Option (Int32 × (Nat → Int64)) :=
  some (m_rowMany_2x, m_row_2x)
def k_X12_tellPlaces_m_then_12 (rc2 : Int32 → Int32 → (Nat → Int64) → Option (Int32 × (Nat → Int64))) (v2_2 : Int32) (m_rowMany_12x : Int32) (m_row_12x : (Nat → Int64)) : Option (Int32 × (Nat → Int64)) :=
  lt1 ((v2_2 + (1 : Int32))) <| fun v2n1 =>
  rc2 v2n1 m_rowMany_12x m_row_12x
def s_X12_tellPlaces_m_then_12 (m_then : (Nat → Int32)) (v2_2 : Int32) (kk12 : Int32 → (Nat → Int64) → Option (Int32 × (Nat → Int64))) (rc12 : Int32 → Int32 → (Nat → Int64) → Option (Int32 × (Nat → Int64))) (v3_12 : Int32) (m_rowMany_12 : Int32) (m_row_12 : (Nat → Int64)) : Option (Int32 × (Nat → Int64)) :=
  gd (ix (48 : Int32) 49) <|
  if (m_then (48 : Int32).toNatClampNeg) ≤ v3_12 then
    kk12 m_rowMany_12 m_row_12
  else
    bd1 (f_X12_placeOf_m_then v3_12 m_then) <| fun rn2 =>
    if rn2 = v2_2 then
      bd2 (f_X12_tell (v3_12.toInt64) m_rowMany_12 m_row_12) <| fun m_rowManyn4 m_rown5 =>
      lt1 ((v3_12 + (1 : Int32))) <| fun v3n6 =>
      rc12 v3n6 m_rowManyn4 m_rown5
    else
      lt1 ((v3_12 + (1 : Int32))) <| fun v3n3 =>
      rc12 v3n3 m_rowMany_12 m_row_12
def s_X12_tellPlaces_m_then_2 (m_then : (Nat → Int32)) (kk2 : Int32 → (Nat → Int64) → Option (Int32 × (Nat → Int64))) (rc2 : Int32 → Int32 → (Nat → Int64) → Option (Int32 × (Nat → Int64))) (v2_2 : Int32) (m_rowMany_2 : Int32) (m_row_2 : (Nat → Int64)) : Option (Int32 × (Nat → Int64)) :=
  gd (ix (48 : Int32) 49) <|
  if (m_then (48 : Int32).toNatClampNeg) < v2_2 then
    kk2 m_rowMany_2 m_row_2
  else
    ml3 (s_X12_tellPlaces_m_then_12 m_then v2_2 (k_X12_tellPlaces_m_then_12 rc2 v2_2)) zN (0 : Int32) m_rowMany_2 m_row_2
def f_X12_tellPlaces_m_then (m_rowMany : Int32) (m_then : (Nat → Int32)) (m_row : (Nat → Int64)) : Option (Int32 × (Nat → Int64)) :=
  ml3 (s_X12_tellPlaces_m_then_2 m_then (k_X12_tellPlaces_m_then_2)) zN (1 : Int32) m_rowMany m_row
def k_X12_law_119 (m_row : (Nat → Int64)) (m_then_42x : (Nat → Int32)) (v3_119x : Int32) : Option (Int32 × Int32 × Int32 × (Nat → Int32) × (Nat → Int64)) :=
  bd2 (f_X12_tellPlaces_m_then (0 : Int32) m_then_42x m_row) <| fun m_rowManyn4 m_rown5 =>
  some (v3_119x, m_rowManyn4, (0 : Int32), m_then_42x, m_rown5)
def s_X12_law_119 (m_now : (Nat → Int32)) (m_then_42x : (Nat → Int32)) (kk119 : Int32 → Option (Int32 × Int32 × Int32 × (Nat → Int32) × (Nat → Int64))) (rc119 : Int32 → Int32 → Option (Int32 × Int32 × Int32 × (Nat → Int32) × (Nat → Int64))) (v3_119 : Int32) (v4_119 : Int32) : Option (Int32 × Int32 × Int32 × (Nat → Int32) × (Nat → Int64)) :=
  gd (ix (48 : Int32) 49) <|
  if (m_then_42x (48 : Int32).toNatClampNeg) ≤ v4_119 then
    kk119 v3_119
  else
    bd1 (f_X12_placeOf_m_then v4_119 m_then_42x) <| fun rn6 =>
    bd1 (f_X12_placeOf_m_now v4_119 m_now) <| fun rn7 =>
    if rn6 = rn7 then
      lt1 ((v3_119 + (0 : Int32))) <| fun v3n10 =>
      lt1 ((v4_119 + (1 : Int32))) <| fun v4n11 =>
      rc119 v3n10 v4n11
    else
      lt1 ((v3_119 + (1 : Int32))) <| fun v3n8 =>
      lt1 ((v4_119 + (1 : Int32))) <| fun v4n9 =>
      rc119 v3n8 v4n9
def k_X12_law_42 (m_now : (Nat → Int32)) (m_row : (Nat → Int64)) (m_then_42x : (Nat → Int32)) : Option (Int32 × Int32 × Int32 × (Nat → Int32) × (Nat → Int64)) :=
  ml2 (s_X12_law_119 m_now m_then_42x (k_X12_law_119 m_row m_then_42x)) zN (0 : Int32) (0 : Int32)
def s_X12_law_42 (p1 : Int32) (p2 : Int32) (m_allowed : Int32) (kk42 : (Nat → Int32) → Option (Int32 × Int32 × Int32 × (Nat → Int32) × (Nat → Int64))) (rc42 : Int32 → (Nat → Int32) → Option (Int32 × Int32 × Int32 × (Nat → Int32) × (Nat → Int64))) (v3_42 : Int32) (m_then_42 : (Nat → Int32)) : Option (Int32 × Int32 × Int32 × (Nat → Int32) × (Nat → Int64)) :=
  gd (ix (48 : Int32) 49) <|
  if (m_then_42 (48 : Int32).toNatClampNeg) ≤ v3_42 then
    kk42 m_then_42
  else
    gd (ix (((4 : Int32) * v3_42) + (3 : Int32)) 49) <|
    lt1 ((m_then_42 (((4 : Int32) * v3_42) + (3 : Int32)).toNatClampNeg)) <| fun v4n12 =>
    gd (ix (((4 : Int32) * v3_42) + (2 : Int32)) 49) <|
    bd1 (f_X12_timeFaults v4n12 (40 : Int32) (1 : Int32) m_allowed) <| fun rn13 =>
    bd1 (f_X12_timeFaults v4n12 p1 p2 m_allowed) <| fun rn14 =>
    gd (ix (((4 : Int32) * v3_42) + (2 : Int32)) 49) <|
    lt1 ((v3_42 + (1 : Int32))) <| fun v3n15 =>
    rc42 v3n15 ((upd m_then_42 (((4 : Int32) * v3_42) + (2 : Int32)).toNatClampNeg ((if (0 : Int32) < ((m_then_42 (((4 : Int32) * v3_42) + (2 : Int32)).toNatClampNeg) - rn13) then ((m_then_42 (((4 : Int32) * v3_42) + (2 : Int32)).toNatClampNeg) - rn13) else (0 : Int32)) + rn14)))
def f_X12_law (p1 : Int32) (p2 : Int32) (m_allowed : Int32) (m_rowMany : Int32) (m_thrown : Int32) (m_now : (Nat → Int32)) (m_then : (Nat → Int32)) (m_row : (Nat → Int64)) : Option (Int32 × Int32 × Int32 × (Nat → Int32) × (Nat → Int64)) :=
  bd1 (f_X12_in p1 (1 : Int32) (999 : Int32)) <| fun rn1 =>
  if rn1 = 0 then
    some ((-1 : Int32), m_rowMany, (0 : Int32), m_then, m_row)
  else
    bd1 (f_X12_in p2 (0 : Int32) (9 : Int32)) <| fun rn2 =>
    if rn2 = 0 then
      some ((-1 : Int32), m_rowMany, (0 : Int32), m_then, m_row)
    else
      bd1 (f_X12_lay_m_now_m_then (0 : Int32) m_now m_then) <| fun m_thenn3 =>
      ml2 (s_X12_law_42 p1 p2 m_allowed (k_X12_law_42 m_now m_row)) zN (0 : Int32) m_thenn3
def k_X12_lay_m_aside_m_undos_2 (m_undos_2x : (Nat → Int32)) : Option (Nat → Int32) :=
  some m_undos_2x
def s_X12_lay_m_aside_m_undos_2 (p2 : Int32) (m_aside : (Nat → Int32)) (kk2 : (Nat → Int32) → Option (Nat → Int32)) (rc2 : Int32 → (Nat → Int32) → Option (Nat → Int32)) (v3_2 : Int32) (m_undos_2 : (Nat → Int32)) : Option (Nat → Int32) :=
  if (49 : Int32) ≤ v3_2 then
    kk2 m_undos_2
  else
    gd (ix v3_2 49) <|
    gd (ix (p2 + v3_2) 588) <|
    lt1 ((v3_2 + (1 : Int32))) <| fun v3n1 =>
    rc2 v3n1 ((upd m_undos_2 (p2 + v3_2).toNatClampNeg (m_aside v3_2.toNatClampNeg)))
def f_X12_lay_m_aside_m_undos (p2 : Int32) (m_undos : (Nat → Int32)) (m_aside : (Nat → Int32)) : Option (Nat → Int32) :=
  ml2 (s_X12_lay_m_aside_m_undos_2 p2 m_aside (k_X12_lay_m_aside_m_undos_2)) zN (0 : Int32) m_undos
def k_X12_lay_m_now_m_aside_2 (m_aside_2x : (Nat → Int32)) : Option (Nat → Int32) :=
  some m_aside_2x
def s_X12_lay_m_now_m_aside_2 (p2 : Int32) (m_now : (Nat → Int32)) (kk2 : (Nat → Int32) → Option (Nat → Int32)) (rc2 : Int32 → (Nat → Int32) → Option (Nat → Int32)) (v3_2 : Int32) (m_aside_2 : (Nat → Int32)) : Option (Nat → Int32) :=
  if (49 : Int32) ≤ v3_2 then
    kk2 m_aside_2
  else
    gd (ix v3_2 49) <|
    gd (ix (p2 + v3_2) 49) <|
    lt1 ((v3_2 + (1 : Int32))) <| fun v3n1 =>
    rc2 v3n1 ((upd m_aside_2 (p2 + v3_2).toNatClampNeg (m_now v3_2.toNatClampNeg)))
def f_X12_lay_m_now_m_aside (p2 : Int32) (m_now : (Nat → Int32)) (m_aside : (Nat → Int32)) : Option (Nat → Int32) :=
  ml2 (s_X12_lay_m_now_m_aside_2 p2 m_now (k_X12_lay_m_now_m_aside_2)) zN (0 : Int32) m_aside
def k_X12_lay_m_now_m_undos_2 (m_undos_2x : (Nat → Int32)) : Option (Nat → Int32) :=
  some m_undos_2x
def s_X12_lay_m_now_m_undos_2 (p2 : Int32) (m_now : (Nat → Int32)) (kk2 : (Nat → Int32) → Option (Nat → Int32)) (rc2 : Int32 → (Nat → Int32) → Option (Nat → Int32)) (v3_2 : Int32) (m_undos_2 : (Nat → Int32)) : Option (Nat → Int32) :=
  if (49 : Int32) ≤ v3_2 then
    kk2 m_undos_2
  else
    gd (ix v3_2 49) <|
    gd (ix (p2 + v3_2) 588) <|
    lt1 ((v3_2 + (1 : Int32))) <| fun v3n1 =>
    rc2 v3n1 ((upd m_undos_2 (p2 + v3_2).toNatClampNeg (m_now v3_2.toNatClampNeg)))
def f_X12_lay_m_now_m_undos (p2 : Int32) (m_now : (Nat → Int32)) (m_undos : (Nat → Int32)) : Option (Nat → Int32) :=
  ml2 (s_X12_lay_m_now_m_undos_2 p2 m_now (k_X12_lay_m_now_m_undos_2)) zN (0 : Int32) m_undos
def f_X12_tellRound (m_rowMany : Int32) (m_rodeTenths : Int32) (m_refused : Int32) (m_down : Int32) (m_drawn : Int32) (m_row : (Nat → Int64)) : Option (Int32 × (Nat → Int64)) :=
  bd2 (f_X12_tell (m_rodeTenths.toInt64) (0 : Int32) m_row) <| fun m_rowManyn1 m_rown2 =>
  bd2 (f_X12_tell (m_refused.toInt64) m_rowManyn1 m_rown2) <| fun m_rowManyn3 m_rown4 =>
  bd2 (f_X12_tell (m_down.toInt64) m_rowManyn3 m_rown4) <| fun m_rowManyn5 m_rown6 =>
  bd2 (f_X12_tell (m_drawn.toInt64) m_rowManyn5 m_rown6) <| fun m_rowManyn7 m_rown8 =>
  some (m_rowManyn7, m_rown8)
def f_X12_look (p1 : Int32) (p2 : Int32) (p3 : Int32) (m_fences : Int32) (m_allowed : Int32) (m_horses : Int32) (m_plans : Int32) (m_rowMany : Int32) (m_thrown : Int32) (m_read : Int32) (m_length : Int32) (m_top : Int32) (m_at : Int32) (m_wrong : Int32) (m_ruleSize : Int32) (m_isAsked : Int32) (m_askedHorse : Int32) (m_askedFence : Int32) (m_askedLetter : Int32) (m_askedHeight : Int32) (m_rodeTenths : Int32) (m_refused : Int32) (m_down : Int32) (m_drawn : Int32) (m_kind : (Nat → Int32)) (m_height : (Nat → Int32)) (m_feet : (Nat → Int32)) (m_stride : (Nat → Int32)) (m_scope : (Nat → Int32)) (m_care : (Nat → Int32)) (m_plan : (Nat → Int32)) (m_rule : (Nat → Int32)) (m_row : (Nat → Int64)) : Option (Int32 × Int32 × Int32 × Int32 × Int32 × Int32 × Int32 × Int32 × Int32 × Int32 × Int32 × Int32 × Int32 × Int32 × Int32 × Int32 × Int32 × (Nat → Int64)) :=
  bd1 (f_X12_areBoth p1 p2 m_horses m_plans) <| fun rn1 =>
  if rn1 = 0 then
    some ((-1 : Int32), m_rowMany, (0 : Int32), m_read, m_length, m_top, m_at, m_wrong, m_isAsked, m_askedHorse, m_askedFence, m_askedLetter, m_askedHeight, m_rodeTenths, m_refused, m_down, m_drawn, m_row)
  else
    bd15 (f_X12_goRound p1 p2 p3 m_fences m_allowed m_read m_length m_top m_at m_wrong m_ruleSize m_isAsked m_askedHorse m_askedFence m_askedLetter m_askedHeight m_rodeTenths m_refused m_down m_drawn m_kind m_height m_feet m_stride m_scope m_care m_plan m_rule) <| fun rn2 m_readn3 m_lengthn4 m_topn5 m_atn6 m_wrongn7 m_isAskedn8 m_askedHorsen9 m_askedFencen10 m_askedLettern11 m_askedHeightn12 m_rodeTenthsn13 m_refusedn14 m_downn15 m_drawnn16 =>
    bd2 (f_X12_tellRound m_rowMany m_rodeTenthsn13 m_refusedn14 m_downn15 m_drawnn16 m_row) <| fun m_rowManyn17 m_rown18 =>
    some (rn2, m_rowManyn17, (0 : Int32), m_readn3, m_lengthn4, m_topn5, m_atn6, m_wrongn7, m_isAskedn8, m_askedHorsen9, m_askedFencen10, m_askedLettern11, m_askedHeightn12, m_rodeTenthsn13, m_refusedn14, m_downn15, m_drawnn16, m_rown18)
def k_X12_lot_55 (m_row : (Nat → Int64)) (m_typedn2 : Int32) (m_comingManyn3 : Int32) (m_asTold_20x : (Nat → Int32)) (v2_55x : Int32) (v3_55x : Int64) (m_read_55x : Int32) (m_length_55x : Int32) (m_top_55x : Int32) (m_at_55x : Int32) (m_wrong_55x : Int32) (m_isAsked_55x : Int32) (m_askedHorse_55x : Int32) (m_askedFence_55x : Int32) (m_askedLetter_55x : Int32) (m_askedHeight_55x : Int32) (m_coming_55x : (Nat → Int32)) (m_planOf_55x : (Nat → Int32)) (m_extra_55x : (Nat → Int32)) (m_wins_55x : (Nat → Int64)) : Option (Int32 × Int32 × Int32 × Int32 × Int32 × Int32 × Int32 × Int32 × Int32 × Int32 × Int32 × Int32 × Int32 × Int32 × Int32 × (Nat → Int32) × (Nat → Int32) × (Nat → Int32) × (Nat → Int32) × (Nat → Int64) × (Nat → Int64)) :=
  bd1 (f_X12_power (10000 : Int64) m_comingManyn3) <| fun rn5 =>
  bd2 (f_X12_tellPart v3_55x rn5 (0 : Int32) m_row) <| fun m_rowManyn6 m_rown7 =>
  some (v2_55x, m_typedn2, m_rowManyn6, (0 : Int32), m_read_55x, m_length_55x, m_top_55x, m_at_55x, m_wrong_55x, m_isAsked_55x, m_askedHorse_55x, m_askedFence_55x, m_askedLetter_55x, m_askedHeight_55x, m_comingManyn3, m_coming_55x, m_planOf_55x, m_extra_55x, m_asTold_20x, m_rown7, m_wins_55x)
def k_X12_lot_70 (m_fences : Int32) (m_allowed : Int32) (m_plans : Int32) (m_ruleSize : Int32) (m_now : (Nat → Int32)) (m_kind : (Nat → Int32)) (m_height : (Nat → Int32)) (m_feet : (Nat → Int32)) (m_stride : (Nat → Int32)) (m_scope : (Nat → Int32)) (m_care : (Nat → Int32)) (m_plan : (Nat → Int32)) (m_money : (Nat → Int32)) (m_rule : (Nat → Int32)) (m_comingManyn3 : Int32) (rc55 : Int32 → Int64 → Int32 → Int32 → Int32 → Int32 → Int32 → Int32 → Int32 → Int32 → Int32 → Int32 → Int32 → (Nat → Int32) → (Nat → Int32) → (Nat → Int32) → (Nat → Int64) → Option (Int32 × Int32 × Int32 × Int32 × Int32 × Int32 × Int32 × Int32 × Int32 × Int32 × Int32 × Int32 × Int32 × Int32 × Int32 × (Nat → Int32) × (Nat → Int32) × (Nat → Int32) × (Nat → Int32) × (Nat → Int64) × (Nat → Int64))) (v2_55 : Int32) (v3_55 : Int64) (v5_55 : Int32) (m_read_55 : Int32) (m_length_55 : Int32) (m_top_55 : Int32) (m_at_55 : Int32) (m_wrong_55 : Int32) (m_isAsked_55 : Int32) (m_askedHorse_55 : Int32) (m_askedFence_55 : Int32) (m_askedLetter_55 : Int32) (m_askedHeight_55 : Int32) (m_planOf_55 : (Nat → Int32)) (m_extra_55 : (Nat → Int32)) (m_wins_55 : (Nat → Int64)) (m_coming_70x : (Nat → Int32)) : Option (Int32 × Int32 × Int32 × Int32 × Int32 × Int32 × Int32 × Int32 × Int32 × Int32 × Int32 × Int32 × Int32 × Int32 × Int32 × (Nat → Int32) × (Nat → Int32) × (Nat → Int32) × (Nat → Int32) × (Nat → Int64) × (Nat → Int64)) :=
  bd13 (f_X12_goGame 200 (0 : Int32) m_fences m_allowed m_plans m_read_55 m_length_55 m_top_55 m_at_55 m_wrong_55 m_ruleSize m_isAsked_55 m_askedHorse_55 m_askedFence_55 m_askedLetter_55 m_askedHeight_55 m_comingManyn3 m_now m_kind m_height m_feet m_stride m_scope m_care m_plan m_money m_rule m_coming_70x m_planOf_55 m_extra_55 m_wins_55) <| fun m_readn8 m_lengthn9 m_topn10 m_atn11 m_wrongn12 m_isAskedn13 m_askedHorsen14 m_askedFencen15 m_askedLettern16 m_askedHeightn17 m_planOfn18 m_extran19 m_winsn20 =>
  gd (ix v5_55 12) <|
  if 0 < (lg_cmp (m_winsn20 v5_55.toNatClampNeg) v3_55) then
    gd (ix v5_55 12) <|
    lt1 ((m_winsn20 v5_55.toNatClampNeg)) <| fun v3n21 =>
    lt1 ((v5_55 + (1 : Int32))) <| fun v5n22 =>
    rc55 v5_55 v3n21 v5n22 m_readn8 m_lengthn9 m_topn10 m_atn11 m_wrongn12 m_isAskedn13 m_askedHorsen14 m_askedFencen15 m_askedLettern16 m_askedHeightn17 m_coming_70x m_planOfn18 m_extran19 m_winsn20
  else
    lt1 ((v5_55 + (1 : Int32))) <| fun v5n23 =>
    rc55 v2_55 v3_55 v5n23 m_readn8 m_lengthn9 m_topn10 m_atn11 m_wrongn12 m_isAskedn13 m_askedHorsen14 m_askedFencen15 m_askedLettern16 m_askedHeightn17 m_coming_70x m_planOfn18 m_extran19 m_winsn20
def s_X12_lot_70 (m_comingManyn3 : Int32) (m_asTold_20x : (Nat → Int32)) (v5_55 : Int32) (kk70 : (Nat → Int32) → Option (Int32 × Int32 × Int32 × Int32 × Int32 × Int32 × Int32 × Int32 × Int32 × Int32 × Int32 × Int32 × Int32 × Int32 × Int32 × (Nat → Int32) × (Nat → Int32) × (Nat → Int32) × (Nat → Int32) × (Nat → Int64) × (Nat → Int64))) (rc70 : Int32 → Int32 → (Nat → Int32) → Option (Int32 × Int32 × Int32 × Int32 × Int32 × Int32 × Int32 × Int32 × Int32 × Int32 × Int32 × Int32 × Int32 × Int32 × Int32 × (Nat → Int32) × (Nat → Int32) × (Nat → Int32) × (Nat → Int32) × (Nat → Int64) × (Nat → Int64))) (v6_70 : Int32) (v7_70 : Int32) (m_coming_70 : (Nat → Int32)) : Option (Int32 × Int32 × Int32 × Int32 × Int32 × Int32 × Int32 × Int32 × Int32 × Int32 × Int32 × Int32 × Int32 × Int32 × Int32 × (Nat → Int32) × (Nat → Int32) × (Nat → Int32) × (Nat → Int32) × (Nat → Int64) × (Nat → Int64)) :=
  if m_comingManyn3 ≤ v7_70 then
    kk70 m_coming_70
  else
    if v7_70 = v5_55 then
      gd (ix (0 : Int32) 3) <|
      gd (ix v7_70 3) <|
      if v7_70 = v5_55 then
        lt1 ((v7_70 + (1 : Int32))) <| fun v7n27 =>
        rc70 v6_70 v7n27 ((upd m_coming_70 v7_70.toNatClampNeg (m_asTold_20x (0 : Int32).toNatClampNeg)))
      else
        lt1 ((v6_70 + (1 : Int32))) <| fun v6n28 =>
        lt1 ((v7_70 + (1 : Int32))) <| fun v7n29 =>
        rc70 v6n28 v7n29 ((upd m_coming_70 v7_70.toNatClampNeg (m_asTold_20x (0 : Int32).toNatClampNeg)))
    else
      gd (ix v6_70 3) <|
      gd (ix v7_70 3) <|
      if v7_70 = v5_55 then
        lt1 ((v7_70 + (1 : Int32))) <| fun v7n24 =>
        rc70 v6_70 v7n24 ((upd m_coming_70 v7_70.toNatClampNeg (m_asTold_20x v6_70.toNatClampNeg)))
      else
        lt1 ((v6_70 + (1 : Int32))) <| fun v6n25 =>
        lt1 ((v7_70 + (1 : Int32))) <| fun v7n26 =>
        rc70 v6n25 v7n26 ((upd m_coming_70 v7_70.toNatClampNeg (m_asTold_20x v6_70.toNatClampNeg)))
def s_X12_lot_55 (m_fences : Int32) (m_allowed : Int32) (m_plans : Int32) (m_ruleSize : Int32) (m_now : (Nat → Int32)) (m_kind : (Nat → Int32)) (m_height : (Nat → Int32)) (m_feet : (Nat → Int32)) (m_stride : (Nat → Int32)) (m_scope : (Nat → Int32)) (m_care : (Nat → Int32)) (m_plan : (Nat → Int32)) (m_money : (Nat → Int32)) (m_rule : (Nat → Int32)) (m_comingManyn3 : Int32) (m_asTold_20x : (Nat → Int32)) (kk55 : Int32 → Int64 → Int32 → Int32 → Int32 → Int32 → Int32 → Int32 → Int32 → Int32 → Int32 → Int32 → (Nat → Int32) → (Nat → Int32) → (Nat → Int32) → (Nat → Int64) → Option (Int32 × Int32 × Int32 × Int32 × Int32 × Int32 × Int32 × Int32 × Int32 × Int32 × Int32 × Int32 × Int32 × Int32 × Int32 × (Nat → Int32) × (Nat → Int32) × (Nat → Int32) × (Nat → Int32) × (Nat → Int64) × (Nat → Int64))) (rc55 : Int32 → Int64 → Int32 → Int32 → Int32 → Int32 → Int32 → Int32 → Int32 → Int32 → Int32 → Int32 → Int32 → (Nat → Int32) → (Nat → Int32) → (Nat → Int32) → (Nat → Int64) → Option (Int32 × Int32 × Int32 × Int32 × Int32 × Int32 × Int32 × Int32 × Int32 × Int32 × Int32 × Int32 × Int32 × Int32 × Int32 × (Nat → Int32) × (Nat → Int32) × (Nat → Int32) × (Nat → Int32) × (Nat → Int64) × (Nat → Int64))) (v2_55 : Int32) (v3_55 : Int64) (v5_55 : Int32) (m_read_55 : Int32) (m_length_55 : Int32) (m_top_55 : Int32) (m_at_55 : Int32) (m_wrong_55 : Int32) (m_isAsked_55 : Int32) (m_askedHorse_55 : Int32) (m_askedFence_55 : Int32) (m_askedLetter_55 : Int32) (m_askedHeight_55 : Int32) (m_coming_55 : (Nat → Int32)) (m_planOf_55 : (Nat → Int32)) (m_extra_55 : (Nat → Int32)) (m_wins_55 : (Nat → Int64)) : Option (Int32 × Int32 × Int32 × Int32 × Int32 × Int32 × Int32 × Int32 × Int32 × Int32 × Int32 × Int32 × Int32 × Int32 × Int32 × (Nat → Int32) × (Nat → Int32) × (Nat → Int32) × (Nat → Int32) × (Nat → Int64) × (Nat → Int64)) :=
  if m_comingManyn3 ≤ v5_55 then
    kk55 v2_55 v3_55 m_read_55 m_length_55 m_top_55 m_at_55 m_wrong_55 m_isAsked_55 m_askedHorse_55 m_askedFence_55 m_askedLetter_55 m_askedHeight_55 m_coming_55 m_planOf_55 m_extra_55 m_wins_55
  else
    ml3 (s_X12_lot_70 m_comingManyn3 m_asTold_20x v5_55 (k_X12_lot_70 m_fences m_allowed m_plans m_ruleSize m_now m_kind m_height m_feet m_stride m_scope m_care m_plan m_money m_rule m_comingManyn3 rc55 v2_55 v3_55 v5_55 m_read_55 m_length_55 m_top_55 m_at_55 m_wrong_55 m_isAsked_55 m_askedHorse_55 m_askedFence_55 m_askedLetter_55 m_askedHeight_55 m_planOf_55 m_extra_55 m_wins_55)) zN (1 : Int32) (0 : Int32) m_coming_55
def k_X12_lot_20 (m_fences : Int32) (m_allowed : Int32) (m_plans : Int32) (m_read : Int32) (m_length : Int32) (m_top : Int32) (m_at : Int32) (m_wrong : Int32) (m_ruleSize : Int32) (m_isAsked : Int32) (m_askedHorse : Int32) (m_askedFence : Int32) (m_askedLetter : Int32) (m_askedHeight : Int32) (m_now : (Nat → Int32)) (m_kind : (Nat → Int32)) (m_height : (Nat → Int32)) (m_feet : (Nat → Int32)) (m_stride : (Nat → Int32)) (m_scope : (Nat → Int32)) (m_care : (Nat → Int32)) (m_plan : (Nat → Int32)) (m_money : (Nat → Int32)) (m_rule : (Nat → Int32)) (m_planOf : (Nat → Int32)) (m_extra : (Nat → Int32)) (m_row : (Nat → Int64)) (m_wins : (Nat → Int64)) (m_typedn2 : Int32) (m_comingManyn3 : Int32) (m_comingn4 : (Nat → Int32)) (m_asTold_20x : (Nat → Int32)) : Option (Int32 × Int32 × Int32 × Int32 × Int32 × Int32 × Int32 × Int32 × Int32 × Int32 × Int32 × Int32 × Int32 × Int32 × Int32 × (Nat → Int32) × (Nat → Int32) × (Nat → Int32) × (Nat → Int32) × (Nat → Int64) × (Nat → Int64)) :=
  ml17 (s_X12_lot_55 m_fences m_allowed m_plans m_ruleSize m_now m_kind m_height m_feet m_stride m_scope m_care m_plan m_money m_rule m_comingManyn3 m_asTold_20x (k_X12_lot_55 m_row m_typedn2 m_comingManyn3 m_asTold_20x)) zN (0 : Int32) (-1 : Int64) (0 : Int32) m_read m_length m_top m_at m_wrong m_isAsked m_askedHorse m_askedFence m_askedLetter m_askedHeight m_comingn4 m_planOf m_extra m_wins
def s_X12_lot_20 (m_comingManyn3 : Int32) (m_comingn4 : (Nat → Int32)) (kk20 : (Nat → Int32) → Option (Int32 × Int32 × Int32 × Int32 × Int32 × Int32 × Int32 × Int32 × Int32 × Int32 × Int32 × Int32 × Int32 × Int32 × Int32 × (Nat → Int32) × (Nat → Int32) × (Nat → Int32) × (Nat → Int32) × (Nat → Int64) × (Nat → Int64))) (rc20 : Int32 → (Nat → Int32) → Option (Int32 × Int32 × Int32 × Int32 × Int32 × Int32 × Int32 × Int32 × Int32 × Int32 × Int32 × Int32 × Int32 × Int32 × Int32 × (Nat → Int32) × (Nat → Int32) × (Nat → Int32) × (Nat → Int32) × (Nat → Int64) × (Nat → Int64))) (v2_20 : Int32) (m_asTold_20 : (Nat → Int32)) : Option (Int32 × Int32 × Int32 × Int32 × Int32 × Int32 × Int32 × Int32 × Int32 × Int32 × Int32 × Int32 × Int32 × Int32 × Int32 × (Nat → Int32) × (Nat → Int32) × (Nat → Int32) × (Nat → Int32) × (Nat → Int64) × (Nat → Int64)) :=
  if m_comingManyn3 ≤ v2_20 then
    kk20 m_asTold_20
  else
    gd (ix v2_20 3) <|
    gd (ix v2_20 3) <|
    lt1 ((v2_20 + (1 : Int32))) <| fun v2n30 =>
    rc20 v2n30 ((upd m_asTold_20 v2_20.toNatClampNeg (m_comingn4 v2_20.toNatClampNeg)))
def f_X12_lot (m_fences : Int32) (m_allowed : Int32) (m_horses : Int32) (m_plans : Int32) (m_typed : Int32) (m_rowMany : Int32) (m_thrown : Int32) (m_read : Int32) (m_length : Int32) (m_top : Int32) (m_at : Int32) (m_wrong : Int32) (m_ruleSize : Int32) (m_isAsked : Int32) (m_askedHorse : Int32) (m_askedFence : Int32) (m_askedLetter : Int32) (m_askedHeight : Int32) (m_comingMany : Int32) (m_now : (Nat → Int32)) (m_kind : (Nat → Int32)) (m_height : (Nat → Int32)) (m_feet : (Nat → Int32)) (m_stride : (Nat → Int32)) (m_scope : (Nat → Int32)) (m_care : (Nat → Int32)) (m_plan : (Nat → Int32)) (m_money : (Nat → Int32)) (m_text : (Nat → Int32)) (m_rule : (Nat → Int32)) (m_coming : (Nat → Int32)) (m_planOf : (Nat → Int32)) (m_extra : (Nat → Int32)) (m_asTold : (Nat → Int32)) (m_row : (Nat → Int64)) (m_wins : (Nat → Int64)) : Option (Int32 × Int32 × Int32 × Int32 × Int32 × Int32 × Int32 × Int32 × Int32 × Int32 × Int32 × Int32 × Int32 × Int32 × Int32 × (Nat → Int32) × (Nat → Int32) × (Nat → Int32) × (Nat → Int32) × (Nat → Int64) × (Nat → Int64)) :=
  bd4 (f_X12_readComing (2 : Int32) (3 : Int32) m_horses m_plans m_typed m_comingMany m_text m_coming) <| fun rn1 m_typedn2 m_comingManyn3 m_comingn4 =>
  if 0 ≤ rn1 then
    ml2 (s_X12_lot_20 m_comingManyn3 m_comingn4 (k_X12_lot_20 m_fences m_allowed m_plans m_read m_length m_top m_at m_wrong m_ruleSize m_isAsked m_askedHorse m_askedFence m_askedLetter m_askedHeight m_now m_kind m_height m_feet m_stride m_scope m_care m_plan m_money m_rule m_planOf m_extra m_row m_wins m_typedn2 m_comingManyn3 m_comingn4)) zN (0 : Int32) m_asTold
  else
    some (rn1, m_typedn2, m_rowMany, (0 : Int32), m_read, m_length, m_top, m_at, m_wrong, m_isAsked, m_askedHorse, m_askedFence, m_askedLetter, m_askedHeight, m_comingManyn3, m_comingn4, m_planOf, m_extra, m_asTold, m_row, m_wins)
def f_X12_mean (p1 : Int32) (p2 : Int32) (m_fences : Int32) (m_allowed : Int32) (m_horses : Int32) (m_plans : Int32) (m_rowMany : Int32) (m_thrown : Int32) (m_read : Int32) (m_length : Int32) (m_top : Int32) (m_at : Int32) (m_wrong : Int32) (m_ruleSize : Int32) (m_isAsked : Int32) (m_askedHorse : Int32) (m_askedFence : Int32) (m_askedLetter : Int32) (m_askedHeight : Int32) (m_now : (Nat → Int32)) (m_kind : (Nat → Int32)) (m_height : (Nat → Int32)) (m_feet : (Nat → Int32)) (m_stride : (Nat → Int32)) (m_scope : (Nat → Int32)) (m_care : (Nat → Int32)) (m_plan : (Nat → Int32)) (m_money : (Nat → Int32)) (m_rule : (Nat → Int32)) (m_row : (Nat → Int64)) : Option (Int32 × Int32 × Int32 × Int32 × Int32 × Int32 × Int32 × Int32 × Int32 × Int32 × Int32 × Int32 × Int32 × (Nat → Int64)) :=
  bd1 (f_X12_areBoth p1 p2 m_horses m_plans) <| fun rn1 =>
  if rn1 = 0 then
    some ((-1 : Int32), m_rowMany, (0 : Int32), m_read, m_length, m_top, m_at, m_wrong, m_isAsked, m_askedHorse, m_askedFence, m_askedLetter, m_askedHeight, m_row)
  else
    bd1 (f_X12_moneyFor_m_now p2 (1 : Int32) m_fences m_allowed m_now m_kind m_feet m_plan m_money) <| fun rn2 =>
    bd2 (f_X12_tell (rn2.toInt64) (0 : Int32) m_row) <| fun m_rowManyn3 m_rown4 =>
    bd1 (f_X12_moneyFor_m_now p2 (0 : Int32) m_fences m_allowed m_now m_kind m_feet m_plan m_money) <| fun rn5 =>
    bd2 (f_X12_tell (rn5.toInt64) m_rowManyn3 m_rown4) <| fun m_rowManyn6 m_rown7 =>
    bd11 (f_X12_meanOf p1 p2 m_fences m_allowed m_read m_length m_top m_at m_wrong m_ruleSize m_isAsked m_askedHorse m_askedFence m_askedLetter m_askedHeight m_now m_kind m_height m_feet m_stride m_scope m_care m_plan m_money m_rule) <| fun rn8 m_readn9 m_lengthn10 m_topn11 m_atn12 m_wrongn13 m_isAskedn14 m_askedHorsen15 m_askedFencen16 m_askedLettern17 m_askedHeightn18 =>
    some (rn8, m_rowManyn6, (0 : Int32), m_readn9, m_lengthn10, m_topn11, m_atn12, m_wrongn13, m_isAskedn14, m_askedHorsen15, m_askedFencen16, m_askedLettern17, m_askedHeightn18, m_rown7)
def f_X12_move (p1 : Int32) (p2 : Int32) (m_fences : Int32) (m_thrown : Int32) (m_feet : (Nat → Int32)) : Option (Int32 × Int32 × (Nat → Int32)) :=
  bd1 (f_X12_isFence p1 m_fences) <| fun rn1 =>
  if rn1 = 0 then
    some ((-1 : Int32), (0 : Int32), m_feet)
  else
    bd1 (f_X12_in p2 (10 : Int32) (99 : Int32)) <| fun rn2 =>
    if rn2 = 0 then
      some ((-1 : Int32), (0 : Int32), m_feet)
    else
      gd (ix p1 8) <|
      lt1 ((m_feet p1.toNatClampNeg)) <| fun v3n3 =>
      gd (ix p1 8) <|
      some (v3n3, (0 : Int32), (upd m_feet p1.toNatClampNeg p2))
def k_X12_offBy_32 (m_part_4x : (Nat → Int32)) (v3_32x : Int32) : Option (Int32 × (Nat → Int32)) :=
  some (v3_32x, m_part_4x)
def s_X12_offBy_32 (m_now : (Nat → Int32)) (m_part_4x : (Nat → Int32)) (kk32 : Int32 → Option (Int32 × (Nat → Int32))) (rc32 : Int32 → Int32 → Option (Int32 × (Nat → Int32))) (v3_32 : Int32) (v4_32 : Int32) : Option (Int32 × (Nat → Int32)) :=
  gd (ix (48 : Int32) 49) <|
  if (m_now (48 : Int32).toNatClampNeg) ≤ v4_32 then
    kk32 v3_32
  else
    gd (ix ((4 : Int32) * v4_32) 49) <|
    if (3 : Int32) ≤ (m_now ((4 : Int32) * v4_32).toNatClampNeg) then
      lt1 ((v4_32 + (1 : Int32))) <| fun v4n1 =>
      rc32 v3_32 v4n1
    else
      gd (ix (((4 : Int32) * v4_32) + (1 : Int32)) 49) <|
      if (3 : Int32) ≤ (m_now (((4 : Int32) * v4_32) + (1 : Int32)).toNatClampNeg) then
        lt1 ((v4_32 + (1 : Int32))) <| fun v4n2 =>
        rc32 v3_32 v4n2
      else
        gd (ix (((4 : Int32) * v4_32) + (2 : Int32)) 49) <|
        gd (ix ((4 : Int32) * v4_32) 49) <|
        gd (ix (m_now ((4 : Int32) * v4_32).toNatClampNeg) 6) <|
        gd (ix (((4 : Int32) * v4_32) + (1 : Int32)) 49) <|
        gd (ix ((3 : Int32) + (m_now (((4 : Int32) * v4_32) + (1 : Int32)).toNatClampNeg)) 6) <|
        lt1 ((v3_32 + (if 0 ≤ (((m_now (((4 : Int32) * v4_32) + (2 : Int32)).toNatClampNeg) - (m_part_4x (m_now ((4 : Int32) * v4_32).toNatClampNeg).toNatClampNeg)) - (m_part_4x ((3 : Int32) + (m_now (((4 : Int32) * v4_32) + (1 : Int32)).toNatClampNeg)).toNatClampNeg)) then (((m_now (((4 : Int32) * v4_32) + (2 : Int32)).toNatClampNeg) - (m_part_4x (m_now ((4 : Int32) * v4_32).toNatClampNeg).toNatClampNeg)) - (m_part_4x ((3 : Int32) + (m_now (((4 : Int32) * v4_32) + (1 : Int32)).toNatClampNeg)).toNatClampNeg)) else 0 - (((m_now (((4 : Int32) * v4_32) + (2 : Int32)).toNatClampNeg) - (m_part_4x (m_now ((4 : Int32) * v4_32).toNatClampNeg).toNatClampNeg)) - (m_part_4x ((3 : Int32) + (m_now (((4 : Int32) * v4_32) + (1 : Int32)).toNatClampNeg)).toNatClampNeg))))) <| fun v3n3 =>
        lt1 ((v4_32 + (1 : Int32))) <| fun v4n4 =>
        rc32 v3n3 v4n4
def k_X12_offBy_4 (m_now : (Nat → Int32)) (m_part_4x : (Nat → Int32)) : Option (Int32 × (Nat → Int32)) :=
  ml2 (s_X12_offBy_32 m_now m_part_4x (k_X12_offBy_32 m_part_4x)) zN (0 : Int32) (0 : Int32)
def s_X12_offBy_4  (kk4 : (Nat → Int32) → Option (Int32 × (Nat → Int32))) (rc4 : Int32 → Int32 → (Nat → Int32) → Option (Int32 × (Nat → Int32))) (v2_4 : Int32) (v3_4 : Int32) (m_part_4 : (Nat → Int32)) : Option (Int32 × (Nat → Int32)) :=
  if v3_4 < 0 then
    kk4 m_part_4
  else
    gd (ix v3_4 6) <|
    lt1 ((v2_4 / (5 : Int32))) <| fun v2n5 =>
    lt1 ((v3_4 + (-1 : Int32))) <| fun v3n6 =>
    rc4 v2n5 v3n6 ((upd m_part_4 v3_4.toNatClampNeg (v2_4 - v2_4 / (5 : Int32) * (5 : Int32))))
def f_X12_offBy (p1 : Int32) (m_now : (Nat → Int32)) (m_part : (Nat → Int32)) : Option (Int32 × (Nat → Int32)) :=
  ml3 (s_X12_offBy_4 (k_X12_offBy_4 m_now)) zN p1 (5 : Int32) m_part
def k_X12_parts_120 (v2_13x : Int32) (m_partn2 : (Nat → Int32)) (v3_58x : Int32) (m_rowMany_120x : Int32) (m_row_120x : (Nat → Int64)) : Option (Int32 × Int32 × Int32 × (Nat → Int32) × (Nat → Int64)) :=
  bd2 (f_X12_tell (v3_58x.toInt64) m_rowMany_120x m_row_120x) <| fun m_rowManyn3 m_rown4 =>
  some (v2_13x, m_rowManyn3, (0 : Int32), m_partn2, m_rown4)
def s_X12_parts_120 (m_partn2 : (Nat → Int32)) (kk120 : Int32 → (Nat → Int64) → Option (Int32 × Int32 × Int32 × (Nat → Int32) × (Nat → Int64))) (rc120 : Int32 → Int32 → (Nat → Int64) → Option (Int32 × Int32 × Int32 × (Nat → Int32) × (Nat → Int64))) (v4_120 : Int32) (m_rowMany_120 : Int32) (m_row_120 : (Nat → Int64)) : Option (Int32 × Int32 × Int32 × (Nat → Int32) × (Nat → Int64)) :=
  if (6 : Int32) ≤ v4_120 then
    kk120 m_rowMany_120 m_row_120
  else
    gd (ix v4_120 6) <|
    bd2 (f_X12_tell (((m_partn2 v4_120.toNatClampNeg)).toInt64) m_rowMany_120 m_row_120) <| fun m_rowManyn5 m_rown6 =>
    lt1 ((v4_120 + (1 : Int32))) <| fun v4n7 =>
    rc120 v4n7 m_rowManyn5 m_rown6
def k_X12_parts_58 (m_row : (Nat → Int64)) (v2_13x : Int32) (m_partn2 : (Nat → Int32)) (v3_58x : Int32) : Option (Int32 × Int32 × Int32 × (Nat → Int32) × (Nat → Int64)) :=
  ml3 (s_X12_parts_120 m_partn2 (k_X12_parts_120 v2_13x m_partn2 v3_58x)) zN (0 : Int32) (0 : Int32) m_row
def s_X12_parts_58 (m_now : (Nat → Int32)) (kk58 : Int32 → Option (Int32 × Int32 × Int32 × (Nat → Int32) × (Nat → Int64))) (rc58 : Int32 → Int32 → Option (Int32 × Int32 × Int32 × (Nat → Int32) × (Nat → Int64))) (v3_58 : Int32) (v4_58 : Int32) : Option (Int32 × Int32 × Int32 × (Nat → Int32) × (Nat → Int64)) :=
  gd (ix (48 : Int32) 49) <|
  if (m_now (48 : Int32).toNatClampNeg) ≤ v4_58 then
    kk58 v3_58
  else
    gd (ix ((4 : Int32) * v4_58) 49) <|
    if (3 : Int32) ≤ (m_now ((4 : Int32) * v4_58).toNatClampNeg) then
      lt1 ((v3_58 + (0 : Int32))) <| fun v3n8 =>
      lt1 ((v4_58 + (1 : Int32))) <| fun v4n9 =>
      rc58 v3n8 v4n9
    else
      gd (ix (((4 : Int32) * v4_58) + (1 : Int32)) 49) <|
      if (3 : Int32) ≤ (m_now (((4 : Int32) * v4_58) + (1 : Int32)).toNatClampNeg) then
        lt1 ((v3_58 + (0 : Int32))) <| fun v3n10 =>
        lt1 ((v4_58 + (1 : Int32))) <| fun v4n11 =>
        rc58 v3n10 v4n11
      else
        lt1 ((v3_58 + (1 : Int32))) <| fun v3n12 =>
        lt1 ((v4_58 + (1 : Int32))) <| fun v4n13 =>
        rc58 v3n12 v4n13
def k_X12_parts_13 (m_now : (Nat → Int32)) (m_row : (Nat → Int64)) (v1_13x : Int32) (v2_13x : Int32) (m_part_13x : (Nat → Int32)) : Option (Int32 × Int32 × Int32 × (Nat → Int32) × (Nat → Int64)) :=
  bd2 (f_X12_offBy v1_13x m_now m_part_13x) <| fun rn1 m_partn2 =>
  ml2 (s_X12_parts_58 m_now (k_X12_parts_58 m_row v2_13x m_partn2)) zN (0 : Int32) (0 : Int32)
def s_X12_parts_13 (m_now : (Nat → Int32)) (kk13 : Int32 → Int32 → (Nat → Int32) → Option (Int32 × Int32 × Int32 × (Nat → Int32) × (Nat → Int64))) (rc13 : Int32 → Int32 → Int32 → (Nat → Int32) → Option (Int32 × Int32 × Int32 × (Nat → Int32) × (Nat → Int64))) (v1_13 : Int32) (v2_13 : Int32) (v3_13 : Int32) (m_part_13 : (Nat → Int32)) : Option (Int32 × Int32 × Int32 × (Nat → Int32) × (Nat → Int64)) :=
  if (15625 : Int32) ≤ v3_13 then
    kk13 v1_13 v2_13 m_part_13
  else
    bd2 (f_X12_offBy v3_13 m_now m_part_13) <| fun rn14 m_partn15 =>
    if rn14 < v2_13 then
      lt1 ((v3_13 + (1 : Int32))) <| fun v3n16 =>
      rc13 v3_13 rn14 v3n16 m_partn15
    else
      lt1 ((v3_13 + (1 : Int32))) <| fun v3n17 =>
      rc13 v1_13 v2_13 v3n17 m_partn15
def f_X12_parts (m_rowMany : Int32) (m_thrown : Int32) (m_now : (Nat → Int32)) (m_part : (Nat → Int32)) (m_row : (Nat → Int64)) : Option (Int32 × Int32 × Int32 × (Nat → Int32) × (Nat → Int64)) :=
  ml4 (s_X12_parts_13 m_now (k_X12_parts_13 m_now m_row)) zN (0 : Int32) (100000000 : Int32) (0 : Int32) m_part
def f_X12_place (p1 : Int32) (p2 : Int32) (m_rowMany : Int32) (m_thrown : Int32) (m_now : (Nat → Int32)) (m_money : (Nat → Int32)) (m_row : (Nat → Int64)) : Option (Int32 × Int32 × Int32 × (Nat → Int64)) :=
  bd1 (f_X12_in p1 (0 : Int32) (99 : Int32)) <| fun rn1 =>
  if rn1 = 0 then
    some ((-1 : Int32), m_rowMany, (0 : Int32), m_row)
  else
    bd1 (f_X12_isMost p2) <| fun rn2 =>
    if rn2 = 0 then
      some ((-1 : Int32), m_rowMany, (0 : Int32), m_row)
    else
      bd1 (f_X12_placeFor_m_now p1 p2 m_now) <| fun rn3 =>
      bd1 (f_X12_moneyOf rn3 m_money) <| fun rn4 =>
      bd2 (f_X12_tell (rn4.toInt64) (0 : Int32) m_row) <| fun m_rowManyn5 m_rown6 =>
      some (rn3, m_rowManyn5, (0 : Int32), m_rown6)
