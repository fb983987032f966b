/-! steps of the throwing methods -/
def zTh (hh : List (Nat × Nat × Nat × Nat)) (mw mm : zM) (dm : Nat) (avw avm : List Value) (l : Launch) (S : zS) : Prop := ∃ (k : Int32) (b : Int32) (S1 : zS) (M2 M3 : zL), zMw hh l 12 mw S avw (some (.int k)) S1 ∧ zMt l zW dm mm S1 ([], [], []) avm (some (.int b)) M2 ∧ zMt l zW 0 mX12_thrown (zap S1 M2) ([], [], []) [.ref 54] (some (.int k)) M3 ∧ (k = 0 → (zap (zap S1 M2) M3).2.2 87 0 = b.toInt64) ∧ Inv (zap (zap S1 M2) M3)
def zThL (hh : List (Nat × Nat × Nat × Nat)) (mw mm : zM) (dm : Nat) (avw avm : List Value) (l : Launch) (S : zS) : Prop := ∃ (k : Int32) (b : Int64) (S1 : zS) (M2 M3 : zL), zMw hh l 12 mw S avw (some (.int k)) S1 ∧ zMt l zW dm mm S1 ([], [], []) avm (some (.long b)) M2 ∧ zMt l zW 0 mX12_thrown (zap S1 M2) ([], [], []) [.ref 54] (some (.int k)) M3 ∧ (k = 0 → (zap (zap S1 M2) M3).2.2 87 0 = b) ∧ Inv (zap (zap S1 M2) M3)
theorem updL_at (f : Nat → Int64) (v : Int64) : vp_updL f 0 v 0 = v := by simp [vp_updL]
set_option maxRecDepth 100000 in
set_option maxHeartbeats 4000000 in
theorem st_fence (l : Launch) (hfl : l.stackTraces = false) {S : zS} (h : Inv S) (p1 p2 : Int32) : zTh [(0, 10, 13, 13)] mL_fence mX12_fence 2 [.ref 0, .int p1, .int p2, .ref 87] [.ref 54, .int p1, .int p2] l S := by
  obtain ⟨y, tc, F, H, P, kd, ht, ft, st, sc, ca, pl, V, al, r, c, mo, hTx, hX, hM, eF1, eF2, eH1, eH2, eP1, eP2, ha, eA1, eA2, hR, eR1, eR2, hT, hHi, eS1, eC1, eC2, hKe, eS2, hY, hZ⟩ := h
  obtain ⟨n, rd, hs, fa, te, hE⟩ := id hT
  have eN : S.1 1284 = nI n := hE.2.1
  rcases pr_fence (tw := S.1 3473) hX hM p1 p2 with ⟨v, ea, eb⟩ | ⟨rn, ea, hw, eb⟩
  · rw [← eF1] at ea
    rw [← eF2] at eb
    exact ⟨0, v, (zap S ([], [], [(87, vp_updL (S.2.2 87) 0 v.toInt64)])), ([(3457, (S.1 3457)), (3473, 0)], [(56, (S.2.1 56)), (57, (S.2.1 57)), (58, (S.2.1 58))], []), ([(3473, 0)], [], []), wT_fence l ea, zMt_at (t_X12_fence l (zap S ([], [], [(87, vp_updL (S.2.2 87) 0 v.toInt64)])) eb) (zle_c rfl (zle_c rfl zle_n)) (zle_c rfl (zle_c rfl (zle_c rfl zle_n))) zle_n, zMt_at (t_X12_thrown l (zap (zap S ([], [], [(87, vp_updL (S.2.2 87) 0 v.toInt64)])) ([(3457, (S.1 3457)), (3473, 0)], [(56, (S.2.1 56)), (57, (S.2.1 57)), (58, (S.2.1 58))], [])) (m_thrown := 0) (r := 0) rfl) (zle_c rfl zle_n) zle_n zle_n, fun _ => updL_at (S.2.2 87) v.toInt64, Inv_i hTx hX hM eF1 eF2 eH1 eH2 eP1 eP2 ha eA1 eA2 hR eR1 eR2 hT hHi eS1 eC1 eC2 hKe eS2 hY hZ⟩
  · rw [← eF1] at ea
    rw [← eF2] at eb
    exact ⟨1, 0, S, ([(3457, (S.1 3457)), (3473, 1)], [(56, (S.2.1 56)), (57, (S.2.1 57)), (58, (S.2.1 58))], []), ([(3473, 1)], [], []), wX_fence l hfl ea hw, zMt_at (t_X12_fence l S eb) (zle_c rfl (zle_c rfl zle_n)) (zle_c rfl (zle_c rfl (zle_c rfl zle_n))) zle_n, zMt_at (t_X12_thrown l (zap S ([(3457, (S.1 3457)), (3473, 1)], [(56, (S.2.1 56)), (57, (S.2.1 57)), (58, (S.2.1 58))], [])) (m_thrown := 1) (r := 1) rfl) (zle_c rfl zle_n) zle_n zle_n, fun h => absurd h (by decide), Inv_i hTx hX hM eF1 eF2 eH1 eH2 eP1 eP2 ha eA1 eA2 hR eR1 eR2 hT hHi eS1 eC1 eC2 hKe eS2 hY hZ⟩
set_option maxRecDepth 100000 in
set_option maxHeartbeats 4000000 in
theorem st_horse (l : Launch) (hfl : l.stackTraces = false) {S : zS} (h : Inv S) (p1 p2 : Int32) : zTh [(0, 10, 13, 13)] mL_horse mX12_horse 2 [.ref 0, .int p1, .int p2, .ref 87] [.ref 54, .int p1, .int p2] l S := by
  obtain ⟨y, tc, F, H, P, kd, ht, ft, st, sc, ca, pl, V, al, r, c, mo, hTx, hX, hM, eF1, eF2, eH1, eH2, eP1, eP2, ha, eA1, eA2, hR, eR1, eR2, hT, hHi, eS1, eC1, eC2, hKe, eS2, hY, hZ⟩ := h
  obtain ⟨n, rd, hs, fa, te, hE⟩ := id hT
  have eN : S.1 1284 = nI n := hE.2.1
  rcases pr_horse (tw := S.1 3473) hX hM p1 p2 with ⟨v, ea, eb⟩ | ⟨rn, ea, hw, eb⟩
  · rw [← eH1] at ea
    rw [← eH2] at eb
    exact ⟨0, v, (zap S ([], [], [(87, vp_updL (S.2.2 87) 0 v.toInt64)])), ([(3462, (S.1 3462)), (3473, 0)], [(59, (S.2.1 59)), (60, (S.2.1 60)), (61, (S.2.1 61))], []), ([(3473, 0)], [], []), wT_horse l ea, zMt_at (t_X12_horse l (zap S ([], [], [(87, vp_updL (S.2.2 87) 0 v.toInt64)])) eb) (zle_c rfl (zle_c rfl zle_n)) (zle_c rfl (zle_c rfl (zle_c rfl zle_n))) zle_n, zMt_at (t_X12_thrown l (zap (zap S ([], [], [(87, vp_updL (S.2.2 87) 0 v.toInt64)])) ([(3462, (S.1 3462)), (3473, 0)], [(59, (S.2.1 59)), (60, (S.2.1 60)), (61, (S.2.1 61))], [])) (m_thrown := 0) (r := 0) rfl) (zle_c rfl zle_n) zle_n zle_n, fun _ => updL_at (S.2.2 87) v.toInt64, Inv_i hTx hX hM eF1 eF2 eH1 eH2 eP1 eP2 ha eA1 eA2 hR eR1 eR2 hT hHi eS1 eC1 eC2 hKe eS2 hY hZ⟩
  · rw [← eH1] at ea
    rw [← eH2] at eb
    exact ⟨1, 0, S, ([(3462, (S.1 3462)), (3473, 1)], [(59, (S.2.1 59)), (60, (S.2.1 60)), (61, (S.2.1 61))], []), ([(3473, 1)], [], []), wX_horse l hfl ea hw, zMt_at (t_X12_horse l S eb) (zle_c rfl (zle_c rfl zle_n)) (zle_c rfl (zle_c rfl (zle_c rfl zle_n))) zle_n, zMt_at (t_X12_thrown l (zap S ([(3462, (S.1 3462)), (3473, 1)], [(59, (S.2.1 59)), (60, (S.2.1 60)), (61, (S.2.1 61))], [])) (m_thrown := 1) (r := 1) rfl) (zle_c rfl zle_n) zle_n zle_n, fun h => absurd h (by decide), Inv_i hTx hX hM eF1 eF2 eH1 eH2 eP1 eP2 ha eA1 eA2 hR eR1 eR2 hT hHi eS1 eC1 eC2 hKe eS2 hY hZ⟩
set_option maxRecDepth 100000 in
set_option maxHeartbeats 4000000 in
theorem st_round (l : Launch) (hfl : l.stackTraces = false) {S : zS} (h : Inv S) (p1 p2 : Int32) : zTh [(0, 10, 13, 13)] mL_round mX12_round 2 [.ref 0, .int p1, .int p2, .ref 87] [.ref 54, .int p1, .int p2] l S := by
  obtain ⟨y, tc, F, H, P, kd, ht, ft, st, sc, ca, pl, V, al, r, c, mo, hTx, hX, hM, eF1, eF2, eH1, eH2, eP1, eP2, ha, eA1, eA2, hR, eR1, eR2, hT, hHi, eS1, eC1, eC2, hKe, eS2, hY, hZ⟩ := h
  obtain ⟨n, rd, hs, fa, te, hE⟩ := id hT
  have eN : S.1 1284 = nI n := hE.2.1
  rcases pr_round (tw := S.1 3473) hE hY hZ p1 p2 with ⟨v, ea, eb⟩ | ⟨hw, eb⟩
  · rw [← eN] at ea
    exact ⟨0, v, (zap S ([], [], [(87, vp_updL (S.2.2 87) 0 v.toInt64)])), ([(3473, 0)], [(55, (S.2.1 55)), (63, (S.2.1 63))], []), ([(3473, 0)], [], []), wT_round l ea, zMt_at (t_X12_round l (zap S ([], [], [(87, vp_updL (S.2.2 87) 0 v.toInt64)])) eb) (zle_c rfl zle_n) (zle_c rfl (zle_c rfl zle_n)) zle_n, zMt_at (t_X12_thrown l (zap (zap S ([], [], [(87, vp_updL (S.2.2 87) 0 v.toInt64)])) ([(3473, 0)], [(55, (S.2.1 55)), (63, (S.2.1 63))], [])) (m_thrown := 0) (r := 0) rfl) (zle_c rfl zle_n) zle_n zle_n, fun _ => updL_at (S.2.2 87) v.toInt64, Inv_i hTx hX hM eF1 eF2 eH1 eH2 eP1 eP2 ha eA1 eA2 hR eR1 eR2 hT hHi eS1 eC1 eC2 hKe eS2 hY hZ⟩
  · rw [← eN] at hw
    exact ⟨1, 0, S, ([(3473, 1)], [(55, (S.2.1 55)), (63, (S.2.1 63))], []), ([(3473, 1)], [], []), wX_round l hfl hw, zMt_at (t_X12_round l S eb) (zle_c rfl zle_n) (zle_c rfl (zle_c rfl zle_n)) zle_n, zMt_at (t_X12_thrown l (zap S ([(3473, 1)], [(55, (S.2.1 55)), (63, (S.2.1 63))], [])) (m_thrown := 1) (r := 1) rfl) (zle_c rfl zle_n) zle_n zle_n, fun h => absurd h (by decide), Inv_i hTx hX hM eF1 eF2 eH1 eH2 eP1 eP2 ha eA1 eA2 hR eR1 eR2 hT hHi eS1 eC1 eC2 hKe eS2 hY hZ⟩
set_option maxRecDepth 100000 in
set_option maxHeartbeats 4000000 in
theorem st_row (l : Launch) (hfl : l.stackTraces = false) {S : zS} (h : Inv S) (p1 : Int32) : zThL [(0, 8, 11, 13)] mL_row mX12_row 1 [.ref 0, .int p1, .ref 87] [.ref 54, .int p1] l S := by
  obtain ⟨y, tc, F, H, P, kd, ht, ft, st, sc, ca, pl, V, al, r, c, mo, hTx, hX, hM, eF1, eF2, eH1, eH2, eP1, eP2, ha, eA1, eA2, hR, eR1, eR2, hT, hHi, eS1, eC1, eC2, hKe, eS2, hY, hZ⟩ := h
  obtain ⟨n, rd, hs, fa, te, hE⟩ := id hT
  have eN : S.1 1284 = nI n := hE.2.1
  rcases pr_row (tw := S.1 3473) hR p1 with ⟨v, ea, eb⟩ | ⟨hw, eb⟩
  · rw [← eR1] at ea
    rw [← eR2] at eb
    exact ⟨0, v, (zap S ([], [], [(87, vp_updL (S.2.2 87) 0 v)])), ([(3472, (S.1 3472)), (3473, 0)], [], [(65, (S.2.2 65))]), ([(3473, 0)], [], []), wT_row l ea, zMt_at (t_X12_row l (zap S ([], [], [(87, vp_updL (S.2.2 87) 0 v)])) eb) (zle_c rfl (zle_c rfl zle_n)) zle_n (zle_c rfl zle_n), zMt_at (t_X12_thrown l (zap (zap S ([], [], [(87, vp_updL (S.2.2 87) 0 v)])) ([(3472, (S.1 3472)), (3473, 0)], [], [(65, (S.2.2 65))])) (m_thrown := 0) (r := 0) rfl) (zle_c rfl zle_n) zle_n zle_n, fun _ => updL_at (S.2.2 87) v, Inv_i hTx hX hM eF1 eF2 eH1 eH2 eP1 eP2 ha eA1 eA2 hR eR1 eR2 hT hHi eS1 eC1 eC2 hKe eS2 hY hZ⟩
  · rw [← eR1] at hw
    rw [← eR2] at eb
    exact ⟨1, 0, S, ([(3472, (S.1 3472)), (3473, 1)], [], [(65, (S.2.2 65))]), ([(3473, 1)], [], []), wX_row l hfl hw, zMt_at (t_X12_row l S eb) (zle_c rfl (zle_c rfl zle_n)) zle_n (zle_c rfl zle_n), zMt_at (t_X12_thrown l (zap S ([(3472, (S.1 3472)), (3473, 1)], [], [(65, (S.2.2 65))])) (m_thrown := 1) (r := 1) rfl) (zle_c rfl zle_n) zle_n zle_n, fun h => absurd h (by decide), Inv_i hTx hX hM eF1 eF2 eH1 eH2 eP1 eP2 ha eA1 eA2 hR eR1 eR2 hT hHi eS1 eC1 eC2 hKe eS2 hY hZ⟩
