/-! steps, a method each -/
set_option maxRecDepth 100000 in
set_option maxHeartbeats 4000000 in
theorem st_mean (l : Launch) {S : zS} (h : Inv S) (p1 p2 : Int32) : zSt mX11_mean mX12_mean 6 209 [.int p1, .int p2] l S := by
  obtain ⟨y, tc, F, H, P, kd, ht, ft, st, sc, ca, pl, V, al, r, c, mo, hTx, hX, hM, eF1, eF2, eH1, eH2, eP1, eP2, ha, eA1, eA2, hR, eR1, eR2, hT, hHi, eS1, eC1, eC2, hKe, eS2, hY, hZ⟩ := h
  obtain ⟨n, rd, hs, fa, te, hE⟩ := id hT
  have eN : S.1 1284 = nI n := hE.2.1
  have hTn := hT
  rw [eN] at hTn
  obtain ⟨⟨a1, a2, a3, a4, a5⟩, ea, ⟨b1, b2, b3, b4, b5, b6, b7, b8, b9, b10, b11, b12, b13, b14⟩, eb, hq⟩ := pr_mean (rz := (S.1 769)) (ck := (S.2.1 6)) (ch := (S.2.1 7)) (cf := (S.2.1 8)) (cd := (S.2.1 10)) (cp := (S.2.1 11)) (rk := (S.2.1 13)) (tf := (S.2.1 23)) (tx := (S.2.1 24)) (tm := (S.2.1 25)) (nt := (S.2.2 4)) (mz := (S.1 3483)) (mn := (S.2.1 55)) (mk := (S.2.1 56)) (mh := (S.2.1 57)) (mf := (S.2.1 58)) (ms := (S.2.1 59)) (mc := (S.2.1 60)) (ma := (S.2.1 61)) (mp := (S.2.1 62)) (mm := (S.2.1 63)) (ml := (S.2.1 69)) (mt := (S.2.2 65)) hX hM (tE_C hE) (tE_N hE) hY hZ ha hR p1 p2 (S.2.1 15) (S.2.1 16) (S.1 3474) (S.1 3475) (S.1 3476) (S.1 3477) (S.1 3478) (S.1 3484) (S.1 3485) (S.1 3486) (S.1 3487) (S.1 3488) (S.1 3473)
  obtain ⟨hr, _, r', e1, e2, hR'⟩ := hq
  have hr : a1 = b1 := hr
  subst hr
  have m1 := zMt_at (t_X11_mean l S ea) (zle_c eR1 (zle_c eF1 (zle_c eH1 (zle_c eP1 (zle_c eA1 (zle_c rfl (zle_c eN zle_n))))))) (zle_c rfl (zle_c rfl (zle_c rfl (zle_c rfl (zle_c rfl (zle_c rfl (zle_c rfl (zle_c rfl (zle_c rfl (zle_c rfl (zle_c rfl zle_n))))))))))) (zle_c rfl zle_n)
  have m2 := zMt_at (t_X12_mean l (zap S ([(193, a2), (323, (nI F)), (326, (nI H)), (328, (nI P)), (329, (nI al)), (769, (S.1 769)), (1284, (nI n))], [(6, (S.2.1 6)), (7, (S.2.1 7)), (8, (S.2.1 8)), (10, (S.2.1 10)), (11, (S.2.1 11)), (13, (S.2.1 13)), (15, a3), (16, a4), (23, (S.2.1 23)), (24, (S.2.1 24)), (25, (S.2.1 25))], [(4, a5)])) eb) (zle_c eF2 (zle_c eA2 (zle_c eH2 (zle_c eP2 (zle_c eR2 (zle_c rfl (zle_c rfl (zle_c rfl (zle_c rfl (zle_c rfl (zle_c rfl (zle_c rfl (zle_c rfl (zle_c rfl (zle_c rfl (zle_c rfl (zle_c rfl zle_n))))))))))))))))) (zle_c rfl (zle_c rfl (zle_c rfl (zle_c rfl (zle_c rfl (zle_c rfl (zle_c rfl (zle_c rfl (zle_c rfl (zle_c rfl zle_n)))))))))) (zle_c rfl zle_n)
  exact ⟨_, ([(193, a2), (323, (nI F)), (326, (nI H)), (328, (nI P)), (329, (nI al)), (769, (S.1 769)), (1284, (nI n))], [(6, (S.2.1 6)), (7, (S.2.1 7)), (8, (S.2.1 8)), (10, (S.2.1 10)), (11, (S.2.1 11)), (13, (S.2.1 13)), (15, a3), (16, a4), (23, (S.2.1 23)), (24, (S.2.1 24)), (25, (S.2.1 25))], [(4, a5)]), ([(3457, (nI F)), (3461, (nI al)), (3462, (nI H)), (3466, (nI P)), (3472, b2), (3473, b3), (3474, b4), (3475, b5), (3476, b6), (3477, b7), (3478, b8), (3483, (S.1 3483)), (3484, b9), (3485, b10), (3486, b11), (3487, b12), (3488, b13)], [(55, (S.2.1 55)), (56, (S.2.1 56)), (57, (S.2.1 57)), (58, (S.2.1 58)), (59, (S.2.1 59)), (60, (S.2.1 60)), (61, (S.2.1 61)), (62, (S.2.1 62)), (63, (S.2.1 63)), (69, (S.2.1 69))], [(65, b14)]), m1, m2, Inv_i hTx hX hM (by first | exact eF1 | rfl) (by first | exact eF2 | rfl) (by first | exact eH1 | rfl) (by first | exact eH2 | rfl) (by first | exact eP1 | rfl) (by first | exact eP2 | rfl) ha (by first | exact eA1 | rfl) (by first | exact eA2 | rfl) hR' e1 e2 (by first | exact hT | exact hTn) hHi (by first | exact eS1 | rfl) (by first | exact eC1 | rfl) (by first | exact eC2 | rfl) hKe (by first | exact eS2 | rfl) hY hZ⟩
set_option maxRecDepth 100000 in
set_option maxHeartbeats 4000000 in
theorem st_last (l : Launch) {S : zS} (h : Inv S) (p1 : Int32) : zSt mX11_last mX12_last 7 210 [.int p1] l S := by
  obtain ⟨y, tc, F, H, P, kd, ht, ft, st, sc, ca, pl, V, al, r, c, mo, hTx, hX, hM, eF1, eF2, eH1, eH2, eP1, eP2, ha, eA1, eA2, hR, eR1, eR2, hT, hHi, eS1, eC1, eC2, hKe, eS2, hY, hZ⟩ := h
  obtain ⟨n, rd, hs, fa, te, hE⟩ := id hT
  have eN : S.1 1284 = nI n := hE.2.1
  have hTn := hT
  rw [eN] at hTn
  obtain ⟨⟨a1, a2, a3, a4, a5⟩, ea, ⟨b1, b2, b3, b4, b5, b6, b7, b8, b9, b10, b11, b12, b13, b14⟩, eb, hq⟩ := pr_last (rz := (S.1 769)) (ck := (S.2.1 6)) (ch := (S.2.1 7)) (cf := (S.2.1 8)) (cd := (S.2.1 10)) (cp := (S.2.1 11)) (rk := (S.2.1 13)) (tf := (S.2.1 23)) (tx := (S.2.1 24)) (tm := (S.2.1 25)) (nt := (S.2.2 4)) (mz := (S.1 3483)) (mn := (S.2.1 55)) (mk := (S.2.1 56)) (mh := (S.2.1 57)) (mf := (S.2.1 58)) (ms := (S.2.1 59)) (mc := (S.2.1 60)) (ma := (S.2.1 61)) (mp := (S.2.1 62)) (mm := (S.2.1 63)) (ml := (S.2.1 69)) (mt := (S.2.2 65)) hX hM (tE_C hE) (tE_N hE) hY hZ ha hR p1 (S.2.1 15) (S.2.1 16) (S.1 3474) (S.1 3475) (S.1 3476) (S.1 3477) (S.1 3478) (S.1 3484) (S.1 3485) (S.1 3486) (S.1 3487) (S.1 3488) (S.1 3473)
  obtain ⟨hr, _, r', e1, e2, hR'⟩ := hq
  have hr : a1 = b1 := hr
  subst hr
  have m1 := zMt_at (t_X11_last l S ea) (zle_c eR1 (zle_c eF1 (zle_c eH1 (zle_c eP1 (zle_c eA1 (zle_c rfl (zle_c eN zle_n))))))) (zle_c rfl (zle_c rfl (zle_c rfl (zle_c rfl (zle_c rfl (zle_c rfl (zle_c rfl (zle_c rfl (zle_c rfl (zle_c rfl (zle_c rfl zle_n))))))))))) (zle_c rfl zle_n)
  have m2 := zMt_at (t_X12_last l (zap S ([(193, a2), (323, (nI F)), (326, (nI H)), (328, (nI P)), (329, (nI al)), (769, (S.1 769)), (1284, (nI n))], [(6, (S.2.1 6)), (7, (S.2.1 7)), (8, (S.2.1 8)), (10, (S.2.1 10)), (11, (S.2.1 11)), (13, (S.2.1 13)), (15, a3), (16, a4), (23, (S.2.1 23)), (24, (S.2.1 24)), (25, (S.2.1 25))], [(4, a5)])) eb) (zle_c eF2 (zle_c eA2 (zle_c eH2 (zle_c eP2 (zle_c eR2 (zle_c rfl (zle_c rfl (zle_c rfl (zle_c rfl (zle_c rfl (zle_c rfl (zle_c rfl (zle_c rfl (zle_c rfl (zle_c rfl (zle_c rfl (zle_c rfl zle_n))))))))))))))))) (zle_c rfl (zle_c rfl (zle_c rfl (zle_c rfl (zle_c rfl (zle_c rfl (zle_c rfl (zle_c rfl (zle_c rfl (zle_c rfl zle_n)))))))))) (zle_c rfl zle_n)
  exact ⟨_, ([(193, a2), (323, (nI F)), (326, (nI H)), (328, (nI P)), (329, (nI al)), (769, (S.1 769)), (1284, (nI n))], [(6, (S.2.1 6)), (7, (S.2.1 7)), (8, (S.2.1 8)), (10, (S.2.1 10)), (11, (S.2.1 11)), (13, (S.2.1 13)), (15, a3), (16, a4), (23, (S.2.1 23)), (24, (S.2.1 24)), (25, (S.2.1 25))], [(4, a5)]), ([(3457, (nI F)), (3461, (nI al)), (3462, (nI H)), (3466, (nI P)), (3472, b2), (3473, b3), (3474, b4), (3475, b5), (3476, b6), (3477, b7), (3478, b8), (3483, (S.1 3483)), (3484, b9), (3485, b10), (3486, b11), (3487, b12), (3488, b13)], [(55, (S.2.1 55)), (56, (S.2.1 56)), (57, (S.2.1 57)), (58, (S.2.1 58)), (59, (S.2.1 59)), (60, (S.2.1 60)), (61, (S.2.1 61)), (62, (S.2.1 62)), (63, (S.2.1 63)), (69, (S.2.1 69))], [(65, b14)]), m1, m2, Inv_i hTx hX hM (by first | exact eF1 | rfl) (by first | exact eF2 | rfl) (by first | exact eH1 | rfl) (by first | exact eH2 | rfl) (by first | exact eP1 | rfl) (by first | exact eP2 | rfl) ha (by first | exact eA1 | rfl) (by first | exact eA2 | rfl) hR' e1 e2 (by first | exact hT | exact hTn) hHi (by first | exact eS1 | rfl) (by first | exact eC1 | rfl) (by first | exact eC2 | rfl) hKe (by first | exact eS2 | rfl) hY hZ⟩
set_option maxRecDepth 100000 in
set_option maxHeartbeats 4000000 in
theorem st_buy (l : Launch) {S : zS} (h : Inv S) : zSt mX11_buy mX12_buy 7 210 [] l S := by
  obtain ⟨y, tc, F, H, P, kd, ht, ft, st, sc, ca, pl, V, al, r, c, mo, hTx, hX, hM, eF1, eF2, eH1, eH2, eP1, eP2, ha, eA1, eA2, hR, eR1, eR2, hT, hHi, eS1, eC1, eC2, hKe, eS2, hY, hZ⟩ := h
  obtain ⟨n, rd, hs, fa, te, hE⟩ := id hT
  have eN : S.1 1284 = nI n := hE.2.1
  have hTn := hT
  rw [eN] at hTn
  obtain ⟨⟨a1, a2, a3, a4, a5⟩, ea, ⟨b1, b2, b3, b4, b5, b6, b7, b8, b9, b10, b11, b12, b13, b14⟩, eb, hq⟩ := pr_buy (rz := (S.1 769)) (ck := (S.2.1 6)) (ch := (S.2.1 7)) (cf := (S.2.1 8)) (cd := (S.2.1 10)) (cp := (S.2.1 11)) (rk := (S.2.1 13)) (tf := (S.2.1 23)) (tx := (S.2.1 24)) (tm := (S.2.1 25)) (nt := (S.2.2 4)) (mz := (S.1 3483)) (mn := (S.2.1 55)) (mk := (S.2.1 56)) (mh := (S.2.1 57)) (mf := (S.2.1 58)) (ms := (S.2.1 59)) (mc := (S.2.1 60)) (ma := (S.2.1 61)) (mp := (S.2.1 62)) (mm := (S.2.1 63)) (ml := (S.2.1 69)) (mt := (S.2.2 65)) hX hM (tE_C hE) (tE_N hE) hY hZ ha hR (S.2.1 15) (S.2.1 16) (S.1 3474) (S.1 3475) (S.1 3476) (S.1 3477) (S.1 3478) (S.1 3484) (S.1 3485) (S.1 3486) (S.1 3487) (S.1 3488) (S.1 3473)
  obtain ⟨hr, _, r', e1, e2, hR'⟩ := hq
  have hr : a1 = b1 := hr
  subst hr
  have m1 := zMt_at (t_X11_buy l S ea) (zle_c eR1 (zle_c eF1 (zle_c eH1 (zle_c eP1 (zle_c eA1 (zle_c rfl (zle_c eN zle_n))))))) (zle_c rfl (zle_c rfl (zle_c rfl (zle_c rfl (zle_c rfl (zle_c rfl (zle_c rfl (zle_c rfl (zle_c rfl (zle_c rfl (zle_c rfl zle_n))))))))))) (zle_c rfl zle_n)
  have m2 := zMt_at (t_X12_buy l (zap S ([(193, a2), (323, (nI F)), (326, (nI H)), (328, (nI P)), (329, (nI al)), (769, (S.1 769)), (1284, (nI n))], [(6, (S.2.1 6)), (7, (S.2.1 7)), (8, (S.2.1 8)), (10, (S.2.1 10)), (11, (S.2.1 11)), (13, (S.2.1 13)), (15, a3), (16, a4), (23, (S.2.1 23)), (24, (S.2.1 24)), (25, (S.2.1 25))], [(4, a5)])) eb) (zle_c eF2 (zle_c eA2 (zle_c eH2 (zle_c eP2 (zle_c eR2 (zle_c rfl (zle_c rfl (zle_c rfl (zle_c rfl (zle_c rfl (zle_c rfl (zle_c rfl (zle_c rfl (zle_c rfl (zle_c rfl (zle_c rfl (zle_c rfl zle_n))))))))))))))))) (zle_c rfl (zle_c rfl (zle_c rfl (zle_c rfl (zle_c rfl (zle_c rfl (zle_c rfl (zle_c rfl (zle_c rfl (zle_c rfl zle_n)))))))))) (zle_c rfl zle_n)
  exact ⟨_, ([(193, a2), (323, (nI F)), (326, (nI H)), (328, (nI P)), (329, (nI al)), (769, (S.1 769)), (1284, (nI n))], [(6, (S.2.1 6)), (7, (S.2.1 7)), (8, (S.2.1 8)), (10, (S.2.1 10)), (11, (S.2.1 11)), (13, (S.2.1 13)), (15, a3), (16, a4), (23, (S.2.1 23)), (24, (S.2.1 24)), (25, (S.2.1 25))], [(4, a5)]), ([(3457, (nI F)), (3461, (nI al)), (3462, (nI H)), (3466, (nI P)), (3472, b2), (3473, b3), (3474, b4), (3475, b5), (3476, b6), (3477, b7), (3478, b8), (3483, (S.1 3483)), (3484, b9), (3485, b10), (3486, b11), (3487, b12), (3488, b13)], [(55, (S.2.1 55)), (56, (S.2.1 56)), (57, (S.2.1 57)), (58, (S.2.1 58)), (59, (S.2.1 59)), (60, (S.2.1 60)), (61, (S.2.1 61)), (62, (S.2.1 62)), (63, (S.2.1 63)), (69, (S.2.1 69))], [(65, b14)]), m1, m2, Inv_i hTx hX hM (by first | exact eF1 | rfl) (by first | exact eF2 | rfl) (by first | exact eH1 | rfl) (by first | exact eH2 | rfl) (by first | exact eP1 | rfl) (by first | exact eP2 | rfl) ha (by first | exact eA1 | rfl) (by first | exact eA2 | rfl) hR' e1 e2 (by first | exact hT | exact hTn) hHi (by first | exact eS1 | rfl) (by first | exact eC1 | rfl) (by first | exact eC2 | rfl) hKe (by first | exact eS2 | rfl) hY hZ⟩
set_option maxRecDepth 100000 in
set_option maxHeartbeats 4000000 in
theorem st_game (l : Launch) {S : zS} (h : Inv S) : zSt mX11_game mX12_game 204 409 [] l S := by
  obtain ⟨y, tc, F, H, P, kd, ht, ft, st, sc, ca, pl, V, al, r, c, mo, hTx, hX, hM, eF1, eF2, eH1, eH2, eP1, eP2, ha, eA1, eA2, hR, eR1, eR2, hT, hHi, eS1, eC1, eC2, hKe, eS2, hY, hZ⟩ := h
  obtain ⟨n, rd, hs, fa, te, hE⟩ := id hT
  have eN : S.1 1284 = nI n := hE.2.1
  have hTn := hT
  rw [eN] at hTn
  obtain ⟨⟨a1, a2, a3, a4, a5, a6, a7, a8, a9, a10, a11, a12, a13, a14, a15, a16, a17, a18, a19⟩, ea, ⟨b1, b2, b3, b4, b5, b6, b7, b8, b9, b10, b11, b12, b13, b14, b15, b16, b17, b18, b19, b20⟩, eb, hq⟩ := pr_game (ts := (S.1 65)) (rz := (S.1 769)) (sg := (S.2.1 2)) (ck := (S.2.1 6)) (ch := (S.2.1 7)) (cf := (S.2.1 8)) (cd := (S.2.1 10)) (cp := (S.2.1 11)) (rk := (S.2.1 13)) (tf := (S.2.1 23)) (tx := (S.2.1 24)) (tm := (S.2.1 25)) (nt := (S.2.2 4)) (mt' := (S.1 3470)) (mz := (S.1 3483)) (mn := (S.2.1 55)) (mk := (S.2.1 56)) (mh := (S.2.1 57)) (mf := (S.2.1 58)) (ms := (S.2.1 59)) (mc := (S.2.1 60)) (ma := (S.2.1 61)) (mp := (S.2.1 62)) (mm := (S.2.1 63)) (mx := (S.2.1 64)) (ml := (S.2.1 69)) (mt := (S.2.2 65)) hX hM (tE_C hE) (tE_N hE) hY hZ ha hR hTx (S.1 66) (S.1 67) (S.1 2497) (S.1 2498) (S.1 2499) (S.2.1 15) (S.2.1 16) (S.2.1 40) (S.2.1 41) (S.2.1 42) (S.2.1 43) (S.2.1 44) (S.2.1 45) (S.2.2 46) (S.2.2 47) (S.1 3474) (S.1 3475) (S.1 3476) (S.1 3477) (S.1 3478) (S.1 3484) (S.1 3485) (S.1 3486) (S.1 3487) (S.1 3488) (S.1 3473) (S.1 3503) (S.2.1 78) (S.2.1 80) (S.2.1 81) (S.2.2 79)
  obtain ⟨hr, _, ⟨t1, t2⟩, r', e1, e2, hR'⟩ := hq
  have hr : a1 = b1 := hr
  subst hr
  have m1 := zMt_at (t_X11_game l S ea) (zle_c rfl (zle_c rfl (zle_c rfl (zle_c eR1 (zle_c eF1 (zle_c eH1 (zle_c eP1 (zle_c eA1 (zle_c rfl (zle_c eN (zle_c rfl (zle_c rfl (zle_c rfl zle_n))))))))))))) (zle_c rfl (zle_c rfl (zle_c rfl (zle_c rfl (zle_c rfl (zle_c rfl (zle_c rfl (zle_c rfl (zle_c rfl (zle_c rfl (zle_c rfl (zle_c rfl (zle_c rfl (zle_c rfl (zle_c rfl (zle_c rfl (zle_c rfl (zle_c rfl zle_n)))))))))))))))))) (zle_c rfl (zle_c rfl (zle_c rfl zle_n)))
  have m2 := zMt_at (t_X12_game l (zap S ([(65, a2), (66, a3), (67, a4), (193, a5), (323, (nI F)), (326, (nI H)), (328, (nI P)), (329, (nI al)), (769, (S.1 769)), (1284, (nI n)), (2497, a6), (2498, a7), (2499, a8)], [(2, (S.2.1 2)), (6, (S.2.1 6)), (7, (S.2.1 7)), (8, (S.2.1 8)), (10, (S.2.1 10)), (11, (S.2.1 11)), (13, (S.2.1 13)), (15, a9), (16, a10), (23, (S.2.1 23)), (24, (S.2.1 24)), (25, (S.2.1 25)), (40, a11), (41, a12), (42, a13), (43, a14), (44, a15), (45, a16)], [(4, a17), (46, a18), (47, a19)])) eb) (zle_c eF2 (zle_c eA2 (zle_c eH2 (zle_c eP2 (zle_c rfl (zle_c eR2 (zle_c rfl (zle_c rfl (zle_c rfl (zle_c rfl (zle_c rfl (zle_c rfl (zle_c rfl (zle_c rfl (zle_c rfl (zle_c rfl (zle_c rfl (zle_c rfl (zle_c rfl zle_n))))))))))))))))))) (zle_c rfl (zle_c rfl (zle_c rfl (zle_c rfl (zle_c rfl (zle_c rfl (zle_c rfl (zle_c rfl (zle_c rfl (zle_c rfl (zle_c rfl (zle_c rfl (zle_c rfl (zle_c rfl zle_n)))))))))))))) (zle_c rfl (zle_c rfl zle_n))
  exact ⟨_, ([(65, a2), (66, a3), (67, a4), (193, a5), (323, (nI F)), (326, (nI H)), (328, (nI P)), (329, (nI al)), (769, (S.1 769)), (1284, (nI n)), (2497, a6), (2498, a7), (2499, a8)], [(2, (S.2.1 2)), (6, (S.2.1 6)), (7, (S.2.1 7)), (8, (S.2.1 8)), (10, (S.2.1 10)), (11, (S.2.1 11)), (13, (S.2.1 13)), (15, a9), (16, a10), (23, (S.2.1 23)), (24, (S.2.1 24)), (25, (S.2.1 25)), (40, a11), (41, a12), (42, a13), (43, a14), (44, a15), (45, a16)], [(4, a17), (46, a18), (47, a19)]), ([(3457, (nI F)), (3461, (nI al)), (3462, (nI H)), (3466, (nI P)), (3470, b2), (3472, b3), (3473, b4), (3474, b5), (3475, b6), (3476, b7), (3477, b8), (3478, b9), (3483, (S.1 3483)), (3484, b10), (3485, b11), (3486, b12), (3487, b13), (3488, b14), (3503, b15)], [(55, (S.2.1 55)), (56, (S.2.1 56)), (57, (S.2.1 57)), (58, (S.2.1 58)), (59, (S.2.1 59)), (60, (S.2.1 60)), (61, (S.2.1 61)), (62, (S.2.1 62)), (63, (S.2.1 63)), (64, (S.2.1 64)), (69, (S.2.1 69)), (78, b16), (80, b17), (81, b18)], [(65, b19), (79, b20)]), m1, m2, Inv_i (okTx0 (tc := tc) t1 t2) hX hM (by first | exact eF1 | rfl) (by first | exact eF2 | rfl) (by first | exact eH1 | rfl) (by first | exact eH2 | rfl) (by first | exact eP1 | rfl) (by first | exact eP2 | rfl) ha (by first | exact eA1 | rfl) (by first | exact eA2 | rfl) hR' e1 e2 (by first | exact hT | exact hTn) hHi (by first | exact eS1 | rfl) (by first | exact eC1 | rfl) (by first | exact eC2 | rfl) hKe (by first | exact eS2 | rfl) hY hZ⟩
set_option maxRecDepth 100000 in
set_option maxHeartbeats 4000000 in
theorem st_lot (l : Launch) {S : zS} (h : Inv S) : zSt mX11_lot mX12_lot 204 409 [] l S := by
  obtain ⟨y, tc, F, H, P, kd, ht, ft, st, sc, ca, pl, V, al, r, c, mo, hTx, hX, hM, eF1, eF2, eH1, eH2, eP1, eP2, ha, eA1, eA2, hR, eR1, eR2, hT, hHi, eS1, eC1, eC2, hKe, eS2, hY, hZ⟩ := h
  obtain ⟨n, rd, hs, fa, te, hE⟩ := id hT
  have eN : S.1 1284 = nI n := hE.2.1
  have hTn := hT
  rw [eN] at hTn
  obtain ⟨⟨a1, a2, a3, a4, a5, a6, a7, a8, a9, a10, a11, a12, a13, a14, a15, a16, a17, a18, a19⟩, ea, ⟨b1, b2, b3, b4, b5, b6, b7, b8, b9, b10, b11, b12, b13, b14, b15, b16, b17, b18, b19, b20, b21⟩, eb, hq⟩ := pr_lot (ts := (S.1 65)) (rz := (S.1 769)) (sg := (S.2.1 2)) (ck := (S.2.1 6)) (ch := (S.2.1 7)) (cf := (S.2.1 8)) (cd := (S.2.1 10)) (cp := (S.2.1 11)) (rk := (S.2.1 13)) (tf := (S.2.1 23)) (tx := (S.2.1 24)) (tm := (S.2.1 25)) (nt := (S.2.2 4)) (mt' := (S.1 3470)) (mz := (S.1 3483)) (mn := (S.2.1 55)) (mk := (S.2.1 56)) (mh := (S.2.1 57)) (mf := (S.2.1 58)) (ms := (S.2.1 59)) (mc := (S.2.1 60)) (ma := (S.2.1 61)) (mp := (S.2.1 62)) (mm := (S.2.1 63)) (mx := (S.2.1 64)) (ml := (S.2.1 69)) (mt := (S.2.2 65)) hX hM (tE_C hE) (tE_N hE) hY hZ ha hR hTx (S.1 66) (S.1 67) (S.1 2497) (S.1 2498) (S.1 2499) (S.2.1 15) (S.2.1 16) (S.2.1 40) (S.2.1 41) (S.2.1 42) (S.2.1 43) (S.2.1 44) (S.2.1 45) (S.2.2 46) (S.2.2 47) (S.1 3474) (S.1 3475) (S.1 3476) (S.1 3477) (S.1 3478) (S.1 3484) (S.1 3485) (S.1 3486) (S.1 3487) (S.1 3488) (S.1 3473) (S.1 3503) (S.2.1 78) (S.2.1 80) (S.2.1 81) (S.2.1 82) (S.2.2 79)
  obtain ⟨hr, _, ⟨t1, t2⟩, r', e1, e2, hR'⟩ := hq
  have hr : a1 = b1 := hr
  subst hr
  have m1 := zMt_at (t_X11_lot l S ea) (zle_c rfl (zle_c rfl (zle_c rfl (zle_c eR1 (zle_c eF1 (zle_c eH1 (zle_c eP1 (zle_c eA1 (zle_c rfl (zle_c eN (zle_c rfl (zle_c rfl (zle_c rfl zle_n))))))))))))) (zle_c rfl (zle_c rfl (zle_c rfl (zle_c rfl (zle_c rfl (zle_c rfl (zle_c rfl (zle_c rfl (zle_c rfl (zle_c rfl (zle_c rfl (zle_c rfl (zle_c rfl (zle_c rfl (zle_c rfl (zle_c rfl (zle_c rfl (zle_c rfl zle_n)))))))))))))))))) (zle_c rfl (zle_c rfl (zle_c rfl zle_n)))
  have m2 := zMt_at (t_X12_lot l (zap S ([(65, a2), (66, a3), (67, a4), (193, a5), (323, (nI F)), (326, (nI H)), (328, (nI P)), (329, (nI al)), (769, (S.1 769)), (1284, (nI n)), (2497, a6), (2498, a7), (2499, a8)], [(2, (S.2.1 2)), (6, (S.2.1 6)), (7, (S.2.1 7)), (8, (S.2.1 8)), (10, (S.2.1 10)), (11, (S.2.1 11)), (13, (S.2.1 13)), (15, a9), (16, a10), (23, (S.2.1 23)), (24, (S.2.1 24)), (25, (S.2.1 25)), (40, a11), (41, a12), (42, a13), (43, a14), (44, a15), (45, a16)], [(4, a17), (46, a18), (47, a19)])) eb) (zle_c eF2 (zle_c eA2 (zle_c eH2 (zle_c eP2 (zle_c rfl (zle_c eR2 (zle_c rfl (zle_c rfl (zle_c rfl (zle_c rfl (zle_c rfl (zle_c rfl (zle_c rfl (zle_c rfl (zle_c rfl (zle_c rfl (zle_c rfl (zle_c rfl (zle_c rfl zle_n))))))))))))))))))) (zle_c rfl (zle_c rfl (zle_c rfl (zle_c rfl (zle_c rfl (zle_c rfl (zle_c rfl (zle_c rfl (zle_c rfl (zle_c rfl (zle_c rfl (zle_c rfl (zle_c rfl (zle_c rfl (zle_c rfl zle_n))))))))))))))) (zle_c rfl (zle_c rfl zle_n))
  exact ⟨_, ([(65, a2), (66, a3), (67, a4), (193, a5), (323, (nI F)), (326, (nI H)), (328, (nI P)), (329, (nI al)), (769, (S.1 769)), (1284, (nI n)), (2497, a6), (2498, a7), (2499, a8)], [(2, (S.2.1 2)), (6, (S.2.1 6)), (7, (S.2.1 7)), (8, (S.2.1 8)), (10, (S.2.1 10)), (11, (S.2.1 11)), (13, (S.2.1 13)), (15, a9), (16, a10), (23, (S.2.1 23)), (24, (S.2.1 24)), (25, (S.2.1 25)), (40, a11), (41, a12), (42, a13), (43, a14), (44, a15), (45, a16)], [(4, a17), (46, a18), (47, a19)]), ([(3457, (nI F)), (3461, (nI al)), (3462, (nI H)), (3466, (nI P)), (3470, b2), (3472, b3), (3473, b4), (3474, b5), (3475, b6), (3476, b7), (3477, b8), (3478, b9), (3483, (S.1 3483)), (3484, b10), (3485, b11), (3486, b12), (3487, b13), (3488, b14), (3503, b15)], [(55, (S.2.1 55)), (56, (S.2.1 56)), (57, (S.2.1 57)), (58, (S.2.1 58)), (59, (S.2.1 59)), (60, (S.2.1 60)), (61, (S.2.1 61)), (62, (S.2.1 62)), (63, (S.2.1 63)), (64, (S.2.1 64)), (69, (S.2.1 69)), (78, b16), (80, b17), (81, b18), (82, b19)], [(65, b20), (79, b21)]), m1, m2, Inv_i (okTx0 (tc := tc) t1 t2) hX hM (by first | exact eF1 | rfl) (by first | exact eF2 | rfl) (by first | exact eH1 | rfl) (by first | exact eH2 | rfl) (by first | exact eP1 | rfl) (by first | exact eP2 | rfl) ha (by first | exact eA1 | rfl) (by first | exact eA2 | rfl) hR' e1 e2 (by first | exact hT | exact hTn) hHi (by first | exact eS1 | rfl) (by first | exact eC1 | rfl) (by first | exact eC2 | rfl) hKe (by first | exact eS2 | rfl) hY hZ⟩
set_option maxRecDepth 100000 in
set_option maxHeartbeats 4000000 in
theorem st_share (l : Launch) {S : zS} (h : Inv S) (p1 : Int32) : zSt mX11_share mX12_share 204 409 [.int p1] l S := by
  obtain ⟨y, tc, F, H, P, kd, ht, ft, st, sc, ca, pl, V, al, r, c, mo, hTx, hX, hM, eF1, eF2, eH1, eH2, eP1, eP2, ha, eA1, eA2, hR, eR1, eR2, hT, hHi, eS1, eC1, eC2, hKe, eS2, hY, hZ⟩ := h
  obtain ⟨n, rd, hs, fa, te, hE⟩ := id hT
  have eN : S.1 1284 = nI n := hE.2.1
  have hTn := hT
  rw [eN] at hTn
  obtain ⟨⟨a1, a2, a3, a4, a5, a6, a7, a8, a9, a10, a11, a12, a13, a14, a15, a16, a17, a18, a19⟩, ea, ⟨b1, b2, b3, b4, b5, b6, b7, b8, b9, b10, b11, b12, b13, b14, b15, b16, b17, b18, b19, b20⟩, eb, hq⟩ := pr_share (ts := (S.1 65)) (rz := (S.1 769)) (sg := (S.2.1 2)) (ck := (S.2.1 6)) (ch := (S.2.1 7)) (cf := (S.2.1 8)) (cd := (S.2.1 10)) (cp := (S.2.1 11)) (rk := (S.2.1 13)) (tf := (S.2.1 23)) (tx := (S.2.1 24)) (tm := (S.2.1 25)) (nt := (S.2.2 4)) (mt' := (S.1 3470)) (mz := (S.1 3483)) (mn := (S.2.1 55)) (mk := (S.2.1 56)) (mh := (S.2.1 57)) (mf := (S.2.1 58)) (ms := (S.2.1 59)) (mc := (S.2.1 60)) (ma := (S.2.1 61)) (mp := (S.2.1 62)) (mm := (S.2.1 63)) (mx := (S.2.1 64)) (ml := (S.2.1 69)) (mt := (S.2.2 65)) hX hM (tE_C hE) (tE_N hE) hY hZ ha hR hTx p1 (S.1 66) (S.1 67) (S.1 2497) (S.1 2498) (S.1 2499) (S.2.1 15) (S.2.1 16) (S.2.1 40) (S.2.1 41) (S.2.1 42) (S.2.1 43) (S.2.1 44) (S.2.1 45) (S.2.2 46) (S.2.2 47) (S.1 3474) (S.1 3475) (S.1 3476) (S.1 3477) (S.1 3478) (S.1 3484) (S.1 3485) (S.1 3486) (S.1 3487) (S.1 3488) (S.1 3473) (S.1 3503) (S.2.1 78) (S.2.1 80) (S.2.1 81) (S.2.2 79)
  obtain ⟨hr, _, ⟨t1, t2⟩, r', e1, e2, hR'⟩ := hq
  have hr : a1 = b1 := hr
  subst hr
  have m1 := zMt_at (t_X11_share l S ea) (zle_c rfl (zle_c rfl (zle_c rfl (zle_c eR1 (zle_c eF1 (zle_c eH1 (zle_c eP1 (zle_c eA1 (zle_c rfl (zle_c eN (zle_c rfl (zle_c rfl (zle_c rfl zle_n))))))))))))) (zle_c rfl (zle_c rfl (zle_c rfl (zle_c rfl (zle_c rfl (zle_c rfl (zle_c rfl (zle_c rfl (zle_c rfl (zle_c rfl (zle_c rfl (zle_c rfl (zle_c rfl (zle_c rfl (zle_c rfl (zle_c rfl (zle_c rfl (zle_c rfl zle_n)))))))))))))))))) (zle_c rfl (zle_c rfl (zle_c rfl zle_n)))
  have m2 := zMt_at (t_X12_share l (zap S ([(65, a2), (66, a3), (67, a4), (193, a5), (323, (nI F)), (326, (nI H)), (328, (nI P)), (329, (nI al)), (769, (S.1 769)), (1284, (nI n)), (2497, a6), (2498, a7), (2499, a8)], [(2, (S.2.1 2)), (6, (S.2.1 6)), (7, (S.2.1 7)), (8, (S.2.1 8)), (10, (S.2.1 10)), (11, (S.2.1 11)), (13, (S.2.1 13)), (15, a9), (16, a10), (23, (S.2.1 23)), (24, (S.2.1 24)), (25, (S.2.1 25)), (40, a11), (41, a12), (42, a13), (43, a14), (44, a15), (45, a16)], [(4, a17), (46, a18), (47, a19)])) eb) (zle_c eF2 (zle_c eA2 (zle_c eH2 (zle_c eP2 (zle_c rfl (zle_c eR2 (zle_c rfl (zle_c rfl (zle_c rfl (zle_c rfl (zle_c rfl (zle_c rfl (zle_c rfl (zle_c rfl (zle_c rfl (zle_c rfl (zle_c rfl (zle_c rfl (zle_c rfl zle_n))))))))))))))))))) (zle_c rfl (zle_c rfl (zle_c rfl (zle_c rfl (zle_c rfl (zle_c rfl (zle_c rfl (zle_c rfl (zle_c rfl (zle_c rfl (zle_c rfl (zle_c rfl (zle_c rfl (zle_c rfl zle_n)))))))))))))) (zle_c rfl (zle_c rfl zle_n))
  exact ⟨_, ([(65, a2), (66, a3), (67, a4), (193, a5), (323, (nI F)), (326, (nI H)), (328, (nI P)), (329, (nI al)), (769, (S.1 769)), (1284, (nI n)), (2497, a6), (2498, a7), (2499, a8)], [(2, (S.2.1 2)), (6, (S.2.1 6)), (7, (S.2.1 7)), (8, (S.2.1 8)), (10, (S.2.1 10)), (11, (S.2.1 11)), (13, (S.2.1 13)), (15, a9), (16, a10), (23, (S.2.1 23)), (24, (S.2.1 24)), (25, (S.2.1 25)), (40, a11), (41, a12), (42, a13), (43, a14), (44, a15), (45, a16)], [(4, a17), (46, a18), (47, a19)]), ([(3457, (nI F)), (3461, (nI al)), (3462, (nI H)), (3466, (nI P)), (3470, b2), (3472, b3), (3473, b4), (3474, b5), (3475, b6), (3476, b7), (3477, b8), (3478, b9), (3483, (S.1 3483)), (3484, b10), (3485, b11), (3486, b12), (3487, b13), (3488, b14), (3503, b15)], [(55, (S.2.1 55)), (56, (S.2.1 56)), (57, (S.2.1 57)), (58, (S.2.1 58)), (59, (S.2.1 59)), (60, (S.2.1 60)), (61, (S.2.1 61)), (62, (S.2.1 62)), (63, (S.2.1 63)), (64, (S.2.1 64)), (69, (S.2.1 69)), (78, b16), (80, b17), (81, b18)], [(65, b19), (79, b20)]), m1, m2, Inv_i (okTx0 (tc := tc) t1 t2) hX hM (by first | exact eF1 | rfl) (by first | exact eF2 | rfl) (by first | exact eH1 | rfl) (by first | exact eH2 | rfl) (by first | exact eP1 | rfl) (by first | exact eP2 | rfl) ha (by first | exact eA1 | rfl) (by first | exact eA2 | rfl) hR' e1 e2 (by first | exact hT | exact hTn) hHi (by first | exact eS1 | rfl) (by first | exact eC1 | rfl) (by first | exact eC2 | rfl) hKe (by first | exact eS2 | rfl) hY hZ⟩
set_option maxRecDepth 100000 in
set_option maxHeartbeats 4000000 in
theorem st_through (l : Launch) {S : zS} (h : Inv S) (p1 p2 : Int32) : zSt mX11_through mX12_through 6 208 [.int p1, .int p2] l S := by
  obtain ⟨y, tc, F, H, P, kd, ht, ft, st, sc, ca, pl, V, al, r, c, mo, hTx, hX, hM, eF1, eF2, eH1, eH2, eP1, eP2, ha, eA1, eA2, hR, eR1, eR2, hT, hHi, eS1, eC1, eC2, hKe, eS2, hY, hZ⟩ := h
  obtain ⟨n, rd, hs, fa, te, hE⟩ := id hT
  have eN : S.1 1284 = nI n := hE.2.1
  have hTn := hT
  rw [eN] at hTn
  obtain ⟨⟨a1, a2, a3, a4, a5⟩, ea, ⟨b1, b2, b3, b4, b5, b6, b7, b8, b9, b10, b11, b12, b13, b14⟩, eb, hq⟩ := pr_through (rz := (S.1 769)) (ck := (S.2.1 6)) (ch := (S.2.1 7)) (cf := (S.2.1 8)) (cd := (S.2.1 10)) (cp := (S.2.1 11)) (rk := (S.2.1 13)) (nt := (S.2.2 4)) (mz := (S.1 3483)) (mk := (S.2.1 56)) (mh := (S.2.1 57)) (mf := (S.2.1 58)) (ms := (S.2.1 59)) (mc := (S.2.1 60)) (ma := (S.2.1 61)) (mp := (S.2.1 62)) (ml := (S.2.1 69)) (mt := (S.2.2 65)) hX hM hR p1 p2 (S.2.1 15) (S.2.1 16) (S.1 3474) (S.1 3475) (S.1 3476) (S.1 3477) (S.1 3478) (S.1 3484) (S.1 3485) (S.1 3486) (S.1 3487) (S.1 3488) (S.1 3473)
  obtain ⟨hr, _, r', e1, e2, hR'⟩ := hq
  have hr : a1 = b1 := hr
  subst hr
  have m1 := zMt_at (t_X11_through l S ea) (zle_c eR1 (zle_c eF1 (zle_c eH1 (zle_c eP1 (zle_c rfl zle_n))))) (zle_c rfl (zle_c rfl (zle_c rfl (zle_c rfl (zle_c rfl (zle_c rfl (zle_c rfl (zle_c rfl zle_n)))))))) (zle_c rfl zle_n)
  have m2 := zMt_at (t_X12_through l (zap S ([(193, a2), (323, (nI F)), (326, (nI H)), (328, (nI P)), (769, (S.1 769))], [(6, (S.2.1 6)), (7, (S.2.1 7)), (8, (S.2.1 8)), (10, (S.2.1 10)), (11, (S.2.1 11)), (13, (S.2.1 13)), (15, a3), (16, a4)], [(4, a5)])) eb) (zle_c eF2 (zle_c eH2 (zle_c eP2 (zle_c eR2 (zle_c rfl (zle_c rfl (zle_c rfl (zle_c rfl (zle_c rfl (zle_c rfl (zle_c rfl (zle_c rfl (zle_c rfl (zle_c rfl (zle_c rfl (zle_c rfl zle_n)))))))))))))))) (zle_c rfl (zle_c rfl (zle_c rfl (zle_c rfl (zle_c rfl (zle_c rfl (zle_c rfl (zle_c rfl zle_n)))))))) (zle_c rfl zle_n)
  exact ⟨_, ([(193, a2), (323, (nI F)), (326, (nI H)), (328, (nI P)), (769, (S.1 769))], [(6, (S.2.1 6)), (7, (S.2.1 7)), (8, (S.2.1 8)), (10, (S.2.1 10)), (11, (S.2.1 11)), (13, (S.2.1 13)), (15, a3), (16, a4)], [(4, a5)]), ([(3457, (nI F)), (3462, (nI H)), (3466, (nI P)), (3472, b2), (3473, b3), (3474, b4), (3475, b5), (3476, b6), (3477, b7), (3478, b8), (3483, (S.1 3483)), (3484, b9), (3485, b10), (3486, b11), (3487, b12), (3488, b13)], [(56, (S.2.1 56)), (57, (S.2.1 57)), (58, (S.2.1 58)), (59, (S.2.1 59)), (60, (S.2.1 60)), (61, (S.2.1 61)), (62, (S.2.1 62)), (69, (S.2.1 69))], [(65, b14)]), m1, m2, Inv_i hTx hX hM (by first | exact eF1 | rfl) (by first | exact eF2 | rfl) (by first | exact eH1 | rfl) (by first | exact eH2 | rfl) (by first | exact eP1 | rfl) (by first | exact eP2 | rfl) ha (by first | exact eA1 | rfl) (by first | exact eA2 | rfl) hR' e1 e2 (by first | exact hT | exact hTn) hHi (by first | exact eS1 | rfl) (by first | exact eC1 | rfl) (by first | exact eC2 | rfl) hKe (by first | exact eS2 | rfl) hY hZ⟩
set_option maxRecDepth 100000 in
set_option maxHeartbeats 4000000 in
theorem st_built (l : Launch) {S : zS} (h : Inv S) (p1 p2 p3 : Int32) : zSt mX11_built mX12_built 6 208 [.int p1, .int p2, .int p3] l S := by
  obtain ⟨y, tc, F, H, P, kd, ht, ft, st, sc, ca, pl, V, al, r, c, mo, hTx, hX, hM, eF1, eF2, eH1, eH2, eP1, eP2, ha, eA1, eA2, hR, eR1, eR2, hT, hHi, eS1, eC1, eC2, hKe, eS2, hY, hZ⟩ := h
  obtain ⟨n, rd, hs, fa, te, hE⟩ := id hT
  have eN : S.1 1284 = nI n := hE.2.1
  have hTn := hT
  rw [eN] at hTn
  obtain ⟨⟨a1, a2, a3, a4, a5, a6, a7, a8, a9⟩, ea, ⟨b1, b2, b3, b4, b5, b6, b7, b8, b9, b10, b11, b12, b13, b14⟩, eb, hq⟩ := pr_built (rz := (S.1 769)) (ck := (S.2.1 6)) (ch := (S.2.1 7)) (cf := (S.2.1 8)) (cd := (S.2.1 10)) (cp := (S.2.1 11)) (rk := (S.2.1 13)) (nt := (S.2.2 4)) (mz := (S.1 3483)) (mk := (S.2.1 56)) (mh := (S.2.1 57)) (mf := (S.2.1 58)) (ms := (S.2.1 59)) (mc := (S.2.1 60)) (ma := (S.2.1 61)) (mp := (S.2.1 62)) (ml := (S.2.1 69)) (mt := (S.2.2 65)) hX hM hR p1 p2 p3 (S.2.1 15) (S.2.1 16) (S.2.1 17) (S.2.1 18) (S.2.1 19) (S.1 3474) (S.1 3475) (S.1 3476) (S.1 3477) (S.1 3478) (S.1 3484) (S.1 3485) (S.1 3486) (S.1 3487) (S.1 3488) (S.1 3473)
  obtain ⟨hch, hr, _, r', e1, e2, hR'⟩ := hq
  have hr : a1 = b1 := hr
  subst hr
  have hch : a3 = (S.2.1 7) := hch
  have hX2 : okX F H P kd ht ft st sc ca pl V (S.2.1 6) a3 (S.2.1 8) (S.2.1 10) (S.2.1 11) (S.1 769) (S.2.1 13) := by rw [hch]; exact hX
  have m1 := zMt_at (t_X11_built l S ea) (zle_c eR1 (zle_c eF1 (zle_c eH1 (zle_c eP1 (zle_c rfl zle_n))))) (zle_c rfl (zle_c rfl (zle_c rfl (zle_c rfl (zle_c rfl (zle_c rfl (zle_c rfl (zle_c rfl (zle_c rfl (zle_c rfl (zle_c rfl zle_n))))))))))) (zle_c rfl zle_n)
  have m2 := zMt_at (t_X12_built l (zap S ([(193, a2), (323, (nI F)), (326, (nI H)), (328, (nI P)), (769, (S.1 769))], [(6, (S.2.1 6)), (7, a3), (8, (S.2.1 8)), (10, (S.2.1 10)), (11, (S.2.1 11)), (13, (S.2.1 13)), (15, a4), (16, a5), (17, a6), (18, a7), (19, a8)], [(4, a9)])) eb) (zle_c eF2 (zle_c eH2 (zle_c eP2 (zle_c eR2 (zle_c rfl (zle_c rfl (zle_c rfl (zle_c rfl (zle_c rfl (zle_c rfl (zle_c rfl (zle_c rfl (zle_c rfl (zle_c rfl (zle_c rfl (zle_c rfl zle_n)))))))))))))))) (zle_c rfl (zle_c rfl (zle_c rfl (zle_c rfl (zle_c rfl (zle_c rfl (zle_c rfl (zle_c rfl zle_n)))))))) (zle_c rfl zle_n)
  exact ⟨_, ([(193, a2), (323, (nI F)), (326, (nI H)), (328, (nI P)), (769, (S.1 769))], [(6, (S.2.1 6)), (7, a3), (8, (S.2.1 8)), (10, (S.2.1 10)), (11, (S.2.1 11)), (13, (S.2.1 13)), (15, a4), (16, a5), (17, a6), (18, a7), (19, a8)], [(4, a9)]), ([(3457, (nI F)), (3462, (nI H)), (3466, (nI P)), (3472, b2), (3473, b3), (3474, b4), (3475, b5), (3476, b6), (3477, b7), (3478, b8), (3483, (S.1 3483)), (3484, b9), (3485, b10), (3486, b11), (3487, b12), (3488, b13)], [(56, (S.2.1 56)), (57, (S.2.1 57)), (58, (S.2.1 58)), (59, (S.2.1 59)), (60, (S.2.1 60)), (61, (S.2.1 61)), (62, (S.2.1 62)), (69, (S.2.1 69))], [(65, b14)]), m1, m2, Inv_i hTx hX2 hM (by first | exact eF1 | rfl) (by first | exact eF2 | rfl) (by first | exact eH1 | rfl) (by first | exact eH2 | rfl) (by first | exact eP1 | rfl) (by first | exact eP2 | rfl) ha (by first | exact eA1 | rfl) (by first | exact eA2 | rfl) hR' e1 e2 (by first | exact hT | exact hTn) hHi (by first | exact eS1 | rfl) (by first | exact eC1 | rfl) (by first | exact eC2 | rfl) hKe (by first | exact eS2 | rfl) hY hZ⟩
set_option maxRecDepth 100000 in
set_option maxHeartbeats 4000000 in
theorem st_fair (l : Launch) {S : zS} (h : Inv S) (p1 : Int32) : zSt mX11_fair mX12_fair 2 2 [.int p1] l S := by
  obtain ⟨y, tc, F, H, P, kd, ht, ft, st, sc, ca, pl, V, al, r, c, mo, hTx, hX, hM, eF1, eF2, eH1, eH2, eP1, eP2, ha, eA1, eA2, hR, eR1, eR2, hT, hHi, eS1, eC1, eC2, hKe, eS2, hY, hZ⟩ := h
  obtain ⟨n, rd, hs, fa, te, hE⟩ := id hT
  have eN : S.1 1284 = nI n := hE.2.1
  have hTn := hT
  rw [eN] at hTn
  obtain ⟨⟨a1, a2, a3⟩, ea, ⟨b1, b2, b3, b4⟩, eb, hq⟩ := pr_fair (cd := (S.2.1 10)) (nt := (S.2.2 4)) (ms := (S.2.1 59)) (mt := (S.2.2 65)) hX hM hR p1 (S.1 3473)
  obtain ⟨hr, _, r', e1, e2, hR'⟩ := hq
  have hr : a1 = b1 := hr
  subst hr
  have m1 := zMt_at (t_X11_fair l S ea) (zle_c eR1 (zle_c eF1 (zle_c eH1 zle_n))) (zle_c rfl zle_n) (zle_c rfl zle_n)
  have m2 := zMt_at (t_X12_fair l (zap S ([(193, a2), (323, (nI F)), (326, (nI H))], [(10, (S.2.1 10))], [(4, a3)])) eb) (zle_c eF2 (zle_c eH2 (zle_c eR2 (zle_c rfl zle_n)))) (zle_c rfl zle_n) (zle_c rfl zle_n)
  exact ⟨_, ([(193, a2), (323, (nI F)), (326, (nI H))], [(10, (S.2.1 10))], [(4, a3)]), ([(3457, (nI F)), (3462, (nI H)), (3472, b2), (3473, b3)], [(59, (S.2.1 59))], [(65, b4)]), m1, m2, Inv_i hTx hX hM (by first | exact eF1 | rfl) (by first | exact eF2 | rfl) (by first | exact eH1 | rfl) (by first | exact eH2 | rfl) (by first | exact eP1 | rfl) (by first | exact eP2 | rfl) ha (by first | exact eA1 | rfl) (by first | exact eA2 | rfl) hR' e1 e2 (by first | exact hT | exact hTn) hHi (by first | exact eS1 | rfl) (by first | exact eC1 | rfl) (by first | exact eC2 | rfl) hKe (by first | exact eS2 | rfl) hY hZ⟩
set_option maxRecDepth 100000 in
set_option maxHeartbeats 4000000 in
theorem st_parts (l : Launch) {S : zS} (h : Inv S) : zSt mX11_parts mX12_parts 3 2 [] l S := by
  obtain ⟨y, tc, F, H, P, kd, ht, ft, st, sc, ca, pl, V, al, r, c, mo, hTx, hX, hM, eF1, eF2, eH1, eH2, eP1, eP2, ha, eA1, eA2, hR, eR1, eR2, hT, hHi, eS1, eC1, eC2, hKe, eS2, hY, hZ⟩ := h
  obtain ⟨n, rd, hs, fa, te, hE⟩ := id hT
  have eN : S.1 1284 = nI n := hE.2.1
  have hTn := hT
  rw [eN] at hTn
  obtain ⟨⟨a1, a2, a3, a4, a5⟩, ea, ⟨b1, b2, b3, b4, b5⟩, eb, hq⟩ := pr_parts (cz := (S.1 1284)) (tr := (S.2.1 21)) (to := (S.2.1 22)) (tf := (S.2.1 23)) (nt := (S.2.2 4)) (mn := (S.2.1 55)) (mt := (S.2.2 65)) hT (S.1 193) (S.1 3472) (S.1 3473) (S.2.1 50) (S.2.1 51) (S.2.1 83)
  obtain ⟨hr, _, r', e1, e2, hR'⟩ := hq
  have hr : a1 = b1 := hr
  subst hr
  have m1 := zMt_at (t_X11_parts l S ea) (zle_c rfl (zle_c rfl zle_n)) (zle_c rfl (zle_c rfl (zle_c rfl (zle_c rfl (zle_c rfl zle_n))))) (zle_c rfl zle_n)
  have m2 := zMt_at (t_X12_parts l (zap S ([(193, a2), (1284, (S.1 1284))], [(21, (S.2.1 21)), (22, (S.2.1 22)), (23, (S.2.1 23)), (50, a3), (51, a4)], [(4, a5)])) eb) (zle_c rfl (zle_c rfl zle_n)) (zle_c rfl (zle_c rfl zle_n)) (zle_c rfl zle_n)
  exact ⟨_, ([(193, a2), (1284, (S.1 1284))], [(21, (S.2.1 21)), (22, (S.2.1 22)), (23, (S.2.1 23)), (50, a3), (51, a4)], [(4, a5)]), ([(3472, b2), (3473, b3)], [(55, (S.2.1 55)), (83, b4)], [(65, b5)]), m1, m2, Inv_i hTx hX hM (by first | exact eF1 | rfl) (by first | exact eF2 | rfl) (by first | exact eH1 | rfl) (by first | exact eH2 | rfl) (by first | exact eP1 | rfl) (by first | exact eP2 | rfl) ha (by first | exact eA1 | rfl) (by first | exact eA2 | rfl) hR' e1 e2 (by first | exact hT | exact hTn) hHi (by first | exact eS1 | rfl) (by first | exact eC1 | rfl) (by first | exact eC2 | rfl) hKe (by first | exact eS2 | rfl) hY hZ⟩
set_option maxRecDepth 100000 in
set_option maxHeartbeats 4000000 in
theorem st_riders (l : Launch) {S : zS} (h : Inv S) (p1 p2 : Int32) : zSt mX11_riders mX12_riders 2 202 [.int p1, .int p2] l S := by
  obtain ⟨y, tc, F, H, P, kd, ht, ft, st, sc, ca, pl, V, al, r, c, mo, hTx, hX, hM, eF1, eF2, eH1, eH2, eP1, eP2, ha, eA1, eA2, hR, eR1, eR2, hT, hHi, eS1, eC1, eC2, hKe, eS2, hY, hZ⟩ := h
  obtain ⟨n, rd, hs, fa, te, hE⟩ := id hT
  have eN : S.1 1284 = nI n := hE.2.1
  have hTn := hT
  rw [eN] at hTn
  obtain ⟨⟨a1, a2, a3⟩, ea, ⟨b1, b2, b3, b4, b5, b6⟩, eb, hq⟩ := pr_riders (cz := (S.1 1284)) (tr := (S.2.1 21)) (to := (S.2.1 22)) (tf := (S.2.1 23)) (nt := (S.2.2 4)) (mn := (S.2.1 55)) (mt := (S.2.2 65)) hT hX.2.2.1.1.1 hR p1 p2 (S.1 3473) (S.1 3509) (S.1 3510)
  obtain ⟨hr, _, r', e1, e2, hR'⟩ := hq
  have hr : a1 = b1 := hr
  subst hr
  have m1 := zMt_at (t_X11_riders l S ea) (zle_c eR1 (zle_c eH1 (zle_c rfl zle_n))) (zle_c rfl (zle_c rfl (zle_c rfl zle_n))) (zle_c rfl zle_n)
  have m2 := zMt_at (t_X12_riders l (zap S ([(193, a2), (326, (nI H)), (1284, (S.1 1284))], [(21, (S.2.1 21)), (22, (S.2.1 22)), (23, (S.2.1 23))], [(4, a3)])) eb) (zle_c eH2 (zle_c eR2 (zle_c rfl (zle_c rfl (zle_c rfl zle_n))))) (zle_c rfl zle_n) (zle_c rfl zle_n)
  exact ⟨_, ([(193, a2), (326, (nI H)), (1284, (S.1 1284))], [(21, (S.2.1 21)), (22, (S.2.1 22)), (23, (S.2.1 23))], [(4, a3)]), ([(3462, (nI H)), (3472, b2), (3473, b3), (3509, b4), (3510, b5)], [(55, (S.2.1 55))], [(65, b6)]), m1, m2, Inv_i hTx hX hM (by first | exact eF1 | rfl) (by first | exact eF2 | rfl) (by first | exact eH1 | rfl) (by first | exact eH2 | rfl) (by first | exact eP1 | rfl) (by first | exact eP2 | rfl) ha (by first | exact eA1 | rfl) (by first | exact eA2 | rfl) hR' e1 e2 (by first | exact hT | exact hTn) hHi (by first | exact eS1 | rfl) (by first | exact eC1 | rfl) (by first | exact eC2 | rfl) hKe (by first | exact eS2 | rfl) hY hZ⟩
set_option maxRecDepth 100000 in
set_option maxHeartbeats 4000000 in
theorem st_wind (l : Launch) {S : zS} (h : Inv S) (p1 p2 p3 p4 : Int32) : zSt mX11_wind mX12_wind 5 208 [.int p1, .int p2, .int p3, .int p4] l S := by
  obtain ⟨y, tc, F, H, P, kd, ht, ft, st, sc, ca, pl, V, al, r, c, mo, hTx, hX, hM, eF1, eF2, eH1, eH2, eP1, eP2, ha, eA1, eA2, hR, eR1, eR2, hT, hHi, eS1, eC1, eC2, hKe, eS2, hY, hZ⟩ := h
  obtain ⟨n, rd, hs, fa, te, hE⟩ := id hT
  have eN : S.1 1284 = nI n := hE.2.1
  have hTn := hT
  rw [eN] at hTn
  obtain ⟨⟨a1, a2, a3, a4, a5, a6⟩, ea, ⟨b1, b2, b3, b4, b5, b6, b7, b8, b9, b10, b11, b12, b13, b14, b15⟩, eb, hq⟩ := pr_wind (rz := (S.1 769)) (ck := (S.2.1 6)) (ch := (S.2.1 7)) (cf := (S.2.1 8)) (cd := (S.2.1 10)) (cp := (S.2.1 11)) (rk := (S.2.1 13)) (nt := (S.2.2 4)) (mz := (S.1 3483)) (mk := (S.2.1 56)) (mh := (S.2.1 57)) (mf := (S.2.1 58)) (ms := (S.2.1 59)) (mc := (S.2.1 60)) (ma := (S.2.1 61)) (mp := (S.2.1 62)) (ml := (S.2.1 69)) (mt := (S.2.2 65)) hX hM hR p1 p2 p3 p4 (S.2.1 15) (S.2.1 16) (S.2.2 52) (S.1 3474) (S.1 3475) (S.1 3476) (S.1 3477) (S.1 3478) (S.1 3484) (S.1 3485) (S.1 3486) (S.1 3487) (S.1 3488) (S.1 3473) (S.2.2 84)
  obtain ⟨hr, _, r', e1, e2, hR'⟩ := hq
  have hr : a1 = b1 := hr
  subst hr
  have m1 := zMt_at (t_X11_wind l S ea) (zle_c eR1 (zle_c eF1 (zle_c eH1 (zle_c eP1 (zle_c rfl zle_n))))) (zle_c rfl (zle_c rfl (zle_c rfl (zle_c rfl (zle_c rfl (zle_c rfl (zle_c rfl (zle_c rfl zle_n)))))))) (zle_c rfl (zle_c rfl zle_n))
  have m2 := zMt_at (t_X12_wind l (zap S ([(193, a2), (323, (nI F)), (326, (nI H)), (328, (nI P)), (769, (S.1 769))], [(6, (S.2.1 6)), (7, (S.2.1 7)), (8, (S.2.1 8)), (10, (S.2.1 10)), (11, (S.2.1 11)), (13, (S.2.1 13)), (15, a3), (16, a4)], [(4, a5), (52, a6)])) eb) (zle_c eF2 (zle_c eH2 (zle_c eP2 (zle_c eR2 (zle_c rfl (zle_c rfl (zle_c rfl (zle_c rfl (zle_c rfl (zle_c rfl (zle_c rfl (zle_c rfl (zle_c rfl (zle_c rfl (zle_c rfl (zle_c rfl zle_n)))))))))))))))) (zle_c rfl (zle_c rfl (zle_c rfl (zle_c rfl (zle_c rfl (zle_c rfl (zle_c rfl (zle_c rfl zle_n)))))))) (zle_c rfl (zle_c rfl zle_n))
  exact ⟨_, ([(193, a2), (323, (nI F)), (326, (nI H)), (328, (nI P)), (769, (S.1 769))], [(6, (S.2.1 6)), (7, (S.2.1 7)), (8, (S.2.1 8)), (10, (S.2.1 10)), (11, (S.2.1 11)), (13, (S.2.1 13)), (15, a3), (16, a4)], [(4, a5), (52, a6)]), ([(3457, (nI F)), (3462, (nI H)), (3466, (nI P)), (3472, b2), (3473, b3), (3474, b4), (3475, b5), (3476, b6), (3477, b7), (3478, b8), (3483, (S.1 3483)), (3484, b9), (3485, b10), (3486, b11), (3487, b12), (3488, b13)], [(56, (S.2.1 56)), (57, (S.2.1 57)), (58, (S.2.1 58)), (59, (S.2.1 59)), (60, (S.2.1 60)), (61, (S.2.1 61)), (62, (S.2.1 62)), (69, (S.2.1 69))], [(65, b14), (84, b15)]), m1, m2, Inv_i hTx hX hM (by first | exact eF1 | rfl) (by first | exact eF2 | rfl) (by first | exact eH1 | rfl) (by first | exact eH2 | rfl) (by first | exact eP1 | rfl) (by first | exact eP2 | rfl) ha (by first | exact eA1 | rfl) (by first | exact eA2 | rfl) hR' e1 e2 (by first | exact hT | exact hTn) hHi (by first | exact eS1 | rfl) (by first | exact eC1 | rfl) (by first | exact eC2 | rfl) hKe (by first | exact eS2 | rfl) hY hZ⟩
set_option maxRecDepth 100000 in
set_option maxHeartbeats 4000000 in
theorem st_keep (l : Launch) {S : zS} (h : Inv S) (p1 : Int32) : zSt mX11_keep mX12_keep 2 1 [.int p1] l S := by
  obtain ⟨y, tc, F, H, P, kd, ht, ft, st, sc, ca, pl, V, al, r, c, mo, hTx, hX, hM, eF1, eF2, eH1, eH2, eP1, eP2, ha, eA1, eA2, hR, eR1, eR2, hT, hHi, eS1, eC1, eC2, hKe, eS2, hY, hZ⟩ := h
  obtain ⟨n, rd, hs, fa, te, hE⟩ := id hT
  have eN : S.1 1284 = nI n := hE.2.1
  have hTn := hT
  rw [eN] at hTn
  obtain ⟨⟨a1, a2, a3⟩, ea, ⟨b1, b2, b3, b4⟩, eb, hq⟩ := pr_keep (cz := (S.1 1284)) (tr := (S.2.1 21)) (to := (S.2.1 22)) (tf := (S.2.1 23)) (tx := (S.2.1 24)) (kc := (S.2.1 31)) (kz := (S.2.1 32)) (tw := (S.1 3473)) (mn := (S.2.1 55)) (mk := (S.2.1 85)) (ik := (S.2.1 86)) hKe hT p1
  obtain ⟨hr, _, hKe'⟩ := hq
  have hr : a1 = b1 := hr
  subst hr
  have m1 := zMt_at (t_X11_keep l S ea) (zle_c rfl (zle_c eS2 zle_n)) (zle_c rfl (zle_c rfl (zle_c rfl (zle_c rfl (zle_c rfl (zle_c rfl zle_n)))))) zle_n
  have m2 := zMt_at (t_X12_keep l (zap S ([(1284, (S.1 1284)), (1920, 2)], [(21, (S.2.1 21)), (22, (S.2.1 22)), (23, (S.2.1 23)), (24, (S.2.1 24)), (31, a2), (32, a3)], [])) eb) (zle_c rfl zle_n) (zle_c rfl (zle_c rfl (zle_c rfl zle_n))) zle_n
  exact ⟨_, ([(1284, (S.1 1284)), (1920, 2)], [(21, (S.2.1 21)), (22, (S.2.1 22)), (23, (S.2.1 23)), (24, (S.2.1 24)), (31, a2), (32, a3)], []), ([(3473, b2)], [(55, (S.2.1 55)), (85, b3), (86, b4)], []), m1, m2, Inv_i hTx hX hM (by first | exact eF1 | rfl) (by first | exact eF2 | rfl) (by first | exact eH1 | rfl) (by first | exact eH2 | rfl) (by first | exact eP1 | rfl) (by first | exact eP2 | rfl) ha (by first | exact eA1 | rfl) (by first | exact eA2 | rfl) hR (by first | exact eR1 | rfl) (by first | exact eR2 | rfl) (by first | exact hT | exact hTn) hHi (by first | exact eS1 | rfl) (by first | exact eC1 | rfl) (by first | exact eC2 | rfl) hKe' (by first | exact eS2 | rfl) hY hZ⟩
set_option maxRecDepth 100000 in
set_option maxHeartbeats 4000000 in
theorem st_again (l : Launch) {S : zS} (h : Inv S) (p1 : Int32) : zSt mX11_again mX12_again 2 1 [.int p1] l S := by
  obtain ⟨y, tc, F, H, P, kd, ht, ft, st, sc, ca, pl, V, al, r, c, mo, hTx, hX, hM, eF1, eF2, eH1, eH2, eP1, eP2, ha, eA1, eA2, hR, eR1, eR2, hT, hHi, eS1, eC1, eC2, hKe, eS2, hY, hZ⟩ := h
  obtain ⟨n, rd, hs, fa, te, hE⟩ := id hT
  have eN : S.1 1284 = nI n := hE.2.1
  have hTn := hT
  rw [eN] at hTn
  obtain ⟨⟨a1, a2, a3, a4, a5, a6, a7, a8⟩, ea, ⟨b1, b2, b3, b4⟩, eb, hq⟩ := pr_again (cz := (S.1 1284)) (tr := (S.2.1 21)) (to := (S.2.1 22)) (tf := (S.2.1 23)) (tx := (S.2.1 24)) (hz := (S.2.1 29)) (kc := (S.2.1 31)) (kz := (S.2.1 32)) (tw := (S.1 3473)) (mn := (S.2.1 55)) (mk := (S.2.1 85)) (ik := (S.2.1 86)) hHi hKe hT p1
  obtain ⟨hr, _, ⟨c', e3, e4, hHi'⟩, hT'⟩ := hq
  have hr : a1 = b1 := hr
  subst hr
  have m1 := zMt_at (t_X11_again l S ea) (zle_c rfl (zle_c eC1 (zle_c eS2 zle_n))) (zle_c rfl (zle_c rfl (zle_c rfl (zle_c rfl (zle_c rfl (zle_c rfl (zle_c rfl zle_n))))))) zle_n
  have m2 := zMt_at (t_X12_again l (zap S ([(1284, a2), (1731, a3), (1920, 2)], [(21, a4), (22, a5), (23, a6), (24, a7), (29, a8), (31, (S.2.1 31)), (32, (S.2.1 32))], [])) eb) (zle_c rfl (zle_c eC2 zle_n)) (zle_c rfl (zle_c rfl (zle_c rfl zle_n))) zle_n
  exact ⟨_, ([(1284, a2), (1731, a3), (1920, 2)], [(21, a4), (22, a5), (23, a6), (24, a7), (29, a8), (31, (S.2.1 31)), (32, (S.2.1 32))], []), ([(3473, b2), (3494, b3)], [(55, b4), (85, (S.2.1 85)), (86, (S.2.1 86))], []), m1, m2, Inv_i hTx hX hM (by first | exact eF1 | rfl) (by first | exact eF2 | rfl) (by first | exact eH1 | rfl) (by first | exact eH2 | rfl) (by first | exact eP1 | rfl) (by first | exact eP2 | rfl) ha (by first | exact eA1 | rfl) (by first | exact eA2 | rfl) hR (by first | exact eR1 | rfl) (by first | exact eR2 | rfl) hT' hHi' (by first | exact eS1 | rfl) e3 e4 hKe (by first | exact eS2 | rfl) hY hZ⟩
set_option maxRecDepth 100000 in
set_option maxHeartbeats 4000000 in
theorem st_count (l : Launch) {S : zS} (h : Inv S) (p1 : Int32) : zSt mX11_count mX12_count 1 0 [.int p1] l S := by
  obtain ⟨y, tc, F, H, P, kd, ht, ft, st, sc, ca, pl, V, al, r, c, mo, hTx, hX, hM, eF1, eF2, eH1, eH2, eP1, eP2, ha, eA1, eA2, hR, eR1, eR2, hT, hHi, eS1, eC1, eC2, hKe, eS2, hY, hZ⟩ := h
  obtain ⟨n, rd, hs, fa, te, hE⟩ := id hT
  have eN : S.1 1284 = nI n := hE.2.1
  have hTn := hT
  rw [eN] at hTn
  have eT1 := hTx.2.1
  have eT2 := hTx.2.2.1
  obtain ⟨v, ea, eb⟩ := pr_count (p1 := p1) (ts := (nI y)) (rs := (nI r)) (f := (nI F)) (hs := (nI H)) (ps := (nI P)) (al := (nI al)) (cz := (S.1 1284)) (hc := (nI c)) (tm := (S.2.1 25)) (tw := (S.1 3473)) (mn := (S.2.1 55)) (mm := (S.2.1 63)) hT hY hZ
  have m1 := zMt_at (t_X11_count l S ea) (zle_c eT1 (zle_c eR1 (zle_c eF1 (zle_c eH1 (zle_c eP1 (zle_c eA1 (zle_c rfl (zle_c eC1 zle_n)))))))) (zle_c rfl zle_n) zle_n
  have m2 := zMt_at (t_X12_count l (zap S ([(65, (nI y)), (193, (nI r)), (323, (nI F)), (326, (nI H)), (328, (nI P)), (329, (nI al)), (1284, (S.1 1284)), (1731, (nI c))], [(25, (S.2.1 25))], [])) eb) (zle_c eF2 (zle_c eA2 (zle_c eH2 (zle_c eP2 (zle_c eT2 (zle_c eR2 (zle_c rfl (zle_c eC2 zle_n)))))))) (zle_c rfl (zle_c rfl zle_n)) zle_n
  exact ⟨_, ([(65, (nI y)), (193, (nI r)), (323, (nI F)), (326, (nI H)), (328, (nI P)), (329, (nI al)), (1284, (S.1 1284)), (1731, (nI c))], [(25, (S.2.1 25))], []), ([(3457, (nI F)), (3461, (nI al)), (3462, (nI H)), (3466, (nI P)), (3470, (nI y)), (3472, (nI r)), (3473, 0), (3494, (nI c))], [(55, (S.2.1 55)), (63, (S.2.1 63))], []), m1, m2, Inv_i ⟨hTx.1, rfl, rfl, hTx.2.2.2⟩ hX hM (by first | exact eF1 | rfl) (by first | exact eF2 | rfl) (by first | exact eH1 | rfl) (by first | exact eH2 | rfl) (by first | exact eP1 | rfl) (by first | exact eP2 | rfl) ha (by first | exact eA1 | rfl) (by first | exact eA2 | rfl) hR (by first | exact eR1 | rfl) (by first | exact eR2 | rfl) (by first | exact hT | exact hTn) hHi (by first | exact eS1 | rfl) (by first | exact eC1 | rfl) (by first | exact eC2 | rfl) hKe (by first | exact eS2 | rfl) hY hZ⟩
