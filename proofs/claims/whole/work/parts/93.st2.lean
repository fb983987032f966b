/-! steps, a method each -/
set_option maxRecDepth 100000 in
set_option maxHeartbeats 4000000 in
theorem st_falls (l : Launch) {S : zS} (h : Inv S) (p1 p2 : Int32) : zSt mX11_falls mX12_falls 4 207 [.int p1, .int p2] l S := by
  obtain ⟨y, tc, F, H, P, kd, ht, ft, st, sc, ca, pl, V, al, r, c, mo, hTx, hX, hM, eF1, eF2, eH1, eH2, eP1, eP2, ha, eA1, eA2, hR, eR1, eR2, hT, hHi, eS1, eC1, eC2, hKe, eS2, hY, hZ⟩ := h
  obtain ⟨n, rd, hs, fa, te, hE⟩ := id hT
  have eN : S.1 1284 = nI n := hE.2.1
  have hTn := hT
  rw [eN] at hTn
  obtain ⟨r, n', nt', mt', sk', th', w1, w2, w3, w4, w5, w6, w7, w8, w9, w10, ea, eb, hR''⟩ := pr_falls (rz := (S.1 769)) (ck := (S.2.1 6)) (ch := (S.2.1 7)) (cf := (S.2.1 8)) (cd := (S.2.1 10)) (cp := (S.2.1 11)) (rk := (S.2.1 13)) (nt := (S.2.2 4)) (mz := (S.1 3483)) (mk := (S.2.1 56)) (mh := (S.2.1 57)) (mf := (S.2.1 58)) (ms := (S.2.1 59)) (mc := (S.2.1 60)) (ma := (S.2.1 61)) (mp := (S.2.1 62)) (ml := (S.2.1 69)) (mt := (S.2.2 65)) hX hM hR p1 p2 (S.2.1 15) (S.2.1 16) (S.1 3474) (S.1 3475) (S.1 3476) (S.1 3477) (S.1 3478) (S.1 3484) (S.1 3485) (S.1 3486) (S.1 3487) (S.1 3488) (S.1 3473)
  have m1 := zMt_at (t_X11_falls l S ea) (zle_c eR1 (zle_c eF1 (zle_c eH1 (zle_c eP1 (zle_c rfl zle_n))))) (zle_c rfl (zle_c rfl (zle_c rfl (zle_c rfl (zle_c rfl (zle_c rfl (zle_c rfl (zle_c rfl zle_n)))))))) (zle_c rfl zle_n)
  have m2 := zMt_at (t_X12_falls l (zap S ([(193, (nI n')), (323, (nI F)), (326, (nI H)), (328, (nI P)), (769, (S.1 769))], [(6, (S.2.1 6)), (7, (S.2.1 7)), (8, (S.2.1 8)), (10, (S.2.1 10)), (11, (S.2.1 11)), (13, (S.2.1 13)), (15, sk'), (16, th')], [(4, nt')])) eb) (zle_c eF2 (zle_c eH2 (zle_c eP2 (zle_c eR2 (zle_c rfl (zle_c rfl (zle_c rfl (zle_c rfl (zle_c rfl (zle_c rfl (zle_c rfl (zle_c rfl (zle_c rfl (zle_c rfl (zle_c rfl (zle_c rfl zle_n)))))))))))))))) (zle_c rfl (zle_c rfl (zle_c rfl (zle_c rfl (zle_c rfl (zle_c rfl (zle_c rfl (zle_c rfl zle_n)))))))) (zle_c rfl zle_n)
  exact ⟨_, ([(193, (nI n')), (323, (nI F)), (326, (nI H)), (328, (nI P)), (769, (S.1 769))], [(6, (S.2.1 6)), (7, (S.2.1 7)), (8, (S.2.1 8)), (10, (S.2.1 10)), (11, (S.2.1 11)), (13, (S.2.1 13)), (15, sk'), (16, th')], [(4, nt')]), ([(3457, (nI F)), (3462, (nI H)), (3466, (nI P)), (3472, (nI n')), (3473, 0), (3474, w1), (3475, w2), (3476, w3), (3477, w4), (3478, w5), (3483, (S.1 3483)), (3484, w6), (3485, w7), (3486, w8), (3487, w9), (3488, w10)], [(56, (S.2.1 56)), (57, (S.2.1 57)), (58, (S.2.1 58)), (59, (S.2.1 59)), (60, (S.2.1 60)), (61, (S.2.1 61)), (62, (S.2.1 62)), (69, (S.2.1 69))], [(65, mt')]), m1, m2, Inv_i hTx hX hM (by first | exact eF1 | rfl) (by first | exact eF2 | rfl) (by first | exact eH1 | rfl) (by first | exact eH2 | rfl) (by first | exact eP1 | rfl) (by first | exact eP2 | rfl) ha (by first | exact eA1 | rfl) (by first | exact eA2 | rfl) hR'' rfl rfl (by first | exact hT | exact hTn) hHi (by first | exact eS1 | rfl) (by first | exact eC1 | rfl) (by first | exact eC2 | rfl) hKe (by first | exact eS2 | rfl) hY hZ⟩
set_option maxRecDepth 100000 in
set_option maxHeartbeats 4000000 in
theorem st_poles (l : Launch) {S : zS} (h : Inv S) (p1 p2 p3 : Int32) : zSt mX11_poles mX12_poles 4 207 [.int p1, .int p2, .int p3] l S := by
  obtain ⟨y, tc, F, H, P, kd, ht, ft, st, sc, ca, pl, V, al, r, c, mo, hTx, hX, hM, eF1, eF2, eH1, eH2, eP1, eP2, ha, eA1, eA2, hR, eR1, eR2, hT, hHi, eS1, eC1, eC2, hKe, eS2, hY, hZ⟩ := h
  obtain ⟨n, rd, hs, fa, te, hE⟩ := id hT
  have eN : S.1 1284 = nI n := hE.2.1
  have hTn := hT
  rw [eN] at hTn
  obtain ⟨⟨a1, a2, a3, a4⟩, ea, ⟨b1, b2, b3, b4, b5, b6, b7, b8, b9, b10, b11, b12, b13⟩, eb, hq⟩ := pr_poles (rz := (S.1 769)) (ck := (S.2.1 6)) (ch := (S.2.1 7)) (cf := (S.2.1 8)) (cd := (S.2.1 10)) (cp := (S.2.1 11)) (rk := (S.2.1 13)) (mz := (S.1 3483)) (mk := (S.2.1 56)) (mh := (S.2.1 57)) (mf := (S.2.1 58)) (ms := (S.2.1 59)) (mc := (S.2.1 60)) (ma := (S.2.1 61)) (mp := (S.2.1 62)) (ml := (S.2.1 69)) hX hM p1 p2 p3 (S.2.1 15) (S.2.1 16) (S.2.2 52) (S.1 3474) (S.1 3475) (S.1 3476) (S.1 3477) (S.1 3478) (S.1 3484) (S.1 3485) (S.1 3486) (S.1 3487) (S.1 3488) (S.1 3473) (S.2.1 70)
  obtain ⟨hr, _⟩ := hq
  have hr : a1 = b1 := hr
  subst hr
  have m1 := zMt_at (t_X11_poles l S ea) (zle_c eF1 (zle_c eH1 (zle_c eP1 (zle_c rfl zle_n)))) (zle_c rfl (zle_c rfl (zle_c rfl (zle_c rfl (zle_c rfl (zle_c rfl (zle_c rfl (zle_c rfl zle_n)))))))) (zle_c rfl zle_n)
  have m2 := zMt_at (t_X12_poles l (zap S ([(323, (nI F)), (326, (nI H)), (328, (nI P)), (769, (S.1 769))], [(6, (S.2.1 6)), (7, (S.2.1 7)), (8, (S.2.1 8)), (10, (S.2.1 10)), (11, (S.2.1 11)), (13, (S.2.1 13)), (15, a2), (16, a3)], [(52, a4)])) eb) (zle_c eF2 (zle_c eH2 (zle_c eP2 (zle_c rfl (zle_c rfl (zle_c rfl (zle_c rfl (zle_c rfl (zle_c rfl (zle_c rfl (zle_c rfl (zle_c rfl (zle_c rfl (zle_c rfl (zle_c rfl zle_n))))))))))))))) (zle_c rfl (zle_c rfl (zle_c rfl (zle_c rfl (zle_c rfl (zle_c rfl (zle_c rfl (zle_c rfl (zle_c rfl zle_n))))))))) zle_n
  exact ⟨_, ([(323, (nI F)), (326, (nI H)), (328, (nI P)), (769, (S.1 769))], [(6, (S.2.1 6)), (7, (S.2.1 7)), (8, (S.2.1 8)), (10, (S.2.1 10)), (11, (S.2.1 11)), (13, (S.2.1 13)), (15, a2), (16, a3)], [(52, a4)]), ([(3457, (nI F)), (3462, (nI H)), (3466, (nI P)), (3473, b2), (3474, b3), (3475, b4), (3476, b5), (3477, b6), (3478, b7), (3483, (S.1 3483)), (3484, b8), (3485, b9), (3486, b10), (3487, b11), (3488, b12)], [(56, (S.2.1 56)), (57, (S.2.1 57)), (58, (S.2.1 58)), (59, (S.2.1 59)), (60, (S.2.1 60)), (61, (S.2.1 61)), (62, (S.2.1 62)), (69, (S.2.1 69)), (70, b13)], []), m1, m2, Inv_i hTx hX hM (by first | exact eF1 | rfl) (by first | exact eF2 | rfl) (by first | exact eH1 | rfl) (by first | exact eH2 | rfl) (by first | exact eP1 | rfl) (by first | exact eP2 | rfl) ha (by first | exact eA1 | rfl) (by first | exact eA2 | rfl) hR (by first | exact eR1 | rfl) (by first | exact eR2 | rfl) (by first | exact hT | exact hTn) hHi (by first | exact eS1 | rfl) (by first | exact eC1 | rfl) (by first | exact eC2 | rfl) hKe (by first | exact eS2 | rfl) hY hZ⟩
set_option maxRecDepth 100000 in
set_option maxHeartbeats 4000000 in
theorem st_cuts (l : Launch) {S : zS} (h : Inv S) (p1 p2 : Int32) : zSt mX11_cuts mX12_cuts 4 207 [.int p1, .int p2] l S := by
  obtain ⟨y, tc, F, H, P, kd, ht, ft, st, sc, ca, pl, V, al, r, c, mo, hTx, hX, hM, eF1, eF2, eH1, eH2, eP1, eP2, ha, eA1, eA2, hR, eR1, eR2, hT, hHi, eS1, eC1, eC2, hKe, eS2, hY, hZ⟩ := h
  obtain ⟨n, rd, hs, fa, te, hE⟩ := id hT
  have eN : S.1 1284 = nI n := hE.2.1
  have hTn := hT
  rw [eN] at hTn
  obtain ⟨r, n', nt', mt', sk', th', w1, w2, w3, w4, w5, w6, w7, w8, w9, w10, ea, eb, hR''⟩ := pr_cuts (rz := (S.1 769)) (ck := (S.2.1 6)) (ch := (S.2.1 7)) (cf := (S.2.1 8)) (cd := (S.2.1 10)) (cp := (S.2.1 11)) (rk := (S.2.1 13)) (nt := (S.2.2 4)) (mz := (S.1 3483)) (mk := (S.2.1 56)) (mh := (S.2.1 57)) (mf := (S.2.1 58)) (ms := (S.2.1 59)) (mc := (S.2.1 60)) (ma := (S.2.1 61)) (mp := (S.2.1 62)) (ml := (S.2.1 69)) (mt := (S.2.2 65)) hX hM hR p1 p2 (S.2.1 15) (S.2.1 16) (S.1 3474) (S.1 3475) (S.1 3476) (S.1 3477) (S.1 3478) (S.1 3484) (S.1 3485) (S.1 3486) (S.1 3487) (S.1 3488) (S.1 3473)
  have m1 := zMt_at (t_X11_cuts l S ea) (zle_c eR1 (zle_c eF1 (zle_c eH1 (zle_c eP1 (zle_c rfl zle_n))))) (zle_c rfl (zle_c rfl (zle_c rfl (zle_c rfl (zle_c rfl (zle_c rfl (zle_c rfl (zle_c rfl zle_n)))))))) (zle_c rfl zle_n)
  have m2 := zMt_at (t_X12_cuts l (zap S ([(193, (nI n')), (323, (nI F)), (326, (nI H)), (328, (nI P)), (769, (S.1 769))], [(6, (S.2.1 6)), (7, (S.2.1 7)), (8, (S.2.1 8)), (10, (S.2.1 10)), (11, (S.2.1 11)), (13, (S.2.1 13)), (15, sk'), (16, th')], [(4, nt')])) eb) (zle_c eF2 (zle_c eH2 (zle_c eP2 (zle_c eR2 (zle_c rfl (zle_c rfl (zle_c rfl (zle_c rfl (zle_c rfl (zle_c rfl (zle_c rfl (zle_c rfl (zle_c rfl (zle_c rfl (zle_c rfl (zle_c rfl zle_n)))))))))))))))) (zle_c rfl (zle_c rfl (zle_c rfl (zle_c rfl (zle_c rfl (zle_c rfl (zle_c rfl (zle_c rfl zle_n)))))))) (zle_c rfl zle_n)
  exact ⟨_, ([(193, (nI n')), (323, (nI F)), (326, (nI H)), (328, (nI P)), (769, (S.1 769))], [(6, (S.2.1 6)), (7, (S.2.1 7)), (8, (S.2.1 8)), (10, (S.2.1 10)), (11, (S.2.1 11)), (13, (S.2.1 13)), (15, sk'), (16, th')], [(4, nt')]), ([(3457, (nI F)), (3462, (nI H)), (3466, (nI P)), (3472, (nI n')), (3473, 0), (3474, w1), (3475, w2), (3476, w3), (3477, w4), (3478, w5), (3483, (S.1 3483)), (3484, w6), (3485, w7), (3486, w8), (3487, w9), (3488, w10)], [(56, (S.2.1 56)), (57, (S.2.1 57)), (58, (S.2.1 58)), (59, (S.2.1 59)), (60, (S.2.1 60)), (61, (S.2.1 61)), (62, (S.2.1 62)), (69, (S.2.1 69))], [(65, mt')]), m1, m2, Inv_i hTx hX hM (by first | exact eF1 | rfl) (by first | exact eF2 | rfl) (by first | exact eH1 | rfl) (by first | exact eH2 | rfl) (by first | exact eP1 | rfl) (by first | exact eP2 | rfl) ha (by first | exact eA1 | rfl) (by first | exact eA2 | rfl) hR'' rfl rfl (by first | exact hT | exact hTn) hHi (by first | exact eS1 | rfl) (by first | exact eC1 | rfl) (by first | exact eC2 | rfl) hKe (by first | exact eS2 | rfl) hY hZ⟩
set_option maxRecDepth 100000 in
set_option maxHeartbeats 4000000 in
theorem st_curve (l : Launch) {S : zS} (h : Inv S) (p1 p2 : Int32) : zSt mX11_curve mX12_curve 6 208 [.int p1, .int p2] l S := by
  obtain ⟨y, tc, F, H, P, kd, ht, ft, st, sc, ca, pl, V, al, r, c, mo, hTx, hX, hM, eF1, eF2, eH1, eH2, eP1, eP2, ha, eA1, eA2, hR, eR1, eR2, hT, hHi, eS1, eC1, eC2, hKe, eS2, hY, hZ⟩ := h
  obtain ⟨n, rd, hs, fa, te, hE⟩ := id hT
  have eN : S.1 1284 = nI n := hE.2.1
  have hTn := hT
  rw [eN] at hTn
  obtain ⟨⟨a1, a2, a3, a4, a5, a6, a7, a8, a9, a10⟩, ea, ⟨b1, b2, b3, b4, b5, b6, b7, b8, b9, b10, b11, b12, b13, b14, b15, b16, b17⟩, eb, hq⟩ := pr_curve (rz := (S.1 769)) (ck := (S.2.1 6)) (ch := (S.2.1 7)) (cf := (S.2.1 8)) (cd := (S.2.1 10)) (rk := (S.2.1 13)) (nt := (S.2.2 4)) (mz := (S.1 3483)) (mk := (S.2.1 56)) (mh := (S.2.1 57)) (mf := (S.2.1 58)) (ms := (S.2.1 59)) (mc := (S.2.1 60)) (ma := (S.2.1 61)) (ml := (S.2.1 69)) (mt := (S.2.2 65)) hX hM hR p1 p2 (S.1 2180) (S.2.1 15) (S.2.1 16) (S.2.1 35) (S.2.1 36) (S.2.1 37) (S.2.1 38) (S.1 3474) (S.1 3475) (S.1 3476) (S.1 3477) (S.1 3478) (S.1 3484) (S.1 3485) (S.1 3486) (S.1 3487) (S.1 3488) (S.1 3473) (S.2.1 71) (S.2.1 72) (S.2.1 73)
  obtain ⟨hr, _, r', e1, e2, hR'⟩ := hq
  have hr : a1 = b1 := hr
  subst hr
  have m1 := zMt_at (t_X11_curve l S ea) (zle_c eR1 (zle_c eF1 (zle_c eH1 (zle_c rfl (zle_c rfl zle_n))))) (zle_c rfl (zle_c rfl (zle_c rfl (zle_c rfl (zle_c rfl (zle_c rfl (zle_c rfl (zle_c rfl (zle_c rfl (zle_c rfl (zle_c rfl zle_n))))))))))) (zle_c rfl zle_n)
  have m2 := zMt_at (t_X12_curve l (zap S ([(193, a2), (323, (nI F)), (326, (nI H)), (769, (S.1 769)), (2180, a3)], [(6, (S.2.1 6)), (7, (S.2.1 7)), (8, (S.2.1 8)), (10, (S.2.1 10)), (13, (S.2.1 13)), (15, a4), (16, a5), (35, a6), (36, a7), (37, a8), (38, a9)], [(4, a10)])) eb) (zle_c eF2 (zle_c eH2 (zle_c eR2 (zle_c rfl (zle_c rfl (zle_c rfl (zle_c rfl (zle_c rfl (zle_c rfl (zle_c rfl (zle_c rfl (zle_c rfl (zle_c rfl (zle_c rfl (zle_c rfl zle_n))))))))))))))) (zle_c rfl (zle_c rfl (zle_c rfl (zle_c rfl (zle_c rfl (zle_c rfl (zle_c rfl (zle_c rfl (zle_c rfl (zle_c rfl zle_n)))))))))) (zle_c rfl zle_n)
  exact ⟨_, ([(193, a2), (323, (nI F)), (326, (nI H)), (769, (S.1 769)), (2180, a3)], [(6, (S.2.1 6)), (7, (S.2.1 7)), (8, (S.2.1 8)), (10, (S.2.1 10)), (13, (S.2.1 13)), (15, a4), (16, a5), (35, a6), (36, a7), (37, a8), (38, a9)], [(4, a10)]), ([(3457, (nI F)), (3462, (nI H)), (3472, b2), (3473, b3), (3474, b4), (3475, b5), (3476, b6), (3477, b7), (3478, b8), (3483, (S.1 3483)), (3484, b9), (3485, b10), (3486, b11), (3487, b12), (3488, b13)], [(56, (S.2.1 56)), (57, (S.2.1 57)), (58, (S.2.1 58)), (59, (S.2.1 59)), (60, (S.2.1 60)), (61, (S.2.1 61)), (69, (S.2.1 69)), (71, b14), (72, b15), (73, b16)], [(65, b17)]), m1, m2, Inv_i hTx hX hM (by first | exact eF1 | rfl) (by first | exact eF2 | rfl) (by first | exact eH1 | rfl) (by first | exact eH2 | rfl) (by first | exact eP1 | rfl) (by first | exact eP2 | rfl) ha (by first | exact eA1 | rfl) (by first | exact eA2 | rfl) hR' e1 e2 (by first | exact hT | exact hTn) hHi (by first | exact eS1 | rfl) (by first | exact eC1 | rfl) (by first | exact eC2 | rfl) hKe (by first | exact eS2 | rfl) hY hZ⟩
set_option maxRecDepth 100000 in
set_option maxHeartbeats 4000000 in
theorem st_quick (l : Launch) {S : zS} (h : Inv S) (p1 p2 : Int32) : zSt mX11_quick mX12_quick 5 208 [.int p1, .int p2] l S := by
  obtain ⟨y, tc, F, H, P, kd, ht, ft, st, sc, ca, pl, V, al, r, c, mo, hTx, hX, hM, eF1, eF2, eH1, eH2, eP1, eP2, ha, eA1, eA2, hR, eR1, eR2, hT, hHi, eS1, eC1, eC2, hKe, eS2, hY, hZ⟩ := h
  obtain ⟨n, rd, hs, fa, te, hE⟩ := id hT
  have eN : S.1 1284 = nI n := hE.2.1
  have hTn := hT
  rw [eN] at hTn
  obtain ⟨⟨a1, a2, a3, a4, a5, a6, a7, a8, a9, a10⟩, ea, ⟨b1, b2, b3, b4, b5, b6, b7, b8, b9, b10, b11, b12, b13, b14, b15, b16, b17⟩, eb, hq⟩ := pr_quick (rz := (S.1 769)) (ck := (S.2.1 6)) (ch := (S.2.1 7)) (cf := (S.2.1 8)) (cd := (S.2.1 10)) (rk := (S.2.1 13)) (nt := (S.2.2 4)) (mz := (S.1 3483)) (mk := (S.2.1 56)) (mh := (S.2.1 57)) (mf := (S.2.1 58)) (ms := (S.2.1 59)) (mc := (S.2.1 60)) (ma := (S.2.1 61)) (ml := (S.2.1 69)) (mt := (S.2.2 65)) hX hM hR p1 p2 (S.1 2180) (S.2.1 15) (S.2.1 16) (S.2.1 35) (S.2.1 36) (S.2.1 37) (S.2.1 38) (S.1 3474) (S.1 3475) (S.1 3476) (S.1 3477) (S.1 3478) (S.1 3484) (S.1 3485) (S.1 3486) (S.1 3487) (S.1 3488) (S.1 3473) (S.2.1 71) (S.2.1 72) (S.2.1 73)
  obtain ⟨hr, _, r', e1, e2, hR'⟩ := hq
  have hr : a1 = b1 := hr
  subst hr
  have m1 := zMt_at (t_X11_quick l S ea) (zle_c eR1 (zle_c eF1 (zle_c eH1 (zle_c rfl (zle_c rfl zle_n))))) (zle_c rfl (zle_c rfl (zle_c rfl (zle_c rfl (zle_c rfl (zle_c rfl (zle_c rfl (zle_c rfl (zle_c rfl (zle_c rfl (zle_c rfl zle_n))))))))))) (zle_c rfl zle_n)
  have m2 := zMt_at (t_X12_quick l (zap S ([(193, a2), (323, (nI F)), (326, (nI H)), (769, (S.1 769)), (2180, a3)], [(6, (S.2.1 6)), (7, (S.2.1 7)), (8, (S.2.1 8)), (10, (S.2.1 10)), (13, (S.2.1 13)), (15, a4), (16, a5), (35, a6), (36, a7), (37, a8), (38, a9)], [(4, a10)])) eb) (zle_c eF2 (zle_c eH2 (zle_c eR2 (zle_c rfl (zle_c rfl (zle_c rfl (zle_c rfl (zle_c rfl (zle_c rfl (zle_c rfl (zle_c rfl (zle_c rfl (zle_c rfl (zle_c rfl (zle_c rfl zle_n))))))))))))))) (zle_c rfl (zle_c rfl (zle_c rfl (zle_c rfl (zle_c rfl (zle_c rfl (zle_c rfl (zle_c rfl (zle_c rfl (zle_c rfl zle_n)))))))))) (zle_c rfl zle_n)
  exact ⟨_, ([(193, a2), (323, (nI F)), (326, (nI H)), (769, (S.1 769)), (2180, a3)], [(6, (S.2.1 6)), (7, (S.2.1 7)), (8, (S.2.1 8)), (10, (S.2.1 10)), (13, (S.2.1 13)), (15, a4), (16, a5), (35, a6), (36, a7), (37, a8), (38, a9)], [(4, a10)]), ([(3457, (nI F)), (3462, (nI H)), (3472, b2), (3473, b3), (3474, b4), (3475, b5), (3476, b6), (3477, b7), (3478, b8), (3483, (S.1 3483)), (3484, b9), (3485, b10), (3486, b11), (3487, b12), (3488, b13)], [(56, (S.2.1 56)), (57, (S.2.1 57)), (58, (S.2.1 58)), (59, (S.2.1 59)), (60, (S.2.1 60)), (61, (S.2.1 61)), (69, (S.2.1 69)), (71, b14), (72, b15), (73, b16)], [(65, b17)]), m1, m2, Inv_i hTx hX hM (by first | exact eF1 | rfl) (by first | exact eF2 | rfl) (by first | exact eH1 | rfl) (by first | exact eH2 | rfl) (by first | exact eP1 | rfl) (by first | exact eP2 | rfl) ha (by first | exact eA1 | rfl) (by first | exact eA2 | rfl) hR' e1 e2 (by first | exact hT | exact hTn) hHi (by first | exact eS1 | rfl) (by first | exact eC1 | rfl) (by first | exact eC2 | rfl) hKe (by first | exact eS2 | rfl) hY hZ⟩
set_option maxRecDepth 100000 in
set_option maxHeartbeats 4000000 in
theorem st_sure (l : Launch) {S : zS} (h : Inv S) (p1 : Int32) : zSt mX11_sure mX12_sure 6 209 [.int p1] l S := by
  obtain ⟨y, tc, F, H, P, kd, ht, ft, st, sc, ca, pl, V, al, r, c, mo, hTx, hX, hM, eF1, eF2, eH1, eH2, eP1, eP2, ha, eA1, eA2, hR, eR1, eR2, hT, hHi, eS1, eC1, eC2, hKe, eS2, hY, hZ⟩ := h
  obtain ⟨n, rd, hs, fa, te, hE⟩ := id hT
  have eN : S.1 1284 = nI n := hE.2.1
  have hTn := hT
  rw [eN] at hTn
  obtain ⟨⟨a1, a2, a3, a4, a5, a6, a7, a8, a9, a10⟩, ea, ⟨b1, b2, b3, b4, b5, b6, b7, b8, b9, b10, b11, b12, b13, b14, b15, b16, b17⟩, eb, hq⟩ := pr_sure (rz := (S.1 769)) (ck := (S.2.1 6)) (ch := (S.2.1 7)) (cf := (S.2.1 8)) (cd := (S.2.1 10)) (rk := (S.2.1 13)) (nt := (S.2.2 4)) (mz := (S.1 3483)) (mk := (S.2.1 56)) (mh := (S.2.1 57)) (mf := (S.2.1 58)) (ms := (S.2.1 59)) (mc := (S.2.1 60)) (ma := (S.2.1 61)) (ml := (S.2.1 69)) (mt := (S.2.2 65)) hX hM hR ha p1 (S.1 2180) (S.2.1 15) (S.2.1 16) (S.2.1 35) (S.2.1 36) (S.2.1 37) (S.2.1 38) (S.1 3474) (S.1 3475) (S.1 3476) (S.1 3477) (S.1 3478) (S.1 3484) (S.1 3485) (S.1 3486) (S.1 3487) (S.1 3488) (S.1 3473) (S.2.1 71) (S.2.1 72) (S.2.1 73)
  obtain ⟨hr, _, r', e1, e2, hR'⟩ := hq
  have hr : a1 = b1 := hr
  subst hr
  have m1 := zMt_at (t_X11_sure l S ea) (zle_c eR1 (zle_c eF1 (zle_c eH1 (zle_c eA1 (zle_c rfl (zle_c rfl zle_n)))))) (zle_c rfl (zle_c rfl (zle_c rfl (zle_c rfl (zle_c rfl (zle_c rfl (zle_c rfl (zle_c rfl (zle_c rfl (zle_c rfl (zle_c rfl zle_n))))))))))) (zle_c rfl zle_n)
  have m2 := zMt_at (t_X12_sure l (zap S ([(193, a2), (323, (nI F)), (326, (nI H)), (329, (nI al)), (769, (S.1 769)), (2180, a3)], [(6, (S.2.1 6)), (7, (S.2.1 7)), (8, (S.2.1 8)), (10, (S.2.1 10)), (13, (S.2.1 13)), (15, a4), (16, a5), (35, a6), (36, a7), (37, a8), (38, a9)], [(4, a10)])) eb) (zle_c eF2 (zle_c eA2 (zle_c eH2 (zle_c eR2 (zle_c rfl (zle_c rfl (zle_c rfl (zle_c rfl (zle_c rfl (zle_c rfl (zle_c rfl (zle_c rfl (zle_c rfl (zle_c rfl (zle_c rfl (zle_c rfl zle_n)))))))))))))))) (zle_c rfl (zle_c rfl (zle_c rfl (zle_c rfl (zle_c rfl (zle_c rfl (zle_c rfl (zle_c rfl (zle_c rfl (zle_c rfl zle_n)))))))))) (zle_c rfl zle_n)
  exact ⟨_, ([(193, a2), (323, (nI F)), (326, (nI H)), (329, (nI al)), (769, (S.1 769)), (2180, a3)], [(6, (S.2.1 6)), (7, (S.2.1 7)), (8, (S.2.1 8)), (10, (S.2.1 10)), (13, (S.2.1 13)), (15, a4), (16, a5), (35, a6), (36, a7), (37, a8), (38, a9)], [(4, a10)]), ([(3457, (nI F)), (3461, (nI al)), (3462, (nI H)), (3472, b2), (3473, b3), (3474, b4), (3475, b5), (3476, b6), (3477, b7), (3478, b8), (3483, (S.1 3483)), (3484, b9), (3485, b10), (3486, b11), (3487, b12), (3488, b13)], [(56, (S.2.1 56)), (57, (S.2.1 57)), (58, (S.2.1 58)), (59, (S.2.1 59)), (60, (S.2.1 60)), (61, (S.2.1 61)), (69, (S.2.1 69)), (71, b14), (72, b15), (73, b16)], [(65, b17)]), m1, m2, Inv_i hTx hX hM (by first | exact eF1 | rfl) (by first | exact eF2 | rfl) (by first | exact eH1 | rfl) (by first | exact eH2 | rfl) (by first | exact eP1 | rfl) (by first | exact eP2 | rfl) ha (by first | exact eA1 | rfl) (by first | exact eA2 | rfl) hR' e1 e2 (by first | exact hT | exact hTn) hHi (by first | exact eS1 | rfl) (by first | exact eC1 | rfl) (by first | exact eC2 | rfl) hKe (by first | exact eS2 | rfl) hY hZ⟩
set_option maxRecDepth 100000 in
set_option maxHeartbeats 4000000 in
theorem st_ride (l : Launch) {S : zS} (h : Inv S) (p1 p2 p3 p4 : Int32) : zSt mX11_ride mX12_ride 6 208 [.int p1, .int p2, .int p3, .int p4] l S := by
  obtain ⟨y, tc, F, H, P, kd, ht, ft, st, sc, ca, pl, V, al, r, c, mo, hTx, hX, hM, eF1, eF2, eH1, eH2, eP1, eP2, ha, eA1, eA2, hR, eR1, eR2, hT, hHi, eS1, eC1, eC2, hKe, eS2, hY, hZ⟩ := h
  obtain ⟨n, rd, hs, fa, te, hE⟩ := id hT
  have eN : S.1 1284 = nI n := hE.2.1
  have hTn := hT
  rw [eN] at hTn
  obtain ⟨⟨a1, a2, a3, a4, a5, a6, a7, a8, a9, a10, a11, a12, a13, a14, a15, a16, a17, a18⟩, ea, ⟨b1, b2, b3, b4, b5, b6, b7, b8, b9, b10, b11, b12, b13, b14, b15, b16, b17, b18, b19, b20, b21⟩, eb, hq⟩ := pr_ride (rz := (S.1 769)) (cz := (S.1 1284)) (ck := (S.2.1 6)) (ch := (S.2.1 7)) (cf := (S.2.1 8)) (cd := (S.2.1 10)) (cp := (S.2.1 11)) (rk := (S.2.1 13)) (tr := (S.2.1 21)) (to := (S.2.1 22)) (tf := (S.2.1 23)) (tx := (S.2.1 24)) (hc := (S.2.1 28)) (hz := (S.2.1 29)) (nt := (S.2.2 4)) (tw := (S.1 3473)) (mz := (S.1 3483)) (mn := (S.2.1 55)) (mk := (S.2.1 56)) (mh := (S.2.1 57)) (mf := (S.2.1 58)) (ms := (S.2.1 59)) (mc := (S.2.1 60)) (ma := (S.2.1 61)) (mp := (S.2.1 62)) (ml := (S.2.1 69)) (un := (S.2.1 74)) (mt := (S.2.2 65)) hX hM hT hHi ha hR p1 p2 p3 p4 (S.1 2112) (S.1 2113) (S.1 2114) (S.1 2115) (S.1 2116) (S.2.1 15) (S.2.1 16) (S.1 3474) (S.1 3475) (S.1 3476) (S.1 3477) (S.1 3478) (S.1 3484) (S.1 3485) (S.1 3486) (S.1 3487) (S.1 3488) (S.1 3496) (S.1 3497) (S.1 3498) (S.1 3499)
  obtain ⟨hr, _, ⟨r', e1, e2, hR'⟩, ⟨c', e3, e4, hHi'⟩, hT'⟩ := hq
  have hr : a1 = b1 := hr
  subst hr
  have m1 := zMt_at (t_X11_ride l S ea) (zle_c eR1 (zle_c eF1 (zle_c eH1 (zle_c eP1 (zle_c eA1 (zle_c rfl (zle_c rfl (zle_c eS1 (zle_c eC1 (zle_c rfl (zle_c rfl (zle_c rfl (zle_c rfl (zle_c rfl zle_n)))))))))))))) (zle_c rfl (zle_c rfl (zle_c rfl (zle_c rfl (zle_c rfl (zle_c rfl (zle_c rfl (zle_c rfl (zle_c rfl (zle_c rfl (zle_c rfl (zle_c rfl (zle_c rfl (zle_c rfl zle_n)))))))))))))) (zle_c rfl zle_n)
  have m2 := zMt_at (t_X12_ride l (zap S ([(193, a2), (323, (nI F)), (326, (nI H)), (328, (nI P)), (329, (nI al)), (769, (S.1 769)), (1284, a3), (1728, 13), (1731, a4), (2112, a5), (2113, a6), (2114, a7), (2115, a8), (2116, a9)], [(6, (S.2.1 6)), (7, (S.2.1 7)), (8, (S.2.1 8)), (10, (S.2.1 10)), (11, (S.2.1 11)), (13, (S.2.1 13)), (15, a10), (16, a11), (21, a12), (22, a13), (23, a14), (24, a15), (28, a16), (29, a17)], [(4, a18)])) eb) (zle_c eF2 (zle_c eA2 (zle_c eH2 (zle_c eP2 (zle_c eR2 (zle_c rfl (zle_c rfl (zle_c rfl (zle_c rfl (zle_c rfl (zle_c rfl (zle_c rfl (zle_c rfl (zle_c rfl (zle_c rfl (zle_c rfl (zle_c rfl (zle_c eC2 (zle_c rfl (zle_c rfl (zle_c rfl (zle_c rfl zle_n)))))))))))))))))))))) (zle_c rfl (zle_c rfl (zle_c rfl (zle_c rfl (zle_c rfl (zle_c rfl (zle_c rfl (zle_c rfl (zle_c rfl (zle_c rfl zle_n)))))))))) (zle_c rfl zle_n)
  exact ⟨_, ([(193, a2), (323, (nI F)), (326, (nI H)), (328, (nI P)), (329, (nI al)), (769, (S.1 769)), (1284, a3), (1728, 13), (1731, a4), (2112, a5), (2113, a6), (2114, a7), (2115, a8), (2116, a9)], [(6, (S.2.1 6)), (7, (S.2.1 7)), (8, (S.2.1 8)), (10, (S.2.1 10)), (11, (S.2.1 11)), (13, (S.2.1 13)), (15, a10), (16, a11), (21, a12), (22, a13), (23, a14), (24, a15), (28, a16), (29, a17)], [(4, a18)]), ([(3457, (nI F)), (3461, (nI al)), (3462, (nI H)), (3466, (nI P)), (3472, b2), (3473, b3), (3474, b4), (3475, b5), (3476, b6), (3477, b7), (3478, b8), (3483, (S.1 3483)), (3484, b9), (3485, b10), (3486, b11), (3487, b12), (3488, b13), (3494, b14), (3496, b15), (3497, b16), (3498, b17), (3499, b18)], [(55, b19), (56, (S.2.1 56)), (57, (S.2.1 57)), (58, (S.2.1 58)), (59, (S.2.1 59)), (60, (S.2.1 60)), (61, (S.2.1 61)), (62, (S.2.1 62)), (69, (S.2.1 69)), (74, b20)], [(65, b21)]), m1, m2, Inv_i hTx hX hM (by first | exact eF1 | rfl) (by first | exact eF2 | rfl) (by first | exact eH1 | rfl) (by first | exact eH2 | rfl) (by first | exact eP1 | rfl) (by first | exact eP2 | rfl) ha (by first | exact eA1 | rfl) (by first | exact eA2 | rfl) hR' e1 e2 hT' hHi' (by first | exact eS1 | rfl) e3 e4 hKe (by first | exact eS2 | rfl) hY hZ⟩
set_option maxRecDepth 100000 in
set_option maxHeartbeats 4000000 in
theorem st_look (l : Launch) {S : zS} (h : Inv S) (p1 p2 p3 : Int32) : zSt mX11_look mX12_look 5 208 [.int p1, .int p2, .int p3] l S := by
  obtain ⟨y, tc, F, H, P, kd, ht, ft, st, sc, ca, pl, V, al, r, c, mo, hTx, hX, hM, eF1, eF2, eH1, eH2, eP1, eP2, ha, eA1, eA2, hR, eR1, eR2, hT, hHi, eS1, eC1, eC2, hKe, eS2, hY, hZ⟩ := h
  obtain ⟨n, rd, hs, fa, te, hE⟩ := id hT
  have eN : S.1 1284 = nI n := hE.2.1
  have hTn := hT
  rw [eN] at hTn
  obtain ⟨⟨a1, a2, a3, a4, a5, a6, a7, a8, a9, a10⟩, ea, ⟨b1, b2, b3, b4, b5, b6, b7, b8, b9, b10, b11, b12, b13, b14, b15, b16, b17, b18⟩, eb, hq⟩ := pr_look (rz := (S.1 769)) (ck := (S.2.1 6)) (ch := (S.2.1 7)) (cf := (S.2.1 8)) (cd := (S.2.1 10)) (cp := (S.2.1 11)) (rk := (S.2.1 13)) (nt := (S.2.2 4)) (mz := (S.1 3483)) (mk := (S.2.1 56)) (mh := (S.2.1 57)) (mf := (S.2.1 58)) (ms := (S.2.1 59)) (mc := (S.2.1 60)) (ma := (S.2.1 61)) (mp := (S.2.1 62)) (ml := (S.2.1 69)) (mt := (S.2.2 65)) hX hM ha hR p1 p2 p3 (S.1 2112) (S.1 2113) (S.1 2114) (S.1 2115) (S.1 2116) (S.2.1 15) (S.2.1 16) (S.1 3474) (S.1 3475) (S.1 3476) (S.1 3477) (S.1 3478) (S.1 3484) (S.1 3485) (S.1 3486) (S.1 3487) (S.1 3488) (S.1 3473) (S.1 3496) (S.1 3497) (S.1 3498) (S.1 3499)
  obtain ⟨hr, _, r', e1, e2, hR'⟩ := hq
  have hr : a1 = b1 := hr
  subst hr
  have m1 := zMt_at (t_X11_look l S ea) (zle_c eR1 (zle_c eF1 (zle_c eH1 (zle_c eP1 (zle_c eA1 (zle_c rfl (zle_c rfl (zle_c rfl (zle_c rfl (zle_c rfl (zle_c rfl zle_n))))))))))) (zle_c rfl (zle_c rfl (zle_c rfl (zle_c rfl (zle_c rfl (zle_c rfl (zle_c rfl (zle_c rfl zle_n)))))))) (zle_c rfl zle_n)
  have m2 := zMt_at (t_X12_look l (zap S ([(193, a2), (323, (nI F)), (326, (nI H)), (328, (nI P)), (329, (nI al)), (769, (S.1 769)), (2112, a3), (2113, a4), (2114, a5), (2115, a6), (2116, a7)], [(6, (S.2.1 6)), (7, (S.2.1 7)), (8, (S.2.1 8)), (10, (S.2.1 10)), (11, (S.2.1 11)), (13, (S.2.1 13)), (15, a8), (16, a9)], [(4, a10)])) eb) (zle_c eF2 (zle_c eA2 (zle_c eH2 (zle_c eP2 (zle_c eR2 (zle_c rfl (zle_c rfl (zle_c rfl (zle_c rfl (zle_c rfl (zle_c rfl (zle_c rfl (zle_c rfl (zle_c rfl (zle_c rfl (zle_c rfl (zle_c rfl (zle_c rfl (zle_c rfl (zle_c rfl (zle_c rfl zle_n))))))))))))))))))))) (zle_c rfl (zle_c rfl (zle_c rfl (zle_c rfl (zle_c rfl (zle_c rfl (zle_c rfl (zle_c rfl zle_n)))))))) (zle_c rfl zle_n)
  exact ⟨_, ([(193, a2), (323, (nI F)), (326, (nI H)), (328, (nI P)), (329, (nI al)), (769, (S.1 769)), (2112, a3), (2113, a4), (2114, a5), (2115, a6), (2116, a7)], [(6, (S.2.1 6)), (7, (S.2.1 7)), (8, (S.2.1 8)), (10, (S.2.1 10)), (11, (S.2.1 11)), (13, (S.2.1 13)), (15, a8), (16, a9)], [(4, a10)]), ([(3457, (nI F)), (3461, (nI al)), (3462, (nI H)), (3466, (nI P)), (3472, b2), (3473, b3), (3474, b4), (3475, b5), (3476, b6), (3477, b7), (3478, b8), (3483, (S.1 3483)), (3484, b9), (3485, b10), (3486, b11), (3487, b12), (3488, b13), (3496, b14), (3497, b15), (3498, b16), (3499, b17)], [(56, (S.2.1 56)), (57, (S.2.1 57)), (58, (S.2.1 58)), (59, (S.2.1 59)), (60, (S.2.1 60)), (61, (S.2.1 61)), (62, (S.2.1 62)), (69, (S.2.1 69))], [(65, b18)]), m1, m2, Inv_i hTx hX hM (by first | exact eF1 | rfl) (by first | exact eF2 | rfl) (by first | exact eH1 | rfl) (by first | exact eH2 | rfl) (by first | exact eP1 | rfl) (by first | exact eP2 | rfl) ha (by first | exact eA1 | rfl) (by first | exact eA2 | rfl) hR' e1 e2 (by first | exact hT | exact hTn) hHi (by first | exact eS1 | rfl) (by first | exact eC1 | rfl) (by first | exact eC2 | rfl) hKe (by first | exact eS2 | rfl) hY hZ⟩
set_option maxRecDepth 100000 in
set_option maxHeartbeats 4000000 in
theorem st_told (l : Launch) {S : zS} (h : Inv S) (p1 p2 p3 p4 : Int32) : zSt mX11_told mX12_told 3 3 [.int p1, .int p2, .int p3, .int p4] l S := by
  obtain ⟨y, tc, F, H, P, kd, ht, ft, st, sc, ca, pl, V, al, r, c, mo, hTx, hX, hM, eF1, eF2, eH1, eH2, eP1, eP2, ha, eA1, eA2, hR, eR1, eR2, hT, hHi, eS1, eC1, eC2, hKe, eS2, hY, hZ⟩ := h
  obtain ⟨n, rd, hs, fa, te, hE⟩ := id hT
  have eN : S.1 1284 = nI n := hE.2.1
  have hTn := hT
  rw [eN] at hTn
  obtain ⟨⟨a1, a2, a3, a4, a5, a6, a7, a8, a9⟩, ea, ⟨b1, b2, b3, b4, b5⟩, eb, hq⟩ := pr_told (cz := (S.1 1284)) (tr := (S.2.1 21)) (to := (S.2.1 22)) (tf := (S.2.1 23)) (tx := (S.2.1 24)) (hc := (S.2.1 28)) (hz := (S.2.1 29)) (tw := (S.1 3473)) (mn := (S.2.1 55)) (un := (S.2.1 74)) hX.2.2.1.1.1 hT hHi p1 p2 p3 p4
  obtain ⟨hr, _, ⟨c', e3, e4, hHi'⟩, hT'⟩ := hq
  have hr : a1 = b1 := hr
  subst hr
  have m1 := zMt_at (t_X11_told l S ea) (zle_c eH1 (zle_c rfl (zle_c eS1 (zle_c eC1 zle_n)))) (zle_c rfl (zle_c rfl (zle_c rfl (zle_c rfl (zle_c rfl (zle_c rfl zle_n)))))) zle_n
  have m2 := zMt_at (t_X12_told l (zap S ([(326, (nI H)), (1284, a2), (1728, 13), (1731, a3)], [(21, a4), (22, a5), (23, a6), (24, a7), (28, a8), (29, a9)], [])) eb) (zle_c eH2 (zle_c rfl (zle_c eC2 zle_n))) (zle_c rfl (zle_c rfl zle_n)) zle_n
  exact ⟨_, ([(326, (nI H)), (1284, a2), (1728, 13), (1731, a3)], [(21, a4), (22, a5), (23, a6), (24, a7), (28, a8), (29, a9)], []), ([(3462, (nI H)), (3473, b2), (3494, b3)], [(55, b4), (74, b5)], []), m1, m2, Inv_i hTx hX hM (by first | exact eF1 | rfl) (by first | exact eF2 | rfl) (by first | exact eH1 | rfl) (by first | exact eH2 | rfl) (by first | exact eP1 | rfl) (by first | exact eP2 | rfl) ha (by first | exact eA1 | rfl) (by first | exact eA2 | rfl) hR (by first | exact eR1 | rfl) (by first | exact eR2 | rfl) hT' hHi' (by first | exact eS1 | rfl) e3 e4 hKe (by first | exact eS2 | rfl) hY hZ⟩
set_option maxRecDepth 100000 in
set_option maxHeartbeats 4000000 in
theorem st_show (l : Launch) {S : zS} (h : Inv S) : zSt mX11_show mX12_show 7 209 [] l S := by
  obtain ⟨y, tc, F, H, P, kd, ht, ft, st, sc, ca, pl, V, al, r, c, mo, hTx, hX, hM, eF1, eF2, eH1, eH2, eP1, eP2, ha, eA1, eA2, hR, eR1, eR2, hT, hHi, eS1, eC1, eC2, hKe, eS2, hY, hZ⟩ := h
  obtain ⟨n, rd, hs, fa, te, hE⟩ := id hT
  have eN : S.1 1284 = nI n := hE.2.1
  have hTn := hT
  rw [eN] at hTn
  obtain ⟨⟨a1, a2, a3, a4, a5, a6, a7, a8, a9, a10, a11, a12, a13, a14, a15, a16, a17, a18, a19, a20, a21, a22, a23, a24, a25, a26⟩, ea, ⟨b1, b2, b3, b4, b5, b6, b7, b8, b9, b10, b11, b12, b13, b14, b15, b16, b17, b18, b19, b20, b21, b22, b23, b24⟩, eb, hq⟩ := pr_show (ts := (S.1 65)) (rz := (S.1 769)) (cz := (S.1 1284)) (sg := (S.2.1 2)) (ck := (S.2.1 6)) (ch := (S.2.1 7)) (cf := (S.2.1 8)) (cd := (S.2.1 10)) (cp := (S.2.1 11)) (rk := (S.2.1 13)) (tr := (S.2.1 21)) (to := (S.2.1 22)) (tf := (S.2.1 23)) (tx := (S.2.1 24)) (hc := (S.2.1 28)) (hz := (S.2.1 29)) (nt := (S.2.2 4)) (mty := (S.1 3470)) (tw := (S.1 3473)) (mz := (S.1 3483)) (mn := (S.2.1 55)) (mk := (S.2.1 56)) (mh := (S.2.1 57)) (mf := (S.2.1 58)) (ms := (S.2.1 59)) (mc := (S.2.1 60)) (ma := (S.2.1 61)) (mp := (S.2.1 62)) (mx := (S.2.1 64)) (ml := (S.2.1 69)) (un := (S.2.1 74)) (mt := (S.2.2 65)) hTx hX hM ha hHi hT hR (S.1 66) (S.1 67) (S.1 2112) (S.1 2113) (S.1 2114) (S.1 2115) (S.1 2116) (S.1 3072) (S.1 3073) (S.1 3074) (S.1 3075) (S.1 3076) (S.2.1 15) (S.2.1 16) (S.1 3474) (S.1 3475) (S.1 3476) (S.1 3477) (S.1 3478) (S.1 3484) (S.1 3485) (S.1 3486) (S.1 3487) (S.1 3488) (S.1 3496) (S.1 3497) (S.1 3498) (S.1 3499) (S.2.1 75) (S.2.1 76)
  obtain ⟨hr, _, ⟨t1, t2⟩, ⟨r', e1, e2, hR'⟩, ⟨c', e3, e4, hHi'⟩, hT'⟩ := hq
  have hr : a1 = b1 := hr
  subst hr
  have m1 := zMt_at (t_X11_show l S ea) (zle_c rfl (zle_c rfl (zle_c rfl (zle_c eR1 (zle_c eF1 (zle_c eH1 (zle_c eP1 (zle_c eA1 (zle_c rfl (zle_c rfl (zle_c eS1 (zle_c eC1 (zle_c rfl (zle_c rfl (zle_c rfl (zle_c rfl (zle_c rfl (zle_c rfl (zle_c rfl (zle_c rfl (zle_c rfl (zle_c rfl zle_n)))))))))))))))))))))) (zle_c rfl (zle_c rfl (zle_c rfl (zle_c rfl (zle_c rfl (zle_c rfl (zle_c rfl (zle_c rfl (zle_c rfl (zle_c rfl (zle_c rfl (zle_c rfl (zle_c rfl (zle_c rfl (zle_c rfl zle_n))))))))))))))) (zle_c rfl zle_n)
  have m2 := zMt_at (t_X12_show l (zap S ([(65, a2), (66, a3), (67, a4), (193, a5), (323, (nI F)), (326, (nI H)), (328, (nI P)), (329, (nI al)), (769, (S.1 769)), (1284, a6), (1728, 13), (1731, a7), (2112, a8), (2113, a9), (2114, a10), (2115, a11), (2116, a12), (3072, a13), (3073, a14), (3074, a15), (3075, a16), (3076, a17)], [(2, (S.2.1 2)), (6, (S.2.1 6)), (7, (S.2.1 7)), (8, (S.2.1 8)), (10, (S.2.1 10)), (11, (S.2.1 11)), (13, (S.2.1 13)), (15, a18), (16, a19), (21, a20), (22, a21), (23, a22), (24, a23), (28, a24), (29, a25)], [(4, a26)])) eb) (zle_c eF2 (zle_c eA2 (zle_c eH2 (zle_c eP2 (zle_c rfl (zle_c eR2 (zle_c rfl (zle_c rfl (zle_c rfl (zle_c rfl (zle_c rfl (zle_c rfl (zle_c rfl (zle_c rfl (zle_c rfl (zle_c rfl (zle_c rfl (zle_c rfl (zle_c eC2 (zle_c rfl (zle_c rfl (zle_c rfl (zle_c rfl zle_n))))))))))))))))))))))) (zle_c rfl (zle_c rfl (zle_c rfl (zle_c rfl (zle_c rfl (zle_c rfl (zle_c rfl (zle_c rfl (zle_c rfl (zle_c rfl (zle_c rfl (zle_c rfl (zle_c rfl zle_n))))))))))))) (zle_c rfl zle_n)
  exact ⟨_, ([(65, a2), (66, a3), (67, a4), (193, a5), (323, (nI F)), (326, (nI H)), (328, (nI P)), (329, (nI al)), (769, (S.1 769)), (1284, a6), (1728, 13), (1731, a7), (2112, a8), (2113, a9), (2114, a10), (2115, a11), (2116, a12), (3072, a13), (3073, a14), (3074, a15), (3075, a16), (3076, a17)], [(2, (S.2.1 2)), (6, (S.2.1 6)), (7, (S.2.1 7)), (8, (S.2.1 8)), (10, (S.2.1 10)), (11, (S.2.1 11)), (13, (S.2.1 13)), (15, a18), (16, a19), (21, a20), (22, a21), (23, a22), (24, a23), (28, a24), (29, a25)], [(4, a26)]), ([(3457, (nI F)), (3461, (nI al)), (3462, (nI H)), (3466, (nI P)), (3470, b2), (3472, b3), (3473, b4), (3474, b5), (3475, b6), (3476, b7), (3477, b8), (3478, b9), (3483, (S.1 3483)), (3484, b10), (3485, b11), (3486, b12), (3487, b13), (3488, b14), (3494, b15), (3496, b16), (3497, b17), (3498, b18), (3499, b19)], [(55, b20), (56, (S.2.1 56)), (57, (S.2.1 57)), (58, (S.2.1 58)), (59, (S.2.1 59)), (60, (S.2.1 60)), (61, (S.2.1 61)), (62, (S.2.1 62)), (64, (S.2.1 64)), (69, (S.2.1 69)), (74, b21), (75, b22), (76, b23)], [(65, b24)]), m1, m2, Inv_i (okTx0 (tc := tc) t1 t2) hX hM (by first | exact eF1 | rfl) (by first | exact eF2 | rfl) (by first | exact eH1 | rfl) (by first | exact eH2 | rfl) (by first | exact eP1 | rfl) (by first | exact eP2 | rfl) ha (by first | exact eA1 | rfl) (by first | exact eA2 | rfl) hR' e1 e2 hT' hHi' (by first | exact eS1 | rfl) e3 e4 hKe (by first | exact eS2 | rfl) hY hZ⟩
set_option maxRecDepth 100000 in
set_option maxHeartbeats 4000000 in
theorem st_undo (l : Launch) {S : zS} (h : Inv S) : zSt mX11_undo mX12_undo 3 0 [] l S := by
  obtain ⟨y, tc, F, H, P, kd, ht, ft, st, sc, ca, pl, V, al, r, c, mo, hTx, hX, hM, eF1, eF2, eH1, eH2, eP1, eP2, ha, eA1, eA2, hR, eR1, eR2, hT, hHi, eS1, eC1, eC2, hKe, eS2, hY, hZ⟩ := h
  obtain ⟨n, rd, hs, fa, te, hE⟩ := id hT
  have eN : S.1 1284 = nI n := hE.2.1
  have hTn := hT
  rw [eN] at hTn
  obtain ⟨⟨a1, a2, a3, a4, a5, a6, a7⟩, ea, ⟨b1, b2, b3, b4⟩, eb, hq⟩ := pr_undo (cz := (S.1 1284)) (tr := (S.2.1 21)) (to := (S.2.1 22)) (tf := (S.2.1 23)) (tx := (S.2.1 24)) (hc := (S.2.1 28)) (hz := (S.2.1 29)) (tw := (S.1 3473)) (mn := (S.2.1 55)) (un := (S.2.1 74)) hHi hT
  obtain ⟨hr, _, ⟨c', e3, e4, hHi'⟩, hT'⟩ := hq
  have hr : a1 = b1 := hr
  subst hr
  have m1 := zMt_at (t_X11_undo l S ea) (zle_c rfl (zle_c eS1 (zle_c eC1 zle_n))) (zle_c rfl (zle_c rfl (zle_c rfl (zle_c rfl (zle_c rfl (zle_c rfl zle_n)))))) zle_n
  have m2 := zMt_at (t_X12_undo l (zap S ([(1284, a2), (1728, 13), (1731, a3)], [(21, a4), (22, a5), (23, a6), (24, a7), (28, (S.2.1 28)), (29, (S.2.1 29))], [])) eb) (zle_c rfl (zle_c eC2 zle_n)) (zle_c rfl (zle_c rfl zle_n)) zle_n
  exact ⟨_, ([(1284, a2), (1728, 13), (1731, a3)], [(21, a4), (22, a5), (23, a6), (24, a7), (28, (S.2.1 28)), (29, (S.2.1 29))], []), ([(3473, b2), (3494, b3)], [(55, b4), (74, (S.2.1 74))], []), m1, m2, Inv_i hTx hX hM (by first | exact eF1 | rfl) (by first | exact eF2 | rfl) (by first | exact eH1 | rfl) (by first | exact eH2 | rfl) (by first | exact eP1 | rfl) (by first | exact eP2 | rfl) ha (by first | exact eA1 | rfl) (by first | exact eA2 | rfl) hR (by first | exact eR1 | rfl) (by first | exact eR2 | rfl) hT' hHi' (by first | exact eS1 | rfl) e3 e4 hKe (by first | exact eS2 | rfl) hY hZ⟩
set_option maxRecDepth 100000 in
set_option maxHeartbeats 4000000 in
theorem st_table (l : Launch) {S : zS} (h : Inv S) : zSt mX11_table mX12_table 2 3 [] l S := by
  obtain ⟨y, tc, F, H, P, kd, ht, ft, st, sc, ca, pl, V, al, r, c, mo, hTx, hX, hM, eF1, eF2, eH1, eH2, eP1, eP2, ha, eA1, eA2, hR, eR1, eR2, hT, hHi, eS1, eC1, eC2, hKe, eS2, hY, hZ⟩ := h
  obtain ⟨n, rd, hs, fa, te, hE⟩ := id hT
  have eN : S.1 1284 = nI n := hE.2.1
  have hTn := hT
  rw [eN] at hTn
  obtain ⟨⟨a1, a2, a3⟩, ea, ⟨b1, b2, b3, b4⟩, eb, hq⟩ := pr_table (cf := (S.2.1 23)) (cx := (S.2.1 24)) (nt := (S.2.2 4)) (mn := (S.2.1 55)) (mt := (S.2.2 65)) (tE_C hE) (tE_N hE) (S.1 193) (S.1 3472) (S.1 3473)
  obtain ⟨hr, _, r', e1, e2, hR'⟩ := hq
  have hr : a1 = b1 := hr
  subst hr
  have m1 := zMt_at (t_X11_table l S ea) (zle_c rfl (zle_c eN zle_n)) (zle_c rfl (zle_c rfl zle_n)) (zle_c rfl zle_n)
  have m2 := zMt_at (t_X12_table l (zap S ([(193, a2), (1284, (nI n))], [(23, (S.2.1 23)), (24, (S.2.1 24))], [(4, a3)])) eb) (zle_c rfl (zle_c rfl zle_n)) (zle_c rfl zle_n) (zle_c rfl zle_n)
  exact ⟨_, ([(193, a2), (1284, (nI n))], [(23, (S.2.1 23)), (24, (S.2.1 24))], [(4, a3)]), ([(3472, b2), (3473, b3)], [(55, (S.2.1 55))], [(65, b4)]), m1, m2, Inv_i hTx hX hM (by first | exact eF1 | rfl) (by first | exact eF2 | rfl) (by first | exact eH1 | rfl) (by first | exact eH2 | rfl) (by first | exact eP1 | rfl) (by first | exact eP2 | rfl) ha (by first | exact eA1 | rfl) (by first | exact eA2 | rfl) hR' e1 e2 (by first | exact hT | exact hTn) hHi (by first | exact eS1 | rfl) (by first | exact eC1 | rfl) (by first | exact eC2 | rfl) hKe (by first | exact eS2 | rfl) hY hZ⟩
set_option maxRecDepth 100000 in
set_option maxHeartbeats 4000000 in
theorem st_place (l : Launch) {S : zS} (h : Inv S) (p1 p2 : Int32) : zSt mX11_place mX12_place 1 2 [.int p1, .int p2] l S := by
  obtain ⟨y, tc, F, H, P, kd, ht, ft, st, sc, ca, pl, V, al, r, c, mo, hTx, hX, hM, eF1, eF2, eH1, eH2, eP1, eP2, ha, eA1, eA2, hR, eR1, eR2, hT, hHi, eS1, eC1, eC2, hKe, eS2, hY, hZ⟩ := h
  obtain ⟨n, rd, hs, fa, te, hE⟩ := id hT
  have eN : S.1 1284 = nI n := hE.2.1
  have hTn := hT
  rw [eN] at hTn
  obtain ⟨⟨a1, a2, a3⟩, ea, ⟨b1, b2, b3, b4⟩, eb, hq⟩ := pr_place (cf := (S.2.1 23)) (cx := (S.2.1 24)) (cm := (S.2.1 25)) (nt := (S.2.2 4)) (mn := (S.2.1 55)) (mm := (S.2.1 63)) (mt := (S.2.2 65)) (tE_C hE) (tE_N hE) hY hZ hR p1 p2 (S.1 3473)
  obtain ⟨hr, _, r', e1, e2, hR'⟩ := hq
  have hr : a1 = b1 := hr
  subst hr
  have m1 := zMt_at (t_X11_place l S ea) (zle_c eR1 (zle_c eN zle_n)) (zle_c rfl (zle_c rfl (zle_c rfl zle_n))) (zle_c rfl zle_n)
  have m2 := zMt_at (t_X12_place l (zap S ([(193, a2), (1284, (nI n))], [(23, (S.2.1 23)), (24, (S.2.1 24)), (25, (S.2.1 25))], [(4, a3)])) eb) (zle_c eR2 (zle_c rfl zle_n)) (zle_c rfl (zle_c rfl zle_n)) (zle_c rfl zle_n)
  exact ⟨_, ([(193, a2), (1284, (nI n))], [(23, (S.2.1 23)), (24, (S.2.1 24)), (25, (S.2.1 25))], [(4, a3)]), ([(3472, b2), (3473, b3)], [(55, (S.2.1 55)), (63, (S.2.1 63))], [(65, b4)]), m1, m2, Inv_i hTx hX hM (by first | exact eF1 | rfl) (by first | exact eF2 | rfl) (by first | exact eH1 | rfl) (by first | exact eH2 | rfl) (by first | exact eP1 | rfl) (by first | exact eP2 | rfl) ha (by first | exact eA1 | rfl) (by first | exact eA2 | rfl) hR' e1 e2 (by first | exact hT | exact hTn) hHi (by first | exact eS1 | rfl) (by first | exact eC1 | rfl) (by first | exact eC2 | rfl) hKe (by first | exact eS2 | rfl) hY hZ⟩
set_option maxRecDepth 100000 in
set_option maxHeartbeats 4000000 in
theorem st_beat (l : Launch) {S : zS} (h : Inv S) (p1 : Int32) : zSt mX11_beat mX12_beat 1 1 [.int p1] l S := by
  obtain ⟨y, tc, F, H, P, kd, ht, ft, st, sc, ca, pl, V, al, r, c, mo, hTx, hX, hM, eF1, eF2, eH1, eH2, eP1, eP2, ha, eA1, eA2, hR, eR1, eR2, hT, hHi, eS1, eC1, eC2, hKe, eS2, hY, hZ⟩ := h
  obtain ⟨n, rd, hs, fa, te, hE⟩ := id hT
  have eN : S.1 1284 = nI n := hE.2.1
  have hTn := hT
  rw [eN] at hTn
  obtain ⟨⟨a1, a2, a3⟩, ea, ⟨b1, b2, b3, b4⟩, eb, hq⟩ := pr_beat (tf := (S.2.1 23)) (tx := (S.2.1 24)) (tm := (S.2.1 25)) (nt := (S.2.2 4)) (mn := (S.2.1 55)) (mm := (S.2.1 63)) (mt := (S.2.2 65)) (tE_C hE) (tE_N hE) hY hZ (fun i hi => (tE_B hE i hi).2) hR p1 (S.1 3473)
  obtain ⟨hr, _, r', e1, e2, hR'⟩ := hq
  have hr : a1 = b1 := hr
  subst hr
  have m1 := zMt_at (t_X11_beat l S ea) (zle_c eR1 (zle_c eN zle_n)) (zle_c rfl (zle_c rfl (zle_c rfl zle_n))) (zle_c rfl zle_n)
  have m2 := zMt_at (t_X12_beat l (zap S ([(193, a2), (1284, (nI n))], [(23, (S.2.1 23)), (24, (S.2.1 24)), (25, (S.2.1 25))], [(4, a3)])) eb) (zle_c eR2 (zle_c rfl zle_n)) (zle_c rfl (zle_c rfl zle_n)) (zle_c rfl zle_n)
  exact ⟨_, ([(193, a2), (1284, (nI n))], [(23, (S.2.1 23)), (24, (S.2.1 24)), (25, (S.2.1 25))], [(4, a3)]), ([(3472, b2), (3473, b3)], [(55, (S.2.1 55)), (63, (S.2.1 63))], [(65, b4)]), m1, m2, Inv_i hTx hX hM (by first | exact eF1 | rfl) (by first | exact eF2 | rfl) (by first | exact eH1 | rfl) (by first | exact eH2 | rfl) (by first | exact eP1 | rfl) (by first | exact eP2 | rfl) ha (by first | exact eA1 | rfl) (by first | exact eA2 | rfl) hR' e1 e2 (by first | exact hT | exact hTn) hHi (by first | exact eS1 | rfl) (by first | exact eC1 | rfl) (by first | exact eC2 | rfl) hKe (by first | exact eS2 | rfl) hY hZ⟩
set_option maxRecDepth 100000 in
set_option maxHeartbeats 4000000 in
theorem st_law (l : Launch) {S : zS} (h : Inv S) (p1 p2 : Int32) : zSt mX11_law mX12_law 2 3 [.int p1, .int p2] l S := by
  obtain ⟨y, tc, F, H, P, kd, ht, ft, st, sc, ca, pl, V, al, r, c, mo, hTx, hX, hM, eF1, eF2, eH1, eH2, eP1, eP2, ha, eA1, eA2, hR, eR1, eR2, hT, hHi, eS1, eC1, eC2, hKe, eS2, hY, hZ⟩ := h
  obtain ⟨n, rd, hs, fa, te, hE⟩ := id hT
  have eN : S.1 1284 = nI n := hE.2.1
  have hTn := hT
  rw [eN] at hTn
  obtain ⟨⟨a1, a2, a3, a4⟩, ea, ⟨b1, b2, b3, b4, b5⟩, eb, hq⟩ := pr_law (tf := (S.2.1 23)) (tx := (S.2.1 24)) (nt := (S.2.2 4)) (mn := (S.2.1 55)) (mt := (S.2.2 65)) (tE_C hE) (tE_N hE) (tE_B hE) ha hR p1 p2 (S.1 3473) (S.2.1 53) (S.2.1 77)
  obtain ⟨hr, _, r', e1, e2, hR'⟩ := hq
  have hr : a1 = b1 := hr
  subst hr
  have m1 := zMt_at (t_X11_law l S ea) (zle_c eR1 (zle_c eA1 (zle_c eN zle_n))) (zle_c rfl (zle_c rfl (zle_c rfl zle_n))) (zle_c rfl zle_n)
  have m2 := zMt_at (t_X12_law l (zap S ([(193, a2), (329, (nI al)), (1284, (nI n))], [(23, (S.2.1 23)), (24, (S.2.1 24)), (53, a3)], [(4, a4)])) eb) (zle_c eA2 (zle_c eR2 (zle_c rfl zle_n))) (zle_c rfl (zle_c rfl zle_n)) (zle_c rfl zle_n)
  exact ⟨_, ([(193, a2), (329, (nI al)), (1284, (nI n))], [(23, (S.2.1 23)), (24, (S.2.1 24)), (53, a3)], [(4, a4)]), ([(3461, (nI al)), (3472, b2), (3473, b3)], [(55, (S.2.1 55)), (77, b4)], [(65, b5)]), m1, m2, Inv_i hTx hX hM (by first | exact eF1 | rfl) (by first | exact eF2 | rfl) (by first | exact eH1 | rfl) (by first | exact eH2 | rfl) (by first | exact eP1 | rfl) (by first | exact eP2 | rfl) ha (by first | exact eA1 | rfl) (by first | exact eA2 | rfl) hR' e1 e2 (by first | exact hT | exact hTn) hHi (by first | exact eS1 | rfl) (by first | exact eC1 | rfl) (by first | exact eC2 | rfl) hKe (by first | exact eS2 | rfl) hY hZ⟩
