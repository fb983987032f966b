/-! steps, a method each -/
set_option maxRecDepth 100000 in
set_option maxHeartbeats 4000000 in
theorem st_sign (l : Launch) {S : zS} (h : Inv S) (p1 : Int32) : zSt mX11_sign mX12_sign 1 0 [.int p1] l S := by
  obtain ⟨y, tc, F, H, P, kd, ht, ft, st, sc, ca, pl, V, al, r, c, mo, hTx, hX, hM, eF1, eF2, eH1, eH2, eP1, eP2, ha, eA1, eA2, hR, eR1, eR2, hT, hHi, eS1, eC1, eC2, hKe, eS2, hY, hZ⟩ := h
  obtain ⟨n, rd, hs, fa, te, hE⟩ := id hT
  have eN : S.1 1284 = nI n := hE.2.1
  have hTn := hT
  rw [eN] at hTn
  obtain ⟨rr, ts1, mt1, sg1, mx1, n1, ea, eb, hv⟩ := pr_sign (T_ivT hTx) p1 (S.1 3473)
  obtain ⟨tc', hTx'⟩ := ivT_T hv
  have m1 := zMt_at (t_X11_sign l S ea) (zle_c rfl zle_n) (zle_c rfl zle_n) zle_n
  have m2 := zMt_at (t_X12_sign l (zap S ([(65, ts1)], [(2, sg1)], [])) eb) (zle_c rfl (zle_c rfl zle_n)) (zle_c rfl zle_n) zle_n
  exact ⟨_, ([(65, ts1)], [(2, sg1)], []), ([(3470, mt1), (3473, 0)], [(64, mx1)], []), m1, m2, Inv_i hTx' hX hM (by first | exact eF1 | rfl) (by first | exact eF2 | rfl) (by first | exact eH1 | rfl) (by first | exact eH2 | rfl) (by first | exact eP1 | rfl) (by first | exact eP2 | rfl) ha (by first | exact eA1 | rfl) (by first | exact eA2 | rfl) hR (by first | exact eR1 | rfl) (by first | exact eR2 | rfl) (by first | exact hT | exact hTn) hHi (by first | exact eS1 | rfl) (by first | exact eC1 | rfl) (by first | exact eC2 | rfl) hKe (by first | exact eS2 | rfl) hY hZ⟩
set_option maxRecDepth 100000 in
set_option maxHeartbeats 4000000 in
theorem st_end (l : Launch) {S : zS} (h : Inv S) (p1 : Int32) : zSt mX11_end mX12_end 1 1 [.int p1] l S := by
  obtain ⟨y, tc, F, H, P, kd, ht, ft, st, sc, ca, pl, V, al, r, c, mo, hTx, hX, hM, eF1, eF2, eH1, eH2, eP1, eP2, ha, eA1, eA2, hR, eR1, eR2, hT, hHi, eS1, eC1, eC2, hKe, eS2, hY, hZ⟩ := h
  obtain ⟨n, rd, hs, fa, te, hE⟩ := id hT
  have eN : S.1 1284 = nI n := hE.2.1
  have hTn := hT
  rw [eN] at hTn
  obtain ⟨rr, ts1, mt1, n1, ea, eb, hv⟩ := pr_end (T_ivT hTx) p1 (S.1 3473)
  obtain ⟨tc', hTx'⟩ := ivT_T hv
  have m1 := zMt_at (t_X11_end l S ea) (zle_c rfl zle_n) zle_n zle_n
  have m2 := zMt_at (t_X12_end l (zap S ([(65, ts1)], [], [])) eb) (zle_c rfl (zle_c rfl zle_n)) zle_n zle_n
  exact ⟨_, ([(65, ts1)], [], []), ([(3470, mt1), (3473, 0)], [], []), m1, m2, Inv_i hTx' hX hM (by first | exact eF1 | rfl) (by first | exact eF2 | rfl) (by first | exact eH1 | rfl) (by first | exact eH2 | rfl) (by first | exact eP1 | rfl) (by first | exact eP2 | rfl) ha (by first | exact eA1 | rfl) (by first | exact eA2 | rfl) hR (by first | exact eR1 | rfl) (by first | exact eR2 | rfl) (by first | exact hT | exact hTn) hHi (by first | exact eS1 | rfl) (by first | exact eC1 | rfl) (by first | exact eC2 | rfl) hKe (by first | exact eS2 | rfl) hY hZ⟩
set_option maxRecDepth 100000 in
set_option maxHeartbeats 4000000 in
theorem st_ring (l : Launch) {S : zS} (h : Inv S) : zSt mX11_ring mX12_ring 11 4 [] l S := by
  obtain ⟨y, tc, F, H, P, kd, ht, ft, st, sc, ca, pl, V, al, r, c, mo, hTx, hX, hM, eF1, eF2, eH1, eH2, eP1, eP2, ha, eA1, eA2, hR, eR1, eR2, hT, hHi, eS1, eC1, eC2, hKe, eS2, hY, hZ⟩ := h
  obtain ⟨n, rd, hs, fa, te, hE⟩ := id hT
  have eN : S.1 1284 = nI n := hE.2.1
  have hTn := hT
  rw [eN] at hTn
  obtain ⟨⟨a1, a2, a3, a4, a5, a6, a7, a8, a9, a10, a11, a12, a13, a14, a15⟩, ea, ⟨b1, b2, b3, b4, b5, b6, b7, b8, b9, b10, b11, b12, b13, b14, b15, b16⟩, eb, hq⟩ := pr_ring (ts := (S.1 65)) (cz := (S.1 1284)) (sg := (S.2.1 2)) (ck := (S.2.1 6)) (ch := (S.2.1 7)) (cf := (S.2.1 8)) (hz := (S.2.1 29)) (kz := (S.2.1 32)) (mt := (S.1 3470)) (tw := (S.1 3473)) (mn := (S.2.1 55)) (mk := (S.2.1 56)) (mh := (S.2.1 57)) (mf := (S.2.1 58)) (mx := (S.2.1 64)) (ik := (S.2.1 86)) hTx hX.1 hX.2.1 hM.1 hM.2.1 hT hHi hKe (S.1 66) (S.1 67) (S.1 1923) (S.1 3474) (S.1 3475) (S.1 3476) (S.1 3477) (S.1 3478) (S.2.1 9) (S.2.1 66)
  obtain ⟨hr, _, ⟨t1, t2⟩, ⟨F', P', kd', ht', ft', hPF, ⟨e1, e2⟩, ⟨e5, e6⟩, g1, g2, g3, g4, _⟩, ⟨c', e3, e4, hHi'⟩, hKe', hT'⟩ := hq
  have hr : a1 = b1 := hr
  subst hr
  have hp1 : okP P' F' pl (S.2.1 11) := by
    rcases hPF with rfl | ⟨rfl, rfl⟩
    · exact okP_0
    · exact hX.2.2.2.1
  have hp2 : okP P' F' pl (S.2.1 62) := by
    rcases hPF with rfl | ⟨rfl, rfl⟩
    · exact okP_0
    · exact hM.2.2.2.1
  have m1 := zMt_at (t_X11_ring l S ea) (zle_c rfl (zle_c rfl (zle_c rfl (zle_c eF1 (zle_c eP1 (zle_c rfl (zle_c eC1 (zle_c rfl zle_n)))))))) (zle_c rfl (zle_c rfl (zle_c rfl (zle_c rfl (zle_c rfl (zle_c rfl (zle_c rfl zle_n))))))) zle_n
  have m2 := zMt_at (t_X12_ring l (zap S ([(65, a2), (66, a3), (67, a4), (323, a5), (328, a6), (1284, a7), (1731, a8), (1923, a9)], [(2, (S.2.1 2)), (6, a10), (7, a11), (8, a12), (9, a13), (29, a14), (32, a15)], [])) eb) (zle_c eF2 (zle_c eP2 (zle_c rfl (zle_c rfl (zle_c rfl (zle_c rfl (zle_c rfl (zle_c rfl (zle_c rfl (zle_c eC2 zle_n)))))))))) (zle_c rfl (zle_c rfl (zle_c rfl (zle_c rfl (zle_c rfl (zle_c rfl (zle_c rfl zle_n))))))) zle_n
  exact ⟨_, ([(65, a2), (66, a3), (67, a4), (323, a5), (328, a6), (1284, a7), (1731, a8), (1923, a9)], [(2, (S.2.1 2)), (6, a10), (7, a11), (8, a12), (9, a13), (29, a14), (32, a15)], []), ([(3457, b2), (3466, b3), (3470, b4), (3473, b5), (3474, (nI 64)), (3475, b6), (3476, b7), (3477, b8), (3478, b9), (3494, b10)], [(55, b11), (56, b12), (57, b13), (58, b14), (64, (S.2.1 64)), (66, b15), (86, b16)], []), m1, m2, Inv_i (okTx0 (tc := tc) t1 t2) ⟨g1, g2, hX.2.2.1, hp1, hX.2.2.2.2⟩ ⟨g3, g4, hM.2.2.1, hp2, hM.2.2.2.2⟩ e1 e2 (by first | exact eH1 | rfl) (by first | exact eH2 | rfl) e5 e6 ha (by first | exact eA1 | rfl) (by first | exact eA2 | rfl) hR (by first | exact eR1 | rfl) (by first | exact eR2 | rfl) hT' hHi' (by first | exact eS1 | rfl) e3 e4 hKe' (by first | exact eS2 | rfl) hY hZ⟩
set_option maxRecDepth 100000 in
set_option maxHeartbeats 4000000 in
theorem st_horses (l : Launch) {S : zS} (h : Inv S) : zSt mX11_horses mX12_horses 3 4 [] l S := by
  obtain ⟨y, tc, F, H, P, kd, ht, ft, st, sc, ca, pl, V, al, r, c, mo, hTx, hX, hM, eF1, eF2, eH1, eH2, eP1, eP2, ha, eA1, eA2, hR, eR1, eR2, hT, hHi, eS1, eC1, eC2, hKe, eS2, hY, hZ⟩ := h
  obtain ⟨n, rd, hs, fa, te, hE⟩ := id hT
  have eN : S.1 1284 = nI n := hE.2.1
  have hTn := hT
  rw [eN] at hTn
  obtain ⟨⟨a1, a2, a3, a4, a5, a6⟩, ea, ⟨b1, b2, b3, b4, b5, b6, b7, b8, b9, b10, b11, b12⟩, eb, hq⟩ := pr_horses (ts := (S.1 65)) (sg := (S.2.1 2)) (cd := (S.2.1 10)) (mt := (S.1 3470)) (tw := (S.1 3473)) (ms := (S.2.1 59)) (mc := (S.2.1 60)) (ma := (S.2.1 61)) (mx := (S.2.1 64)) hTx hX.2.2.1 hM.2.2.1 (S.1 66) (S.1 67) (S.1 3474) (S.1 3475) (S.1 3476) (S.1 3477) (S.1 3478) (S.2.1 67)
  obtain ⟨hr, _, t1, t2, H', st', sc', ca', _, e1, e2, g1, g2⟩ := hq
  have hr : a1 = b1 := hr
  subst hr
  have m1 := zMt_at (t_X11_horses l S ea) (zle_c rfl (zle_c rfl (zle_c rfl (zle_c eH1 zle_n)))) (zle_c rfl (zle_c rfl zle_n)) zle_n
  have m2 := zMt_at (t_X12_horses l (zap S ([(65, a2), (66, a3), (67, a4), (326, a5)], [(2, (S.2.1 2)), (10, a6)], [])) eb) (zle_c eH2 (zle_c rfl (zle_c rfl (zle_c rfl (zle_c rfl (zle_c rfl (zle_c rfl (zle_c rfl zle_n)))))))) (zle_c rfl (zle_c rfl (zle_c rfl (zle_c rfl (zle_c rfl zle_n))))) zle_n
  exact ⟨_, ([(65, a2), (66, a3), (67, a4), (326, a5)], [(2, (S.2.1 2)), (10, a6)], []), ([(3462, b2), (3470, b3), (3473, b4), (3474, (nI 64)), (3475, b5), (3476, b6), (3477, b7), (3478, b8)], [(59, b9), (60, b10), (61, b11), (64, (S.2.1 64)), (67, b12)], []), m1, m2, Inv_i (okTx0 (tc := tc) t1 t2) ⟨hX.1, hX.2.1, g1, hX.2.2.2⟩ ⟨hM.1, hM.2.1, g2, hM.2.2.2⟩ (by first | exact eF1 | rfl) (by first | exact eF2 | rfl) e1 e2 (by first | exact eP1 | rfl) (by first | exact eP2 | rfl) ha (by first | exact eA1 | rfl) (by first | exact eA2 | rfl) hR (by first | exact eR1 | rfl) (by first | exact eR2 | rfl) (by first | exact hT | exact hTn) hHi (by first | exact eS1 | rfl) (by first | exact eC1 | rfl) (by first | exact eC2 | rfl) hKe (by first | exact eS2 | rfl) hY hZ⟩
set_option maxRecDepth 100000 in
set_option maxHeartbeats 4000000 in
theorem st_plan (l : Launch) {S : zS} (h : Inv S) : zSt mX11_plan mX12_plan 10 1 [] l S := by
  obtain ⟨y, tc, F, H, P, kd, ht, ft, st, sc, ca, pl, V, al, r, c, mo, hTx, hX, hM, eF1, eF2, eH1, eH2, eP1, eP2, ha, eA1, eA2, hR, eR1, eR2, hT, hHi, eS1, eC1, eC2, hKe, eS2, hY, hZ⟩ := h
  obtain ⟨n, rd, hs, fa, te, hE⟩ := id hT
  have eN : S.1 1284 = nI n := hE.2.1
  have hTn := hT
  rw [eN] at hTn
  obtain ⟨⟨a1, a2, a3, a4, a5, a6⟩, ea, ⟨b1, b2, b3, b4, b5⟩, eb, hq⟩ := pr_plan (ts := (S.1 65)) (sg := (S.2.1 2)) (cp := (S.2.1 11)) (mt := (S.1 3470)) (tw := (S.1 3473)) (mp := (S.2.1 62)) (mx := (S.2.1 64)) hTx hX.1.1 hX.2.2.2.1 hM.2.2.2.1 (S.1 66) (S.1 67)
  obtain ⟨hr, _, ⟨t1, t2⟩, P', pl', e1, e2, g1, g2⟩ := hq
  have hr : a1 = b1 := hr
  subst hr
  have m1 := zMt_at (t_X11_plan l S ea) (zle_c rfl (zle_c rfl (zle_c rfl (zle_c eF1 (zle_c eP1 zle_n))))) (zle_c rfl (zle_c rfl zle_n)) zle_n
  have m2 := zMt_at (t_X12_plan l (zap S ([(65, a2), (66, a3), (67, a4), (323, (nI F)), (328, a5)], [(2, (S.2.1 2)), (11, a6)], [])) eb) (zle_c eF2 (zle_c eP2 (zle_c rfl (zle_c rfl zle_n)))) (zle_c rfl (zle_c rfl zle_n)) zle_n
  exact ⟨_, ([(65, a2), (66, a3), (67, a4), (323, (nI F)), (328, a5)], [(2, (S.2.1 2)), (11, a6)], []), ([(3457, (nI F)), (3466, b2), (3470, b3), (3473, b4)], [(62, b5), (64, (S.2.1 64))], []), m1, m2, Inv_i (okTx0 (tc := tc) t1 t2) ⟨hX.1, hX.2.1, hX.2.2.1, g1, hX.2.2.2.2⟩ ⟨hM.1, hM.2.1, hM.2.2.1, g2, hM.2.2.2.2⟩ (by first | exact eF1 | rfl) (by first | exact eF2 | rfl) (by first | exact eH1 | rfl) (by first | exact eH2 | rfl) e1 e2 ha (by first | exact eA1 | rfl) (by first | exact eA2 | rfl) hR (by first | exact eR1 | rfl) (by first | exact eR2 | rfl) (by first | exact hT | exact hTn) hHi (by first | exact eS1 | rfl) (by first | exact eC1 | rfl) (by first | exact eC2 | rfl) hKe (by first | exact eS2 | rfl) hY hZ⟩
set_option maxRecDepth 100000 in
set_option maxHeartbeats 4000000 in
theorem st_rule (l : Launch) {S : zS} (h : Inv S) : zSt mX11_rule mX12_rule 211 205 [] l S := by
  obtain ⟨y, tc, F, H, P, kd, ht, ft, st, sc, ca, pl, V, al, r, c, mo, hTx, hX, hM, eF1, eF2, eH1, eH2, eP1, eP2, ha, eA1, eA2, hR, eR1, eR2, hT, hHi, eS1, eC1, eC2, hKe, eS2, hY, hZ⟩ := h
  obtain ⟨n, rd, hs, fa, te, hE⟩ := id hT
  have eN : S.1 1284 = nI n := hE.2.1
  have hTn := hT
  rw [eN] at hTn
  obtain ⟨⟨a1, a2, a3, a4, a5, a6, a7, a8⟩, ea, ⟨b1, b2, b3, b4, b5, b6, b7, b8, b9, b10⟩, eb, hq⟩ := pr_rule (ts := (S.1 65)) (rz := (S.1 769)) (sg := (S.2.1 2)) (rk := (S.2.1 13)) (mt := (S.1 3470)) (tw := (S.1 3473)) (mz := (S.1 3483)) (mk := (S.2.1 56)) (mf := (S.2.1 58)) (ms := (S.2.1 59)) (mc := (S.2.1 60)) (ma := (S.2.1 61)) (mx := (S.2.1 64)) (ml := (S.2.1 69)) hTx hX.2.2.2.2.1 hX.2.2.2.2.2 hM.2.2.2.2.2 (S.1 66) (S.1 67) (S.1 771) (S.2.1 14) (S.1 3474) (S.1 3475) (S.1 3476) (S.1 3477) (S.1 3478) (S.1 3484) (S.1 3485) (S.1 3486) (S.1 3487) (S.1 3488)
  obtain ⟨hr, _, t1, t2, V', g1, g2, g3⟩ := hq
  have hr : a1 = b1 := hr
  subst hr
  have m1 := zMt_at (t_X11_rule l S ea) (zle_c rfl (zle_c rfl (zle_c rfl (zle_c rfl (zle_c rfl zle_n))))) (zle_c rfl (zle_c rfl (zle_c rfl zle_n))) zle_n
  have m2 := zMt_at (t_X12_rule l (zap S ([(65, a2), (66, a3), (67, a4), (769, a5), (771, a6)], [(2, (S.2.1 2)), (13, a7), (14, a8)], [])) eb) (zle_c rfl (zle_c rfl (zle_c rfl (zle_c rfl (zle_c rfl (zle_c rfl (zle_c rfl (zle_c rfl (zle_c rfl (zle_c rfl (zle_c rfl (zle_c rfl (zle_c rfl zle_n))))))))))))) (zle_c rfl (zle_c rfl (zle_c rfl (zle_c rfl (zle_c rfl (zle_c rfl (zle_c rfl zle_n))))))) zle_n
  exact ⟨_, ([(65, a2), (66, a3), (67, a4), (769, a5), (771, a6)], [(2, (S.2.1 2)), (13, a7), (14, a8)], []), ([(3470, b2), (3473, b3), (3474, (nI 64)), (3475, b4), (3476, b5), (3477, b6), (3478, b7), (3483, b8), (3484, b9), (3485, (S.1 3485)), (3486, (S.1 3486)), (3487, (S.1 3487)), (3488, (S.1 3488))], [(56, (S.2.1 56)), (58, (S.2.1 58)), (59, (S.2.1 59)), (60, (S.2.1 60)), (61, (S.2.1 61)), (64, (S.2.1 64)), (69, b10)], []), m1, m2, Inv_i (okTx0 (tc := tc) t1 t2) ⟨hX.1, hX.2.1, hX.2.2.1, hX.2.2.2.1, g1, g2⟩ ⟨hM.1, hM.2.1, hM.2.2.1, hM.2.2.2.1, g1, g3⟩ (by first | exact eF1 | rfl) (by first | exact eF2 | rfl) (by first | exact eH1 | rfl) (by first | exact eH2 | rfl) (by first | exact eP1 | rfl) (by first | exact eP2 | rfl) ha (by first | exact eA1 | rfl) (by first | exact eA2 | rfl) hR (by first | exact eR1 | rfl) (by first | exact eR2 | rfl) (by first | exact hT | exact hTn) hHi (by first | exact eS1 | rfl) (by first | exact eC1 | rfl) (by first | exact eC2 | rfl) hKe (by first | exact eS2 | rfl) hY hZ⟩
set_option maxRecDepth 100000 in
set_option maxHeartbeats 4000000 in
theorem st_prizes (l : Launch) {S : zS} (h : Inv S) : zSt mX11_prizes mX12_prizes 3 4 [] l S := by
  obtain ⟨y, tc, F, H, P, kd, ht, ft, st, sc, ca, pl, V, al, r, c, mo, hTx, hX, hM, eF1, eF2, eH1, eH2, eP1, eP2, ha, eA1, eA2, hR, eR1, eR2, hT, hHi, eS1, eC1, eC2, hKe, eS2, hY, hZ⟩ := h
  obtain ⟨n, rd, hs, fa, te, hE⟩ := id hT
  have eN : S.1 1284 = nI n := hE.2.1
  have hTn := hT
  rw [eN] at hTn
  obtain ⟨⟨a1, a2, a3, a4, a5, a6⟩, ea, ⟨b1, b2, b3, b4, b5, b6, b7, b8, b9⟩, eb, hq⟩ := pr_prizes (ts := (S.1 65)) (sg := (S.2.1 2)) (tm := (S.2.1 25)) (mt := (S.1 3470)) (tw := (S.1 3473)) (mm := (S.2.1 63)) (mx := (S.2.1 64)) hTx hY hZ (S.1 66) (S.1 67) (S.1 3474) (S.1 3475) (S.1 3476) (S.1 3477) (S.1 3478) (S.2.1 26) (S.2.1 68)
  obtain ⟨hr, _, ⟨t1, t2⟩, mo', g1, g2⟩ := hq
  have hr : a1 = b1 := hr
  subst hr
  have m1 := zMt_at (t_X11_prizes l S ea) (zle_c rfl (zle_c rfl (zle_c rfl zle_n))) (zle_c rfl (zle_c rfl (zle_c rfl zle_n))) zle_n
  have m2 := zMt_at (t_X12_prizes l (zap S ([(65, a2), (66, a3), (67, a4)], [(2, (S.2.1 2)), (25, a5), (26, a6)], [])) eb) (zle_c rfl (zle_c rfl (zle_c rfl (zle_c rfl (zle_c rfl (zle_c rfl (zle_c rfl zle_n))))))) (zle_c rfl (zle_c rfl (zle_c rfl zle_n))) zle_n
  exact ⟨_, ([(65, a2), (66, a3), (67, a4)], [(2, (S.2.1 2)), (25, a5), (26, a6)], []), ([(3470, b2), (3473, b3), (3474, (nI 64)), (3475, b4), (3476, b5), (3477, b6), (3478, b7)], [(63, b8), (64, (S.2.1 64)), (68, b9)], []), m1, m2, Inv_i (okTx0 (tc := tc) t1 t2) hX hM (by first | exact eF1 | rfl) (by first | exact eF2 | rfl) (by first | exact eH1 | rfl) (by first | exact eH2 | rfl) (by first | exact eP1 | rfl) (by first | exact eP2 | rfl) ha (by first | exact eA1 | rfl) (by first | exact eA2 | rfl) hR (by first | exact eR1 | rfl) (by first | exact eR2 | rfl) (by first | exact hT | exact hTn) hHi (by first | exact eS1 | rfl) (by first | exact eC1 | rfl) (by first | exact eC2 | rfl) hKe (by first | exact eS2 | rfl) g1 g2⟩
set_option maxRecDepth 100000 in
set_option maxHeartbeats 4000000 in
theorem st_raise (l : Launch) {S : zS} (h : Inv S) (p1 p2 : Int32) : zSt mX11_raise mX12_raise 1 2 [.int p1, .int p2] l S := by
  obtain ⟨y, tc, F, H, P, kd, ht, ft, st, sc, ca, pl, V, al, r, c, mo, hTx, hX, hM, eF1, eF2, eH1, eH2, eP1, eP2, ha, eA1, eA2, hR, eR1, eR2, hT, hHi, eS1, eC1, eC2, hKe, eS2, hY, hZ⟩ := h
  obtain ⟨n, rd, hs, fa, te, hE⟩ := id hT
  have eN : S.1 1284 = nI n := hE.2.1
  have hTn := hT
  rw [eN] at hTn
  obtain ⟨rr, x1, y1, z1, ea, eb, hv⟩ := pr_raise (ivC_of eF1 eF2 hX.1 hX.2.1 hM.1 hM.2.1) p1 p2 (S.1 3473)
  obtain ⟨kd', ht', ft', hk, g1, g2, g3, g4⟩ := of_ivC hv
  have m1 := zMt_at (t_X11_raise l S ea) (zle_c rfl zle_n) (zle_c rfl zle_n) zle_n
  have m2 := zMt_at (t_X12_raise l (zap S ([(323, (S.1 323))], [(7, x1)], [])) eb) (zle_c rfl (zle_c rfl zle_n)) (zle_c rfl zle_n) zle_n
  exact ⟨_, ([(323, (S.1 323))], [(7, x1)], []), ([(3457, (S.1 3457)), (3473, 0)], [(57, y1)], []), m1, m2, Inv_i hTx ⟨g1, g2, hX.2.2⟩ ⟨g3, g4, hM.2.2⟩ (by first | exact eF1 | rfl) (by first | exact eF2 | rfl) (by first | exact eH1 | rfl) (by first | exact eH2 | rfl) (by first | exact eP1 | rfl) (by first | exact eP2 | rfl) ha (by first | exact eA1 | rfl) (by first | exact eA2 | rfl) hR (by first | exact eR1 | rfl) (by first | exact eR2 | rfl) (by first | exact hT | exact hTn) hHi (by first | exact eS1 | rfl) (by first | exact eC1 | rfl) (by first | exact eC2 | rfl) hKe (by first | exact eS2 | rfl) hY hZ⟩
set_option maxRecDepth 100000 in
set_option maxHeartbeats 4000000 in
theorem st_move (l : Launch) {S : zS} (h : Inv S) (p1 p2 : Int32) : zSt mX11_move mX12_move 1 2 [.int p1, .int p2] l S := by
  obtain ⟨y, tc, F, H, P, kd, ht, ft, st, sc, ca, pl, V, al, r, c, mo, hTx, hX, hM, eF1, eF2, eH1, eH2, eP1, eP2, ha, eA1, eA2, hR, eR1, eR2, hT, hHi, eS1, eC1, eC2, hKe, eS2, hY, hZ⟩ := h
  obtain ⟨n, rd, hs, fa, te, hE⟩ := id hT
  have eN : S.1 1284 = nI n := hE.2.1
  have hTn := hT
  rw [eN] at hTn
  obtain ⟨rr, x1, y1, z1, ea, eb, hv⟩ := pr_move (ivC_of eF1 eF2 hX.1 hX.2.1 hM.1 hM.2.1) p1 p2 (S.1 3473)
  obtain ⟨kd', ht', ft', hk, g1, g2, g3, g4⟩ := of_ivC hv
  have m1 := zMt_at (t_X11_move l S ea) (zle_c rfl zle_n) (zle_c rfl zle_n) zle_n
  have m2 := zMt_at (t_X12_move l (zap S ([(323, (S.1 323))], [(8, x1)], [])) eb) (zle_c rfl (zle_c rfl zle_n)) (zle_c rfl zle_n) zle_n
  exact ⟨_, ([(323, (S.1 323))], [(8, x1)], []), ([(3457, (S.1 3457)), (3473, 0)], [(58, y1)], []), m1, m2, Inv_i hTx ⟨g1, g2, hX.2.2⟩ ⟨g3, g4, hM.2.2⟩ (by first | exact eF1 | rfl) (by first | exact eF2 | rfl) (by first | exact eH1 | rfl) (by first | exact eH2 | rfl) (by first | exact eP1 | rfl) (by first | exact eP2 | rfl) ha (by first | exact eA1 | rfl) (by first | exact eA2 | rfl) hR (by first | exact eR1 | rfl) (by first | exact eR2 | rfl) (by first | exact hT | exact hTn) hHi (by first | exact eS1 | rfl) (by first | exact eC1 | rfl) (by first | exact eC2 | rfl) hKe (by first | exact eS2 | rfl) hY hZ⟩
set_option maxRecDepth 100000 in
set_option maxHeartbeats 4000000 in
theorem st_allow (l : Launch) {S : zS} (h : Inv S) (p1 : Int32) : zSt mX11_allow mX12_allow 0 2 [.int p1] l S := by
  obtain ⟨y, tc, F, H, P, kd, ht, ft, st, sc, ca, pl, V, al, r, c, mo, hTx, hX, hM, eF1, eF2, eH1, eH2, eP1, eP2, ha, eA1, eA2, hR, eR1, eR2, hT, hHi, eS1, eC1, eC2, hKe, eS2, hY, hZ⟩ := h
  obtain ⟨n, rd, hs, fa, te, hE⟩ := id hT
  have eN : S.1 1284 = nI n := hE.2.1
  have hTn := hT
  rw [eN] at hTn
  obtain ⟨rr, ca1, ma1, a', ea, eb, hv⟩ := pr_allow (a := (al : Int)) (ca := S.1 329) (ma := S.1 3461) ⟨⟨by omega, by omega⟩, by rw [eA1, iI_nI], by rw [eA2, iI_nI]⟩ p1 (S.1 3473)
  obtain ⟨⟨v1, v2⟩, v3, v4⟩ := hv
  have u1 : ca1 = nI a'.toNat := by rw [v3, iI_nI, Int.toNat_of_nonneg v1]
  have u2 : ma1 = nI a'.toNat := by rw [v4, iI_nI, Int.toNat_of_nonneg v1]
  have m1 := zMt_at (t_X11_allow l S ea) (zle_c rfl zle_n) zle_n zle_n
  have m2 := zMt_at (t_X12_allow l (zap S ([(329, ca1)], [], [])) eb) (zle_c rfl (zle_c rfl zle_n)) zle_n zle_n
  exact ⟨_, ([(329, ca1)], [], []), ([(3461, ma1), (3473, 0)], [], []), m1, m2, Inv_i hTx hX hM (by first | exact eF1 | rfl) (by first | exact eF2 | rfl) (by first | exact eH1 | rfl) (by first | exact eH2 | rfl) (by first | exact eP1 | rfl) (by first | exact eP2 | rfl) (show a'.toNat ≤ 9999 by omega) u1 u2 hR (by first | exact eR1 | rfl) (by first | exact eR2 | rfl) (by first | exact hT | exact hTn) hHi (by first | exact eS1 | rfl) (by first | exact eC1 | rfl) (by first | exact eC2 | rfl) hKe (by first | exact eS2 | rfl) hY hZ⟩
set_option maxRecDepth 100000 in
set_option maxHeartbeats 4000000 in
theorem st_sheet (l : Launch) {S : zS} (h : Inv S) (p1 p2 p3 p4 : Int32) : zSt mX11_sheet mX12_sheet 2 1 [.int p1, .int p2, .int p3, .int p4] l S := by
  obtain ⟨y, tc, F, H, P, kd, ht, ft, st, sc, ca, pl, V, al, r, c, mo, hTx, hX, hM, eF1, eF2, eH1, eH2, eP1, eP2, ha, eA1, eA2, hR, eR1, eR2, hT, hHi, eS1, eC1, eC2, hKe, eS2, hY, hZ⟩ := h
  obtain ⟨n, rd, hs, fa, te, hE⟩ := id hT
  have eN : S.1 1284 = nI n := hE.2.1
  have hTn := hT
  rw [eN] at hTn
  obtain ⟨⟨a1, a2⟩, ea, ⟨b1, b2, b3⟩, eb, hq⟩ := pr_sheet (p1 := p1) (p2 := p2) (p3 := p3) (p4 := p4) (ch := (S.2.1 7)) (tw := (S.1 3473)) (mh := (S.2.1 57)) hX.1.1 hX.2.1 hM.2.1
  obtain ⟨hr, _, ht', g1, g2⟩ := hq
  have hr : a1 = b1 := hr
  subst hr
  have m1 := zMt_at (t_X11_sheet l S ea) (zle_c eF1 zle_n) (zle_c rfl zle_n) zle_n
  have m2 := zMt_at (t_X12_sheet l (zap S ([(323, (nI F))], [(7, a2)], [])) eb) (zle_c eF2 (zle_c rfl zle_n)) (zle_c rfl zle_n) zle_n
  exact ⟨_, ([(323, (nI F))], [(7, a2)], []), ([(3457, (nI F)), (3473, b2)], [(57, b3)], []), m1, m2, Inv_i hTx ⟨hX.1, g1, hX.2.2⟩ ⟨hM.1, g2, hM.2.2⟩ (by first | exact eF1 | rfl) (by first | exact eF2 | rfl) (by first | exact eH1 | rfl) (by first | exact eH2 | rfl) (by first | exact eP1 | rfl) (by first | exact eP2 | rfl) ha (by first | exact eA1 | rfl) (by first | exact eA2 | rfl) hR (by first | exact eR1 | rfl) (by first | exact eR2 | rfl) (by first | exact hT | exact hTn) hHi (by first | exact eS1 | rfl) (by first | exact eC1 | rfl) (by first | exact eC2 | rfl) hKe (by first | exact eS2 | rfl) hY hZ⟩
set_option maxRecDepth 100000 in
set_option maxHeartbeats 4000000 in
theorem st_jump (l : Launch) {S : zS} (h : Inv S) (p1 p2 p3 : Int32) : zSt mX11_jump mX12_jump 4 207 [.int p1, .int p2, .int p3] l S := by
  obtain ⟨y, tc, F, H, P, kd, ht, ft, st, sc, ca, pl, V, al, r, c, mo, hTx, hX, hM, eF1, eF2, eH1, eH2, eP1, eP2, ha, eA1, eA2, hR, eR1, eR2, hT, hHi, eS1, eC1, eC2, hKe, eS2, hY, hZ⟩ := h
  obtain ⟨n, rd, hs, fa, te, hE⟩ := id hT
  have eN : S.1 1284 = nI n := hE.2.1
  have hTn := hT
  rw [eN] at hTn
  obtain ⟨r, n', nt', mt', sk', th', w1, w2, w3, w4, w5, w6, w7, w8, w9, w10, ea, eb, hR''⟩ := pr_jump (rz := (S.1 769)) (ck := (S.2.1 6)) (ch := (S.2.1 7)) (cf := (S.2.1 8)) (cd := (S.2.1 10)) (rk := (S.2.1 13)) (nt := (S.2.2 4)) (mz := (S.1 3483)) (mk := (S.2.1 56)) (mh := (S.2.1 57)) (mf := (S.2.1 58)) (ms := (S.2.1 59)) (mc := (S.2.1 60)) (ma := (S.2.1 61)) (ml := (S.2.1 69)) (mt := (S.2.2 65)) hX hM hR p1 p2 p3 (S.2.1 15) (S.2.1 16) (S.1 3474) (S.1 3475) (S.1 3476) (S.1 3477) (S.1 3478) (S.1 3484) (S.1 3485) (S.1 3486) (S.1 3487) (S.1 3488) (S.1 3473)
  have m1 := zMt_at (t_X11_jump l S ea) (zle_c eR1 (zle_c eF1 (zle_c eH1 (zle_c rfl zle_n)))) (zle_c rfl (zle_c rfl (zle_c rfl (zle_c rfl (zle_c rfl (zle_c rfl (zle_c rfl zle_n))))))) (zle_c rfl zle_n)
  have m2 := zMt_at (t_X12_jump l (zap S ([(193, (nI n')), (323, (nI F)), (326, (nI H)), (769, (S.1 769))], [(6, (S.2.1 6)), (7, (S.2.1 7)), (8, (S.2.1 8)), (10, (S.2.1 10)), (13, (S.2.1 13)), (15, sk'), (16, th')], [(4, nt')])) eb) (zle_c eF2 (zle_c eH2 (zle_c eR2 (zle_c rfl (zle_c rfl (zle_c rfl (zle_c rfl (zle_c rfl (zle_c rfl (zle_c rfl (zle_c rfl (zle_c rfl (zle_c rfl (zle_c rfl (zle_c rfl zle_n))))))))))))))) (zle_c rfl (zle_c rfl (zle_c rfl (zle_c rfl (zle_c rfl (zle_c rfl (zle_c rfl zle_n))))))) (zle_c rfl zle_n)
  exact ⟨_, ([(193, (nI n')), (323, (nI F)), (326, (nI H)), (769, (S.1 769))], [(6, (S.2.1 6)), (7, (S.2.1 7)), (8, (S.2.1 8)), (10, (S.2.1 10)), (13, (S.2.1 13)), (15, sk'), (16, th')], [(4, nt')]), ([(3457, (nI F)), (3462, (nI H)), (3472, (nI n')), (3473, 0), (3474, w1), (3475, w2), (3476, w3), (3477, w4), (3478, w5), (3483, (S.1 3483)), (3484, w6), (3485, w7), (3486, w8), (3487, w9), (3488, w10)], [(56, (S.2.1 56)), (57, (S.2.1 57)), (58, (S.2.1 58)), (59, (S.2.1 59)), (60, (S.2.1 60)), (61, (S.2.1 61)), (69, (S.2.1 69))], [(65, mt')]), m1, m2, Inv_i hTx hX hM (by first | exact eF1 | rfl) (by first | exact eF2 | rfl) (by first | exact eH1 | rfl) (by first | exact eH2 | rfl) (by first | exact eP1 | rfl) (by first | exact eP2 | rfl) ha (by first | exact eA1 | rfl) (by first | exact eA2 | rfl) hR'' rfl rfl (by first | exact hT | exact hTn) hHi (by first | exact eS1 | rfl) (by first | exact eC1 | rfl) (by first | exact eC2 | rfl) hKe (by first | exact eS2 | rfl) hY hZ⟩
set_option maxRecDepth 100000 in
set_option maxHeartbeats 4000000 in
theorem st_strides (l : Launch) {S : zS} (h : Inv S) (p1 p2 : Int32) : zSt mX11_strides mX12_strides 3 2 [.int p1, .int p2] l S := by
  obtain ⟨y, tc, F, H, P, kd, ht, ft, st, sc, ca, pl, V, al, r, c, mo, hTx, hX, hM, eF1, eF2, eH1, eH2, eP1, eP2, ha, eA1, eA2, hR, eR1, eR2, hT, hHi, eS1, eC1, eC2, hKe, eS2, hY, hZ⟩ := h
  obtain ⟨n, rd, hs, fa, te, hE⟩ := id hT
  have eN : S.1 1284 = nI n := hE.2.1
  have hTn := hT
  rw [eN] at hTn
  obtain ⟨r, n', nt', mt', ea, eb, hR''⟩ := pr_strides (cf := (S.2.1 8)) (cd := (S.2.1 10)) (nt := (S.2.2 4)) (mf := (S.2.1 58)) (ms := (S.2.1 59)) (mt := (S.2.2 65)) hX hM hR p1 p2 (S.1 3473)
  have m1 := zMt_at (t_X11_strides l S ea) (zle_c eR1 (zle_c eF1 (zle_c eH1 zle_n))) (zle_c rfl (zle_c rfl zle_n)) (zle_c rfl zle_n)
  have m2 := zMt_at (t_X12_strides l (zap S ([(193, (nI n')), (323, (nI F)), (326, (nI H))], [(8, (S.2.1 8)), (10, (S.2.1 10))], [(4, nt')])) eb) (zle_c eF2 (zle_c eH2 (zle_c eR2 (zle_c rfl zle_n)))) (zle_c rfl (zle_c rfl zle_n)) (zle_c rfl zle_n)
  exact ⟨_, ([(193, (nI n')), (323, (nI F)), (326, (nI H))], [(8, (S.2.1 8)), (10, (S.2.1 10))], [(4, nt')]), ([(3457, (nI F)), (3462, (nI H)), (3472, (nI n')), (3473, 0)], [(58, (S.2.1 58)), (59, (S.2.1 59))], [(65, mt')]), m1, m2, Inv_i hTx hX hM (by first | exact eF1 | rfl) (by first | exact eF2 | rfl) (by first | exact eH1 | rfl) (by first | exact eH2 | rfl) (by first | exact eP1 | rfl) (by first | exact eP2 | rfl) ha (by first | exact eA1 | rfl) (by first | exact eA2 | rfl) hR'' rfl rfl (by first | exact hT | exact hTn) hHi (by first | exact eS1 | rfl) (by first | exact eC1 | rfl) (by first | exact eC2 | rfl) hKe (by first | exact eS2 | rfl) hY hZ⟩
set_option maxRecDepth 100000 in
set_option maxHeartbeats 4000000 in
theorem st_calm (l : Launch) {S : zS} (h : Inv S) (p1 p2 : Int32) : zSt mX11_calm mX12_calm 4 207 [.int p1, .int p2] l S := by
  obtain ⟨y, tc, F, H, P, kd, ht, ft, st, sc, ca, pl, V, al, r, c, mo, hTx, hX, hM, eF1, eF2, eH1, eH2, eP1, eP2, ha, eA1, eA2, hR, eR1, eR2, hT, hHi, eS1, eC1, eC2, hKe, eS2, hY, hZ⟩ := h
  obtain ⟨n, rd, hs, fa, te, hE⟩ := id hT
  have eN : S.1 1284 = nI n := hE.2.1
  have hTn := hT
  rw [eN] at hTn
  obtain ⟨r, n', nt', mt', sk', th', w1, w2, w3, w4, w5, w6, w7, w8, w9, w10, ea, eb, hR''⟩ := pr_calm (rz := (S.1 769)) (ck := (S.2.1 6)) (ch := (S.2.1 7)) (cf := (S.2.1 8)) (cd := (S.2.1 10)) (rk := (S.2.1 13)) (nt := (S.2.2 4)) (mz := (S.1 3483)) (mk := (S.2.1 56)) (mh := (S.2.1 57)) (mf := (S.2.1 58)) (ms := (S.2.1 59)) (mc := (S.2.1 60)) (ma := (S.2.1 61)) (ml := (S.2.1 69)) (mt := (S.2.2 65)) hX hM hR p1 p2 (S.2.1 15) (S.2.1 16) (S.1 3474) (S.1 3475) (S.1 3476) (S.1 3477) (S.1 3478) (S.1 3484) (S.1 3485) (S.1 3486) (S.1 3487) (S.1 3488) (S.1 3473)
  have m1 := zMt_at (t_X11_calm l S ea) (zle_c eR1 (zle_c eF1 (zle_c eH1 (zle_c rfl zle_n)))) (zle_c rfl (zle_c rfl (zle_c rfl (zle_c rfl (zle_c rfl (zle_c rfl (zle_c rfl zle_n))))))) (zle_c rfl zle_n)
  have m2 := zMt_at (t_X12_calm l (zap S ([(193, (nI n')), (323, (nI F)), (326, (nI H)), (769, (S.1 769))], [(6, (S.2.1 6)), (7, (S.2.1 7)), (8, (S.2.1 8)), (10, (S.2.1 10)), (13, (S.2.1 13)), (15, sk'), (16, th')], [(4, nt')])) eb) (zle_c eF2 (zle_c eH2 (zle_c eR2 (zle_c rfl (zle_c rfl (zle_c rfl (zle_c rfl (zle_c rfl (zle_c rfl (zle_c rfl (zle_c rfl (zle_c rfl (zle_c rfl (zle_c rfl (zle_c rfl zle_n))))))))))))))) (zle_c rfl (zle_c rfl (zle_c rfl (zle_c rfl (zle_c rfl (zle_c rfl (zle_c rfl zle_n))))))) (zle_c rfl zle_n)
  exact ⟨_, ([(193, (nI n')), (323, (nI F)), (326, (nI H)), (769, (S.1 769))], [(6, (S.2.1 6)), (7, (S.2.1 7)), (8, (S.2.1 8)), (10, (S.2.1 10)), (13, (S.2.1 13)), (15, sk'), (16, th')], [(4, nt')]), ([(3457, (nI F)), (3462, (nI H)), (3472, (nI n')), (3473, 0), (3474, w1), (3475, w2), (3476, w3), (3477, w4), (3478, w5), (3483, (S.1 3483)), (3484, w6), (3485, w7), (3486, w8), (3487, w9), (3488, w10)], [(56, (S.2.1 56)), (57, (S.2.1 57)), (58, (S.2.1 58)), (59, (S.2.1 59)), (60, (S.2.1 60)), (61, (S.2.1 61)), (69, (S.2.1 69))], [(65, mt')]), m1, m2, Inv_i hTx hX hM (by first | exact eF1 | rfl) (by first | exact eF2 | rfl) (by first | exact eH1 | rfl) (by first | exact eH2 | rfl) (by first | exact eP1 | rfl) (by first | exact eP2 | rfl) ha (by first | exact eA1 | rfl) (by first | exact eA2 | rfl) hR'' rfl rfl (by first | exact hT | exact hTn) hHi (by first | exact eS1 | rfl) (by first | exact eC1 | rfl) (by first | exact eC2 | rfl) hKe (by first | exact eS2 | rfl) hY hZ⟩
set_option maxRecDepth 100000 in
set_option maxHeartbeats 4000000 in
theorem st_fear (l : Launch) {S : zS} (h : Inv S) (p1 p2 : Int32) : zSt mX11_fear mX12_fear 5 208 [.int p1, .int p2] l S := by
  obtain ⟨y, tc, F, H, P, kd, ht, ft, st, sc, ca, pl, V, al, r, c, mo, hTx, hX, hM, eF1, eF2, eH1, eH2, eP1, eP2, ha, eA1, eA2, hR, eR1, eR2, hT, hHi, eS1, eC1, eC2, hKe, eS2, hY, hZ⟩ := h
  obtain ⟨n, rd, hs, fa, te, hE⟩ := id hT
  have eN : S.1 1284 = nI n := hE.2.1
  have hTn := hT
  rw [eN] at hTn
  obtain ⟨r, n', nt', mt', sk', th', w1, w2, w3, w4, w5, w6, w7, w8, w9, w10, ea, eb, hR''⟩ := pr_fear (rz := (S.1 769)) (ck := (S.2.1 6)) (ch := (S.2.1 7)) (cf := (S.2.1 8)) (cd := (S.2.1 10)) (cp := (S.2.1 11)) (rk := (S.2.1 13)) (nt := (S.2.2 4)) (mz := (S.1 3483)) (mk := (S.2.1 56)) (mh := (S.2.1 57)) (mf := (S.2.1 58)) (ms := (S.2.1 59)) (mc := (S.2.1 60)) (ma := (S.2.1 61)) (mp := (S.2.1 62)) (ml := (S.2.1 69)) (mt := (S.2.2 65)) hX hM hR p1 p2 (S.2.1 15) (S.2.1 16) (S.1 3474) (S.1 3475) (S.1 3476) (S.1 3477) (S.1 3478) (S.1 3484) (S.1 3485) (S.1 3486) (S.1 3487) (S.1 3488) (S.1 3473)
  have m1 := zMt_at (t_X11_fear l S ea) (zle_c eR1 (zle_c eF1 (zle_c eH1 (zle_c eP1 (zle_c rfl zle_n))))) (zle_c rfl (zle_c rfl (zle_c rfl (zle_c rfl (zle_c rfl (zle_c rfl (zle_c rfl (zle_c rfl zle_n)))))))) (zle_c rfl zle_n)
  have m2 := zMt_at (t_X12_fear l (zap S ([(193, (nI n')), (323, (nI F)), (326, (nI H)), (328, (nI P)), (769, (S.1 769))], [(6, (S.2.1 6)), (7, (S.2.1 7)), (8, (S.2.1 8)), (10, (S.2.1 10)), (11, (S.2.1 11)), (13, (S.2.1 13)), (15, sk'), (16, th')], [(4, nt')])) eb) (zle_c eF2 (zle_c eH2 (zle_c eP2 (zle_c eR2 (zle_c rfl (zle_c rfl (zle_c rfl (zle_c rfl (zle_c rfl (zle_c rfl (zle_c rfl (zle_c rfl (zle_c rfl (zle_c rfl (zle_c rfl (zle_c rfl zle_n)))))))))))))))) (zle_c rfl (zle_c rfl (zle_c rfl (zle_c rfl (zle_c rfl (zle_c rfl (zle_c rfl (zle_c rfl zle_n)))))))) (zle_c rfl zle_n)
  exact ⟨_, ([(193, (nI n')), (323, (nI F)), (326, (nI H)), (328, (nI P)), (769, (S.1 769))], [(6, (S.2.1 6)), (7, (S.2.1 7)), (8, (S.2.1 8)), (10, (S.2.1 10)), (11, (S.2.1 11)), (13, (S.2.1 13)), (15, sk'), (16, th')], [(4, nt')]), ([(3457, (nI F)), (3462, (nI H)), (3466, (nI P)), (3472, (nI n')), (3473, 0), (3474, w1), (3475, w2), (3476, w3), (3477, w4), (3478, w5), (3483, (S.1 3483)), (3484, w6), (3485, w7), (3486, w8), (3487, w9), (3488, w10)], [(56, (S.2.1 56)), (57, (S.2.1 57)), (58, (S.2.1 58)), (59, (S.2.1 59)), (60, (S.2.1 60)), (61, (S.2.1 61)), (62, (S.2.1 62)), (69, (S.2.1 69))], [(65, mt')]), m1, m2, Inv_i hTx hX hM (by first | exact eF1 | rfl) (by first | exact eF2 | rfl) (by first | exact eH1 | rfl) (by first | exact eH2 | rfl) (by first | exact eP1 | rfl) (by first | exact eP2 | rfl) ha (by first | exact eA1 | rfl) (by first | exact eA2 | rfl) hR'' rfl rfl (by first | exact hT | exact hTn) hHi (by first | exact eS1 | rfl) (by first | exact eC1 | rfl) (by first | exact eC2 | rfl) hKe (by first | exact eS2 | rfl) hY hZ⟩
