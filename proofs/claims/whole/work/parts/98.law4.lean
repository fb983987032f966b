/-! THE LAW, further cases -/
set_option maxRecDepth 100000 in
set_option maxHeartbeats 4000000 in
theorem lc_through {p : Program} {l : Launch} {e : Env} {s : State} {m : MethodId} {below : List Frame} {meth : Method} {c : Code} {D : va_G} {cy : Nat → ClassId} {ad : Nat → Nat} {A : Nat → Prop} {b L : Nat} {xs : Nat → Int32} (C : LX p s m meth c D cy ad A b L xs) (hfl : l.stackTraces = false) {S : zS} (hI : Inv S) {i : Nat} (hi : i + 5 ≤ L) {H : Heap} {locs : List Loc} {la : Array Slot} {cells slots : Nat} {Q : State → Prop} (hcs : cells + 1 ≤ room_1.cells ∧ slots + 6 ≤ room_1.slots) (hP : va_P D zcl (zwd zW cy ad S) H) (hS : va_S A s.heap H locs) (hl : lv_has la 8 [(0, .ref b), (1, .ref (ad 0)), (2, .ref (ad 54)), (3, .ref (ad 87)), (4, .int (nI i))])
    (kk : ∀ (S' : zS) (H' : Heap) (locs' : List Loc) (la' : Array Slot), Inv S' → va_P D zcl (zwd zW cy ad S') H' → va_S A s.heap H' locs' → lv_has la' 8 [(0, .ref b), (1, .ref (ad 0)), (2, .ref (ad 54)), (3, .ref (ad 87)), (4, .int (nI i))] → W p l e room_1 s m #[Value.ref b] below meth c H' locs' (cells + 1) (slots + 6) Q (F0 m 1896 la' [])) : W p l e room_1 s m #[Value.ref b] below meth c H locs cells slots Q (F0 m 1544 la []) := by
  have hC := C.1
  have hx := hC.1
  have hb := hC.2.1
  have hc0 : cells ≤ room_1.cells ∧ slots ≤ room_1.slots := ⟨by omega, by omega⟩
  obtain ⟨r, M1, M2, m1, m2, hI⟩ := st_through l hI (xs (i + 1)) (xs (i + 2))
  refine lv_aload_n hx hb dL_law_1544 rfl (lv_at hl 1 rfl) ?_
  refine larg (kn := 1) C hS hl (by omega) dL_law_1545 dL_law_1546 dL_law_1548 dL_law_1549 dL_law_1550 rfl rfl rfl rfl rfl rfl ?_
  refine larg (kn := 2) C hS hl (by omega) dL_law_1551 dL_law_1552 dL_law_1554 dL_law_1555 dL_law_1556 rfl rfl rfl rfl rfl rfl ?_
  refine lcallV (mi := mL_law) (yi := mX11_through) (as := [.int (xs (i + 1)), .int (xs (i + 2))]) (rest := []) hC hP hS hl.1 dL_law_1557 ML_L_193 Yv_X11_through rfl zW_0 rfl rfl m1 (by decide) (Nat.le_of_ble_eq_true rfl) rfl hc0 rfl (fun H locs hP hS => ?_)
  refine lv_aload_n hx hb dL_law_1560 rfl (lv_at hl 2 rfl) ?_
  refine larg (kn := 1) C hS hl (by omega) dL_law_1561 dL_law_1562 dL_law_1564 dL_law_1565 dL_law_1566 rfl rfl rfl rfl rfl rfl ?_
  refine larg (kn := 2) C hS hl (by omega) dL_law_1567 dL_law_1568 dL_law_1570 dL_law_1571 dL_law_1572 rfl rfl rfl rfl rfl rfl ?_
  refine lcallV (mi := mL_law) (yi := mX12_through) (as := [.int (xs (i + 1)), .int (xs (i + 2))]) (rest := [.int r]) hC hP hS hl.1 dL_law_1573 ML_L_196 Yv_X12_through rfl zW_54 rfl rfl m2 (by decide) (Nat.le_of_ble_eq_true rfl) rfl hc0 rfl (fun H locs hP hS => ?_)
  refine lv_icmp_eq (tgt := 1896) hx hb dL_law_1576 (by decide) (fun _ => ?_) (fun z => absurd rfl z)
  exact W.widen (k := cells + 1) (n := slots + 6) (by omega) (by omega) (kk _ H locs la hI hP hS hl)
set_option maxRecDepth 100000 in
set_option maxHeartbeats 4000000 in
theorem lc_built {p : Program} {l : Launch} {e : Env} {s : State} {m : MethodId} {below : List Frame} {meth : Method} {c : Code} {D : va_G} {cy : Nat → ClassId} {ad : Nat → Nat} {A : Nat → Prop} {b L : Nat} {xs : Nat → Int32} (C : LX p s m meth c D cy ad A b L xs) (hfl : l.stackTraces = false) {S : zS} (hI : Inv S) {i : Nat} (hi : i + 5 ≤ L) {H : Heap} {locs : List Loc} {la : Array Slot} {cells slots : Nat} {Q : State → Prop} (hcs : cells + 1 ≤ room_1.cells ∧ slots + 6 ≤ room_1.slots) (hP : va_P D zcl (zwd zW cy ad S) H) (hS : va_S A s.heap H locs) (hl : lv_has la 8 [(0, .ref b), (1, .ref (ad 0)), (2, .ref (ad 54)), (3, .ref (ad 87)), (4, .int (nI i))])
    (kk : ∀ (S' : zS) (H' : Heap) (locs' : List Loc) (la' : Array Slot), Inv S' → va_P D zcl (zwd zW cy ad S') H' → va_S A s.heap H' locs' → lv_has la' 8 [(0, .ref b), (1, .ref (ad 0)), (2, .ref (ad 54)), (3, .ref (ad 87)), (4, .int (nI i))] → W p l e room_1 s m #[Value.ref b] below meth c H' locs' (cells + 1) (slots + 6) Q (F0 m 1896 la' [])) : W p l e room_1 s m #[Value.ref b] below meth c H locs cells slots Q (F0 m 1581 la []) := by
  have hC := C.1
  have hx := hC.1
  have hb := hC.2.1
  have hc0 : cells ≤ room_1.cells ∧ slots ≤ room_1.slots := ⟨by omega, by omega⟩
  obtain ⟨r, M1, M2, m1, m2, hI⟩ := st_built l hI (xs (i + 1)) (xs (i + 2)) (xs (i + 3))
  refine lv_aload_n hx hb dL_law_1581 rfl (lv_at hl 1 rfl) ?_
  refine larg (kn := 1) C hS hl (by omega) dL_law_1582 dL_law_1583 dL_law_1585 dL_law_1586 dL_law_1587 rfl rfl rfl rfl rfl rfl ?_
  refine larg (kn := 2) C hS hl (by omega) dL_law_1588 dL_law_1589 dL_law_1591 dL_law_1592 dL_law_1593 rfl rfl rfl rfl rfl rfl ?_
  refine larg (kn := 3) C hS hl (by omega) dL_law_1594 dL_law_1595 dL_law_1597 dL_law_1598 dL_law_1599 rfl rfl rfl rfl rfl rfl ?_
  refine lcallV (mi := mL_law) (yi := mX11_built) (as := [.int (xs (i + 1)), .int (xs (i + 2)), .int (xs (i + 3))]) (rest := []) hC hP hS hl.1 dL_law_1600 ML_L_197 Yv_X11_built rfl zW_0 rfl rfl m1 (by decide) (Nat.le_of_ble_eq_true rfl) rfl hc0 rfl (fun H locs hP hS => ?_)
  refine lv_aload_n hx hb dL_law_1603 rfl (lv_at hl 2 rfl) ?_
  refine larg (kn := 1) C hS hl (by omega) dL_law_1604 dL_law_1605 dL_law_1607 dL_law_1608 dL_law_1609 rfl rfl rfl rfl rfl rfl ?_
  refine larg (kn := 2) C hS hl (by omega) dL_law_1610 dL_law_1611 dL_law_1613 dL_law_1614 dL_law_1615 rfl rfl rfl rfl rfl rfl ?_
  refine larg (kn := 3) C hS hl (by omega) dL_law_1616 dL_law_1617 dL_law_1619 dL_law_1620 dL_law_1621 rfl rfl rfl rfl rfl rfl ?_
  refine lcallV (mi := mL_law) (yi := mX12_built) (as := [.int (xs (i + 1)), .int (xs (i + 2)), .int (xs (i + 3))]) (rest := [.int r]) hC hP hS hl.1 dL_law_1622 ML_L_200 Yv_X12_built rfl zW_54 rfl rfl m2 (by decide) (Nat.le_of_ble_eq_true rfl) rfl hc0 rfl (fun H locs hP hS => ?_)
  refine lv_icmp_eq (tgt := 1896) hx hb dL_law_1625 (by decide) (fun _ => ?_) (fun z => absurd rfl z)
  exact W.widen (k := cells + 1) (n := slots + 6) (by omega) (by omega) (kk _ H locs la hI hP hS hl)
set_option maxRecDepth 100000 in
set_option maxHeartbeats 4000000 in
theorem lc_fair {p : Program} {l : Launch} {e : Env} {s : State} {m : MethodId} {below : List Frame} {meth : Method} {c : Code} {D : va_G} {cy : Nat → ClassId} {ad : Nat → Nat} {A : Nat → Prop} {b L : Nat} {xs : Nat → Int32} (C : LX p s m meth c D cy ad A b L xs) (hfl : l.stackTraces = false) {S : zS} (hI : Inv S) {i : Nat} (hi : i + 5 ≤ L) {H : Heap} {locs : List Loc} {la : Array Slot} {cells slots : Nat} {Q : State → Prop} (hcs : cells + 1 ≤ room_1.cells ∧ slots + 6 ≤ room_1.slots) (hP : va_P D zcl (zwd zW cy ad S) H) (hS : va_S A s.heap H locs) (hl : lv_has la 8 [(0, .ref b), (1, .ref (ad 0)), (2, .ref (ad 54)), (3, .ref (ad 87)), (4, .int (nI i))])
    (kk : ∀ (S' : zS) (H' : Heap) (locs' : List Loc) (la' : Array Slot), Inv S' → va_P D zcl (zwd zW cy ad S') H' → va_S A s.heap H' locs' → lv_has la' 8 [(0, .ref b), (1, .ref (ad 0)), (2, .ref (ad 54)), (3, .ref (ad 87)), (4, .int (nI i))] → W p l e room_1 s m #[Value.ref b] below meth c H' locs' (cells + 1) (slots + 6) Q (F0 m 1896 la' [])) : W p l e room_1 s m #[Value.ref b] below meth c H locs cells slots Q (F0 m 1630 la []) := by
  have hC := C.1
  have hx := hC.1
  have hb := hC.2.1
  have hc0 : cells ≤ room_1.cells ∧ slots ≤ room_1.slots := ⟨by omega, by omega⟩
  obtain ⟨r, M1, M2, m1, m2, hI⟩ := st_fair l hI (xs (i + 1))
  refine lv_aload_n hx hb dL_law_1630 rfl (lv_at hl 1 rfl) ?_
  refine larg (kn := 1) C hS hl (by omega) dL_law_1631 dL_law_1632 dL_law_1634 dL_law_1635 dL_law_1636 rfl rfl rfl rfl rfl rfl ?_
  refine lcallV (mi := mL_law) (yi := mX11_fair) (as := [.int (xs (i + 1))]) (rest := []) hC hP hS hl.1 dL_law_1637 ML_L_201 Yv_X11_fair rfl zW_0 rfl rfl m1 (by decide) (Nat.le_of_ble_eq_true rfl) rfl hc0 rfl (fun H locs hP hS => ?_)
  refine lv_aload_n hx hb dL_law_1640 rfl (lv_at hl 2 rfl) ?_
  refine larg (kn := 1) C hS hl (by omega) dL_law_1641 dL_law_1642 dL_law_1644 dL_law_1645 dL_law_1646 rfl rfl rfl rfl rfl rfl ?_
  refine lcallV (mi := mL_law) (yi := mX12_fair) (as := [.int (xs (i + 1))]) (rest := [.int r]) hC hP hS hl.1 dL_law_1647 ML_L_204 Yv_X12_fair rfl zW_54 rfl rfl m2 (by decide) (Nat.le_of_ble_eq_true rfl) rfl hc0 rfl (fun H locs hP hS => ?_)
  refine lv_icmp_eq (tgt := 1896) hx hb dL_law_1650 (by decide) (fun _ => ?_) (fun z => absurd rfl z)
  exact W.widen (k := cells + 1) (n := slots + 6) (by omega) (by omega) (kk _ H locs la hI hP hS hl)
set_option maxRecDepth 100000 in
set_option maxHeartbeats 4000000 in
theorem lc_parts {p : Program} {l : Launch} {e : Env} {s : State} {m : MethodId} {below : List Frame} {meth : Method} {c : Code} {D : va_G} {cy : Nat → ClassId} {ad : Nat → Nat} {A : Nat → Prop} {b L : Nat} {xs : Nat → Int32} (C : LX p s m meth c D cy ad A b L xs) (hfl : l.stackTraces = false) {S : zS} (hI : Inv S) {i : Nat} (hi : i + 5 ≤ L) {H : Heap} {locs : List Loc} {la : Array Slot} {cells slots : Nat} {Q : State → Prop} (hcs : cells + 1 ≤ room_1.cells ∧ slots + 6 ≤ room_1.slots) (hP : va_P D zcl (zwd zW cy ad S) H) (hS : va_S A s.heap H locs) (hl : lv_has la 8 [(0, .ref b), (1, .ref (ad 0)), (2, .ref (ad 54)), (3, .ref (ad 87)), (4, .int (nI i))])
    (kk : ∀ (S' : zS) (H' : Heap) (locs' : List Loc) (la' : Array Slot), Inv S' → va_P D zcl (zwd zW cy ad S') H' → va_S A s.heap H' locs' → lv_has la' 8 [(0, .ref b), (1, .ref (ad 0)), (2, .ref (ad 54)), (3, .ref (ad 87)), (4, .int (nI i))] → W p l e room_1 s m #[Value.ref b] below meth c H' locs' (cells + 1) (slots + 6) Q (F0 m 1896 la' [])) : W p l e room_1 s m #[Value.ref b] below meth c H locs cells slots Q (F0 m 1655 la []) := by
  have hC := C.1
  have hx := hC.1
  have hb := hC.2.1
  have hc0 : cells ≤ room_1.cells ∧ slots ≤ room_1.slots := ⟨by omega, by omega⟩
  obtain ⟨r, M1, M2, m1, m2, hI⟩ := st_parts l hI 
  refine lv_aload_n hx hb dL_law_1655 rfl (lv_at hl 1 rfl) ?_
  refine lcallV (mi := mL_law) (yi := mX11_parts) (as := []) (rest := []) hC hP hS hl.1 dL_law_1656 ML_L_205 Yv_X11_parts rfl zW_0 rfl rfl m1 (by decide) (Nat.le_of_ble_eq_true rfl) rfl hc0 rfl (fun H locs hP hS => ?_)
  refine lv_aload_n hx hb dL_law_1659 rfl (lv_at hl 2 rfl) ?_
  refine lcallV (mi := mL_law) (yi := mX12_parts) (as := []) (rest := [.int r]) hC hP hS hl.1 dL_law_1660 ML_L_208 Yv_X12_parts rfl zW_54 rfl rfl m2 (by decide) (Nat.le_of_ble_eq_true rfl) rfl hc0 rfl (fun H locs hP hS => ?_)
  refine lv_icmp_eq (tgt := 1896) hx hb dL_law_1663 (by decide) (fun _ => ?_) (fun z => absurd rfl z)
  exact W.widen (k := cells + 1) (n := slots + 6) (by omega) (by omega) (kk _ H locs la hI hP hS hl)
set_option maxRecDepth 100000 in
set_option maxHeartbeats 4000000 in
theorem lc_riders {p : Program} {l : Launch} {e : Env} {s : State} {m : MethodId} {below : List Frame} {meth : Method} {c : Code} {D : va_G} {cy : Nat → ClassId} {ad : Nat → Nat} {A : Nat → Prop} {b L : Nat} {xs : Nat → Int32} (C : LX p s m meth c D cy ad A b L xs) (hfl : l.stackTraces = false) {S : zS} (hI : Inv S) {i : Nat} (hi : i + 5 ≤ L) {H : Heap} {locs : List Loc} {la : Array Slot} {cells slots : Nat} {Q : State → Prop} (hcs : cells + 1 ≤ room_1.cells ∧ slots + 6 ≤ room_1.slots) (hP : va_P D zcl (zwd zW cy ad S) H) (hS : va_S A s.heap H locs) (hl : lv_has la 8 [(0, .ref b), (1, .ref (ad 0)), (2, .ref (ad 54)), (3, .ref (ad 87)), (4, .int (nI i))])
    (kk : ∀ (S' : zS) (H' : Heap) (locs' : List Loc) (la' : Array Slot), Inv S' → va_P D zcl (zwd zW cy ad S') H' → va_S A s.heap H' locs' → lv_has la' 8 [(0, .ref b), (1, .ref (ad 0)), (2, .ref (ad 54)), (3, .ref (ad 87)), (4, .int (nI i))] → W p l e room_1 s m #[Value.ref b] below meth c H' locs' (cells + 1) (slots + 6) Q (F0 m 1896 la' [])) : W p l e room_1 s m #[Value.ref b] below meth c H locs cells slots Q (F0 m 1668 la []) := by
  have hC := C.1
  have hx := hC.1
  have hb := hC.2.1
  have hc0 : cells ≤ room_1.cells ∧ slots ≤ room_1.slots := ⟨by omega, by omega⟩
  obtain ⟨r, M1, M2, m1, m2, hI⟩ := st_riders l hI (xs (i + 1)) (xs (i + 2))
  refine lv_aload_n hx hb dL_law_1668 rfl (lv_at hl 1 rfl) ?_
  refine larg (kn := 1) C hS hl (by omega) dL_law_1669 dL_law_1670 dL_law_1672 dL_law_1673 dL_law_1674 rfl rfl rfl rfl rfl rfl ?_
  refine larg (kn := 2) C hS hl (by omega) dL_law_1675 dL_law_1676 dL_law_1678 dL_law_1679 dL_law_1680 rfl rfl rfl rfl rfl rfl ?_
  refine lcallV (mi := mL_law) (yi := mX11_riders) (as := [.int (xs (i + 1)), .int (xs (i + 2))]) (rest := []) hC hP hS hl.1 dL_law_1681 ML_L_209 Yv_X11_riders rfl zW_0 rfl rfl m1 (by decide) (Nat.le_of_ble_eq_true rfl) rfl hc0 rfl (fun H locs hP hS => ?_)
  refine lv_aload_n hx hb dL_law_1684 rfl (lv_at hl 2 rfl) ?_
  refine larg (kn := 1) C hS hl (by omega) dL_law_1685 dL_law_1686 dL_law_1688 dL_law_1689 dL_law_1690 rfl rfl rfl rfl rfl rfl ?_
  refine larg (kn := 2) C hS hl (by omega) dL_law_1691 dL_law_1692 dL_law_1694 dL_law_1695 dL_law_1696 rfl rfl rfl rfl rfl rfl ?_
  refine lcallV (mi := mL_law) (yi := mX12_riders) (as := [.int (xs (i + 1)), .int (xs (i + 2))]) (rest := [.int r]) hC hP hS hl.1 dL_law_1697 ML_L_212 Yv_X12_riders rfl zW_54 rfl rfl m2 (by decide) (Nat.le_of_ble_eq_true rfl) rfl hc0 rfl (fun H locs hP hS => ?_)
  refine lv_icmp_eq (tgt := 1896) hx hb dL_law_1700 (by decide) (fun _ => ?_) (fun z => absurd rfl z)
  exact W.widen (k := cells + 1) (n := slots + 6) (by omega) (by omega) (kk _ H locs la hI hP hS hl)
set_option maxRecDepth 100000 in
set_option maxHeartbeats 4000000 in
theorem lc_wind {p : Program} {l : Launch} {e : Env} {s : State} {m : MethodId} {below : List Frame} {meth : Method} {c : Code} {D : va_G} {cy : Nat → ClassId} {ad : Nat → Nat} {A : Nat → Prop} {b L : Nat} {xs : Nat → Int32} (C : LX p s m meth c D cy ad A b L xs) (hfl : l.stackTraces = false) {S : zS} (hI : Inv S) {i : Nat} (hi : i + 5 ≤ L) {H : Heap} {locs : List Loc} {la : Array Slot} {cells slots : Nat} {Q : State → Prop} (hcs : cells + 1 ≤ room_1.cells ∧ slots + 6 ≤ room_1.slots) (hP : va_P D zcl (zwd zW cy ad S) H) (hS : va_S A s.heap H locs) (hl : lv_has la 8 [(0, .ref b), (1, .ref (ad 0)), (2, .ref (ad 54)), (3, .ref (ad 87)), (4, .int (nI i))])
    (kk : ∀ (S' : zS) (H' : Heap) (locs' : List Loc) (la' : Array Slot), Inv S' → va_P D zcl (zwd zW cy ad S') H' → va_S A s.heap H' locs' → lv_has la' 8 [(0, .ref b), (1, .ref (ad 0)), (2, .ref (ad 54)), (3, .ref (ad 87)), (4, .int (nI i))] → W p l e room_1 s m #[Value.ref b] below meth c H' locs' (cells + 1) (slots + 6) Q (F0 m 1896 la' [])) : W p l e room_1 s m #[Value.ref b] below meth c H locs cells slots Q (F0 m 1705 la []) := by
  have hC := C.1
  have hx := hC.1
  have hb := hC.2.1
  have hc0 : cells ≤ room_1.cells ∧ slots ≤ room_1.slots := ⟨by omega, by omega⟩
  obtain ⟨r, M1, M2, m1, m2, hI⟩ := st_wind l hI (xs (i + 1)) (xs (i + 2)) (xs (i + 3)) (xs (i + 4))
  refine lv_aload_n hx hb dL_law_1705 rfl (lv_at hl 1 rfl) ?_
  refine larg (kn := 1) C hS hl (by omega) dL_law_1706 dL_law_1707 dL_law_1709 dL_law_1710 dL_law_1711 rfl rfl rfl rfl rfl rfl ?_
  refine larg (kn := 2) C hS hl (by omega) dL_law_1712 dL_law_1713 dL_law_1715 dL_law_1716 dL_law_1717 rfl rfl rfl rfl rfl rfl ?_
  refine larg (kn := 3) C hS hl (by omega) dL_law_1718 dL_law_1719 dL_law_1721 dL_law_1722 dL_law_1723 rfl rfl rfl rfl rfl rfl ?_
  refine larg (kn := 4) C hS hl (by omega) dL_law_1724 dL_law_1725 dL_law_1727 dL_law_1728 dL_law_1729 rfl rfl rfl rfl rfl rfl ?_
  refine lcallV (mi := mL_law) (yi := mX11_wind) (as := [.int (xs (i + 1)), .int (xs (i + 2)), .int (xs (i + 3)), .int (xs (i + 4))]) (rest := []) hC hP hS hl.1 dL_law_1730 ML_L_213 Yv_X11_wind rfl zW_0 rfl rfl m1 (by decide) (Nat.le_of_ble_eq_true rfl) rfl hc0 rfl (fun H locs hP hS => ?_)
  refine lv_aload_n hx hb dL_law_1733 rfl (lv_at hl 2 rfl) ?_
  refine larg (kn := 1) C hS hl (by omega) dL_law_1734 dL_law_1735 dL_law_1737 dL_law_1738 dL_law_1739 rfl rfl rfl rfl rfl rfl ?_
  refine larg (kn := 2) C hS hl (by omega) dL_law_1740 dL_law_1741 dL_law_1743 dL_law_1744 dL_law_1745 rfl rfl rfl rfl rfl rfl ?_
  refine larg (kn := 3) C hS hl (by omega) dL_law_1746 dL_law_1747 dL_law_1749 dL_law_1750 dL_law_1751 rfl rfl rfl rfl rfl rfl ?_
  refine larg (kn := 4) C hS hl (by omega) dL_law_1752 dL_law_1753 dL_law_1755 dL_law_1756 dL_law_1757 rfl rfl rfl rfl rfl rfl ?_
  refine lcallV (mi := mL_law) (yi := mX12_wind) (as := [.int (xs (i + 1)), .int (xs (i + 2)), .int (xs (i + 3)), .int (xs (i + 4))]) (rest := [.int r]) hC hP hS hl.1 dL_law_1758 ML_L_216 Yv_X12_wind rfl zW_54 rfl rfl m2 (by decide) (Nat.le_of_ble_eq_true rfl) rfl hc0 rfl (fun H locs hP hS => ?_)
  refine lv_icmp_eq (tgt := 1896) hx hb dL_law_1761 (by decide) (fun _ => ?_) (fun z => absurd rfl z)
  exact W.widen (k := cells + 1) (n := slots + 6) (by omega) (by omega) (kk _ H locs la hI hP hS hl)
set_option maxRecDepth 100000 in
set_option maxHeartbeats 4000000 in
theorem lc_keep {p : Program} {l : Launch} {e : Env} {s : State} {m : MethodId} {below : List Frame} {meth : Method} {c : Code} {D : va_G} {cy : Nat → ClassId} {ad : Nat → Nat} {A : Nat → Prop} {b L : Nat} {xs : Nat → Int32} (C : LX p s m meth c D cy ad A b L xs) (hfl : l.stackTraces = false) {S : zS} (hI : Inv S) {i : Nat} (hi : i + 5 ≤ L) {H : Heap} {locs : List Loc} {la : Array Slot} {cells slots : Nat} {Q : State → Prop} (hcs : cells + 1 ≤ room_1.cells ∧ slots + 6 ≤ room_1.slots) (hP : va_P D zcl (zwd zW cy ad S) H) (hS : va_S A s.heap H locs) (hl : lv_has la 8 [(0, .ref b), (1, .ref (ad 0)), (2, .ref (ad 54)), (3, .ref (ad 87)), (4, .int (nI i))])
    (kk : ∀ (S' : zS) (H' : Heap) (locs' : List Loc) (la' : Array Slot), Inv S' → va_P D zcl (zwd zW cy ad S') H' → va_S A s.heap H' locs' → lv_has la' 8 [(0, .ref b), (1, .ref (ad 0)), (2, .ref (ad 54)), (3, .ref (ad 87)), (4, .int (nI i))] → W p l e room_1 s m #[Value.ref b] below meth c H' locs' (cells + 1) (slots + 6) Q (F0 m 1896 la' [])) : W p l e room_1 s m #[Value.ref b] below meth c H locs cells slots Q (F0 m 1766 la []) := by
  have hC := C.1
  have hx := hC.1
  have hb := hC.2.1
  have hc0 : cells ≤ room_1.cells ∧ slots ≤ room_1.slots := ⟨by omega, by omega⟩
  obtain ⟨r, M1, M2, m1, m2, hI⟩ := st_keep l hI (xs (i + 1))
  refine lv_aload_n hx hb dL_law_1766 rfl (lv_at hl 1 rfl) ?_
  refine larg (kn := 1) C hS hl (by omega) dL_law_1767 dL_law_1768 dL_law_1770 dL_law_1771 dL_law_1772 rfl rfl rfl rfl rfl rfl ?_
  refine lcallV (mi := mL_law) (yi := mX11_keep) (as := [.int (xs (i + 1))]) (rest := []) hC hP hS hl.1 dL_law_1773 ML_L_217 Yv_X11_keep rfl zW_0 rfl rfl m1 (by decide) (Nat.le_of_ble_eq_true rfl) rfl hc0 rfl (fun H locs hP hS => ?_)
  refine lv_aload_n hx hb dL_law_1776 rfl (lv_at hl 2 rfl) ?_
  refine larg (kn := 1) C hS hl (by omega) dL_law_1777 dL_law_1778 dL_law_1780 dL_law_1781 dL_law_1782 rfl rfl rfl rfl rfl rfl ?_
  refine lcallV (mi := mL_law) (yi := mX12_keep) (as := [.int (xs (i + 1))]) (rest := [.int r]) hC hP hS hl.1 dL_law_1783 ML_L_220 Yv_X12_keep rfl zW_54 rfl rfl m2 (by decide) (Nat.le_of_ble_eq_true rfl) rfl hc0 rfl (fun H locs hP hS => ?_)
  refine lv_icmp_eq (tgt := 1896) hx hb dL_law_1786 (by decide) (fun _ => ?_) (fun z => absurd rfl z)
  exact W.widen (k := cells + 1) (n := slots + 6) (by omega) (by omega) (kk _ H locs la hI hP hS hl)
set_option maxRecDepth 100000 in
set_option maxHeartbeats 4000000 in
theorem lc_again {p : Program} {l : Launch} {e : Env} {s : State} {m : MethodId} {below : List Frame} {meth : Method} {c : Code} {D : va_G} {cy : Nat → ClassId} {ad : Nat → Nat} {A : Nat → Prop} {b L : Nat} {xs : Nat → Int32} (C : LX p s m meth c D cy ad A b L xs) (hfl : l.stackTraces = false) {S : zS} (hI : Inv S) {i : Nat} (hi : i + 5 ≤ L) {H : Heap} {locs : List Loc} {la : Array Slot} {cells slots : Nat} {Q : State → Prop} (hcs : cells + 1 ≤ room_1.cells ∧ slots + 6 ≤ room_1.slots) (hP : va_P D zcl (zwd zW cy ad S) H) (hS : va_S A s.heap H locs) (hl : lv_has la 8 [(0, .ref b), (1, .ref (ad 0)), (2, .ref (ad 54)), (3, .ref (ad 87)), (4, .int (nI i))])
    (kk : ∀ (S' : zS) (H' : Heap) (locs' : List Loc) (la' : Array Slot), Inv S' → va_P D zcl (zwd zW cy ad S') H' → va_S A s.heap H' locs' → lv_has la' 8 [(0, .ref b), (1, .ref (ad 0)), (2, .ref (ad 54)), (3, .ref (ad 87)), (4, .int (nI i))] → W p l e room_1 s m #[Value.ref b] below meth c H' locs' (cells + 1) (slots + 6) Q (F0 m 1896 la' [])) : W p l e room_1 s m #[Value.ref b] below meth c H locs cells slots Q (F0 m 1791 la []) := by
  have hC := C.1
  have hx := hC.1
  have hb := hC.2.1
  have hc0 : cells ≤ room_1.cells ∧ slots ≤ room_1.slots := ⟨by omega, by omega⟩
  obtain ⟨r, M1, M2, m1, m2, hI⟩ := st_again l hI (xs (i + 1))
  refine lv_aload_n hx hb dL_law_1791 rfl (lv_at hl 1 rfl) ?_
  refine larg (kn := 1) C hS hl (by omega) dL_law_1792 dL_law_1793 dL_law_1795 dL_law_1796 dL_law_1797 rfl rfl rfl rfl rfl rfl ?_
  refine lcallV (mi := mL_law) (yi := mX11_again) (as := [.int (xs (i + 1))]) (rest := []) hC hP hS hl.1 dL_law_1798 ML_L_221 Yv_X11_again rfl zW_0 rfl rfl m1 (by decide) (Nat.le_of_ble_eq_true rfl) rfl hc0 rfl (fun H locs hP hS => ?_)
  refine lv_aload_n hx hb dL_law_1801 rfl (lv_at hl 2 rfl) ?_
  refine larg (kn := 1) C hS hl (by omega) dL_law_1802 dL_law_1803 dL_law_1805 dL_law_1806 dL_law_1807 rfl rfl rfl rfl rfl rfl ?_
  refine lcallV (mi := mL_law) (yi := mX12_again) (as := [.int (xs (i + 1))]) (rest := [.int r]) hC hP hS hl.1 dL_law_1808 ML_L_224 Yv_X12_again rfl zW_54 rfl rfl m2 (by decide) (Nat.le_of_ble_eq_true rfl) rfl hc0 rfl (fun H locs hP hS => ?_)
  refine lv_icmp_eq (tgt := 1896) hx hb dL_law_1811 (by decide) (fun _ => ?_) (fun z => absurd rfl z)
  exact W.widen (k := cells + 1) (n := slots + 6) (by omega) (by omega) (kk _ H locs la hI hP hS hl)
set_option maxRecDepth 100000 in
set_option maxHeartbeats 4000000 in
theorem lc_count {p : Program} {l : Launch} {e : Env} {s : State} {m : MethodId} {below : List Frame} {meth : Method} {c : Code} {D : va_G} {cy : Nat → ClassId} {ad : Nat → Nat} {A : Nat → Prop} {b L : Nat} {xs : Nat → Int32} (C : LX p s m meth c D cy ad A b L xs) (hfl : l.stackTraces = false) {S : zS} (hI : Inv S) {i : Nat} (hi : i + 5 ≤ L) {H : Heap} {locs : List Loc} {la : Array Slot} {cells slots : Nat} {Q : State → Prop} (hcs : cells + 1 ≤ room_1.cells ∧ slots + 6 ≤ room_1.slots) (hP : va_P D zcl (zwd zW cy ad S) H) (hS : va_S A s.heap H locs) (hl : lv_has la 8 [(0, .ref b), (1, .ref (ad 0)), (2, .ref (ad 54)), (3, .ref (ad 87)), (4, .int (nI i))])
    (kk : ∀ (S' : zS) (H' : Heap) (locs' : List Loc) (la' : Array Slot), Inv S' → va_P D zcl (zwd zW cy ad S') H' → va_S A s.heap H' locs' → lv_has la' 8 [(0, .ref b), (1, .ref (ad 0)), (2, .ref (ad 54)), (3, .ref (ad 87)), (4, .int (nI i))] → W p l e room_1 s m #[Value.ref b] below meth c H' locs' (cells + 1) (slots + 6) Q (F0 m 1896 la' [])) : W p l e room_1 s m #[Value.ref b] below meth c H locs cells slots Q (F0 m 1816 la []) := by
  have hC := C.1
  have hx := hC.1
  have hb := hC.2.1
  have hc0 : cells ≤ room_1.cells ∧ slots ≤ room_1.slots := ⟨by omega, by omega⟩
  obtain ⟨r, M1, M2, m1, m2, hI⟩ := st_count l hI (xs (i + 1))
  refine lv_aload_n hx hb dL_law_1816 rfl (lv_at hl 1 rfl) ?_
  refine larg (kn := 1) C hS hl (by omega) dL_law_1817 dL_law_1818 dL_law_1820 dL_law_1821 dL_law_1822 rfl rfl rfl rfl rfl rfl ?_
  refine lcallV (mi := mL_law) (yi := mX11_count) (as := [.int (xs (i + 1))]) (rest := []) hC hP hS hl.1 dL_law_1823 ML_L_225 Yv_X11_count rfl zW_0 rfl rfl m1 (by decide) (Nat.le_of_ble_eq_true rfl) rfl hc0 rfl (fun H locs hP hS => ?_)
  refine lv_aload_n hx hb dL_law_1826 rfl (lv_at hl 2 rfl) ?_
  refine larg (kn := 1) C hS hl (by omega) dL_law_1827 dL_law_1828 dL_law_1830 dL_law_1831 dL_law_1832 rfl rfl rfl rfl rfl rfl ?_
  refine lcallV (mi := mL_law) (yi := mX12_count) (as := [.int (xs (i + 1))]) (rest := [.int r]) hC hP hS hl.1 dL_law_1833 ML_L_228 Yv_X12_count rfl zW_54 rfl rfl m2 (by decide) (Nat.le_of_ble_eq_true rfl) rfl hc0 rfl (fun H locs hP hS => ?_)
  refine lv_icmp_eq (tgt := 1896) hx hb dL_law_1836 (by decide) (fun _ => ?_) (fun z => absurd rfl z)
  exact W.widen (k := cells + 1) (n := slots + 6) (by omega) (by omega) (kk _ H locs la hI hP hS hl)
set_option maxRecDepth 100000 in
set_option maxHeartbeats 4000000 in
theorem lc_row {p : Program} {l : Launch} {e : Env} {s : State} {m : MethodId} {below : List Frame} {meth : Method} {c : Code} {D : va_G} {cy : Nat → ClassId} {ad : Nat → Nat} {A : Nat → Prop} {b L : Nat} {xs : Nat → Int32} (C : LX p s m meth c D cy ad A b L xs) (hfl : l.stackTraces = false) {S : zS} (hI : Inv S) {i : Nat} (hi : i + 5 ≤ L) {H : Heap} {locs : List Loc} {la : Array Slot} {cells slots : Nat} {Q : State → Prop} (hcs : cells + 1 ≤ room_1.cells ∧ slots + 6 ≤ room_1.slots) (hP : va_P D zcl (zwd zW cy ad S) H) (hS : va_S A s.heap H locs) (hl : lv_has la 8 [(0, .ref b), (1, .ref (ad 0)), (2, .ref (ad 54)), (3, .ref (ad 87)), (4, .int (nI i))])
    (kk : ∀ (S' : zS) (H' : Heap) (locs' : List Loc) (la' : Array Slot), Inv S' → va_P D zcl (zwd zW cy ad S') H' → va_S A s.heap H' locs' → lv_has la' 8 [(0, .ref b), (1, .ref (ad 0)), (2, .ref (ad 54)), (3, .ref (ad 87)), (4, .int (nI i))] → W p l e room_1 s m #[Value.ref b] below meth c H' locs' (cells + 1) (slots + 6) Q (F0 m 1896 la' [])) : W p l e room_1 s m #[Value.ref b] below meth c H locs cells slots Q (F0 m 1841 la []) := by
  have hC := C.1
  have hx := hC.1
  have hb := hC.2.1
  have hc0 : cells ≤ room_1.cells ∧ slots ≤ room_1.slots := ⟨by omega, by omega⟩
  obtain ⟨k, bb, S1, M2, M3, m1, m2, m3, hout, hI⟩ := st_row l hfl hI (xs (i + 1))
  refine lv_aload_n hx hb dL_law_1841 rfl (lv_at hl 1 rfl) ?_
  refine larg (kn := 1) C hS hl (by omega) dL_law_1842 dL_law_1843 dL_law_1845 dL_law_1846 dL_law_1847 rfl rfl rfl rfl rfl rfl ?_
  refine lv_aload_n hx hb dL_law_1848 rfl (lv_at hl 3 rfl) ?_
  refine lcallW (n := 3) (mi := mL_law) (yi := mL_row) (as := [.ref 0, .int (xs (i + 1)), .ref 87]) (rest := []) hC C.2.1 hP hS hl.1 dL_law_1849 CK_row CS_row C_RL CW_row ⟨by decide, by decide, by decide⟩ (by decide) rfl m1 (by decide) (Nat.le_of_ble_eq_true rfl) rfl hcs rfl (fun H locs hP hS => ?_)
  refine lv_istore (lv' := (5, .int k) :: [(0, .ref b), (1, .ref (ad 0)), (2, .ref (ad 54)), (3, .ref (ad 87)), (4, .int (nI i))]) hx hb dL_law_1852 hl (by decide) rfl (fun la hl5 => ?_)
  have hl := lv_sub (l' := [(0, .ref b), (1, .ref (ad 0)), (2, .ref (ad 54)), (3, .ref (ad 87)), (4, .int (nI i))]) hl5 [1, 2, 3, 4, 5] rfl
  refine lv_aload_n hx hb dL_law_1854 rfl (lv_at hl 2 rfl) ?_
  refine larg (kn := 1) C hS hl (by omega) dL_law_1855 dL_law_1856 dL_law_1858 dL_law_1859 dL_law_1860 rfl rfl rfl rfl rfl rfl ?_
  refine lcallV (mi := mL_law) (yi := mX12_row) (as := [.int (xs (i + 1))]) (rest := []) hC hP hS hl.1 dL_law_1861 ML_L_232 Yv_X12_row rfl zW_54 rfl rfl m2 (by decide) (Nat.le_of_ble_eq_true rfl) rfl hcs rfl (fun H locs hP hS => ?_)
  refine lv_lstore (lv' := (6, .long bb) :: (5, .int k) :: [(0, .ref b), (1, .ref (ad 0)), (2, .ref (ad 54)), (3, .ref (ad 87)), (4, .int (nI i))]) hx hb dL_law_1864 hl5 (by decide) rfl (fun la hl6 => ?_)
  have hl := lv_sub (l' := [(0, .ref b), (1, .ref (ad 0)), (2, .ref (ad 54)), (3, .ref (ad 87)), (4, .int (nI i))]) hl6 [2, 3, 4, 5, 6] rfl
  refine lv_aload_n hx hb dL_law_1866 rfl (lv_at hl 2 rfl) ?_
  refine lcallV (mi := mL_law) (yi := mX12_thrown) (as := []) (rest := []) hC hP hS hl.1 dL_law_1867 ML_L_66 Yv_X12_thrown rfl zW_54 rfl rfl m3 (by decide) (Nat.le_of_ble_eq_true rfl) rfl hcs rfl (fun H locs hP hS => ?_)
  refine lv_iload hx hb dL_law_1870 (lv_at hl6 1 rfl) ?_
  refine lv_icmp_eq (tgt := 1877) hx hb dL_law_1872 (by decide) (fun _ => ?_) (fun z => absurd rfl z)
  refine lv_iload hx hb dL_law_1877 (lv_at hl6 1 rfl) ?_
  have hend : W p l e room_1 s m #[Value.ref b] below meth c H locs (cells + 1) (slots + 6) Q (F0 m 1893 la []) := by
    refine lv_goto (tgt := 1896) hx hb dL_law_1893 (by decide) ?_
    exact kk _ H locs la hI hP hS hl
  refine lv_if_ne (tgt := 1893) hx hb dL_law_1879 (by decide) (fun _ => hend) (fun hk => ?_)
  refine lv_aload_n hx hb dL_law_1882 rfl (lv_at hl 3 rfl) ?_
  refine lv_iconst (v := 0) hx hb dL_law_1883 (by decide) ?_
  refine va_lald hx hb hC.2.2.2.2.2.2.2.2.1 hP 87 1 (zwd_at zW_87) rfl (ix_in (i := 0) (n := 1) (by decide)) dL_law_1884 ?_
  refine lv_lload hx hb dL_law_1885 (lv_at hl6 0 rfl) ?_
  refine W.lcmp hx hb dL_law_1887 ?_
  have e0 : lg_cmp ((zap (zap S1 M2) M3).2.2 87 (0 : Int32).toNatClampNeg) bb = 0 := by
    rw [show (0 : Int32).toNatClampNeg = 0 from rfl, hout hk]
    exact lg_self _
  refine lv_if_eq (tgt := 1893) hx hb dL_law_1888 (by decide) (fun _ => hend) (fun z => absurd e0 z)
