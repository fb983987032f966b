/-! THE LAW, further cases -/
set_option maxRecDepth 100000 in
set_option maxHeartbeats 4000000 in
theorem lc_jump {p : Program} {l : Launch} {e : Env} {s : State} {m : MethodId} {below : List Frame} {meth : Method} {c : Code} {D : va_G} {cy : Nat → ClassId} {ad : Nat → Nat} {A : Nat → Prop} {b L : Nat} {xs : Nat → Int32} (C : LX p s m meth c D cy ad A b L xs) (hfl : l.stackTraces = false) {S : zS} (hI : Inv S) {i : Nat} (hi : i + 5 ≤ L) {H : Heap} {locs : List Loc} {la : Array Slot} {cells slots : Nat} {Q : State → Prop} (hcs : cells + 1 ≤ room_1.cells ∧ slots + 6 ≤ room_1.slots) (hP : va_P D zcl (zwd zW cy ad S) H) (hS : va_S A s.heap H locs) (hl : lv_has la 8 [(0, .ref b), (1, .ref (ad 0)), (2, .ref (ad 54)), (3, .ref (ad 87)), (4, .int (nI i))])
    (kk : ∀ (S' : zS) (H' : Heap) (locs' : List Loc) (la' : Array Slot), Inv S' → va_P D zcl (zwd zW cy ad S') H' → va_S A s.heap H' locs' → lv_has la' 8 [(0, .ref b), (1, .ref (ad 0)), (2, .ref (ad 54)), (3, .ref (ad 87)), (4, .int (nI i))] → W p l e room_1 s m #[Value.ref b] below meth c H' locs' (cells + 1) (slots + 6) Q (F0 m 1896 la' [])) : W p l e room_1 s m #[Value.ref b] below meth c H locs cells slots Q (F0 m 659 la []) := by
  have hC := C.1
  have hx := hC.1
  have hb := hC.2.1
  have hc0 : cells ≤ room_1.cells ∧ slots ≤ room_1.slots := ⟨by omega, by omega⟩
  obtain ⟨r, M1, M2, m1, m2, hI⟩ := st_jump l hI (xs (i + 1)) (xs (i + 2)) (xs (i + 3))
  refine lv_aload_n hx hb dL_law_659 rfl (lv_at hl 1 rfl) ?_
  refine larg (kn := 1) C hS hl (by omega) dL_law_660 dL_law_661 dL_law_663 dL_law_664 dL_law_665 rfl rfl rfl rfl rfl rfl ?_
  refine larg (kn := 2) C hS hl (by omega) dL_law_666 dL_law_667 dL_law_669 dL_law_670 dL_law_671 rfl rfl rfl rfl rfl rfl ?_
  refine larg (kn := 3) C hS hl (by omega) dL_law_672 dL_law_673 dL_law_675 dL_law_676 dL_law_677 rfl rfl rfl rfl rfl rfl ?_
  refine lcallV (mi := mL_law) (yi := mX11_jump) (as := [.int (xs (i + 1)), .int (xs (i + 2)), .int (xs (i + 3))]) (rest := []) hC hP hS hl.1 dL_law_678 ML_L_89 Yv_X11_jump rfl zW_0 rfl rfl m1 (by decide) (Nat.le_of_ble_eq_true rfl) rfl hc0 rfl (fun H locs hP hS => ?_)
  refine lv_aload_n hx hb dL_law_681 rfl (lv_at hl 2 rfl) ?_
  refine larg (kn := 1) C hS hl (by omega) dL_law_682 dL_law_683 dL_law_685 dL_law_686 dL_law_687 rfl rfl rfl rfl rfl rfl ?_
  refine larg (kn := 2) C hS hl (by omega) dL_law_688 dL_law_689 dL_law_691 dL_law_692 dL_law_693 rfl rfl rfl rfl rfl rfl ?_
  refine larg (kn := 3) C hS hl (by omega) dL_law_694 dL_law_695 dL_law_697 dL_law_698 dL_law_699 rfl rfl rfl rfl rfl rfl ?_
  refine lcallV (mi := mL_law) (yi := mX12_jump) (as := [.int (xs (i + 1)), .int (xs (i + 2)), .int (xs (i + 3))]) (rest := [.int r]) hC hP hS hl.1 dL_law_700 ML_L_93 Yv_X12_jump rfl zW_54 rfl rfl m2 (by decide) (Nat.le_of_ble_eq_true rfl) rfl hc0 rfl (fun H locs hP hS => ?_)
  refine lv_icmp_eq (tgt := 1896) hx hb dL_law_703 (by decide) (fun _ => ?_) (fun z => absurd rfl z)
  exact W.widen (k := cells + 1) (n := slots + 6) (by omega) (by omega) (kk _ H locs la hI hP hS hl)
set_option maxRecDepth 100000 in
set_option maxHeartbeats 4000000 in
theorem lc_strides {p : Program} {l : Launch} {e : Env} {s : State} {m : MethodId} {below : List Frame} {meth : Method} {c : Code} {D : va_G} {cy : Nat → ClassId} {ad : Nat → Nat} {A : Nat → Prop} {b L : Nat} {xs : Nat → Int32} (C : LX p s m meth c D cy ad A b L xs) (hfl : l.stackTraces = false) {S : zS} (hI : Inv S) {i : Nat} (hi : i + 5 ≤ L) {H : Heap} {locs : List Loc} {la : Array Slot} {cells slots : Nat} {Q : State → Prop} (hcs : cells + 1 ≤ room_1.cells ∧ slots + 6 ≤ room_1.slots) (hP : va_P D zcl (zwd zW cy ad S) H) (hS : va_S A s.heap H locs) (hl : lv_has la 8 [(0, .ref b), (1, .ref (ad 0)), (2, .ref (ad 54)), (3, .ref (ad 87)), (4, .int (nI i))])
    (kk : ∀ (S' : zS) (H' : Heap) (locs' : List Loc) (la' : Array Slot), Inv S' → va_P D zcl (zwd zW cy ad S') H' → va_S A s.heap H' locs' → lv_has la' 8 [(0, .ref b), (1, .ref (ad 0)), (2, .ref (ad 54)), (3, .ref (ad 87)), (4, .int (nI i))] → W p l e room_1 s m #[Value.ref b] below meth c H' locs' (cells + 1) (slots + 6) Q (F0 m 1896 la' [])) : W p l e room_1 s m #[Value.ref b] below meth c H locs cells slots Q (F0 m 708 la []) := by
  have hC := C.1
  have hx := hC.1
  have hb := hC.2.1
  have hc0 : cells ≤ room_1.cells ∧ slots ≤ room_1.slots := ⟨by omega, by omega⟩
  obtain ⟨r, M1, M2, m1, m2, hI⟩ := st_strides l hI (xs (i + 1)) (xs (i + 2))
  refine lv_aload_n hx hb dL_law_708 rfl (lv_at hl 1 rfl) ?_
  refine larg (kn := 1) C hS hl (by omega) dL_law_709 dL_law_710 dL_law_712 dL_law_713 dL_law_714 rfl rfl rfl rfl rfl rfl ?_
  refine larg (kn := 2) C hS hl (by omega) dL_law_715 dL_law_716 dL_law_718 dL_law_719 dL_law_720 rfl rfl rfl rfl rfl rfl ?_
  refine lcallV (mi := mL_law) (yi := mX11_strides) (as := [.int (xs (i + 1)), .int (xs (i + 2))]) (rest := []) hC hP hS hl.1 dL_law_721 ML_L_94 Yv_X11_strides rfl zW_0 rfl rfl m1 (by decide) (Nat.le_of_ble_eq_true rfl) rfl hc0 rfl (fun H locs hP hS => ?_)
  refine lv_aload_n hx hb dL_law_724 rfl (lv_at hl 2 rfl) ?_
  refine larg (kn := 1) C hS hl (by omega) dL_law_725 dL_law_726 dL_law_728 dL_law_729 dL_law_730 rfl rfl rfl rfl rfl rfl ?_
  refine larg (kn := 2) C hS hl (by omega) dL_law_731 dL_law_732 dL_law_734 dL_law_735 dL_law_736 rfl rfl rfl rfl rfl rfl ?_
  refine lcallV (mi := mL_law) (yi := mX12_strides) (as := [.int (xs (i + 1)), .int (xs (i + 2))]) (rest := [.int r]) hC hP hS hl.1 dL_law_737 ML_L_97 Yv_X12_strides rfl zW_54 rfl rfl m2 (by decide) (Nat.le_of_ble_eq_true rfl) rfl hc0 rfl (fun H locs hP hS => ?_)
  refine lv_icmp_eq (tgt := 1896) hx hb dL_law_740 (by decide) (fun _ => ?_) (fun z => absurd rfl z)
  exact W.widen (k := cells + 1) (n := slots + 6) (by omega) (by omega) (kk _ H locs la hI hP hS hl)
set_option maxRecDepth 100000 in
set_option maxHeartbeats 4000000 in
theorem lc_calm {p : Program} {l : Launch} {e : Env} {s : State} {m : MethodId} {below : List Frame} {meth : Method} {c : Code} {D : va_G} {cy : Nat → ClassId} {ad : Nat → Nat} {A : Nat → Prop} {b L : Nat} {xs : Nat → Int32} (C : LX p s m meth c D cy ad A b L xs) (hfl : l.stackTraces = false) {S : zS} (hI : Inv S) {i : Nat} (hi : i + 5 ≤ L) {H : Heap} {locs : List Loc} {la : Array Slot} {cells slots : Nat} {Q : State → Prop} (hcs : cells + 1 ≤ room_1.cells ∧ slots + 6 ≤ room_1.slots) (hP : va_P D zcl (zwd zW cy ad S) H) (hS : va_S A s.heap H locs) (hl : lv_has la 8 [(0, .ref b), (1, .ref (ad 0)), (2, .ref (ad 54)), (3, .ref (ad 87)), (4, .int (nI i))])
    (kk : ∀ (S' : zS) (H' : Heap) (locs' : List Loc) (la' : Array Slot), Inv S' → va_P D zcl (zwd zW cy ad S') H' → va_S A s.heap H' locs' → lv_has la' 8 [(0, .ref b), (1, .ref (ad 0)), (2, .ref (ad 54)), (3, .ref (ad 87)), (4, .int (nI i))] → W p l e room_1 s m #[Value.ref b] below meth c H' locs' (cells + 1) (slots + 6) Q (F0 m 1896 la' [])) : W p l e room_1 s m #[Value.ref b] below meth c H locs cells slots Q (F0 m 745 la []) := by
  have hC := C.1
  have hx := hC.1
  have hb := hC.2.1
  have hc0 : cells ≤ room_1.cells ∧ slots ≤ room_1.slots := ⟨by omega, by omega⟩
  obtain ⟨r, M1, M2, m1, m2, hI⟩ := st_calm l hI (xs (i + 1)) (xs (i + 2))
  refine lv_aload_n hx hb dL_law_745 rfl (lv_at hl 1 rfl) ?_
  refine larg (kn := 1) C hS hl (by omega) dL_law_746 dL_law_747 dL_law_749 dL_law_750 dL_law_751 rfl rfl rfl rfl rfl rfl ?_
  refine larg (kn := 2) C hS hl (by omega) dL_law_752 dL_law_753 dL_law_755 dL_law_756 dL_law_757 rfl rfl rfl rfl rfl rfl ?_
  refine lcallV (mi := mL_law) (yi := mX11_calm) (as := [.int (xs (i + 1)), .int (xs (i + 2))]) (rest := []) hC hP hS hl.1 dL_law_758 ML_L_98 Yv_X11_calm rfl zW_0 rfl rfl m1 (by decide) (Nat.le_of_ble_eq_true rfl) rfl hc0 rfl (fun H locs hP hS => ?_)
  refine lv_aload_n hx hb dL_law_761 rfl (lv_at hl 2 rfl) ?_
  refine larg (kn := 1) C hS hl (by omega) dL_law_762 dL_law_763 dL_law_765 dL_law_766 dL_law_767 rfl rfl rfl rfl rfl rfl ?_
  refine larg (kn := 2) C hS hl (by omega) dL_law_768 dL_law_769 dL_law_771 dL_law_772 dL_law_773 rfl rfl rfl rfl rfl rfl ?_
  refine lcallV (mi := mL_law) (yi := mX12_calm) (as := [.int (xs (i + 1)), .int (xs (i + 2))]) (rest := [.int r]) hC hP hS hl.1 dL_law_774 ML_L_101 Yv_X12_calm rfl zW_54 rfl rfl m2 (by decide) (Nat.le_of_ble_eq_true rfl) rfl hc0 rfl (fun H locs hP hS => ?_)
  refine lv_icmp_eq (tgt := 1896) hx hb dL_law_777 (by decide) (fun _ => ?_) (fun z => absurd rfl z)
  exact W.widen (k := cells + 1) (n := slots + 6) (by omega) (by omega) (kk _ H locs la hI hP hS hl)
set_option maxRecDepth 100000 in
set_option maxHeartbeats 4000000 in
theorem lc_fear {p : Program} {l : Launch} {e : Env} {s : State} {m : MethodId} {below : List Frame} {meth : Method} {c : Code} {D : va_G} {cy : Nat → ClassId} {ad : Nat → Nat} {A : Nat → Prop} {b L : Nat} {xs : Nat → Int32} (C : LX p s m meth c D cy ad A b L xs) (hfl : l.stackTraces = false) {S : zS} (hI : Inv S) {i : Nat} (hi : i + 5 ≤ L) {H : Heap} {locs : List Loc} {la : Array Slot} {cells slots : Nat} {Q : State → Prop} (hcs : cells + 1 ≤ room_1.cells ∧ slots + 6 ≤ room_1.slots) (hP : va_P D zcl (zwd zW cy ad S) H) (hS : va_S A s.heap H locs) (hl : lv_has la 8 [(0, .ref b), (1, .ref (ad 0)), (2, .ref (ad 54)), (3, .ref (ad 87)), (4, .int (nI i))])
    (kk : ∀ (S' : zS) (H' : Heap) (locs' : List Loc) (la' : Array Slot), Inv S' → va_P D zcl (zwd zW cy ad S') H' → va_S A s.heap H' locs' → lv_has la' 8 [(0, .ref b), (1, .ref (ad 0)), (2, .ref (ad 54)), (3, .ref (ad 87)), (4, .int (nI i))] → W p l e room_1 s m #[Value.ref b] below meth c H' locs' (cells + 1) (slots + 6) Q (F0 m 1896 la' [])) : W p l e room_1 s m #[Value.ref b] below meth c H locs cells slots Q (F0 m 782 la []) := by
  have hC := C.1
  have hx := hC.1
  have hb := hC.2.1
  have hc0 : cells ≤ room_1.cells ∧ slots ≤ room_1.slots := ⟨by omega, by omega⟩
  obtain ⟨r, M1, M2, m1, m2, hI⟩ := st_fear l hI (xs (i + 1)) (xs (i + 2))
  refine lv_aload_n hx hb dL_law_782 rfl (lv_at hl 1 rfl) ?_
  refine larg (kn := 1) C hS hl (by omega) dL_law_783 dL_law_784 dL_law_786 dL_law_787 dL_law_788 rfl rfl rfl rfl rfl rfl ?_
  refine larg (kn := 2) C hS hl (by omega) dL_law_789 dL_law_790 dL_law_792 dL_law_793 dL_law_794 rfl rfl rfl rfl rfl rfl ?_
  refine lcallV (mi := mL_law) (yi := mX11_fear) (as := [.int (xs (i + 1)), .int (xs (i + 2))]) (rest := []) hC hP hS hl.1 dL_law_795 ML_L_102 Yv_X11_fear rfl zW_0 rfl rfl m1 (by decide) (Nat.le_of_ble_eq_true rfl) rfl hc0 rfl (fun H locs hP hS => ?_)
  refine lv_aload_n hx hb dL_law_798 rfl (lv_at hl 2 rfl) ?_
  refine larg (kn := 1) C hS hl (by omega) dL_law_799 dL_law_800 dL_law_802 dL_law_803 dL_law_804 rfl rfl rfl rfl rfl rfl ?_
  refine larg (kn := 2) C hS hl (by omega) dL_law_805 dL_law_806 dL_law_808 dL_law_809 dL_law_810 rfl rfl rfl rfl rfl rfl ?_
  refine lcallV (mi := mL_law) (yi := mX12_fear) (as := [.int (xs (i + 1)), .int (xs (i + 2))]) (rest := [.int r]) hC hP hS hl.1 dL_law_811 ML_L_105 Yv_X12_fear rfl zW_54 rfl rfl m2 (by decide) (Nat.le_of_ble_eq_true rfl) rfl hc0 rfl (fun H locs hP hS => ?_)
  refine lv_icmp_eq (tgt := 1896) hx hb dL_law_814 (by decide) (fun _ => ?_) (fun z => absurd rfl z)
  exact W.widen (k := cells + 1) (n := slots + 6) (by omega) (by omega) (kk _ H locs la hI hP hS hl)
set_option maxRecDepth 100000 in
set_option maxHeartbeats 4000000 in
theorem lc_falls {p : Program} {l : Launch} {e : Env} {s : State} {m : MethodId} {below : List Frame} {meth : Method} {c : Code} {D : va_G} {cy : Nat → ClassId} {ad : Nat → Nat} {A : Nat → Prop} {b L : Nat} {xs : Nat → Int32} (C : LX p s m meth c D cy ad A b L xs) (hfl : l.stackTraces = false) {S : zS} (hI : Inv S) {i : Nat} (hi : i + 5 ≤ L) {H : Heap} {locs : List Loc} {la : Array Slot} {cells slots : Nat} {Q : State → Prop} (hcs : cells + 1 ≤ room_1.cells ∧ slots + 6 ≤ room_1.slots) (hP : va_P D zcl (zwd zW cy ad S) H) (hS : va_S A s.heap H locs) (hl : lv_has la 8 [(0, .ref b), (1, .ref (ad 0)), (2, .ref (ad 54)), (3, .ref (ad 87)), (4, .int (nI i))])
    (kk : ∀ (S' : zS) (H' : Heap) (locs' : List Loc) (la' : Array Slot), Inv S' → va_P D zcl (zwd zW cy ad S') H' → va_S A s.heap H' locs' → lv_has la' 8 [(0, .ref b), (1, .ref (ad 0)), (2, .ref (ad 54)), (3, .ref (ad 87)), (4, .int (nI i))] → W p l e room_1 s m #[Value.ref b] below meth c H' locs' (cells + 1) (slots + 6) Q (F0 m 1896 la' [])) : W p l e room_1 s m #[Value.ref b] below meth c H locs cells slots Q (F0 m 819 la []) := by
  have hC := C.1
  have hx := hC.1
  have hb := hC.2.1
  have hc0 : cells ≤ room_1.cells ∧ slots ≤ room_1.slots := ⟨by omega, by omega⟩
  obtain ⟨r, M1, M2, m1, m2, hI⟩ := st_falls l hI (xs (i + 1)) (xs (i + 2))
  refine lv_aload_n hx hb dL_law_819 rfl (lv_at hl 1 rfl) ?_
  refine larg (kn := 1) C hS hl (by omega) dL_law_820 dL_law_821 dL_law_823 dL_law_824 dL_law_825 rfl rfl rfl rfl rfl rfl ?_
  refine larg (kn := 2) C hS hl (by omega) dL_law_826 dL_law_827 dL_law_829 dL_law_830 dL_law_831 rfl rfl rfl rfl rfl rfl ?_
  refine lcallV (mi := mL_law) (yi := mX11_falls) (as := [.int (xs (i + 1)), .int (xs (i + 2))]) (rest := []) hC hP hS hl.1 dL_law_832 ML_L_106 Yv_X11_falls rfl zW_0 rfl rfl m1 (by decide) (Nat.le_of_ble_eq_true rfl) rfl hc0 rfl (fun H locs hP hS => ?_)
  refine lv_aload_n hx hb dL_law_835 rfl (lv_at hl 2 rfl) ?_
  refine larg (kn := 1) C hS hl (by omega) dL_law_836 dL_law_837 dL_law_839 dL_law_840 dL_law_841 rfl rfl rfl rfl rfl rfl ?_
  refine larg (kn := 2) C hS hl (by omega) dL_law_842 dL_law_843 dL_law_845 dL_law_846 dL_law_847 rfl rfl rfl rfl rfl rfl ?_
  refine lcallV (mi := mL_law) (yi := mX12_falls) (as := [.int (xs (i + 1)), .int (xs (i + 2))]) (rest := [.int r]) hC hP hS hl.1 dL_law_848 ML_L_109 Yv_X12_falls rfl zW_54 rfl rfl m2 (by decide) (Nat.le_of_ble_eq_true rfl) rfl hc0 rfl (fun H locs hP hS => ?_)
  refine lv_icmp_eq (tgt := 1896) hx hb dL_law_851 (by decide) (fun _ => ?_) (fun z => absurd rfl z)
  exact W.widen (k := cells + 1) (n := slots + 6) (by omega) (by omega) (kk _ H locs la hI hP hS hl)
set_option maxRecDepth 100000 in
set_option maxHeartbeats 4000000 in
theorem lc_poles {p : Program} {l : Launch} {e : Env} {s : State} {m : MethodId} {below : List Frame} {meth : Method} {c : Code} {D : va_G} {cy : Nat → ClassId} {ad : Nat → Nat} {A : Nat → Prop} {b L : Nat} {xs : Nat → Int32} (C : LX p s m meth c D cy ad A b L xs) (hfl : l.stackTraces = false) {S : zS} (hI : Inv S) {i : Nat} (hi : i + 5 ≤ L) {H : Heap} {locs : List Loc} {la : Array Slot} {cells slots : Nat} {Q : State → Prop} (hcs : cells + 1 ≤ room_1.cells ∧ slots + 6 ≤ room_1.slots) (hP : va_P D zcl (zwd zW cy ad S) H) (hS : va_S A s.heap H locs) (hl : lv_has la 8 [(0, .ref b), (1, .ref (ad 0)), (2, .ref (ad 54)), (3, .ref (ad 87)), (4, .int (nI i))])
    (kk : ∀ (S' : zS) (H' : Heap) (locs' : List Loc) (la' : Array Slot), Inv S' → va_P D zcl (zwd zW cy ad S') H' → va_S A s.heap H' locs' → lv_has la' 8 [(0, .ref b), (1, .ref (ad 0)), (2, .ref (ad 54)), (3, .ref (ad 87)), (4, .int (nI i))] → W p l e room_1 s m #[Value.ref b] below meth c H' locs' (cells + 1) (slots + 6) Q (F0 m 1896 la' [])) : W p l e room_1 s m #[Value.ref b] below meth c H locs cells slots Q (F0 m 856 la []) := by
  have hC := C.1
  have hx := hC.1
  have hb := hC.2.1
  have hc0 : cells ≤ room_1.cells ∧ slots ≤ room_1.slots := ⟨by omega, by omega⟩
  obtain ⟨r, M1, M2, m1, m2, hI⟩ := st_poles l hI (xs (i + 1)) (xs (i + 2)) (xs (i + 3))
  refine lv_aload_n hx hb dL_law_856 rfl (lv_at hl 1 rfl) ?_
  refine larg (kn := 1) C hS hl (by omega) dL_law_857 dL_law_858 dL_law_860 dL_law_861 dL_law_862 rfl rfl rfl rfl rfl rfl ?_
  refine larg (kn := 2) C hS hl (by omega) dL_law_863 dL_law_864 dL_law_866 dL_law_867 dL_law_868 rfl rfl rfl rfl rfl rfl ?_
  refine larg (kn := 3) C hS hl (by omega) dL_law_869 dL_law_870 dL_law_872 dL_law_873 dL_law_874 rfl rfl rfl rfl rfl rfl ?_
  refine lcallV (mi := mL_law) (yi := mX11_poles) (as := [.int (xs (i + 1)), .int (xs (i + 2)), .int (xs (i + 3))]) (rest := []) hC hP hS hl.1 dL_law_875 ML_L_110 Yv_X11_poles rfl zW_0 rfl rfl m1 (by decide) (Nat.le_of_ble_eq_true rfl) rfl hc0 rfl (fun H locs hP hS => ?_)
  refine lv_aload_n hx hb dL_law_878 rfl (lv_at hl 2 rfl) ?_
  refine larg (kn := 1) C hS hl (by omega) dL_law_879 dL_law_880 dL_law_882 dL_law_883 dL_law_884 rfl rfl rfl rfl rfl rfl ?_
  refine larg (kn := 2) C hS hl (by omega) dL_law_885 dL_law_886 dL_law_888 dL_law_889 dL_law_890 rfl rfl rfl rfl rfl rfl ?_
  refine larg (kn := 3) C hS hl (by omega) dL_law_891 dL_law_892 dL_law_894 dL_law_895 dL_law_896 rfl rfl rfl rfl rfl rfl ?_
  refine lcallV (mi := mL_law) (yi := mX12_poles) (as := [.int (xs (i + 1)), .int (xs (i + 2)), .int (xs (i + 3))]) (rest := [.int r]) hC hP hS hl.1 dL_law_897 ML_L_113 Yv_X12_poles rfl zW_54 rfl rfl m2 (by decide) (Nat.le_of_ble_eq_true rfl) rfl hc0 rfl (fun H locs hP hS => ?_)
  refine lv_icmp_eq (tgt := 1896) hx hb dL_law_900 (by decide) (fun _ => ?_) (fun z => absurd rfl z)
  exact W.widen (k := cells + 1) (n := slots + 6) (by omega) (by omega) (kk _ H locs la hI hP hS hl)
set_option maxRecDepth 100000 in
set_option maxHeartbeats 4000000 in
theorem lc_cuts {p : Program} {l : Launch} {e : Env} {s : State} {m : MethodId} {below : List Frame} {meth : Method} {c : Code} {D : va_G} {cy : Nat → ClassId} {ad : Nat → Nat} {A : Nat → Prop} {b L : Nat} {xs : Nat → Int32} (C : LX p s m meth c D cy ad A b L xs) (hfl : l.stackTraces = false) {S : zS} (hI : Inv S) {i : Nat} (hi : i + 5 ≤ L) {H : Heap} {locs : List Loc} {la : Array Slot} {cells slots : Nat} {Q : State → Prop} (hcs : cells + 1 ≤ room_1.cells ∧ slots + 6 ≤ room_1.slots) (hP : va_P D zcl (zwd zW cy ad S) H) (hS : va_S A s.heap H locs) (hl : lv_has la 8 [(0, .ref b), (1, .ref (ad 0)), (2, .ref (ad 54)), (3, .ref (ad 87)), (4, .int (nI i))])
    (kk : ∀ (S' : zS) (H' : Heap) (locs' : List Loc) (la' : Array Slot), Inv S' → va_P D zcl (zwd zW cy ad S') H' → va_S A s.heap H' locs' → lv_has la' 8 [(0, .ref b), (1, .ref (ad 0)), (2, .ref (ad 54)), (3, .ref (ad 87)), (4, .int (nI i))] → W p l e room_1 s m #[Value.ref b] below meth c H' locs' (cells + 1) (slots + 6) Q (F0 m 1896 la' [])) : W p l e room_1 s m #[Value.ref b] below meth c H locs cells slots Q (F0 m 905 la []) := by
  have hC := C.1
  have hx := hC.1
  have hb := hC.2.1
  have hc0 : cells ≤ room_1.cells ∧ slots ≤ room_1.slots := ⟨by omega, by omega⟩
  obtain ⟨r, M1, M2, m1, m2, hI⟩ := st_cuts l hI (xs (i + 1)) (xs (i + 2))
  refine lv_aload_n hx hb dL_law_905 rfl (lv_at hl 1 rfl) ?_
  refine larg (kn := 1) C hS hl (by omega) dL_law_906 dL_law_907 dL_law_909 dL_law_910 dL_law_911 rfl rfl rfl rfl rfl rfl ?_
  refine larg (kn := 2) C hS hl (by omega) dL_law_912 dL_law_913 dL_law_915 dL_law_916 dL_law_917 rfl rfl rfl rfl rfl rfl ?_
  refine lcallV (mi := mL_law) (yi := mX11_cuts) (as := [.int (xs (i + 1)), .int (xs (i + 2))]) (rest := []) hC hP hS hl.1 dL_law_918 ML_L_114 Yv_X11_cuts rfl zW_0 rfl rfl m1 (by decide) (Nat.le_of_ble_eq_true rfl) rfl hc0 rfl (fun H locs hP hS => ?_)
  refine lv_aload_n hx hb dL_law_921 rfl (lv_at hl 2 rfl) ?_
  refine larg (kn := 1) C hS hl (by omega) dL_law_922 dL_law_923 dL_law_925 dL_law_926 dL_law_927 rfl rfl rfl rfl rfl rfl ?_
  refine larg (kn := 2) C hS hl (by omega) dL_law_928 dL_law_929 dL_law_931 dL_law_932 dL_law_933 rfl rfl rfl rfl rfl rfl ?_
  refine lcallV (mi := mL_law) (yi := mX12_cuts) (as := [.int (xs (i + 1)), .int (xs (i + 2))]) (rest := [.int r]) hC hP hS hl.1 dL_law_934 ML_L_117 Yv_X12_cuts rfl zW_54 rfl rfl m2 (by decide) (Nat.le_of_ble_eq_true rfl) rfl hc0 rfl (fun H locs hP hS => ?_)
  refine lv_icmp_eq (tgt := 1896) hx hb dL_law_937 (by decide) (fun _ => ?_) (fun z => absurd rfl z)
  exact W.widen (k := cells + 1) (n := slots + 6) (by omega) (by omega) (kk _ H locs la hI hP hS hl)
set_option maxRecDepth 100000 in
set_option maxHeartbeats 4000000 in
theorem lc_curve {p : Program} {l : Launch} {e : Env} {s : State} {m : MethodId} {below : List Frame} {meth : Method} {c : Code} {D : va_G} {cy : Nat → ClassId} {ad : Nat → Nat} {A : Nat → Prop} {b L : Nat} {xs : Nat → Int32} (C : LX p s m meth c D cy ad A b L xs) (hfl : l.stackTraces = false) {S : zS} (hI : Inv S) {i : Nat} (hi : i + 5 ≤ L) {H : Heap} {locs : List Loc} {la : Array Slot} {cells slots : Nat} {Q : State → Prop} (hcs : cells + 1 ≤ room_1.cells ∧ slots + 6 ≤ room_1.slots) (hP : va_P D zcl (zwd zW cy ad S) H) (hS : va_S A s.heap H locs) (hl : lv_has la 8 [(0, .ref b), (1, .ref (ad 0)), (2, .ref (ad 54)), (3, .ref (ad 87)), (4, .int (nI i))])
    (kk : ∀ (S' : zS) (H' : Heap) (locs' : List Loc) (la' : Array Slot), Inv S' → va_P D zcl (zwd zW cy ad S') H' → va_S A s.heap H' locs' → lv_has la' 8 [(0, .ref b), (1, .ref (ad 0)), (2, .ref (ad 54)), (3, .ref (ad 87)), (4, .int (nI i))] → W p l e room_1 s m #[Value.ref b] below meth c H' locs' (cells + 1) (slots + 6) Q (F0 m 1896 la' [])) : W p l e room_1 s m #[Value.ref b] below meth c H locs cells slots Q (F0 m 942 la []) := by
  have hC := C.1
  have hx := hC.1
  have hb := hC.2.1
  have hc0 : cells ≤ room_1.cells ∧ slots ≤ room_1.slots := ⟨by omega, by omega⟩
  obtain ⟨r, M1, M2, m1, m2, hI⟩ := st_curve l hI (xs (i + 1)) (xs (i + 2))
  refine lv_aload_n hx hb dL_law_942 rfl (lv_at hl 1 rfl) ?_
  refine larg (kn := 1) C hS hl (by omega) dL_law_943 dL_law_944 dL_law_946 dL_law_947 dL_law_948 rfl rfl rfl rfl rfl rfl ?_
  refine larg (kn := 2) C hS hl (by omega) dL_law_949 dL_law_950 dL_law_952 dL_law_953 dL_law_954 rfl rfl rfl rfl rfl rfl ?_
  refine lcallV (mi := mL_law) (yi := mX11_curve) (as := [.int (xs (i + 1)), .int (xs (i + 2))]) (rest := []) hC hP hS hl.1 dL_law_955 ML_L_118 Yv_X11_curve rfl zW_0 rfl rfl m1 (by decide) (Nat.le_of_ble_eq_true rfl) rfl hc0 rfl (fun H locs hP hS => ?_)
  refine lv_aload_n hx hb dL_law_958 rfl (lv_at hl 2 rfl) ?_
  refine larg (kn := 1) C hS hl (by omega) dL_law_959 dL_law_960 dL_law_962 dL_law_963 dL_law_964 rfl rfl rfl rfl rfl rfl ?_
  refine larg (kn := 2) C hS hl (by omega) dL_law_965 dL_law_966 dL_law_968 dL_law_969 dL_law_970 rfl rfl rfl rfl rfl rfl ?_
  refine lcallV (mi := mL_law) (yi := mX12_curve) (as := [.int (xs (i + 1)), .int (xs (i + 2))]) (rest := [.int r]) hC hP hS hl.1 dL_law_971 ML_L_121 Yv_X12_curve rfl zW_54 rfl rfl m2 (by decide) (Nat.le_of_ble_eq_true rfl) rfl hc0 rfl (fun H locs hP hS => ?_)
  refine lv_icmp_eq (tgt := 1896) hx hb dL_law_974 (by decide) (fun _ => ?_) (fun z => absurd rfl z)
  exact W.widen (k := cells + 1) (n := slots + 6) (by omega) (by omega) (kk _ H locs la hI hP hS hl)
set_option maxRecDepth 100000 in
set_option maxHeartbeats 4000000 in
theorem lc_quick {p : Program} {l : Launch} {e : Env} {s : State} {m : MethodId} {below : List Frame} {meth : Method} {c : Code} {D : va_G} {cy : Nat → ClassId} {ad : Nat → Nat} {A : Nat → Prop} {b L : Nat} {xs : Nat → Int32} (C : LX p s m meth c D cy ad A b L xs) (hfl : l.stackTraces = false) {S : zS} (hI : Inv S) {i : Nat} (hi : i + 5 ≤ L) {H : Heap} {locs : List Loc} {la : Array Slot} {cells slots : Nat} {Q : State → Prop} (hcs : cells + 1 ≤ room_1.cells ∧ slots + 6 ≤ room_1.slots) (hP : va_P D zcl (zwd zW cy ad S) H) (hS : va_S A s.heap H locs) (hl : lv_has la 8 [(0, .ref b), (1, .ref (ad 0)), (2, .ref (ad 54)), (3, .ref (ad 87)), (4, .int (nI i))])
    (kk : ∀ (S' : zS) (H' : Heap) (locs' : List Loc) (la' : Array Slot), Inv S' → va_P D zcl (zwd zW cy ad S') H' → va_S A s.heap H' locs' → lv_has la' 8 [(0, .ref b), (1, .ref (ad 0)), (2, .ref (ad 54)), (3, .ref (ad 87)), (4, .int (nI i))] → W p l e room_1 s m #[Value.ref b] below meth c H' locs' (cells + 1) (slots + 6) Q (F0 m 1896 la' [])) : W p l e room_1 s m #[Value.ref b] below meth c H locs cells slots Q (F0 m 979 la []) := by
  have hC := C.1
  have hx := hC.1
  have hb := hC.2.1
  have hc0 : cells ≤ room_1.cells ∧ slots ≤ room_1.slots := ⟨by omega, by omega⟩
  obtain ⟨r, M1, M2, m1, m2, hI⟩ := st_quick l hI (xs (i + 1)) (xs (i + 2))
  refine lv_aload_n hx hb dL_law_979 rfl (lv_at hl 1 rfl) ?_
  refine larg (kn := 1) C hS hl (by omega) dL_law_980 dL_law_981 dL_law_983 dL_law_984 dL_law_985 rfl rfl rfl rfl rfl rfl ?_
  refine larg (kn := 2) C hS hl (by omega) dL_law_986 dL_law_987 dL_law_989 dL_law_990 dL_law_991 rfl rfl rfl rfl rfl rfl ?_
  refine lcallV (mi := mL_law) (yi := mX11_quick) (as := [.int (xs (i + 1)), .int (xs (i + 2))]) (rest := []) hC hP hS hl.1 dL_law_992 ML_L_122 Yv_X11_quick rfl zW_0 rfl rfl m1 (by decide) (Nat.le_of_ble_eq_true rfl) rfl hc0 rfl (fun H locs hP hS => ?_)
  refine lv_aload_n hx hb dL_law_995 rfl (lv_at hl 2 rfl) ?_
  refine larg (kn := 1) C hS hl (by omega) dL_law_996 dL_law_997 dL_law_999 dL_law_1000 dL_law_1001 rfl rfl rfl rfl rfl rfl ?_
  refine larg (kn := 2) C hS hl (by omega) dL_law_1002 dL_law_1003 dL_law_1005 dL_law_1006 dL_law_1007 rfl rfl rfl rfl rfl rfl ?_
  refine lcallV (mi := mL_law) (yi := mX12_quick) (as := [.int (xs (i + 1)), .int (xs (i + 2))]) (rest := [.int r]) hC hP hS hl.1 dL_law_1008 ML_L_125 Yv_X12_quick rfl zW_54 rfl rfl m2 (by decide) (Nat.le_of_ble_eq_true rfl) rfl hc0 rfl (fun H locs hP hS => ?_)
  refine lv_icmp_eq (tgt := 1896) hx hb dL_law_1011 (by decide) (fun _ => ?_) (fun z => absurd rfl z)
  exact W.widen (k := cells + 1) (n := slots + 6) (by omega) (by omega) (kk _ H locs la hI hP hS hl)
set_option maxRecDepth 100000 in
set_option maxHeartbeats 4000000 in
theorem lc_sure {p : Program} {l : Launch} {e : Env} {s : State} {m : MethodId} {below : List Frame} {meth : Method} {c : Code} {D : va_G} {cy : Nat → ClassId} {ad : Nat → Nat} {A : Nat → Prop} {b L : Nat} {xs : Nat → Int32} (C : LX p s m meth c D cy ad A b L xs) (hfl : l.stackTraces = false) {S : zS} (hI : Inv S) {i : Nat} (hi : i + 5 ≤ L) {H : Heap} {locs : List Loc} {la : Array Slot} {cells slots : Nat} {Q : State → Prop} (hcs : cells + 1 ≤ room_1.cells ∧ slots + 6 ≤ room_1.slots) (hP : va_P D zcl (zwd zW cy ad S) H) (hS : va_S A s.heap H locs) (hl : lv_has la 8 [(0, .ref b), (1, .ref (ad 0)), (2, .ref (ad 54)), (3, .ref (ad 87)), (4, .int (nI i))])
    (kk : ∀ (S' : zS) (H' : Heap) (locs' : List Loc) (la' : Array Slot), Inv S' → va_P D zcl (zwd zW cy ad S') H' → va_S A s.heap H' locs' → lv_has la' 8 [(0, .ref b), (1, .ref (ad 0)), (2, .ref (ad 54)), (3, .ref (ad 87)), (4, .int (nI i))] → W p l e room_1 s m #[Value.ref b] below meth c H' locs' (cells + 1) (slots + 6) Q (F0 m 1896 la' [])) : W p l e room_1 s m #[Value.ref b] below meth c H locs cells slots Q (F0 m 1016 la []) := by
  have hC := C.1
  have hx := hC.1
  have hb := hC.2.1
  have hc0 : cells ≤ room_1.cells ∧ slots ≤ room_1.slots := ⟨by omega, by omega⟩
  obtain ⟨r, M1, M2, m1, m2, hI⟩ := st_sure l hI (xs (i + 1))
  refine lv_aload_n hx hb dL_law_1016 rfl (lv_at hl 1 rfl) ?_
  refine larg (kn := 1) C hS hl (by omega) dL_law_1017 dL_law_1018 dL_law_1020 dL_law_1021 dL_law_1022 rfl rfl rfl rfl rfl rfl ?_
  refine lcallV (mi := mL_law) (yi := mX11_sure) (as := [.int (xs (i + 1))]) (rest := []) hC hP hS hl.1 dL_law_1023 ML_L_126 Yv_X11_sure rfl zW_0 rfl rfl m1 (by decide) (Nat.le_of_ble_eq_true rfl) rfl hc0 rfl (fun H locs hP hS => ?_)
  refine lv_aload_n hx hb dL_law_1026 rfl (lv_at hl 2 rfl) ?_
  refine larg (kn := 1) C hS hl (by omega) dL_law_1027 dL_law_1028 dL_law_1030 dL_law_1031 dL_law_1032 rfl rfl rfl rfl rfl rfl ?_
  refine lcallV (mi := mL_law) (yi := mX12_sure) (as := [.int (xs (i + 1))]) (rest := [.int r]) hC hP hS hl.1 dL_law_1033 ML_L_129 Yv_X12_sure rfl zW_54 rfl rfl m2 (by decide) (Nat.le_of_ble_eq_true rfl) rfl hc0 rfl (fun H locs hP hS => ?_)
  refine lv_icmp_eq (tgt := 1896) hx hb dL_law_1036 (by decide) (fun _ => ?_) (fun z => absurd rfl z)
  exact W.widen (k := cells + 1) (n := slots + 6) (by omega) (by omega) (kk _ H locs la hI hP hS hl)
set_option maxRecDepth 100000 in
set_option maxHeartbeats 4000000 in
theorem lc_ride {p : Program} {l : Launch} {e : Env} {s : State} {m : MethodId} {below : List Frame} {meth : Method} {c : Code} {D : va_G} {cy : Nat → ClassId} {ad : Nat → Nat} {A : Nat → Prop} {b L : Nat} {xs : Nat → Int32} (C : LX p s m meth c D cy ad A b L xs) (hfl : l.stackTraces = false) {S : zS} (hI : Inv S) {i : Nat} (hi : i + 5 ≤ L) {H : Heap} {locs : List Loc} {la : Array Slot} {cells slots : Nat} {Q : State → Prop} (hcs : cells + 1 ≤ room_1.cells ∧ slots + 6 ≤ room_1.slots) (hP : va_P D zcl (zwd zW cy ad S) H) (hS : va_S A s.heap H locs) (hl : lv_has la 8 [(0, .ref b), (1, .ref (ad 0)), (2, .ref (ad 54)), (3, .ref (ad 87)), (4, .int (nI i))])
    (kk : ∀ (S' : zS) (H' : Heap) (locs' : List Loc) (la' : Array Slot), Inv S' → va_P D zcl (zwd zW cy ad S') H' → va_S A s.heap H' locs' → lv_has la' 8 [(0, .ref b), (1, .ref (ad 0)), (2, .ref (ad 54)), (3, .ref (ad 87)), (4, .int (nI i))] → W p l e room_1 s m #[Value.ref b] below meth c H' locs' (cells + 1) (slots + 6) Q (F0 m 1896 la' [])) : W p l e room_1 s m #[Value.ref b] below meth c H locs cells slots Q (F0 m 1041 la []) := by
  have hC := C.1
  have hx := hC.1
  have hb := hC.2.1
  have hc0 : cells ≤ room_1.cells ∧ slots ≤ room_1.slots := ⟨by omega, by omega⟩
  obtain ⟨r, M1, M2, m1, m2, hI⟩ := st_ride l hI (xs (i + 1)) (xs (i + 2)) (xs (i + 3)) (xs (i + 4))
  refine lv_aload_n hx hb dL_law_1041 rfl (lv_at hl 1 rfl) ?_
  refine larg (kn := 1) C hS hl (by omega) dL_law_1042 dL_law_1043 dL_law_1045 dL_law_1046 dL_law_1047 rfl rfl rfl rfl rfl rfl ?_
  refine larg (kn := 2) C hS hl (by omega) dL_law_1048 dL_law_1049 dL_law_1051 dL_law_1052 dL_law_1053 rfl rfl rfl rfl rfl rfl ?_
  refine larg (kn := 3) C hS hl (by omega) dL_law_1054 dL_law_1055 dL_law_1057 dL_law_1058 dL_law_1059 rfl rfl rfl rfl rfl rfl ?_
  refine larg (kn := 4) C hS hl (by omega) dL_law_1060 dL_law_1061 dL_law_1063 dL_law_1064 dL_law_1065 rfl rfl rfl rfl rfl rfl ?_
  refine lcallV (mi := mL_law) (yi := mX11_ride) (as := [.int (xs (i + 1)), .int (xs (i + 2)), .int (xs (i + 3)), .int (xs (i + 4))]) (rest := []) hC hP hS hl.1 dL_law_1066 ML_L_130 Yv_X11_ride rfl zW_0 rfl rfl m1 (by decide) (Nat.le_of_ble_eq_true rfl) rfl hc0 rfl (fun H locs hP hS => ?_)
  refine lv_aload_n hx hb dL_law_1069 rfl (lv_at hl 2 rfl) ?_
  refine larg (kn := 1) C hS hl (by omega) dL_law_1070 dL_law_1071 dL_law_1073 dL_law_1074 dL_law_1075 rfl rfl rfl rfl rfl rfl ?_
  refine larg (kn := 2) C hS hl (by omega) dL_law_1076 dL_law_1077 dL_law_1079 dL_law_1080 dL_law_1081 rfl rfl rfl rfl rfl rfl ?_
  refine larg (kn := 3) C hS hl (by omega) dL_law_1082 dL_law_1083 dL_law_1085 dL_law_1086 dL_law_1087 rfl rfl rfl rfl rfl rfl ?_
  refine larg (kn := 4) C hS hl (by omega) dL_law_1088 dL_law_1089 dL_law_1091 dL_law_1092 dL_law_1093 rfl rfl rfl rfl rfl rfl ?_
  refine lcallV (mi := mL_law) (yi := mX12_ride) (as := [.int (xs (i + 1)), .int (xs (i + 2)), .int (xs (i + 3)), .int (xs (i + 4))]) (rest := [.int r]) hC hP hS hl.1 dL_law_1094 ML_L_133 Yv_X12_ride rfl zW_54 rfl rfl m2 (by decide) (Nat.le_of_ble_eq_true rfl) rfl hc0 rfl (fun H locs hP hS => ?_)
  refine lv_icmp_eq (tgt := 1896) hx hb dL_law_1097 (by decide) (fun _ => ?_) (fun z => absurd rfl z)
  exact W.widen (k := cells + 1) (n := slots + 6) (by omega) (by omega) (kk _ H locs la hI hP hS hl)
set_option maxRecDepth 100000 in
set_option maxHeartbeats 4000000 in
theorem lc_look {p : Program} {l : Launch} {e : Env} {s : State} {m : MethodId} {below : List Frame} {meth : Method} {c : Code} {D : va_G} {cy : Nat → ClassId} {ad : Nat → Nat} {A : Nat → Prop} {b L : Nat} {xs : Nat → Int32} (C : LX p s m meth c D cy ad A b L xs) (hfl : l.stackTraces = false) {S : zS} (hI : Inv S) {i : Nat} (hi : i + 5 ≤ L) {H : Heap} {locs : List Loc} {la : Array Slot} {cells slots : Nat} {Q : State → Prop} (hcs : cells + 1 ≤ room_1.cells ∧ slots + 6 ≤ room_1.slots) (hP : va_P D zcl (zwd zW cy ad S) H) (hS : va_S A s.heap H locs) (hl : lv_has la 8 [(0, .ref b), (1, .ref (ad 0)), (2, .ref (ad 54)), (3, .ref (ad 87)), (4, .int (nI i))])
    (kk : ∀ (S' : zS) (H' : Heap) (locs' : List Loc) (la' : Array Slot), Inv S' → va_P D zcl (zwd zW cy ad S') H' → va_S A s.heap H' locs' → lv_has la' 8 [(0, .ref b), (1, .ref (ad 0)), (2, .ref (ad 54)), (3, .ref (ad 87)), (4, .int (nI i))] → W p l e room_1 s m #[Value.ref b] below meth c H' locs' (cells + 1) (slots + 6) Q (F0 m 1896 la' [])) : W p l e room_1 s m #[Value.ref b] below meth c H locs cells slots Q (F0 m 1102 la []) := by
  have hC := C.1
  have hx := hC.1
  have hb := hC.2.1
  have hc0 : cells ≤ room_1.cells ∧ slots ≤ room_1.slots := ⟨by omega, by omega⟩
  obtain ⟨r, M1, M2, m1, m2, hI⟩ := st_look l hI (xs (i + 1)) (xs (i + 2)) (xs (i + 3))
  refine lv_aload_n hx hb dL_law_1102 rfl (lv_at hl 1 rfl) ?_
  refine larg (kn := 1) C hS hl (by omega) dL_law_1103 dL_law_1104 dL_law_1106 dL_law_1107 dL_law_1108 rfl rfl rfl rfl rfl rfl ?_
  refine larg (kn := 2) C hS hl (by omega) dL_law_1109 dL_law_1110 dL_law_1112 dL_law_1113 dL_law_1114 rfl rfl rfl rfl rfl rfl ?_
  refine larg (kn := 3) C hS hl (by omega) dL_law_1115 dL_law_1116 dL_law_1118 dL_law_1119 dL_law_1120 rfl rfl rfl rfl rfl rfl ?_
  refine lcallV (mi := mL_law) (yi := mX11_look) (as := [.int (xs (i + 1)), .int (xs (i + 2)), .int (xs (i + 3))]) (rest := []) hC hP hS hl.1 dL_law_1121 ML_L_134 Yv_X11_look rfl zW_0 rfl rfl m1 (by decide) (Nat.le_of_ble_eq_true rfl) rfl hc0 rfl (fun H locs hP hS => ?_)
  refine lv_aload_n hx hb dL_law_1124 rfl (lv_at hl 2 rfl) ?_
  refine larg (kn := 1) C hS hl (by omega) dL_law_1125 dL_law_1126 dL_law_1128 dL_law_1129 dL_law_1130 rfl rfl rfl rfl rfl rfl ?_
  refine larg (kn := 2) C hS hl (by omega) dL_law_1131 dL_law_1132 dL_law_1134 dL_law_1135 dL_law_1136 rfl rfl rfl rfl rfl rfl ?_
  refine larg (kn := 3) C hS hl (by omega) dL_law_1137 dL_law_1138 dL_law_1140 dL_law_1141 dL_law_1142 rfl rfl rfl rfl rfl rfl ?_
  refine lcallV (mi := mL_law) (yi := mX12_look) (as := [.int (xs (i + 1)), .int (xs (i + 2)), .int (xs (i + 3))]) (rest := [.int r]) hC hP hS hl.1 dL_law_1143 ML_L_137 Yv_X12_look rfl zW_54 rfl rfl m2 (by decide) (Nat.le_of_ble_eq_true rfl) rfl hc0 rfl (fun H locs hP hS => ?_)
  refine lv_icmp_eq (tgt := 1896) hx hb dL_law_1146 (by decide) (fun _ => ?_) (fun z => absurd rfl z)
  exact W.widen (k := cells + 1) (n := slots + 6) (by omega) (by omega) (kk _ H locs la hI hP hS hl)
set_option maxRecDepth 100000 in
set_option maxHeartbeats 4000000 in
theorem lc_told {p : Program} {l : Launch} {e : Env} {s : State} {m : MethodId} {below : List Frame} {meth : Method} {c : Code} {D : va_G} {cy : Nat → ClassId} {ad : Nat → Nat} {A : Nat → Prop} {b L : Nat} {xs : Nat → Int32} (C : LX p s m meth c D cy ad A b L xs) (hfl : l.stackTraces = false) {S : zS} (hI : Inv S) {i : Nat} (hi : i + 5 ≤ L) {H : Heap} {locs : List Loc} {la : Array Slot} {cells slots : Nat} {Q : State → Prop} (hcs : cells + 1 ≤ room_1.cells ∧ slots + 6 ≤ room_1.slots) (hP : va_P D zcl (zwd zW cy ad S) H) (hS : va_S A s.heap H locs) (hl : lv_has la 8 [(0, .ref b), (1, .ref (ad 0)), (2, .ref (ad 54)), (3, .ref (ad 87)), (4, .int (nI i))])
    (kk : ∀ (S' : zS) (H' : Heap) (locs' : List Loc) (la' : Array Slot), Inv S' → va_P D zcl (zwd zW cy ad S') H' → va_S A s.heap H' locs' → lv_has la' 8 [(0, .ref b), (1, .ref (ad 0)), (2, .ref (ad 54)), (3, .ref (ad 87)), (4, .int (nI i))] → W p l e room_1 s m #[Value.ref b] below meth c H' locs' (cells + 1) (slots + 6) Q (F0 m 1896 la' [])) : W p l e room_1 s m #[Value.ref b] below meth c H locs cells slots Q (F0 m 1151 la []) := by
  have hC := C.1
  have hx := hC.1
  have hb := hC.2.1
  have hc0 : cells ≤ room_1.cells ∧ slots ≤ room_1.slots := ⟨by omega, by omega⟩
  obtain ⟨r, M1, M2, m1, m2, hI⟩ := st_told l hI (xs (i + 1)) (xs (i + 2)) (xs (i + 3)) (xs (i + 4))
  refine lv_aload_n hx hb dL_law_1151 rfl (lv_at hl 1 rfl) ?_
  refine larg (kn := 1) C hS hl (by omega) dL_law_1152 dL_law_1153 dL_law_1155 dL_law_1156 dL_law_1157 rfl rfl rfl rfl rfl rfl ?_
  refine larg (kn := 2) C hS hl (by omega) dL_law_1158 dL_law_1159 dL_law_1161 dL_law_1162 dL_law_1163 rfl rfl rfl rfl rfl rfl ?_
  refine larg (kn := 3) C hS hl (by omega) dL_law_1164 dL_law_1165 dL_law_1167 dL_law_1168 dL_law_1169 rfl rfl rfl rfl rfl rfl ?_
  refine larg (kn := 4) C hS hl (by omega) dL_law_1170 dL_law_1171 dL_law_1173 dL_law_1174 dL_law_1175 rfl rfl rfl rfl rfl rfl ?_
  refine lcallV (mi := mL_law) (yi := mX11_told) (as := [.int (xs (i + 1)), .int (xs (i + 2)), .int (xs (i + 3)), .int (xs (i + 4))]) (rest := []) hC hP hS hl.1 dL_law_1176 ML_L_138 Yv_X11_told rfl zW_0 rfl rfl m1 (by decide) (Nat.le_of_ble_eq_true rfl) rfl hc0 rfl (fun H locs hP hS => ?_)
  refine lv_aload_n hx hb dL_law_1179 rfl (lv_at hl 2 rfl) ?_
  refine larg (kn := 1) C hS hl (by omega) dL_law_1180 dL_law_1181 dL_law_1183 dL_law_1184 dL_law_1185 rfl rfl rfl rfl rfl rfl ?_
  refine larg (kn := 2) C hS hl (by omega) dL_law_1186 dL_law_1187 dL_law_1189 dL_law_1190 dL_law_1191 rfl rfl rfl rfl rfl rfl ?_
  refine larg (kn := 3) C hS hl (by omega) dL_law_1192 dL_law_1193 dL_law_1195 dL_law_1196 dL_law_1197 rfl rfl rfl rfl rfl rfl ?_
  refine larg (kn := 4) C hS hl (by omega) dL_law_1198 dL_law_1199 dL_law_1201 dL_law_1202 dL_law_1203 rfl rfl rfl rfl rfl rfl ?_
  refine lcallV (mi := mL_law) (yi := mX12_told) (as := [.int (xs (i + 1)), .int (xs (i + 2)), .int (xs (i + 3)), .int (xs (i + 4))]) (rest := [.int r]) hC hP hS hl.1 dL_law_1204 ML_L_141 Yv_X12_told rfl zW_54 rfl rfl m2 (by decide) (Nat.le_of_ble_eq_true rfl) rfl hc0 rfl (fun H locs hP hS => ?_)
  refine lv_icmp_eq (tgt := 1896) hx hb dL_law_1207 (by decide) (fun _ => ?_) (fun z => absurd rfl z)
  exact W.widen (k := cells + 1) (n := slots + 6) (by omega) (by omega) (kk _ H locs la hI hP hS hl)
