theorem dJ2_indexOf_4cfef_22 : decode cJ2_indexOf_4cfef 22 = .ok (.iload_n 1, 1) := by decide +kernel
theorem dJ2_indexOf_4cfef_23 : decode cJ2_indexOf_4cfef 23 = .ok (.ldc 227, 2) := by decide +kernel
theorem dJ2_indexOf_4cfef_25 : decode cJ2_indexOf_4cfef 25 = .ok (.if_icmp .ge 11, 3) := by decide +kernel
theorem dJ2_indexOf_4cfef_28 : decode cJ2_indexOf_4cfef 28 = .ok (.aload_n 0, 1) := by decide +kernel
theorem dJ2_indexOf_4cfef_29 : decode cJ2_indexOf_4cfef 29 = .ok (.iload_n 1, 1) := by decide +kernel
theorem dJ2_indexOf_4cfef_30 : decode cJ2_indexOf_4cfef 30 = .ok (.iload_n 2, 1) := by decide +kernel
theorem dJ2_indexOf_4cfef_31 : decode cJ2_indexOf_4cfef 31 = .ok (.iload_n 3, 1) := by decide +kernel
theorem dJ2_indexOf_4cfef_32 : decode cJ2_indexOf_4cfef 32 = .ok (.invokestatic 228, 3) := by decide +kernel
theorem dJ2_indexOf_4cfef_35 : decode cJ2_indexOf_4cfef 35 = .ok (.ireturn, 1) := by decide +kernel
theorem dJ2_indexOf_4cfef_36 : decode cJ2_indexOf_4cfef 36 = .ok (.aload_n 0, 1) := by decide +kernel
theorem dJ2_indexOf_4cfef_37 : decode cJ2_indexOf_4cfef 37 = .ok (.iload_n 1, 1) := by decide +kernel
theorem dJ2_indexOf_4cfef_38 : decode cJ2_indexOf_4cfef 38 = .ok (.iload_n 2, 1) := by decide +kernel
theorem dJ2_indexOf_4cfef_39 : decode cJ2_indexOf_4cfef 39 = .ok (.iload_n 3, 1) := by decide +kernel
theorem dJ2_indexOf_4cfef_40 : decode cJ2_indexOf_4cfef 40 = .ok (.invokestatic 232, 3) := by decide +kernel
theorem dJ2_indexOf_4cfef_43 : decode cJ2_indexOf_4cfef 43 = .ok (.ireturn, 1) := by decide +kernel
theorem dJ2_indexOfChar_4cfef_0 : decode cJ2_indexOfChar_4cfef 0 = .ok (.iload_n 2, 1) := by decide +kernel
theorem dJ2_indexOfChar_4cfef_1 : decode cJ2_indexOfChar_4cfef 1 = .ok (.iload_n 3, 1) := by decide +kernel
theorem dJ2_indexOfChar_4cfef_2 : decode cJ2_indexOfChar_4cfef 2 = .ok (.aload_n 0, 1) := by decide +kernel
theorem dJ2_indexOfChar_4cfef_3 : decode cJ2_indexOfChar_4cfef 3 = .ok (.invokestatic 96, 3) := by decide +kernel
theorem dJ2_indexOfChar_4cfef_6 : decode cJ2_indexOfChar_4cfef 6 = .ok (.aload_n 0, 1) := by decide +kernel
theorem dJ2_indexOfChar_4cfef_7 : decode cJ2_indexOfChar_4cfef 7 = .ok (.iload_n 1, 1) := by decide +kernel
theorem dJ2_indexOfChar_4cfef_8 : decode cJ2_indexOfChar_4cfef 8 = .ok (.iload_n 2, 1) := by decide +kernel
theorem dJ2_indexOfChar_4cfef_9 : decode cJ2_indexOfChar_4cfef 9 = .ok (.iload_n 3, 1) := by decide +kernel
theorem dJ2_indexOfChar_4cfef_10 : decode cJ2_indexOfChar_4cfef 10 = .ok (.invokestatic 244, 3) := by decide +kernel
theorem dJ2_indexOfChar_4cfef_13 : decode cJ2_indexOfChar_4cfef 13 = .ok (.ireturn, 1) := by decide +kernel
theorem dJ2_indexOfCharUnsafe_4cfef_0 : decode cJ2_indexOfCharUnsafe_4cfef 0 = .ok (.iload_n 2, 1) := by decide +kernel
theorem dJ2_indexOfCharUnsafe_4cfef_1 : decode cJ2_indexOfCharUnsafe_4cfef 1 = .ok (.istore 4, 2) := by decide +kernel
theorem dJ2_indexOfCharUnsafe_4cfef_3 : decode cJ2_indexOfCharUnsafe_4cfef 3 = .ok (.iload 4, 2) := by decide +kernel
theorem dJ2_indexOfCharUnsafe_4cfef_5 : decode cJ2_indexOfCharUnsafe_4cfef 5 = .ok (.iload_n 3, 1) := by decide +kernel
theorem dJ2_indexOfCharUnsafe_4cfef_6 : decode cJ2_indexOfCharUnsafe_4cfef 6 = .ok (.if_icmp .ge 22, 3) := by decide +kernel
theorem dJ2_indexOfCharUnsafe_4cfef_9 : decode cJ2_indexOfCharUnsafe_4cfef 9 = .ok (.aload_n 0, 1) := by decide +kernel
theorem dJ2_indexOfCharUnsafe_4cfef_10 : decode cJ2_indexOfCharUnsafe_4cfef 10 = .ok (.iload 4, 2) := by decide +kernel
theorem dJ2_indexOfCharUnsafe_4cfef_12 : decode cJ2_indexOfCharUnsafe_4cfef 12 = .ok (.invokestatic 71, 3) := by decide +kernel
theorem dJ2_indexOfCharUnsafe_4cfef_15 : decode cJ2_indexOfCharUnsafe_4cfef 15 = .ok (.iload_n 1, 1) := by decide +kernel
theorem dJ2_indexOfCharUnsafe_4cfef_16 : decode cJ2_indexOfCharUnsafe_4cfef 16 = .ok (.if_icmp .ne 6, 3) := by decide +kernel
theorem dJ2_indexOfCharUnsafe_4cfef_19 : decode cJ2_indexOfCharUnsafe_4cfef 19 = .ok (.iload 4, 2) := by decide +kernel
theorem dJ2_indexOfCharUnsafe_4cfef_21 : decode cJ2_indexOfCharUnsafe_4cfef 21 = .ok (.ireturn, 1) := by decide +kernel
theorem dJ2_indexOfCharUnsafe_4cfef_22 : decode cJ2_indexOfCharUnsafe_4cfef 22 = .ok (.iinc 4 1, 3) := by decide +kernel
theorem dJ2_indexOfCharUnsafe_4cfef_25 : decode cJ2_indexOfCharUnsafe_4cfef 25 = .ok (.goto (-22), 3) := by decide +kernel
theorem dJ2_indexOfCharUnsafe_4cfef_28 : decode cJ2_indexOfCharUnsafe_4cfef 28 = .ok (.iconst (-1), 1) := by decide +kernel
theorem dJ2_indexOfCharUnsafe_4cfef_29 : decode cJ2_indexOfCharUnsafe_4cfef 29 = .ok (.ireturn, 1) := by decide +kernel
theorem dJ2_indexOfSupplementary_4cfef_0 : decode cJ2_indexOfSupplementary_4cfef 0 = .ok (.iload_n 1, 1) := by decide +kernel
theorem dJ2_indexOfSupplementary_4cfef_1 : decode cJ2_indexOfSupplementary_4cfef 1 = .ok (.invokestatic 164, 3) := by decide +kernel
theorem dJ2_indexOfSupplementary_4cfef_4 : decode cJ2_indexOfSupplementary_4cfef 4 = .ok (.ifCond .eq 65, 3) := by decide +kernel
theorem dJ2_indexOfSupplementary_4cfef_7 : decode cJ2_indexOfSupplementary_4cfef 7 = .ok (.iload_n 1, 1) := by decide +kernel
theorem dJ2_indexOfSupplementary_4cfef_8 : decode cJ2_indexOfSupplementary_4cfef 8 = .ok (.invokestatic 157, 3) := by decide +kernel
theorem dJ2_indexOfSupplementary_4cfef_11 : decode cJ2_indexOfSupplementary_4cfef 11 = .ok (.istore 4, 2) := by decide +kernel
theorem dJ2_indexOfSupplementary_4cfef_13 : decode cJ2_indexOfSupplementary_4cfef 13 = .ok (.iload_n 1, 1) := by decide +kernel
theorem dJ2_indexOfSupplementary_4cfef_14 : decode cJ2_indexOfSupplementary_4cfef 14 = .ok (.invokestatic 161, 3) := by decide +kernel
theorem dJ2_indexOfSupplementary_4cfef_17 : decode cJ2_indexOfSupplementary_4cfef 17 = .ok (.istore 5, 2) := by decide +kernel
theorem dJ2_indexOfSupplementary_4cfef_19 : decode cJ2_indexOfSupplementary_4cfef 19 = .ok (.iload_n 2, 1) := by decide +kernel
theorem dJ2_indexOfSupplementary_4cfef_20 : decode cJ2_indexOfSupplementary_4cfef 20 = .ok (.iload_n 3, 1) := by decide +kernel
theorem dJ2_indexOfSupplementary_4cfef_21 : decode cJ2_indexOfSupplementary_4cfef 21 = .ok (.aload_n 0, 1) := by decide +kernel
theorem dJ2_indexOfSupplementary_4cfef_22 : decode cJ2_indexOfSupplementary_4cfef 22 = .ok (.invokestatic 96, 3) := by decide +kernel
theorem dJ2_indexOfSupplementary_4cfef_25 : decode cJ2_indexOfSupplementary_4cfef 25 = .ok (.iload_n 2, 1) := by decide +kernel
theorem dJ2_indexOfSupplementary_4cfef_26 : decode cJ2_indexOfSupplementary_4cfef 26 = .ok (.istore 6, 2) := by decide +kernel
theorem dJ2_indexOfSupplementary_4cfef_28 : decode cJ2_indexOfSupplementary_4cfef 28 = .ok (.iload 6, 2) := by decide +kernel
theorem dJ2_indexOfSupplementary_4cfef_30 : decode cJ2_indexOfSupplementary_4cfef 30 = .ok (.iload_n 3, 1) := by decide +kernel
theorem dJ2_indexOfSupplementary_4cfef_31 : decode cJ2_indexOfSupplementary_4cfef 31 = .ok (.iconst 1, 1) := by decide +kernel
theorem dJ2_indexOfSupplementary_4cfef_32 : decode cJ2_indexOfSupplementary_4cfef 32 = .ok (.isub, 1) := by decide +kernel
theorem dJ2_indexOfSupplementary_4cfef_33 : decode cJ2_indexOfSupplementary_4cfef 33 = .ok (.if_icmp .ge 36, 3) := by decide +kernel
theorem dJ2_indexOfSupplementary_4cfef_36 : decode cJ2_indexOfSupplementary_4cfef 36 = .ok (.aload_n 0, 1) := by decide +kernel
theorem dJ2_indexOfSupplementary_4cfef_37 : decode cJ2_indexOfSupplementary_4cfef 37 = .ok (.iload 6, 2) := by decide +kernel
theorem dJ2_indexOfSupplementary_4cfef_39 : decode cJ2_indexOfSupplementary_4cfef 39 = .ok (.invokestatic 71, 3) := by decide +kernel
theorem dJ2_indexOfSupplementary_4cfef_42 : decode cJ2_indexOfSupplementary_4cfef 42 = .ok (.iload 4, 2) := by decide +kernel
theorem dJ2_indexOfSupplementary_4cfef_44 : decode cJ2_indexOfSupplementary_4cfef 44 = .ok (.if_icmp .ne 19, 3) := by decide +kernel
theorem dJ2_indexOfSupplementary_4cfef_47 : decode cJ2_indexOfSupplementary_4cfef 47 = .ok (.aload_n 0, 1) := by decide +kernel
theorem dJ2_indexOfSupplementary_4cfef_48 : decode cJ2_indexOfSupplementary_4cfef 48 = .ok (.iload 6, 2) := by decide +kernel
theorem dJ2_indexOfSupplementary_4cfef_50 : decode cJ2_indexOfSupplementary_4cfef 50 = .ok (.iconst 1, 1) := by decide +kernel
theorem dJ2_indexOfSupplementary_4cfef_51 : decode cJ2_indexOfSupplementary_4cfef 51 = .ok (.iadd, 1) := by decide +kernel
theorem dJ2_indexOfSupplementary_4cfef_52 : decode cJ2_indexOfSupplementary_4cfef 52 = .ok (.invokestatic 71, 3) := by decide +kernel
theorem dJ2_indexOfSupplementary_4cfef_55 : decode cJ2_indexOfSupplementary_4cfef 55 = .ok (.iload 5, 2) := by decide +kernel
theorem dJ2_indexOfSupplementary_4cfef_57 : decode cJ2_indexOfSupplementary_4cfef 57 = .ok (.if_icmp .ne 6, 3) := by decide +kernel
theorem dJ2_indexOfSupplementary_4cfef_60 : decode cJ2_indexOfSupplementary_4cfef 60 = .ok (.iload 6, 2) := by decide +kernel
theorem dJ2_indexOfSupplementary_4cfef_62 : decode cJ2_indexOfSupplementary_4cfef 62 = .ok (.ireturn, 1) := by decide +kernel
theorem dJ2_indexOfSupplementary_4cfef_63 : decode cJ2_indexOfSupplementary_4cfef 63 = .ok (.iinc 6 1, 3) := by decide +kernel
theorem dJ2_indexOfSupplementary_4cfef_66 : decode cJ2_indexOfSupplementary_4cfef 66 = .ok (.goto (-38), 3) := by decide +kernel
theorem dJ2_indexOfSupplementary_4cfef_69 : decode cJ2_indexOfSupplementary_4cfef 69 = .ok (.iconst (-1), 1) := by decide +kernel
theorem dJ2_indexOfSupplementary_4cfef_70 : decode cJ2_indexOfSupplementary_4cfef 70 = .ok (.ireturn, 1) := by decide +kernel
theorem dJ2_checkBoundsBeginEnd_d044e_0 : decode cJ2_checkBoundsBeginEnd_d044e 0 = .ok (.iload_n 0, 1) := by decide +kernel
theorem dJ2_checkBoundsBeginEnd_d044e_1 : decode cJ2_checkBoundsBeginEnd_d044e 1 = .ok (.iload_n 1, 1) := by decide +kernel
theorem dJ2_checkBoundsBeginEnd_d044e_2 : decode cJ2_checkBoundsBeginEnd_d044e 2 = .ok (.aload_n 2, 1) := by decide +kernel
theorem dJ2_checkBoundsBeginEnd_d044e_3 : decode cJ2_checkBoundsBeginEnd_d044e 3 = .ok (.invokestatic 48, 3) := by decide +kernel
theorem dJ2_checkBoundsBeginEnd_d044e_6 : decode cJ2_checkBoundsBeginEnd_d044e 6 = .ok (.invokestatic 241, 3) := by decide +kernel
theorem dJ2_checkBoundsBeginEnd_d044e_9 : decode cJ2_checkBoundsBeginEnd_d044e 9 = .ok (.return_, 1) := by decide +kernel
theorem dJ3_checkFromToIndex_8c36e_0 : decode cJ3_checkFromToIndex_8c36e 0 = .ok (.iload_n 0, 1) := by decide +kernel
theorem dJ3_checkFromToIndex_8c36e_1 : decode cJ3_checkFromToIndex_8c36e 1 = .ok (.ifCond .lt 13, 3) := by decide +kernel
theorem dJ3_checkFromToIndex_8c36e_4 : decode cJ3_checkFromToIndex_8c36e 4 = .ok (.iload_n 0, 1) := by decide +kernel
theorem dJ3_checkFromToIndex_8c36e_5 : decode cJ3_checkFromToIndex_8c36e 5 = .ok (.iload_n 1, 1) := by decide +kernel
theorem dJ3_checkFromToIndex_8c36e_6 : decode cJ3_checkFromToIndex_8c36e 6 = .ok (.if_icmp .gt 8, 3) := by decide +kernel
theorem dJ3_checkFromToIndex_8c36e_9 : decode cJ3_checkFromToIndex_8c36e 9 = .ok (.iload_n 1, 1) := by decide +kernel
theorem dJ3_checkFromToIndex_8c36e_10 : decode cJ3_checkFromToIndex_8c36e 10 = .ok (.iload_n 2, 1) := by decide +kernel
theorem dJ3_checkFromToIndex_8c36e_11 : decode cJ3_checkFromToIndex_8c36e 11 = .ok (.if_icmp .le 11, 3) := by decide +kernel
theorem dJ3_checkFromToIndex_8c36e_14 : decode cJ3_checkFromToIndex_8c36e 14 = .ok (.aload_n 3, 1) := by decide +kernel
theorem dJ3_checkFromToIndex_8c36e_15 : decode cJ3_checkFromToIndex_8c36e 15 = .ok (.iload_n 0, 1) := by decide +kernel
theorem dJ3_checkFromToIndex_8c36e_16 : decode cJ3_checkFromToIndex_8c36e 16 = .ok (.iload_n 1, 1) := by decide +kernel
theorem dJ3_checkFromToIndex_8c36e_17 : decode cJ3_checkFromToIndex_8c36e 17 = .ok (.iload_n 2, 1) := by decide +kernel
theorem dJ3_checkFromToIndex_8c36e_18 : decode cJ3_checkFromToIndex_8c36e 18 = .ok (.invokestatic 99, 3) := by decide +kernel
theorem dJ3_checkFromToIndex_8c36e_21 : decode cJ3_checkFromToIndex_8c36e 21 = .ok (.athrow, 1) := by decide +kernel
theorem dJ3_checkFromToIndex_8c36e_22 : decode cJ3_checkFromToIndex_8c36e 22 = .ok (.iload_n 0, 1) := by decide +kernel
theorem dJ3_checkFromToIndex_8c36e_23 : decode cJ3_checkFromToIndex_8c36e 23 = .ok (.ireturn, 1) := by decide +kernel
theorem dJ6_bitCount_0f7a4_0 : decode cJ6_bitCount_0f7a4 0 = .ok (.iload_n 0, 1) := by decide +kernel
theorem dJ6_bitCount_0f7a4_1 : decode cJ6_bitCount_0f7a4 1 = .ok (.iload_n 0, 1) := by decide +kernel
theorem dJ6_bitCount_0f7a4_2 : decode cJ6_bitCount_0f7a4 2 = .ok (.iconst 1, 1) := by decide +kernel
theorem dJ6_bitCount_0f7a4_3 : decode cJ6_bitCount_0f7a4 3 = .ok (.iushr, 1) := by decide +kernel
theorem dJ6_bitCount_0f7a4_4 : decode cJ6_bitCount_0f7a4 4 = .ok (.ldc_w 265, 3) := by decide +kernel
theorem dJ6_bitCount_0f7a4_7 : decode cJ6_bitCount_0f7a4 7 = .ok (.iand, 1) := by decide +kernel
theorem dJ6_bitCount_0f7a4_8 : decode cJ6_bitCount_0f7a4 8 = .ok (.isub, 1) := by decide +kernel
theorem dJ6_bitCount_0f7a4_9 : decode cJ6_bitCount_0f7a4 9 = .ok (.istore_n 0, 1) := by decide +kernel
theorem dJ6_bitCount_0f7a4_10 : decode cJ6_bitCount_0f7a4 10 = .ok (.iload_n 0, 1) := by decide +kernel
theorem dJ6_bitCount_0f7a4_11 : decode cJ6_bitCount_0f7a4 11 = .ok (.ldc_w 266, 3) := by decide +kernel
theorem dJ6_bitCount_0f7a4_14 : decode cJ6_bitCount_0f7a4 14 = .ok (.iand, 1) := by decide +kernel
theorem dJ6_bitCount_0f7a4_15 : decode cJ6_bitCount_0f7a4 15 = .ok (.iload_n 0, 1) := by decide +kernel
theorem dJ6_bitCount_0f7a4_16 : decode cJ6_bitCount_0f7a4 16 = .ok (.iconst 2, 1) := by decide +kernel
theorem dJ6_bitCount_0f7a4_17 : decode cJ6_bitCount_0f7a4 17 = .ok (.iushr, 1) := by decide +kernel
theorem dJ6_bitCount_0f7a4_18 : decode cJ6_bitCount_0f7a4 18 = .ok (.ldc_w 266, 3) := by decide +kernel
theorem dJ6_bitCount_0f7a4_21 : decode cJ6_bitCount_0f7a4 21 = .ok (.iand, 1) := by decide +kernel
theorem dJ6_bitCount_0f7a4_22 : decode cJ6_bitCount_0f7a4 22 = .ok (.iadd, 1) := by decide +kernel
theorem dJ6_bitCount_0f7a4_23 : decode cJ6_bitCount_0f7a4 23 = .ok (.istore_n 0, 1) := by decide +kernel
theorem dJ6_bitCount_0f7a4_24 : decode cJ6_bitCount_0f7a4 24 = .ok (.iload_n 0, 1) := by decide +kernel
theorem dJ6_bitCount_0f7a4_25 : decode cJ6_bitCount_0f7a4 25 = .ok (.iload_n 0, 1) := by decide +kernel
theorem dJ6_bitCount_0f7a4_26 : decode cJ6_bitCount_0f7a4 26 = .ok (.iconst 4, 1) := by decide +kernel
theorem dJ6_bitCount_0f7a4_27 : decode cJ6_bitCount_0f7a4 27 = .ok (.iushr, 1) := by decide +kernel
theorem dJ6_bitCount_0f7a4_28 : decode cJ6_bitCount_0f7a4 28 = .ok (.iadd, 1) := by decide +kernel
theorem dJ6_bitCount_0f7a4_29 : decode cJ6_bitCount_0f7a4 29 = .ok (.ldc_w 267, 3) := by decide +kernel
theorem dJ6_bitCount_0f7a4_32 : decode cJ6_bitCount_0f7a4 32 = .ok (.iand, 1) := by decide +kernel
theorem dJ6_bitCount_0f7a4_33 : decode cJ6_bitCount_0f7a4 33 = .ok (.istore_n 0, 1) := by decide +kernel
theorem dJ6_bitCount_0f7a4_34 : decode cJ6_bitCount_0f7a4 34 = .ok (.iload_n 0, 1) := by decide +kernel
theorem dJ6_bitCount_0f7a4_35 : decode cJ6_bitCount_0f7a4 35 = .ok (.iload_n 0, 1) := by decide +kernel
theorem dJ6_bitCount_0f7a4_36 : decode cJ6_bitCount_0f7a4 36 = .ok (.bipush 8, 2) := by decide +kernel
theorem dJ6_bitCount_0f7a4_38 : decode cJ6_bitCount_0f7a4 38 = .ok (.iushr, 1) := by decide +kernel
theorem dJ6_bitCount_0f7a4_39 : decode cJ6_bitCount_0f7a4 39 = .ok (.iadd, 1) := by decide +kernel
theorem dJ6_bitCount_0f7a4_40 : decode cJ6_bitCount_0f7a4 40 = .ok (.istore_n 0, 1) := by decide +kernel
theorem dJ6_bitCount_0f7a4_41 : decode cJ6_bitCount_0f7a4 41 = .ok (.iload_n 0, 1) := by decide +kernel
theorem dJ6_bitCount_0f7a4_42 : decode cJ6_bitCount_0f7a4 42 = .ok (.iload_n 0, 1) := by decide +kernel
theorem dJ6_bitCount_0f7a4_43 : decode cJ6_bitCount_0f7a4 43 = .ok (.bipush 16, 2) := by decide +kernel
theorem dJ6_bitCount_0f7a4_45 : decode cJ6_bitCount_0f7a4 45 = .ok (.iushr, 1) := by decide +kernel
theorem dJ6_bitCount_0f7a4_46 : decode cJ6_bitCount_0f7a4 46 = .ok (.iadd, 1) := by decide +kernel
theorem dJ6_bitCount_0f7a4_47 : decode cJ6_bitCount_0f7a4 47 = .ok (.istore_n 0, 1) := by decide +kernel
theorem dJ6_bitCount_0f7a4_48 : decode cJ6_bitCount_0f7a4 48 = .ok (.iload_n 0, 1) := by decide +kernel
theorem dJ6_bitCount_0f7a4_49 : decode cJ6_bitCount_0f7a4 49 = .ok (.bipush 63, 2) := by decide +kernel
theorem dJ6_bitCount_0f7a4_51 : decode cJ6_bitCount_0f7a4 51 = .ok (.iand, 1) := by decide +kernel
theorem dJ6_bitCount_0f7a4_52 : decode cJ6_bitCount_0f7a4 52 = .ok (.ireturn, 1) := by decide +kernel
theorem dJ7_fill_d0a16_0 : decode cJ7_fill_d0a16 0 = .ok (.iconst 0, 1) := by decide +kernel
theorem dJ7_fill_d0a16_1 : decode cJ7_fill_d0a16 1 = .ok (.istore_n 3, 1) := by decide +kernel
theorem dJ7_fill_d0a16_2 : decode cJ7_fill_d0a16 2 = .ok (.aload_n 0, 1) := by decide +kernel
theorem dJ7_fill_d0a16_3 : decode cJ7_fill_d0a16 3 = .ok (.arraylength, 1) := by decide +kernel
theorem dJ7_fill_d0a16_4 : decode cJ7_fill_d0a16 4 = .ok (.istore 4, 2) := by decide +kernel
theorem dJ7_fill_d0a16_6 : decode cJ7_fill_d0a16 6 = .ok (.iload_n 3, 1) := by decide +kernel
theorem dJ7_fill_d0a16_7 : decode cJ7_fill_d0a16 7 = .ok (.iload 4, 2) := by decide +kernel
theorem dJ7_fill_d0a16_9 : decode cJ7_fill_d0a16 9 = .ok (.if_icmp .ge 13, 3) := by decide +kernel
theorem dJ7_fill_d0a16_12 : decode cJ7_fill_d0a16 12 = .ok (.aload_n 0, 1) := by decide +kernel
theorem dJ7_fill_d0a16_13 : decode cJ7_fill_d0a16 13 = .ok (.iload_n 3, 1) := by decide +kernel
theorem dJ7_fill_d0a16_14 : decode cJ7_fill_d0a16 14 = .ok (.lload_n 1, 1) := by decide +kernel
theorem dJ7_fill_d0a16_15 : decode cJ7_fill_d0a16 15 = .ok (.lastore, 1) := by decide +kernel
theorem dJ7_fill_d0a16_16 : decode cJ7_fill_d0a16 16 = .ok (.iinc 3 1, 3) := by decide +kernel
theorem dJ7_fill_d0a16_19 : decode cJ7_fill_d0a16 19 = .ok (.goto (-13), 3) := by decide +kernel
theorem dJ7_fill_d0a16_22 : decode cJ7_fill_d0a16 22 = .ok (.return_, 1) := by decide +kernel
theorem dJ7_fill_53178_0 : decode cJ7_fill_53178 0 = .ok (.iconst 0, 1) := by decide +kernel
theorem dJ7_fill_53178_1 : decode cJ7_fill_53178 1 = .ok (.istore_n 2, 1) := by decide +kernel
theorem dJ7_fill_53178_2 : decode cJ7_fill_53178 2 = .ok (.aload_n 0, 1) := by decide +kernel
theorem dJ7_fill_53178_3 : decode cJ7_fill_53178 3 = .ok (.arraylength, 1) := by decide +kernel
theorem dJ7_fill_53178_4 : decode cJ7_fill_53178 4 = .ok (.istore_n 3, 1) := by decide +kernel
theorem dJ7_fill_53178_5 : decode cJ7_fill_53178 5 = .ok (.iload_n 2, 1) := by decide +kernel
theorem dJ7_fill_53178_6 : decode cJ7_fill_53178 6 = .ok (.iload_n 3, 1) := by decide +kernel
theorem dJ7_fill_53178_7 : decode cJ7_fill_53178 7 = .ok (.if_icmp .ge 13, 3) := by decide +kernel
theorem dJ7_fill_53178_10 : decode cJ7_fill_53178 10 = .ok (.aload_n 0, 1) := by decide +kernel
theorem dJ7_fill_53178_11 : decode cJ7_fill_53178 11 = .ok (.iload_n 2, 1) := by decide +kernel
theorem dJ7_fill_53178_12 : decode cJ7_fill_53178 12 = .ok (.iload_n 1, 1) := by decide +kernel
theorem dJ7_fill_53178_13 : decode cJ7_fill_53178 13 = .ok (.iastore, 1) := by decide +kernel
theorem dJ7_fill_53178_14 : decode cJ7_fill_53178 14 = .ok (.iinc 2 1, 3) := by decide +kernel
theorem dJ7_fill_53178_17 : decode cJ7_fill_53178 17 = .ok (.goto (-12), 3) := by decide +kernel
theorem dJ7_fill_53178_20 : decode cJ7_fill_53178 20 = .ok (.return_, 1) := by decide +kernel
theorem dJ9_abs_0f7a4_0 : decode cJ9_abs_0f7a4 0 = .ok (.iload_n 0, 1) := by decide +kernel
theorem dJ9_abs_0f7a4_1 : decode cJ9_abs_0f7a4 1 = .ok (.ifCond .ge 8, 3) := by decide +kernel
theorem dJ9_abs_0f7a4_4 : decode cJ9_abs_0f7a4 4 = .ok (.iload_n 0, 1) := by decide +kernel
theorem dJ9_abs_0f7a4_5 : decode cJ9_abs_0f7a4 5 = .ok (.ineg, 1) := by decide +kernel
theorem dJ9_abs_0f7a4_6 : decode cJ9_abs_0f7a4 6 = .ok (.goto 4, 3) := by decide +kernel
theorem dJ9_abs_0f7a4_9 : decode cJ9_abs_0f7a4 9 = .ok (.iload_n 0, 1) := by decide +kernel
theorem dJ9_abs_0f7a4_10 : decode cJ9_abs_0f7a4 10 = .ok (.ireturn, 1) := by decide +kernel
theorem dJ9_abs_067f4_0 : decode cJ9_abs_067f4 0 = .ok (.lload_n 0, 1) := by decide +kernel
theorem dJ9_abs_067f4_1 : decode cJ9_abs_067f4 1 = .ok (.lconst 0, 1) := by decide +kernel
theorem dJ9_abs_067f4_2 : decode cJ9_abs_067f4 2 = .ok (.lcmp, 1) := by decide +kernel
theorem dJ9_abs_067f4_3 : decode cJ9_abs_067f4 3 = .ok (.ifCond .ge 8, 3) := by decide +kernel
theorem dJ9_abs_067f4_6 : decode cJ9_abs_067f4 6 = .ok (.lload_n 0, 1) := by decide +kernel
theorem dJ9_abs_067f4_7 : decode cJ9_abs_067f4 7 = .ok (.lneg, 1) := by decide +kernel
theorem dJ9_abs_067f4_8 : decode cJ9_abs_067f4 8 = .ok (.goto 4, 3) := by decide +kernel
theorem dJ9_abs_067f4_11 : decode cJ9_abs_067f4 11 = .ok (.lload_n 0, 1) := by decide +kernel
theorem dJ9_abs_067f4_12 : decode cJ9_abs_067f4 12 = .ok (.lreturn, 1) := by decide +kernel
theorem dJ9_max_7cf53_0 : decode cJ9_max_7cf53 0 = .ok (.iload_n 0, 1) := by decide +kernel
theorem dJ9_max_7cf53_1 : decode cJ9_max_7cf53 1 = .ok (.iload_n 1, 1) := by decide +kernel
theorem dJ9_max_7cf53_2 : decode cJ9_max_7cf53 2 = .ok (.if_icmp .lt 7, 3) := by decide +kernel
theorem dJ9_max_7cf53_5 : decode cJ9_max_7cf53 5 = .ok (.iload_n 0, 1) := by decide +kernel
theorem dJ9_max_7cf53_6 : decode cJ9_max_7cf53 6 = .ok (.goto 4, 3) := by decide +kernel
theorem dJ9_max_7cf53_9 : decode cJ9_max_7cf53 9 = .ok (.iload_n 1, 1) := by decide +kernel
theorem dJ9_max_7cf53_10 : decode cJ9_max_7cf53 10 = .ok (.ireturn, 1) := by decide +kernel
theorem dJ9_min_7cf53_0 : decode cJ9_min_7cf53 0 = .ok (.iload_n 0, 1) := by decide +kernel
theorem dJ9_min_7cf53_1 : decode cJ9_min_7cf53 1 = .ok (.iload_n 1, 1) := by decide +kernel
theorem dJ9_min_7cf53_2 : decode cJ9_min_7cf53 2 = .ok (.if_icmp .gt 7, 3) := by decide +kernel
theorem dJ9_min_7cf53_5 : decode cJ9_min_7cf53 5 = .ok (.iload_n 0, 1) := by decide +kernel
theorem dJ9_min_7cf53_6 : decode cJ9_min_7cf53 6 = .ok (.goto 4, 3) := by decide +kernel
theorem dJ9_min_7cf53_9 : decode cJ9_min_7cf53 9 = .ok (.iload_n 1, 1) := by decide +kernel
theorem dJ9_min_7cf53_10 : decode cJ9_min_7cf53 10 = .ok (.ireturn, 1) := by decide +kernel
theorem dJ11_isValidCodePoint_9a6ad_0 : decode cJ11_isValidCodePoint_9a6ad 0 = .ok (.iload_n 0, 1) := by decide +kernel
theorem dJ11_isValidCodePoint_9a6ad_1 : decode cJ11_isValidCodePoint_9a6ad 1 = .ok (.bipush 16, 2) := by decide +kernel
theorem dJ11_isValidCodePoint_9a6ad_3 : decode cJ11_isValidCodePoint_9a6ad 3 = .ok (.iushr, 1) := by decide +kernel
theorem dJ11_isValidCodePoint_9a6ad_4 : decode cJ11_isValidCodePoint_9a6ad 4 = .ok (.istore_n 1, 1) := by decide +kernel
theorem dJ11_isValidCodePoint_9a6ad_5 : decode cJ11_isValidCodePoint_9a6ad 5 = .ok (.iload_n 1, 1) := by decide +kernel
theorem dJ11_isValidCodePoint_9a6ad_6 : decode cJ11_isValidCodePoint_9a6ad 6 = .ok (.bipush 17, 2) := by decide +kernel
theorem dJ11_isValidCodePoint_9a6ad_8 : decode cJ11_isValidCodePoint_9a6ad 8 = .ok (.if_icmp .ge 7, 3) := by decide +kernel
theorem dJ11_isValidCodePoint_9a6ad_11 : decode cJ11_isValidCodePoint_9a6ad 11 = .ok (.iconst 1, 1) := by decide +kernel
theorem dJ11_isValidCodePoint_9a6ad_12 : decode cJ11_isValidCodePoint_9a6ad 12 = .ok (.goto 4, 3) := by decide +kernel
theorem dJ11_isValidCodePoint_9a6ad_15 : decode cJ11_isValidCodePoint_9a6ad 15 = .ok (.iconst 0, 1) := by decide +kernel
theorem dJ11_isValidCodePoint_9a6ad_16 : decode cJ11_isValidCodePoint_9a6ad 16 = .ok (.ireturn, 1) := by decide +kernel
theorem dJ11_highSurrogate_5068e_0 : decode cJ11_highSurrogate_5068e 0 = .ok (.iload_n 0, 1) := by decide +kernel
theorem dJ11_highSurrogate_5068e_1 : decode cJ11_highSurrogate_5068e 1 = .ok (.bipush 10, 2) := by decide +kernel
theorem dJ11_highSurrogate_5068e_3 : decode cJ11_highSurrogate_5068e 3 = .ok (.iushr, 1) := by decide +kernel
theorem dJ11_highSurrogate_5068e_4 : decode cJ11_highSurrogate_5068e 4 = .ok (.ldc 110, 2) := by decide +kernel
theorem dJ11_highSurrogate_5068e_6 : decode cJ11_highSurrogate_5068e 6 = .ok (.iadd, 1) := by decide +kernel
theorem dJ11_highSurrogate_5068e_7 : decode cJ11_highSurrogate_5068e 7 = .ok (.i2c, 1) := by decide +kernel
theorem dJ11_highSurrogate_5068e_8 : decode cJ11_highSurrogate_5068e 8 = .ok (.ireturn, 1) := by decide +kernel
theorem dJ11_lowSurrogate_5068e_0 : decode cJ11_lowSurrogate_5068e 0 = .ok (.iload_n 0, 1) := by decide +kernel
theorem dJ11_lowSurrogate_5068e_1 : decode cJ11_lowSurrogate_5068e 1 = .ok (.sipush 1023, 3) := by decide +kernel
theorem dJ11_lowSurrogate_5068e_4 : decode cJ11_lowSurrogate_5068e 4 = .ok (.iand, 1) := by decide +kernel
theorem dJ11_lowSurrogate_5068e_5 : decode cJ11_lowSurrogate_5068e 5 = .ok (.ldc 76, 2) := by decide +kernel
theorem dJ11_lowSurrogate_5068e_7 : decode cJ11_lowSurrogate_5068e 7 = .ok (.iadd, 1) := by decide +kernel
theorem dJ11_lowSurrogate_5068e_8 : decode cJ11_lowSurrogate_5068e 8 = .ok (.i2c, 1) := by decide +kernel
theorem dJ11_lowSurrogate_5068e_9 : decode cJ11_lowSurrogate_5068e 9 = .ok (.ireturn, 1) := by decide +kernel
