theorem dX12_oddsOf_65 : decode cX12_oddsOf 65 = .ok (.imul, 1) := by decide +kernel
theorem dX12_oddsOf_66 : decode cX12_oddsOf 66 = .ok (.iadd, 1) := by decide +kernel
theorem dX12_oddsOf_67 : decode cX12_oddsOf 67 = .ok (.iconst 5, 1) := by decide +kernel
theorem dX12_oddsOf_68 : decode cX12_oddsOf 68 = .ok (.iadd, 1) := by decide +kernel
theorem dX12_oddsOf_69 : decode cX12_oddsOf 69 = .ok (.istore 5, 2) := by decide +kernel
theorem dX12_oddsOf_71 : decode cX12_oddsOf 71 = .ok (.goto 55, 3) := by decide +kernel
theorem dX12_oddsOf_74 : decode cX12_oddsOf 74 = .ok (.aload_n 0, 1) := by decide +kernel
theorem dX12_oddsOf_75 : decode cX12_oddsOf 75 = .ok (.aload_n 0, 1) := by decide +kernel
theorem dX12_oddsOf_76 : decode cX12_oddsOf 76 = .ok (.getfield 58, 3) := by decide +kernel
theorem dX12_oddsOf_79 : decode cX12_oddsOf 79 = .ok (.aload_n 0, 1) := by decide +kernel
theorem dX12_oddsOf_80 : decode cX12_oddsOf 80 = .ok (.getfield 235, 3) := by decide +kernel
theorem dX12_oddsOf_83 : decode cX12_oddsOf 83 = .ok (.bipush 40, 2) := by decide +kernel
theorem dX12_oddsOf_85 : decode cX12_oddsOf 85 = .ok (.invokevirtual 185, 3) := by decide +kernel
theorem dX12_oddsOf_88 : decode cX12_oddsOf 88 = .ok (.aload_n 0, 1) := by decide +kernel
theorem dX12_oddsOf_89 : decode cX12_oddsOf 89 = .ok (.iconst 1, 1) := by decide +kernel
theorem dX12_oddsOf_90 : decode cX12_oddsOf 90 = .ok (.putfield 213, 3) := by decide +kernel
theorem dX12_oddsOf_93 : decode cX12_oddsOf 93 = .ok (.aload_n 0, 1) := by decide +kernel
theorem dX12_oddsOf_94 : decode cX12_oddsOf 94 = .ok (.iload_n 1, 1) := by decide +kernel
theorem dX12_oddsOf_95 : decode cX12_oddsOf 95 = .ok (.putfield 223, 3) := by decide +kernel
theorem dX12_oddsOf_98 : decode cX12_oddsOf 98 = .ok (.aload_n 0, 1) := by decide +kernel
theorem dX12_oddsOf_99 : decode cX12_oddsOf 99 = .ok (.iload_n 2, 1) := by decide +kernel
theorem dX12_oddsOf_100 : decode cX12_oddsOf 100 = .ok (.putfield 226, 3) := by decide +kernel
theorem dX12_oddsOf_103 : decode cX12_oddsOf 103 = .ok (.aload_n 0, 1) := by decide +kernel
theorem dX12_oddsOf_104 : decode cX12_oddsOf 104 = .ok (.iload_n 3, 1) := by decide +kernel
theorem dX12_oddsOf_105 : decode cX12_oddsOf 105 = .ok (.putfield 229, 3) := by decide +kernel
theorem dX12_oddsOf_108 : decode cX12_oddsOf 108 = .ok (.aload_n 0, 1) := by decide +kernel
theorem dX12_oddsOf_109 : decode cX12_oddsOf 109 = .ok (.iload 4, 2) := by decide +kernel
theorem dX12_oddsOf_111 : decode cX12_oddsOf 111 = .ok (.putfield 220, 3) := by decide +kernel
theorem dX12_oddsOf_114 : decode cX12_oddsOf 114 = .ok (.aload_n 0, 1) := by decide +kernel
theorem dX12_oddsOf_115 : decode cX12_oddsOf 115 = .ok (.iconst 0, 1) := by decide +kernel
theorem dX12_oddsOf_116 : decode cX12_oddsOf 116 = .ok (.invokevirtual 210, 3) := by decide +kernel
theorem dX12_oddsOf_119 : decode cX12_oddsOf 119 = .ok (.istore 5, 2) := by decide +kernel
theorem dX12_oddsOf_121 : decode cX12_oddsOf 121 = .ok (.aload_n 0, 1) := by decide +kernel
theorem dX12_oddsOf_122 : decode cX12_oddsOf 122 = .ok (.iconst 0, 1) := by decide +kernel
theorem dX12_oddsOf_123 : decode cX12_oddsOf 123 = .ok (.putfield 213, 3) := by decide +kernel
theorem dX12_oddsOf_126 : decode cX12_oddsOf 126 = .ok (.iconst 0, 1) := by decide +kernel
theorem dX12_oddsOf_127 : decode cX12_oddsOf 127 = .ok (.bipush 100, 2) := by decide +kernel
theorem dX12_oddsOf_129 : decode cX12_oddsOf 129 = .ok (.iload 5, 2) := by decide +kernel
theorem dX12_oddsOf_131 : decode cX12_oddsOf 131 = .ok (.invokestatic 238, 3) := by decide +kernel
theorem dX12_oddsOf_134 : decode cX12_oddsOf 134 = .ok (.invokestatic 243, 3) := by decide +kernel
theorem dX12_oddsOf_137 : decode cX12_oddsOf 137 = .ok (.ireturn, 1) := by decide +kernel
theorem dX12_oddsOf__0 : decode cX12_oddsOf_ 0 = .ok (.aload_n 0, 1) := by decide +kernel
theorem dX12_oddsOf__1 : decode cX12_oddsOf_ 1 = .ok (.iload_n 1, 1) := by decide +kernel
theorem dX12_oddsOf__2 : decode cX12_oddsOf_ 2 = .ok (.iload_n 2, 1) := by decide +kernel
theorem dX12_oddsOf__3 : decode cX12_oddsOf_ 3 = .ok (.iload_n 3, 1) := by decide +kernel
theorem dX12_oddsOf__4 : decode cX12_oddsOf_ 4 = .ok (.aload_n 0, 1) := by decide +kernel
theorem dX12_oddsOf__5 : decode cX12_oddsOf_ 5 = .ok (.getfield 16, 3) := by decide +kernel
theorem dX12_oddsOf__8 : decode cX12_oddsOf_ 8 = .ok (.iload_n 2, 1) := by decide +kernel
theorem dX12_oddsOf__9 : decode cX12_oddsOf_ 9 = .ok (.iaload, 1) := by decide +kernel
theorem dX12_oddsOf__10 : decode cX12_oddsOf_ 10 = .ok (.invokevirtual 246, 3) := by decide +kernel
theorem dX12_oddsOf__13 : decode cX12_oddsOf_ 13 = .ok (.ireturn, 1) := by decide +kernel
theorem dX12_refusalOf_0 : decode cX12_refusalOf 0 = .ok (.bipush 8, 2) := by decide +kernel
theorem dX12_refusalOf_2 : decode cX12_refusalOf 2 = .ok (.iconst 0, 1) := by decide +kernel
theorem dX12_refusalOf_3 : decode cX12_refusalOf 3 = .ok (.aload_n 0, 1) := by decide +kernel
theorem dX12_refusalOf_4 : decode cX12_refusalOf 4 = .ok (.iload_n 1, 1) := by decide +kernel
theorem dX12_refusalOf_5 : decode cX12_refusalOf 5 = .ok (.aload_n 0, 1) := by decide +kernel
theorem dX12_refusalOf_6 : decode cX12_refusalOf 6 = .ok (.getfield 19, 3) := by decide +kernel
theorem dX12_refusalOf_9 : decode cX12_refusalOf 9 = .ok (.iload_n 2, 1) := by decide +kernel
theorem dX12_refusalOf_10 : decode cX12_refusalOf 10 = .ok (.iaload, 1) := by decide +kernel
theorem dX12_refusalOf_11 : decode cX12_refusalOf 11 = .ok (.invokevirtual 232, 3) := by decide +kernel
theorem dX12_refusalOf_14 : decode cX12_refusalOf 14 = .ok (.iconst 2, 1) := by decide +kernel
theorem dX12_refusalOf_15 : decode cX12_refusalOf 15 = .ok (.isub, 1) := by decide +kernel
theorem dX12_refusalOf_16 : decode cX12_refusalOf 16 = .ok (.invokestatic 243, 3) := by decide +kernel
theorem dX12_refusalOf_19 : decode cX12_refusalOf 19 = .ok (.imul, 1) := by decide +kernel
theorem dX12_refusalOf_20 : decode cX12_refusalOf 20 = .ok (.aload_n 0, 1) := by decide +kernel
theorem dX12_refusalOf_21 : decode cX12_refusalOf 21 = .ok (.getfield 13, 3) := by decide +kernel
theorem dX12_refusalOf_24 : decode cX12_refusalOf 24 = .ok (.iload_n 2, 1) := by decide +kernel
theorem dX12_refusalOf_25 : decode cX12_refusalOf 25 = .ok (.iaload, 1) := by decide +kernel
theorem dX12_refusalOf_26 : decode cX12_refusalOf 26 = .ok (.iconst 3, 1) := by decide +kernel
theorem dX12_refusalOf_27 : decode cX12_refusalOf 27 = .ok (.if_icmp .ne 21, 3) := by decide +kernel
theorem dX12_refusalOf_30 : decode cX12_refusalOf 30 = .ok (.aload_n 0, 1) := by decide +kernel
theorem dX12_refusalOf_31 : decode cX12_refusalOf 31 = .ok (.getfield 32, 3) := by decide +kernel
theorem dX12_refusalOf_34 : decode cX12_refusalOf 34 = .ok (.iconst 4, 1) := by decide +kernel
theorem dX12_refusalOf_35 : decode cX12_refusalOf 35 = .ok (.iload_n 1, 1) := by decide +kernel
theorem dX12_refusalOf_36 : decode cX12_refusalOf 36 = .ok (.imul, 1) := by decide +kernel
theorem dX12_refusalOf_37 : decode cX12_refusalOf 37 = .ok (.iconst 3, 1) := by decide +kernel
theorem dX12_refusalOf_38 : decode cX12_refusalOf 38 = .ok (.iadd, 1) := by decide +kernel
theorem dX12_refusalOf_39 : decode cX12_refusalOf 39 = .ok (.iaload, 1) := by decide +kernel
theorem dX12_refusalOf_40 : decode cX12_refusalOf 40 = .ok (.iconst 5, 1) := by decide +kernel
theorem dX12_refusalOf_41 : decode cX12_refusalOf 41 = .ok (.if_icmp .ge 7, 3) := by decide +kernel
theorem dX12_refusalOf_44 : decode cX12_refusalOf 44 = .ok (.iconst 5, 1) := by decide +kernel
theorem dX12_refusalOf_45 : decode cX12_refusalOf 45 = .ok (.goto 4, 3) := by decide +kernel
theorem dX12_refusalOf_48 : decode cX12_refusalOf 48 = .ok (.iconst 0, 1) := by decide +kernel
theorem dX12_refusalOf_49 : decode cX12_refusalOf 49 = .ok (.iadd, 1) := by decide +kernel
theorem dX12_refusalOf_50 : decode cX12_refusalOf 50 = .ok (.ireturn, 1) := by decide +kernel
theorem dX12_letterOf_0 : decode cX12_letterOf 0 = .ok (.aload_n 0, 1) := by decide +kernel
theorem dX12_letterOf_1 : decode cX12_letterOf 1 = .ok (.getfield 35, 3) := by decide +kernel
theorem dX12_letterOf_4 : decode cX12_letterOf 4 = .ok (.bipush 8, 2) := by decide +kernel
theorem dX12_letterOf_6 : decode cX12_letterOf 6 = .ok (.iload_n 1, 1) := by decide +kernel
theorem dX12_letterOf_7 : decode cX12_letterOf 7 = .ok (.imul, 1) := by decide +kernel
theorem dX12_letterOf_8 : decode cX12_letterOf 8 = .ok (.iload_n 2, 1) := by decide +kernel
theorem dX12_letterOf_9 : decode cX12_letterOf 9 = .ok (.iadd, 1) := by decide +kernel
theorem dX12_letterOf_10 : decode cX12_letterOf 10 = .ok (.iaload, 1) := by decide +kernel
theorem dX12_letterOf_11 : decode cX12_letterOf 11 = .ok (.ireturn, 1) := by decide +kernel
theorem dX12_fence_0 : decode cX12_fence 0 = .ok (.aload_n 0, 1) := by decide +kernel
theorem dX12_fence_1 : decode cX12_fence 1 = .ok (.iconst 0, 1) := by decide +kernel
theorem dX12_fence_2 : decode cX12_fence 2 = .ok (.putfield 113, 3) := by decide +kernel
theorem dX12_fence_5 : decode cX12_fence 5 = .ok (.aload_n 0, 1) := by decide +kernel
theorem dX12_fence_6 : decode cX12_fence 6 = .ok (.iload_n 1, 1) := by decide +kernel
theorem dX12_fence_7 : decode cX12_fence 7 = .ok (.invokevirtual 250, 3) := by decide +kernel
theorem dX12_fence_10 : decode cX12_fence 10 = .ok (.ifCond .eq 12, 3) := by decide +kernel
theorem dX12_fence_13 : decode cX12_fence 13 = .ok (.iload_n 2, 1) := by decide +kernel
theorem dX12_fence_14 : decode cX12_fence 14 = .ok (.iconst 0, 1) := by decide +kernel
theorem dX12_fence_15 : decode cX12_fence 15 = .ok (.iconst 2, 1) := by decide +kernel
theorem dX12_fence_16 : decode cX12_fence 16 = .ok (.invokestatic 122, 3) := by decide +kernel
theorem dX12_fence_19 : decode cX12_fence 19 = .ok (.ifCond .ne 8, 3) := by decide +kernel
theorem dX12_fence_22 : decode cX12_fence 22 = .ok (.aload_n 0, 1) := by decide +kernel
theorem dX12_fence_23 : decode cX12_fence 23 = .ok (.invokevirtual 253, 3) := by decide +kernel
theorem dX12_fence_26 : decode cX12_fence 26 = .ok (.ireturn, 1) := by decide +kernel
theorem dX12_fence_27 : decode cX12_fence 27 = .ok (.iload_n 2, 1) := by decide +kernel
theorem dX12_fence_28 : decode cX12_fence 28 = .ok (.ifCond .ne 12, 3) := by decide +kernel
theorem dX12_fence_31 : decode cX12_fence 31 = .ok (.aload_n 0, 1) := by decide +kernel
theorem dX12_fence_32 : decode cX12_fence 32 = .ok (.getfield 13, 3) := by decide +kernel
theorem dX12_fence_35 : decode cX12_fence 35 = .ok (.iload_n 1, 1) := by decide +kernel
theorem dX12_fence_36 : decode cX12_fence 36 = .ok (.iaload, 1) := by decide +kernel
theorem dX12_fence_37 : decode cX12_fence 37 = .ok (.goto 23, 3) := by decide +kernel
theorem dX12_fence_40 : decode cX12_fence 40 = .ok (.iload_n 2, 1) := by decide +kernel
theorem dX12_fence_41 : decode cX12_fence 41 = .ok (.iconst 1, 1) := by decide +kernel
theorem dX12_fence_42 : decode cX12_fence 42 = .ok (.if_icmp .ne 12, 3) := by decide +kernel
theorem dX12_fence_45 : decode cX12_fence 45 = .ok (.aload_n 0, 1) := by decide +kernel
theorem dX12_fence_46 : decode cX12_fence 46 = .ok (.getfield 16, 3) := by decide +kernel
theorem dX12_fence_49 : decode cX12_fence 49 = .ok (.iload_n 1, 1) := by decide +kernel
theorem dX12_fence_50 : decode cX12_fence 50 = .ok (.iaload, 1) := by decide +kernel
theorem dX12_fence_51 : decode cX12_fence 51 = .ok (.goto 9, 3) := by decide +kernel
theorem dX12_fence_54 : decode cX12_fence 54 = .ok (.aload_n 0, 1) := by decide +kernel
theorem dX12_fence_55 : decode cX12_fence 55 = .ok (.getfield 19, 3) := by decide +kernel
theorem dX12_fence_58 : decode cX12_fence 58 = .ok (.iload_n 1, 1) := by decide +kernel
theorem dX12_fence_59 : decode cX12_fence 59 = .ok (.iaload, 1) := by decide +kernel
theorem dX12_fence_60 : decode cX12_fence 60 = .ok (.ireturn, 1) := by decide +kernel
theorem dX12_horse_0 : decode cX12_horse 0 = .ok (.aload_n 0, 1) := by decide +kernel
theorem dX12_horse_1 : decode cX12_horse 1 = .ok (.iconst 0, 1) := by decide +kernel
theorem dX12_horse_2 : decode cX12_horse 2 = .ok (.putfield 113, 3) := by decide +kernel
theorem dX12_horse_5 : decode cX12_horse 5 = .ok (.aload_n 0, 1) := by decide +kernel
theorem dX12_horse_6 : decode cX12_horse 6 = .ok (.iload_n 1, 1) := by decide +kernel
theorem dX12_horse_7 : decode cX12_horse 7 = .ok (.invokevirtual 132, 3) := by decide +kernel
theorem dX12_horse_10 : decode cX12_horse 10 = .ok (.ifCond .eq 12, 3) := by decide +kernel
theorem dX12_horse_13 : decode cX12_horse 13 = .ok (.iload_n 2, 1) := by decide +kernel
theorem dX12_horse_14 : decode cX12_horse 14 = .ok (.iconst 0, 1) := by decide +kernel
theorem dX12_horse_15 : decode cX12_horse 15 = .ok (.iconst 5, 1) := by decide +kernel
theorem dX12_horse_16 : decode cX12_horse 16 = .ok (.invokestatic 122, 3) := by decide +kernel
theorem dX12_horse_19 : decode cX12_horse 19 = .ok (.ifCond .ne 8, 3) := by decide +kernel
theorem dX12_horse_22 : decode cX12_horse 22 = .ok (.aload_n 0, 1) := by decide +kernel
theorem dX12_horse_23 : decode cX12_horse 23 = .ok (.invokevirtual 253, 3) := by decide +kernel
theorem dX12_horse_26 : decode cX12_horse 26 = .ok (.ireturn, 1) := by decide +kernel
theorem dX12_horse_27 : decode cX12_horse 27 = .ok (.iload_n 2, 1) := by decide +kernel
theorem dX12_horse_28 : decode cX12_horse 28 = .ok (.ifCond .ne 12, 3) := by decide +kernel
theorem dX12_horse_31 : decode cX12_horse 31 = .ok (.aload_n 0, 1) := by decide +kernel
theorem dX12_horse_32 : decode cX12_horse 32 = .ok (.getfield 26, 3) := by decide +kernel
theorem dX12_horse_35 : decode cX12_horse 35 = .ok (.iload_n 1, 1) := by decide +kernel
theorem dX12_horse_36 : decode cX12_horse 36 = .ok (.iaload, 1) := by decide +kernel
theorem dX12_horse_37 : decode cX12_horse 37 = .ok (.goto 29, 3) := by decide +kernel
theorem dX12_horse_40 : decode cX12_horse 40 = .ok (.iload_n 2, 1) := by decide +kernel
theorem dX12_horse_41 : decode cX12_horse 41 = .ok (.iconst 1, 1) := by decide +kernel
theorem dX12_horse_42 : decode cX12_horse 42 = .ok (.if_icmp .ne 12, 3) := by decide +kernel
theorem dX12_horse_45 : decode cX12_horse 45 = .ok (.aload_n 0, 1) := by decide +kernel
theorem dX12_horse_46 : decode cX12_horse 46 = .ok (.getfield 29, 3) := by decide +kernel
theorem dX12_horse_49 : decode cX12_horse 49 = .ok (.iload_n 1, 1) := by decide +kernel
theorem dX12_horse_50 : decode cX12_horse 50 = .ok (.iaload, 1) := by decide +kernel
theorem dX12_horse_51 : decode cX12_horse 51 = .ok (.goto 15, 3) := by decide +kernel
theorem dX12_horse_54 : decode cX12_horse 54 = .ok (.aload_n 0, 1) := by decide +kernel
theorem dX12_horse_55 : decode cX12_horse 55 = .ok (.getfield 32, 3) := by decide +kernel
theorem dX12_horse_58 : decode cX12_horse 58 = .ok (.iconst 4, 1) := by decide +kernel
theorem dX12_horse_59 : decode cX12_horse 59 = .ok (.iload_n 1, 1) := by decide +kernel
theorem dX12_horse_60 : decode cX12_horse 60 = .ok (.imul, 1) := by decide +kernel
theorem dX12_horse_61 : decode cX12_horse 61 = .ok (.iload_n 2, 1) := by decide +kernel
theorem dX12_horse_62 : decode cX12_horse 62 = .ok (.iadd, 1) := by decide +kernel
theorem dX12_horse_63 : decode cX12_horse 63 = .ok (.iconst 2, 1) := by decide +kernel
theorem dX12_horse_64 : decode cX12_horse 64 = .ok (.isub, 1) := by decide +kernel
theorem dX12_horse_65 : decode cX12_horse 65 = .ok (.iaload, 1) := by decide +kernel
theorem dX12_horse_66 : decode cX12_horse 66 = .ok (.ireturn, 1) := by decide +kernel
theorem dX12_raise_0 : decode cX12_raise 0 = .ok (.aload_n 0, 1) := by decide +kernel
theorem dX12_raise_1 : decode cX12_raise 1 = .ok (.iconst 0, 1) := by decide +kernel
theorem dX12_raise_2 : decode cX12_raise 2 = .ok (.putfield 113, 3) := by decide +kernel
theorem dX12_raise_5 : decode cX12_raise 5 = .ok (.aload_n 0, 1) := by decide +kernel
theorem dX12_raise_6 : decode cX12_raise 6 = .ok (.iload_n 1, 1) := by decide +kernel
theorem dX12_raise_7 : decode cX12_raise 7 = .ok (.invokevirtual 250, 3) := by decide +kernel
theorem dX12_raise_10 : decode cX12_raise 10 = .ok (.ifCond .eq 13, 3) := by decide +kernel
theorem dX12_raise_13 : decode cX12_raise 13 = .ok (.iload_n 2, 1) := by decide +kernel
theorem dX12_raise_14 : decode cX12_raise 14 = .ok (.iconst 0, 1) := by decide +kernel
theorem dX12_raise_15 : decode cX12_raise 15 = .ok (.bipush 9, 2) := by decide +kernel
theorem dX12_raise_17 : decode cX12_raise 17 = .ok (.invokestatic 122, 3) := by decide +kernel
theorem dX12_raise_20 : decode cX12_raise 20 = .ok (.ifCond .ne 5, 3) := by decide +kernel
theorem dX12_raise_23 : decode cX12_raise 23 = .ok (.iconst (-1), 1) := by decide +kernel
theorem dX12_raise_24 : decode cX12_raise 24 = .ok (.ireturn, 1) := by decide +kernel
theorem dX12_raise_25 : decode cX12_raise 25 = .ok (.aload_n 0, 1) := by decide +kernel
theorem dX12_raise_26 : decode cX12_raise 26 = .ok (.getfield 16, 3) := by decide +kernel
theorem dX12_raise_29 : decode cX12_raise 29 = .ok (.iload_n 1, 1) := by decide +kernel
theorem dX12_raise_30 : decode cX12_raise 30 = .ok (.iaload, 1) := by decide +kernel
theorem dX12_raise_31 : decode cX12_raise 31 = .ok (.istore_n 3, 1) := by decide +kernel
theorem dX12_raise_32 : decode cX12_raise 32 = .ok (.aload_n 0, 1) := by decide +kernel
theorem dX12_raise_33 : decode cX12_raise 33 = .ok (.getfield 16, 3) := by decide +kernel
theorem dX12_raise_36 : decode cX12_raise 36 = .ok (.iload_n 1, 1) := by decide +kernel
theorem dX12_raise_37 : decode cX12_raise 37 = .ok (.iload_n 2, 1) := by decide +kernel
theorem dX12_raise_38 : decode cX12_raise 38 = .ok (.iastore, 1) := by decide +kernel
theorem dX12_raise_39 : decode cX12_raise 39 = .ok (.iload_n 3, 1) := by decide +kernel
theorem dX12_raise_40 : decode cX12_raise 40 = .ok (.ireturn, 1) := by decide +kernel
theorem dX12_move_0 : decode cX12_move 0 = .ok (.aload_n 0, 1) := by decide +kernel
theorem dX12_move_1 : decode cX12_move 1 = .ok (.iconst 0, 1) := by decide +kernel
theorem dX12_move_2 : decode cX12_move 2 = .ok (.putfield 113, 3) := by decide +kernel
theorem dX12_move_5 : decode cX12_move 5 = .ok (.aload_n 0, 1) := by decide +kernel
theorem dX12_move_6 : decode cX12_move 6 = .ok (.iload_n 1, 1) := by decide +kernel
theorem dX12_move_7 : decode cX12_move 7 = .ok (.invokevirtual 250, 3) := by decide +kernel
theorem dX12_move_10 : decode cX12_move 10 = .ok (.ifCond .eq 14, 3) := by decide +kernel
theorem dX12_move_13 : decode cX12_move 13 = .ok (.iload_n 2, 1) := by decide +kernel
theorem dX12_move_14 : decode cX12_move 14 = .ok (.bipush 10, 2) := by decide +kernel
theorem dX12_move_16 : decode cX12_move 16 = .ok (.bipush 99, 2) := by decide +kernel
theorem dX12_move_18 : decode cX12_move 18 = .ok (.invokestatic 122, 3) := by decide +kernel
theorem dX12_move_21 : decode cX12_move 21 = .ok (.ifCond .ne 5, 3) := by decide +kernel
theorem dX12_move_24 : decode cX12_move 24 = .ok (.iconst (-1), 1) := by decide +kernel
theorem dX12_move_25 : decode cX12_move 25 = .ok (.ireturn, 1) := by decide +kernel
theorem dX12_move_26 : decode cX12_move 26 = .ok (.aload_n 0, 1) := by decide +kernel
theorem dX12_move_27 : decode cX12_move 27 = .ok (.getfield 19, 3) := by decide +kernel
theorem dX12_move_30 : decode cX12_move 30 = .ok (.iload_n 1, 1) := by decide +kernel
theorem dX12_move_31 : decode cX12_move 31 = .ok (.iaload, 1) := by decide +kernel
theorem dX12_move_32 : decode cX12_move 32 = .ok (.istore_n 3, 1) := by decide +kernel
theorem dX12_move_33 : decode cX12_move 33 = .ok (.aload_n 0, 1) := by decide +kernel
theorem dX12_move_34 : decode cX12_move 34 = .ok (.getfield 19, 3) := by decide +kernel
theorem dX12_move_37 : decode cX12_move 37 = .ok (.iload_n 1, 1) := by decide +kernel
theorem dX12_move_38 : decode cX12_move 38 = .ok (.iload_n 2, 1) := by decide +kernel
theorem dX12_move_39 : decode cX12_move 39 = .ok (.iastore, 1) := by decide +kernel
theorem dX12_move_40 : decode cX12_move 40 = .ok (.iload_n 3, 1) := by decide +kernel
theorem dX12_move_41 : decode cX12_move 41 = .ok (.ireturn, 1) := by decide +kernel
theorem dX12_allow_0 : decode cX12_allow 0 = .ok (.aload_n 0, 1) := by decide +kernel
theorem dX12_allow_1 : decode cX12_allow 1 = .ok (.iconst 0, 1) := by decide +kernel
theorem dX12_allow_2 : decode cX12_allow 2 = .ok (.putfield 113, 3) := by decide +kernel
theorem dX12_allow_5 : decode cX12_allow 5 = .ok (.iload_n 1, 1) := by decide +kernel
theorem dX12_allow_6 : decode cX12_allow 6 = .ok (.invokestatic 256, 3) := by decide +kernel
theorem dX12_allow_9 : decode cX12_allow 9 = .ok (.ifCond .ne 5, 3) := by decide +kernel
theorem dX12_allow_12 : decode cX12_allow 12 = .ok (.iconst (-1), 1) := by decide +kernel
theorem dX12_allow_13 : decode cX12_allow 13 = .ok (.ireturn, 1) := by decide +kernel
theorem dX12_allow_14 : decode cX12_allow 14 = .ok (.aload_n 0, 1) := by decide +kernel
theorem dX12_allow_15 : decode cX12_allow 15 = .ok (.getfield 22, 3) := by decide +kernel
theorem dX12_allow_18 : decode cX12_allow 18 = .ok (.istore_n 2, 1) := by decide +kernel
theorem dX12_allow_19 : decode cX12_allow 19 = .ok (.aload_n 0, 1) := by decide +kernel
theorem dX12_allow_20 : decode cX12_allow 20 = .ok (.iload_n 1, 1) := by decide +kernel
theorem dX12_allow_21 : decode cX12_allow 21 = .ok (.putfield 22, 3) := by decide +kernel
theorem dX12_allow_24 : decode cX12_allow 24 = .ok (.iload_n 2, 1) := by decide +kernel
theorem dX12_allow_25 : decode cX12_allow 25 = .ok (.ireturn, 1) := by decide +kernel
theorem dX12_sheet_0 : decode cX12_sheet 0 = .ok (.aload_n 0, 1) := by decide +kernel
theorem dX12_sheet_1 : decode cX12_sheet 1 = .ok (.iconst 0, 1) := by decide +kernel
theorem dX12_sheet_2 : decode cX12_sheet 2 = .ok (.putfield 113, 3) := by decide +kernel
theorem dX12_sheet_5 : decode cX12_sheet 5 = .ok (.iload_n 1, 1) := by decide +kernel
theorem dX12_sheet_6 : decode cX12_sheet 6 = .ok (.iconst 0, 1) := by decide +kernel
theorem dX12_sheet_7 : decode cX12_sheet 7 = .ok (.iconst 3, 1) := by decide +kernel
theorem dX12_sheet_8 : decode cX12_sheet 8 = .ok (.invokestatic 122, 3) := by decide +kernel
theorem dX12_sheet_11 : decode cX12_sheet 11 = .ok (.ifCond .eq 9, 3) := by decide +kernel
theorem dX12_sheet_14 : decode cX12_sheet 14 = .ok (.iload_n 2, 1) := by decide +kernel
theorem dX12_sheet_15 : decode cX12_sheet 15 = .ok (.bipush 8, 2) := by decide +kernel
theorem dX12_sheet_17 : decode cX12_sheet 17 = .ok (.if_icmp .le 5, 3) := by decide +kernel
theorem dX12_sheet_20 : decode cX12_sheet 20 = .ok (.iconst (-1), 1) := by decide +kernel
theorem dX12_sheet_21 : decode cX12_sheet 21 = .ok (.ireturn, 1) := by decide +kernel
theorem dX12_sheet_22 : decode cX12_sheet 22 = .ok (.iload_n 1, 1) := by decide +kernel
theorem dX12_sheet_23 : decode cX12_sheet 23 = .ok (.iconst 3, 1) := by decide +kernel
theorem dX12_sheet_24 : decode cX12_sheet 24 = .ok (.if_icmp .ge 10, 3) := by decide +kernel
theorem dX12_sheet_27 : decode cX12_sheet 27 = .ok (.iload_n 2, 1) := by decide +kernel
theorem dX12_sheet_28 : decode cX12_sheet 28 = .ok (.ifCond .ge 6, 3) := by decide +kernel
theorem dX12_sheet_31 : decode cX12_sheet 31 = .ok (.bipush (-2), 2) := by decide +kernel
theorem dX12_sheet_33 : decode cX12_sheet 33 = .ok (.ireturn, 1) := by decide +kernel
theorem dX12_sheet_34 : decode cX12_sheet 34 = .ok (.iconst 0, 1) := by decide +kernel
theorem dX12_sheet_35 : decode cX12_sheet 35 = .ok (.istore 5, 2) := by decide +kernel
theorem dX12_sheet_37 : decode cX12_sheet 37 = .ok (.iload_n 3, 1) := by decide +kernel
theorem dX12_sheet_38 : decode cX12_sheet 38 = .ok (.istore 6, 2) := by decide +kernel
theorem dX12_sheet_40 : decode cX12_sheet 40 = .ok (.iconst 0, 1) := by decide +kernel
theorem dX12_sheet_41 : decode cX12_sheet 41 = .ok (.istore 7, 2) := by decide +kernel
theorem dX12_sheet_43 : decode cX12_sheet 43 = .ok (.iload 7, 2) := by decide +kernel
theorem dX12_sheet_45 : decode cX12_sheet 45 = .ok (.aload_n 0, 1) := by decide +kernel
theorem dX12_sheet_46 : decode cX12_sheet 46 = .ok (.getfield 119, 3) := by decide +kernel
theorem dX12_sheet_49 : decode cX12_sheet 49 = .ok (.if_icmp .ge 86, 3) := by decide +kernel
theorem dX12_sheet_52 : decode cX12_sheet 52 = .ok (.iload_n 1, 1) := by decide +kernel
theorem dX12_sheet_53 : decode cX12_sheet 53 = .ok (.ifCond .ne 9, 3) := by decide +kernel
theorem dX12_sheet_56 : decode cX12_sheet 56 = .ok (.iload 6, 2) := by decide +kernel
theorem dX12_sheet_58 : decode cX12_sheet 58 = .ok (.i2b, 1) := by decide +kernel
theorem dX12_sheet_59 : decode cX12_sheet 59 = .ok (.goto 16, 3) := by decide +kernel
theorem dX12_sheet_62 : decode cX12_sheet 62 = .ok (.iload_n 1, 1) := by decide +kernel
theorem dX12_sheet_63 : decode cX12_sheet 63 = .ok (.iconst 1, 1) := by decide +kernel
theorem dX12_sheet_64 : decode cX12_sheet 64 = .ok (.if_icmp .ne 9, 3) := by decide +kernel
theorem dX12_sheet_67 : decode cX12_sheet 67 = .ok (.iload 6, 2) := by decide +kernel
theorem dX12_sheet_69 : decode cX12_sheet 69 = .ok (.i2s, 1) := by decide +kernel
theorem dX12_sheet_70 : decode cX12_sheet 70 = .ok (.goto 5, 3) := by decide +kernel
theorem dX12_sheet_73 : decode cX12_sheet 73 = .ok (.iload 6, 2) := by decide +kernel
theorem dX12_sheet_75 : decode cX12_sheet 75 = .ok (.istore 8, 2) := by decide +kernel
theorem dX12_sheet_77 : decode cX12_sheet 77 = .ok (.aload_n 0, 1) := by decide +kernel
theorem dX12_sheet_78 : decode cX12_sheet 78 = .ok (.getfield 16, 3) := by decide +kernel
theorem dX12_sheet_81 : decode cX12_sheet 81 = .ok (.iload 7, 2) := by decide +kernel
theorem dX12_sheet_83 : decode cX12_sheet 83 = .ok (.iload_n 1, 1) := by decide +kernel
theorem dX12_sheet_84 : decode cX12_sheet 84 = .ok (.iconst 3, 1) := by decide +kernel
theorem dX12_sheet_85 : decode cX12_sheet 85 = .ok (.if_icmp .eq 9, 3) := by decide +kernel
theorem dX12_sheet_88 : decode cX12_sheet 88 = .ok (.iload 7, 2) := by decide +kernel
theorem dX12_sheet_90 : decode cX12_sheet 90 = .ok (.iload_n 2, 1) := by decide +kernel
theorem dX12_sheet_91 : decode cX12_sheet 91 = .ok (.if_icmp .lt 7, 3) := by decide +kernel
theorem dX12_sheet_94 : decode cX12_sheet 94 = .ok (.iconst 0, 1) := by decide +kernel
theorem dX12_sheet_95 : decode cX12_sheet 95 = .ok (.goto 14, 3) := by decide +kernel
theorem dX12_sheet_98 : decode cX12_sheet 98 = .ok (.iconst 0, 1) := by decide +kernel
theorem dX12_sheet_99 : decode cX12_sheet 99 = .ok (.bipush 9, 2) := by decide +kernel
theorem dX12_sheet_101 : decode cX12_sheet 101 = .ok (.iload 8, 2) := by decide +kernel
theorem dX12_sheet_103 : decode cX12_sheet 103 = .ok (.invokestatic 238, 3) := by decide +kernel
theorem dX12_sheet_106 : decode cX12_sheet 106 = .ok (.invokestatic 243, 3) := by decide +kernel
theorem dX12_sheet_109 : decode cX12_sheet 109 = .ok (.iastore, 1) := by decide +kernel
theorem dX12_sheet_110 : decode cX12_sheet 110 = .ok (.iload 5, 2) := by decide +kernel
theorem dX12_sheet_112 : decode cX12_sheet 112 = .ok (.aload_n 0, 1) := by decide +kernel
theorem dX12_sheet_113 : decode cX12_sheet 113 = .ok (.getfield 16, 3) := by decide +kernel
theorem dX12_sheet_116 : decode cX12_sheet 116 = .ok (.iload 7, 2) := by decide +kernel
theorem dX12_sheet_118 : decode cX12_sheet 118 = .ok (.iaload, 1) := by decide +kernel
theorem dX12_sheet_119 : decode cX12_sheet 119 = .ok (.iadd, 1) := by decide +kernel
theorem dX12_sheet_120 : decode cX12_sheet 120 = .ok (.istore 5, 2) := by decide +kernel
theorem dX12_sheet_122 : decode cX12_sheet 122 = .ok (.iload 6, 2) := by decide +kernel
theorem dX12_sheet_124 : decode cX12_sheet 124 = .ok (.iload 4, 2) := by decide +kernel
theorem dX12_sheet_126 : decode cX12_sheet 126 = .ok (.iadd, 1) := by decide +kernel
theorem dX12_sheet_127 : decode cX12_sheet 127 = .ok (.istore 6, 2) := by decide +kernel
theorem dX12_sheet_129 : decode cX12_sheet 129 = .ok (.iinc 7 1, 3) := by decide +kernel
theorem dX12_sheet_132 : decode cX12_sheet 132 = .ok (.goto (-89), 3) := by decide +kernel
theorem dX12_sheet_135 : decode cX12_sheet 135 = .ok (.iload_n 1, 1) := by decide +kernel
theorem dX12_sheet_136 : decode cX12_sheet 136 = .ok (.iconst 3, 1) := by decide +kernel
theorem dX12_sheet_137 : decode cX12_sheet 137 = .ok (.if_icmp .ne 8, 3) := by decide +kernel
theorem dX12_sheet_140 : decode cX12_sheet 140 = .ok (.bipush (-3), 2) := by decide +kernel
theorem dX12_sheet_142 : decode cX12_sheet 142 = .ok (.goto 5, 3) := by decide +kernel
theorem dX12_sheet_145 : decode cX12_sheet 145 = .ok (.iload 5, 2) := by decide +kernel
theorem dX12_sheet_147 : decode cX12_sheet 147 = .ok (.ireturn, 1) := by decide +kernel
theorem dX12_jump_0 : decode cX12_jump 0 = .ok (.aload_n 0, 1) := by decide +kernel
theorem dX12_jump_1 : decode cX12_jump 1 = .ok (.iconst 0, 1) := by decide +kernel
theorem dX12_jump_2 : decode cX12_jump 2 = .ok (.putfield 113, 3) := by decide +kernel
theorem dX12_jump_5 : decode cX12_jump 5 = .ok (.aload_n 0, 1) := by decide +kernel
theorem dX12_jump_6 : decode cX12_jump 6 = .ok (.iload_n 1, 1) := by decide +kernel
theorem dX12_jump_7 : decode cX12_jump 7 = .ok (.invokevirtual 132, 3) := by decide +kernel
theorem dX12_jump_10 : decode cX12_jump 10 = .ok (.ifCond .eq 21, 3) := by decide +kernel
theorem dX12_jump_13 : decode cX12_jump 13 = .ok (.aload_n 0, 1) := by decide +kernel
theorem dX12_jump_14 : decode cX12_jump 14 = .ok (.iload_n 2, 1) := by decide +kernel
theorem dX12_jump_15 : decode cX12_jump 15 = .ok (.invokevirtual 250, 3) := by decide +kernel
theorem dX12_jump_18 : decode cX12_jump 18 = .ok (.ifCond .eq 13, 3) := by decide +kernel
theorem dX12_jump_21 : decode cX12_jump 21 = .ok (.iload_n 3, 1) := by decide +kernel
theorem dX12_jump_22 : decode cX12_jump 22 = .ok (.iconst 0, 1) := by decide +kernel
theorem dX12_jump_23 : decode cX12_jump 23 = .ok (.bipush 7, 2) := by decide +kernel
theorem dX12_jump_25 : decode cX12_jump 25 = .ok (.invokestatic 122, 3) := by decide +kernel
theorem dX12_jump_28 : decode cX12_jump 28 = .ok (.ifCond .ne 5, 3) := by decide +kernel
theorem dX12_jump_31 : decode cX12_jump 31 = .ok (.iconst (-1), 1) := by decide +kernel
theorem dX12_jump_32 : decode cX12_jump 32 = .ok (.ireturn, 1) := by decide +kernel
theorem dX12_jump_33 : decode cX12_jump 33 = .ok (.aload_n 0, 1) := by decide +kernel
theorem dX12_jump_34 : decode cX12_jump 34 = .ok (.iload_n 1, 1) := by decide +kernel
theorem dX12_jump_35 : decode cX12_jump 35 = .ok (.iload_n 2, 1) := by decide +kernel
theorem dX12_jump_36 : decode cX12_jump 36 = .ok (.iload_n 3, 1) := by decide +kernel
theorem dX12_jump_37 : decode cX12_jump 37 = .ok (.invokevirtual 259, 3) := by decide +kernel
theorem dX12_jump_40 : decode cX12_jump 40 = .ok (.istore 4, 2) := by decide +kernel
theorem dX12_jump_42 : decode cX12_jump 42 = .ok (.aload_n 0, 1) := by decide +kernel
theorem dX12_jump_43 : decode cX12_jump 43 = .ok (.iconst 0, 1) := by decide +kernel
theorem dX12_jump_44 : decode cX12_jump 44 = .ok (.putfield 116, 3) := by decide +kernel
theorem dX12_jump_47 : decode cX12_jump 47 = .ok (.aload_n 0, 1) := by decide +kernel
theorem dX12_jump_48 : decode cX12_jump 48 = .ok (.aload_n 0, 1) := by decide +kernel
theorem dX12_jump_49 : decode cX12_jump 49 = .ok (.iload_n 1, 1) := by decide +kernel
theorem dX12_jump_50 : decode cX12_jump 50 = .ok (.iload_n 2, 1) := by decide +kernel
theorem dX12_jump_51 : decode cX12_jump 51 = .ok (.invokevirtual 262, 3) := by decide +kernel
theorem dX12_jump_54 : decode cX12_jump 54 = .ok (.i2l, 1) := by decide +kernel
theorem dX12_jump_55 : decode cX12_jump 55 = .ok (.invokevirtual 265, 3) := by decide +kernel
theorem dX12_jump_58 : decode cX12_jump 58 = .ok (.aload_n 0, 1) := by decide +kernel
theorem dX12_jump_59 : decode cX12_jump 59 = .ok (.aload_n 0, 1) := by decide +kernel
theorem dX12_jump_60 : decode cX12_jump 60 = .ok (.iload_n 2, 1) := by decide +kernel
theorem dX12_jump_61 : decode cX12_jump 61 = .ok (.iload_n 3, 1) := by decide +kernel
theorem dX12_jump_62 : decode cX12_jump 62 = .ok (.invokevirtual 269, 3) := by decide +kernel
theorem dX12_jump_65 : decode cX12_jump 65 = .ok (.i2l, 1) := by decide +kernel
theorem dX12_jump_66 : decode cX12_jump 66 = .ok (.invokevirtual 265, 3) := by decide +kernel
theorem dX12_jump_69 : decode cX12_jump 69 = .ok (.aload_n 0, 1) := by decide +kernel
theorem dX12_jump_70 : decode cX12_jump 70 = .ok (.aload_n 0, 1) := by decide +kernel
theorem dX12_jump_71 : decode cX12_jump 71 = .ok (.iload_n 1, 1) := by decide +kernel
theorem dX12_jump_72 : decode cX12_jump 72 = .ok (.aload_n 0, 1) := by decide +kernel
theorem dX12_jump_73 : decode cX12_jump 73 = .ok (.getfield 19, 3) := by decide +kernel
theorem dX12_jump_76 : decode cX12_jump 76 = .ok (.iload_n 2, 1) := by decide +kernel
theorem dX12_jump_77 : decode cX12_jump 77 = .ok (.iaload, 1) := by decide +kernel
theorem dX12_jump_78 : decode cX12_jump 78 = .ok (.invokevirtual 232, 3) := by decide +kernel
theorem dX12_jump_81 : decode cX12_jump 81 = .ok (.i2l, 1) := by decide +kernel
theorem dX12_jump_82 : decode cX12_jump 82 = .ok (.invokevirtual 265, 3) := by decide +kernel
theorem dX12_jump_85 : decode cX12_jump 85 = .ok (.iload 4, 2) := by decide +kernel
theorem dX12_jump_87 : decode cX12_jump 87 = .ok (.ireturn, 1) := by decide +kernel
theorem dX12_strides_0 : decode cX12_strides 0 = .ok (.aload_n 0, 1) := by decide +kernel
theorem dX12_strides_1 : decode cX12_strides 1 = .ok (.iconst 0, 1) := by decide +kernel
theorem dX12_strides_2 : decode cX12_strides 2 = .ok (.putfield 113, 3) := by decide +kernel
theorem dX12_strides_5 : decode cX12_strides 5 = .ok (.aload_n 0, 1) := by decide +kernel
theorem dX12_strides_6 : decode cX12_strides 6 = .ok (.iload_n 1, 1) := by decide +kernel
theorem dX12_strides_7 : decode cX12_strides 7 = .ok (.invokevirtual 132, 3) := by decide +kernel
theorem dX12_strides_10 : decode cX12_strides 10 = .ok (.ifCond .eq 11, 3) := by decide +kernel
theorem dX12_strides_13 : decode cX12_strides 13 = .ok (.aload_n 0, 1) := by decide +kernel
theorem dX12_strides_14 : decode cX12_strides 14 = .ok (.iload_n 2, 1) := by decide +kernel
theorem dX12_strides_15 : decode cX12_strides 15 = .ok (.invokevirtual 250, 3) := by decide +kernel
theorem dX12_strides_18 : decode cX12_strides 18 = .ok (.ifCond .ne 5, 3) := by decide +kernel
theorem dX12_strides_21 : decode cX12_strides 21 = .ok (.iconst (-1), 1) := by decide +kernel
theorem dX12_strides_22 : decode cX12_strides 22 = .ok (.ireturn, 1) := by decide +kernel
theorem dX12_strides_23 : decode cX12_strides 23 = .ok (.aload_n 0, 1) := by decide +kernel
theorem dX12_strides_24 : decode cX12_strides 24 = .ok (.getfield 19, 3) := by decide +kernel
theorem dX12_strides_27 : decode cX12_strides 27 = .ok (.iload_n 2, 1) := by decide +kernel
theorem dX12_strides_28 : decode cX12_strides 28 = .ok (.iaload, 1) := by decide +kernel
theorem dX12_strides_29 : decode cX12_strides 29 = .ok (.aload_n 0, 1) := by decide +kernel
theorem dX12_strides_30 : decode cX12_strides 30 = .ok (.getfield 26, 3) := by decide +kernel
theorem dX12_strides_33 : decode cX12_strides 33 = .ok (.iload_n 1, 1) := by decide +kernel
theorem dX12_strides_34 : decode cX12_strides 34 = .ok (.iaload, 1) := by decide +kernel
theorem dX12_strides_35 : decode cX12_strides 35 = .ok (.irem, 1) := by decide +kernel
theorem dX12_strides_36 : decode cX12_strides 36 = .ok (.istore_n 3, 1) := by decide +kernel
theorem dX12_strides_37 : decode cX12_strides 37 = .ok (.aload_n 0, 1) := by decide +kernel
theorem dX12_strides_38 : decode cX12_strides 38 = .ok (.getfield 26, 3) := by decide +kernel
theorem dX12_strides_41 : decode cX12_strides 41 = .ok (.iload_n 1, 1) := by decide +kernel
theorem dX12_strides_42 : decode cX12_strides 42 = .ok (.iaload, 1) := by decide +kernel
theorem dX12_strides_43 : decode cX12_strides 43 = .ok (.iload_n 3, 1) := by decide +kernel
theorem dX12_strides_44 : decode cX12_strides 44 = .ok (.isub, 1) := by decide +kernel
theorem dX12_strides_45 : decode cX12_strides 45 = .ok (.iload_n 3, 1) := by decide +kernel
theorem dX12_strides_46 : decode cX12_strides 46 = .ok (.if_icmp .ge 7, 3) := by decide +kernel
theorem dX12_strides_49 : decode cX12_strides 49 = .ok (.iconst 1, 1) := by decide +kernel
theorem dX12_strides_50 : decode cX12_strides 50 = .ok (.goto 4, 3) := by decide +kernel
theorem dX12_strides_53 : decode cX12_strides 53 = .ok (.iconst 0, 1) := by decide +kernel
theorem dX12_strides_54 : decode cX12_strides 54 = .ok (.istore 4, 2) := by decide +kernel
theorem dX12_strides_56 : decode cX12_strides 56 = .ok (.aload_n 0, 1) := by decide +kernel
theorem dX12_strides_57 : decode cX12_strides 57 = .ok (.iconst 0, 1) := by decide +kernel
theorem dX12_strides_58 : decode cX12_strides 58 = .ok (.putfield 116, 3) := by decide +kernel
theorem dX12_strides_61 : decode cX12_strides 61 = .ok (.aload_n 0, 1) := by decide +kernel
theorem dX12_strides_62 : decode cX12_strides 62 = .ok (.aload_n 0, 1) := by decide +kernel
theorem dX12_strides_63 : decode cX12_strides 63 = .ok (.iload_n 1, 1) := by decide +kernel
theorem dX12_strides_64 : decode cX12_strides 64 = .ok (.aload_n 0, 1) := by decide +kernel
theorem dX12_strides_65 : decode cX12_strides 65 = .ok (.getfield 19, 3) := by decide +kernel
theorem dX12_strides_68 : decode cX12_strides 68 = .ok (.iload_n 2, 1) := by decide +kernel
theorem dX12_strides_69 : decode cX12_strides 69 = .ok (.iaload, 1) := by decide +kernel
theorem dX12_strides_70 : decode cX12_strides 70 = .ok (.invokevirtual 232, 3) := by decide +kernel
theorem dX12_strides_73 : decode cX12_strides 73 = .ok (.i2l, 1) := by decide +kernel
theorem dX12_strides_74 : decode cX12_strides 74 = .ok (.invokevirtual 265, 3) := by decide +kernel
theorem dX12_strides_77 : decode cX12_strides 77 = .ok (.aload_n 0, 1) := by decide +kernel
theorem dX12_strides_78 : decode cX12_strides 78 = .ok (.iload 4, 2) := by decide +kernel
theorem dX12_strides_80 : decode cX12_strides 80 = .ok (.i2l, 1) := by decide +kernel
theorem dX12_strides_81 : decode cX12_strides 81 = .ok (.invokevirtual 265, 3) := by decide +kernel
theorem dX12_strides_84 : decode cX12_strides 84 = .ok (.aload_n 0, 1) := by decide +kernel
theorem dX12_strides_85 : decode cX12_strides 85 = .ok (.getfield 19, 3) := by decide +kernel
theorem dX12_strides_88 : decode cX12_strides 88 = .ok (.iload_n 2, 1) := by decide +kernel
theorem dX12_strides_89 : decode cX12_strides 89 = .ok (.iaload, 1) := by decide +kernel
theorem dX12_strides_90 : decode cX12_strides 90 = .ok (.aload_n 0, 1) := by decide +kernel
theorem dX12_strides_91 : decode cX12_strides 91 = .ok (.getfield 26, 3) := by decide +kernel
theorem dX12_strides_94 : decode cX12_strides 94 = .ok (.iload_n 1, 1) := by decide +kernel
theorem dX12_strides_95 : decode cX12_strides 95 = .ok (.iaload, 1) := by decide +kernel
theorem dX12_strides_96 : decode cX12_strides 96 = .ok (.idiv, 1) := by decide +kernel
theorem dX12_strides_97 : decode cX12_strides 97 = .ok (.iload 4, 2) := by decide +kernel
theorem dX12_strides_99 : decode cX12_strides 99 = .ok (.iadd, 1) := by decide +kernel
theorem dX12_strides_100 : decode cX12_strides 100 = .ok (.ireturn, 1) := by decide +kernel
theorem dX12_calm_0 : decode cX12_calm 0 = .ok (.aload_n 0, 1) := by decide +kernel
theorem dX12_calm_1 : decode cX12_calm 1 = .ok (.iconst 0, 1) := by decide +kernel
theorem dX12_calm_2 : decode cX12_calm 2 = .ok (.putfield 113, 3) := by decide +kernel
theorem dX12_calm_5 : decode cX12_calm 5 = .ok (.aload_n 0, 1) := by decide +kernel
theorem dX12_calm_6 : decode cX12_calm 6 = .ok (.iload_n 1, 1) := by decide +kernel
theorem dX12_calm_7 : decode cX12_calm 7 = .ok (.invokevirtual 132, 3) := by decide +kernel
theorem dX12_calm_10 : decode cX12_calm 10 = .ok (.ifCond .eq 11, 3) := by decide +kernel
theorem dX12_calm_13 : decode cX12_calm 13 = .ok (.aload_n 0, 1) := by decide +kernel
theorem dX12_calm_14 : decode cX12_calm 14 = .ok (.iload_n 2, 1) := by decide +kernel
theorem dX12_calm_15 : decode cX12_calm 15 = .ok (.invokevirtual 250, 3) := by decide +kernel
theorem dX12_calm_18 : decode cX12_calm 18 = .ok (.ifCond .ne 5, 3) := by decide +kernel
theorem dX12_calm_21 : decode cX12_calm 21 = .ok (.iconst (-1), 1) := by decide +kernel
theorem dX12_calm_22 : decode cX12_calm 22 = .ok (.ireturn, 1) := by decide +kernel
theorem dX12_calm_23 : decode cX12_calm 23 = .ok (.iconst 0, 1) := by decide +kernel
theorem dX12_calm_24 : decode cX12_calm 24 = .ok (.istore_n 3, 1) := by decide +kernel
theorem dX12_calm_25 : decode cX12_calm 25 = .ok (.ldc_w 272, 3) := by decide +kernel
theorem dX12_calm_28 : decode cX12_calm 28 = .ok (.istore 4, 2) := by decide +kernel
theorem dX12_calm_30 : decode cX12_calm 30 = .ok (.iconst 0, 1) := by decide +kernel
theorem dX12_calm_31 : decode cX12_calm 31 = .ok (.istore 5, 2) := by decide +kernel
theorem dX12_calm_33 : decode cX12_calm 33 = .ok (.iload 5, 2) := by decide +kernel
theorem dX12_calm_35 : decode cX12_calm 35 = .ok (.bipush 8, 2) := by decide +kernel
theorem dX12_calm_37 : decode cX12_calm 37 = .ok (.if_icmp .ge 59, 3) := by decide +kernel
theorem dX12_calm_40 : decode cX12_calm 40 = .ok (.aload_n 0, 1) := by decide +kernel
theorem dX12_calm_41 : decode cX12_calm 41 = .ok (.iload_n 1, 1) := by decide +kernel
theorem dX12_calm_42 : decode cX12_calm 42 = .ok (.iload_n 2, 1) := by decide +kernel
theorem dX12_calm_43 : decode cX12_calm 43 = .ok (.iload 5, 2) := by decide +kernel
theorem dX12_calm_45 : decode cX12_calm 45 = .ok (.invokevirtual 259, 3) := by decide +kernel
theorem dX12_calm_48 : decode cX12_calm 48 = .ok (.istore 6, 2) := by decide +kernel
theorem dX12_calm_50 : decode cX12_calm 50 = .ok (.iload 6, 2) := by decide +kernel
theorem dX12_calm_52 : decode cX12_calm 52 = .ok (.iload 4, 2) := by decide +kernel
theorem dX12_calm_54 : decode cX12_calm 54 = .ok (.if_icmp .gt 36, 3) := by decide +kernel
theorem dX12_calm_57 : decode cX12_calm 57 = .ok (.iload 6, 2) := by decide +kernel
theorem dX12_calm_59 : decode cX12_calm 59 = .ok (.iload 4, 2) := by decide +kernel
theorem dX12_calm_61 : decode cX12_calm 61 = .ok (.if_icmp .ne 22, 3) := by decide +kernel
theorem dX12_calm_64 : decode cX12_calm 64 = .ok (.aload_n 0, 1) := by decide +kernel
theorem dX12_calm_65 : decode cX12_calm 65 = .ok (.iload_n 2, 1) := by decide +kernel
theorem dX12_calm_66 : decode cX12_calm 66 = .ok (.iload 5, 2) := by decide +kernel
theorem dX12_calm_68 : decode cX12_calm 68 = .ok (.invokevirtual 269, 3) := by decide +kernel
theorem dX12_calm_71 : decode cX12_calm 71 = .ok (.aload_n 0, 1) := by decide +kernel
theorem dX12_calm_72 : decode cX12_calm 72 = .ok (.iload_n 2, 1) := by decide +kernel
theorem dX12_calm_73 : decode cX12_calm 73 = .ok (.iload_n 3, 1) := by decide +kernel
theorem dX12_calm_74 : decode cX12_calm 74 = .ok (.invokevirtual 269, 3) := by decide +kernel
theorem dX12_calm_77 : decode cX12_calm 77 = .ok (.if_icmp .lt 6, 3) := by decide +kernel
theorem dX12_calm_80 : decode cX12_calm 80 = .ok (.goto 10, 3) := by decide +kernel
theorem dX12_calm_83 : decode cX12_calm 83 = .ok (.iload 5, 2) := by decide +kernel
theorem dX12_calm_85 : decode cX12_calm 85 = .ok (.istore_n 3, 1) := by decide +kernel
theorem dX12_calm_86 : decode cX12_calm 86 = .ok (.iload 6, 2) := by decide +kernel
theorem dX12_calm_88 : decode cX12_calm 88 = .ok (.istore 4, 2) := by decide +kernel
theorem dX12_calm_90 : decode cX12_calm 90 = .ok (.iinc 5 1, 3) := by decide +kernel
theorem dX12_calm_93 : decode cX12_calm 93 = .ok (.goto (-60), 3) := by decide +kernel
theorem dX12_calm_96 : decode cX12_calm 96 = .ok (.aload_n 0, 1) := by decide +kernel
theorem dX12_calm_97 : decode cX12_calm 97 = .ok (.iconst 0, 1) := by decide +kernel
theorem dX12_calm_98 : decode cX12_calm 98 = .ok (.putfield 116, 3) := by decide +kernel
theorem dX12_calm_101 : decode cX12_calm 101 = .ok (.aload_n 0, 1) := by decide +kernel
theorem dX12_calm_102 : decode cX12_calm 102 = .ok (.iload 4, 2) := by decide +kernel
theorem dX12_calm_104 : decode cX12_calm 104 = .ok (.aload_n 0, 1) := by decide +kernel
theorem dX12_calm_105 : decode cX12_calm 105 = .ok (.iload_n 1, 1) := by decide +kernel
theorem dX12_calm_106 : decode cX12_calm 106 = .ok (.iload_n 2, 1) := by decide +kernel
theorem dX12_calm_107 : decode cX12_calm 107 = .ok (.invokevirtual 262, 3) := by decide +kernel
theorem dX12_calm_110 : decode cX12_calm 110 = .ok (.iadd, 1) := by decide +kernel
theorem dX12_calm_111 : decode cX12_calm 111 = .ok (.i2l, 1) := by decide +kernel
theorem dX12_calm_112 : decode cX12_calm 112 = .ok (.invokevirtual 265, 3) := by decide +kernel
theorem dX12_calm_115 : decode cX12_calm 115 = .ok (.aload_n 0, 1) := by decide +kernel
theorem dX12_calm_116 : decode cX12_calm 116 = .ok (.aload_n 0, 1) := by decide +kernel
theorem dX12_calm_117 : decode cX12_calm 117 = .ok (.iload_n 2, 1) := by decide +kernel
theorem dX12_calm_118 : decode cX12_calm 118 = .ok (.iload_n 3, 1) := by decide +kernel
theorem dX12_calm_119 : decode cX12_calm 119 = .ok (.invokevirtual 269, 3) := by decide +kernel
theorem dX12_calm_122 : decode cX12_calm 122 = .ok (.i2l, 1) := by decide +kernel
theorem dX12_calm_123 : decode cX12_calm 123 = .ok (.invokevirtual 265, 3) := by decide +kernel
theorem dX12_calm_126 : decode cX12_calm 126 = .ok (.iload_n 3, 1) := by decide +kernel
theorem dX12_calm_127 : decode cX12_calm 127 = .ok (.ireturn, 1) := by decide +kernel
theorem dX12_fearOf_0 : decode cX12_fearOf 0 = .ok (.iconst 0, 1) := by decide +kernel
theorem dX12_fearOf_1 : decode cX12_fearOf 1 = .ok (.istore_n 3, 1) := by decide +kernel
theorem dX12_fearOf_2 : decode cX12_fearOf 2 = .ok (.iconst 0, 1) := by decide +kernel
theorem dX12_fearOf_3 : decode cX12_fearOf 3 = .ok (.istore 4, 2) := by decide +kernel
theorem dX12_fearOf_5 : decode cX12_fearOf 5 = .ok (.iload 4, 2) := by decide +kernel
theorem dX12_fearOf_7 : decode cX12_fearOf 7 = .ok (.aload_n 0, 1) := by decide +kernel
theorem dX12_fearOf_8 : decode cX12_fearOf 8 = .ok (.getfield 119, 3) := by decide +kernel
theorem dX12_fearOf_11 : decode cX12_fearOf 11 = .ok (.if_icmp .ge 34, 3) := by decide +kernel
theorem dX12_fearOf_14 : decode cX12_fearOf 14 = .ok (.iload_n 3, 1) := by decide +kernel
theorem dX12_fearOf_15 : decode cX12_fearOf 15 = .ok (.aload_n 0, 1) := by decide +kernel
theorem dX12_fearOf_16 : decode cX12_fearOf 16 = .ok (.iload_n 1, 1) := by decide +kernel
theorem dX12_fearOf_17 : decode cX12_fearOf 17 = .ok (.iload 4, 2) := by decide +kernel
theorem dX12_fearOf_19 : decode cX12_fearOf 19 = .ok (.aload_n 0, 1) := by decide +kernel
theorem dX12_fearOf_20 : decode cX12_fearOf 20 = .ok (.iload_n 2, 1) := by decide +kernel
theorem dX12_fearOf_21 : decode cX12_fearOf 21 = .ok (.iload 4, 2) := by decide +kernel
theorem dX12_fearOf_23 : decode cX12_fearOf 23 = .ok (.invokevirtual 273, 3) := by decide +kernel
theorem dX12_fearOf_26 : decode cX12_fearOf 26 = .ok (.invokevirtual 259, 3) := by decide +kernel
theorem dX12_fearOf_29 : decode cX12_fearOf 29 = .ok (.aload_n 0, 1) := by decide +kernel
theorem dX12_fearOf_30 : decode cX12_fearOf 30 = .ok (.iload_n 1, 1) := by decide +kernel
theorem dX12_fearOf_31 : decode cX12_fearOf 31 = .ok (.iload 4, 2) := by decide +kernel
theorem dX12_fearOf_33 : decode cX12_fearOf 33 = .ok (.invokevirtual 262, 3) := by decide +kernel
theorem dX12_fearOf_36 : decode cX12_fearOf 36 = .ok (.iadd, 1) := by decide +kernel
theorem dX12_fearOf_37 : decode cX12_fearOf 37 = .ok (.iadd, 1) := by decide +kernel
theorem dX12_fearOf_38 : decode cX12_fearOf 38 = .ok (.istore_n 3, 1) := by decide +kernel
theorem dX12_fearOf_39 : decode cX12_fearOf 39 = .ok (.iinc 4 1, 3) := by decide +kernel
theorem dX12_fearOf_42 : decode cX12_fearOf 42 = .ok (.goto (-37), 3) := by decide +kernel
theorem dX12_fearOf_45 : decode cX12_fearOf 45 = .ok (.iload_n 3, 1) := by decide +kernel
theorem dX12_fearOf_46 : decode cX12_fearOf 46 = .ok (.ireturn, 1) := by decide +kernel
theorem dX12_tenthsOfPlan_0 : decode cX12_tenthsOfPlan 0 = .ok (.iconst 0, 1) := by decide +kernel
theorem dX12_tenthsOfPlan_1 : decode cX12_tenthsOfPlan 1 = .ok (.istore_n 2, 1) := by decide +kernel
theorem dX12_tenthsOfPlan_2 : decode cX12_tenthsOfPlan 2 = .ok (.iconst 0, 1) := by decide +kernel
theorem dX12_tenthsOfPlan_3 : decode cX12_tenthsOfPlan 3 = .ok (.istore_n 3, 1) := by decide +kernel
theorem dX12_tenthsOfPlan_4 : decode cX12_tenthsOfPlan 4 = .ok (.iload_n 3, 1) := by decide +kernel
theorem dX12_tenthsOfPlan_5 : decode cX12_tenthsOfPlan 5 = .ok (.aload_n 0, 1) := by decide +kernel
theorem dX12_tenthsOfPlan_6 : decode cX12_tenthsOfPlan 6 = .ok (.getfield 119, 3) := by decide +kernel
theorem dX12_tenthsOfPlan_9 : decode cX12_tenthsOfPlan 9 = .ok (.if_icmp .ge 23, 3) := by decide +kernel
theorem dX12_tenthsOfPlan_12 : decode cX12_tenthsOfPlan 12 = .ok (.iload_n 2, 1) := by decide +kernel
theorem dX12_tenthsOfPlan_13 : decode cX12_tenthsOfPlan 13 = .ok (.aload_n 0, 1) := by decide +kernel
theorem dX12_tenthsOfPlan_14 : decode cX12_tenthsOfPlan 14 = .ok (.iload_n 3, 1) := by decide +kernel
theorem dX12_tenthsOfPlan_15 : decode cX12_tenthsOfPlan 15 = .ok (.aload_n 0, 1) := by decide +kernel
theorem dX12_tenthsOfPlan_16 : decode cX12_tenthsOfPlan 16 = .ok (.iload_n 1, 1) := by decide +kernel
theorem dX12_tenthsOfPlan_17 : decode cX12_tenthsOfPlan 17 = .ok (.iload_n 3, 1) := by decide +kernel
theorem dX12_tenthsOfPlan_18 : decode cX12_tenthsOfPlan 18 = .ok (.invokevirtual 273, 3) := by decide +kernel
theorem dX12_tenthsOfPlan_21 : decode cX12_tenthsOfPlan 21 = .ok (.invokevirtual 269, 3) := by decide +kernel
theorem dX12_tenthsOfPlan_24 : decode cX12_tenthsOfPlan 24 = .ok (.iadd, 1) := by decide +kernel
theorem dX12_tenthsOfPlan_25 : decode cX12_tenthsOfPlan 25 = .ok (.istore_n 2, 1) := by decide +kernel
theorem dX12_tenthsOfPlan_26 : decode cX12_tenthsOfPlan 26 = .ok (.iinc 3 1, 3) := by decide +kernel
theorem dX12_tenthsOfPlan_29 : decode cX12_tenthsOfPlan 29 = .ok (.goto (-25), 3) := by decide +kernel
theorem dX12_tenthsOfPlan_32 : decode cX12_tenthsOfPlan 32 = .ok (.iload_n 2, 1) := by decide +kernel
theorem dX12_tenthsOfPlan_33 : decode cX12_tenthsOfPlan 33 = .ok (.ireturn, 1) := by decide +kernel
theorem dX12_clearBy_0 : decode cX12_clearBy 0 = .ok (.sipush 10000, 3) := by decide +kernel
theorem dX12_clearBy_3 : decode cX12_clearBy 3 = .ok (.istore 5, 2) := by decide +kernel
theorem dX12_clearBy_5 : decode cX12_clearBy 5 = .ok (.iconst 0, 1) := by decide +kernel
theorem dX12_clearBy_6 : decode cX12_clearBy 6 = .ok (.istore 6, 2) := by decide +kernel
theorem dX12_clearBy_8 : decode cX12_clearBy 8 = .ok (.iload 6, 2) := by decide +kernel
theorem dX12_clearBy_10 : decode cX12_clearBy 10 = .ok (.aload_n 0, 1) := by decide +kernel
theorem dX12_clearBy_11 : decode cX12_clearBy 11 = .ok (.getfield 119, 3) := by decide +kernel
theorem dX12_clearBy_14 : decode cX12_clearBy 14 = .ok (.if_icmp .ge 70, 3) := by decide +kernel
theorem dX12_clearBy_17 : decode cX12_clearBy 17 = .ok (.iload 5, 2) := by decide +kernel
theorem dX12_clearBy_19 : decode cX12_clearBy 19 = .ok (.bipush 100, 2) := by decide +kernel
theorem dX12_clearBy_21 : decode cX12_clearBy 21 = .ok (.aload_n 0, 1) := by decide +kernel
theorem dX12_clearBy_22 : decode cX12_clearBy 22 = .ok (.iload_n 1, 1) := by decide +kernel
theorem dX12_clearBy_23 : decode cX12_clearBy 23 = .ok (.iload 6, 2) := by decide +kernel
theorem dX12_clearBy_25 : decode cX12_clearBy 25 = .ok (.invokevirtual 262, 3) := by decide +kernel
theorem dX12_clearBy_28 : decode cX12_clearBy 28 = .ok (.isub, 1) := by decide +kernel
theorem dX12_clearBy_29 : decode cX12_clearBy 29 = .ok (.imul, 1) := by decide +kernel
theorem dX12_clearBy_30 : decode cX12_clearBy 30 = .ok (.bipush 100, 2) := by decide +kernel
theorem dX12_clearBy_32 : decode cX12_clearBy 32 = .ok (.idiv, 1) := by decide +kernel
theorem dX12_clearBy_33 : decode cX12_clearBy 33 = .ok (.istore 5, 2) := by decide +kernel
theorem dX12_clearBy_35 : decode cX12_clearBy 35 = .ok (.iload 5, 2) := by decide +kernel
theorem dX12_clearBy_37 : decode cX12_clearBy 37 = .ok (.bipush 100, 2) := by decide +kernel
theorem dX12_clearBy_39 : decode cX12_clearBy 39 = .ok (.aload_n 0, 1) := by decide +kernel
theorem dX12_clearBy_40 : decode cX12_clearBy 40 = .ok (.iload_n 1, 1) := by decide +kernel
theorem dX12_clearBy_41 : decode cX12_clearBy 41 = .ok (.iload 6, 2) := by decide +kernel
theorem dX12_clearBy_43 : decode cX12_clearBy 43 = .ok (.aload_n 0, 1) := by decide +kernel
theorem dX12_clearBy_44 : decode cX12_clearBy 44 = .ok (.iload_n 2, 1) := by decide +kernel
theorem dX12_clearBy_45 : decode cX12_clearBy 45 = .ok (.iload 6, 2) := by decide +kernel
theorem dX12_clearBy_47 : decode cX12_clearBy 47 = .ok (.invokevirtual 273, 3) := by decide +kernel
theorem dX12_clearBy_50 : decode cX12_clearBy 50 = .ok (.iload 6, 2) := by decide +kernel
theorem dX12_clearBy_52 : decode cX12_clearBy 52 = .ok (.iload_n 3, 1) := by decide +kernel
theorem dX12_clearBy_53 : decode cX12_clearBy 53 = .ok (.if_icmp .ne 8, 3) := by decide +kernel
theorem dX12_clearBy_56 : decode cX12_clearBy 56 = .ok (.iload 4, 2) := by decide +kernel
theorem dX12_clearBy_58 : decode cX12_clearBy 58 = .ok (.goto 10, 3) := by decide +kernel
theorem dX12_clearBy_61 : decode cX12_clearBy 61 = .ok (.aload_n 0, 1) := by decide +kernel
theorem dX12_clearBy_62 : decode cX12_clearBy 62 = .ok (.getfield 16, 3) := by decide +kernel
theorem dX12_clearBy_65 : decode cX12_clearBy 65 = .ok (.iload 6, 2) := by decide +kernel
theorem dX12_clearBy_67 : decode cX12_clearBy 67 = .ok (.iaload, 1) := by decide +kernel
theorem dX12_clearBy_68 : decode cX12_clearBy 68 = .ok (.invokevirtual 246, 3) := by decide +kernel
theorem dX12_clearBy_71 : decode cX12_clearBy 71 = .ok (.isub, 1) := by decide +kernel
theorem dX12_clearBy_72 : decode cX12_clearBy 72 = .ok (.imul, 1) := by decide +kernel
theorem dX12_clearBy_73 : decode cX12_clearBy 73 = .ok (.bipush 100, 2) := by decide +kernel
theorem dX12_clearBy_75 : decode cX12_clearBy 75 = .ok (.idiv, 1) := by decide +kernel
theorem dX12_clearBy_76 : decode cX12_clearBy 76 = .ok (.istore 5, 2) := by decide +kernel
theorem dX12_clearBy_78 : decode cX12_clearBy 78 = .ok (.iinc 6 1, 3) := by decide +kernel
theorem dX12_clearBy_81 : decode cX12_clearBy 81 = .ok (.goto (-73), 3) := by decide +kernel
theorem dX12_clearBy_84 : decode cX12_clearBy 84 = .ok (.iload 5, 2) := by decide +kernel
theorem dX12_clearBy_86 : decode cX12_clearBy 86 = .ok (.ireturn, 1) := by decide +kernel
theorem dX12_clearOf_0 : decode cX12_clearOf 0 = .ok (.aload_n 0, 1) := by decide +kernel
theorem dX12_clearOf_1 : decode cX12_clearOf 1 = .ok (.iload_n 1, 1) := by decide +kernel
theorem dX12_clearOf_2 : decode cX12_clearOf 2 = .ok (.iload_n 2, 1) := by decide +kernel
theorem dX12_clearOf_3 : decode cX12_clearOf 3 = .ok (.iconst (-1), 1) := by decide +kernel
theorem dX12_clearOf_4 : decode cX12_clearOf 4 = .ok (.iconst 0, 1) := by decide +kernel
theorem dX12_clearOf_5 : decode cX12_clearOf 5 = .ok (.invokevirtual 276, 3) := by decide +kernel
theorem dX12_clearOf_8 : decode cX12_clearOf 8 = .ok (.ireturn, 1) := by decide +kernel
theorem dX12_fear_0 : decode cX12_fear 0 = .ok (.aload_n 0, 1) := by decide +kernel
theorem dX12_fear_1 : decode cX12_fear 1 = .ok (.iconst 0, 1) := by decide +kernel
theorem dX12_fear_2 : decode cX12_fear 2 = .ok (.putfield 113, 3) := by decide +kernel
theorem dX12_fear_5 : decode cX12_fear 5 = .ok (.aload_n 0, 1) := by decide +kernel
theorem dX12_fear_6 : decode cX12_fear 6 = .ok (.iload_n 1, 1) := by decide +kernel
theorem dX12_fear_7 : decode cX12_fear 7 = .ok (.iload_n 2, 1) := by decide +kernel
theorem dX12_fear_8 : decode cX12_fear 8 = .ok (.invokevirtual 279, 3) := by decide +kernel
theorem dX12_fear_11 : decode cX12_fear 11 = .ok (.ifCond .ne 5, 3) := by decide +kernel
theorem dX12_fear_14 : decode cX12_fear 14 = .ok (.iconst (-1), 1) := by decide +kernel
theorem dX12_fear_15 : decode cX12_fear 15 = .ok (.ireturn, 1) := by decide +kernel
theorem dX12_fear_16 : decode cX12_fear 16 = .ok (.aload_n 0, 1) := by decide +kernel
theorem dX12_fear_17 : decode cX12_fear 17 = .ok (.iconst 0, 1) := by decide +kernel
theorem dX12_fear_18 : decode cX12_fear 18 = .ok (.putfield 116, 3) := by decide +kernel
theorem dX12_fear_21 : decode cX12_fear 21 = .ok (.aload_n 0, 1) := by decide +kernel
theorem dX12_fear_22 : decode cX12_fear 22 = .ok (.aload_n 0, 1) := by decide +kernel
theorem dX12_fear_23 : decode cX12_fear 23 = .ok (.iload_n 2, 1) := by decide +kernel
theorem dX12_fear_24 : decode cX12_fear 24 = .ok (.invokevirtual 283, 3) := by decide +kernel
theorem dX12_fear_27 : decode cX12_fear 27 = .ok (.i2l, 1) := by decide +kernel
theorem dX12_fear_28 : decode cX12_fear 28 = .ok (.invokevirtual 265, 3) := by decide +kernel
theorem dX12_fear_31 : decode cX12_fear 31 = .ok (.aload_n 0, 1) := by decide +kernel
theorem dX12_fear_32 : decode cX12_fear 32 = .ok (.aload_n 0, 1) := by decide +kernel
theorem dX12_fear_33 : decode cX12_fear 33 = .ok (.iload_n 1, 1) := by decide +kernel
theorem dX12_fear_34 : decode cX12_fear 34 = .ok (.iload_n 2, 1) := by decide +kernel
theorem dX12_fear_35 : decode cX12_fear 35 = .ok (.invokevirtual 286, 3) := by decide +kernel
theorem dX12_fear_38 : decode cX12_fear 38 = .ok (.i2l, 1) := by decide +kernel
theorem dX12_fear_39 : decode cX12_fear 39 = .ok (.invokevirtual 265, 3) := by decide +kernel
theorem dX12_fear_42 : decode cX12_fear 42 = .ok (.aload_n 0, 1) := by decide +kernel
theorem dX12_fear_43 : decode cX12_fear 43 = .ok (.iload_n 1, 1) := by decide +kernel
theorem dX12_fear_44 : decode cX12_fear 44 = .ok (.iload_n 2, 1) := by decide +kernel
theorem dX12_fear_45 : decode cX12_fear 45 = .ok (.invokevirtual 289, 3) := by decide +kernel
theorem dX12_fear_48 : decode cX12_fear 48 = .ok (.ireturn, 1) := by decide +kernel
theorem dX12_falls_0 : decode cX12_falls 0 = .ok (.aload_n 0, 1) := by decide +kernel
theorem dX12_falls_1 : decode cX12_falls 1 = .ok (.iconst 0, 1) := by decide +kernel
theorem dX12_falls_2 : decode cX12_falls 2 = .ok (.putfield 113, 3) := by decide +kernel
theorem dX12_falls_5 : decode cX12_falls 5 = .ok (.aload_n 0, 1) := by decide +kernel
theorem dX12_falls_6 : decode cX12_falls 6 = .ok (.iload_n 1, 1) := by decide +kernel
theorem dX12_falls_7 : decode cX12_falls 7 = .ok (.iload_n 2, 1) := by decide +kernel
theorem dX12_falls_8 : decode cX12_falls 8 = .ok (.invokevirtual 279, 3) := by decide +kernel
theorem dX12_falls_11 : decode cX12_falls 11 = .ok (.ifCond .ne 5, 3) := by decide +kernel
theorem dX12_falls_14 : decode cX12_falls 14 = .ok (.iconst (-1), 1) := by decide +kernel
theorem dX12_falls_15 : decode cX12_falls 15 = .ok (.ireturn, 1) := by decide +kernel
theorem dX12_falls_16 : decode cX12_falls 16 = .ok (.bipush (-2), 2) := by decide +kernel
theorem dX12_falls_18 : decode cX12_falls 18 = .ok (.istore_n 3, 1) := by decide +kernel
theorem dX12_falls_19 : decode cX12_falls 19 = .ok (.iconst (-1), 1) := by decide +kernel
theorem dX12_falls_20 : decode cX12_falls 20 = .ok (.istore 4, 2) := by decide +kernel
theorem dX12_falls_22 : decode cX12_falls 22 = .ok (.iconst 0, 1) := by decide +kernel
theorem dX12_falls_23 : decode cX12_falls 23 = .ok (.istore 5, 2) := by decide +kernel
theorem dX12_falls_25 : decode cX12_falls 25 = .ok (.iload 5, 2) := by decide +kernel
theorem dX12_falls_27 : decode cX12_falls 27 = .ok (.aload_n 0, 1) := by decide +kernel
theorem dX12_falls_28 : decode cX12_falls 28 = .ok (.getfield 119, 3) := by decide +kernel
theorem dX12_falls_31 : decode cX12_falls 31 = .ok (.if_icmp .ge 42, 3) := by decide +kernel
theorem dX12_falls_34 : decode cX12_falls 34 = .ok (.aload_n 0, 1) := by decide +kernel
theorem dX12_falls_35 : decode cX12_falls 35 = .ok (.iload_n 1, 1) := by decide +kernel
theorem dX12_falls_36 : decode cX12_falls 36 = .ok (.iload 5, 2) := by decide +kernel
theorem dX12_falls_38 : decode cX12_falls 38 = .ok (.aload_n 0, 1) := by decide +kernel
theorem dX12_falls_39 : decode cX12_falls 39 = .ok (.iload_n 2, 1) := by decide +kernel
theorem dX12_falls_40 : decode cX12_falls 40 = .ok (.iload 5, 2) := by decide +kernel
theorem dX12_falls_42 : decode cX12_falls 42 = .ok (.invokevirtual 273, 3) := by decide +kernel
theorem dX12_falls_45 : decode cX12_falls 45 = .ok (.invokevirtual 259, 3) := by decide +kernel
theorem dX12_falls_48 : decode cX12_falls 48 = .ok (.istore 6, 2) := by decide +kernel
theorem dX12_falls_50 : decode cX12_falls 50 = .ok (.iload 6, 2) := by decide +kernel
theorem dX12_falls_52 : decode cX12_falls 52 = .ok (.iload 4, 2) := by decide +kernel
theorem dX12_falls_54 : decode cX12_falls 54 = .ok (.if_icmp .gt 6, 3) := by decide +kernel
theorem dX12_falls_57 : decode cX12_falls 57 = .ok (.goto 10, 3) := by decide +kernel
theorem dX12_falls_60 : decode cX12_falls 60 = .ok (.iload 5, 2) := by decide +kernel
theorem dX12_falls_62 : decode cX12_falls 62 = .ok (.istore_n 3, 1) := by decide +kernel
theorem dX12_falls_63 : decode cX12_falls 63 = .ok (.iload 6, 2) := by decide +kernel
theorem dX12_falls_65 : decode cX12_falls 65 = .ok (.istore 4, 2) := by decide +kernel
theorem dX12_falls_67 : decode cX12_falls 67 = .ok (.iinc 5 1, 3) := by decide +kernel
theorem dX12_falls_70 : decode cX12_falls 70 = .ok (.goto (-45), 3) := by decide +kernel
theorem dX12_falls_73 : decode cX12_falls 73 = .ok (.iload_n 3, 1) := by decide +kernel
theorem dX12_falls_74 : decode cX12_falls 74 = .ok (.ifCond .ge 6, 3) := by decide +kernel
theorem dX12_falls_77 : decode cX12_falls 77 = .ok (.bipush (-2), 2) := by decide +kernel
theorem dX12_falls_79 : decode cX12_falls 79 = .ok (.ireturn, 1) := by decide +kernel
theorem dX12_falls_80 : decode cX12_falls 80 = .ok (.aload_n 0, 1) := by decide +kernel
theorem dX12_falls_81 : decode cX12_falls 81 = .ok (.iconst 0, 1) := by decide +kernel
theorem dX12_falls_82 : decode cX12_falls 82 = .ok (.putfield 116, 3) := by decide +kernel
theorem dX12_falls_85 : decode cX12_falls 85 = .ok (.aload_n 0, 1) := by decide +kernel
theorem dX12_falls_86 : decode cX12_falls 86 = .ok (.iload 4, 2) := by decide +kernel
theorem dX12_falls_88 : decode cX12_falls 88 = .ok (.i2l, 1) := by decide +kernel
theorem dX12_falls_89 : decode cX12_falls 89 = .ok (.invokevirtual 265, 3) := by decide +kernel
theorem dX12_falls_92 : decode cX12_falls 92 = .ok (.iload_n 3, 1) := by decide +kernel
theorem dX12_falls_93 : decode cX12_falls 93 = .ok (.ireturn, 1) := by decide +kernel
theorem dX12_poles_0 : decode cX12_poles 0 = .ok (.aload_n 0, 1) := by decide +kernel
theorem dX12_poles_1 : decode cX12_poles 1 = .ok (.iconst 0, 1) := by decide +kernel
theorem dX12_poles_2 : decode cX12_poles 2 = .ok (.putfield 113, 3) := by decide +kernel
theorem dX12_poles_5 : decode cX12_poles 5 = .ok (.aload_n 0, 1) := by decide +kernel
theorem dX12_poles_6 : decode cX12_poles 6 = .ok (.iload_n 1, 1) := by decide +kernel
theorem dX12_poles_7 : decode cX12_poles 7 = .ok (.iload_n 2, 1) := by decide +kernel
theorem dX12_poles_8 : decode cX12_poles 8 = .ok (.invokevirtual 279, 3) := by decide +kernel
theorem dX12_poles_11 : decode cX12_poles 11 = .ok (.ifCond .eq 13, 3) := by decide +kernel
theorem dX12_poles_14 : decode cX12_poles 14 = .ok (.iload_n 3, 1) := by decide +kernel
theorem dX12_poles_15 : decode cX12_poles 15 = .ok (.iconst 0, 1) := by decide +kernel
theorem dX12_poles_16 : decode cX12_poles 16 = .ok (.bipush 8, 2) := by decide +kernel
theorem dX12_poles_18 : decode cX12_poles 18 = .ok (.invokestatic 122, 3) := by decide +kernel
theorem dX12_poles_21 : decode cX12_poles 21 = .ok (.ifCond .ne 5, 3) := by decide +kernel
theorem dX12_poles_24 : decode cX12_poles 24 = .ok (.iconst (-1), 1) := by decide +kernel
theorem dX12_poles_25 : decode cX12_poles 25 = .ok (.ireturn, 1) := by decide +kernel
theorem dX12_poles_26 : decode cX12_poles 26 = .ok (.iconst 0, 1) := by decide +kernel
theorem dX12_poles_27 : decode cX12_poles 27 = .ok (.istore 4, 2) := by decide +kernel
theorem dX12_poles_29 : decode cX12_poles 29 = .ok (.iload 4, 2) := by decide +kernel
theorem dX12_poles_31 : decode cX12_poles 31 = .ok (.bipush 8, 2) := by decide +kernel
theorem dX12_poles_33 : decode cX12_poles 33 = .ok (.if_icmp .gt 28, 3) := by decide +kernel
theorem dX12_poles_36 : decode cX12_poles 36 = .ok (.aload_n 0, 1) := by decide +kernel
theorem dX12_poles_37 : decode cX12_poles 37 = .ok (.getfield 61, 3) := by decide +kernel
theorem dX12_poles_40 : decode cX12_poles 40 = .ok (.iload 4, 2) := by decide +kernel
theorem dX12_poles_42 : decode cX12_poles 42 = .ok (.iload 4, 2) := by decide +kernel
theorem dX12_poles_44 : decode cX12_poles 44 = .ok (.ifCond .ne 9, 3) := by decide +kernel
theorem dX12_poles_47 : decode cX12_poles 47 = .ok (.sipush 10000, 3) := by decide +kernel
theorem dX12_poles_50 : decode cX12_poles 50 = .ok (.goto 4, 3) := by decide +kernel
theorem dX12_poles_53 : decode cX12_poles 53 = .ok (.iconst 0, 1) := by decide +kernel
theorem dX12_poles_54 : decode cX12_poles 54 = .ok (.iastore, 1) := by decide +kernel
theorem dX12_poles_55 : decode cX12_poles 55 = .ok (.iinc 4 1, 3) := by decide +kernel
theorem dX12_poles_58 : decode cX12_poles 58 = .ok (.goto (-29), 3) := by decide +kernel
theorem dX12_poles_61 : decode cX12_poles 61 = .ok (.iconst 0, 1) := by decide +kernel
theorem dX12_poles_62 : decode cX12_poles 62 = .ok (.istore 4, 2) := by decide +kernel
theorem dX12_poles_64 : decode cX12_poles 64 = .ok (.iload 4, 2) := by decide +kernel
theorem dX12_poles_66 : decode cX12_poles 66 = .ok (.aload_n 0, 1) := by decide +kernel
theorem dX12_poles_67 : decode cX12_poles 67 = .ok (.getfield 119, 3) := by decide +kernel
theorem dX12_poles_70 : decode cX12_poles 70 = .ok (.if_icmp .ge 88, 3) := by decide +kernel
theorem dX12_poles_73 : decode cX12_poles 73 = .ok (.aload_n 0, 1) := by decide +kernel
theorem dX12_poles_74 : decode cX12_poles 74 = .ok (.iload_n 1, 1) := by decide +kernel
theorem dX12_poles_75 : decode cX12_poles 75 = .ok (.iload 4, 2) := by decide +kernel
theorem dX12_poles_77 : decode cX12_poles 77 = .ok (.aload_n 0, 1) := by decide +kernel
theorem dX12_poles_78 : decode cX12_poles 78 = .ok (.iload_n 2, 1) := by decide +kernel
theorem dX12_poles_79 : decode cX12_poles 79 = .ok (.iload 4, 2) := by decide +kernel
theorem dX12_poles_81 : decode cX12_poles 81 = .ok (.invokevirtual 273, 3) := by decide +kernel
theorem dX12_poles_84 : decode cX12_poles 84 = .ok (.invokevirtual 259, 3) := by decide +kernel
theorem dX12_poles_87 : decode cX12_poles 87 = .ok (.istore 5, 2) := by decide +kernel
theorem dX12_poles_89 : decode cX12_poles 89 = .ok (.bipush 8, 2) := by decide +kernel
theorem dX12_poles_91 : decode cX12_poles 91 = .ok (.istore 6, 2) := by decide +kernel
theorem dX12_poles_93 : decode cX12_poles 93 = .ok (.iload 6, 2) := by decide +kernel
theorem dX12_poles_95 : decode cX12_poles 95 = .ok (.ifCond .lt 57, 3) := by decide +kernel
theorem dX12_poles_98 : decode cX12_poles 98 = .ok (.aload_n 0, 1) := by decide +kernel
theorem dX12_poles_99 : decode cX12_poles 99 = .ok (.getfield 61, 3) := by decide +kernel
theorem dX12_poles_102 : decode cX12_poles 102 = .ok (.iload 6, 2) := by decide +kernel
theorem dX12_poles_104 : decode cX12_poles 104 = .ok (.aload_n 0, 1) := by decide +kernel
theorem dX12_poles_105 : decode cX12_poles 105 = .ok (.getfield 61, 3) := by decide +kernel
theorem dX12_poles_108 : decode cX12_poles 108 = .ok (.iload 6, 2) := by decide +kernel
theorem dX12_poles_110 : decode cX12_poles 110 = .ok (.iaload, 1) := by decide +kernel
theorem dX12_poles_111 : decode cX12_poles 111 = .ok (.bipush 100, 2) := by decide +kernel
theorem dX12_poles_113 : decode cX12_poles 113 = .ok (.iload 5, 2) := by decide +kernel
theorem dX12_poles_115 : decode cX12_poles 115 = .ok (.isub, 1) := by decide +kernel
theorem dX12_poles_116 : decode cX12_poles 116 = .ok (.imul, 1) := by decide +kernel
theorem dX12_poles_117 : decode cX12_poles 117 = .ok (.bipush 100, 2) := by decide +kernel
theorem dX12_poles_119 : decode cX12_poles 119 = .ok (.idiv, 1) := by decide +kernel
theorem dX12_poles_120 : decode cX12_poles 120 = .ok (.iload 6, 2) := by decide +kernel
theorem dX12_poles_122 : decode cX12_poles 122 = .ok (.ifCond .ne 7, 3) := by decide +kernel
theorem dX12_poles_125 : decode cX12_poles 125 = .ok (.iconst 0, 1) := by decide +kernel
theorem dX12_poles_126 : decode cX12_poles 126 = .ok (.goto 18, 3) := by decide +kernel
theorem dX12_poles_129 : decode cX12_poles 129 = .ok (.aload_n 0, 1) := by decide +kernel
theorem dX12_poles_130 : decode cX12_poles 130 = .ok (.getfield 61, 3) := by decide +kernel
theorem dX12_poles_133 : decode cX12_poles 133 = .ok (.iload 6, 2) := by decide +kernel
theorem dX12_poles_135 : decode cX12_poles 135 = .ok (.iconst 1, 1) := by decide +kernel
theorem dX12_poles_136 : decode cX12_poles 136 = .ok (.isub, 1) := by decide +kernel
theorem dX12_poles_137 : decode cX12_poles 137 = .ok (.iaload, 1) := by decide +kernel
theorem dX12_poles_138 : decode cX12_poles 138 = .ok (.iload 5, 2) := by decide +kernel
theorem dX12_poles_140 : decode cX12_poles 140 = .ok (.imul, 1) := by decide +kernel
theorem dX12_poles_141 : decode cX12_poles 141 = .ok (.bipush 100, 2) := by decide +kernel
theorem dX12_poles_143 : decode cX12_poles 143 = .ok (.idiv, 1) := by decide +kernel
theorem dX12_poles_144 : decode cX12_poles 144 = .ok (.iadd, 1) := by decide +kernel
theorem dX12_poles_145 : decode cX12_poles 145 = .ok (.iastore, 1) := by decide +kernel
theorem dX12_poles_146 : decode cX12_poles 146 = .ok (.iinc 6 (-1), 3) := by decide +kernel
theorem dX12_poles_149 : decode cX12_poles 149 = .ok (.goto (-56), 3) := by decide +kernel
theorem dX12_poles_152 : decode cX12_poles 152 = .ok (.iinc 4 1, 3) := by decide +kernel
theorem dX12_poles_155 : decode cX12_poles 155 = .ok (.goto (-91), 3) := by decide +kernel
theorem dX12_poles_158 : decode cX12_poles 158 = .ok (.aload_n 0, 1) := by decide +kernel
theorem dX12_poles_159 : decode cX12_poles 159 = .ok (.getfield 61, 3) := by decide +kernel
theorem dX12_poles_162 : decode cX12_poles 162 = .ok (.iload_n 3, 1) := by decide +kernel
theorem dX12_poles_163 : decode cX12_poles 163 = .ok (.iaload, 1) := by decide +kernel
theorem dX12_poles_164 : decode cX12_poles 164 = .ok (.ireturn, 1) := by decide +kernel
theorem dX12_cuts_0 : decode cX12_cuts 0 = .ok (.aload_n 0, 1) := by decide +kernel
theorem dX12_cuts_1 : decode cX12_cuts 1 = .ok (.iconst 0, 1) := by decide +kernel
theorem dX12_cuts_2 : decode cX12_cuts 2 = .ok (.putfield 113, 3) := by decide +kernel
theorem dX12_cuts_5 : decode cX12_cuts 5 = .ok (.aload_n 0, 1) := by decide +kernel
theorem dX12_cuts_6 : decode cX12_cuts 6 = .ok (.iload_n 1, 1) := by decide +kernel
theorem dX12_cuts_7 : decode cX12_cuts 7 = .ok (.iload_n 2, 1) := by decide +kernel
theorem dX12_cuts_8 : decode cX12_cuts 8 = .ok (.invokevirtual 279, 3) := by decide +kernel
theorem dX12_cuts_11 : decode cX12_cuts 11 = .ok (.ifCond .ne 5, 3) := by decide +kernel
theorem dX12_cuts_14 : decode cX12_cuts 14 = .ok (.iconst (-1), 1) := by decide +kernel
theorem dX12_cuts_15 : decode cX12_cuts 15 = .ok (.ireturn, 1) := by decide +kernel
theorem dX12_cuts_16 : decode cX12_cuts 16 = .ok (.bipush (-2), 2) := by decide +kernel
theorem dX12_cuts_18 : decode cX12_cuts 18 = .ok (.istore_n 3, 1) := by decide +kernel
theorem dX12_cuts_19 : decode cX12_cuts 19 = .ok (.iconst 0, 1) := by decide +kernel
theorem dX12_cuts_20 : decode cX12_cuts 20 = .ok (.istore 4, 2) := by decide +kernel
theorem dX12_cuts_22 : decode cX12_cuts 22 = .ok (.iconst 0, 1) := by decide +kernel
theorem dX12_cuts_23 : decode cX12_cuts 23 = .ok (.istore 5, 2) := by decide +kernel
theorem dX12_cuts_25 : decode cX12_cuts 25 = .ok (.iconst 0, 1) := by decide +kernel
theorem dX12_cuts_26 : decode cX12_cuts 26 = .ok (.istore 6, 2) := by decide +kernel
theorem dX12_cuts_28 : decode cX12_cuts 28 = .ok (.iload 6, 2) := by decide +kernel
theorem dX12_cuts_30 : decode cX12_cuts 30 = .ok (.aload_n 0, 1) := by decide +kernel
theorem dX12_cuts_31 : decode cX12_cuts 31 = .ok (.getfield 119, 3) := by decide +kernel
theorem dX12_cuts_34 : decode cX12_cuts 34 = .ok (.if_icmp .ge 110, 3) := by decide +kernel
theorem dX12_cuts_37 : decode cX12_cuts 37 = .ok (.aload_n 0, 1) := by decide +kernel
theorem dX12_cuts_38 : decode cX12_cuts 38 = .ok (.iload_n 2, 1) := by decide +kernel
theorem dX12_cuts_39 : decode cX12_cuts 39 = .ok (.iload 6, 2) := by decide +kernel
theorem dX12_cuts_41 : decode cX12_cuts 41 = .ok (.invokevirtual 273, 3) := by decide +kernel
theorem dX12_cuts_44 : decode cX12_cuts 44 = .ok (.istore 7, 2) := by decide +kernel
theorem dX12_cuts_46 : decode cX12_cuts 46 = .ok (.iload 7, 2) := by decide +kernel
theorem dX12_cuts_48 : decode cX12_cuts 48 = .ok (.iconst 4, 1) := by decide +kernel
theorem dX12_cuts_49 : decode cX12_cuts 49 = .ok (.if_icmp .lt 6, 3) := by decide +kernel
theorem dX12_cuts_52 : decode cX12_cuts 52 = .ok (.goto 86, 3) := by decide +kernel
theorem dX12_cuts_55 : decode cX12_cuts 55 = .ok (.aload_n 0, 1) := by decide +kernel
theorem dX12_cuts_56 : decode cX12_cuts 56 = .ok (.iload_n 1, 1) := by decide +kernel
theorem dX12_cuts_57 : decode cX12_cuts 57 = .ok (.iload 6, 2) := by decide +kernel
theorem dX12_cuts_59 : decode cX12_cuts 59 = .ok (.iload 7, 2) := by decide +kernel
theorem dX12_cuts_61 : decode cX12_cuts 61 = .ok (.iconst 4, 1) := by decide +kernel
theorem dX12_cuts_62 : decode cX12_cuts 62 = .ok (.iadd, 1) := by decide +kernel
theorem dX12_cuts_63 : decode cX12_cuts 63 = .ok (.invokevirtual 259, 3) := by decide +kernel
theorem dX12_cuts_66 : decode cX12_cuts 66 = .ok (.aload_n 0, 1) := by decide +kernel
theorem dX12_cuts_67 : decode cX12_cuts 67 = .ok (.iload_n 1, 1) := by decide +kernel
theorem dX12_cuts_68 : decode cX12_cuts 68 = .ok (.iload 6, 2) := by decide +kernel
theorem dX12_cuts_70 : decode cX12_cuts 70 = .ok (.iload 7, 2) := by decide +kernel
theorem dX12_cuts_72 : decode cX12_cuts 72 = .ok (.invokevirtual 259, 3) := by decide +kernel
theorem dX12_cuts_75 : decode cX12_cuts 75 = .ok (.isub, 1) := by decide +kernel
theorem dX12_cuts_76 : decode cX12_cuts 76 = .ok (.istore 8, 2) := by decide +kernel
theorem dX12_cuts_78 : decode cX12_cuts 78 = .ok (.aload_n 0, 1) := by decide +kernel
theorem dX12_cuts_79 : decode cX12_cuts 79 = .ok (.iload 6, 2) := by decide +kernel
theorem dX12_cuts_81 : decode cX12_cuts 81 = .ok (.iload 7, 2) := by decide +kernel
theorem dX12_cuts_83 : decode cX12_cuts 83 = .ok (.invokevirtual 269, 3) := by decide +kernel
theorem dX12_cuts_86 : decode cX12_cuts 86 = .ok (.aload_n 0, 1) := by decide +kernel
theorem dX12_cuts_87 : decode cX12_cuts 87 = .ok (.iload 6, 2) := by decide +kernel
theorem dX12_cuts_89 : decode cX12_cuts 89 = .ok (.iload 7, 2) := by decide +kernel
theorem dX12_cuts_91 : decode cX12_cuts 91 = .ok (.iconst 4, 1) := by decide +kernel
theorem dX12_cuts_92 : decode cX12_cuts 92 = .ok (.iadd, 1) := by decide +kernel
theorem dX12_cuts_93 : decode cX12_cuts 93 = .ok (.invokevirtual 269, 3) := by decide +kernel
theorem dX12_cuts_96 : decode cX12_cuts 96 = .ok (.isub, 1) := by decide +kernel
theorem dX12_cuts_97 : decode cX12_cuts 97 = .ok (.istore 9, 2) := by decide +kernel
theorem dX12_cuts_99 : decode cX12_cuts 99 = .ok (.iload_n 3, 1) := by decide +kernel
theorem dX12_cuts_100 : decode cX12_cuts 100 = .ok (.ifCond .lt 27, 3) := by decide +kernel
theorem dX12_cuts_103 : decode cX12_cuts 103 = .ok (.iload 8, 2) := by decide +kernel
theorem dX12_cuts_105 : decode cX12_cuts 105 = .ok (.iload 4, 2) := by decide +kernel
theorem dX12_cuts_107 : decode cX12_cuts 107 = .ok (.if_icmp .gt 31, 3) := by decide +kernel
theorem dX12_cuts_110 : decode cX12_cuts 110 = .ok (.iload 8, 2) := by decide +kernel
theorem dX12_cuts_112 : decode cX12_cuts 112 = .ok (.iload 4, 2) := by decide +kernel
theorem dX12_cuts_114 : decode cX12_cuts 114 = .ok (.if_icmp .ne 13, 3) := by decide +kernel
theorem dX12_cuts_117 : decode cX12_cuts 117 = .ok (.iload 9, 2) := by decide +kernel
theorem dX12_cuts_119 : decode cX12_cuts 119 = .ok (.iload 5, 2) := by decide +kernel
theorem dX12_cuts_121 : decode cX12_cuts 121 = .ok (.if_icmp .gt 6, 3) := by decide +kernel
theorem dX12_cuts_124 : decode cX12_cuts 124 = .ok (.goto 14, 3) := by decide +kernel
theorem dX12_cuts_127 : decode cX12_cuts 127 = .ok (.iload 6, 2) := by decide +kernel
theorem dX12_cuts_129 : decode cX12_cuts 129 = .ok (.istore_n 3, 1) := by decide +kernel
theorem dX12_cuts_130 : decode cX12_cuts 130 = .ok (.iload 8, 2) := by decide +kernel
theorem dX12_cuts_132 : decode cX12_cuts 132 = .ok (.istore 4, 2) := by decide +kernel
theorem dX12_cuts_134 : decode cX12_cuts 134 = .ok (.iload 9, 2) := by decide +kernel
theorem dX12_cuts_136 : decode cX12_cuts 136 = .ok (.istore 5, 2) := by decide +kernel
theorem dX12_cuts_138 : decode cX12_cuts 138 = .ok (.iinc 6 1, 3) := by decide +kernel
theorem dX12_cuts_141 : decode cX12_cuts 141 = .ok (.goto (-113), 3) := by decide +kernel
theorem dX12_cuts_144 : decode cX12_cuts 144 = .ok (.iload_n 3, 1) := by decide +kernel
theorem dX12_cuts_145 : decode cX12_cuts 145 = .ok (.ifCond .ge 6, 3) := by decide +kernel
theorem dX12_cuts_148 : decode cX12_cuts 148 = .ok (.bipush (-2), 2) := by decide +kernel
theorem dX12_cuts_150 : decode cX12_cuts 150 = .ok (.ireturn, 1) := by decide +kernel
theorem dX12_cuts_151 : decode cX12_cuts 151 = .ok (.aload_n 0, 1) := by decide +kernel
theorem dX12_cuts_152 : decode cX12_cuts 152 = .ok (.iconst 0, 1) := by decide +kernel
theorem dX12_cuts_153 : decode cX12_cuts 153 = .ok (.putfield 116, 3) := by decide +kernel
theorem dX12_cuts_156 : decode cX12_cuts 156 = .ok (.aload_n 0, 1) := by decide +kernel
theorem dX12_cuts_157 : decode cX12_cuts 157 = .ok (.iload 4, 2) := by decide +kernel
theorem dX12_cuts_159 : decode cX12_cuts 159 = .ok (.i2l, 1) := by decide +kernel
theorem dX12_cuts_160 : decode cX12_cuts 160 = .ok (.invokevirtual 265, 3) := by decide +kernel
theorem dX12_cuts_163 : decode cX12_cuts 163 = .ok (.aload_n 0, 1) := by decide +kernel
theorem dX12_cuts_164 : decode cX12_cuts 164 = .ok (.iload 5, 2) := by decide +kernel
theorem dX12_cuts_166 : decode cX12_cuts 166 = .ok (.i2l, 1) := by decide +kernel
theorem dX12_cuts_167 : decode cX12_cuts 167 = .ok (.invokevirtual 265, 3) := by decide +kernel
theorem dX12_cuts_170 : decode cX12_cuts 170 = .ok (.iload_n 3, 1) := by decide +kernel
theorem dX12_cuts_171 : decode cX12_cuts 171 = .ok (.ireturn, 1) := by decide +kernel
theorem dX12_layFences_0 : decode cX12_layFences 0 = .ok (.iconst 0, 1) := by decide +kernel
theorem dX12_layFences_1 : decode cX12_layFences 1 = .ok (.istore_n 3, 1) := by decide +kernel
theorem dX12_layFences_2 : decode cX12_layFences 2 = .ok (.iload_n 3, 1) := by decide +kernel
theorem dX12_layFences_3 : decode cX12_layFences 3 = .ok (.aload_n 0, 1) := by decide +kernel
theorem dX12_layFences_4 : decode cX12_layFences 4 = .ok (.getfield 119, 3) := by decide +kernel
theorem dX12_layFences_7 : decode cX12_layFences 7 = .ok (.if_icmp .ge 97, 3) := by decide +kernel
theorem dX12_layFences_10 : decode cX12_layFences 10 = .ok (.iconst 0, 1) := by decide +kernel
theorem dX12_layFences_11 : decode cX12_layFences 11 = .ok (.istore 4, 2) := by decide +kernel
theorem dX12_layFences_13 : decode cX12_layFences 13 = .ok (.iload 4, 2) := by decide +kernel
theorem dX12_layFences_15 : decode cX12_layFences 15 = .ok (.bipush 8, 2) := by decide +kernel
theorem dX12_layFences_17 : decode cX12_layFences 17 = .ok (.if_icmp .ge 81, 3) := by decide +kernel
theorem dX12_layFences_20 : decode cX12_layFences 20 = .ok (.aload_n 0, 1) := by decide +kernel
theorem dX12_layFences_21 : decode cX12_layFences 21 = .ok (.iload_n 3, 1) := by decide +kernel
theorem dX12_layFences_22 : decode cX12_layFences 22 = .ok (.iload 4, 2) := by decide +kernel
theorem dX12_layFences_24 : decode cX12_layFences 24 = .ok (.invokevirtual 269, 3) := by decide +kernel
theorem dX12_layFences_27 : decode cX12_layFences 27 = .ok (.istore 5, 2) := by decide +kernel
theorem dX12_layFences_29 : decode cX12_layFences 29 = .ok (.aload_n 0, 1) := by decide +kernel
theorem dX12_layFences_30 : decode cX12_layFences 30 = .ok (.iload_n 1, 1) := by decide +kernel
theorem dX12_layFences_31 : decode cX12_layFences 31 = .ok (.iload_n 3, 1) := by decide +kernel
theorem dX12_layFences_32 : decode cX12_layFences 32 = .ok (.iload 4, 2) := by decide +kernel
theorem dX12_layFences_34 : decode cX12_layFences 34 = .ok (.invokevirtual 259, 3) := by decide +kernel
theorem dX12_layFences_37 : decode cX12_layFences 37 = .ok (.aload_n 0, 1) := by decide +kernel
theorem dX12_layFences_38 : decode cX12_layFences 38 = .ok (.iload_n 1, 1) := by decide +kernel
theorem dX12_layFences_39 : decode cX12_layFences 39 = .ok (.iload_n 3, 1) := by decide +kernel
theorem dX12_layFences_40 : decode cX12_layFences 40 = .ok (.invokevirtual 262, 3) := by decide +kernel
theorem dX12_layFences_43 : decode cX12_layFences 43 = .ok (.iadd, 1) := by decide +kernel
theorem dX12_layFences_44 : decode cX12_layFences 44 = .ok (.istore 6, 2) := by decide +kernel
theorem dX12_layFences_46 : decode cX12_layFences 46 = .ok (.aload_n 0, 1) := by decide +kernel
theorem dX12_layFences_47 : decode cX12_layFences 47 = .ok (.getfield 67, 3) := by decide +kernel
theorem dX12_layFences_50 : decode cX12_layFences 50 = .ok (.bipush 8, 2) := by decide +kernel
theorem dX12_layFences_52 : decode cX12_layFences 52 = .ok (.iload_n 3, 1) := by decide +kernel
theorem dX12_layFences_53 : decode cX12_layFences 53 = .ok (.imul, 1) := by decide +kernel
theorem dX12_layFences_54 : decode cX12_layFences 54 = .ok (.iload 4, 2) := by decide +kernel
theorem dX12_layFences_56 : decode cX12_layFences 56 = .ok (.iadd, 1) := by decide +kernel
theorem dX12_layFences_57 : decode cX12_layFences 57 = .ok (.iload_n 2, 1) := by decide +kernel
theorem dX12_layFences_58 : decode cX12_layFences 58 = .ok (.ifCond .eq 8, 3) := by decide +kernel
theorem dX12_layFences_61 : decode cX12_layFences 61 = .ok (.iload 5, 2) := by decide +kernel
theorem dX12_layFences_63 : decode cX12_layFences 63 = .ok (.goto 5, 3) := by decide +kernel
theorem dX12_layFences_66 : decode cX12_layFences 66 = .ok (.iload 6, 2) := by decide +kernel
theorem dX12_layFences_68 : decode cX12_layFences 68 = .ok (.iastore, 1) := by decide +kernel
theorem dX12_layFences_69 : decode cX12_layFences 69 = .ok (.aload_n 0, 1) := by decide +kernel
theorem dX12_layFences_70 : decode cX12_layFences 70 = .ok (.getfield 70, 3) := by decide +kernel
theorem dX12_layFences_73 : decode cX12_layFences 73 = .ok (.bipush 8, 2) := by decide +kernel
theorem dX12_layFences_75 : decode cX12_layFences 75 = .ok (.iload_n 3, 1) := by decide +kernel
theorem dX12_layFences_76 : decode cX12_layFences 76 = .ok (.imul, 1) := by decide +kernel
theorem dX12_layFences_77 : decode cX12_layFences 77 = .ok (.iload 4, 2) := by decide +kernel
theorem dX12_layFences_79 : decode cX12_layFences 79 = .ok (.iadd, 1) := by decide +kernel
theorem dX12_layFences_80 : decode cX12_layFences 80 = .ok (.iload_n 2, 1) := by decide +kernel
theorem dX12_layFences_81 : decode cX12_layFences 81 = .ok (.ifCond .eq 8, 3) := by decide +kernel
theorem dX12_layFences_84 : decode cX12_layFences 84 = .ok (.iload 6, 2) := by decide +kernel
theorem dX12_layFences_86 : decode cX12_layFences 86 = .ok (.goto 5, 3) := by decide +kernel
theorem dX12_layFences_89 : decode cX12_layFences 89 = .ok (.iload 5, 2) := by decide +kernel
theorem dX12_layFences_91 : decode cX12_layFences 91 = .ok (.iastore, 1) := by decide +kernel
theorem dX12_layFences_92 : decode cX12_layFences 92 = .ok (.iinc 4 1, 3) := by decide +kernel
theorem dX12_layFences_95 : decode cX12_layFences 95 = .ok (.goto (-82), 3) := by decide +kernel
theorem dX12_layFences_98 : decode cX12_layFences 98 = .ok (.iinc 3 1, 3) := by decide +kernel
theorem dX12_layFences_101 : decode cX12_layFences 101 = .ok (.goto (-99), 3) := by decide +kernel
theorem dX12_layFences_104 : decode cX12_layFences 104 = .ok (.return_, 1) := by decide +kernel
theorem dX12_leftBy_0 : decode cX12_leftBy 0 = .ok (.bipush 8, 2) := by decide +kernel
theorem dX12_leftBy_2 : decode cX12_leftBy 2 = .ok (.iload_n 1, 1) := by decide +kernel
theorem dX12_leftBy_3 : decode cX12_leftBy 3 = .ok (.imul, 1) := by decide +kernel
theorem dX12_leftBy_4 : decode cX12_leftBy 4 = .ok (.iload_n 2, 1) := by decide +kernel
theorem dX12_leftBy_5 : decode cX12_leftBy 5 = .ok (.iadd, 1) := by decide +kernel
theorem dX12_leftBy_6 : decode cX12_leftBy 6 = .ok (.istore 4, 2) := by decide +kernel
theorem dX12_leftBy_8 : decode cX12_leftBy 8 = .ok (.aload_n 0, 1) := by decide +kernel
theorem dX12_leftBy_9 : decode cX12_leftBy 9 = .ok (.getfield 67, 3) := by decide +kernel
theorem dX12_leftBy_12 : decode cX12_leftBy 12 = .ok (.iload 4, 2) := by decide +kernel
theorem dX12_leftBy_14 : decode cX12_leftBy 14 = .ok (.iaload, 1) := by decide +kernel
theorem dX12_leftBy_15 : decode cX12_leftBy 15 = .ok (.iload_n 3, 1) := by decide +kernel
theorem dX12_leftBy_16 : decode cX12_leftBy 16 = .ok (.if_icmp .le 7, 3) := by decide +kernel
theorem dX12_leftBy_19 : decode cX12_leftBy 19 = .ok (.ldc_w 272, 3) := by decide +kernel
theorem dX12_leftBy_22 : decode cX12_leftBy 22 = .ok (.ireturn, 1) := by decide +kernel
theorem dX12_leftBy_23 : decode cX12_leftBy 23 = .ok (.aload_n 0, 1) := by decide +kernel
theorem dX12_leftBy_24 : decode cX12_leftBy 24 = .ok (.getfield 64, 3) := by decide +kernel
theorem dX12_leftBy_27 : decode cX12_leftBy 27 = .ok (.sipush 1300, 3) := by decide +kernel
theorem dX12_leftBy_30 : decode cX12_leftBy 30 = .ok (.iload_n 1, 1) := by decide +kernel
theorem dX12_leftBy_31 : decode cX12_leftBy 31 = .ok (.iconst 1, 1) := by decide +kernel
theorem dX12_leftBy_32 : decode cX12_leftBy 32 = .ok (.iadd, 1) := by decide +kernel
theorem dX12_leftBy_33 : decode cX12_leftBy 33 = .ok (.imul, 1) := by decide +kernel
theorem dX12_leftBy_34 : decode cX12_leftBy 34 = .ok (.iload_n 3, 1) := by decide +kernel
theorem dX12_leftBy_35 : decode cX12_leftBy 35 = .ok (.iadd, 1) := by decide +kernel
theorem dX12_leftBy_36 : decode cX12_leftBy 36 = .ok (.aload_n 0, 1) := by decide +kernel
theorem dX12_leftBy_37 : decode cX12_leftBy 37 = .ok (.getfield 67, 3) := by decide +kernel
theorem dX12_leftBy_40 : decode cX12_leftBy 40 = .ok (.iload 4, 2) := by decide +kernel
theorem dX12_leftBy_42 : decode cX12_leftBy 42 = .ok (.iaload, 1) := by decide +kernel
theorem dX12_leftBy_43 : decode cX12_leftBy 43 = .ok (.isub, 1) := by decide +kernel
theorem dX12_leftBy_44 : decode cX12_leftBy 44 = .ok (.iaload, 1) := by decide +kernel
theorem dX12_leftBy_45 : decode cX12_leftBy 45 = .ok (.istore 5, 2) := by decide +kernel
theorem dX12_leftBy_47 : decode cX12_leftBy 47 = .ok (.iload 5, 2) := by decide +kernel
theorem dX12_leftBy_49 : decode cX12_leftBy 49 = .ok (.ldc_w 272, 3) := by decide +kernel
theorem dX12_leftBy_52 : decode cX12_leftBy 52 = .ok (.if_icmp .ne 9, 3) := by decide +kernel
theorem dX12_leftBy_55 : decode cX12_leftBy 55 = .ok (.ldc_w 272, 3) := by decide +kernel
theorem dX12_leftBy_58 : decode cX12_leftBy 58 = .ok (.goto 25, 3) := by decide +kernel
theorem dX12_leftBy_61 : decode cX12_leftBy 61 = .ok (.iload 5, 2) := by decide +kernel
theorem dX12_leftBy_63 : decode cX12_leftBy 63 = .ok (.sipush 10000, 3) := by decide +kernel
theorem dX12_leftBy_66 : decode cX12_leftBy 66 = .ok (.aload_n 0, 1) := by decide +kernel
theorem dX12_leftBy_67 : decode cX12_leftBy 67 = .ok (.getfield 70, 3) := by decide +kernel
theorem dX12_leftBy_70 : decode cX12_leftBy 70 = .ok (.iload 4, 2) := by decide +kernel
theorem dX12_leftBy_72 : decode cX12_leftBy 72 = .ok (.iaload, 1) := by decide +kernel
theorem dX12_leftBy_73 : decode cX12_leftBy 73 = .ok (.imul, 1) := by decide +kernel
theorem dX12_leftBy_74 : decode cX12_leftBy 74 = .ok (.iadd, 1) := by decide +kernel
theorem dX12_leftBy_75 : decode cX12_leftBy 75 = .ok (.aload_n 0, 1) := by decide +kernel
theorem dX12_leftBy_76 : decode cX12_leftBy 76 = .ok (.getfield 67, 3) := by decide +kernel
theorem dX12_leftBy_79 : decode cX12_leftBy 79 = .ok (.iload 4, 2) := by decide +kernel
theorem dX12_leftBy_81 : decode cX12_leftBy 81 = .ok (.iaload, 1) := by decide +kernel
theorem dX12_leftBy_82 : decode cX12_leftBy 82 = .ok (.iadd, 1) := by decide +kernel
theorem dX12_leftBy_83 : decode cX12_leftBy 83 = .ok (.ireturn, 1) := by decide +kernel
theorem dX12_least_0 : decode cX12_least 0 = .ok (.iload_n 1, 1) := by decide +kernel
theorem dX12_least_1 : decode cX12_least 1 = .ok (.sipush 1299, 3) := by decide +kernel
theorem dX12_least_4 : decode cX12_least 4 = .ok (.invokestatic 238, 3) := by decide +kernel
theorem dX12_least_7 : decode cX12_least 7 = .ok (.istore_n 2, 1) := by decide +kernel
theorem dX12_least_8 : decode cX12_least 8 = .ok (.iconst 0, 1) := by decide +kernel
theorem dX12_least_9 : decode cX12_least 9 = .ok (.istore_n 3, 1) := by decide +kernel
theorem dX12_least_10 : decode cX12_least 10 = .ok (.iload_n 3, 1) := by decide +kernel
theorem dX12_least_11 : decode cX12_least 11 = .ok (.sipush 1300, 3) := by decide +kernel
theorem dX12_least_14 : decode cX12_least 14 = .ok (.if_icmp .ge 25, 3) := by decide +kernel
theorem dX12_least_17 : decode cX12_least 17 = .ok (.aload_n 0, 1) := by decide +kernel
theorem dX12_least_18 : decode cX12_least 18 = .ok (.getfield 64, 3) := by decide +kernel
theorem dX12_least_21 : decode cX12_least 21 = .ok (.sipush 1300, 3) := by decide +kernel
theorem dX12_least_24 : decode cX12_least 24 = .ok (.aload_n 0, 1) := by decide +kernel
theorem dX12_least_25 : decode cX12_least 25 = .ok (.getfield 119, 3) := by decide +kernel
theorem dX12_least_28 : decode cX12_least 28 = .ok (.imul, 1) := by decide +kernel
theorem dX12_least_29 : decode cX12_least 29 = .ok (.iload_n 3, 1) := by decide +kernel
theorem dX12_least_30 : decode cX12_least 30 = .ok (.iadd, 1) := by decide +kernel
theorem dX12_least_31 : decode cX12_least 31 = .ok (.iconst 0, 1) := by decide +kernel
theorem dX12_least_32 : decode cX12_least 32 = .ok (.iastore, 1) := by decide +kernel
theorem dX12_least_33 : decode cX12_least 33 = .ok (.iinc 3 1, 3) := by decide +kernel
theorem dX12_least_36 : decode cX12_least 36 = .ok (.goto (-26), 3) := by decide +kernel
theorem dX12_least_39 : decode cX12_least 39 = .ok (.aload_n 0, 1) := by decide +kernel
theorem dX12_least_40 : decode cX12_least 40 = .ok (.getfield 119, 3) := by decide +kernel
theorem dX12_least_43 : decode cX12_least 43 = .ok (.iconst 1, 1) := by decide +kernel
theorem dX12_least_44 : decode cX12_least 44 = .ok (.isub, 1) := by decide +kernel
theorem dX12_least_45 : decode cX12_least 45 = .ok (.istore_n 3, 1) := by decide +kernel
theorem dX12_least_46 : decode cX12_least 46 = .ok (.iload_n 3, 1) := by decide +kernel
theorem dX12_least_47 : decode cX12_least 47 = .ok (.ifCond .lt 78, 3) := by decide +kernel
theorem dX12_least_50 : decode cX12_least 50 = .ok (.iconst 0, 1) := by decide +kernel
theorem dX12_least_51 : decode cX12_least 51 = .ok (.istore 4, 2) := by decide +kernel
theorem dX12_least_53 : decode cX12_least 53 = .ok (.iload 4, 2) := by decide +kernel
theorem dX12_least_55 : decode cX12_least 55 = .ok (.sipush 1300, 3) := by decide +kernel
theorem dX12_least_58 : decode cX12_least 58 = .ok (.if_icmp .ge 61, 3) := by decide +kernel
theorem dX12_least_61 : decode cX12_least 61 = .ok (.ldc_w 272, 3) := by decide +kernel
theorem dX12_least_64 : decode cX12_least 64 = .ok (.istore 5, 2) := by decide +kernel
theorem dX12_least_66 : decode cX12_least 66 = .ok (.iconst 0, 1) := by decide +kernel
theorem dX12_least_67 : decode cX12_least 67 = .ok (.istore 6, 2) := by decide +kernel
theorem dX12_least_69 : decode cX12_least 69 = .ok (.iload 6, 2) := by decide +kernel
theorem dX12_least_71 : decode cX12_least 71 = .ok (.bipush 8, 2) := by decide +kernel
theorem dX12_least_73 : decode cX12_least 73 = .ok (.if_icmp .ge 25, 3) := by decide +kernel
theorem dX12_least_76 : decode cX12_least 76 = .ok (.iload 5, 2) := by decide +kernel
theorem dX12_least_78 : decode cX12_least 78 = .ok (.aload_n 0, 1) := by decide +kernel
theorem dX12_least_79 : decode cX12_least 79 = .ok (.iload_n 3, 1) := by decide +kernel
theorem dX12_least_80 : decode cX12_least 80 = .ok (.iload 6, 2) := by decide +kernel
theorem dX12_least_82 : decode cX12_least 82 = .ok (.iload 4, 2) := by decide +kernel
theorem dX12_least_84 : decode cX12_least 84 = .ok (.invokevirtual 292, 3) := by decide +kernel
theorem dX12_least_87 : decode cX12_least 87 = .ok (.invokestatic 238, 3) := by decide +kernel
theorem dX12_least_90 : decode cX12_least 90 = .ok (.istore 5, 2) := by decide +kernel
theorem dX12_least_92 : decode cX12_least 92 = .ok (.iinc 6 1, 3) := by decide +kernel
theorem dX12_least_95 : decode cX12_least 95 = .ok (.goto (-26), 3) := by decide +kernel
theorem dX12_least_98 : decode cX12_least 98 = .ok (.aload_n 0, 1) := by decide +kernel
theorem dX12_least_99 : decode cX12_least 99 = .ok (.getfield 64, 3) := by decide +kernel
theorem dX12_least_102 : decode cX12_least 102 = .ok (.sipush 1300, 3) := by decide +kernel
theorem dX12_least_105 : decode cX12_least 105 = .ok (.iload_n 3, 1) := by decide +kernel
theorem dX12_least_106 : decode cX12_least 106 = .ok (.imul, 1) := by decide +kernel
theorem dX12_least_107 : decode cX12_least 107 = .ok (.iload 4, 2) := by decide +kernel
theorem dX12_least_109 : decode cX12_least 109 = .ok (.iadd, 1) := by decide +kernel
theorem dX12_least_110 : decode cX12_least 110 = .ok (.iload 5, 2) := by decide +kernel
theorem dX12_least_112 : decode cX12_least 112 = .ok (.iastore, 1) := by decide +kernel
theorem dX12_least_113 : decode cX12_least 113 = .ok (.iinc 4 1, 3) := by decide +kernel
theorem dX12_least_116 : decode cX12_least 116 = .ok (.goto (-63), 3) := by decide +kernel
theorem dX12_least_119 : decode cX12_least 119 = .ok (.iinc 3 (-1), 3) := by decide +kernel
theorem dX12_least_122 : decode cX12_least 122 = .ok (.goto (-76), 3) := by decide +kernel
theorem dX12_least_125 : decode cX12_least 125 = .ok (.aload_n 0, 1) := by decide +kernel
theorem dX12_least_126 : decode cX12_least 126 = .ok (.getfield 64, 3) := by decide +kernel
theorem dX12_least_129 : decode cX12_least 129 = .ok (.iload_n 2, 1) := by decide +kernel
theorem dX12_least_130 : decode cX12_least 130 = .ok (.iaload, 1) := by decide +kernel
theorem dX12_least_131 : decode cX12_least 131 = .ok (.ldc_w 272, 3) := by decide +kernel
theorem dX12_least_134 : decode cX12_least 134 = .ok (.if_icmp .ne 6, 3) := by decide +kernel
theorem dX12_least_137 : decode cX12_least 137 = .ok (.bipush (-2), 2) := by decide +kernel
theorem dX12_least_139 : decode cX12_least 139 = .ok (.ireturn, 1) := by decide +kernel
theorem dX12_least_140 : decode cX12_least 140 = .ok (.aload_n 0, 1) := by decide +kernel
theorem dX12_least_141 : decode cX12_least 141 = .ok (.iconst 0, 1) := by decide +kernel
theorem dX12_least_142 : decode cX12_least 142 = .ok (.putfield 116, 3) := by decide +kernel
theorem dX12_least_145 : decode cX12_least 145 = .ok (.aload_n 0, 1) := by decide +kernel
theorem dX12_least_146 : decode cX12_least 146 = .ok (.aload_n 0, 1) := by decide +kernel
theorem dX12_least_147 : decode cX12_least 147 = .ok (.getfield 64, 3) := by decide +kernel
theorem dX12_least_150 : decode cX12_least 150 = .ok (.iload_n 2, 1) := by decide +kernel
theorem dX12_least_151 : decode cX12_least 151 = .ok (.iaload, 1) := by decide +kernel
theorem dX12_least_152 : decode cX12_least 152 = .ok (.sipush 10000, 3) := by decide +kernel
theorem dX12_least_155 : decode cX12_least 155 = .ok (.irem, 1) := by decide +kernel
theorem dX12_least_156 : decode cX12_least 156 = .ok (.i2l, 1) := by decide +kernel
theorem dX12_least_157 : decode cX12_least 157 = .ok (.invokevirtual 265, 3) := by decide +kernel
theorem dX12_least_160 : decode cX12_least 160 = .ok (.iload_n 2, 1) := by decide +kernel
theorem dX12_least_161 : decode cX12_least 161 = .ok (.istore_n 3, 1) := by decide +kernel
theorem dX12_least_162 : decode cX12_least 162 = .ok (.iconst 0, 1) := by decide +kernel
theorem dX12_least_163 : decode cX12_least 163 = .ok (.istore 4, 2) := by decide +kernel
theorem dX12_least_165 : decode cX12_least 165 = .ok (.iload 4, 2) := by decide +kernel
theorem dX12_least_167 : decode cX12_least 167 = .ok (.aload_n 0, 1) := by decide +kernel
theorem dX12_least_168 : decode cX12_least 168 = .ok (.getfield 119, 3) := by decide +kernel
theorem dX12_least_171 : decode cX12_least 171 = .ok (.if_icmp .ge 66, 3) := by decide +kernel
theorem dX12_least_174 : decode cX12_least 174 = .ok (.iconst 0, 1) := by decide +kernel
theorem dX12_least_175 : decode cX12_least 175 = .ok (.istore 5, 2) := by decide +kernel
theorem dX12_least_177 : decode cX12_least 177 = .ok (.aload_n 0, 1) := by decide +kernel
theorem dX12_least_178 : decode cX12_least 178 = .ok (.iload 4, 2) := by decide +kernel
theorem dX12_least_180 : decode cX12_least 180 = .ok (.iload 5, 2) := by decide +kernel
theorem dX12_least_182 : decode cX12_least 182 = .ok (.iload_n 3, 1) := by decide +kernel
theorem dX12_least_183 : decode cX12_least 183 = .ok (.invokevirtual 292, 3) := by decide +kernel
theorem dX12_least_186 : decode cX12_least 186 = .ok (.aload_n 0, 1) := by decide +kernel
theorem dX12_least_187 : decode cX12_least 187 = .ok (.getfield 64, 3) := by decide +kernel
theorem dX12_least_190 : decode cX12_least 190 = .ok (.sipush 1300, 3) := by decide +kernel
theorem dX12_least_193 : decode cX12_least 193 = .ok (.iload 4, 2) := by decide +kernel
theorem dX12_least_195 : decode cX12_least 195 = .ok (.imul, 1) := by decide +kernel
theorem dX12_least_196 : decode cX12_least 196 = .ok (.iload_n 3, 1) := by decide +kernel
theorem dX12_least_197 : decode cX12_least 197 = .ok (.iadd, 1) := by decide +kernel
theorem dX12_least_198 : decode cX12_least 198 = .ok (.iaload, 1) := by decide +kernel
theorem dX12_least_199 : decode cX12_least 199 = .ok (.if_icmp .eq 9, 3) := by decide +kernel
theorem dX12_least_202 : decode cX12_least 202 = .ok (.iinc 5 1, 3) := by decide +kernel
theorem dX12_least_205 : decode cX12_least 205 = .ok (.goto (-28), 3) := by decide +kernel
theorem dX12_least_208 : decode cX12_least 208 = .ok (.aload_n 0, 1) := by decide +kernel
theorem dX12_least_209 : decode cX12_least 209 = .ok (.iload 5, 2) := by decide +kernel
theorem dX12_least_211 : decode cX12_least 211 = .ok (.i2l, 1) := by decide +kernel
theorem dX12_least_212 : decode cX12_least 212 = .ok (.invokevirtual 265, 3) := by decide +kernel
theorem dX12_least_215 : decode cX12_least 215 = .ok (.iload_n 3, 1) := by decide +kernel
theorem dX12_least_216 : decode cX12_least 216 = .ok (.aload_n 0, 1) := by decide +kernel
theorem dX12_least_217 : decode cX12_least 217 = .ok (.getfield 67, 3) := by decide +kernel
theorem dX12_least_220 : decode cX12_least 220 = .ok (.bipush 8, 2) := by decide +kernel
theorem dX12_least_222 : decode cX12_least 222 = .ok (.iload 4, 2) := by decide +kernel
theorem dX12_least_224 : decode cX12_least 224 = .ok (.imul, 1) := by decide +kernel
theorem dX12_least_225 : decode cX12_least 225 = .ok (.iload 5, 2) := by decide +kernel
theorem dX12_least_227 : decode cX12_least 227 = .ok (.iadd, 1) := by decide +kernel
theorem dX12_least_228 : decode cX12_least 228 = .ok (.iaload, 1) := by decide +kernel
theorem dX12_least_229 : decode cX12_least 229 = .ok (.isub, 1) := by decide +kernel
theorem dX12_least_230 : decode cX12_least 230 = .ok (.istore_n 3, 1) := by decide +kernel
theorem dX12_least_231 : decode cX12_least 231 = .ok (.iinc 4 1, 3) := by decide +kernel
theorem dX12_least_234 : decode cX12_least 234 = .ok (.goto (-69), 3) := by decide +kernel
theorem dX12_least_237 : decode cX12_least 237 = .ok (.aload_n 0, 1) := by decide +kernel
theorem dX12_least_238 : decode cX12_least 238 = .ok (.getfield 64, 3) := by decide +kernel
theorem dX12_least_241 : decode cX12_least 241 = .ok (.iload_n 2, 1) := by decide +kernel
theorem dX12_least_242 : decode cX12_least 242 = .ok (.iaload, 1) := by decide +kernel
theorem dX12_least_243 : decode cX12_least 243 = .ok (.sipush 10000, 3) := by decide +kernel
theorem dX12_least_246 : decode cX12_least 246 = .ok (.idiv, 1) := by decide +kernel
theorem dX12_least_247 : decode cX12_least 247 = .ok (.ireturn, 1) := by decide +kernel
theorem dX12_curve_0 : decode cX12_curve 0 = .ok (.aload_n 0, 1) := by decide +kernel
theorem dX12_curve_1 : decode cX12_curve 1 = .ok (.iconst 0, 1) := by decide +kernel
theorem dX12_curve_2 : decode cX12_curve 2 = .ok (.putfield 113, 3) := by decide +kernel
theorem dX12_curve_5 : decode cX12_curve 5 = .ok (.aload_n 0, 1) := by decide +kernel
theorem dX12_curve_6 : decode cX12_curve 6 = .ok (.iload_n 1, 1) := by decide +kernel
theorem dX12_curve_7 : decode cX12_curve 7 = .ok (.invokevirtual 132, 3) := by decide +kernel
theorem dX12_curve_10 : decode cX12_curve 10 = .ok (.ifCond .eq 10, 3) := by decide +kernel
theorem dX12_curve_13 : decode cX12_curve 13 = .ok (.iload_n 2, 1) := by decide +kernel
theorem dX12_curve_14 : decode cX12_curve 14 = .ok (.invokestatic 256, 3) := by decide +kernel
theorem dX12_curve_17 : decode cX12_curve 17 = .ok (.ifCond .ne 5, 3) := by decide +kernel
theorem dX12_curve_20 : decode cX12_curve 20 = .ok (.iconst (-1), 1) := by decide +kernel
theorem dX12_curve_21 : decode cX12_curve 21 = .ok (.ireturn, 1) := by decide +kernel
theorem dX12_curve_22 : decode cX12_curve 22 = .ok (.aload_n 0, 1) := by decide +kernel
theorem dX12_curve_23 : decode cX12_curve 23 = .ok (.iload_n 1, 1) := by decide +kernel
theorem dX12_curve_24 : decode cX12_curve 24 = .ok (.iconst 1, 1) := by decide +kernel
theorem dX12_curve_25 : decode cX12_curve 25 = .ok (.invokevirtual 295, 3) := by decide +kernel
theorem dX12_curve_28 : decode cX12_curve 28 = .ok (.aload_n 0, 1) := by decide +kernel
theorem dX12_curve_29 : decode cX12_curve 29 = .ok (.iload_n 2, 1) := by decide +kernel
theorem dX12_curve_30 : decode cX12_curve 30 = .ok (.invokevirtual 299, 3) := by decide +kernel
theorem dX12_curve_33 : decode cX12_curve 33 = .ok (.ireturn, 1) := by decide +kernel
theorem dX12_quick_0 : decode cX12_quick 0 = .ok (.aload_n 0, 1) := by decide +kernel
theorem dX12_quick_1 : decode cX12_quick 1 = .ok (.iconst 0, 1) := by decide +kernel
theorem dX12_quick_2 : decode cX12_quick 2 = .ok (.putfield 113, 3) := by decide +kernel
theorem dX12_quick_5 : decode cX12_quick 5 = .ok (.aload_n 0, 1) := by decide +kernel
theorem dX12_quick_6 : decode cX12_quick 6 = .ok (.iload_n 1, 1) := by decide +kernel
theorem dX12_quick_7 : decode cX12_quick 7 = .ok (.invokevirtual 132, 3) := by decide +kernel
theorem dX12_quick_10 : decode cX12_quick 10 = .ok (.ifCond .eq 10, 3) := by decide +kernel
theorem dX12_quick_13 : decode cX12_quick 13 = .ok (.iload_n 2, 1) := by decide +kernel
theorem dX12_quick_14 : decode cX12_quick 14 = .ok (.invokestatic 256, 3) := by decide +kernel
theorem dX12_quick_17 : decode cX12_quick 17 = .ok (.ifCond .ne 5, 3) := by decide +kernel
theorem dX12_quick_20 : decode cX12_quick 20 = .ok (.iconst (-1), 1) := by decide +kernel
theorem dX12_quick_21 : decode cX12_quick 21 = .ok (.ireturn, 1) := by decide +kernel
theorem dX12_quick_22 : decode cX12_quick 22 = .ok (.aload_n 0, 1) := by decide +kernel
theorem dX12_quick_23 : decode cX12_quick 23 = .ok (.iload_n 1, 1) := by decide +kernel
theorem dX12_quick_24 : decode cX12_quick 24 = .ok (.iconst 0, 1) := by decide +kernel
theorem dX12_quick_25 : decode cX12_quick 25 = .ok (.invokevirtual 295, 3) := by decide +kernel
theorem dX12_quick_28 : decode cX12_quick 28 = .ok (.aload_n 0, 1) := by decide +kernel
theorem dX12_quick_29 : decode cX12_quick 29 = .ok (.iload_n 2, 1) := by decide +kernel
theorem dX12_quick_30 : decode cX12_quick 30 = .ok (.invokevirtual 299, 3) := by decide +kernel
theorem dX12_quick_33 : decode cX12_quick 33 = .ok (.ireturn, 1) := by decide +kernel
theorem dX12_sure_0 : decode cX12_sure 0 = .ok (.aload_n 0, 1) := by decide +kernel
theorem dX12_sure_1 : decode cX12_sure 1 = .ok (.iload_n 1, 1) := by decide +kernel
theorem dX12_sure_2 : decode cX12_sure 2 = .ok (.aload_n 0, 1) := by decide +kernel
theorem dX12_sure_3 : decode cX12_sure 3 = .ok (.getfield 22, 3) := by decide +kernel
theorem dX12_sure_6 : decode cX12_sure 6 = .ok (.invokevirtual 302, 3) := by decide +kernel
theorem dX12_sure_9 : decode cX12_sure 9 = .ok (.ireturn, 1) := by decide +kernel
theorem dX12_lay_0 : decode cX12_lay 0 = .ok (.iconst 0, 1) := by decide +kernel
theorem dX12_lay_1 : decode cX12_lay 1 = .ok (.istore_n 3, 1) := by decide +kernel
theorem dX12_lay_2 : decode cX12_lay 2 = .ok (.iload_n 3, 1) := by decide +kernel
theorem dX12_lay_3 : decode cX12_lay 3 = .ok (.bipush 49, 2) := by decide +kernel
theorem dX12_lay_5 : decode cX12_lay 5 = .ok (.if_icmp .ge 17, 3) := by decide +kernel
theorem dX12_lay_8 : decode cX12_lay 8 = .ok (.aload_n 1, 1) := by decide +kernel
theorem dX12_lay_9 : decode cX12_lay 9 = .ok (.iload_n 2, 1) := by decide +kernel
theorem dX12_lay_10 : decode cX12_lay 10 = .ok (.iload_n 3, 1) := by decide +kernel
theorem dX12_lay_11 : decode cX12_lay 11 = .ok (.iadd, 1) := by decide +kernel
theorem dX12_lay_12 : decode cX12_lay 12 = .ok (.aload_n 0, 1) := by decide +kernel
theorem dX12_lay_13 : decode cX12_lay 13 = .ok (.iload_n 3, 1) := by decide +kernel
theorem dX12_lay_14 : decode cX12_lay 14 = .ok (.iaload, 1) := by decide +kernel
theorem dX12_lay_15 : decode cX12_lay 15 = .ok (.iastore, 1) := by decide +kernel
theorem dX12_lay_16 : decode cX12_lay 16 = .ok (.iinc 3 1, 3) := by decide +kernel
theorem dX12_lay_19 : decode cX12_lay 19 = .ok (.goto (-17), 3) := by decide +kernel
theorem dX12_lay_22 : decode cX12_lay 22 = .ok (.return_, 1) := by decide +kernel
theorem dX12_remember_0 : decode cX12_remember 0 = .ok (.aload_n 0, 1) := by decide +kernel
theorem dX12_remember_1 : decode cX12_remember 1 = .ok (.getfield 192, 3) := by decide +kernel
theorem dX12_remember_4 : decode cX12_remember 4 = .ok (.bipush 12, 2) := by decide +kernel
theorem dX12_remember_6 : decode cX12_remember 6 = .ok (.if_icmp .ne 43, 3) := by decide +kernel
theorem dX12_remember_9 : decode cX12_remember 9 = .ok (.iconst 0, 1) := by decide +kernel
theorem dX12_remember_10 : decode cX12_remember 10 = .ok (.istore_n 2, 1) := by decide +kernel
theorem dX12_remember_11 : decode cX12_remember 11 = .ok (.iload_n 2, 1) := by decide +kernel
theorem dX12_remember_12 : decode cX12_remember 12 = .ok (.sipush 539, 3) := by decide +kernel
theorem dX12_remember_15 : decode cX12_remember 15 = .ok (.if_icmp .ge 24, 3) := by decide +kernel
theorem dX12_remember_18 : decode cX12_remember 18 = .ok (.aload_n 0, 1) := by decide +kernel
theorem dX12_remember_19 : decode cX12_remember 19 = .ok (.getfield 73, 3) := by decide +kernel
theorem dX12_remember_22 : decode cX12_remember 22 = .ok (.iload_n 2, 1) := by decide +kernel
theorem dX12_remember_23 : decode cX12_remember 23 = .ok (.aload_n 0, 1) := by decide +kernel
theorem dX12_remember_24 : decode cX12_remember 24 = .ok (.getfield 73, 3) := by decide +kernel
theorem dX12_remember_27 : decode cX12_remember 27 = .ok (.iload_n 2, 1) := by decide +kernel
theorem dX12_remember_28 : decode cX12_remember 28 = .ok (.bipush 49, 2) := by decide +kernel
theorem dX12_remember_30 : decode cX12_remember 30 = .ok (.iadd, 1) := by decide +kernel
theorem dX12_remember_31 : decode cX12_remember 31 = .ok (.iaload, 1) := by decide +kernel
theorem dX12_remember_32 : decode cX12_remember 32 = .ok (.iastore, 1) := by decide +kernel
theorem dX12_remember_33 : decode cX12_remember 33 = .ok (.iinc 2 1, 3) := by decide +kernel
theorem dX12_remember_36 : decode cX12_remember 36 = .ok (.goto (-25), 3) := by decide +kernel
theorem dX12_remember_39 : decode cX12_remember 39 = .ok (.aload_n 0, 1) := by decide +kernel
theorem dX12_remember_40 : decode cX12_remember 40 = .ok (.dup, 1) := by decide +kernel
theorem dX12_remember_41 : decode cX12_remember 41 = .ok (.getfield 192, 3) := by decide +kernel
theorem dX12_remember_44 : decode cX12_remember 44 = .ok (.iconst 1, 1) := by decide +kernel
theorem dX12_remember_45 : decode cX12_remember 45 = .ok (.isub, 1) := by decide +kernel
theorem dX12_remember_46 : decode cX12_remember 46 = .ok (.putfield 192, 3) := by decide +kernel
theorem dX12_remember_49 : decode cX12_remember 49 = .ok (.aload_n 1, 1) := by decide +kernel
theorem dX12_remember_50 : decode cX12_remember 50 = .ok (.aload_n 0, 1) := by decide +kernel
theorem dX12_remember_51 : decode cX12_remember 51 = .ok (.getfield 73, 3) := by decide +kernel
theorem dX12_remember_54 : decode cX12_remember 54 = .ok (.bipush 49, 2) := by decide +kernel
theorem dX12_remember_56 : decode cX12_remember 56 = .ok (.aload_n 0, 1) := by decide +kernel
theorem dX12_remember_57 : decode cX12_remember 57 = .ok (.getfield 192, 3) := by decide +kernel
theorem dX12_remember_60 : decode cX12_remember 60 = .ok (.imul, 1) := by decide +kernel
theorem dX12_remember_61 : decode cX12_remember 61 = .ok (.invokestatic 305, 3) := by decide +kernel
theorem dX12_remember_64 : decode cX12_remember 64 = .ok (.aload_n 0, 1) := by decide +kernel
theorem dX12_remember_65 : decode cX12_remember 65 = .ok (.dup, 1) := by decide +kernel
theorem dX12_remember_66 : decode cX12_remember 66 = .ok (.getfield 192, 3) := by decide +kernel
theorem dX12_remember_69 : decode cX12_remember 69 = .ok (.iconst 1, 1) := by decide +kernel
theorem dX12_remember_70 : decode cX12_remember 70 = .ok (.iadd, 1) := by decide +kernel
theorem dX12_remember_71 : decode cX12_remember 71 = .ok (.putfield 192, 3) := by decide +kernel
theorem dX12_remember_74 : decode cX12_remember 74 = .ok (.return_, 1) := by decide +kernel
theorem dX12_timeFaults_0 : decode cX12_timeFaults 0 = .ok (.iload_n 1, 1) := by decide +kernel
theorem dX12_timeFaults_1 : decode cX12_timeFaults 1 = .ok (.aload_n 0, 1) := by decide +kernel
theorem dX12_timeFaults_2 : decode cX12_timeFaults 2 = .ok (.getfield 22, 3) := by decide +kernel
theorem dX12_timeFaults_5 : decode cX12_timeFaults 5 = .ok (.if_icmp .gt 7, 3) := by decide +kernel
theorem dX12_timeFaults_8 : decode cX12_timeFaults 8 = .ok (.iconst 0, 1) := by decide +kernel
theorem dX12_timeFaults_9 : decode cX12_timeFaults 9 = .ok (.goto 17, 3) := by decide +kernel
theorem dX12_timeFaults_12 : decode cX12_timeFaults 12 = .ok (.iload_n 1, 1) := by decide +kernel
theorem dX12_timeFaults_13 : decode cX12_timeFaults 13 = .ok (.aload_n 0, 1) := by decide +kernel
theorem dX12_timeFaults_14 : decode cX12_timeFaults 14 = .ok (.getfield 22, 3) := by decide +kernel
theorem dX12_timeFaults_17 : decode cX12_timeFaults 17 = .ok (.isub, 1) := by decide +kernel
theorem dX12_timeFaults_18 : decode cX12_timeFaults 18 = .ok (.iload_n 2, 1) := by decide +kernel
theorem dX12_timeFaults_19 : decode cX12_timeFaults 19 = .ok (.iadd, 1) := by decide +kernel
theorem dX12_timeFaults_20 : decode cX12_timeFaults 20 = .ok (.iconst 1, 1) := by decide +kernel
theorem dX12_timeFaults_21 : decode cX12_timeFaults 21 = .ok (.isub, 1) := by decide +kernel
theorem dX12_timeFaults_22 : decode cX12_timeFaults 22 = .ok (.iload_n 2, 1) := by decide +kernel
theorem dX12_timeFaults_23 : decode cX12_timeFaults 23 = .ok (.idiv, 1) := by decide +kernel
theorem dX12_timeFaults_24 : decode cX12_timeFaults 24 = .ok (.iload_n 3, 1) := by decide +kernel
theorem dX12_timeFaults_25 : decode cX12_timeFaults 25 = .ok (.imul, 1) := by decide +kernel
theorem dX12_timeFaults_26 : decode cX12_timeFaults 26 = .ok (.ireturn, 1) := by decide +kernel
theorem dX12_draw_0 : decode cX12_draw 0 = .ok (.aload_n 0, 1) := by decide +kernel
theorem dX12_draw_1 : decode cX12_draw 1 = .ok (.aload_n 0, 1) := by decide +kernel
theorem dX12_draw_2 : decode cX12_draw 2 = .ok (.getfield 309, 3) := by decide +kernel
theorem dX12_draw_5 : decode cX12_draw 5 = .ok (.ldc_w 312, 3) := by decide +kernel
theorem dX12_draw_8 : decode cX12_draw 8 = .ok (.imul, 1) := by decide +kernel
theorem dX12_draw_9 : decode cX12_draw 9 = .ok (.sipush 12345, 3) := by decide +kernel
theorem dX12_draw_12 : decode cX12_draw 12 = .ok (.iadd, 1) := by decide +kernel
theorem dX12_draw_13 : decode cX12_draw 13 = .ok (.putfield 309, 3) := by decide +kernel
theorem dX12_draw_16 : decode cX12_draw 16 = .ok (.aload_n 0, 1) := by decide +kernel
theorem dX12_draw_17 : decode cX12_draw 17 = .ok (.getfield 309, 3) := by decide +kernel
theorem dX12_draw_20 : decode cX12_draw 20 = .ok (.bipush 16, 2) := by decide +kernel
theorem dX12_draw_22 : decode cX12_draw 22 = .ok (.iushr, 1) := by decide +kernel
theorem dX12_draw_23 : decode cX12_draw 23 = .ok (.iload_n 1, 1) := by decide +kernel
theorem dX12_draw_24 : decode cX12_draw 24 = .ok (.irem, 1) := by decide +kernel
theorem dX12_draw_25 : decode cX12_draw 25 = .ok (.ireturn, 1) := by decide +kernel
theorem dX12_goRound_0 : decode cX12_goRound 0 = .ok (.aload_n 0, 1) := by decide +kernel
theorem dX12_goRound_1 : decode cX12_goRound 1 = .ok (.iload_n 3, 1) := by decide +kernel
theorem dX12_goRound_2 : decode cX12_goRound 2 = .ok (.putfield 309, 3) := by decide +kernel
theorem dX12_goRound_5 : decode cX12_goRound 5 = .ok (.aload_n 0, 1) := by decide +kernel
theorem dX12_goRound_6 : decode cX12_goRound 6 = .ok (.iconst 0, 1) := by decide +kernel
theorem dX12_goRound_7 : decode cX12_goRound 7 = .ok (.putfield 313, 3) := by decide +kernel
theorem dX12_goRound_10 : decode cX12_goRound 10 = .ok (.aload_n 0, 1) := by decide +kernel
theorem dX12_goRound_11 : decode cX12_goRound 11 = .ok (.iconst 0, 1) := by decide +kernel
theorem dX12_goRound_12 : decode cX12_goRound 12 = .ok (.putfield 316, 3) := by decide +kernel
theorem dX12_goRound_15 : decode cX12_goRound 15 = .ok (.aload_n 0, 1) := by decide +kernel
theorem dX12_goRound_16 : decode cX12_goRound 16 = .ok (.iconst 0, 1) := by decide +kernel
theorem dX12_goRound_17 : decode cX12_goRound 17 = .ok (.putfield 319, 3) := by decide +kernel
theorem dX12_goRound_20 : decode cX12_goRound 20 = .ok (.iconst 0, 1) := by decide +kernel
theorem dX12_goRound_21 : decode cX12_goRound 21 = .ok (.istore 4, 2) := by decide +kernel
theorem dX12_goRound_23 : decode cX12_goRound 23 = .ok (.iconst 0, 1) := by decide +kernel
theorem dX12_goRound_24 : decode cX12_goRound 24 = .ok (.istore 5, 2) := by decide +kernel
theorem dX12_goRound_26 : decode cX12_goRound 26 = .ok (.iload 5, 2) := by decide +kernel
theorem dX12_goRound_28 : decode cX12_goRound 28 = .ok (.aload_n 0, 1) := by decide +kernel
theorem dX12_goRound_29 : decode cX12_goRound 29 = .ok (.getfield 119, 3) := by decide +kernel
theorem dX12_goRound_32 : decode cX12_goRound 32 = .ok (.if_icmp .ge 113, 3) := by decide +kernel
theorem dX12_goRound_35 : decode cX12_goRound 35 = .ok (.aload_n 0, 1) := by decide +kernel
theorem dX12_goRound_36 : decode cX12_goRound 36 = .ok (.dup, 1) := by decide +kernel
theorem dX12_goRound_37 : decode cX12_goRound 37 = .ok (.getfield 313, 3) := by decide +kernel
theorem dX12_goRound_40 : decode cX12_goRound 40 = .ok (.aload_n 0, 1) := by decide +kernel
theorem dX12_goRound_41 : decode cX12_goRound 41 = .ok (.iload 5, 2) := by decide +kernel
theorem dX12_goRound_43 : decode cX12_goRound 43 = .ok (.aload_n 0, 1) := by decide +kernel
theorem dX12_goRound_44 : decode cX12_goRound 44 = .ok (.iload_n 2, 1) := by decide +kernel
theorem dX12_goRound_45 : decode cX12_goRound 45 = .ok (.iload 5, 2) := by decide +kernel
theorem dX12_goRound_47 : decode cX12_goRound 47 = .ok (.invokevirtual 273, 3) := by decide +kernel
theorem dX12_goRound_50 : decode cX12_goRound 50 = .ok (.invokevirtual 269, 3) := by decide +kernel
theorem dX12_goRound_53 : decode cX12_goRound 53 = .ok (.iadd, 1) := by decide +kernel
theorem dX12_goRound_54 : decode cX12_goRound 54 = .ok (.putfield 313, 3) := by decide +kernel
theorem dX12_goRound_57 : decode cX12_goRound 57 = .ok (.aload_n 0, 1) := by decide +kernel
theorem dX12_goRound_58 : decode cX12_goRound 58 = .ok (.bipush 100, 2) := by decide +kernel
theorem dX12_goRound_60 : decode cX12_goRound 60 = .ok (.invokevirtual 322, 3) := by decide +kernel
theorem dX12_goRound_63 : decode cX12_goRound 63 = .ok (.aload_n 0, 1) := by decide +kernel
theorem dX12_goRound_64 : decode cX12_goRound 64 = .ok (.iload_n 1, 1) := by decide +kernel
theorem dX12_goRound_65 : decode cX12_goRound 65 = .ok (.iload 5, 2) := by decide +kernel
theorem dX12_goRound_67 : decode cX12_goRound 67 = .ok (.invokevirtual 262, 3) := by decide +kernel
theorem dX12_goRound_70 : decode cX12_goRound 70 = .ok (.if_icmp .ge 30, 3) := by decide +kernel
theorem dX12_goRound_73 : decode cX12_goRound 73 = .ok (.iinc 4 4, 3) := by decide +kernel
theorem dX12_goRound_76 : decode cX12_goRound 76 = .ok (.aload_n 0, 1) := by decide +kernel
theorem dX12_goRound_77 : decode cX12_goRound 77 = .ok (.dup, 1) := by decide +kernel
theorem dX12_goRound_78 : decode cX12_goRound 78 = .ok (.getfield 313, 3) := by decide +kernel
theorem dX12_goRound_81 : decode cX12_goRound 81 = .ok (.bipush 60, 2) := by decide +kernel
theorem dX12_goRound_83 : decode cX12_goRound 83 = .ok (.iadd, 1) := by decide +kernel
theorem dX12_goRound_84 : decode cX12_goRound 84 = .ok (.putfield 313, 3) := by decide +kernel
theorem dX12_goRound_87 : decode cX12_goRound 87 = .ok (.aload_n 0, 1) := by decide +kernel
theorem dX12_goRound_88 : decode cX12_goRound 88 = .ok (.dup, 1) := by decide +kernel
theorem dX12_goRound_89 : decode cX12_goRound 89 = .ok (.getfield 316, 3) := by decide +kernel
theorem dX12_goRound_92 : decode cX12_goRound 92 = .ok (.iconst 1, 1) := by decide +kernel
theorem dX12_goRound_93 : decode cX12_goRound 93 = .ok (.iload 5, 2) := by decide +kernel
theorem dX12_goRound_95 : decode cX12_goRound 95 = .ok (.ishl, 1) := by decide +kernel
theorem dX12_goRound_96 : decode cX12_goRound 96 = .ok (.ior, 1) := by decide +kernel
theorem dX12_goRound_97 : decode cX12_goRound 97 = .ok (.putfield 316, 3) := by decide +kernel
theorem dX12_goRound_100 : decode cX12_goRound 100 = .ok (.aload_n 0, 1) := by decide +kernel
theorem dX12_goRound_101 : decode cX12_goRound 101 = .ok (.bipush 100, 2) := by decide +kernel
theorem dX12_goRound_103 : decode cX12_goRound 103 = .ok (.invokevirtual 322, 3) := by decide +kernel
theorem dX12_goRound_106 : decode cX12_goRound 106 = .ok (.aload_n 0, 1) := by decide +kernel
theorem dX12_goRound_107 : decode cX12_goRound 107 = .ok (.iload_n 1, 1) := by decide +kernel
theorem dX12_goRound_108 : decode cX12_goRound 108 = .ok (.iload 5, 2) := by decide +kernel
theorem dX12_goRound_110 : decode cX12_goRound 110 = .ok (.aload_n 0, 1) := by decide +kernel
theorem dX12_goRound_111 : decode cX12_goRound 111 = .ok (.iload_n 2, 1) := by decide +kernel
theorem dX12_goRound_112 : decode cX12_goRound 112 = .ok (.iload 5, 2) := by decide +kernel
theorem dX12_goRound_114 : decode cX12_goRound 114 = .ok (.invokevirtual 273, 3) := by decide +kernel
theorem dX12_goRound_117 : decode cX12_goRound 117 = .ok (.invokevirtual 259, 3) := by decide +kernel
theorem dX12_goRound_120 : decode cX12_goRound 120 = .ok (.if_icmp .ge 19, 3) := by decide +kernel
theorem dX12_goRound_123 : decode cX12_goRound 123 = .ok (.iinc 4 4, 3) := by decide +kernel
theorem dX12_goRound_126 : decode cX12_goRound 126 = .ok (.aload_n 0, 1) := by decide +kernel
theorem dX12_goRound_127 : decode cX12_goRound 127 = .ok (.dup, 1) := by decide +kernel
theorem dX12_goRound_128 : decode cX12_goRound 128 = .ok (.getfield 319, 3) := by decide +kernel
theorem dX12_goRound_131 : decode cX12_goRound 131 = .ok (.iconst 1, 1) := by decide +kernel
theorem dX12_goRound_132 : decode cX12_goRound 132 = .ok (.iload 5, 2) := by decide +kernel
theorem dX12_goRound_134 : decode cX12_goRound 134 = .ok (.ishl, 1) := by decide +kernel
theorem dX12_goRound_135 : decode cX12_goRound 135 = .ok (.ior, 1) := by decide +kernel
theorem dX12_goRound_136 : decode cX12_goRound 136 = .ok (.putfield 319, 3) := by decide +kernel
theorem dX12_goRound_139 : decode cX12_goRound 139 = .ok (.iinc 5 1, 3) := by decide +kernel
theorem dX12_goRound_142 : decode cX12_goRound 142 = .ok (.goto (-116), 3) := by decide +kernel
theorem dX12_goRound_145 : decode cX12_goRound 145 = .ok (.iload 4, 2) := by decide +kernel
theorem dX12_goRound_147 : decode cX12_goRound 147 = .ok (.aload_n 0, 1) := by decide +kernel
theorem dX12_goRound_148 : decode cX12_goRound 148 = .ok (.aload_n 0, 1) := by decide +kernel
theorem dX12_goRound_149 : decode cX12_goRound 149 = .ok (.getfield 313, 3) := by decide +kernel
theorem dX12_goRound_152 : decode cX12_goRound 152 = .ok (.bipush 40, 2) := by decide +kernel
theorem dX12_goRound_154 : decode cX12_goRound 154 = .ok (.iconst 1, 1) := by decide +kernel
theorem dX12_goRound_155 : decode cX12_goRound 155 = .ok (.invokevirtual 325, 3) := by decide +kernel
theorem dX12_goRound_158 : decode cX12_goRound 158 = .ok (.iadd, 1) := by decide +kernel
theorem dX12_goRound_159 : decode cX12_goRound 159 = .ok (.ireturn, 1) := by decide +kernel
theorem dX12_tellRound_0 : decode cX12_tellRound 0 = .ok (.aload_n 0, 1) := by decide +kernel
theorem dX12_tellRound_1 : decode cX12_tellRound 1 = .ok (.iconst 0, 1) := by decide +kernel
theorem dX12_tellRound_2 : decode cX12_tellRound 2 = .ok (.putfield 116, 3) := by decide +kernel
theorem dX12_tellRound_5 : decode cX12_tellRound 5 = .ok (.aload_n 0, 1) := by decide +kernel
theorem dX12_tellRound_6 : decode cX12_tellRound 6 = .ok (.aload_n 0, 1) := by decide +kernel
theorem dX12_tellRound_7 : decode cX12_tellRound 7 = .ok (.getfield 313, 3) := by decide +kernel
theorem dX12_tellRound_10 : decode cX12_tellRound 10 = .ok (.i2l, 1) := by decide +kernel
theorem dX12_tellRound_11 : decode cX12_tellRound 11 = .ok (.invokevirtual 265, 3) := by decide +kernel
theorem dX12_tellRound_14 : decode cX12_tellRound 14 = .ok (.aload_n 0, 1) := by decide +kernel
theorem dX12_tellRound_15 : decode cX12_tellRound 15 = .ok (.aload_n 0, 1) := by decide +kernel
theorem dX12_tellRound_16 : decode cX12_tellRound 16 = .ok (.getfield 316, 3) := by decide +kernel
theorem dX12_tellRound_19 : decode cX12_tellRound 19 = .ok (.i2l, 1) := by decide +kernel
theorem dX12_tellRound_20 : decode cX12_tellRound 20 = .ok (.invokevirtual 265, 3) := by decide +kernel
theorem dX12_tellRound_23 : decode cX12_tellRound 23 = .ok (.aload_n 0, 1) := by decide +kernel
theorem dX12_tellRound_24 : decode cX12_tellRound 24 = .ok (.aload_n 0, 1) := by decide +kernel
theorem dX12_tellRound_25 : decode cX12_tellRound 25 = .ok (.getfield 319, 3) := by decide +kernel
theorem dX12_tellRound_28 : decode cX12_tellRound 28 = .ok (.i2l, 1) := by decide +kernel
theorem dX12_tellRound_29 : decode cX12_tellRound 29 = .ok (.invokevirtual 265, 3) := by decide +kernel
theorem dX12_tellRound_32 : decode cX12_tellRound 32 = .ok (.aload_n 0, 1) := by decide +kernel
theorem dX12_tellRound_33 : decode cX12_tellRound 33 = .ok (.aload_n 0, 1) := by decide +kernel
theorem dX12_tellRound_34 : decode cX12_tellRound 34 = .ok (.getfield 309, 3) := by decide +kernel
theorem dX12_tellRound_37 : decode cX12_tellRound 37 = .ok (.i2l, 1) := by decide +kernel
theorem dX12_tellRound_38 : decode cX12_tellRound 38 = .ok (.invokevirtual 265, 3) := by decide +kernel
theorem dX12_tellRound_41 : decode cX12_tellRound 41 = .ok (.return_, 1) := by decide +kernel
theorem dX12_add_0 : decode cX12_add 0 = .ok (.iconst 4, 1) := by decide +kernel
theorem dX12_add_1 : decode cX12_add 1 = .ok (.aload_n 0, 1) := by decide +kernel
theorem dX12_add_2 : decode cX12_add 2 = .ok (.bipush 48, 2) := by decide +kernel
theorem dX12_add_4 : decode cX12_add 4 = .ok (.iaload, 1) := by decide +kernel
theorem dX12_add_5 : decode cX12_add 5 = .ok (.imul, 1) := by decide +kernel
theorem dX12_add_6 : decode cX12_add 6 = .ok (.istore 5, 2) := by decide +kernel
theorem dX12_add_8 : decode cX12_add 8 = .ok (.aload_n 0, 1) := by decide +kernel
theorem dX12_add_9 : decode cX12_add 9 = .ok (.iload 5, 2) := by decide +kernel
theorem dX12_add_11 : decode cX12_add 11 = .ok (.iload_n 1, 1) := by decide +kernel
theorem dX12_add_12 : decode cX12_add 12 = .ok (.iastore, 1) := by decide +kernel
theorem dX12_add_13 : decode cX12_add 13 = .ok (.aload_n 0, 1) := by decide +kernel
theorem dX12_add_14 : decode cX12_add 14 = .ok (.iload 5, 2) := by decide +kernel
theorem dX12_add_16 : decode cX12_add 16 = .ok (.iconst 1, 1) := by decide +kernel
theorem dX12_add_17 : decode cX12_add 17 = .ok (.iadd, 1) := by decide +kernel
theorem dX12_add_18 : decode cX12_add 18 = .ok (.iload_n 2, 1) := by decide +kernel
theorem dX12_add_19 : decode cX12_add 19 = .ok (.iastore, 1) := by decide +kernel
theorem dX12_add_20 : decode cX12_add 20 = .ok (.aload_n 0, 1) := by decide +kernel
theorem dX12_add_21 : decode cX12_add 21 = .ok (.iload 5, 2) := by decide +kernel
theorem dX12_add_23 : decode cX12_add 23 = .ok (.iconst 2, 1) := by decide +kernel
theorem dX12_add_24 : decode cX12_add 24 = .ok (.iadd, 1) := by decide +kernel
theorem dX12_add_25 : decode cX12_add 25 = .ok (.iload_n 3, 1) := by decide +kernel
theorem dX12_add_26 : decode cX12_add 26 = .ok (.iastore, 1) := by decide +kernel
theorem dX12_add_27 : decode cX12_add 27 = .ok (.aload_n 0, 1) := by decide +kernel
theorem dX12_add_28 : decode cX12_add 28 = .ok (.iload 5, 2) := by decide +kernel
theorem dX12_add_30 : decode cX12_add 30 = .ok (.iconst 3, 1) := by decide +kernel
theorem dX12_add_31 : decode cX12_add 31 = .ok (.iadd, 1) := by decide +kernel
theorem dX12_add_32 : decode cX12_add 32 = .ok (.iload 4, 2) := by decide +kernel
theorem dX12_add_34 : decode cX12_add 34 = .ok (.iastore, 1) := by decide +kernel
theorem dX12_add_35 : decode cX12_add 35 = .ok (.aload_n 0, 1) := by decide +kernel
theorem dX12_add_36 : decode cX12_add 36 = .ok (.bipush 48, 2) := by decide +kernel
theorem dX12_add_38 : decode cX12_add 38 = .ok (.dup2, 1) := by decide +kernel
theorem dX12_add_39 : decode cX12_add 39 = .ok (.iaload, 1) := by decide +kernel
theorem dX12_add_40 : decode cX12_add 40 = .ok (.iconst 1, 1) := by decide +kernel
theorem dX12_add_41 : decode cX12_add 41 = .ok (.iadd, 1) := by decide +kernel
theorem dX12_add_42 : decode cX12_add 42 = .ok (.iastore, 1) := by decide +kernel
theorem dX12_add_43 : decode cX12_add 43 = .ok (.return_, 1) := by decide +kernel
