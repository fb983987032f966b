theorem dX11_round_124 : decode cX11_round 124 = .ok (.aload_n 0, 1) := by decide +kernel
theorem dX11_round_125 : decode cX11_round 125 = .ok (.getfield 33, 3) := by decide +kernel
theorem dX11_round_128 : decode cX11_round 128 = .ok (.aload_n 0, 1) := by decide +kernel
theorem dX11_round_129 : decode cX11_round 129 = .ok (.getfield 33, 3) := by decide +kernel
theorem dX11_round_132 : decode cX11_round 132 = .ok (.iload_n 1, 1) := by decide +kernel
theorem dX11_round_133 : decode cX11_round 133 = .ok (.aload_n 0, 1) := by decide +kernel
theorem dX11_round_134 : decode cX11_round 134 = .ok (.getfield 33, 3) := by decide +kernel
theorem dX11_round_137 : decode cX11_round 137 = .ok (.getfield 335, 3) := by decide +kernel
theorem dX11_round_140 : decode cX11_round 140 = .ok (.invokevirtual 339, 3) := by decide +kernel
theorem dX11_round_143 : decode cX11_round 143 = .ok (.invokevirtual 343, 3) := by decide +kernel
theorem dX11_round_146 : decode cX11_round 146 = .ok (.ireturn, 1) := by decide +kernel
theorem dX11_table_0 : decode cX11_table 0 = .ok (.aload_n 0, 1) := by decide +kernel
theorem dX11_table_1 : decode cX11_table 1 = .ok (.getfield 33, 3) := by decide +kernel
theorem dX11_table_4 : decode cX11_table 4 = .ok (.aload_n 0, 1) := by decide +kernel
theorem dX11_table_5 : decode cX11_table 5 = .ok (.getfield 19, 3) := by decide +kernel
theorem dX11_table_8 : decode cX11_table 8 = .ok (.aload_n 0, 1) := by decide +kernel
theorem dX11_table_9 : decode cX11_table 9 = .ok (.getfield 33, 3) := by decide +kernel
theorem dX11_table_12 : decode cX11_table 12 = .ok (.getfield 335, 3) := by decide +kernel
theorem dX11_table_15 : decode cX11_table 15 = .ok (.invokevirtual 346, 3) := by decide +kernel
theorem dX11_table_18 : decode cX11_table 18 = .ok (.iconst 0, 1) := by decide +kernel
theorem dX11_table_19 : decode cX11_table 19 = .ok (.istore_n 1, 1) := by decide +kernel
theorem dX11_table_20 : decode cX11_table 20 = .ok (.iconst 0, 1) := by decide +kernel
theorem dX11_table_21 : decode cX11_table 21 = .ok (.istore_n 2, 1) := by decide +kernel
theorem dX11_table_22 : decode cX11_table 22 = .ok (.iload_n 2, 1) := by decide +kernel
theorem dX11_table_23 : decode cX11_table 23 = .ok (.aload_n 0, 1) := by decide +kernel
theorem dX11_table_24 : decode cX11_table 24 = .ok (.getfield 33, 3) := by decide +kernel
theorem dX11_table_27 : decode cX11_table 27 = .ok (.getfield 107, 3) := by decide +kernel
theorem dX11_table_30 : decode cX11_table 30 = .ok (.if_icmp .ge 29, 3) := by decide +kernel
theorem dX11_table_33 : decode cX11_table 33 = .ok (.iload_n 1, 1) := by decide +kernel
theorem dX11_table_34 : decode cX11_table 34 = .ok (.aload_n 0, 1) := by decide +kernel
theorem dX11_table_35 : decode cX11_table 35 = .ok (.getfield 33, 3) := by decide +kernel
theorem dX11_table_38 : decode cX11_table 38 = .ok (.getfield 335, 3) := by decide +kernel
theorem dX11_table_41 : decode cX11_table 41 = .ok (.iload_n 2, 1) := by decide +kernel
theorem dX11_table_42 : decode cX11_table 42 = .ok (.iaload, 1) := by decide +kernel
theorem dX11_table_43 : decode cX11_table 43 = .ok (.ifCond .ne 7, 3) := by decide +kernel
theorem dX11_table_46 : decode cX11_table 46 = .ok (.iconst 1, 1) := by decide +kernel
theorem dX11_table_47 : decode cX11_table 47 = .ok (.goto 4, 3) := by decide +kernel
theorem dX11_table_50 : decode cX11_table 50 = .ok (.iconst 0, 1) := by decide +kernel
theorem dX11_table_51 : decode cX11_table 51 = .ok (.iadd, 1) := by decide +kernel
theorem dX11_table_52 : decode cX11_table 52 = .ok (.istore_n 1, 1) := by decide +kernel
theorem dX11_table_53 : decode cX11_table 53 = .ok (.iinc 2 1, 3) := by decide +kernel
theorem dX11_table_56 : decode cX11_table 56 = .ok (.goto (-34), 3) := by decide +kernel
theorem dX11_table_59 : decode cX11_table 59 = .ok (.iload_n 1, 1) := by decide +kernel
theorem dX11_table_60 : decode cX11_table 60 = .ok (.ireturn, 1) := by decide +kernel
theorem dX11_place_0 : decode cX11_place 0 = .ok (.iload_n 1, 1) := by decide +kernel
theorem dX11_place_1 : decode cX11_place 1 = .ok (.iload_n 2, 1) := by decide +kernel
theorem dX11_place_2 : decode cX11_place 2 = .ok (.invokestatic 273, 3) := by decide +kernel
theorem dX11_place_5 : decode cX11_place 5 = .ok (.ifCond .ne 5, 3) := by decide +kernel
theorem dX11_place_8 : decode cX11_place 8 = .ok (.iconst (-1), 1) := by decide +kernel
theorem dX11_place_9 : decode cX11_place 9 = .ok (.ireturn, 1) := by decide +kernel
theorem dX11_place_10 : decode cX11_place 10 = .ok (.aload_n 0, 1) := by decide +kernel
theorem dX11_place_11 : decode cX11_place 11 = .ok (.getfield 33, 3) := by decide +kernel
theorem dX11_place_14 : decode cX11_place 14 = .ok (.iload_n 1, 1) := by decide +kernel
theorem dX11_place_15 : decode cX11_place 15 = .ok (.iload_n 2, 1) := by decide +kernel
theorem dX11_place_16 : decode cX11_place 16 = .ok (.invokevirtual 350, 3) := by decide +kernel
theorem dX11_place_19 : decode cX11_place 19 = .ok (.istore_n 3, 1) := by decide +kernel
theorem dX11_place_20 : decode cX11_place 20 = .ok (.aload_n 0, 1) := by decide +kernel
theorem dX11_place_21 : decode cX11_place 21 = .ok (.getfield 19, 3) := by decide +kernel
theorem dX11_place_24 : decode cX11_place 24 = .ok (.invokevirtual 171, 3) := by decide +kernel
theorem dX11_place_27 : decode cX11_place 27 = .ok (.aload_n 0, 1) := by decide +kernel
theorem dX11_place_28 : decode cX11_place 28 = .ok (.getfield 19, 3) := by decide +kernel
theorem dX11_place_31 : decode cX11_place 31 = .ok (.aload_n 0, 1) := by decide +kernel
theorem dX11_place_32 : decode cX11_place 32 = .ok (.getfield 33, 3) := by decide +kernel
theorem dX11_place_35 : decode cX11_place 35 = .ok (.iload_n 3, 1) := by decide +kernel
theorem dX11_place_36 : decode cX11_place 36 = .ok (.invokevirtual 343, 3) := by decide +kernel
theorem dX11_place_39 : decode cX11_place 39 = .ok (.i2l, 1) := by decide +kernel
theorem dX11_place_40 : decode cX11_place 40 = .ok (.invokevirtual 177, 3) := by decide +kernel
theorem dX11_place_43 : decode cX11_place 43 = .ok (.iload_n 3, 1) := by decide +kernel
theorem dX11_place_44 : decode cX11_place 44 = .ok (.ireturn, 1) := by decide +kernel
theorem dX11_beat_0 : decode cX11_beat 0 = .ok (.iload_n 1, 1) := by decide +kernel
theorem dX11_beat_1 : decode cX11_beat 1 = .ok (.iconst 1, 1) := by decide +kernel
theorem dX11_beat_2 : decode cX11_beat 2 = .ok (.if_icmp .lt 9, 3) := by decide +kernel
theorem dX11_beat_5 : decode cX11_beat 5 = .ok (.iload_n 1, 1) := by decide +kernel
theorem dX11_beat_6 : decode cX11_beat 6 = .ok (.bipush 12, 2) := by decide +kernel
theorem dX11_beat_8 : decode cX11_beat 8 = .ok (.if_icmp .le 5, 3) := by decide +kernel
theorem dX11_beat_11 : decode cX11_beat 11 = .ok (.iconst (-1), 1) := by decide +kernel
theorem dX11_beat_12 : decode cX11_beat 12 = .ok (.ireturn, 1) := by decide +kernel
theorem dX11_beat_13 : decode cX11_beat 13 = .ok (.iconst (-1), 1) := by decide +kernel
theorem dX11_beat_14 : decode cX11_beat 14 = .ok (.istore_n 2, 1) := by decide +kernel
theorem dX11_beat_15 : decode cX11_beat 15 = .ok (.aload_n 0, 1) := by decide +kernel
theorem dX11_beat_16 : decode cX11_beat 16 = .ok (.getfield 33, 3) := by decide +kernel
theorem dX11_beat_19 : decode cX11_beat 19 = .ok (.iconst 0, 1) := by decide +kernel
theorem dX11_beat_20 : decode cX11_beat 20 = .ok (.sipush 9999, 3) := by decide +kernel
theorem dX11_beat_23 : decode cX11_beat 23 = .ok (.invokevirtual 350, 3) := by decide +kernel
theorem dX11_beat_26 : decode cX11_beat 26 = .ok (.iload_n 1, 1) := by decide +kernel
theorem dX11_beat_27 : decode cX11_beat 27 = .ok (.if_icmp .gt 7, 3) := by decide +kernel
theorem dX11_beat_30 : decode cX11_beat 30 = .ok (.sipush 9999, 3) := by decide +kernel
theorem dX11_beat_33 : decode cX11_beat 33 = .ok (.istore_n 2, 1) := by decide +kernel
theorem dX11_beat_34 : decode cX11_beat 34 = .ok (.iconst 0, 1) := by decide +kernel
theorem dX11_beat_35 : decode cX11_beat 35 = .ok (.istore_n 3, 1) := by decide +kernel
theorem dX11_beat_36 : decode cX11_beat 36 = .ok (.iload_n 3, 1) := by decide +kernel
theorem dX11_beat_37 : decode cX11_beat 37 = .ok (.aload_n 0, 1) := by decide +kernel
theorem dX11_beat_38 : decode cX11_beat 38 = .ok (.getfield 33, 3) := by decide +kernel
theorem dX11_beat_41 : decode cX11_beat 41 = .ok (.getfield 107, 3) := by decide +kernel
theorem dX11_beat_44 : decode cX11_beat 44 = .ok (.if_icmp .ge 64, 3) := by decide +kernel
theorem dX11_beat_47 : decode cX11_beat 47 = .ok (.iload_n 2, 1) := by decide +kernel
theorem dX11_beat_48 : decode cX11_beat 48 = .ok (.sipush 9999, 3) := by decide +kernel
theorem dX11_beat_51 : decode cX11_beat 51 = .ok (.if_icmp .eq 57, 3) := by decide +kernel
theorem dX11_beat_54 : decode cX11_beat 54 = .ok (.aload_n 0, 1) := by decide +kernel
theorem dX11_beat_55 : decode cX11_beat 55 = .ok (.getfield 33, 3) := by decide +kernel
theorem dX11_beat_58 : decode cX11_beat 58 = .ok (.getfield 337, 3) := by decide +kernel
theorem dX11_beat_61 : decode cX11_beat 61 = .ok (.iload_n 3, 1) := by decide +kernel
theorem dX11_beat_62 : decode cX11_beat 62 = .ok (.iaload, 1) := by decide +kernel
theorem dX11_beat_63 : decode cX11_beat 63 = .ok (.iconst 1, 1) := by decide +kernel
theorem dX11_beat_64 : decode cX11_beat 64 = .ok (.isub, 1) := by decide +kernel
theorem dX11_beat_65 : decode cX11_beat 65 = .ok (.istore 4, 2) := by decide +kernel
theorem dX11_beat_67 : decode cX11_beat 67 = .ok (.aload_n 0, 1) := by decide +kernel
theorem dX11_beat_68 : decode cX11_beat 68 = .ok (.getfield 33, 3) := by decide +kernel
theorem dX11_beat_71 : decode cX11_beat 71 = .ok (.getfield 335, 3) := by decide +kernel
theorem dX11_beat_74 : decode cX11_beat 74 = .ok (.iload_n 3, 1) := by decide +kernel
theorem dX11_beat_75 : decode cX11_beat 75 = .ok (.iaload, 1) := by decide +kernel
theorem dX11_beat_76 : decode cX11_beat 76 = .ok (.ifCond .ne 26, 3) := by decide +kernel
theorem dX11_beat_79 : decode cX11_beat 79 = .ok (.iload 4, 2) := by decide +kernel
theorem dX11_beat_81 : decode cX11_beat 81 = .ok (.iload_n 2, 1) := by decide +kernel
theorem dX11_beat_82 : decode cX11_beat 82 = .ok (.if_icmp .le 20, 3) := by decide +kernel
theorem dX11_beat_85 : decode cX11_beat 85 = .ok (.aload_n 0, 1) := by decide +kernel
theorem dX11_beat_86 : decode cX11_beat 86 = .ok (.getfield 33, 3) := by decide +kernel
theorem dX11_beat_89 : decode cX11_beat 89 = .ok (.iconst 0, 1) := by decide +kernel
theorem dX11_beat_90 : decode cX11_beat 90 = .ok (.iload 4, 2) := by decide +kernel
theorem dX11_beat_92 : decode cX11_beat 92 = .ok (.invokevirtual 350, 3) := by decide +kernel
theorem dX11_beat_95 : decode cX11_beat 95 = .ok (.iload_n 1, 1) := by decide +kernel
theorem dX11_beat_96 : decode cX11_beat 96 = .ok (.if_icmp .gt 6, 3) := by decide +kernel
theorem dX11_beat_99 : decode cX11_beat 99 = .ok (.iload 4, 2) := by decide +kernel
theorem dX11_beat_101 : decode cX11_beat 101 = .ok (.istore_n 2, 1) := by decide +kernel
theorem dX11_beat_102 : decode cX11_beat 102 = .ok (.iinc 3 1, 3) := by decide +kernel
theorem dX11_beat_105 : decode cX11_beat 105 = .ok (.goto (-69), 3) := by decide +kernel
theorem dX11_beat_108 : decode cX11_beat 108 = .ok (.iload_n 2, 1) := by decide +kernel
theorem dX11_beat_109 : decode cX11_beat 109 = .ok (.iconst (-1), 1) := by decide +kernel
theorem dX11_beat_110 : decode cX11_beat 110 = .ok (.if_icmp .ne 6, 3) := by decide +kernel
theorem dX11_beat_113 : decode cX11_beat 113 = .ok (.bipush (-2), 2) := by decide +kernel
theorem dX11_beat_115 : decode cX11_beat 115 = .ok (.ireturn, 1) := by decide +kernel
theorem dX11_beat_116 : decode cX11_beat 116 = .ok (.aload_n 0, 1) := by decide +kernel
theorem dX11_beat_117 : decode cX11_beat 117 = .ok (.getfield 19, 3) := by decide +kernel
theorem dX11_beat_120 : decode cX11_beat 120 = .ok (.invokevirtual 171, 3) := by decide +kernel
theorem dX11_beat_123 : decode cX11_beat 123 = .ok (.aload_n 0, 1) := by decide +kernel
theorem dX11_beat_124 : decode cX11_beat 124 = .ok (.getfield 19, 3) := by decide +kernel
theorem dX11_beat_127 : decode cX11_beat 127 = .ok (.aload_n 0, 1) := by decide +kernel
theorem dX11_beat_128 : decode cX11_beat 128 = .ok (.getfield 33, 3) := by decide +kernel
theorem dX11_beat_131 : decode cX11_beat 131 = .ok (.aload_n 0, 1) := by decide +kernel
theorem dX11_beat_132 : decode cX11_beat 132 = .ok (.getfield 33, 3) := by decide +kernel
theorem dX11_beat_135 : decode cX11_beat 135 = .ok (.iconst 0, 1) := by decide +kernel
theorem dX11_beat_136 : decode cX11_beat 136 = .ok (.iload_n 2, 1) := by decide +kernel
theorem dX11_beat_137 : decode cX11_beat 137 = .ok (.invokevirtual 350, 3) := by decide +kernel
theorem dX11_beat_140 : decode cX11_beat 140 = .ok (.invokevirtual 343, 3) := by decide +kernel
theorem dX11_beat_143 : decode cX11_beat 143 = .ok (.i2l, 1) := by decide +kernel
theorem dX11_beat_144 : decode cX11_beat 144 = .ok (.invokevirtual 177, 3) := by decide +kernel
theorem dX11_beat_147 : decode cX11_beat 147 = .ok (.iload_n 2, 1) := by decide +kernel
theorem dX11_beat_148 : decode cX11_beat 148 = .ok (.ireturn, 1) := by decide +kernel
theorem dX11_law_0 : decode cX11_law 0 = .ok (.iload_n 1, 1) := by decide +kernel
theorem dX11_law_1 : decode cX11_law 1 = .ok (.iconst 1, 1) := by decide +kernel
theorem dX11_law_2 : decode cX11_law 2 = .ok (.if_icmp .lt 20, 3) := by decide +kernel
theorem dX11_law_5 : decode cX11_law 5 = .ok (.iload_n 1, 1) := by decide +kernel
theorem dX11_law_6 : decode cX11_law 6 = .ok (.sipush 999, 3) := by decide +kernel
theorem dX11_law_9 : decode cX11_law 9 = .ok (.if_icmp .gt 13, 3) := by decide +kernel
theorem dX11_law_12 : decode cX11_law 12 = .ok (.iload_n 2, 1) := by decide +kernel
theorem dX11_law_13 : decode cX11_law 13 = .ok (.ifCond .lt 9, 3) := by decide +kernel
theorem dX11_law_16 : decode cX11_law 16 = .ok (.iload_n 2, 1) := by decide +kernel
theorem dX11_law_17 : decode cX11_law 17 = .ok (.bipush 9, 2) := by decide +kernel
theorem dX11_law_19 : decode cX11_law 19 = .ok (.if_icmp .le 5, 3) := by decide +kernel
theorem dX11_law_22 : decode cX11_law 22 = .ok (.iconst (-1), 1) := by decide +kernel
theorem dX11_law_23 : decode cX11_law 23 = .ok (.ireturn, 1) := by decide +kernel
theorem dX11_law_24 : decode cX11_law 24 = .ok (.iconst 0, 1) := by decide +kernel
theorem dX11_law_25 : decode cX11_law 25 = .ok (.istore_n 3, 1) := by decide +kernel
theorem dX11_law_26 : decode cX11_law 26 = .ok (.iload_n 3, 1) := by decide +kernel
theorem dX11_law_27 : decode cX11_law 27 = .ok (.aload_n 0, 1) := by decide +kernel
theorem dX11_law_28 : decode cX11_law 28 = .ok (.getfield 33, 3) := by decide +kernel
theorem dX11_law_31 : decode cX11_law 31 = .ok (.getfield 107, 3) := by decide +kernel
theorem dX11_law_34 : decode cX11_law 34 = .ok (.if_icmp .ge 81, 3) := by decide +kernel
theorem dX11_law_37 : decode cX11_law 37 = .ok (.aload_n 0, 1) := by decide +kernel
theorem dX11_law_38 : decode cX11_law 38 = .ok (.getfield 33, 3) := by decide +kernel
theorem dX11_law_41 : decode cX11_law 41 = .ok (.getfield 337, 3) := by decide +kernel
theorem dX11_law_44 : decode cX11_law 44 = .ok (.iload_n 3, 1) := by decide +kernel
theorem dX11_law_45 : decode cX11_law 45 = .ok (.iaload, 1) := by decide +kernel
theorem dX11_law_46 : decode cX11_law 46 = .ok (.aload_n 0, 1) := by decide +kernel
theorem dX11_law_47 : decode cX11_law 47 = .ok (.getfield 26, 3) := by decide +kernel
theorem dX11_law_50 : decode cX11_law 50 = .ok (.getfield 154, 3) := by decide +kernel
theorem dX11_law_53 : decode cX11_law 53 = .ok (.bipush 40, 2) := by decide +kernel
theorem dX11_law_55 : decode cX11_law 55 = .ok (.invokestatic 353, 3) := by decide +kernel
theorem dX11_law_58 : decode cX11_law 58 = .ok (.istore 4, 2) := by decide +kernel
theorem dX11_law_60 : decode cX11_law 60 = .ok (.iconst 0, 1) := by decide +kernel
theorem dX11_law_61 : decode cX11_law 61 = .ok (.aload_n 0, 1) := by decide +kernel
theorem dX11_law_62 : decode cX11_law 62 = .ok (.getfield 33, 3) := by decide +kernel
theorem dX11_law_65 : decode cX11_law 65 = .ok (.getfield 335, 3) := by decide +kernel
theorem dX11_law_68 : decode cX11_law 68 = .ok (.iload_n 3, 1) := by decide +kernel
theorem dX11_law_69 : decode cX11_law 69 = .ok (.iaload, 1) := by decide +kernel
theorem dX11_law_70 : decode cX11_law 70 = .ok (.iload 4, 2) := by decide +kernel
theorem dX11_law_72 : decode cX11_law 72 = .ok (.isub, 1) := by decide +kernel
theorem dX11_law_73 : decode cX11_law 73 = .ok (.invokestatic 168, 3) := by decide +kernel
theorem dX11_law_76 : decode cX11_law 76 = .ok (.istore 5, 2) := by decide +kernel
theorem dX11_law_78 : decode cX11_law 78 = .ok (.aload_n 0, 1) := by decide +kernel
theorem dX11_law_79 : decode cX11_law 79 = .ok (.getfield 88, 3) := by decide +kernel
theorem dX11_law_82 : decode cX11_law 82 = .ok (.iload_n 3, 1) := by decide +kernel
theorem dX11_law_83 : decode cX11_law 83 = .ok (.iload 5, 2) := by decide +kernel
theorem dX11_law_85 : decode cX11_law 85 = .ok (.iload_n 2, 1) := by decide +kernel
theorem dX11_law_86 : decode cX11_law 86 = .ok (.aload_n 0, 1) := by decide +kernel
theorem dX11_law_87 : decode cX11_law 87 = .ok (.getfield 33, 3) := by decide +kernel
theorem dX11_law_90 : decode cX11_law 90 = .ok (.getfield 337, 3) := by decide +kernel
theorem dX11_law_93 : decode cX11_law 93 = .ok (.iload_n 3, 1) := by decide +kernel
theorem dX11_law_94 : decode cX11_law 94 = .ok (.iaload, 1) := by decide +kernel
theorem dX11_law_95 : decode cX11_law 95 = .ok (.aload_n 0, 1) := by decide +kernel
theorem dX11_law_96 : decode cX11_law 96 = .ok (.getfield 26, 3) := by decide +kernel
theorem dX11_law_99 : decode cX11_law 99 = .ok (.getfield 154, 3) := by decide +kernel
theorem dX11_law_102 : decode cX11_law 102 = .ok (.iload_n 1, 1) := by decide +kernel
theorem dX11_law_103 : decode cX11_law 103 = .ok (.invokestatic 353, 3) := by decide +kernel
theorem dX11_law_106 : decode cX11_law 106 = .ok (.imul, 1) := by decide +kernel
theorem dX11_law_107 : decode cX11_law 107 = .ok (.iadd, 1) := by decide +kernel
theorem dX11_law_108 : decode cX11_law 108 = .ok (.iastore, 1) := by decide +kernel
theorem dX11_law_109 : decode cX11_law 109 = .ok (.iinc 3 1, 3) := by decide +kernel
theorem dX11_law_112 : decode cX11_law 112 = .ok (.goto (-86), 3) := by decide +kernel
theorem dX11_law_115 : decode cX11_law 115 = .ok (.iconst 0, 1) := by decide +kernel
theorem dX11_law_116 : decode cX11_law 116 = .ok (.istore_n 3, 1) := by decide +kernel
theorem dX11_law_117 : decode cX11_law 117 = .ok (.iconst 0, 1) := by decide +kernel
theorem dX11_law_118 : decode cX11_law 118 = .ok (.istore 4, 2) := by decide +kernel
theorem dX11_law_120 : decode cX11_law 120 = .ok (.iload 4, 2) := by decide +kernel
theorem dX11_law_122 : decode cX11_law 122 = .ok (.aload_n 0, 1) := by decide +kernel
theorem dX11_law_123 : decode cX11_law 123 = .ok (.getfield 33, 3) := by decide +kernel
theorem dX11_law_126 : decode cX11_law 126 = .ok (.getfield 107, 3) := by decide +kernel
theorem dX11_law_129 : decode cX11_law 129 = .ok (.if_icmp .ge 49, 3) := by decide +kernel
theorem dX11_law_132 : decode cX11_law 132 = .ok (.iload_n 3, 1) := by decide +kernel
theorem dX11_law_133 : decode cX11_law 133 = .ok (.aload_n 0, 1) := by decide +kernel
theorem dX11_law_134 : decode cX11_law 134 = .ok (.getfield 33, 3) := by decide +kernel
theorem dX11_law_137 : decode cX11_law 137 = .ok (.iload 4, 2) := by decide +kernel
theorem dX11_law_139 : decode cX11_law 139 = .ok (.aload_n 0, 1) := by decide +kernel
theorem dX11_law_140 : decode cX11_law 140 = .ok (.getfield 88, 3) := by decide +kernel
theorem dX11_law_143 : decode cX11_law 143 = .ok (.invokevirtual 339, 3) := by decide +kernel
theorem dX11_law_146 : decode cX11_law 146 = .ok (.aload_n 0, 1) := by decide +kernel
theorem dX11_law_147 : decode cX11_law 147 = .ok (.getfield 33, 3) := by decide +kernel
theorem dX11_law_150 : decode cX11_law 150 = .ok (.iload 4, 2) := by decide +kernel
theorem dX11_law_152 : decode cX11_law 152 = .ok (.aload_n 0, 1) := by decide +kernel
theorem dX11_law_153 : decode cX11_law 153 = .ok (.getfield 33, 3) := by decide +kernel
theorem dX11_law_156 : decode cX11_law 156 = .ok (.getfield 335, 3) := by decide +kernel
theorem dX11_law_159 : decode cX11_law 159 = .ok (.invokevirtual 339, 3) := by decide +kernel
theorem dX11_law_162 : decode cX11_law 162 = .ok (.if_icmp .eq 7, 3) := by decide +kernel
theorem dX11_law_165 : decode cX11_law 165 = .ok (.iconst 1, 1) := by decide +kernel
theorem dX11_law_166 : decode cX11_law 166 = .ok (.goto 4, 3) := by decide +kernel
theorem dX11_law_169 : decode cX11_law 169 = .ok (.iconst 0, 1) := by decide +kernel
theorem dX11_law_170 : decode cX11_law 170 = .ok (.iadd, 1) := by decide +kernel
theorem dX11_law_171 : decode cX11_law 171 = .ok (.istore_n 3, 1) := by decide +kernel
theorem dX11_law_172 : decode cX11_law 172 = .ok (.iinc 4 1, 3) := by decide +kernel
theorem dX11_law_175 : decode cX11_law 175 = .ok (.goto (-55), 3) := by decide +kernel
theorem dX11_law_178 : decode cX11_law 178 = .ok (.aload_n 0, 1) := by decide +kernel
theorem dX11_law_179 : decode cX11_law 179 = .ok (.getfield 33, 3) := by decide +kernel
theorem dX11_law_182 : decode cX11_law 182 = .ok (.aload_n 0, 1) := by decide +kernel
theorem dX11_law_183 : decode cX11_law 183 = .ok (.getfield 19, 3) := by decide +kernel
theorem dX11_law_186 : decode cX11_law 186 = .ok (.aload_n 0, 1) := by decide +kernel
theorem dX11_law_187 : decode cX11_law 187 = .ok (.getfield 88, 3) := by decide +kernel
theorem dX11_law_190 : decode cX11_law 190 = .ok (.invokevirtual 346, 3) := by decide +kernel
theorem dX11_law_193 : decode cX11_law 193 = .ok (.iload_n 3, 1) := by decide +kernel
theorem dX11_law_194 : decode cX11_law 194 = .ok (.ireturn, 1) := by decide +kernel
theorem dX11_begun_0 : decode cX11_begun 0 = .ok (.iload_n 0, 1) := by decide +kernel
theorem dX11_begun_1 : decode cX11_begun 1 = .ok (.iload_n 1, 1) := by decide +kernel
theorem dX11_begun_2 : decode cX11_begun 2 = .ok (.if_icmp .le 7, 3) := by decide +kernel
theorem dX11_begun_5 : decode cX11_begun 5 = .ok (.iload_n 2, 1) := by decide +kernel
theorem dX11_begun_6 : decode cX11_begun 6 = .ok (.ifCond .gt 5, 3) := by decide +kernel
theorem dX11_begun_9 : decode cX11_begun 9 = .ok (.iconst 0, 1) := by decide +kernel
theorem dX11_begun_10 : decode cX11_begun 10 = .ok (.ireturn, 1) := by decide +kernel
theorem dX11_begun_11 : decode cX11_begun 11 = .ok (.iload_n 0, 1) := by decide +kernel
theorem dX11_begun_12 : decode cX11_begun 12 = .ok (.iload_n 1, 1) := by decide +kernel
theorem dX11_begun_13 : decode cX11_begun 13 = .ok (.isub, 1) := by decide +kernel
theorem dX11_begun_14 : decode cX11_begun 14 = .ok (.iload_n 2, 1) := by decide +kernel
theorem dX11_begun_15 : decode cX11_begun 15 = .ok (.iadd, 1) := by decide +kernel
theorem dX11_begun_16 : decode cX11_begun 16 = .ok (.iconst 1, 1) := by decide +kernel
theorem dX11_begun_17 : decode cX11_begun 17 = .ok (.isub, 1) := by decide +kernel
theorem dX11_begun_18 : decode cX11_begun 18 = .ok (.iload_n 2, 1) := by decide +kernel
theorem dX11_begun_19 : decode cX11_begun 19 = .ok (.idiv, 1) := by decide +kernel
theorem dX11_begun_20 : decode cX11_begun 20 = .ok (.ireturn, 1) := by decide +kernel
theorem dX11_mean_0 : decode cX11_mean 0 = .ok (.aload_n 0, 1) := by decide +kernel
theorem dX11_mean_1 : decode cX11_mean 1 = .ok (.getfield 26, 3) := by decide +kernel
theorem dX11_mean_4 : decode cX11_mean 4 = .ok (.iload_n 1, 1) := by decide +kernel
theorem dX11_mean_5 : decode cX11_mean 5 = .ok (.invokevirtual 147, 3) := by decide +kernel
theorem dX11_mean_8 : decode cX11_mean 8 = .ok (.ifCond .eq 14, 3) := by decide +kernel
theorem dX11_mean_11 : decode cX11_mean 11 = .ok (.aload_n 0, 1) := by decide +kernel
theorem dX11_mean_12 : decode cX11_mean 12 = .ok (.getfield 26, 3) := by decide +kernel
theorem dX11_mean_15 : decode cX11_mean 15 = .ok (.iload_n 2, 1) := by decide +kernel
theorem dX11_mean_16 : decode cX11_mean 16 = .ok (.invokevirtual 191, 3) := by decide +kernel
theorem dX11_mean_19 : decode cX11_mean 19 = .ok (.ifCond .ne 5, 3) := by decide +kernel
theorem dX11_mean_22 : decode cX11_mean 22 = .ok (.iconst (-1), 1) := by decide +kernel
theorem dX11_mean_23 : decode cX11_mean 23 = .ok (.ireturn, 1) := by decide +kernel
theorem dX11_mean_24 : decode cX11_mean 24 = .ok (.aload_n 0, 1) := by decide +kernel
theorem dX11_mean_25 : decode cX11_mean 25 = .ok (.getfield 19, 3) := by decide +kernel
theorem dX11_mean_28 : decode cX11_mean 28 = .ok (.invokevirtual 171, 3) := by decide +kernel
theorem dX11_mean_31 : decode cX11_mean 31 = .ok (.aload_n 0, 1) := by decide +kernel
theorem dX11_mean_32 : decode cX11_mean 32 = .ok (.getfield 19, 3) := by decide +kernel
theorem dX11_mean_35 : decode cX11_mean 35 = .ok (.aload_n 0, 1) := by decide +kernel
theorem dX11_mean_36 : decode cX11_mean 36 = .ok (.iload_n 2, 1) := by decide +kernel
theorem dX11_mean_37 : decode cX11_mean 37 = .ok (.iconst 0, 1) := by decide +kernel
theorem dX11_mean_38 : decode cX11_mean 38 = .ok (.invokevirtual 356, 3) := by decide +kernel
theorem dX11_mean_41 : decode cX11_mean 41 = .ok (.i2l, 1) := by decide +kernel
theorem dX11_mean_42 : decode cX11_mean 42 = .ok (.invokevirtual 177, 3) := by decide +kernel
theorem dX11_mean_45 : decode cX11_mean 45 = .ok (.aload_n 0, 1) := by decide +kernel
theorem dX11_mean_46 : decode cX11_mean 46 = .ok (.getfield 19, 3) := by decide +kernel
theorem dX11_mean_49 : decode cX11_mean 49 = .ok (.aload_n 0, 1) := by decide +kernel
theorem dX11_mean_50 : decode cX11_mean 50 = .ok (.iload_n 2, 1) := by decide +kernel
theorem dX11_mean_51 : decode cX11_mean 51 = .ok (.iconst 4, 1) := by decide +kernel
theorem dX11_mean_52 : decode cX11_mean 52 = .ok (.invokevirtual 356, 3) := by decide +kernel
theorem dX11_mean_55 : decode cX11_mean 55 = .ok (.i2l, 1) := by decide +kernel
theorem dX11_mean_56 : decode cX11_mean 56 = .ok (.invokevirtual 177, 3) := by decide +kernel
theorem dX11_mean_59 : decode cX11_mean 59 = .ok (.aload_n 0, 1) := by decide +kernel
theorem dX11_mean_60 : decode cX11_mean 60 = .ok (.iload_n 1, 1) := by decide +kernel
theorem dX11_mean_61 : decode cX11_mean 61 = .ok (.iload_n 2, 1) := by decide +kernel
theorem dX11_mean_62 : decode cX11_mean 62 = .ok (.invokevirtual 359, 3) := by decide +kernel
theorem dX11_mean_65 : decode cX11_mean 65 = .ok (.ireturn, 1) := by decide +kernel
theorem dX11_last_0 : decode cX11_last 0 = .ok (.aload_n 0, 1) := by decide +kernel
theorem dX11_last_1 : decode cX11_last 1 = .ok (.getfield 26, 3) := by decide +kernel
theorem dX11_last_4 : decode cX11_last 4 = .ok (.iload_n 1, 1) := by decide +kernel
theorem dX11_last_5 : decode cX11_last 5 = .ok (.invokevirtual 147, 3) := by decide +kernel
theorem dX11_last_8 : decode cX11_last 8 = .ok (.ifCond .ne 5, 3) := by decide +kernel
theorem dX11_last_11 : decode cX11_last 11 = .ok (.iconst (-1), 1) := by decide +kernel
theorem dX11_last_12 : decode cX11_last 12 = .ok (.ireturn, 1) := by decide +kernel
theorem dX11_last_13 : decode cX11_last 13 = .ok (.aload_n 0, 1) := by decide +kernel
theorem dX11_last_14 : decode cX11_last 14 = .ok (.getfield 26, 3) := by decide +kernel
theorem dX11_last_17 : decode cX11_last 17 = .ok (.getfield 362, 3) := by decide +kernel
theorem dX11_last_20 : decode cX11_last 20 = .ok (.ifCond .ne 6, 3) := by decide +kernel
theorem dX11_last_23 : decode cX11_last 23 = .ok (.bipush (-2), 2) := by decide +kernel
theorem dX11_last_25 : decode cX11_last 25 = .ok (.ireturn, 1) := by decide +kernel
theorem dX11_last_26 : decode cX11_last 26 = .ok (.aload_n 0, 1) := by decide +kernel
theorem dX11_last_27 : decode cX11_last 27 = .ok (.iload_n 1, 1) := by decide +kernel
theorem dX11_last_28 : decode cX11_last 28 = .ok (.invokevirtual 365, 3) := by decide +kernel
theorem dX11_last_31 : decode cX11_last 31 = .ok (.istore_n 2, 1) := by decide +kernel
theorem dX11_last_32 : decode cX11_last 32 = .ok (.aload_n 0, 1) := by decide +kernel
theorem dX11_last_33 : decode cX11_last 33 = .ok (.getfield 19, 3) := by decide +kernel
theorem dX11_last_36 : decode cX11_last 36 = .ok (.invokevirtual 171, 3) := by decide +kernel
theorem dX11_last_39 : decode cX11_last 39 = .ok (.aload_n 0, 1) := by decide +kernel
theorem dX11_last_40 : decode cX11_last 40 = .ok (.getfield 19, 3) := by decide +kernel
theorem dX11_last_43 : decode cX11_last 43 = .ok (.aload_n 0, 1) := by decide +kernel
theorem dX11_last_44 : decode cX11_last 44 = .ok (.iload_n 1, 1) := by decide +kernel
theorem dX11_last_45 : decode cX11_last 45 = .ok (.iload_n 2, 1) := by decide +kernel
theorem dX11_last_46 : decode cX11_last 46 = .ok (.invokevirtual 359, 3) := by decide +kernel
theorem dX11_last_49 : decode cX11_last 49 = .ok (.i2l, 1) := by decide +kernel
theorem dX11_last_50 : decode cX11_last 50 = .ok (.invokevirtual 177, 3) := by decide +kernel
theorem dX11_last_53 : decode cX11_last 53 = .ok (.iload_n 2, 1) := by decide +kernel
theorem dX11_last_54 : decode cX11_last 54 = .ok (.ireturn, 1) := by decide +kernel
theorem dX11_buy_0 : decode cX11_buy 0 = .ok (.aload_n 0, 1) := by decide +kernel
theorem dX11_buy_1 : decode cX11_buy 1 = .ok (.getfield 26, 3) := by decide +kernel
theorem dX11_buy_4 : decode cX11_buy 4 = .ok (.getfield 368, 3) := by decide +kernel
theorem dX11_buy_7 : decode cX11_buy 7 = .ok (.ifCond .eq 13, 3) := by decide +kernel
theorem dX11_buy_10 : decode cX11_buy 10 = .ok (.aload_n 0, 1) := by decide +kernel
theorem dX11_buy_11 : decode cX11_buy 11 = .ok (.getfield 26, 3) := by decide +kernel
theorem dX11_buy_14 : decode cX11_buy 14 = .ok (.getfield 362, 3) := by decide +kernel
theorem dX11_buy_17 : decode cX11_buy 17 = .ok (.ifCond .ne 6, 3) := by decide +kernel
theorem dX11_buy_20 : decode cX11_buy 20 = .ok (.bipush (-2), 2) := by decide +kernel
theorem dX11_buy_22 : decode cX11_buy 22 = .ok (.ireturn, 1) := by decide +kernel
theorem dX11_buy_23 : decode cX11_buy 23 = .ok (.iconst (-1), 1) := by decide +kernel
theorem dX11_buy_24 : decode cX11_buy 24 = .ok (.istore_n 1, 1) := by decide +kernel
theorem dX11_buy_25 : decode cX11_buy 25 = .ok (.iconst (-1), 1) := by decide +kernel
theorem dX11_buy_26 : decode cX11_buy 26 = .ok (.istore_n 2, 1) := by decide +kernel
theorem dX11_buy_27 : decode cX11_buy 27 = .ok (.iconst (-1), 1) := by decide +kernel
theorem dX11_buy_28 : decode cX11_buy 28 = .ok (.istore_n 3, 1) := by decide +kernel
theorem dX11_buy_29 : decode cX11_buy 29 = .ok (.iconst 0, 1) := by decide +kernel
theorem dX11_buy_30 : decode cX11_buy 30 = .ok (.istore 4, 2) := by decide +kernel
theorem dX11_buy_32 : decode cX11_buy 32 = .ok (.iload 4, 2) := by decide +kernel
theorem dX11_buy_34 : decode cX11_buy 34 = .ok (.aload_n 0, 1) := by decide +kernel
theorem dX11_buy_35 : decode cX11_buy 35 = .ok (.getfield 26, 3) := by decide +kernel
theorem dX11_buy_38 : decode cX11_buy 38 = .ok (.getfield 368, 3) := by decide +kernel
theorem dX11_buy_41 : decode cX11_buy 41 = .ok (.if_icmp .ge 49, 3) := by decide +kernel
theorem dX11_buy_44 : decode cX11_buy 44 = .ok (.aload_n 0, 1) := by decide +kernel
theorem dX11_buy_45 : decode cX11_buy 45 = .ok (.iload 4, 2) := by decide +kernel
theorem dX11_buy_47 : decode cX11_buy 47 = .ok (.aload_n 0, 1) := by decide +kernel
theorem dX11_buy_48 : decode cX11_buy 48 = .ok (.iload 4, 2) := by decide +kernel
theorem dX11_buy_50 : decode cX11_buy 50 = .ok (.invokevirtual 365, 3) := by decide +kernel
theorem dX11_buy_53 : decode cX11_buy 53 = .ok (.invokevirtual 359, 3) := by decide +kernel
theorem dX11_buy_56 : decode cX11_buy 56 = .ok (.istore 5, 2) := by decide +kernel
theorem dX11_buy_58 : decode cX11_buy 58 = .ok (.iload 5, 2) := by decide +kernel
theorem dX11_buy_60 : decode cX11_buy 60 = .ok (.iload_n 2, 1) := by decide +kernel
theorem dX11_buy_61 : decode cX11_buy 61 = .ok (.if_icmp .le 14, 3) := by decide +kernel
theorem dX11_buy_64 : decode cX11_buy 64 = .ok (.iload_n 2, 1) := by decide +kernel
theorem dX11_buy_65 : decode cX11_buy 65 = .ok (.istore_n 3, 1) := by decide +kernel
theorem dX11_buy_66 : decode cX11_buy 66 = .ok (.iload 5, 2) := by decide +kernel
theorem dX11_buy_68 : decode cX11_buy 68 = .ok (.istore_n 2, 1) := by decide +kernel
theorem dX11_buy_69 : decode cX11_buy 69 = .ok (.iload 4, 2) := by decide +kernel
theorem dX11_buy_71 : decode cX11_buy 71 = .ok (.istore_n 1, 1) := by decide +kernel
theorem dX11_buy_72 : decode cX11_buy 72 = .ok (.goto 12, 3) := by decide +kernel
theorem dX11_buy_75 : decode cX11_buy 75 = .ok (.iload 5, 2) := by decide +kernel
theorem dX11_buy_77 : decode cX11_buy 77 = .ok (.iload_n 3, 1) := by decide +kernel
theorem dX11_buy_78 : decode cX11_buy 78 = .ok (.if_icmp .le 6, 3) := by decide +kernel
theorem dX11_buy_81 : decode cX11_buy 81 = .ok (.iload 5, 2) := by decide +kernel
theorem dX11_buy_83 : decode cX11_buy 83 = .ok (.istore_n 3, 1) := by decide +kernel
theorem dX11_buy_84 : decode cX11_buy 84 = .ok (.iinc 4 1, 3) := by decide +kernel
theorem dX11_buy_87 : decode cX11_buy 87 = .ok (.goto (-55), 3) := by decide +kernel
theorem dX11_buy_90 : decode cX11_buy 90 = .ok (.aload_n 0, 1) := by decide +kernel
theorem dX11_buy_91 : decode cX11_buy 91 = .ok (.getfield 19, 3) := by decide +kernel
theorem dX11_buy_94 : decode cX11_buy 94 = .ok (.invokevirtual 171, 3) := by decide +kernel
theorem dX11_buy_97 : decode cX11_buy 97 = .ok (.aload_n 0, 1) := by decide +kernel
theorem dX11_buy_98 : decode cX11_buy 98 = .ok (.getfield 19, 3) := by decide +kernel
theorem dX11_buy_101 : decode cX11_buy 101 = .ok (.iload_n 2, 1) := by decide +kernel
theorem dX11_buy_102 : decode cX11_buy 102 = .ok (.i2l, 1) := by decide +kernel
theorem dX11_buy_103 : decode cX11_buy 103 = .ok (.invokevirtual 177, 3) := by decide +kernel
theorem dX11_buy_106 : decode cX11_buy 106 = .ok (.aload_n 0, 1) := by decide +kernel
theorem dX11_buy_107 : decode cX11_buy 107 = .ok (.getfield 19, 3) := by decide +kernel
theorem dX11_buy_110 : decode cX11_buy 110 = .ok (.aload_n 0, 1) := by decide +kernel
theorem dX11_buy_111 : decode cX11_buy 111 = .ok (.iload_n 1, 1) := by decide +kernel
theorem dX11_buy_112 : decode cX11_buy 112 = .ok (.invokevirtual 365, 3) := by decide +kernel
theorem dX11_buy_115 : decode cX11_buy 115 = .ok (.i2l, 1) := by decide +kernel
theorem dX11_buy_116 : decode cX11_buy 116 = .ok (.invokevirtual 177, 3) := by decide +kernel
theorem dX11_buy_119 : decode cX11_buy 119 = .ok (.aload_n 0, 1) := by decide +kernel
theorem dX11_buy_120 : decode cX11_buy 120 = .ok (.getfield 19, 3) := by decide +kernel
theorem dX11_buy_123 : decode cX11_buy 123 = .ok (.iload_n 3, 1) := by decide +kernel
theorem dX11_buy_124 : decode cX11_buy 124 = .ok (.i2l, 1) := by decide +kernel
theorem dX11_buy_125 : decode cX11_buy 125 = .ok (.invokevirtual 177, 3) := by decide +kernel
theorem dX11_buy_128 : decode cX11_buy 128 = .ok (.iload_n 1, 1) := by decide +kernel
theorem dX11_buy_129 : decode cX11_buy 129 = .ok (.ireturn, 1) := by decide +kernel
theorem dX11_bestPlan_0 : decode cX11_bestPlan 0 = .ok (.iconst 0, 1) := by decide +kernel
theorem dX11_bestPlan_1 : decode cX11_bestPlan 1 = .ok (.istore_n 2, 1) := by decide +kernel
theorem dX11_bestPlan_2 : decode cX11_bestPlan 2 = .ok (.iconst (-1), 1) := by decide +kernel
theorem dX11_bestPlan_3 : decode cX11_bestPlan 3 = .ok (.istore_n 3, 1) := by decide +kernel
theorem dX11_bestPlan_4 : decode cX11_bestPlan 4 = .ok (.iconst 0, 1) := by decide +kernel
theorem dX11_bestPlan_5 : decode cX11_bestPlan 5 = .ok (.istore 4, 2) := by decide +kernel
theorem dX11_bestPlan_7 : decode cX11_bestPlan 7 = .ok (.iload 4, 2) := by decide +kernel
theorem dX11_bestPlan_9 : decode cX11_bestPlan 9 = .ok (.aload_n 0, 1) := by decide +kernel
theorem dX11_bestPlan_10 : decode cX11_bestPlan 10 = .ok (.getfield 26, 3) := by decide +kernel
theorem dX11_bestPlan_13 : decode cX11_bestPlan 13 = .ok (.getfield 362, 3) := by decide +kernel
theorem dX11_bestPlan_16 : decode cX11_bestPlan 16 = .ok (.if_icmp .ge 30, 3) := by decide +kernel
theorem dX11_bestPlan_19 : decode cX11_bestPlan 19 = .ok (.aload_n 0, 1) := by decide +kernel
theorem dX11_bestPlan_20 : decode cX11_bestPlan 20 = .ok (.iload_n 1, 1) := by decide +kernel
theorem dX11_bestPlan_21 : decode cX11_bestPlan 21 = .ok (.iload 4, 2) := by decide +kernel
theorem dX11_bestPlan_23 : decode cX11_bestPlan 23 = .ok (.invokevirtual 359, 3) := by decide +kernel
theorem dX11_bestPlan_26 : decode cX11_bestPlan 26 = .ok (.istore 5, 2) := by decide +kernel
theorem dX11_bestPlan_28 : decode cX11_bestPlan 28 = .ok (.iload 5, 2) := by decide +kernel
theorem dX11_bestPlan_30 : decode cX11_bestPlan 30 = .ok (.iload_n 3, 1) := by decide +kernel
theorem dX11_bestPlan_31 : decode cX11_bestPlan 31 = .ok (.if_icmp .le 9, 3) := by decide +kernel
theorem dX11_bestPlan_34 : decode cX11_bestPlan 34 = .ok (.iload 4, 2) := by decide +kernel
theorem dX11_bestPlan_36 : decode cX11_bestPlan 36 = .ok (.istore_n 2, 1) := by decide +kernel
theorem dX11_bestPlan_37 : decode cX11_bestPlan 37 = .ok (.iload 5, 2) := by decide +kernel
theorem dX11_bestPlan_39 : decode cX11_bestPlan 39 = .ok (.istore_n 3, 1) := by decide +kernel
theorem dX11_bestPlan_40 : decode cX11_bestPlan 40 = .ok (.iinc 4 1, 3) := by decide +kernel
theorem dX11_bestPlan_43 : decode cX11_bestPlan 43 = .ok (.goto (-36), 3) := by decide +kernel
theorem dX11_bestPlan_46 : decode cX11_bestPlan 46 = .ok (.iload_n 2, 1) := by decide +kernel
theorem dX11_bestPlan_47 : decode cX11_bestPlan 47 = .ok (.ireturn, 1) := by decide +kernel
theorem dX11_meanOf_0 : decode cX11_meanOf 0 = .ok (.aload_n 0, 1) := by decide +kernel
theorem dX11_meanOf_1 : decode cX11_meanOf 1 = .ok (.getfield 26, 3) := by decide +kernel
theorem dX11_meanOf_4 : decode cX11_meanOf 4 = .ok (.iload_n 1, 1) := by decide +kernel
theorem dX11_meanOf_5 : decode cX11_meanOf 5 = .ok (.iload_n 2, 1) := by decide +kernel
theorem dX11_meanOf_6 : decode cX11_meanOf 6 = .ok (.invokevirtual 200, 3) := by decide +kernel
theorem dX11_meanOf_9 : decode cX11_meanOf 9 = .ok (.istore_n 3, 1) := by decide +kernel
theorem dX11_meanOf_10 : decode cX11_meanOf 10 = .ok (.iload_n 3, 1) := by decide +kernel
theorem dX11_meanOf_11 : decode cX11_meanOf 11 = .ok (.aload_n 0, 1) := by decide +kernel
theorem dX11_meanOf_12 : decode cX11_meanOf 12 = .ok (.iload_n 2, 1) := by decide +kernel
theorem dX11_meanOf_13 : decode cX11_meanOf 13 = .ok (.iconst 0, 1) := by decide +kernel
theorem dX11_meanOf_14 : decode cX11_meanOf 14 = .ok (.invokevirtual 356, 3) := by decide +kernel
theorem dX11_meanOf_17 : decode cX11_meanOf 17 = .ok (.imul, 1) := by decide +kernel
theorem dX11_meanOf_18 : decode cX11_meanOf 18 = .ok (.sipush 10000, 3) := by decide +kernel
theorem dX11_meanOf_21 : decode cX11_meanOf 21 = .ok (.iload_n 3, 1) := by decide +kernel
theorem dX11_meanOf_22 : decode cX11_meanOf 22 = .ok (.isub, 1) := by decide +kernel
theorem dX11_meanOf_23 : decode cX11_meanOf 23 = .ok (.aload_n 0, 1) := by decide +kernel
theorem dX11_meanOf_24 : decode cX11_meanOf 24 = .ok (.iload_n 2, 1) := by decide +kernel
theorem dX11_meanOf_25 : decode cX11_meanOf 25 = .ok (.iconst 4, 1) := by decide +kernel
theorem dX11_meanOf_26 : decode cX11_meanOf 26 = .ok (.invokevirtual 356, 3) := by decide +kernel
theorem dX11_meanOf_29 : decode cX11_meanOf 29 = .ok (.imul, 1) := by decide +kernel
theorem dX11_meanOf_30 : decode cX11_meanOf 30 = .ok (.iadd, 1) := by decide +kernel
theorem dX11_meanOf_31 : decode cX11_meanOf 31 = .ok (.ireturn, 1) := by decide +kernel
theorem dX11_thoughtMoney_0 : decode cX11_thoughtMoney 0 = .ok (.aload_n 0, 1) := by decide +kernel
theorem dX11_thoughtMoney_1 : decode cX11_thoughtMoney 1 = .ok (.getfield 26, 3) := by decide +kernel
theorem dX11_thoughtMoney_4 : decode cX11_thoughtMoney 4 = .ok (.iload_n 1, 1) := by decide +kernel
theorem dX11_thoughtMoney_5 : decode cX11_thoughtMoney 5 = .ok (.invokevirtual 197, 3) := by decide +kernel
theorem dX11_thoughtMoney_8 : decode cX11_thoughtMoney 8 = .ok (.istore_n 3, 1) := by decide +kernel
theorem dX11_thoughtMoney_9 : decode cX11_thoughtMoney 9 = .ok (.iload_n 3, 1) := by decide +kernel
theorem dX11_thoughtMoney_10 : decode cX11_thoughtMoney 10 = .ok (.aload_n 0, 1) := by decide +kernel
theorem dX11_thoughtMoney_11 : decode cX11_thoughtMoney 11 = .ok (.getfield 26, 3) := by decide +kernel
theorem dX11_thoughtMoney_14 : decode cX11_thoughtMoney 14 = .ok (.getfield 154, 3) := by decide +kernel
theorem dX11_thoughtMoney_17 : decode cX11_thoughtMoney 17 = .ok (.bipush 40, 2) := by decide +kernel
theorem dX11_thoughtMoney_19 : decode cX11_thoughtMoney 19 = .ok (.invokestatic 353, 3) := by decide +kernel
theorem dX11_thoughtMoney_22 : decode cX11_thoughtMoney 22 = .ok (.istore 4, 2) := by decide +kernel
theorem dX11_thoughtMoney_24 : decode cX11_thoughtMoney 24 = .ok (.aload_n 0, 1) := by decide +kernel
theorem dX11_thoughtMoney_25 : decode cX11_thoughtMoney 25 = .ok (.getfield 33, 3) := by decide +kernel
theorem dX11_thoughtMoney_28 : decode cX11_thoughtMoney 28 = .ok (.aload_n 0, 1) := by decide +kernel
theorem dX11_thoughtMoney_29 : decode cX11_thoughtMoney 29 = .ok (.getfield 33, 3) := by decide +kernel
theorem dX11_thoughtMoney_32 : decode cX11_thoughtMoney 32 = .ok (.iload_n 2, 1) := by decide +kernel
theorem dX11_thoughtMoney_33 : decode cX11_thoughtMoney 33 = .ok (.iload 4, 2) := by decide +kernel
theorem dX11_thoughtMoney_35 : decode cX11_thoughtMoney 35 = .ok (.iadd, 1) := by decide +kernel
theorem dX11_thoughtMoney_36 : decode cX11_thoughtMoney 36 = .ok (.iload_n 3, 1) := by decide +kernel
theorem dX11_thoughtMoney_37 : decode cX11_thoughtMoney 37 = .ok (.invokevirtual 350, 3) := by decide +kernel
theorem dX11_thoughtMoney_40 : decode cX11_thoughtMoney 40 = .ok (.invokevirtual 343, 3) := by decide +kernel
theorem dX11_thoughtMoney_43 : decode cX11_thoughtMoney 43 = .ok (.ireturn, 1) := by decide +kernel
theorem dX11_game_0 : decode cX11_game 0 = .ok (.aload_n 0, 1) := by decide +kernel
theorem dX11_game_1 : decode cX11_game 1 = .ok (.iconst 1, 1) := by decide +kernel
theorem dX11_game_2 : decode cX11_game 2 = .ok (.iconst 3, 1) := by decide +kernel
theorem dX11_game_3 : decode cX11_game 3 = .ok (.invokevirtual 371, 3) := by decide +kernel
theorem dX11_game_6 : decode cX11_game 6 = .ok (.istore_n 1, 1) := by decide +kernel
theorem dX11_game_7 : decode cX11_game 7 = .ok (.iload_n 1, 1) := by decide +kernel
theorem dX11_game_8 : decode cX11_game 8 = .ok (.ifCond .ge 5, 3) := by decide +kernel
theorem dX11_game_11 : decode cX11_game 11 = .ok (.iload_n 1, 1) := by decide +kernel
theorem dX11_game_12 : decode cX11_game 12 = .ok (.ireturn, 1) := by decide +kernel
theorem dX11_game_13 : decode cX11_game 13 = .ok (.aload_n 0, 1) := by decide +kernel
theorem dX11_game_14 : decode cX11_game 14 = .ok (.getfield 66, 3) := by decide +kernel
theorem dX11_game_17 : decode cX11_game 17 = .ok (.aload_n 0, 1) := by decide +kernel
theorem dX11_game_18 : decode cX11_game 18 = .ok (.getfield 26, 3) := by decide +kernel
theorem dX11_game_21 : decode cX11_game 21 = .ok (.aload_n 0, 1) := by decide +kernel
theorem dX11_game_22 : decode cX11_game 22 = .ok (.getfield 33, 3) := by decide +kernel
theorem dX11_game_25 : decode cX11_game 25 = .ok (.invokevirtual 374, 3) := by decide +kernel
theorem dX11_game_28 : decode cX11_game 28 = .ok (.aload_n 0, 1) := by decide +kernel
theorem dX11_game_29 : decode cX11_game 29 = .ok (.getfield 66, 3) := by decide +kernel
theorem dX11_game_32 : decode cX11_game 32 = .ok (.aload_n 0, 1) := by decide +kernel
theorem dX11_game_33 : decode cX11_game 33 = .ok (.getfield 26, 3) := by decide +kernel
theorem dX11_game_36 : decode cX11_game 36 = .ok (.aload_n 0, 1) := by decide +kernel
theorem dX11_game_37 : decode cX11_game 37 = .ok (.getfield 33, 3) := by decide +kernel
theorem dX11_game_40 : decode cX11_game 40 = .ok (.iconst 0, 1) := by decide +kernel
theorem dX11_game_41 : decode cX11_game 41 = .ok (.invokevirtual 378, 3) := by decide +kernel
theorem dX11_game_44 : decode cX11_game 44 = .ok (.aload_n 0, 1) := by decide +kernel
theorem dX11_game_45 : decode cX11_game 45 = .ok (.getfield 19, 3) := by decide +kernel
theorem dX11_game_48 : decode cX11_game 48 = .ok (.invokevirtual 171, 3) := by decide +kernel
theorem dX11_game_51 : decode cX11_game 51 = .ok (.iconst 0, 1) := by decide +kernel
theorem dX11_game_52 : decode cX11_game 52 = .ok (.istore_n 2, 1) := by decide +kernel
theorem dX11_game_53 : decode cX11_game 53 = .ok (.iload_n 2, 1) := by decide +kernel
theorem dX11_game_54 : decode cX11_game 54 = .ok (.aload_n 0, 1) := by decide +kernel
theorem dX11_game_55 : decode cX11_game 55 = .ok (.getfield 66, 3) := by decide +kernel
theorem dX11_game_58 : decode cX11_game 58 = .ok (.getfield 381, 3) := by decide +kernel
theorem dX11_game_61 : decode cX11_game 61 = .ok (.if_icmp .ge 31, 3) := by decide +kernel
theorem dX11_game_64 : decode cX11_game 64 = .ok (.aload_n 0, 1) := by decide +kernel
theorem dX11_game_65 : decode cX11_game 65 = .ok (.getfield 19, 3) := by decide +kernel
theorem dX11_game_68 : decode cX11_game 68 = .ok (.aload_n 0, 1) := by decide +kernel
theorem dX11_game_69 : decode cX11_game 69 = .ok (.getfield 66, 3) := by decide +kernel
theorem dX11_game_72 : decode cX11_game 72 = .ok (.iload_n 2, 1) := by decide +kernel
theorem dX11_game_73 : decode cX11_game 73 = .ok (.invokevirtual 384, 3) := by decide +kernel
theorem dX11_game_76 : decode cX11_game 76 = .ok (.aload_n 0, 1) := by decide +kernel
theorem dX11_game_77 : decode cX11_game 77 = .ok (.getfield 66, 3) := by decide +kernel
theorem dX11_game_80 : decode cX11_game 80 = .ok (.invokevirtual 388, 3) := by decide +kernel
theorem dX11_game_83 : decode cX11_game 83 = .ok (.invokevirtual 392, 3) := by decide +kernel
theorem dX11_game_86 : decode cX11_game 86 = .ok (.iinc 2 1, 3) := by decide +kernel
theorem dX11_game_89 : decode cX11_game 89 = .ok (.goto (-36), 3) := by decide +kernel
theorem dX11_game_92 : decode cX11_game 92 = .ok (.aload_n 0, 1) := by decide +kernel
theorem dX11_game_93 : decode cX11_game 93 = .ok (.getfield 66, 3) := by decide +kernel
theorem dX11_game_96 : decode cX11_game 96 = .ok (.getfield 396, 3) := by decide +kernel
theorem dX11_game_99 : decode cX11_game 99 = .ok (.ireturn, 1) := by decide +kernel
theorem dX11_lot_0 : decode cX11_lot 0 = .ok (.aload_n 0, 1) := by decide +kernel
theorem dX11_lot_1 : decode cX11_lot 1 = .ok (.iconst 2, 1) := by decide +kernel
theorem dX11_lot_2 : decode cX11_lot 2 = .ok (.iconst 3, 1) := by decide +kernel
theorem dX11_lot_3 : decode cX11_lot 3 = .ok (.invokevirtual 371, 3) := by decide +kernel
theorem dX11_lot_6 : decode cX11_lot 6 = .ok (.istore_n 1, 1) := by decide +kernel
theorem dX11_lot_7 : decode cX11_lot 7 = .ok (.iload_n 1, 1) := by decide +kernel
theorem dX11_lot_8 : decode cX11_lot 8 = .ok (.ifCond .ge 5, 3) := by decide +kernel
theorem dX11_lot_11 : decode cX11_lot 11 = .ok (.iload_n 1, 1) := by decide +kernel
theorem dX11_lot_12 : decode cX11_lot 12 = .ok (.ireturn, 1) := by decide +kernel
theorem dX11_lot_13 : decode cX11_lot 13 = .ok (.aload_n 0, 1) := by decide +kernel
theorem dX11_lot_14 : decode cX11_lot 14 = .ok (.getfield 66, 3) := by decide +kernel
theorem dX11_lot_17 : decode cX11_lot 17 = .ok (.aload_n 0, 1) := by decide +kernel
theorem dX11_lot_18 : decode cX11_lot 18 = .ok (.getfield 26, 3) := by decide +kernel
theorem dX11_lot_21 : decode cX11_lot 21 = .ok (.aload_n 0, 1) := by decide +kernel
theorem dX11_lot_22 : decode cX11_lot 22 = .ok (.getfield 33, 3) := by decide +kernel
theorem dX11_lot_25 : decode cX11_lot 25 = .ok (.invokevirtual 374, 3) := by decide +kernel
theorem dX11_lot_28 : decode cX11_lot 28 = .ok (.iconst 0, 1) := by decide +kernel
theorem dX11_lot_29 : decode cX11_lot 29 = .ok (.istore_n 2, 1) := by decide +kernel
theorem dX11_lot_30 : decode cX11_lot 30 = .ok (.ldc2_w 399, 3) := by decide +kernel
theorem dX11_lot_33 : decode cX11_lot 33 = .ok (.lstore_n 3, 1) := by decide +kernel
theorem dX11_lot_34 : decode cX11_lot 34 = .ok (.iconst 0, 1) := by decide +kernel
theorem dX11_lot_35 : decode cX11_lot 35 = .ok (.istore 5, 2) := by decide +kernel
theorem dX11_lot_37 : decode cX11_lot 37 = .ok (.iload 5, 2) := by decide +kernel
theorem dX11_lot_39 : decode cX11_lot 39 = .ok (.aload_n 0, 1) := by decide +kernel
theorem dX11_lot_40 : decode cX11_lot 40 = .ok (.getfield 66, 3) := by decide +kernel
theorem dX11_lot_43 : decode cX11_lot 43 = .ok (.getfield 381, 3) := by decide +kernel
theorem dX11_lot_46 : decode cX11_lot 46 = .ok (.if_icmp .ge 53, 3) := by decide +kernel
theorem dX11_lot_49 : decode cX11_lot 49 = .ok (.aload_n 0, 1) := by decide +kernel
theorem dX11_lot_50 : decode cX11_lot 50 = .ok (.getfield 66, 3) := by decide +kernel
theorem dX11_lot_53 : decode cX11_lot 53 = .ok (.aload_n 0, 1) := by decide +kernel
theorem dX11_lot_54 : decode cX11_lot 54 = .ok (.getfield 26, 3) := by decide +kernel
theorem dX11_lot_57 : decode cX11_lot 57 = .ok (.aload_n 0, 1) := by decide +kernel
theorem dX11_lot_58 : decode cX11_lot 58 = .ok (.getfield 33, 3) := by decide +kernel
theorem dX11_lot_61 : decode cX11_lot 61 = .ok (.iload 5, 2) := by decide +kernel
theorem dX11_lot_63 : decode cX11_lot 63 = .ok (.invokevirtual 378, 3) := by decide +kernel
theorem dX11_lot_66 : decode cX11_lot 66 = .ok (.aload_n 0, 1) := by decide +kernel
theorem dX11_lot_67 : decode cX11_lot 67 = .ok (.getfield 66, 3) := by decide +kernel
theorem dX11_lot_70 : decode cX11_lot 70 = .ok (.iload 5, 2) := by decide +kernel
theorem dX11_lot_72 : decode cX11_lot 72 = .ok (.invokevirtual 384, 3) := by decide +kernel
theorem dX11_lot_75 : decode cX11_lot 75 = .ok (.lload_n 3, 1) := by decide +kernel
theorem dX11_lot_76 : decode cX11_lot 76 = .ok (.lcmp, 1) := by decide +kernel
theorem dX11_lot_77 : decode cX11_lot 77 = .ok (.ifCond .le 16, 3) := by decide +kernel
theorem dX11_lot_80 : decode cX11_lot 80 = .ok (.iload 5, 2) := by decide +kernel
theorem dX11_lot_82 : decode cX11_lot 82 = .ok (.istore_n 2, 1) := by decide +kernel
theorem dX11_lot_83 : decode cX11_lot 83 = .ok (.aload_n 0, 1) := by decide +kernel
theorem dX11_lot_84 : decode cX11_lot 84 = .ok (.getfield 66, 3) := by decide +kernel
theorem dX11_lot_87 : decode cX11_lot 87 = .ok (.iload 5, 2) := by decide +kernel
theorem dX11_lot_89 : decode cX11_lot 89 = .ok (.invokevirtual 384, 3) := by decide +kernel
theorem dX11_lot_92 : decode cX11_lot 92 = .ok (.lstore_n 3, 1) := by decide +kernel
theorem dX11_lot_93 : decode cX11_lot 93 = .ok (.iinc 5 1, 3) := by decide +kernel
theorem dX11_lot_96 : decode cX11_lot 96 = .ok (.goto (-59), 3) := by decide +kernel
theorem dX11_lot_99 : decode cX11_lot 99 = .ok (.aload_n 0, 1) := by decide +kernel
theorem dX11_lot_100 : decode cX11_lot 100 = .ok (.getfield 19, 3) := by decide +kernel
theorem dX11_lot_103 : decode cX11_lot 103 = .ok (.invokevirtual 171, 3) := by decide +kernel
theorem dX11_lot_106 : decode cX11_lot 106 = .ok (.aload_n 0, 1) := by decide +kernel
theorem dX11_lot_107 : decode cX11_lot 107 = .ok (.getfield 19, 3) := by decide +kernel
theorem dX11_lot_110 : decode cX11_lot 110 = .ok (.lload_n 3, 1) := by decide +kernel
theorem dX11_lot_111 : decode cX11_lot 111 = .ok (.aload_n 0, 1) := by decide +kernel
theorem dX11_lot_112 : decode cX11_lot 112 = .ok (.getfield 66, 3) := by decide +kernel
theorem dX11_lot_115 : decode cX11_lot 115 = .ok (.invokevirtual 388, 3) := by decide +kernel
theorem dX11_lot_118 : decode cX11_lot 118 = .ok (.invokevirtual 392, 3) := by decide +kernel
theorem dX11_lot_121 : decode cX11_lot 121 = .ok (.iload_n 2, 1) := by decide +kernel
theorem dX11_lot_122 : decode cX11_lot 122 = .ok (.ireturn, 1) := by decide +kernel
theorem dX11_share_0 : decode cX11_share 0 = .ok (.aload_n 0, 1) := by decide +kernel
theorem dX11_share_1 : decode cX11_share 1 = .ok (.getfield 26, 3) := by decide +kernel
theorem dX11_share_4 : decode cX11_share 4 = .ok (.getfield 362, 3) := by decide +kernel
theorem dX11_share_7 : decode cX11_share 7 = .ok (.ifCond .le 24, 3) := by decide +kernel
theorem dX11_share_10 : decode cX11_share 10 = .ok (.iload_n 1, 1) := by decide +kernel
theorem dX11_share_11 : decode cX11_share 11 = .ok (.iconst 1, 1) := by decide +kernel
theorem dX11_share_12 : decode cX11_share 12 = .ok (.if_icmp .lt 8, 3) := by decide +kernel
theorem dX11_share_15 : decode cX11_share 15 = .ok (.iload_n 1, 1) := by decide +kernel
theorem dX11_share_16 : decode cX11_share 16 = .ok (.iconst 5, 1) := by decide +kernel
theorem dX11_share_17 : decode cX11_share 17 = .ok (.if_icmp .le 14, 3) := by decide +kernel
theorem dX11_share_20 : decode cX11_share 20 = .ok (.aload_n 0, 1) := by decide +kernel
theorem dX11_share_21 : decode cX11_share 21 = .ok (.getfield 10, 3) := by decide +kernel
theorem dX11_share_24 : decode cX11_share 24 = .ok (.invokevirtual 104, 3) := by decide +kernel
theorem dX11_share_27 : decode cX11_share 27 = .ok (.sipush (-200), 3) := by decide +kernel
theorem dX11_share_30 : decode cX11_share 30 = .ok (.ireturn, 1) := by decide +kernel
theorem dX11_share_31 : decode cX11_share 31 = .ok (.aload_n 0, 1) := by decide +kernel
theorem dX11_share_32 : decode cX11_share 32 = .ok (.iconst 2, 1) := by decide +kernel
theorem dX11_share_33 : decode cX11_share 33 = .ok (.iconst 2, 1) := by decide +kernel
theorem dX11_share_34 : decode cX11_share 34 = .ok (.invokevirtual 371, 3) := by decide +kernel
theorem dX11_share_37 : decode cX11_share 37 = .ok (.istore_n 2, 1) := by decide +kernel
theorem dX11_share_38 : decode cX11_share 38 = .ok (.iload_n 2, 1) := by decide +kernel
theorem dX11_share_39 : decode cX11_share 39 = .ok (.ifCond .ge 5, 3) := by decide +kernel
theorem dX11_share_42 : decode cX11_share 42 = .ok (.iload_n 2, 1) := by decide +kernel
theorem dX11_share_43 : decode cX11_share 43 = .ok (.ireturn, 1) := by decide +kernel
theorem dX11_share_44 : decode cX11_share 44 = .ok (.aload_n 0, 1) := by decide +kernel
theorem dX11_share_45 : decode cX11_share 45 = .ok (.getfield 66, 3) := by decide +kernel
theorem dX11_share_48 : decode cX11_share 48 = .ok (.aload_n 0, 1) := by decide +kernel
theorem dX11_share_49 : decode cX11_share 49 = .ok (.getfield 26, 3) := by decide +kernel
theorem dX11_share_52 : decode cX11_share 52 = .ok (.aload_n 0, 1) := by decide +kernel
theorem dX11_share_53 : decode cX11_share 53 = .ok (.getfield 33, 3) := by decide +kernel
theorem dX11_share_56 : decode cX11_share 56 = .ok (.invokevirtual 374, 3) := by decide +kernel
theorem dX11_share_59 : decode cX11_share 59 = .ok (.aload_n 0, 1) := by decide +kernel
theorem dX11_share_60 : decode cX11_share 60 = .ok (.getfield 66, 3) := by decide +kernel
theorem dX11_share_63 : decode cX11_share 63 = .ok (.aload_n 0, 1) := by decide +kernel
theorem dX11_share_64 : decode cX11_share 64 = .ok (.getfield 26, 3) := by decide +kernel
theorem dX11_share_67 : decode cX11_share 67 = .ok (.aload_n 0, 1) := by decide +kernel
theorem dX11_share_68 : decode cX11_share 68 = .ok (.getfield 33, 3) := by decide +kernel
theorem dX11_share_71 : decode cX11_share 71 = .ok (.iconst 0, 1) := by decide +kernel
theorem dX11_share_72 : decode cX11_share 72 = .ok (.invokevirtual 378, 3) := by decide +kernel
theorem dX11_share_75 : decode cX11_share 75 = .ok (.aload_n 0, 1) := by decide +kernel
theorem dX11_share_76 : decode cX11_share 76 = .ok (.getfield 33, 3) := by decide +kernel
theorem dX11_share_79 : decode cX11_share 79 = .ok (.iload_n 1, 1) := by decide +kernel
theorem dX11_share_80 : decode cX11_share 80 = .ok (.invokevirtual 343, 3) := by decide +kernel
theorem dX11_share_83 : decode cX11_share 83 = .ok (.aload_n 0, 1) := by decide +kernel
theorem dX11_share_84 : decode cX11_share 84 = .ok (.getfield 33, 3) := by decide +kernel
theorem dX11_share_87 : decode cX11_share 87 = .ok (.iload_n 1, 1) := by decide +kernel
theorem dX11_share_88 : decode cX11_share 88 = .ok (.iconst 1, 1) := by decide +kernel
theorem dX11_share_89 : decode cX11_share 89 = .ok (.iadd, 1) := by decide +kernel
theorem dX11_share_90 : decode cX11_share 90 = .ok (.invokevirtual 343, 3) := by decide +kernel
theorem dX11_share_93 : decode cX11_share 93 = .ok (.iadd, 1) := by decide +kernel
theorem dX11_share_94 : decode cX11_share 94 = .ok (.istore_n 3, 1) := by decide +kernel
theorem dX11_share_95 : decode cX11_share 95 = .ok (.aload_n 0, 1) := by decide +kernel
theorem dX11_share_96 : decode cX11_share 96 = .ok (.getfield 19, 3) := by decide +kernel
theorem dX11_share_99 : decode cX11_share 99 = .ok (.invokevirtual 171, 3) := by decide +kernel
theorem dX11_share_102 : decode cX11_share 102 = .ok (.aload_n 0, 1) := by decide +kernel
theorem dX11_share_103 : decode cX11_share 103 = .ok (.getfield 19, 3) := by decide +kernel
theorem dX11_share_106 : decode cX11_share 106 = .ok (.iload_n 3, 1) := by decide +kernel
theorem dX11_share_107 : decode cX11_share 107 = .ok (.i2l, 1) := by decide +kernel
theorem dX11_share_108 : decode cX11_share 108 = .ok (.invokevirtual 177, 3) := by decide +kernel
theorem dX11_share_111 : decode cX11_share 111 = .ok (.iconst 1, 1) := by decide +kernel
theorem dX11_share_112 : decode cX11_share 112 = .ok (.istore 4, 2) := by decide +kernel
theorem dX11_share_114 : decode cX11_share 114 = .ok (.iconst 0, 1) := by decide +kernel
theorem dX11_share_115 : decode cX11_share 115 = .ok (.istore 5, 2) := by decide +kernel
theorem dX11_share_117 : decode cX11_share 117 = .ok (.iload 5, 2) := by decide +kernel
theorem dX11_share_119 : decode cX11_share 119 = .ok (.aload_n 0, 1) := by decide +kernel
theorem dX11_share_120 : decode cX11_share 120 = .ok (.getfield 66, 3) := by decide +kernel
theorem dX11_share_123 : decode cX11_share 123 = .ok (.getfield 381, 3) := by decide +kernel
theorem dX11_share_126 : decode cX11_share 126 = .ok (.if_icmp .ge 71, 3) := by decide +kernel
theorem dX11_share_129 : decode cX11_share 129 = .ok (.aload_n 0, 1) := by decide +kernel
theorem dX11_share_130 : decode cX11_share 130 = .ok (.getfield 19, 3) := by decide +kernel
theorem dX11_share_133 : decode cX11_share 133 = .ok (.aload_n 0, 1) := by decide +kernel
theorem dX11_share_134 : decode cX11_share 134 = .ok (.getfield 66, 3) := by decide +kernel
theorem dX11_share_137 : decode cX11_share 137 = .ok (.iload 5, 2) := by decide +kernel
theorem dX11_share_139 : decode cX11_share 139 = .ok (.invokevirtual 384, 3) := by decide +kernel
theorem dX11_share_142 : decode cX11_share 142 = .ok (.aload_n 0, 1) := by decide +kernel
theorem dX11_share_143 : decode cX11_share 143 = .ok (.getfield 66, 3) := by decide +kernel
theorem dX11_share_146 : decode cX11_share 146 = .ok (.invokevirtual 388, 3) := by decide +kernel
theorem dX11_share_149 : decode cX11_share 149 = .ok (.invokevirtual 392, 3) := by decide +kernel
theorem dX11_share_152 : decode cX11_share 152 = .ok (.iload 4, 2) := by decide +kernel
theorem dX11_share_154 : decode cX11_share 154 = .ok (.ifCond .eq 34, 3) := by decide +kernel
theorem dX11_share_157 : decode cX11_share 157 = .ok (.iload_n 3, 1) := by decide +kernel
theorem dX11_share_158 : decode cX11_share 158 = .ok (.i2l, 1) := by decide +kernel
theorem dX11_share_159 : decode cX11_share 159 = .ok (.aload_n 0, 1) := by decide +kernel
theorem dX11_share_160 : decode cX11_share 160 = .ok (.getfield 66, 3) := by decide +kernel
theorem dX11_share_163 : decode cX11_share 163 = .ok (.invokevirtual 388, 3) := by decide +kernel
theorem dX11_share_166 : decode cX11_share 166 = .ok (.lmul, 1) := by decide +kernel
theorem dX11_share_167 : decode cX11_share 167 = .ok (.ldc2_w 401, 3) := by decide +kernel
theorem dX11_share_170 : decode cX11_share 170 = .ok (.aload_n 0, 1) := by decide +kernel
theorem dX11_share_171 : decode cX11_share 171 = .ok (.getfield 66, 3) := by decide +kernel
theorem dX11_share_174 : decode cX11_share 174 = .ok (.iload 5, 2) := by decide +kernel
theorem dX11_share_176 : decode cX11_share 176 = .ok (.invokevirtual 384, 3) := by decide +kernel
theorem dX11_share_179 : decode cX11_share 179 = .ok (.lmul, 1) := by decide +kernel
theorem dX11_share_180 : decode cX11_share 180 = .ok (.lcmp, 1) := by decide +kernel
theorem dX11_share_181 : decode cX11_share 181 = .ok (.ifCond .lt 7, 3) := by decide +kernel
theorem dX11_share_184 : decode cX11_share 184 = .ok (.iconst 1, 1) := by decide +kernel
theorem dX11_share_185 : decode cX11_share 185 = .ok (.goto 4, 3) := by decide +kernel
theorem dX11_share_188 : decode cX11_share 188 = .ok (.iconst 0, 1) := by decide +kernel
theorem dX11_share_189 : decode cX11_share 189 = .ok (.istore 4, 2) := by decide +kernel
theorem dX11_share_191 : decode cX11_share 191 = .ok (.iinc 5 1, 3) := by decide +kernel
theorem dX11_share_194 : decode cX11_share 194 = .ok (.goto (-77), 3) := by decide +kernel
theorem dX11_share_197 : decode cX11_share 197 = .ok (.iload 4, 2) := by decide +kernel
theorem dX11_share_199 : decode cX11_share 199 = .ok (.ifCond .eq 7, 3) := by decide +kernel
theorem dX11_share_202 : decode cX11_share 202 = .ok (.iconst 1, 1) := by decide +kernel
theorem dX11_share_203 : decode cX11_share 203 = .ok (.goto 4, 3) := by decide +kernel
theorem dX11_share_206 : decode cX11_share 206 = .ok (.iconst 0, 1) := by decide +kernel
theorem dX11_share_207 : decode cX11_share 207 = .ok (.ireturn, 1) := by decide +kernel
theorem dX11_readPlayers_0 : decode cX11_readPlayers 0 = .ok (.aload_n 0, 1) := by decide +kernel
theorem dX11_readPlayers_1 : decode cX11_readPlayers 1 = .ok (.getfield 26, 3) := by decide +kernel
theorem dX11_readPlayers_4 : decode cX11_readPlayers 4 = .ok (.getfield 362, 3) := by decide +kernel
theorem dX11_readPlayers_7 : decode cX11_readPlayers 7 = .ok (.ifCond .ne 8, 3) := by decide +kernel
theorem dX11_readPlayers_10 : decode cX11_readPlayers 10 = .ok (.bipush (-100), 2) := by decide +kernel
theorem dX11_readPlayers_12 : decode cX11_readPlayers 12 = .ok (.goto 23, 3) := by decide +kernel
theorem dX11_readPlayers_15 : decode cX11_readPlayers 15 = .ok (.aload_n 0, 1) := by decide +kernel
theorem dX11_readPlayers_16 : decode cX11_readPlayers 16 = .ok (.getfield 66, 3) := by decide +kernel
theorem dX11_readPlayers_19 : decode cX11_readPlayers 19 = .ok (.aload_n 0, 1) := by decide +kernel
theorem dX11_readPlayers_20 : decode cX11_readPlayers 20 = .ok (.getfield 10, 3) := by decide +kernel
theorem dX11_readPlayers_23 : decode cX11_readPlayers 23 = .ok (.aload_n 0, 1) := by decide +kernel
theorem dX11_readPlayers_24 : decode cX11_readPlayers 24 = .ok (.getfield 26, 3) := by decide +kernel
theorem dX11_readPlayers_27 : decode cX11_readPlayers 27 = .ok (.getfield 368, 3) := by decide +kernel
theorem dX11_readPlayers_30 : decode cX11_readPlayers 30 = .ok (.iload_n 1, 1) := by decide +kernel
theorem dX11_readPlayers_31 : decode cX11_readPlayers 31 = .ok (.iload_n 2, 1) := by decide +kernel
theorem dX11_readPlayers_32 : decode cX11_readPlayers 32 = .ok (.invokevirtual 403, 3) := by decide +kernel
theorem dX11_readPlayers_35 : decode cX11_readPlayers 35 = .ok (.istore_n 3, 1) := by decide +kernel
theorem dX11_readPlayers_36 : decode cX11_readPlayers 36 = .ok (.aload_n 0, 1) := by decide +kernel
theorem dX11_readPlayers_37 : decode cX11_readPlayers 37 = .ok (.getfield 10, 3) := by decide +kernel
theorem dX11_readPlayers_40 : decode cX11_readPlayers 40 = .ok (.invokevirtual 104, 3) := by decide +kernel
theorem dX11_readPlayers_43 : decode cX11_readPlayers 43 = .ok (.iload_n 3, 1) := by decide +kernel
theorem dX11_readPlayers_44 : decode cX11_readPlayers 44 = .ok (.ireturn, 1) := by decide +kernel
theorem dX11_through_0 : decode cX11_through 0 = .ok (.aload_n 0, 1) := by decide +kernel
theorem dX11_through_1 : decode cX11_through 1 = .ok (.getfield 26, 3) := by decide +kernel
theorem dX11_through_4 : decode cX11_through 4 = .ok (.iload_n 1, 1) := by decide +kernel
theorem dX11_through_5 : decode cX11_through 5 = .ok (.invokevirtual 191, 3) := by decide +kernel
theorem dX11_through_8 : decode cX11_through 8 = .ok (.ifCond .eq 14, 3) := by decide +kernel
theorem dX11_through_11 : decode cX11_through 11 = .ok (.iload_n 2, 1) := by decide +kernel
theorem dX11_through_12 : decode cX11_through 12 = .ok (.ifCond .lt 10, 3) := by decide +kernel
theorem dX11_through_15 : decode cX11_through 15 = .ok (.iload_n 2, 1) := by decide +kernel
theorem dX11_through_16 : decode cX11_through 16 = .ok (.sipush 10000, 3) := by decide +kernel
theorem dX11_through_19 : decode cX11_through 19 = .ok (.if_icmp .le 5, 3) := by decide +kernel
theorem dX11_through_22 : decode cX11_through 22 = .ok (.iconst (-1), 1) := by decide +kernel
theorem dX11_through_23 : decode cX11_through 23 = .ok (.ireturn, 1) := by decide +kernel
theorem dX11_through_24 : decode cX11_through 24 = .ok (.aload_n 0, 1) := by decide +kernel
theorem dX11_through_25 : decode cX11_through 25 = .ok (.iload_n 1, 1) := by decide +kernel
theorem dX11_through_26 : decode cX11_through 26 = .ok (.iload_n 2, 1) := by decide +kernel
theorem dX11_through_27 : decode cX11_through 27 = .ok (.invokevirtual 406, 3) := by decide +kernel
theorem dX11_through_30 : decode cX11_through 30 = .ok (.istore_n 3, 1) := by decide +kernel
theorem dX11_through_31 : decode cX11_through 31 = .ok (.aload_n 0, 1) := by decide +kernel
theorem dX11_through_32 : decode cX11_through 32 = .ok (.getfield 19, 3) := by decide +kernel
theorem dX11_through_35 : decode cX11_through 35 = .ok (.invokevirtual 171, 3) := by decide +kernel
theorem dX11_through_38 : decode cX11_through 38 = .ok (.aload_n 0, 1) := by decide +kernel
theorem dX11_through_39 : decode cX11_through 39 = .ok (.getfield 19, 3) := by decide +kernel
theorem dX11_through_42 : decode cX11_through 42 = .ok (.iload_n 3, 1) := by decide +kernel
theorem dX11_through_43 : decode cX11_through 43 = .ok (.invokestatic 409, 3) := by decide +kernel
theorem dX11_through_46 : decode cX11_through 46 = .ok (.i2l, 1) := by decide +kernel
theorem dX11_through_47 : decode cX11_through 47 = .ok (.invokevirtual 177, 3) := by decide +kernel
theorem dX11_through_50 : decode cX11_through 50 = .ok (.iload_n 3, 1) := by decide +kernel
theorem dX11_through_51 : decode cX11_through 51 = .ok (.ireturn, 1) := by decide +kernel
theorem dX11_bitsThrough_0 : decode cX11_bitsThrough 0 = .ok (.iconst 0, 1) := by decide +kernel
theorem dX11_bitsThrough_1 : decode cX11_bitsThrough 1 = .ok (.istore_n 3, 1) := by decide +kernel
theorem dX11_bitsThrough_2 : decode cX11_bitsThrough 2 = .ok (.iconst 0, 1) := by decide +kernel
theorem dX11_bitsThrough_3 : decode cX11_bitsThrough 3 = .ok (.istore 4, 2) := by decide +kernel
theorem dX11_bitsThrough_5 : decode cX11_bitsThrough 5 = .ok (.iload 4, 2) := by decide +kernel
theorem dX11_bitsThrough_7 : decode cX11_bitsThrough 7 = .ok (.aload_n 0, 1) := by decide +kernel
theorem dX11_bitsThrough_8 : decode cX11_bitsThrough 8 = .ok (.getfield 26, 3) := by decide +kernel
theorem dX11_bitsThrough_11 : decode cX11_bitsThrough 11 = .ok (.getfield 368, 3) := by decide +kernel
theorem dX11_bitsThrough_14 : decode cX11_bitsThrough 14 = .ok (.if_icmp .ge 30, 3) := by decide +kernel
theorem dX11_bitsThrough_17 : decode cX11_bitsThrough 17 = .ok (.aload_n 0, 1) := by decide +kernel
theorem dX11_bitsThrough_18 : decode cX11_bitsThrough 18 = .ok (.getfield 26, 3) := by decide +kernel
theorem dX11_bitsThrough_21 : decode cX11_bitsThrough 21 = .ok (.iload 4, 2) := by decide +kernel
theorem dX11_bitsThrough_23 : decode cX11_bitsThrough 23 = .ok (.iload_n 1, 1) := by decide +kernel
theorem dX11_bitsThrough_24 : decode cX11_bitsThrough 24 = .ok (.invokevirtual 200, 3) := by decide +kernel
theorem dX11_bitsThrough_27 : decode cX11_bitsThrough 27 = .ok (.iload_n 2, 1) := by decide +kernel
theorem dX11_bitsThrough_28 : decode cX11_bitsThrough 28 = .ok (.if_icmp .lt 10, 3) := by decide +kernel
theorem dX11_bitsThrough_31 : decode cX11_bitsThrough 31 = .ok (.iload_n 3, 1) := by decide +kernel
theorem dX11_bitsThrough_32 : decode cX11_bitsThrough 32 = .ok (.iconst 1, 1) := by decide +kernel
theorem dX11_bitsThrough_33 : decode cX11_bitsThrough 33 = .ok (.iload 4, 2) := by decide +kernel
theorem dX11_bitsThrough_35 : decode cX11_bitsThrough 35 = .ok (.ishl, 1) := by decide +kernel
theorem dX11_bitsThrough_36 : decode cX11_bitsThrough 36 = .ok (.ior, 1) := by decide +kernel
theorem dX11_bitsThrough_37 : decode cX11_bitsThrough 37 = .ok (.istore_n 3, 1) := by decide +kernel
theorem dX11_bitsThrough_38 : decode cX11_bitsThrough 38 = .ok (.iinc 4 1, 3) := by decide +kernel
theorem dX11_bitsThrough_41 : decode cX11_bitsThrough 41 = .ok (.goto (-36), 3) := by decide +kernel
theorem dX11_bitsThrough_44 : decode cX11_bitsThrough 44 = .ok (.iload_n 3, 1) := by decide +kernel
theorem dX11_bitsThrough_45 : decode cX11_bitsThrough 45 = .ok (.ireturn, 1) := by decide +kernel
theorem dX11_built_0 : decode cX11_built 0 = .ok (.aload_n 0, 1) := by decide +kernel
theorem dX11_built_1 : decode cX11_built 1 = .ok (.getfield 26, 3) := by decide +kernel
theorem dX11_built_4 : decode cX11_built 4 = .ok (.iload_n 1, 1) := by decide +kernel
theorem dX11_built_5 : decode cX11_built 5 = .ok (.invokevirtual 191, 3) := by decide +kernel
theorem dX11_built_8 : decode cX11_built 8 = .ok (.ifCond .eq 24, 3) := by decide +kernel
theorem dX11_built_11 : decode cX11_built 11 = .ok (.iload_n 2, 1) := by decide +kernel
theorem dX11_built_12 : decode cX11_built 12 = .ok (.ifCond .lt 20, 3) := by decide +kernel
theorem dX11_built_15 : decode cX11_built 15 = .ok (.iload_n 2, 1) := by decide +kernel
theorem dX11_built_16 : decode cX11_built 16 = .ok (.sipush 10000, 3) := by decide +kernel
theorem dX11_built_19 : decode cX11_built 19 = .ok (.if_icmp .gt 13, 3) := by decide +kernel
theorem dX11_built_22 : decode cX11_built 22 = .ok (.iload_n 3, 1) := by decide +kernel
theorem dX11_built_23 : decode cX11_built 23 = .ok (.ifCond .lt 9, 3) := by decide +kernel
theorem dX11_built_26 : decode cX11_built 26 = .ok (.iload_n 3, 1) := by decide +kernel
theorem dX11_built_27 : decode cX11_built 27 = .ok (.bipush 6, 2) := by decide +kernel
theorem dX11_built_29 : decode cX11_built 29 = .ok (.if_icmp .le 6, 3) := by decide +kernel
theorem dX11_built_32 : decode cX11_built 32 = .ok (.bipush (-2), 2) := by decide +kernel
theorem dX11_built_34 : decode cX11_built 34 = .ok (.ireturn, 1) := by decide +kernel
theorem dX11_built_35 : decode cX11_built 35 = .ok (.aload_n 0, 1) := by decide +kernel
theorem dX11_built_36 : decode cX11_built 36 = .ok (.getfield 26, 3) := by decide +kernel
theorem dX11_built_39 : decode cX11_built 39 = .ok (.iload_n 1, 1) := by decide +kernel
theorem dX11_built_40 : decode cX11_built 40 = .ok (.iload_n 2, 1) := by decide +kernel
theorem dX11_built_41 : decode cX11_built 41 = .ok (.invokevirtual 414, 3) := by decide +kernel
theorem dX11_built_44 : decode cX11_built 44 = .ok (.iconst (-1), 1) := by decide +kernel
theorem dX11_built_45 : decode cX11_built 45 = .ok (.istore 4, 2) := by decide +kernel
theorem dX11_built_47 : decode cX11_built 47 = .ok (.aload_n 0, 1) := by decide +kernel
theorem dX11_built_48 : decode cX11_built 48 = .ok (.iload_n 1, 1) := by decide +kernel
theorem dX11_built_49 : decode cX11_built 49 = .ok (.iload_n 2, 1) := by decide +kernel
theorem dX11_built_50 : decode cX11_built 50 = .ok (.invokevirtual 406, 3) := by decide +kernel
theorem dX11_built_53 : decode cX11_built 53 = .ok (.invokestatic 409, 3) := by decide +kernel
theorem dX11_built_56 : decode cX11_built 56 = .ok (.istore 5, 2) := by decide +kernel
theorem dX11_built_58 : decode cX11_built 58 = .ok (.iconst 0, 1) := by decide +kernel
theorem dX11_built_59 : decode cX11_built 59 = .ok (.istore 6, 2) := by decide +kernel
theorem dX11_built_61 : decode cX11_built 61 = .ok (.iload 6, 2) := by decide +kernel
theorem dX11_built_63 : decode cX11_built 63 = .ok (.aload_n 0, 1) := by decide +kernel
theorem dX11_built_64 : decode cX11_built 64 = .ok (.getfield 26, 3) := by decide +kernel
theorem dX11_built_67 : decode cX11_built 67 = .ok (.getfield 157, 3) := by decide +kernel
theorem dX11_built_70 : decode cX11_built 70 = .ok (.bipush 10, 2) := by decide +kernel
theorem dX11_built_72 : decode cX11_built 72 = .ok (.imul, 1) := by decide +kernel
theorem dX11_built_73 : decode cX11_built 73 = .ok (.if_icmp .ge 50, 3) := by decide +kernel
theorem dX11_built_76 : decode cX11_built 76 = .ok (.aload_n 0, 1) := by decide +kernel
theorem dX11_built_77 : decode cX11_built 77 = .ok (.getfield 26, 3) := by decide +kernel
theorem dX11_built_80 : decode cX11_built 80 = .ok (.getfield 418, 3) := by decide +kernel
theorem dX11_built_83 : decode cX11_built 83 = .ok (.iload 6, 2) := by decide +kernel
theorem dX11_built_85 : decode cX11_built 85 = .ok (.iaload, 1) := by decide +kernel
theorem dX11_built_86 : decode cX11_built 86 = .ok (.iload_n 3, 1) := by decide +kernel
theorem dX11_built_87 : decode cX11_built 87 = .ok (.isub, 1) := by decide +kernel
theorem dX11_built_88 : decode cX11_built 88 = .ok (.invokestatic 421, 3) := by decide +kernel
theorem dX11_built_91 : decode cX11_built 91 = .ok (.iload 5, 2) := by decide +kernel
theorem dX11_built_93 : decode cX11_built 93 = .ok (.iload_n 3, 1) := by decide +kernel
theorem dX11_built_94 : decode cX11_built 94 = .ok (.isub, 1) := by decide +kernel
theorem dX11_built_95 : decode cX11_built 95 = .ok (.invokestatic 421, 3) := by decide +kernel
theorem dX11_built_98 : decode cX11_built 98 = .ok (.if_icmp .ge 19, 3) := by decide +kernel
theorem dX11_built_101 : decode cX11_built 101 = .ok (.iload 6, 2) := by decide +kernel
theorem dX11_built_103 : decode cX11_built 103 = .ok (.istore 4, 2) := by decide +kernel
theorem dX11_built_105 : decode cX11_built 105 = .ok (.aload_n 0, 1) := by decide +kernel
theorem dX11_built_106 : decode cX11_built 106 = .ok (.getfield 26, 3) := by decide +kernel
theorem dX11_built_109 : decode cX11_built 109 = .ok (.getfield 418, 3) := by decide +kernel
theorem dX11_built_112 : decode cX11_built 112 = .ok (.iload 6, 2) := by decide +kernel
theorem dX11_built_114 : decode cX11_built 114 = .ok (.iaload, 1) := by decide +kernel
theorem dX11_built_115 : decode cX11_built 115 = .ok (.istore 5, 2) := by decide +kernel
theorem dX11_built_117 : decode cX11_built 117 = .ok (.iinc 6 1, 3) := by decide +kernel
theorem dX11_built_120 : decode cX11_built 120 = .ok (.goto (-59), 3) := by decide +kernel
theorem dX11_built_123 : decode cX11_built 123 = .ok (.aload_n 0, 1) := by decide +kernel
theorem dX11_built_124 : decode cX11_built 124 = .ok (.getfield 19, 3) := by decide +kernel
theorem dX11_built_127 : decode cX11_built 127 = .ok (.invokevirtual 171, 3) := by decide +kernel
theorem dX11_built_130 : decode cX11_built 130 = .ok (.aload_n 0, 1) := by decide +kernel
theorem dX11_built_131 : decode cX11_built 131 = .ok (.getfield 19, 3) := by decide +kernel
theorem dX11_built_134 : decode cX11_built 134 = .ok (.iload 4, 2) := by decide +kernel
theorem dX11_built_136 : decode cX11_built 136 = .ok (.iconst (-1), 1) := by decide +kernel
theorem dX11_built_137 : decode cX11_built 137 = .ok (.if_icmp .ne 9, 3) := by decide +kernel
theorem dX11_built_140 : decode cX11_built 140 = .ok (.ldc2_w 399, 3) := by decide +kernel
theorem dX11_built_143 : decode cX11_built 143 = .ok (.goto 9, 3) := by decide +kernel
theorem dX11_built_146 : decode cX11_built 146 = .ok (.iload 4, 2) := by decide +kernel
theorem dX11_built_148 : decode cX11_built 148 = .ok (.bipush 10, 2) := by decide +kernel
theorem dX11_built_150 : decode cX11_built 150 = .ok (.irem, 1) := by decide +kernel
theorem dX11_built_151 : decode cX11_built 151 = .ok (.i2l, 1) := by decide +kernel
theorem dX11_built_152 : decode cX11_built 152 = .ok (.invokevirtual 177, 3) := by decide +kernel
theorem dX11_built_155 : decode cX11_built 155 = .ok (.aload_n 0, 1) := by decide +kernel
theorem dX11_built_156 : decode cX11_built 156 = .ok (.getfield 19, 3) := by decide +kernel
theorem dX11_built_159 : decode cX11_built 159 = .ok (.iload 5, 2) := by decide +kernel
theorem dX11_built_161 : decode cX11_built 161 = .ok (.i2l, 1) := by decide +kernel
theorem dX11_built_162 : decode cX11_built 162 = .ok (.invokevirtual 177, 3) := by decide +kernel
theorem dX11_built_165 : decode cX11_built 165 = .ok (.iload 4, 2) := by decide +kernel
theorem dX11_built_167 : decode cX11_built 167 = .ok (.iconst (-1), 1) := by decide +kernel
theorem dX11_built_168 : decode cX11_built 168 = .ok (.if_icmp .ne 7, 3) := by decide +kernel
theorem dX11_built_171 : decode cX11_built 171 = .ok (.iconst (-1), 1) := by decide +kernel
theorem dX11_built_172 : decode cX11_built 172 = .ok (.goto 8, 3) := by decide +kernel
theorem dX11_built_175 : decode cX11_built 175 = .ok (.iload 4, 2) := by decide +kernel
theorem dX11_built_177 : decode cX11_built 177 = .ok (.bipush 10, 2) := by decide +kernel
theorem dX11_built_179 : decode cX11_built 179 = .ok (.idiv, 1) := by decide +kernel
theorem dX11_built_180 : decode cX11_built 180 = .ok (.ireturn, 1) := by decide +kernel
theorem dX11_fair_0 : decode cX11_fair 0 = .ok (.aload_n 0, 1) := by decide +kernel
theorem dX11_fair_1 : decode cX11_fair 1 = .ok (.getfield 26, 3) := by decide +kernel
theorem dX11_fair_4 : decode cX11_fair 4 = .ok (.iload_n 1, 1) := by decide +kernel
theorem dX11_fair_5 : decode cX11_fair 5 = .ok (.invokevirtual 132, 3) := by decide +kernel
theorem dX11_fair_8 : decode cX11_fair 8 = .ok (.ifCond .ne 5, 3) := by decide +kernel
theorem dX11_fair_11 : decode cX11_fair 11 = .ok (.iconst (-1), 1) := by decide +kernel
theorem dX11_fair_12 : decode cX11_fair 12 = .ok (.ireturn, 1) := by decide +kernel
theorem dX11_fair_13 : decode cX11_fair 13 = .ok (.iconst (-1), 1) := by decide +kernel
theorem dX11_fair_14 : decode cX11_fair 14 = .ok (.istore_n 2, 1) := by decide +kernel
theorem dX11_fair_15 : decode cX11_fair 15 = .ok (.iconst 0, 1) := by decide +kernel
theorem dX11_fair_16 : decode cX11_fair 16 = .ok (.istore_n 3, 1) := by decide +kernel
theorem dX11_fair_17 : decode cX11_fair 17 = .ok (.iconst 0, 1) := by decide +kernel
theorem dX11_fair_18 : decode cX11_fair 18 = .ok (.istore 4, 2) := by decide +kernel
theorem dX11_fair_20 : decode cX11_fair 20 = .ok (.bipush 10, 2) := by decide +kernel
theorem dX11_fair_22 : decode cX11_fair 22 = .ok (.istore 5, 2) := by decide +kernel
theorem dX11_fair_24 : decode cX11_fair 24 = .ok (.iload 5, 2) := by decide +kernel
theorem dX11_fair_26 : decode cX11_fair 26 = .ok (.bipush 99, 2) := by decide +kernel
theorem dX11_fair_28 : decode cX11_fair 28 = .ok (.if_icmp .gt 90, 3) := by decide +kernel
theorem dX11_fair_31 : decode cX11_fair 31 = .ok (.iconst 0, 1) := by decide +kernel
theorem dX11_fair_32 : decode cX11_fair 32 = .ok (.istore 6, 2) := by decide +kernel
theorem dX11_fair_34 : decode cX11_fair 34 = .ok (.iconst 0, 1) := by decide +kernel
theorem dX11_fair_35 : decode cX11_fair 35 = .ok (.istore 7, 2) := by decide +kernel
theorem dX11_fair_37 : decode cX11_fair 37 = .ok (.iconst 0, 1) := by decide +kernel
theorem dX11_fair_38 : decode cX11_fair 38 = .ok (.istore 8, 2) := by decide +kernel
theorem dX11_fair_40 : decode cX11_fair 40 = .ok (.iload 8, 2) := by decide +kernel
theorem dX11_fair_42 : decode cX11_fair 42 = .ok (.aload_n 0, 1) := by decide +kernel
theorem dX11_fair_43 : decode cX11_fair 43 = .ok (.getfield 26, 3) := by decide +kernel
theorem dX11_fair_46 : decode cX11_fair 46 = .ok (.getfield 368, 3) := by decide +kernel
theorem dX11_fair_49 : decode cX11_fair 49 = .ok (.if_icmp .ge 42, 3) := by decide +kernel
theorem dX11_fair_52 : decode cX11_fair 52 = .ok (.iload 5, 2) := by decide +kernel
theorem dX11_fair_54 : decode cX11_fair 54 = .ok (.aload_n 0, 1) := by decide +kernel
theorem dX11_fair_55 : decode cX11_fair 55 = .ok (.getfield 26, 3) := by decide +kernel
theorem dX11_fair_58 : decode cX11_fair 58 = .ok (.iload 8, 2) := by decide +kernel
theorem dX11_fair_60 : decode cX11_fair 60 = .ok (.iconst 0, 1) := by decide +kernel
theorem dX11_fair_61 : decode cX11_fair 61 = .ok (.invokevirtual 150, 3) := by decide +kernel
theorem dX11_fair_64 : decode cX11_fair 64 = .ok (.invokestatic 424, 3) := by decide +kernel
theorem dX11_fair_67 : decode cX11_fair 67 = .ok (.istore 9, 2) := by decide +kernel
theorem dX11_fair_69 : decode cX11_fair 69 = .ok (.iload 6, 2) := by decide +kernel
theorem dX11_fair_71 : decode cX11_fair 71 = .ok (.iload 9, 2) := by decide +kernel
theorem dX11_fair_73 : decode cX11_fair 73 = .ok (.iadd, 1) := by decide +kernel
theorem dX11_fair_74 : decode cX11_fair 74 = .ok (.istore 6, 2) := by decide +kernel
theorem dX11_fair_76 : decode cX11_fair 76 = .ok (.iload 7, 2) := by decide +kernel
theorem dX11_fair_78 : decode cX11_fair 78 = .ok (.iload 9, 2) := by decide +kernel
theorem dX11_fair_80 : decode cX11_fair 80 = .ok (.invokestatic 168, 3) := by decide +kernel
theorem dX11_fair_83 : decode cX11_fair 83 = .ok (.istore 7, 2) := by decide +kernel
theorem dX11_fair_85 : decode cX11_fair 85 = .ok (.iinc 8 1, 3) := by decide +kernel
theorem dX11_fair_88 : decode cX11_fair 88 = .ok (.goto (-48), 3) := by decide +kernel
theorem dX11_fair_91 : decode cX11_fair 91 = .ok (.iload_n 2, 1) := by decide +kernel
theorem dX11_fair_92 : decode cX11_fair 92 = .ok (.iconst (-1), 1) := by decide +kernel
theorem dX11_fair_93 : decode cX11_fair 93 = .ok (.if_icmp .eq 9, 3) := by decide +kernel
theorem dX11_fair_96 : decode cX11_fair 96 = .ok (.iload 6, 2) := by decide +kernel
theorem dX11_fair_98 : decode cX11_fair 98 = .ok (.iload_n 3, 1) := by decide +kernel
theorem dX11_fair_99 : decode cX11_fair 99 = .ok (.if_icmp .ge 13, 3) := by decide +kernel
theorem dX11_fair_102 : decode cX11_fair 102 = .ok (.iload 5, 2) := by decide +kernel
theorem dX11_fair_104 : decode cX11_fair 104 = .ok (.istore_n 2, 1) := by decide +kernel
theorem dX11_fair_105 : decode cX11_fair 105 = .ok (.iload 6, 2) := by decide +kernel
theorem dX11_fair_107 : decode cX11_fair 107 = .ok (.istore_n 3, 1) := by decide +kernel
theorem dX11_fair_108 : decode cX11_fair 108 = .ok (.iload 7, 2) := by decide +kernel
theorem dX11_fair_110 : decode cX11_fair 110 = .ok (.istore 4, 2) := by decide +kernel
theorem dX11_fair_112 : decode cX11_fair 112 = .ok (.iinc 5 1, 3) := by decide +kernel
theorem dX11_fair_115 : decode cX11_fair 115 = .ok (.goto (-91), 3) := by decide +kernel
theorem dX11_fair_118 : decode cX11_fair 118 = .ok (.aload_n 0, 1) := by decide +kernel
theorem dX11_fair_119 : decode cX11_fair 119 = .ok (.getfield 19, 3) := by decide +kernel
theorem dX11_fair_122 : decode cX11_fair 122 = .ok (.invokevirtual 171, 3) := by decide +kernel
theorem dX11_fair_125 : decode cX11_fair 125 = .ok (.aload_n 0, 1) := by decide +kernel
theorem dX11_fair_126 : decode cX11_fair 126 = .ok (.getfield 19, 3) := by decide +kernel
theorem dX11_fair_129 : decode cX11_fair 129 = .ok (.iload_n 3, 1) := by decide +kernel
theorem dX11_fair_130 : decode cX11_fair 130 = .ok (.i2l, 1) := by decide +kernel
theorem dX11_fair_131 : decode cX11_fair 131 = .ok (.invokevirtual 177, 3) := by decide +kernel
theorem dX11_fair_134 : decode cX11_fair 134 = .ok (.aload_n 0, 1) := by decide +kernel
theorem dX11_fair_135 : decode cX11_fair 135 = .ok (.getfield 19, 3) := by decide +kernel
theorem dX11_fair_138 : decode cX11_fair 138 = .ok (.iload 4, 2) := by decide +kernel
theorem dX11_fair_140 : decode cX11_fair 140 = .ok (.i2l, 1) := by decide +kernel
theorem dX11_fair_141 : decode cX11_fair 141 = .ok (.invokevirtual 177, 3) := by decide +kernel
theorem dX11_fair_144 : decode cX11_fair 144 = .ok (.iload_n 2, 1) := by decide +kernel
theorem dX11_fair_145 : decode cX11_fair 145 = .ok (.ireturn, 1) := by decide +kernel
theorem dX11_parts_0 : decode cX11_parts 0 = .ok (.aload_n 0, 1) := by decide +kernel
theorem dX11_parts_1 : decode cX11_parts 1 = .ok (.getfield 80, 3) := by decide +kernel
theorem dX11_parts_4 : decode cX11_parts 4 = .ok (.aload_n 0, 1) := by decide +kernel
theorem dX11_parts_5 : decode cX11_parts 5 = .ok (.getfield 33, 3) := by decide +kernel
theorem dX11_parts_8 : decode cX11_parts 8 = .ok (.aload_n 0, 1) := by decide +kernel
theorem dX11_parts_9 : decode cX11_parts 9 = .ok (.getfield 19, 3) := by decide +kernel
theorem dX11_parts_12 : decode cX11_parts 12 = .ok (.invokevirtual 427, 3) := by decide +kernel
theorem dX11_parts_15 : decode cX11_parts 15 = .ok (.ireturn, 1) := by decide +kernel
theorem dX11_riders_0 : decode cX11_riders 0 = .ok (.iload_n 1, 1) := by decide +kernel
theorem dX11_riders_1 : decode cX11_riders 1 = .ok (.invokestatic 260, 3) := by decide +kernel
theorem dX11_riders_4 : decode cX11_riders 4 = .ok (.ifCond .eq 15, 3) := by decide +kernel
theorem dX11_riders_7 : decode cX11_riders 7 = .ok (.iload_n 2, 1) := by decide +kernel
theorem dX11_riders_8 : decode cX11_riders 8 = .ok (.invokestatic 260, 3) := by decide +kernel
theorem dX11_riders_11 : decode cX11_riders 11 = .ok (.ifCond .eq 8, 3) := by decide +kernel
theorem dX11_riders_14 : decode cX11_riders 14 = .ok (.iload_n 1, 1) := by decide +kernel
theorem dX11_riders_15 : decode cX11_riders 15 = .ok (.iload_n 2, 1) := by decide +kernel
theorem dX11_riders_16 : decode cX11_riders 16 = .ok (.if_icmp .ne 5, 3) := by decide +kernel
theorem dX11_riders_19 : decode cX11_riders 19 = .ok (.iconst (-1), 1) := by decide +kernel
theorem dX11_riders_20 : decode cX11_riders 20 = .ok (.ireturn, 1) := by decide +kernel
theorem dX11_riders_21 : decode cX11_riders 21 = .ok (.lconst 0, 1) := by decide +kernel
theorem dX11_riders_22 : decode cX11_riders 22 = .ok (.lstore_n 3, 1) := by decide +kernel
theorem dX11_riders_23 : decode cX11_riders 23 = .ok (.iconst 0, 1) := by decide +kernel
theorem dX11_riders_24 : decode cX11_riders 24 = .ok (.istore 5, 2) := by decide +kernel
theorem dX11_riders_26 : decode cX11_riders 26 = .ok (.iconst 0, 1) := by decide +kernel
theorem dX11_riders_27 : decode cX11_riders 27 = .ok (.istore 6, 2) := by decide +kernel
theorem dX11_riders_29 : decode cX11_riders 29 = .ok (.iload 6, 2) := by decide +kernel
theorem dX11_riders_31 : decode cX11_riders 31 = .ok (.aload_n 0, 1) := by decide +kernel
theorem dX11_riders_32 : decode cX11_riders 32 = .ok (.getfield 26, 3) := by decide +kernel
theorem dX11_riders_35 : decode cX11_riders 35 = .ok (.getfield 368, 3) := by decide +kernel
theorem dX11_riders_38 : decode cX11_riders 38 = .ok (.if_icmp .ge 62, 3) := by decide +kernel
theorem dX11_riders_41 : decode cX11_riders 41 = .ok (.aload_n 0, 1) := by decide +kernel
theorem dX11_riders_42 : decode cX11_riders 42 = .ok (.getfield 33, 3) := by decide +kernel
theorem dX11_riders_45 : decode cX11_riders 45 = .ok (.iload_n 1, 1) := by decide +kernel
theorem dX11_riders_46 : decode cX11_riders 46 = .ok (.iload 6, 2) := by decide +kernel
theorem dX11_riders_48 : decode cX11_riders 48 = .ok (.invokevirtual 431, 3) := by decide +kernel
theorem dX11_riders_51 : decode cX11_riders 51 = .ok (.lstore 7, 2) := by decide +kernel
theorem dX11_riders_53 : decode cX11_riders 53 = .ok (.aload_n 0, 1) := by decide +kernel
theorem dX11_riders_54 : decode cX11_riders 54 = .ok (.getfield 33, 3) := by decide +kernel
theorem dX11_riders_57 : decode cX11_riders 57 = .ok (.iload_n 2, 1) := by decide +kernel
theorem dX11_riders_58 : decode cX11_riders 58 = .ok (.iload 6, 2) := by decide +kernel
theorem dX11_riders_60 : decode cX11_riders 60 = .ok (.invokevirtual 431, 3) := by decide +kernel
theorem dX11_riders_63 : decode cX11_riders 63 = .ok (.lstore 9, 2) := by decide +kernel
theorem dX11_riders_65 : decode cX11_riders 65 = .ok (.lload 7, 2) := by decide +kernel
theorem dX11_riders_67 : decode cX11_riders 67 = .ok (.ldc2_w 399, 3) := by decide +kernel
theorem dX11_riders_70 : decode cX11_riders 70 = .ok (.lcmp, 1) := by decide +kernel
theorem dX11_riders_71 : decode cX11_riders 71 = .ok (.ifCond .eq 23, 3) := by decide +kernel
theorem dX11_riders_74 : decode cX11_riders 74 = .ok (.lload 9, 2) := by decide +kernel
theorem dX11_riders_76 : decode cX11_riders 76 = .ok (.ldc2_w 399, 3) := by decide +kernel
theorem dX11_riders_79 : decode cX11_riders 79 = .ok (.lcmp, 1) := by decide +kernel
theorem dX11_riders_80 : decode cX11_riders 80 = .ok (.ifCond .eq 14, 3) := by decide +kernel
theorem dX11_riders_83 : decode cX11_riders 83 = .ok (.lload_n 3, 1) := by decide +kernel
theorem dX11_riders_84 : decode cX11_riders 84 = .ok (.lload 7, 2) := by decide +kernel
theorem dX11_riders_86 : decode cX11_riders 86 = .ok (.lload 9, 2) := by decide +kernel
theorem dX11_riders_88 : decode cX11_riders 88 = .ok (.lsub, 1) := by decide +kernel
theorem dX11_riders_89 : decode cX11_riders 89 = .ok (.ladd, 1) := by decide +kernel
theorem dX11_riders_90 : decode cX11_riders 90 = .ok (.lstore_n 3, 1) := by decide +kernel
theorem dX11_riders_91 : decode cX11_riders 91 = .ok (.iinc 5 1, 3) := by decide +kernel
theorem dX11_riders_94 : decode cX11_riders 94 = .ok (.iinc 6 1, 3) := by decide +kernel
theorem dX11_riders_97 : decode cX11_riders 97 = .ok (.goto (-68), 3) := by decide +kernel
theorem dX11_riders_100 : decode cX11_riders 100 = .ok (.iload 5, 2) := by decide +kernel
theorem dX11_riders_102 : decode cX11_riders 102 = .ok (.ifCond .ne 6, 3) := by decide +kernel
theorem dX11_riders_105 : decode cX11_riders 105 = .ok (.bipush (-2), 2) := by decide +kernel
theorem dX11_riders_107 : decode cX11_riders 107 = .ok (.ireturn, 1) := by decide +kernel
theorem dX11_riders_108 : decode cX11_riders 108 = .ok (.aload_n 0, 1) := by decide +kernel
theorem dX11_riders_109 : decode cX11_riders 109 = .ok (.getfield 19, 3) := by decide +kernel
theorem dX11_riders_112 : decode cX11_riders 112 = .ok (.invokevirtual 171, 3) := by decide +kernel
theorem dX11_riders_115 : decode cX11_riders 115 = .ok (.aload_n 0, 1) := by decide +kernel
theorem dX11_riders_116 : decode cX11_riders 116 = .ok (.getfield 19, 3) := by decide +kernel
theorem dX11_riders_119 : decode cX11_riders 119 = .ok (.lload_n 3, 1) := by decide +kernel
theorem dX11_riders_120 : decode cX11_riders 120 = .ok (.iload 5, 2) := by decide +kernel
theorem dX11_riders_122 : decode cX11_riders 122 = .ok (.i2l, 1) := by decide +kernel
theorem dX11_riders_123 : decode cX11_riders 123 = .ok (.ldc2_w 435, 3) := by decide +kernel
theorem dX11_riders_126 : decode cX11_riders 126 = .ok (.lmul, 1) := by decide +kernel
theorem dX11_riders_127 : decode cX11_riders 127 = .ok (.invokevirtual 392, 3) := by decide +kernel
theorem dX11_riders_130 : decode cX11_riders 130 = .ok (.iload 5, 2) := by decide +kernel
theorem dX11_riders_132 : decode cX11_riders 132 = .ok (.ireturn, 1) := by decide +kernel
theorem dX11_wind_0 : decode cX11_wind 0 = .ok (.aload_n 0, 1) := by decide +kernel
theorem dX11_wind_1 : decode cX11_wind 1 = .ok (.getfield 26, 3) := by decide +kernel
theorem dX11_wind_4 : decode cX11_wind 4 = .ok (.iload_n 1, 1) := by decide +kernel
theorem dX11_wind_5 : decode cX11_wind 5 = .ok (.invokevirtual 132, 3) := by decide +kernel
theorem dX11_wind_8 : decode cX11_wind 8 = .ok (.ifCond .eq 23, 3) := by decide +kernel
theorem dX11_wind_11 : decode cX11_wind 11 = .ok (.iload_n 2, 1) := by decide +kernel
theorem dX11_wind_12 : decode cX11_wind 12 = .ok (.ifCond .lt 19, 3) := by decide +kernel
theorem dX11_wind_15 : decode cX11_wind 15 = .ok (.iload_n 3, 1) := by decide +kernel
theorem dX11_wind_16 : decode cX11_wind 16 = .ok (.iload_n 2, 1) := by decide +kernel
theorem dX11_wind_17 : decode cX11_wind 17 = .ok (.if_icmp .lt 14, 3) := by decide +kernel
theorem dX11_wind_20 : decode cX11_wind 20 = .ok (.iload_n 3, 1) := by decide +kernel
theorem dX11_wind_21 : decode cX11_wind 21 = .ok (.aload_n 0, 1) := by decide +kernel
theorem dX11_wind_22 : decode cX11_wind 22 = .ok (.getfield 26, 3) := by decide +kernel
theorem dX11_wind_25 : decode cX11_wind 25 = .ok (.getfield 368, 3) := by decide +kernel
theorem dX11_wind_28 : decode cX11_wind 28 = .ok (.if_icmp .le 5, 3) := by decide +kernel
theorem dX11_wind_31 : decode cX11_wind 31 = .ok (.iconst (-1), 1) := by decide +kernel
theorem dX11_wind_32 : decode cX11_wind 32 = .ok (.ireturn, 1) := by decide +kernel
theorem dX11_wind_33 : decode cX11_wind 33 = .ok (.iload 4, 2) := by decide +kernel
theorem dX11_wind_35 : decode cX11_wind 35 = .ok (.ifCond .lt 20, 3) := by decide +kernel
theorem dX11_wind_38 : decode cX11_wind 38 = .ok (.iload 4, 2) := by decide +kernel
theorem dX11_wind_40 : decode cX11_wind 40 = .ok (.bipush 100, 2) := by decide +kernel
theorem dX11_wind_42 : decode cX11_wind 42 = .ok (.if_icmp .gt 13, 3) := by decide +kernel
theorem dX11_wind_45 : decode cX11_wind 45 = .ok (.aload_n 0, 1) := by decide +kernel
theorem dX11_wind_46 : decode cX11_wind 46 = .ok (.getfield 26, 3) := by decide +kernel
theorem dX11_wind_49 : decode cX11_wind 49 = .ok (.getfield 362, 3) := by decide +kernel
theorem dX11_wind_52 : decode cX11_wind 52 = .ok (.ifCond .ne 5, 3) := by decide +kernel
theorem dX11_wind_55 : decode cX11_wind 55 = .ok (.iconst (-1), 1) := by decide +kernel
theorem dX11_wind_56 : decode cX11_wind 56 = .ok (.ireturn, 1) := by decide +kernel
theorem dX11_wind_57 : decode cX11_wind 57 = .ok (.lconst 1, 1) := by decide +kernel
theorem dX11_wind_58 : decode cX11_wind 58 = .ok (.lstore 5, 2) := by decide +kernel
theorem dX11_wind_60 : decode cX11_wind 60 = .ok (.iconst 0, 1) := by decide +kernel
theorem dX11_wind_61 : decode cX11_wind 61 = .ok (.istore 7, 2) := by decide +kernel
theorem dX11_wind_63 : decode cX11_wind 63 = .ok (.iload 7, 2) := by decide +kernel
theorem dX11_wind_65 : decode cX11_wind 65 = .ok (.iload_n 3, 1) := by decide +kernel
theorem dX11_wind_66 : decode cX11_wind 66 = .ok (.if_icmp .ge 17, 3) := by decide +kernel
theorem dX11_wind_69 : decode cX11_wind 69 = .ok (.lload 5, 2) := by decide +kernel
theorem dX11_wind_71 : decode cX11_wind 71 = .ok (.ldc2_w 211, 3) := by decide +kernel
theorem dX11_wind_74 : decode cX11_wind 74 = .ok (.lmul, 1) := by decide +kernel
theorem dX11_wind_75 : decode cX11_wind 75 = .ok (.lstore 5, 2) := by decide +kernel
theorem dX11_wind_77 : decode cX11_wind 77 = .ok (.iinc 7 1, 3) := by decide +kernel
theorem dX11_wind_80 : decode cX11_wind 80 = .ok (.goto (-17), 3) := by decide +kernel
theorem dX11_wind_83 : decode cX11_wind 83 = .ok (.aload_n 0, 1) := by decide +kernel
theorem dX11_wind_84 : decode cX11_wind 84 = .ok (.iload_n 1, 1) := by decide +kernel
theorem dX11_wind_85 : decode cX11_wind 85 = .ok (.iload_n 2, 1) := by decide +kernel
theorem dX11_wind_86 : decode cX11_wind 86 = .ok (.iload_n 3, 1) := by decide +kernel
theorem dX11_wind_87 : decode cX11_wind 87 = .ok (.iconst 0, 1) := by decide +kernel
theorem dX11_wind_88 : decode cX11_wind 88 = .ok (.invokevirtual 437, 3) := by decide +kernel
theorem dX11_wind_91 : decode cX11_wind 91 = .ok (.lstore 7, 2) := by decide +kernel
theorem dX11_wind_93 : decode cX11_wind 93 = .ok (.aload_n 0, 1) := by decide +kernel
theorem dX11_wind_94 : decode cX11_wind 94 = .ok (.iload_n 1, 1) := by decide +kernel
theorem dX11_wind_95 : decode cX11_wind 95 = .ok (.iload_n 2, 1) := by decide +kernel
theorem dX11_wind_96 : decode cX11_wind 96 = .ok (.iload_n 3, 1) := by decide +kernel
theorem dX11_wind_97 : decode cX11_wind 97 = .ok (.iload 4, 2) := by decide +kernel
theorem dX11_wind_99 : decode cX11_wind 99 = .ok (.invokevirtual 437, 3) := by decide +kernel
theorem dX11_wind_102 : decode cX11_wind 102 = .ok (.lstore 9, 2) := by decide +kernel
theorem dX11_wind_104 : decode cX11_wind 104 = .ok (.aload_n 0, 1) := by decide +kernel
theorem dX11_wind_105 : decode cX11_wind 105 = .ok (.getfield 19, 3) := by decide +kernel
theorem dX11_wind_108 : decode cX11_wind 108 = .ok (.invokevirtual 171, 3) := by decide +kernel
theorem dX11_wind_111 : decode cX11_wind 111 = .ok (.aload_n 0, 1) := by decide +kernel
theorem dX11_wind_112 : decode cX11_wind 112 = .ok (.getfield 19, 3) := by decide +kernel
theorem dX11_wind_115 : decode cX11_wind 115 = .ok (.lload 7, 2) := by decide +kernel
theorem dX11_wind_117 : decode cX11_wind 117 = .ok (.lload 5, 2) := by decide +kernel
theorem dX11_wind_119 : decode cX11_wind 119 = .ok (.invokevirtual 392, 3) := by decide +kernel
theorem dX11_wind_122 : decode cX11_wind 122 = .ok (.aload_n 0, 1) := by decide +kernel
theorem dX11_wind_123 : decode cX11_wind 123 = .ok (.getfield 19, 3) := by decide +kernel
theorem dX11_wind_126 : decode cX11_wind 126 = .ok (.lload 9, 2) := by decide +kernel
theorem dX11_wind_128 : decode cX11_wind 128 = .ok (.lload 5, 2) := by decide +kernel
theorem dX11_wind_130 : decode cX11_wind 130 = .ok (.invokevirtual 392, 3) := by decide +kernel
theorem dX11_wind_133 : decode cX11_wind 133 = .ok (.lload 9, 2) := by decide +kernel
theorem dX11_wind_135 : decode cX11_wind 135 = .ok (.lload 7, 2) := by decide +kernel
theorem dX11_wind_137 : decode cX11_wind 137 = .ok (.lcmp, 1) := by decide +kernel
theorem dX11_wind_138 : decode cX11_wind 138 = .ok (.ifCond .le 7, 3) := by decide +kernel
theorem dX11_wind_141 : decode cX11_wind 141 = .ok (.iconst 1, 1) := by decide +kernel
theorem dX11_wind_142 : decode cX11_wind 142 = .ok (.goto 4, 3) := by decide +kernel
theorem dX11_wind_145 : decode cX11_wind 145 = .ok (.iconst 0, 1) := by decide +kernel
theorem dX11_wind_146 : decode cX11_wind 146 = .ok (.ireturn, 1) := by decide +kernel
theorem dX11_justFall_0 : decode cX11_justFall 0 = .ok (.aload_n 0, 1) := by decide +kernel
theorem dX11_justFall_1 : decode cX11_justFall 1 = .ok (.getfield 84, 3) := by decide +kernel
theorem dX11_justFall_4 : decode cX11_justFall 4 = .ok (.lconst 0, 1) := by decide +kernel
theorem dX11_justFall_5 : decode cX11_justFall 5 = .ok (.invokestatic 203, 3) := by decide +kernel
theorem dX11_justFall_8 : decode cX11_justFall 8 = .ok (.aload_n 0, 1) := by decide +kernel
theorem dX11_justFall_9 : decode cX11_justFall 9 = .ok (.getfield 84, 3) := by decide +kernel
theorem dX11_justFall_12 : decode cX11_justFall 12 = .ok (.iconst 0, 1) := by decide +kernel
theorem dX11_justFall_13 : decode cX11_justFall 13 = .ok (.lconst 1, 1) := by decide +kernel
theorem dX11_justFall_14 : decode cX11_justFall 14 = .ok (.lastore, 1) := by decide +kernel
theorem dX11_justFall_15 : decode cX11_justFall 15 = .ok (.iconst 0, 1) := by decide +kernel
theorem dX11_justFall_16 : decode cX11_justFall 16 = .ok (.istore 5, 2) := by decide +kernel
theorem dX11_justFall_18 : decode cX11_justFall 18 = .ok (.iload 5, 2) := by decide +kernel
theorem dX11_justFall_20 : decode cX11_justFall 20 = .ok (.iload_n 3, 1) := by decide +kernel
theorem dX11_justFall_21 : decode cX11_justFall 21 = .ok (.if_icmp .ge 107, 3) := by decide +kernel
theorem dX11_justFall_24 : decode cX11_justFall 24 = .ok (.bipush 100, 2) := by decide +kernel
theorem dX11_justFall_26 : decode cX11_justFall 26 = .ok (.aload_n 0, 1) := by decide +kernel
theorem dX11_justFall_27 : decode cX11_justFall 27 = .ok (.getfield 26, 3) := by decide +kernel
theorem dX11_justFall_30 : decode cX11_justFall 30 = .ok (.iload 5, 2) := by decide +kernel
theorem dX11_justFall_32 : decode cX11_justFall 32 = .ok (.iload_n 1, 1) := by decide +kernel
theorem dX11_justFall_33 : decode cX11_justFall 33 = .ok (.aload_n 0, 1) := by decide +kernel
theorem dX11_justFall_34 : decode cX11_justFall 34 = .ok (.getfield 26, 3) := by decide +kernel
theorem dX11_justFall_37 : decode cX11_justFall 37 = .ok (.iconst 0, 1) := by decide +kernel
theorem dX11_justFall_38 : decode cX11_justFall 38 = .ok (.iload_n 1, 1) := by decide +kernel
theorem dX11_justFall_39 : decode cX11_justFall 39 = .ok (.invokevirtual 194, 3) := by decide +kernel
theorem dX11_justFall_42 : decode cX11_justFall 42 = .ok (.invokevirtual 187, 3) := by decide +kernel
theorem dX11_justFall_45 : decode cX11_justFall 45 = .ok (.iload 4, 2) := by decide +kernel
theorem dX11_justFall_47 : decode cX11_justFall 47 = .ok (.iadd, 1) := by decide +kernel
theorem dX11_justFall_48 : decode cX11_justFall 48 = .ok (.invokestatic 163, 3) := by decide +kernel
theorem dX11_justFall_51 : decode cX11_justFall 51 = .ok (.istore 6, 2) := by decide +kernel
theorem dX11_justFall_53 : decode cX11_justFall 53 = .ok (.bipush 6, 2) := by decide +kernel
theorem dX11_justFall_55 : decode cX11_justFall 55 = .ok (.istore 7, 2) := by decide +kernel
theorem dX11_justFall_57 : decode cX11_justFall 57 = .ok (.iload 7, 2) := by decide +kernel
theorem dX11_justFall_59 : decode cX11_justFall 59 = .ok (.ifCond .le 44, 3) := by decide +kernel
theorem dX11_justFall_62 : decode cX11_justFall 62 = .ok (.aload_n 0, 1) := by decide +kernel
theorem dX11_justFall_63 : decode cX11_justFall 63 = .ok (.getfield 84, 3) := by decide +kernel
theorem dX11_justFall_66 : decode cX11_justFall 66 = .ok (.iload 7, 2) := by decide +kernel
theorem dX11_justFall_68 : decode cX11_justFall 68 = .ok (.aload_n 0, 1) := by decide +kernel
theorem dX11_justFall_69 : decode cX11_justFall 69 = .ok (.getfield 84, 3) := by decide +kernel
theorem dX11_justFall_72 : decode cX11_justFall 72 = .ok (.iload 7, 2) := by decide +kernel
theorem dX11_justFall_74 : decode cX11_justFall 74 = .ok (.laload, 1) := by decide +kernel
theorem dX11_justFall_75 : decode cX11_justFall 75 = .ok (.bipush 100, 2) := by decide +kernel
theorem dX11_justFall_77 : decode cX11_justFall 77 = .ok (.iload 6, 2) := by decide +kernel
theorem dX11_justFall_79 : decode cX11_justFall 79 = .ok (.isub, 1) := by decide +kernel
theorem dX11_justFall_80 : decode cX11_justFall 80 = .ok (.i2l, 1) := by decide +kernel
theorem dX11_justFall_81 : decode cX11_justFall 81 = .ok (.lmul, 1) := by decide +kernel
theorem dX11_justFall_82 : decode cX11_justFall 82 = .ok (.aload_n 0, 1) := by decide +kernel
theorem dX11_justFall_83 : decode cX11_justFall 83 = .ok (.getfield 84, 3) := by decide +kernel
theorem dX11_justFall_86 : decode cX11_justFall 86 = .ok (.iload 7, 2) := by decide +kernel
theorem dX11_justFall_88 : decode cX11_justFall 88 = .ok (.iconst 1, 1) := by decide +kernel
theorem dX11_justFall_89 : decode cX11_justFall 89 = .ok (.isub, 1) := by decide +kernel
theorem dX11_justFall_90 : decode cX11_justFall 90 = .ok (.laload, 1) := by decide +kernel
theorem dX11_justFall_91 : decode cX11_justFall 91 = .ok (.iload 6, 2) := by decide +kernel
theorem dX11_justFall_93 : decode cX11_justFall 93 = .ok (.i2l, 1) := by decide +kernel
theorem dX11_justFall_94 : decode cX11_justFall 94 = .ok (.lmul, 1) := by decide +kernel
theorem dX11_justFall_95 : decode cX11_justFall 95 = .ok (.ladd, 1) := by decide +kernel
theorem dX11_justFall_96 : decode cX11_justFall 96 = .ok (.lastore, 1) := by decide +kernel
theorem dX11_justFall_97 : decode cX11_justFall 97 = .ok (.iinc 7 (-1), 3) := by decide +kernel
theorem dX11_justFall_100 : decode cX11_justFall 100 = .ok (.goto (-43), 3) := by decide +kernel
theorem dX11_justFall_103 : decode cX11_justFall 103 = .ok (.aload_n 0, 1) := by decide +kernel
theorem dX11_justFall_104 : decode cX11_justFall 104 = .ok (.getfield 84, 3) := by decide +kernel
theorem dX11_justFall_107 : decode cX11_justFall 107 = .ok (.iconst 0, 1) := by decide +kernel
theorem dX11_justFall_108 : decode cX11_justFall 108 = .ok (.aload_n 0, 1) := by decide +kernel
theorem dX11_justFall_109 : decode cX11_justFall 109 = .ok (.getfield 84, 3) := by decide +kernel
theorem dX11_justFall_112 : decode cX11_justFall 112 = .ok (.iconst 0, 1) := by decide +kernel
theorem dX11_justFall_113 : decode cX11_justFall 113 = .ok (.laload, 1) := by decide +kernel
theorem dX11_justFall_114 : decode cX11_justFall 114 = .ok (.bipush 100, 2) := by decide +kernel
theorem dX11_justFall_116 : decode cX11_justFall 116 = .ok (.iload 6, 2) := by decide +kernel
theorem dX11_justFall_118 : decode cX11_justFall 118 = .ok (.isub, 1) := by decide +kernel
theorem dX11_justFall_119 : decode cX11_justFall 119 = .ok (.i2l, 1) := by decide +kernel
theorem dX11_justFall_120 : decode cX11_justFall 120 = .ok (.lmul, 1) := by decide +kernel
theorem dX11_justFall_121 : decode cX11_justFall 121 = .ok (.lastore, 1) := by decide +kernel
theorem dX11_justFall_122 : decode cX11_justFall 122 = .ok (.iinc 5 1, 3) := by decide +kernel
theorem dX11_justFall_125 : decode cX11_justFall 125 = .ok (.goto (-107), 3) := by decide +kernel
theorem dX11_justFall_128 : decode cX11_justFall 128 = .ok (.iload_n 2, 1) := by decide +kernel
theorem dX11_justFall_129 : decode cX11_justFall 129 = .ok (.ifCond .lt 18, 3) := by decide +kernel
theorem dX11_justFall_132 : decode cX11_justFall 132 = .ok (.iload_n 2, 1) := by decide +kernel
theorem dX11_justFall_133 : decode cX11_justFall 133 = .ok (.bipush 6, 2) := by decide +kernel
theorem dX11_justFall_135 : decode cX11_justFall 135 = .ok (.if_icmp .gt 12, 3) := by decide +kernel
theorem dX11_justFall_138 : decode cX11_justFall 138 = .ok (.aload_n 0, 1) := by decide +kernel
theorem dX11_justFall_139 : decode cX11_justFall 139 = .ok (.getfield 84, 3) := by decide +kernel
theorem dX11_justFall_142 : decode cX11_justFall 142 = .ok (.iload_n 2, 1) := by decide +kernel
theorem dX11_justFall_143 : decode cX11_justFall 143 = .ok (.laload, 1) := by decide +kernel
theorem dX11_justFall_144 : decode cX11_justFall 144 = .ok (.goto 4, 3) := by decide +kernel
theorem dX11_justFall_147 : decode cX11_justFall 147 = .ok (.lconst 0, 1) := by decide +kernel
theorem dX11_justFall_148 : decode cX11_justFall 148 = .ok (.lreturn, 1) := by decide +kernel
theorem dX11_keep_0 : decode cX11_keep 0 = .ok (.aload_n 0, 1) := by decide +kernel
theorem dX11_keep_1 : decode cX11_keep 1 = .ok (.getfield 46, 3) := by decide +kernel
theorem dX11_keep_4 : decode cX11_keep 4 = .ok (.iload_n 1, 1) := by decide +kernel
theorem dX11_keep_5 : decode cX11_keep 5 = .ok (.aload_n 0, 1) := by decide +kernel
theorem dX11_keep_6 : decode cX11_keep 6 = .ok (.getfield 33, 3) := by decide +kernel
theorem dX11_keep_9 : decode cX11_keep 9 = .ok (.invokevirtual 441, 3) := by decide +kernel
theorem dX11_keep_12 : decode cX11_keep 12 = .ok (.ireturn, 1) := by decide +kernel
theorem dX11_again_0 : decode cX11_again 0 = .ok (.aload_n 0, 1) := by decide +kernel
theorem dX11_again_1 : decode cX11_again 1 = .ok (.getfield 46, 3) := by decide +kernel
theorem dX11_again_4 : decode cX11_again 4 = .ok (.iload_n 1, 1) := by decide +kernel
theorem dX11_again_5 : decode cX11_again 5 = .ok (.aload_n 0, 1) := by decide +kernel
theorem dX11_again_6 : decode cX11_again 6 = .ok (.getfield 33, 3) := by decide +kernel
theorem dX11_again_9 : decode cX11_again 9 = .ok (.invokevirtual 445, 3) := by decide +kernel
theorem dX11_again_12 : decode cX11_again 12 = .ok (.ifCond .ne 5, 3) := by decide +kernel
theorem dX11_again_15 : decode cX11_again 15 = .ok (.iconst 0, 1) := by decide +kernel
theorem dX11_again_16 : decode cX11_again 16 = .ok (.ireturn, 1) := by decide +kernel
theorem dX11_again_17 : decode cX11_again 17 = .ok (.aload_n 0, 1) := by decide +kernel
theorem dX11_again_18 : decode cX11_again 18 = .ok (.getfield 42, 3) := by decide +kernel
theorem dX11_again_21 : decode cX11_again 21 = .ok (.invokevirtual 111, 3) := by decide +kernel
theorem dX11_again_24 : decode cX11_again 24 = .ok (.iconst 1, 1) := by decide +kernel
theorem dX11_again_25 : decode cX11_again 25 = .ok (.ireturn, 1) := by decide +kernel
theorem dX11_count_0 : decode cX11_count 0 = .ok (.iload_n 1, 1) := by decide +kernel
theorem dX11_count_1 : decode cX11_count 1 = .ok (.tableswitch 123 0 8 #[51, 59, 67, 75, 83, 91, 99, 107, 115], 51) := by decide +kernel
theorem dX11_count_52 : decode cX11_count 52 = .ok (.aload_n 0, 1) := by decide +kernel
theorem dX11_count_53 : decode cX11_count 53 = .ok (.getfield 26, 3) := by decide +kernel
theorem dX11_count_56 : decode cX11_count 56 = .ok (.getfield 157, 3) := by decide +kernel
theorem dX11_count_59 : decode cX11_count 59 = .ok (.ireturn, 1) := by decide +kernel
theorem dX11_count_60 : decode cX11_count 60 = .ok (.aload_n 0, 1) := by decide +kernel
theorem dX11_count_61 : decode cX11_count 61 = .ok (.getfield 26, 3) := by decide +kernel
theorem dX11_count_64 : decode cX11_count 64 = .ok (.getfield 368, 3) := by decide +kernel
theorem dX11_count_67 : decode cX11_count 67 = .ok (.ireturn, 1) := by decide +kernel
theorem dX11_count_68 : decode cX11_count 68 = .ok (.aload_n 0, 1) := by decide +kernel
theorem dX11_count_69 : decode cX11_count 69 = .ok (.getfield 26, 3) := by decide +kernel
theorem dX11_count_72 : decode cX11_count 72 = .ok (.getfield 362, 3) := by decide +kernel
theorem dX11_count_75 : decode cX11_count 75 = .ok (.ireturn, 1) := by decide +kernel
theorem dX11_count_76 : decode cX11_count 76 = .ok (.aload_n 0, 1) := by decide +kernel
theorem dX11_count_77 : decode cX11_count 77 = .ok (.getfield 33, 3) := by decide +kernel
theorem dX11_count_80 : decode cX11_count 80 = .ok (.getfield 107, 3) := by decide +kernel
theorem dX11_count_83 : decode cX11_count 83 = .ok (.ireturn, 1) := by decide +kernel
theorem dX11_count_84 : decode cX11_count 84 = .ok (.aload_n 0, 1) := by decide +kernel
theorem dX11_count_85 : decode cX11_count 85 = .ok (.getfield 26, 3) := by decide +kernel
theorem dX11_count_88 : decode cX11_count 88 = .ok (.getfield 154, 3) := by decide +kernel
theorem dX11_count_91 : decode cX11_count 91 = .ok (.ireturn, 1) := by decide +kernel
theorem dX11_count_92 : decode cX11_count 92 = .ok (.aload_n 0, 1) := by decide +kernel
theorem dX11_count_93 : decode cX11_count 93 = .ok (.getfield 42, 3) := by decide +kernel
theorem dX11_count_96 : decode cX11_count 96 = .ok (.getfield 448, 3) := by decide +kernel
theorem dX11_count_99 : decode cX11_count 99 = .ok (.ireturn, 1) := by decide +kernel
theorem dX11_count_100 : decode cX11_count 100 = .ok (.aload_n 0, 1) := by decide +kernel
theorem dX11_count_101 : decode cX11_count 101 = .ok (.getfield 19, 3) := by decide +kernel
theorem dX11_count_104 : decode cX11_count 104 = .ok (.getfield 451, 3) := by decide +kernel
theorem dX11_count_107 : decode cX11_count 107 = .ok (.ireturn, 1) := by decide +kernel
theorem dX11_count_108 : decode cX11_count 108 = .ok (.aload_n 0, 1) := by decide +kernel
theorem dX11_count_109 : decode cX11_count 109 = .ok (.getfield 10, 3) := by decide +kernel
theorem dX11_count_112 : decode cX11_count 112 = .ok (.getfield 452, 3) := by decide +kernel
theorem dX11_count_115 : decode cX11_count 115 = .ok (.ireturn, 1) := by decide +kernel
theorem dX11_count_116 : decode cX11_count 116 = .ok (.aload_n 0, 1) := by decide +kernel
theorem dX11_count_117 : decode cX11_count 117 = .ok (.getfield 33, 3) := by decide +kernel
theorem dX11_count_120 : decode cX11_count 120 = .ok (.invokevirtual 453, 3) := by decide +kernel
theorem dX11_count_123 : decode cX11_count 123 = .ok (.ireturn, 1) := by decide +kernel
theorem dX11_count_124 : decode cX11_count 124 = .ok (.iconst (-1), 1) := by decide +kernel
theorem dX11_count_125 : decode cX11_count 125 = .ok (.ireturn, 1) := by decide +kernel
theorem dX11_row_0 : decode cX11_row 0 = .ok (.iload_n 1, 1) := by decide +kernel
theorem dX11_row_1 : decode cX11_row 1 = .ok (.ifCond .lt 14, 3) := by decide +kernel
theorem dX11_row_4 : decode cX11_row 4 = .ok (.iload_n 1, 1) := by decide +kernel
theorem dX11_row_5 : decode cX11_row 5 = .ok (.aload_n 0, 1) := by decide +kernel
theorem dX11_row_6 : decode cX11_row 6 = .ok (.getfield 19, 3) := by decide +kernel
theorem dX11_row_9 : decode cX11_row 9 = .ok (.getfield 451, 3) := by decide +kernel
theorem dX11_row_12 : decode cX11_row 12 = .ok (.if_icmp .lt 11, 3) := by decide +kernel
theorem dX11_row_15 : decode cX11_row 15 = .ok (.new 135, 3) := by decide +kernel
theorem dX11_row_18 : decode cX11_row 18 = .ok (.dup, 1) := by decide +kernel
theorem dX11_row_19 : decode cX11_row 19 = .ok (.invokespecial 137, 3) := by decide +kernel
theorem dX11_row_22 : decode cX11_row 22 = .ok (.athrow, 1) := by decide +kernel
theorem dX11_row_23 : decode cX11_row 23 = .ok (.aload_n 0, 1) := by decide +kernel
theorem dX11_row_24 : decode cX11_row 24 = .ok (.getfield 19, 3) := by decide +kernel
theorem dX11_row_27 : decode cX11_row 27 = .ok (.getfield 457, 3) := by decide +kernel
theorem dX11_row_30 : decode cX11_row 30 = .ok (.iload_n 1, 1) := by decide +kernel
theorem dX11_row_31 : decode cX11_row 31 = .ok (.laload, 1) := by decide +kernel
theorem dX11_row_32 : decode cX11_row 32 = .ok (.lreturn, 1) := by decide +kernel
