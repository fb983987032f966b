theorem dX3_weigh_85 : decode cX3_weigh 85 = .ok (.iload_n 3, 1) := by decide +kernel
theorem dX3_weigh_86 : decode cX3_weigh 86 = .ok (.imul, 1) := by decide +kernel
theorem dX3_weigh_87 : decode cX3_weigh 87 = .ok (.iconst 1, 1) := by decide +kernel
theorem dX3_weigh_88 : decode cX3_weigh 88 = .ok (.iadd, 1) := by decide +kernel
theorem dX3_weigh_89 : decode cX3_weigh 89 = .ok (.iastore, 1) := by decide +kernel
theorem dX3_weigh_90 : decode cX3_weigh 90 = .ok (.aload_n 0, 1) := by decide +kernel
theorem dX3_weigh_91 : decode cX3_weigh 91 = .ok (.aload_n 1, 1) := by decide +kernel
theorem dX3_weigh_92 : decode cX3_weigh 92 = .ok (.iload_n 2, 1) := by decide +kernel
theorem dX3_weigh_93 : decode cX3_weigh 93 = .ok (.iconst 1, 1) := by decide +kernel
theorem dX3_weigh_94 : decode cX3_weigh 94 = .ok (.iadd, 1) := by decide +kernel
theorem dX3_weigh_95 : decode cX3_weigh 95 = .ok (.invokevirtual 86, 3) := by decide +kernel
theorem dX3_weigh_98 : decode cX3_weigh 98 = .ok (.iconst 0, 1) := by decide +kernel
theorem dX3_weigh_99 : decode cX3_weigh 99 = .ok (.istore 7, 2) := by decide +kernel
theorem dX3_weigh_101 : decode cX3_weigh 101 = .ok (.iload 7, 2) := by decide +kernel
theorem dX3_weigh_103 : decode cX3_weigh 103 = .ok (.aload_n 0, 1) := by decide +kernel
theorem dX3_weigh_104 : decode cX3_weigh 104 = .ok (.getfield 43, 3) := by decide +kernel
theorem dX3_weigh_107 : decode cX3_weigh 107 = .ok (.if_icmp .ge 41, 3) := by decide +kernel
theorem dX3_weigh_110 : decode cX3_weigh 110 = .ok (.aload_n 0, 1) := by decide +kernel
theorem dX3_weigh_111 : decode cX3_weigh 111 = .ok (.getfield 34, 3) := by decide +kernel
theorem dX3_weigh_114 : decode cX3_weigh 114 = .ok (.iload 4, 2) := by decide +kernel
theorem dX3_weigh_116 : decode cX3_weigh 116 = .ok (.iload 7, 2) := by decide +kernel
theorem dX3_weigh_118 : decode cX3_weigh 118 = .ok (.iadd, 1) := by decide +kernel
theorem dX3_weigh_119 : decode cX3_weigh 119 = .ok (.dup2, 1) := by decide +kernel
theorem dX3_weigh_120 : decode cX3_weigh 120 = .ok (.laload, 1) := by decide +kernel
theorem dX3_weigh_121 : decode cX3_weigh 121 = .ok (.ldc2_w 90, 3) := by decide +kernel
theorem dX3_weigh_124 : decode cX3_weigh 124 = .ok (.lload 5, 2) := by decide +kernel
theorem dX3_weigh_126 : decode cX3_weigh 126 = .ok (.lsub, 1) := by decide +kernel
theorem dX3_weigh_127 : decode cX3_weigh 127 = .ok (.aload_n 0, 1) := by decide +kernel
theorem dX3_weigh_128 : decode cX3_weigh 128 = .ok (.getfield 30, 3) := by decide +kernel
theorem dX3_weigh_131 : decode cX3_weigh 131 = .ok (.iload 4, 2) := by decide +kernel
theorem dX3_weigh_133 : decode cX3_weigh 133 = .ok (.iconst 3, 1) := by decide +kernel
theorem dX3_weigh_134 : decode cX3_weigh 134 = .ok (.iadd, 1) := by decide +kernel
theorem dX3_weigh_135 : decode cX3_weigh 135 = .ok (.iload 7, 2) := by decide +kernel
theorem dX3_weigh_137 : decode cX3_weigh 137 = .ok (.iadd, 1) := by decide +kernel
theorem dX3_weigh_138 : decode cX3_weigh 138 = .ok (.laload, 1) := by decide +kernel
theorem dX3_weigh_139 : decode cX3_weigh 139 = .ok (.lmul, 1) := by decide +kernel
theorem dX3_weigh_140 : decode cX3_weigh 140 = .ok (.ladd, 1) := by decide +kernel
theorem dX3_weigh_141 : decode cX3_weigh 141 = .ok (.lastore, 1) := by decide +kernel
theorem dX3_weigh_142 : decode cX3_weigh 142 = .ok (.iinc 7 1, 3) := by decide +kernel
theorem dX3_weigh_145 : decode cX3_weigh 145 = .ok (.goto (-44), 3) := by decide +kernel
theorem dX3_weigh_148 : decode cX3_weigh 148 = .ok (.return_, 1) := by decide +kernel
theorem dX3_pay_0 : decode cX3_pay 0 = .ok (.iconst 0, 1) := by decide +kernel
theorem dX3_pay_1 : decode cX3_pay 1 = .ok (.istore_n 2, 1) := by decide +kernel
theorem dX3_pay_2 : decode cX3_pay 2 = .ok (.iload_n 2, 1) := by decide +kernel
theorem dX3_pay_3 : decode cX3_pay 3 = .ok (.aload_n 0, 1) := by decide +kernel
theorem dX3_pay_4 : decode cX3_pay 4 = .ok (.getfield 43, 3) := by decide +kernel
theorem dX3_pay_7 : decode cX3_pay 7 = .ok (.if_icmp .ge 82, 3) := by decide +kernel
theorem dX3_pay_10 : decode cX3_pay 10 = .ok (.aload_n 0, 1) := by decide +kernel
theorem dX3_pay_11 : decode cX3_pay 11 = .ok (.getfield 21, 3) := by decide +kernel
theorem dX3_pay_14 : decode cX3_pay 14 = .ok (.aload_n 0, 1) := by decide +kernel
theorem dX3_pay_15 : decode cX3_pay 15 = .ok (.getfield 27, 3) := by decide +kernel
theorem dX3_pay_18 : decode cX3_pay 18 = .ok (.iload_n 2, 1) := by decide +kernel
theorem dX3_pay_19 : decode cX3_pay 19 = .ok (.iaload, 1) := by decide +kernel
theorem dX3_pay_20 : decode cX3_pay 20 = .ok (.iaload, 1) := by decide +kernel
theorem dX3_pay_21 : decode cX3_pay 21 = .ok (.istore_n 3, 1) := by decide +kernel
theorem dX3_pay_22 : decode cX3_pay 22 = .ok (.iconst 0, 1) := by decide +kernel
theorem dX3_pay_23 : decode cX3_pay 23 = .ok (.istore 4, 2) := by decide +kernel
theorem dX3_pay_25 : decode cX3_pay 25 = .ok (.iload 4, 2) := by decide +kernel
theorem dX3_pay_27 : decode cX3_pay 27 = .ok (.aload_n 0, 1) := by decide +kernel
theorem dX3_pay_28 : decode cX3_pay 28 = .ok (.getfield 43, 3) := by decide +kernel
theorem dX3_pay_31 : decode cX3_pay 31 = .ok (.if_icmp .ge 33, 3) := by decide +kernel
theorem dX3_pay_34 : decode cX3_pay 34 = .ok (.iload_n 3, 1) := by decide +kernel
theorem dX3_pay_35 : decode cX3_pay 35 = .ok (.iload 4, 2) := by decide +kernel
theorem dX3_pay_37 : decode cX3_pay 37 = .ok (.iload_n 2, 1) := by decide +kernel
theorem dX3_pay_38 : decode cX3_pay 38 = .ok (.if_icmp .eq 17, 3) := by decide +kernel
theorem dX3_pay_41 : decode cX3_pay 41 = .ok (.aload_n 0, 1) := by decide +kernel
theorem dX3_pay_42 : decode cX3_pay 42 = .ok (.iload 4, 2) := by decide +kernel
theorem dX3_pay_44 : decode cX3_pay 44 = .ok (.iload_n 2, 1) := by decide +kernel
theorem dX3_pay_45 : decode cX3_pay 45 = .ok (.invokevirtual 109, 3) := by decide +kernel
theorem dX3_pay_48 : decode cX3_pay 48 = .ok (.ifCond .eq 7, 3) := by decide +kernel
theorem dX3_pay_51 : decode cX3_pay 51 = .ok (.iconst 1, 1) := by decide +kernel
theorem dX3_pay_52 : decode cX3_pay 52 = .ok (.goto 4, 3) := by decide +kernel
theorem dX3_pay_55 : decode cX3_pay 55 = .ok (.iconst 0, 1) := by decide +kernel
theorem dX3_pay_56 : decode cX3_pay 56 = .ok (.iadd, 1) := by decide +kernel
theorem dX3_pay_57 : decode cX3_pay 57 = .ok (.istore_n 3, 1) := by decide +kernel
theorem dX3_pay_58 : decode cX3_pay 58 = .ok (.iinc 4 1, 3) := by decide +kernel
theorem dX3_pay_61 : decode cX3_pay 61 = .ok (.goto (-36), 3) := by decide +kernel
theorem dX3_pay_64 : decode cX3_pay 64 = .ok (.aload_n 0, 1) := by decide +kernel
theorem dX3_pay_65 : decode cX3_pay 65 = .ok (.getfield 30, 3) := by decide +kernel
theorem dX3_pay_68 : decode cX3_pay 68 = .ok (.aload_n 0, 1) := by decide +kernel
theorem dX3_pay_69 : decode cX3_pay 69 = .ok (.getfield 43, 3) := by decide +kernel
theorem dX3_pay_72 : decode cX3_pay 72 = .ok (.iconst 3, 1) := by decide +kernel
theorem dX3_pay_73 : decode cX3_pay 73 = .ok (.imul, 1) := by decide +kernel
theorem dX3_pay_74 : decode cX3_pay 74 = .ok (.iload_n 2, 1) := by decide +kernel
theorem dX3_pay_75 : decode cX3_pay 75 = .ok (.iadd, 1) := by decide +kernel
theorem dX3_pay_76 : decode cX3_pay 76 = .ok (.aload_n 1, 1) := by decide +kernel
theorem dX3_pay_77 : decode cX3_pay 77 = .ok (.iload_n 3, 1) := by decide +kernel
theorem dX3_pay_78 : decode cX3_pay 78 = .ok (.invokevirtual 113, 3) := by decide +kernel
theorem dX3_pay_81 : decode cX3_pay 81 = .ok (.i2l, 1) := by decide +kernel
theorem dX3_pay_82 : decode cX3_pay 82 = .ok (.lastore, 1) := by decide +kernel
theorem dX3_pay_83 : decode cX3_pay 83 = .ok (.iinc 2 1, 3) := by decide +kernel
theorem dX3_pay_86 : decode cX3_pay 86 = .ok (.goto (-84), 3) := by decide +kernel
theorem dX3_pay_89 : decode cX3_pay 89 = .ok (.return_, 1) := by decide +kernel
theorem dX3_isAhead_0 : decode cX3_isAhead 0 = .ok (.aload_n 0, 1) := by decide +kernel
theorem dX3_isAhead_1 : decode cX3_isAhead 1 = .ok (.getfield 27, 3) := by decide +kernel
theorem dX3_isAhead_4 : decode cX3_isAhead 4 = .ok (.iload_n 1, 1) := by decide +kernel
theorem dX3_isAhead_5 : decode cX3_isAhead 5 = .ok (.iaload, 1) := by decide +kernel
theorem dX3_isAhead_6 : decode cX3_isAhead 6 = .ok (.istore_n 3, 1) := by decide +kernel
theorem dX3_isAhead_7 : decode cX3_isAhead 7 = .ok (.aload_n 0, 1) := by decide +kernel
theorem dX3_isAhead_8 : decode cX3_isAhead 8 = .ok (.getfield 27, 3) := by decide +kernel
theorem dX3_isAhead_11 : decode cX3_isAhead 11 = .ok (.iload_n 2, 1) := by decide +kernel
theorem dX3_isAhead_12 : decode cX3_isAhead 12 = .ok (.iaload, 1) := by decide +kernel
theorem dX3_isAhead_13 : decode cX3_isAhead 13 = .ok (.istore 4, 2) := by decide +kernel
theorem dX3_isAhead_15 : decode cX3_isAhead 15 = .ok (.aload_n 0, 1) := by decide +kernel
theorem dX3_isAhead_16 : decode cX3_isAhead 16 = .ok (.getfield 15, 3) := by decide +kernel
theorem dX3_isAhead_19 : decode cX3_isAhead 19 = .ok (.iload_n 3, 1) := by decide +kernel
theorem dX3_isAhead_20 : decode cX3_isAhead 20 = .ok (.iaload, 1) := by decide +kernel
theorem dX3_isAhead_21 : decode cX3_isAhead 21 = .ok (.aload_n 0, 1) := by decide +kernel
theorem dX3_isAhead_22 : decode cX3_isAhead 22 = .ok (.getfield 15, 3) := by decide +kernel
theorem dX3_isAhead_25 : decode cX3_isAhead 25 = .ok (.iload 4, 2) := by decide +kernel
theorem dX3_isAhead_27 : decode cX3_isAhead 27 = .ok (.iaload, 1) := by decide +kernel
theorem dX3_isAhead_28 : decode cX3_isAhead 28 = .ok (.if_icmp .eq 25, 3) := by decide +kernel
theorem dX3_isAhead_31 : decode cX3_isAhead 31 = .ok (.aload_n 0, 1) := by decide +kernel
theorem dX3_isAhead_32 : decode cX3_isAhead 32 = .ok (.getfield 15, 3) := by decide +kernel
theorem dX3_isAhead_35 : decode cX3_isAhead 35 = .ok (.iload_n 3, 1) := by decide +kernel
theorem dX3_isAhead_36 : decode cX3_isAhead 36 = .ok (.iaload, 1) := by decide +kernel
theorem dX3_isAhead_37 : decode cX3_isAhead 37 = .ok (.aload_n 0, 1) := by decide +kernel
theorem dX3_isAhead_38 : decode cX3_isAhead 38 = .ok (.getfield 15, 3) := by decide +kernel
theorem dX3_isAhead_41 : decode cX3_isAhead 41 = .ok (.iload 4, 2) := by decide +kernel
theorem dX3_isAhead_43 : decode cX3_isAhead 43 = .ok (.iaload, 1) := by decide +kernel
theorem dX3_isAhead_44 : decode cX3_isAhead 44 = .ok (.if_icmp .ge 7, 3) := by decide +kernel
theorem dX3_isAhead_47 : decode cX3_isAhead 47 = .ok (.iconst 1, 1) := by decide +kernel
theorem dX3_isAhead_48 : decode cX3_isAhead 48 = .ok (.goto 4, 3) := by decide +kernel
theorem dX3_isAhead_51 : decode cX3_isAhead 51 = .ok (.iconst 0, 1) := by decide +kernel
theorem dX3_isAhead_52 : decode cX3_isAhead 52 = .ok (.ireturn, 1) := by decide +kernel
theorem dX3_isAhead_53 : decode cX3_isAhead 53 = .ok (.aload_n 0, 1) := by decide +kernel
theorem dX3_isAhead_54 : decode cX3_isAhead 54 = .ok (.getfield 18, 3) := by decide +kernel
theorem dX3_isAhead_57 : decode cX3_isAhead 57 = .ok (.iload_n 3, 1) := by decide +kernel
theorem dX3_isAhead_58 : decode cX3_isAhead 58 = .ok (.iaload, 1) := by decide +kernel
theorem dX3_isAhead_59 : decode cX3_isAhead 59 = .ok (.aload_n 0, 1) := by decide +kernel
theorem dX3_isAhead_60 : decode cX3_isAhead 60 = .ok (.getfield 18, 3) := by decide +kernel
theorem dX3_isAhead_63 : decode cX3_isAhead 63 = .ok (.iload 4, 2) := by decide +kernel
theorem dX3_isAhead_65 : decode cX3_isAhead 65 = .ok (.iaload, 1) := by decide +kernel
theorem dX3_isAhead_66 : decode cX3_isAhead 66 = .ok (.if_icmp .lt 24, 3) := by decide +kernel
theorem dX3_isAhead_69 : decode cX3_isAhead 69 = .ok (.aload_n 0, 1) := by decide +kernel
theorem dX3_isAhead_70 : decode cX3_isAhead 70 = .ok (.getfield 18, 3) := by decide +kernel
theorem dX3_isAhead_73 : decode cX3_isAhead 73 = .ok (.iload_n 3, 1) := by decide +kernel
theorem dX3_isAhead_74 : decode cX3_isAhead 74 = .ok (.iaload, 1) := by decide +kernel
theorem dX3_isAhead_75 : decode cX3_isAhead 75 = .ok (.aload_n 0, 1) := by decide +kernel
theorem dX3_isAhead_76 : decode cX3_isAhead 76 = .ok (.getfield 18, 3) := by decide +kernel
theorem dX3_isAhead_79 : decode cX3_isAhead 79 = .ok (.iload 4, 2) := by decide +kernel
theorem dX3_isAhead_81 : decode cX3_isAhead 81 = .ok (.iaload, 1) := by decide +kernel
theorem dX3_isAhead_82 : decode cX3_isAhead 82 = .ok (.if_icmp .ne 12, 3) := by decide +kernel
theorem dX3_isAhead_85 : decode cX3_isAhead 85 = .ok (.iload_n 1, 1) := by decide +kernel
theorem dX3_isAhead_86 : decode cX3_isAhead 86 = .ok (.iload_n 2, 1) := by decide +kernel
theorem dX3_isAhead_87 : decode cX3_isAhead 87 = .ok (.if_icmp .ge 7, 3) := by decide +kernel
theorem dX3_isAhead_90 : decode cX3_isAhead 90 = .ok (.iconst 1, 1) := by decide +kernel
theorem dX3_isAhead_91 : decode cX3_isAhead 91 = .ok (.goto 4, 3) := by decide +kernel
theorem dX3_isAhead_94 : decode cX3_isAhead 94 = .ok (.iconst 0, 1) := by decide +kernel
theorem dX3_isAhead_95 : decode cX3_isAhead 95 = .ok (.ireturn, 1) := by decide +kernel
theorem dX4_init_0 : decode cX4_init 0 = .ok (.aload_n 0, 1) := by decide +kernel
theorem dX4_init_1 : decode cX4_init 1 = .ok (.invokespecial 5, 3) := by decide +kernel
theorem dX4_init_4 : decode cX4_init 4 = .ok (.aload_n 0, 1) := by decide +kernel
theorem dX4_init_5 : decode cX4_init 5 = .ok (.bipush 64, 2) := by decide +kernel
theorem dX4_init_7 : decode cX4_init 7 = .ok (.newarray .int, 2) := by decide +kernel
theorem dX4_init_9 : decode cX4_init 9 = .ok (.putfield 11, 3) := by decide +kernel
theorem dX4_init_12 : decode cX4_init 12 = .ok (.aload_n 0, 1) := by decide +kernel
theorem dX4_init_13 : decode cX4_init 13 = .ok (.bipush 64, 2) := by decide +kernel
theorem dX4_init_15 : decode cX4_init 15 = .ok (.newarray .int, 2) := by decide +kernel
theorem dX4_init_17 : decode cX4_init 17 = .ok (.putfield 15, 3) := by decide +kernel
theorem dX4_init_20 : decode cX4_init 20 = .ok (.aload_n 0, 1) := by decide +kernel
theorem dX4_init_21 : decode cX4_init 21 = .ok (.sipush 5409, 3) := by decide +kernel
theorem dX4_init_24 : decode cX4_init 24 = .ok (.newarray .int, 2) := by decide +kernel
theorem dX4_init_26 : decode cX4_init 26 = .ok (.putfield 18, 3) := by decide +kernel
theorem dX4_init_29 : decode cX4_init 29 = .ok (.aload_n 0, 1) := by decide +kernel
theorem dX4_init_30 : decode cX4_init 30 = .ok (.bipush 9, 2) := by decide +kernel
theorem dX4_init_32 : decode cX4_init 32 = .ok (.newarray .int, 2) := by decide +kernel
theorem dX4_init_34 : decode cX4_init 34 = .ok (.putfield 21, 3) := by decide +kernel
theorem dX4_init_37 : decode cX4_init 37 = .ok (.return_, 1) := by decide +kernel
theorem dX4_from_0 : decode cX4_from 0 = .ok (.sipush 150, 3) := by decide +kernel
theorem dX4_from_3 : decode cX4_from 3 = .ok (.iload_n 0, 1) := by decide +kernel
theorem dX4_from_4 : decode cX4_from 4 = .ok (.imul, 1) := by decide +kernel
theorem dX4_from_5 : decode cX4_from 5 = .ok (.iload_n 0, 1) := by decide +kernel
theorem dX4_from_6 : decode cX4_from 6 = .ok (.iconst 1, 1) := by decide +kernel
theorem dX4_from_7 : decode cX4_from 7 = .ok (.isub, 1) := by decide +kernel
theorem dX4_from_8 : decode cX4_from 8 = .ok (.imul, 1) := by decide +kernel
theorem dX4_from_9 : decode cX4_from 9 = .ok (.iconst 2, 1) := by decide +kernel
theorem dX4_from_10 : decode cX4_from 10 = .ok (.idiv, 1) := by decide +kernel
theorem dX4_from_11 : decode cX4_from 11 = .ok (.iload_n 0, 1) := by decide +kernel
theorem dX4_from_12 : decode cX4_from 12 = .ok (.iadd, 1) := by decide +kernel
theorem dX4_from_13 : decode cX4_from 13 = .ok (.ireturn, 1) := by decide +kernel
theorem dX4_lay_0 : decode cX4_lay 0 = .ok (.aload_n 0, 1) := by decide +kernel
theorem dX4_lay_1 : decode cX4_lay 1 = .ok (.aload_n 1, 1) := by decide +kernel
theorem dX4_lay_2 : decode cX4_lay 2 = .ok (.getfield 24, 3) := by decide +kernel
theorem dX4_lay_5 : decode cX4_lay 5 = .ok (.putfield 30, 3) := by decide +kernel
theorem dX4_lay_8 : decode cX4_lay 8 = .ok (.iconst 0, 1) := by decide +kernel
theorem dX4_lay_9 : decode cX4_lay 9 = .ok (.istore_n 3, 1) := by decide +kernel
theorem dX4_lay_10 : decode cX4_lay 10 = .ok (.iload_n 3, 1) := by decide +kernel
theorem dX4_lay_11 : decode cX4_lay 11 = .ok (.aload_n 0, 1) := by decide +kernel
theorem dX4_lay_12 : decode cX4_lay 12 = .ok (.getfield 30, 3) := by decide +kernel
theorem dX4_lay_15 : decode cX4_lay 15 = .ok (.if_icmp .ge 75, 3) := by decide +kernel
theorem dX4_lay_18 : decode cX4_lay 18 = .ok (.aload_n 1, 1) := by decide +kernel
theorem dX4_lay_19 : decode cX4_lay 19 = .ok (.iload_n 2, 1) := by decide +kernel
theorem dX4_lay_20 : decode cX4_lay 20 = .ok (.iload_n 3, 1) := by decide +kernel
theorem dX4_lay_21 : decode cX4_lay 21 = .ok (.invokevirtual 31, 3) := by decide +kernel
theorem dX4_lay_24 : decode cX4_lay 24 = .ok (.istore 4, 2) := by decide +kernel
theorem dX4_lay_26 : decode cX4_lay 26 = .ok (.iconst 0, 1) := by decide +kernel
theorem dX4_lay_27 : decode cX4_lay 27 = .ok (.istore 5, 2) := by decide +kernel
theorem dX4_lay_29 : decode cX4_lay 29 = .ok (.iload 5, 2) := by decide +kernel
theorem dX4_lay_31 : decode cX4_lay 31 = .ok (.bipush 8, 2) := by decide +kernel
theorem dX4_lay_33 : decode cX4_lay 33 = .ok (.if_icmp .ge 51, 3) := by decide +kernel
theorem dX4_lay_36 : decode cX4_lay 36 = .ok (.aload_n 0, 1) := by decide +kernel
theorem dX4_lay_37 : decode cX4_lay 37 = .ok (.getfield 11, 3) := by decide +kernel
theorem dX4_lay_40 : decode cX4_lay 40 = .ok (.iload_n 3, 1) := by decide +kernel
theorem dX4_lay_41 : decode cX4_lay 41 = .ok (.bipush 8, 2) := by decide +kernel
theorem dX4_lay_43 : decode cX4_lay 43 = .ok (.imul, 1) := by decide +kernel
theorem dX4_lay_44 : decode cX4_lay 44 = .ok (.iload 5, 2) := by decide +kernel
theorem dX4_lay_46 : decode cX4_lay 46 = .ok (.iadd, 1) := by decide +kernel
theorem dX4_lay_47 : decode cX4_lay 47 = .ok (.aload_n 1, 1) := by decide +kernel
theorem dX4_lay_48 : decode cX4_lay 48 = .ok (.iload_n 2, 1) := by decide +kernel
theorem dX4_lay_49 : decode cX4_lay 49 = .ok (.iload_n 3, 1) := by decide +kernel
theorem dX4_lay_50 : decode cX4_lay 50 = .ok (.iload 5, 2) := by decide +kernel
theorem dX4_lay_52 : decode cX4_lay 52 = .ok (.invokevirtual 35, 3) := by decide +kernel
theorem dX4_lay_55 : decode cX4_lay 55 = .ok (.iload 4, 2) := by decide +kernel
theorem dX4_lay_57 : decode cX4_lay 57 = .ok (.iadd, 1) := by decide +kernel
theorem dX4_lay_58 : decode cX4_lay 58 = .ok (.iastore, 1) := by decide +kernel
theorem dX4_lay_59 : decode cX4_lay 59 = .ok (.aload_n 0, 1) := by decide +kernel
theorem dX4_lay_60 : decode cX4_lay 60 = .ok (.getfield 15, 3) := by decide +kernel
theorem dX4_lay_63 : decode cX4_lay 63 = .ok (.iload_n 3, 1) := by decide +kernel
theorem dX4_lay_64 : decode cX4_lay 64 = .ok (.bipush 8, 2) := by decide +kernel
theorem dX4_lay_66 : decode cX4_lay 66 = .ok (.imul, 1) := by decide +kernel
theorem dX4_lay_67 : decode cX4_lay 67 = .ok (.iload 5, 2) := by decide +kernel
theorem dX4_lay_69 : decode cX4_lay 69 = .ok (.iadd, 1) := by decide +kernel
theorem dX4_lay_70 : decode cX4_lay 70 = .ok (.aload_n 1, 1) := by decide +kernel
theorem dX4_lay_71 : decode cX4_lay 71 = .ok (.iload_n 3, 1) := by decide +kernel
theorem dX4_lay_72 : decode cX4_lay 72 = .ok (.iload 5, 2) := by decide +kernel
theorem dX4_lay_74 : decode cX4_lay 74 = .ok (.invokevirtual 39, 3) := by decide +kernel
theorem dX4_lay_77 : decode cX4_lay 77 = .ok (.iastore, 1) := by decide +kernel
theorem dX4_lay_78 : decode cX4_lay 78 = .ok (.iinc 5 1, 3) := by decide +kernel
theorem dX4_lay_81 : decode cX4_lay 81 = .ok (.goto (-52), 3) := by decide +kernel
theorem dX4_lay_84 : decode cX4_lay 84 = .ok (.iinc 3 1, 3) := by decide +kernel
theorem dX4_lay_87 : decode cX4_lay 87 = .ok (.goto (-77), 3) := by decide +kernel
theorem dX4_lay_90 : decode cX4_lay 90 = .ok (.aload_n 0, 1) := by decide +kernel
theorem dX4_lay_91 : decode cX4_lay 91 = .ok (.getfield 21, 3) := by decide +kernel
theorem dX4_lay_94 : decode cX4_lay 94 = .ok (.iconst 0, 1) := by decide +kernel
theorem dX4_lay_95 : decode cX4_lay 95 = .ok (.iconst 0, 1) := by decide +kernel
theorem dX4_lay_96 : decode cX4_lay 96 = .ok (.iastore, 1) := by decide +kernel
theorem dX4_lay_97 : decode cX4_lay 97 = .ok (.aload_n 0, 1) := by decide +kernel
theorem dX4_lay_98 : decode cX4_lay 98 = .ok (.getfield 18, 3) := by decide +kernel
theorem dX4_lay_101 : decode cX4_lay 101 = .ok (.iconst 0, 1) := by decide +kernel
theorem dX4_lay_102 : decode cX4_lay 102 = .ok (.invokestatic 42, 3) := by decide +kernel
theorem dX4_lay_105 : decode cX4_lay 105 = .ok (.iconst 0, 1) := by decide +kernel
theorem dX4_lay_106 : decode cX4_lay 106 = .ok (.iastore, 1) := by decide +kernel
theorem dX4_lay_107 : decode cX4_lay 107 = .ok (.iconst 1, 1) := by decide +kernel
theorem dX4_lay_108 : decode cX4_lay 108 = .ok (.istore_n 3, 1) := by decide +kernel
theorem dX4_lay_109 : decode cX4_lay 109 = .ok (.iload_n 3, 1) := by decide +kernel
theorem dX4_lay_110 : decode cX4_lay 110 = .ok (.aload_n 0, 1) := by decide +kernel
theorem dX4_lay_111 : decode cX4_lay 111 = .ok (.getfield 30, 3) := by decide +kernel
theorem dX4_lay_114 : decode cX4_lay 114 = .ok (.if_icmp .gt 14, 3) := by decide +kernel
theorem dX4_lay_117 : decode cX4_lay 117 = .ok (.aload_n 0, 1) := by decide +kernel
theorem dX4_lay_118 : decode cX4_lay 118 = .ok (.iload_n 3, 1) := by decide +kernel
theorem dX4_lay_119 : decode cX4_lay 119 = .ok (.invokevirtual 46, 3) := by decide +kernel
theorem dX4_lay_122 : decode cX4_lay 122 = .ok (.iinc 3 1, 3) := by decide +kernel
theorem dX4_lay_125 : decode cX4_lay 125 = .ok (.goto (-16), 3) := by decide +kernel
theorem dX4_lay_128 : decode cX4_lay 128 = .ok (.return_, 1) := by decide +kernel
theorem dX4_layBehind_0 : decode cX4_layBehind 0 = .ok (.aload_n 0, 1) := by decide +kernel
theorem dX4_layBehind_1 : decode cX4_layBehind 1 = .ok (.getfield 30, 3) := by decide +kernel
theorem dX4_layBehind_4 : decode cX4_layBehind 4 = .ok (.iload_n 1, 1) := by decide +kernel
theorem dX4_layBehind_5 : decode cX4_layBehind 5 = .ok (.isub, 1) := by decide +kernel
theorem dX4_layBehind_6 : decode cX4_layBehind 6 = .ok (.bipush 8, 2) := by decide +kernel
theorem dX4_layBehind_8 : decode cX4_layBehind 8 = .ok (.imul, 1) := by decide +kernel
theorem dX4_layBehind_9 : decode cX4_layBehind 9 = .ok (.istore_n 2, 1) := by decide +kernel
theorem dX4_layBehind_10 : decode cX4_layBehind 10 = .ok (.iconst 0, 1) := by decide +kernel
theorem dX4_layBehind_11 : decode cX4_layBehind 11 = .ok (.istore_n 3, 1) := by decide +kernel
theorem dX4_layBehind_12 : decode cX4_layBehind 12 = .ok (.iconst 0, 1) := by decide +kernel
theorem dX4_layBehind_13 : decode cX4_layBehind 13 = .ok (.istore 4, 2) := by decide +kernel
theorem dX4_layBehind_15 : decode cX4_layBehind 15 = .ok (.iload 4, 2) := by decide +kernel
theorem dX4_layBehind_17 : decode cX4_layBehind 17 = .ok (.bipush 8, 2) := by decide +kernel
theorem dX4_layBehind_19 : decode cX4_layBehind 19 = .ok (.if_icmp .ge 23, 3) := by decide +kernel
theorem dX4_layBehind_22 : decode cX4_layBehind 22 = .ok (.iload_n 3, 1) := by decide +kernel
theorem dX4_layBehind_23 : decode cX4_layBehind 23 = .ok (.aload_n 0, 1) := by decide +kernel
theorem dX4_layBehind_24 : decode cX4_layBehind 24 = .ok (.getfield 15, 3) := by decide +kernel
theorem dX4_layBehind_27 : decode cX4_layBehind 27 = .ok (.iload_n 2, 1) := by decide +kernel
theorem dX4_layBehind_28 : decode cX4_layBehind 28 = .ok (.iload 4, 2) := by decide +kernel
theorem dX4_layBehind_30 : decode cX4_layBehind 30 = .ok (.iadd, 1) := by decide +kernel
theorem dX4_layBehind_31 : decode cX4_layBehind 31 = .ok (.iaload, 1) := by decide +kernel
theorem dX4_layBehind_32 : decode cX4_layBehind 32 = .ok (.invokestatic 50, 3) := by decide +kernel
theorem dX4_layBehind_35 : decode cX4_layBehind 35 = .ok (.istore_n 3, 1) := by decide +kernel
theorem dX4_layBehind_36 : decode cX4_layBehind 36 = .ok (.iinc 4 1, 3) := by decide +kernel
theorem dX4_layBehind_39 : decode cX4_layBehind 39 = .ok (.goto (-24), 3) := by decide +kernel
theorem dX4_layBehind_42 : decode cX4_layBehind 42 = .ok (.aload_n 0, 1) := by decide +kernel
theorem dX4_layBehind_43 : decode cX4_layBehind 43 = .ok (.getfield 21, 3) := by decide +kernel
theorem dX4_layBehind_46 : decode cX4_layBehind 46 = .ok (.iload_n 1, 1) := by decide +kernel
theorem dX4_layBehind_47 : decode cX4_layBehind 47 = .ok (.aload_n 0, 1) := by decide +kernel
theorem dX4_layBehind_48 : decode cX4_layBehind 48 = .ok (.getfield 21, 3) := by decide +kernel
theorem dX4_layBehind_51 : decode cX4_layBehind 51 = .ok (.iload_n 1, 1) := by decide +kernel
theorem dX4_layBehind_52 : decode cX4_layBehind 52 = .ok (.iconst 1, 1) := by decide +kernel
theorem dX4_layBehind_53 : decode cX4_layBehind 53 = .ok (.isub, 1) := by decide +kernel
theorem dX4_layBehind_54 : decode cX4_layBehind 54 = .ok (.iaload, 1) := by decide +kernel
theorem dX4_layBehind_55 : decode cX4_layBehind 55 = .ok (.iload_n 3, 1) := by decide +kernel
theorem dX4_layBehind_56 : decode cX4_layBehind 56 = .ok (.iadd, 1) := by decide +kernel
theorem dX4_layBehind_57 : decode cX4_layBehind 57 = .ok (.iastore, 1) := by decide +kernel
theorem dX4_layBehind_58 : decode cX4_layBehind 58 = .ok (.iload_n 1, 1) := by decide +kernel
theorem dX4_layBehind_59 : decode cX4_layBehind 59 = .ok (.invokestatic 42, 3) := by decide +kernel
theorem dX4_layBehind_62 : decode cX4_layBehind 62 = .ok (.istore 4, 2) := by decide +kernel
theorem dX4_layBehind_64 : decode cX4_layBehind 64 = .ok (.iconst 0, 1) := by decide +kernel
theorem dX4_layBehind_65 : decode cX4_layBehind 65 = .ok (.istore 5, 2) := by decide +kernel
theorem dX4_layBehind_67 : decode cX4_layBehind 67 = .ok (.iload 5, 2) := by decide +kernel
theorem dX4_layBehind_69 : decode cX4_layBehind 69 = .ok (.aload_n 0, 1) := by decide +kernel
theorem dX4_layBehind_70 : decode cX4_layBehind 70 = .ok (.getfield 21, 3) := by decide +kernel
theorem dX4_layBehind_73 : decode cX4_layBehind 73 = .ok (.iload_n 1, 1) := by decide +kernel
theorem dX4_layBehind_74 : decode cX4_layBehind 74 = .ok (.iaload, 1) := by decide +kernel
theorem dX4_layBehind_75 : decode cX4_layBehind 75 = .ok (.if_icmp .gt 20, 3) := by decide +kernel
theorem dX4_layBehind_78 : decode cX4_layBehind 78 = .ok (.aload_n 0, 1) := by decide +kernel
theorem dX4_layBehind_79 : decode cX4_layBehind 79 = .ok (.getfield 18, 3) := by decide +kernel
theorem dX4_layBehind_82 : decode cX4_layBehind 82 = .ok (.iload 4, 2) := by decide +kernel
theorem dX4_layBehind_84 : decode cX4_layBehind 84 = .ok (.iload 5, 2) := by decide +kernel
theorem dX4_layBehind_86 : decode cX4_layBehind 86 = .ok (.iadd, 1) := by decide +kernel
theorem dX4_layBehind_87 : decode cX4_layBehind 87 = .ok (.iconst (-1), 1) := by decide +kernel
theorem dX4_layBehind_88 : decode cX4_layBehind 88 = .ok (.iastore, 1) := by decide +kernel
theorem dX4_layBehind_89 : decode cX4_layBehind 89 = .ok (.iinc 5 1, 3) := by decide +kernel
theorem dX4_layBehind_92 : decode cX4_layBehind 92 = .ok (.goto (-25), 3) := by decide +kernel
theorem dX4_layBehind_95 : decode cX4_layBehind 95 = .ok (.iconst 0, 1) := by decide +kernel
theorem dX4_layBehind_96 : decode cX4_layBehind 96 = .ok (.istore 5, 2) := by decide +kernel
theorem dX4_layBehind_98 : decode cX4_layBehind 98 = .ok (.iload 5, 2) := by decide +kernel
theorem dX4_layBehind_100 : decode cX4_layBehind 100 = .ok (.aload_n 0, 1) := by decide +kernel
theorem dX4_layBehind_101 : decode cX4_layBehind 101 = .ok (.getfield 21, 3) := by decide +kernel
theorem dX4_layBehind_104 : decode cX4_layBehind 104 = .ok (.iload_n 1, 1) := by decide +kernel
theorem dX4_layBehind_105 : decode cX4_layBehind 105 = .ok (.iconst 1, 1) := by decide +kernel
theorem dX4_layBehind_106 : decode cX4_layBehind 106 = .ok (.isub, 1) := by decide +kernel
theorem dX4_layBehind_107 : decode cX4_layBehind 107 = .ok (.iaload, 1) := by decide +kernel
theorem dX4_layBehind_108 : decode cX4_layBehind 108 = .ok (.if_icmp .gt 110, 3) := by decide +kernel
theorem dX4_layBehind_111 : decode cX4_layBehind 111 = .ok (.aload_n 0, 1) := by decide +kernel
theorem dX4_layBehind_112 : decode cX4_layBehind 112 = .ok (.getfield 18, 3) := by decide +kernel
theorem dX4_layBehind_115 : decode cX4_layBehind 115 = .ok (.iload_n 1, 1) := by decide +kernel
theorem dX4_layBehind_116 : decode cX4_layBehind 116 = .ok (.iconst 1, 1) := by decide +kernel
theorem dX4_layBehind_117 : decode cX4_layBehind 117 = .ok (.isub, 1) := by decide +kernel
theorem dX4_layBehind_118 : decode cX4_layBehind 118 = .ok (.invokestatic 42, 3) := by decide +kernel
theorem dX4_layBehind_121 : decode cX4_layBehind 121 = .ok (.iload 5, 2) := by decide +kernel
theorem dX4_layBehind_123 : decode cX4_layBehind 123 = .ok (.iadd, 1) := by decide +kernel
theorem dX4_layBehind_124 : decode cX4_layBehind 124 = .ok (.iaload, 1) := by decide +kernel
theorem dX4_layBehind_125 : decode cX4_layBehind 125 = .ok (.istore 6, 2) := by decide +kernel
theorem dX4_layBehind_127 : decode cX4_layBehind 127 = .ok (.iconst 0, 1) := by decide +kernel
theorem dX4_layBehind_128 : decode cX4_layBehind 128 = .ok (.istore 7, 2) := by decide +kernel
theorem dX4_layBehind_130 : decode cX4_layBehind 130 = .ok (.iload 7, 2) := by decide +kernel
theorem dX4_layBehind_132 : decode cX4_layBehind 132 = .ok (.bipush 8, 2) := by decide +kernel
theorem dX4_layBehind_134 : decode cX4_layBehind 134 = .ok (.if_icmp .ge 78, 3) := by decide +kernel
theorem dX4_layBehind_137 : decode cX4_layBehind 137 = .ok (.iload 6, 2) := by decide +kernel
theorem dX4_layBehind_139 : decode cX4_layBehind 139 = .ok (.iconst (-1), 1) := by decide +kernel
theorem dX4_layBehind_140 : decode cX4_layBehind 140 = .ok (.if_icmp .eq 72, 3) := by decide +kernel
theorem dX4_layBehind_143 : decode cX4_layBehind 143 = .ok (.iload 4, 2) := by decide +kernel
theorem dX4_layBehind_145 : decode cX4_layBehind 145 = .ok (.iload 5, 2) := by decide +kernel
theorem dX4_layBehind_147 : decode cX4_layBehind 147 = .ok (.iadd, 1) := by decide +kernel
theorem dX4_layBehind_148 : decode cX4_layBehind 148 = .ok (.aload_n 0, 1) := by decide +kernel
theorem dX4_layBehind_149 : decode cX4_layBehind 149 = .ok (.getfield 15, 3) := by decide +kernel
theorem dX4_layBehind_152 : decode cX4_layBehind 152 = .ok (.iload_n 2, 1) := by decide +kernel
theorem dX4_layBehind_153 : decode cX4_layBehind 153 = .ok (.iload 7, 2) := by decide +kernel
theorem dX4_layBehind_155 : decode cX4_layBehind 155 = .ok (.iadd, 1) := by decide +kernel
theorem dX4_layBehind_156 : decode cX4_layBehind 156 = .ok (.iaload, 1) := by decide +kernel
theorem dX4_layBehind_157 : decode cX4_layBehind 157 = .ok (.iadd, 1) := by decide +kernel
theorem dX4_layBehind_158 : decode cX4_layBehind 158 = .ok (.istore 8, 2) := by decide +kernel
theorem dX4_layBehind_160 : decode cX4_layBehind 160 = .ok (.iload 6, 2) := by decide +kernel
theorem dX4_layBehind_162 : decode cX4_layBehind 162 = .ok (.aload_n 0, 1) := by decide +kernel
theorem dX4_layBehind_163 : decode cX4_layBehind 163 = .ok (.getfield 11, 3) := by decide +kernel
theorem dX4_layBehind_166 : decode cX4_layBehind 166 = .ok (.iload_n 2, 1) := by decide +kernel
theorem dX4_layBehind_167 : decode cX4_layBehind 167 = .ok (.iload 7, 2) := by decide +kernel
theorem dX4_layBehind_169 : decode cX4_layBehind 169 = .ok (.iadd, 1) := by decide +kernel
theorem dX4_layBehind_170 : decode cX4_layBehind 170 = .ok (.iaload, 1) := by decide +kernel
theorem dX4_layBehind_171 : decode cX4_layBehind 171 = .ok (.iadd, 1) := by decide +kernel
theorem dX4_layBehind_172 : decode cX4_layBehind 172 = .ok (.istore 9, 2) := by decide +kernel
theorem dX4_layBehind_174 : decode cX4_layBehind 174 = .ok (.aload_n 0, 1) := by decide +kernel
theorem dX4_layBehind_175 : decode cX4_layBehind 175 = .ok (.getfield 18, 3) := by decide +kernel
theorem dX4_layBehind_178 : decode cX4_layBehind 178 = .ok (.iload 8, 2) := by decide +kernel
theorem dX4_layBehind_180 : decode cX4_layBehind 180 = .ok (.iaload, 1) := by decide +kernel
theorem dX4_layBehind_181 : decode cX4_layBehind 181 = .ok (.iconst (-1), 1) := by decide +kernel
theorem dX4_layBehind_182 : decode cX4_layBehind 182 = .ok (.if_icmp .eq 15, 3) := by decide +kernel
theorem dX4_layBehind_185 : decode cX4_layBehind 185 = .ok (.iload 9, 2) := by decide +kernel
theorem dX4_layBehind_187 : decode cX4_layBehind 187 = .ok (.aload_n 0, 1) := by decide +kernel
theorem dX4_layBehind_188 : decode cX4_layBehind 188 = .ok (.getfield 18, 3) := by decide +kernel
theorem dX4_layBehind_191 : decode cX4_layBehind 191 = .ok (.iload 8, 2) := by decide +kernel
theorem dX4_layBehind_193 : decode cX4_layBehind 193 = .ok (.iaload, 1) := by decide +kernel
theorem dX4_layBehind_194 : decode cX4_layBehind 194 = .ok (.if_icmp .ge 12, 3) := by decide +kernel
theorem dX4_layBehind_197 : decode cX4_layBehind 197 = .ok (.aload_n 0, 1) := by decide +kernel
theorem dX4_layBehind_198 : decode cX4_layBehind 198 = .ok (.getfield 18, 3) := by decide +kernel
theorem dX4_layBehind_201 : decode cX4_layBehind 201 = .ok (.iload 8, 2) := by decide +kernel
theorem dX4_layBehind_203 : decode cX4_layBehind 203 = .ok (.iload 9, 2) := by decide +kernel
theorem dX4_layBehind_205 : decode cX4_layBehind 205 = .ok (.iastore, 1) := by decide +kernel
theorem dX4_layBehind_206 : decode cX4_layBehind 206 = .ok (.iinc 7 1, 3) := by decide +kernel
theorem dX4_layBehind_209 : decode cX4_layBehind 209 = .ok (.goto (-79), 3) := by decide +kernel
theorem dX4_layBehind_212 : decode cX4_layBehind 212 = .ok (.iinc 5 1, 3) := by decide +kernel
theorem dX4_layBehind_215 : decode cX4_layBehind 215 = .ok (.goto (-117), 3) := by decide +kernel
theorem dX4_layBehind_218 : decode cX4_layBehind 218 = .ok (.return_, 1) := by decide +kernel
theorem dX4_fearWith_0 : decode cX4_fearWith 0 = .ok (.iload_n 1, 1) := by decide +kernel
theorem dX4_fearWith_1 : decode cX4_fearWith 1 = .ok (.ifCond .lt 33, 3) := by decide +kernel
theorem dX4_fearWith_4 : decode cX4_fearWith 4 = .ok (.iload_n 1, 1) := by decide +kernel
theorem dX4_fearWith_5 : decode cX4_fearWith 5 = .ok (.aload_n 0, 1) := by decide +kernel
theorem dX4_fearWith_6 : decode cX4_fearWith 6 = .ok (.getfield 21, 3) := by decide +kernel
theorem dX4_fearWith_9 : decode cX4_fearWith 9 = .ok (.aload_n 0, 1) := by decide +kernel
theorem dX4_fearWith_10 : decode cX4_fearWith 10 = .ok (.getfield 30, 3) := by decide +kernel
theorem dX4_fearWith_13 : decode cX4_fearWith 13 = .ok (.iaload, 1) := by decide +kernel
theorem dX4_fearWith_14 : decode cX4_fearWith 14 = .ok (.if_icmp .gt 20, 3) := by decide +kernel
theorem dX4_fearWith_17 : decode cX4_fearWith 17 = .ok (.aload_n 0, 1) := by decide +kernel
theorem dX4_fearWith_18 : decode cX4_fearWith 18 = .ok (.getfield 18, 3) := by decide +kernel
theorem dX4_fearWith_21 : decode cX4_fearWith 21 = .ok (.aload_n 0, 1) := by decide +kernel
theorem dX4_fearWith_22 : decode cX4_fearWith 22 = .ok (.getfield 30, 3) := by decide +kernel
theorem dX4_fearWith_25 : decode cX4_fearWith 25 = .ok (.invokestatic 42, 3) := by decide +kernel
theorem dX4_fearWith_28 : decode cX4_fearWith 28 = .ok (.iload_n 1, 1) := by decide +kernel
theorem dX4_fearWith_29 : decode cX4_fearWith 29 = .ok (.iadd, 1) := by decide +kernel
theorem dX4_fearWith_30 : decode cX4_fearWith 30 = .ok (.iaload, 1) := by decide +kernel
theorem dX4_fearWith_31 : decode cX4_fearWith 31 = .ok (.goto 4, 3) := by decide +kernel
theorem dX4_fearWith_34 : decode cX4_fearWith 34 = .ok (.iconst (-1), 1) := by decide +kernel
theorem dX4_fearWith_35 : decode cX4_fearWith 35 = .ok (.ireturn, 1) := by decide +kernel
theorem dX4_calmestTenths_0 : decode cX4_calmestTenths 0 = .ok (.iconst (-1), 1) := by decide +kernel
theorem dX4_calmestTenths_1 : decode cX4_calmestTenths 1 = .ok (.istore_n 2, 1) := by decide +kernel
theorem dX4_calmestTenths_2 : decode cX4_calmestTenths 2 = .ok (.iconst 0, 1) := by decide +kernel
theorem dX4_calmestTenths_3 : decode cX4_calmestTenths 3 = .ok (.istore_n 3, 1) := by decide +kernel
theorem dX4_calmestTenths_4 : decode cX4_calmestTenths 4 = .ok (.iload_n 3, 1) := by decide +kernel
theorem dX4_calmestTenths_5 : decode cX4_calmestTenths 5 = .ok (.iload_n 1, 1) := by decide +kernel
theorem dX4_calmestTenths_6 : decode cX4_calmestTenths 6 = .ok (.aload_n 0, 1) := by decide +kernel
theorem dX4_calmestTenths_7 : decode cX4_calmestTenths 7 = .ok (.getfield 21, 3) := by decide +kernel
theorem dX4_calmestTenths_10 : decode cX4_calmestTenths 10 = .ok (.aload_n 0, 1) := by decide +kernel
theorem dX4_calmestTenths_11 : decode cX4_calmestTenths 11 = .ok (.getfield 30, 3) := by decide +kernel
theorem dX4_calmestTenths_14 : decode cX4_calmestTenths 14 = .ok (.iaload, 1) := by decide +kernel
theorem dX4_calmestTenths_15 : decode cX4_calmestTenths 15 = .ok (.invokestatic 55, 3) := by decide +kernel
theorem dX4_calmestTenths_18 : decode cX4_calmestTenths 18 = .ok (.if_icmp .gt 38, 3) := by decide +kernel
theorem dX4_calmestTenths_21 : decode cX4_calmestTenths 21 = .ok (.aload_n 0, 1) := by decide +kernel
theorem dX4_calmestTenths_22 : decode cX4_calmestTenths 22 = .ok (.iload_n 3, 1) := by decide +kernel
theorem dX4_calmestTenths_23 : decode cX4_calmestTenths 23 = .ok (.invokevirtual 58, 3) := by decide +kernel
theorem dX4_calmestTenths_26 : decode cX4_calmestTenths 26 = .ok (.iconst (-1), 1) := by decide +kernel
theorem dX4_calmestTenths_27 : decode cX4_calmestTenths 27 = .ok (.if_icmp .eq 23, 3) := by decide +kernel
theorem dX4_calmestTenths_30 : decode cX4_calmestTenths 30 = .ok (.iload_n 2, 1) := by decide +kernel
theorem dX4_calmestTenths_31 : decode cX4_calmestTenths 31 = .ok (.iconst (-1), 1) := by decide +kernel
theorem dX4_calmestTenths_32 : decode cX4_calmestTenths 32 = .ok (.if_icmp .eq 16, 3) := by decide +kernel
theorem dX4_calmestTenths_35 : decode cX4_calmestTenths 35 = .ok (.aload_n 0, 1) := by decide +kernel
theorem dX4_calmestTenths_36 : decode cX4_calmestTenths 36 = .ok (.iload_n 3, 1) := by decide +kernel
theorem dX4_calmestTenths_37 : decode cX4_calmestTenths 37 = .ok (.invokevirtual 58, 3) := by decide +kernel
theorem dX4_calmestTenths_40 : decode cX4_calmestTenths 40 = .ok (.aload_n 0, 1) := by decide +kernel
theorem dX4_calmestTenths_41 : decode cX4_calmestTenths 41 = .ok (.iload_n 2, 1) := by decide +kernel
theorem dX4_calmestTenths_42 : decode cX4_calmestTenths 42 = .ok (.invokevirtual 58, 3) := by decide +kernel
theorem dX4_calmestTenths_45 : decode cX4_calmestTenths 45 = .ok (.if_icmp .ge 5, 3) := by decide +kernel
theorem dX4_calmestTenths_48 : decode cX4_calmestTenths 48 = .ok (.iload_n 3, 1) := by decide +kernel
theorem dX4_calmestTenths_49 : decode cX4_calmestTenths 49 = .ok (.istore_n 2, 1) := by decide +kernel
theorem dX4_calmestTenths_50 : decode cX4_calmestTenths 50 = .ok (.iinc 3 1, 3) := by decide +kernel
theorem dX4_calmestTenths_53 : decode cX4_calmestTenths 53 = .ok (.goto (-49), 3) := by decide +kernel
theorem dX4_calmestTenths_56 : decode cX4_calmestTenths 56 = .ok (.iload_n 2, 1) := by decide +kernel
theorem dX4_calmestTenths_57 : decode cX4_calmestTenths 57 = .ok (.ireturn, 1) := by decide +kernel
theorem dX4_fewestTenths_0 : decode cX4_fewestTenths 0 = .ok (.iconst 0, 1) := by decide +kernel
theorem dX4_fewestTenths_1 : decode cX4_fewestTenths 1 = .ok (.istore_n 2, 1) := by decide +kernel
theorem dX4_fewestTenths_2 : decode cX4_fewestTenths 2 = .ok (.iload_n 2, 1) := by decide +kernel
theorem dX4_fewestTenths_3 : decode cX4_fewestTenths 3 = .ok (.aload_n 0, 1) := by decide +kernel
theorem dX4_fewestTenths_4 : decode cX4_fewestTenths 4 = .ok (.getfield 21, 3) := by decide +kernel
theorem dX4_fewestTenths_7 : decode cX4_fewestTenths 7 = .ok (.aload_n 0, 1) := by decide +kernel
theorem dX4_fewestTenths_8 : decode cX4_fewestTenths 8 = .ok (.getfield 30, 3) := by decide +kernel
theorem dX4_fewestTenths_11 : decode cX4_fewestTenths 11 = .ok (.iaload, 1) := by decide +kernel
theorem dX4_fewestTenths_12 : decode cX4_fewestTenths 12 = .ok (.if_icmp .gt 29, 3) := by decide +kernel
theorem dX4_fewestTenths_15 : decode cX4_fewestTenths 15 = .ok (.aload_n 0, 1) := by decide +kernel
theorem dX4_fewestTenths_16 : decode cX4_fewestTenths 16 = .ok (.iload_n 2, 1) := by decide +kernel
theorem dX4_fewestTenths_17 : decode cX4_fewestTenths 17 = .ok (.invokevirtual 58, 3) := by decide +kernel
theorem dX4_fewestTenths_20 : decode cX4_fewestTenths 20 = .ok (.iconst (-1), 1) := by decide +kernel
theorem dX4_fewestTenths_21 : decode cX4_fewestTenths 21 = .ok (.if_icmp .eq 14, 3) := by decide +kernel
theorem dX4_fewestTenths_24 : decode cX4_fewestTenths 24 = .ok (.aload_n 0, 1) := by decide +kernel
theorem dX4_fewestTenths_25 : decode cX4_fewestTenths 25 = .ok (.iload_n 2, 1) := by decide +kernel
theorem dX4_fewestTenths_26 : decode cX4_fewestTenths 26 = .ok (.invokevirtual 58, 3) := by decide +kernel
theorem dX4_fewestTenths_29 : decode cX4_fewestTenths 29 = .ok (.iload_n 1, 1) := by decide +kernel
theorem dX4_fewestTenths_30 : decode cX4_fewestTenths 30 = .ok (.if_icmp .gt 5, 3) := by decide +kernel
theorem dX4_fewestTenths_33 : decode cX4_fewestTenths 33 = .ok (.iload_n 2, 1) := by decide +kernel
theorem dX4_fewestTenths_34 : decode cX4_fewestTenths 34 = .ok (.ireturn, 1) := by decide +kernel
theorem dX4_fewestTenths_35 : decode cX4_fewestTenths 35 = .ok (.iinc 2 1, 3) := by decide +kernel
theorem dX4_fewestTenths_38 : decode cX4_fewestTenths 38 = .ok (.goto (-36), 3) := by decide +kernel
theorem dX4_fewestTenths_41 : decode cX4_fewestTenths 41 = .ok (.iconst (-1), 1) := by decide +kernel
theorem dX4_fewestTenths_42 : decode cX4_fewestTenths 42 = .ok (.ireturn, 1) := by decide +kernel
theorem dX4_tell_0 : decode cX4_tell 0 = .ok (.iload_n 2, 1) := by decide +kernel
theorem dX4_tell_1 : decode cX4_tell 1 = .ok (.istore_n 3, 1) := by decide +kernel
theorem dX4_tell_2 : decode cX4_tell 2 = .ok (.aload_n 0, 1) := by decide +kernel
theorem dX4_tell_3 : decode cX4_tell 3 = .ok (.iload_n 2, 1) := by decide +kernel
theorem dX4_tell_4 : decode cX4_tell 4 = .ok (.invokevirtual 58, 3) := by decide +kernel
theorem dX4_tell_7 : decode cX4_tell 7 = .ok (.istore 4, 2) := by decide +kernel
theorem dX4_tell_9 : decode cX4_tell 9 = .ok (.iconst 0, 1) := by decide +kernel
theorem dX4_tell_10 : decode cX4_tell 10 = .ok (.istore 5, 2) := by decide +kernel
theorem dX4_tell_12 : decode cX4_tell 12 = .ok (.iload 5, 2) := by decide +kernel
theorem dX4_tell_14 : decode cX4_tell 14 = .ok (.aload_n 0, 1) := by decide +kernel
theorem dX4_tell_15 : decode cX4_tell 15 = .ok (.getfield 30, 3) := by decide +kernel
theorem dX4_tell_18 : decode cX4_tell 18 = .ok (.if_icmp .ge 61, 3) := by decide +kernel
theorem dX4_tell_21 : decode cX4_tell 21 = .ok (.aload_n 0, 1) := by decide +kernel
theorem dX4_tell_22 : decode cX4_tell 22 = .ok (.iload 5, 2) := by decide +kernel
theorem dX4_tell_24 : decode cX4_tell 24 = .ok (.iload_n 3, 1) := by decide +kernel
theorem dX4_tell_25 : decode cX4_tell 25 = .ok (.iload 4, 2) := by decide +kernel
theorem dX4_tell_27 : decode cX4_tell 27 = .ok (.invokevirtual 61, 3) := by decide +kernel
theorem dX4_tell_30 : decode cX4_tell 30 = .ok (.istore 6, 2) := by decide +kernel
theorem dX4_tell_32 : decode cX4_tell 32 = .ok (.aload_n 1, 1) := by decide +kernel
theorem dX4_tell_33 : decode cX4_tell 33 = .ok (.iload 6, 2) := by decide +kernel
theorem dX4_tell_35 : decode cX4_tell 35 = .ok (.i2l, 1) := by decide +kernel
theorem dX4_tell_36 : decode cX4_tell 36 = .ok (.invokevirtual 64, 3) := by decide +kernel
theorem dX4_tell_39 : decode cX4_tell 39 = .ok (.iload_n 3, 1) := by decide +kernel
theorem dX4_tell_40 : decode cX4_tell 40 = .ok (.aload_n 0, 1) := by decide +kernel
theorem dX4_tell_41 : decode cX4_tell 41 = .ok (.getfield 15, 3) := by decide +kernel
theorem dX4_tell_44 : decode cX4_tell 44 = .ok (.iload 5, 2) := by decide +kernel
theorem dX4_tell_46 : decode cX4_tell 46 = .ok (.bipush 8, 2) := by decide +kernel
theorem dX4_tell_48 : decode cX4_tell 48 = .ok (.imul, 1) := by decide +kernel
theorem dX4_tell_49 : decode cX4_tell 49 = .ok (.iload 6, 2) := by decide +kernel
theorem dX4_tell_51 : decode cX4_tell 51 = .ok (.iadd, 1) := by decide +kernel
theorem dX4_tell_52 : decode cX4_tell 52 = .ok (.iaload, 1) := by decide +kernel
theorem dX4_tell_53 : decode cX4_tell 53 = .ok (.isub, 1) := by decide +kernel
theorem dX4_tell_54 : decode cX4_tell 54 = .ok (.istore_n 3, 1) := by decide +kernel
theorem dX4_tell_55 : decode cX4_tell 55 = .ok (.iload 4, 2) := by decide +kernel
theorem dX4_tell_57 : decode cX4_tell 57 = .ok (.aload_n 0, 1) := by decide +kernel
theorem dX4_tell_58 : decode cX4_tell 58 = .ok (.getfield 11, 3) := by decide +kernel
theorem dX4_tell_61 : decode cX4_tell 61 = .ok (.iload 5, 2) := by decide +kernel
theorem dX4_tell_63 : decode cX4_tell 63 = .ok (.bipush 8, 2) := by decide +kernel
theorem dX4_tell_65 : decode cX4_tell 65 = .ok (.imul, 1) := by decide +kernel
theorem dX4_tell_66 : decode cX4_tell 66 = .ok (.iload 6, 2) := by decide +kernel
theorem dX4_tell_68 : decode cX4_tell 68 = .ok (.iadd, 1) := by decide +kernel
theorem dX4_tell_69 : decode cX4_tell 69 = .ok (.iaload, 1) := by decide +kernel
theorem dX4_tell_70 : decode cX4_tell 70 = .ok (.isub, 1) := by decide +kernel
theorem dX4_tell_71 : decode cX4_tell 71 = .ok (.istore 4, 2) := by decide +kernel
theorem dX4_tell_73 : decode cX4_tell 73 = .ok (.iinc 5 1, 3) := by decide +kernel
theorem dX4_tell_76 : decode cX4_tell 76 = .ok (.goto (-64), 3) := by decide +kernel
theorem dX4_tell_79 : decode cX4_tell 79 = .ok (.return_, 1) := by decide +kernel
theorem dX4_firstLetter_0 : decode cX4_firstLetter 0 = .ok (.aload_n 0, 1) := by decide +kernel
theorem dX4_firstLetter_1 : decode cX4_firstLetter 1 = .ok (.getfield 30, 3) := by decide +kernel
theorem dX4_firstLetter_4 : decode cX4_firstLetter 4 = .ok (.iload_n 1, 1) := by decide +kernel
theorem dX4_firstLetter_5 : decode cX4_firstLetter 5 = .ok (.isub, 1) := by decide +kernel
theorem dX4_firstLetter_6 : decode cX4_firstLetter 6 = .ok (.iconst 1, 1) := by decide +kernel
theorem dX4_firstLetter_7 : decode cX4_firstLetter 7 = .ok (.isub, 1) := by decide +kernel
theorem dX4_firstLetter_8 : decode cX4_firstLetter 8 = .ok (.istore 4, 2) := by decide +kernel
theorem dX4_firstLetter_10 : decode cX4_firstLetter 10 = .ok (.iconst 0, 1) := by decide +kernel
theorem dX4_firstLetter_11 : decode cX4_firstLetter 11 = .ok (.istore 5, 2) := by decide +kernel
theorem dX4_firstLetter_13 : decode cX4_firstLetter 13 = .ok (.iload 5, 2) := by decide +kernel
theorem dX4_firstLetter_15 : decode cX4_firstLetter 15 = .ok (.bipush 8, 2) := by decide +kernel
theorem dX4_firstLetter_17 : decode cX4_firstLetter 17 = .ok (.if_icmp .ge 104, 3) := by decide +kernel
theorem dX4_firstLetter_20 : decode cX4_firstLetter 20 = .ok (.iload_n 2, 1) := by decide +kernel
theorem dX4_firstLetter_21 : decode cX4_firstLetter 21 = .ok (.aload_n 0, 1) := by decide +kernel
theorem dX4_firstLetter_22 : decode cX4_firstLetter 22 = .ok (.getfield 15, 3) := by decide +kernel
theorem dX4_firstLetter_25 : decode cX4_firstLetter 25 = .ok (.iload_n 1, 1) := by decide +kernel
theorem dX4_firstLetter_26 : decode cX4_firstLetter 26 = .ok (.bipush 8, 2) := by decide +kernel
theorem dX4_firstLetter_28 : decode cX4_firstLetter 28 = .ok (.imul, 1) := by decide +kernel
theorem dX4_firstLetter_29 : decode cX4_firstLetter 29 = .ok (.iload 5, 2) := by decide +kernel
theorem dX4_firstLetter_31 : decode cX4_firstLetter 31 = .ok (.iadd, 1) := by decide +kernel
theorem dX4_firstLetter_32 : decode cX4_firstLetter 32 = .ok (.iaload, 1) := by decide +kernel
theorem dX4_firstLetter_33 : decode cX4_firstLetter 33 = .ok (.isub, 1) := by decide +kernel
theorem dX4_firstLetter_34 : decode cX4_firstLetter 34 = .ok (.istore 6, 2) := by decide +kernel
theorem dX4_firstLetter_36 : decode cX4_firstLetter 36 = .ok (.iload 6, 2) := by decide +kernel
theorem dX4_firstLetter_38 : decode cX4_firstLetter 38 = .ok (.ifCond .lt 36, 3) := by decide +kernel
theorem dX4_firstLetter_41 : decode cX4_firstLetter 41 = .ok (.iload 6, 2) := by decide +kernel
theorem dX4_firstLetter_43 : decode cX4_firstLetter 43 = .ok (.aload_n 0, 1) := by decide +kernel
theorem dX4_firstLetter_44 : decode cX4_firstLetter 44 = .ok (.getfield 21, 3) := by decide +kernel
theorem dX4_firstLetter_47 : decode cX4_firstLetter 47 = .ok (.iload 4, 2) := by decide +kernel
theorem dX4_firstLetter_49 : decode cX4_firstLetter 49 = .ok (.iaload, 1) := by decide +kernel
theorem dX4_firstLetter_50 : decode cX4_firstLetter 50 = .ok (.if_icmp .gt 24, 3) := by decide +kernel
theorem dX4_firstLetter_53 : decode cX4_firstLetter 53 = .ok (.aload_n 0, 1) := by decide +kernel
theorem dX4_firstLetter_54 : decode cX4_firstLetter 54 = .ok (.getfield 18, 3) := by decide +kernel
theorem dX4_firstLetter_57 : decode cX4_firstLetter 57 = .ok (.iload 4, 2) := by decide +kernel
theorem dX4_firstLetter_59 : decode cX4_firstLetter 59 = .ok (.invokestatic 42, 3) := by decide +kernel
theorem dX4_firstLetter_62 : decode cX4_firstLetter 62 = .ok (.iload 6, 2) := by decide +kernel
theorem dX4_firstLetter_64 : decode cX4_firstLetter 64 = .ok (.iadd, 1) := by decide +kernel
theorem dX4_firstLetter_65 : decode cX4_firstLetter 65 = .ok (.iaload, 1) := by decide +kernel
theorem dX4_firstLetter_66 : decode cX4_firstLetter 66 = .ok (.iconst (-1), 1) := by decide +kernel
theorem dX4_firstLetter_67 : decode cX4_firstLetter 67 = .ok (.if_icmp .eq 7, 3) := by decide +kernel
theorem dX4_firstLetter_70 : decode cX4_firstLetter 70 = .ok (.iconst 1, 1) := by decide +kernel
theorem dX4_firstLetter_71 : decode cX4_firstLetter 71 = .ok (.goto 4, 3) := by decide +kernel
theorem dX4_firstLetter_74 : decode cX4_firstLetter 74 = .ok (.iconst 0, 1) := by decide +kernel
theorem dX4_firstLetter_75 : decode cX4_firstLetter 75 = .ok (.istore 7, 2) := by decide +kernel
theorem dX4_firstLetter_77 : decode cX4_firstLetter 77 = .ok (.iload 7, 2) := by decide +kernel
theorem dX4_firstLetter_79 : decode cX4_firstLetter 79 = .ok (.ifCond .eq 36, 3) := by decide +kernel
theorem dX4_firstLetter_82 : decode cX4_firstLetter 82 = .ok (.aload_n 0, 1) := by decide +kernel
theorem dX4_firstLetter_83 : decode cX4_firstLetter 83 = .ok (.getfield 18, 3) := by decide +kernel
theorem dX4_firstLetter_86 : decode cX4_firstLetter 86 = .ok (.iload 4, 2) := by decide +kernel
theorem dX4_firstLetter_88 : decode cX4_firstLetter 88 = .ok (.invokestatic 42, 3) := by decide +kernel
theorem dX4_firstLetter_91 : decode cX4_firstLetter 91 = .ok (.iload 6, 2) := by decide +kernel
theorem dX4_firstLetter_93 : decode cX4_firstLetter 93 = .ok (.iadd, 1) := by decide +kernel
theorem dX4_firstLetter_94 : decode cX4_firstLetter 94 = .ok (.iaload, 1) := by decide +kernel
theorem dX4_firstLetter_95 : decode cX4_firstLetter 95 = .ok (.aload_n 0, 1) := by decide +kernel
theorem dX4_firstLetter_96 : decode cX4_firstLetter 96 = .ok (.getfield 11, 3) := by decide +kernel
theorem dX4_firstLetter_99 : decode cX4_firstLetter 99 = .ok (.iload_n 1, 1) := by decide +kernel
theorem dX4_firstLetter_100 : decode cX4_firstLetter 100 = .ok (.bipush 8, 2) := by decide +kernel
theorem dX4_firstLetter_102 : decode cX4_firstLetter 102 = .ok (.imul, 1) := by decide +kernel
theorem dX4_firstLetter_103 : decode cX4_firstLetter 103 = .ok (.iload 5, 2) := by decide +kernel
theorem dX4_firstLetter_105 : decode cX4_firstLetter 105 = .ok (.iadd, 1) := by decide +kernel
theorem dX4_firstLetter_106 : decode cX4_firstLetter 106 = .ok (.iaload, 1) := by decide +kernel
theorem dX4_firstLetter_107 : decode cX4_firstLetter 107 = .ok (.iadd, 1) := by decide +kernel
theorem dX4_firstLetter_108 : decode cX4_firstLetter 108 = .ok (.iload_n 3, 1) := by decide +kernel
theorem dX4_firstLetter_109 : decode cX4_firstLetter 109 = .ok (.if_icmp .ne 6, 3) := by decide +kernel
theorem dX4_firstLetter_112 : decode cX4_firstLetter 112 = .ok (.iload 5, 2) := by decide +kernel
theorem dX4_firstLetter_114 : decode cX4_firstLetter 114 = .ok (.ireturn, 1) := by decide +kernel
theorem dX4_firstLetter_115 : decode cX4_firstLetter 115 = .ok (.iinc 5 1, 3) := by decide +kernel
theorem dX4_firstLetter_118 : decode cX4_firstLetter 118 = .ok (.goto (-105), 3) := by decide +kernel
theorem dX4_firstLetter_121 : decode cX4_firstLetter 121 = .ok (.iconst 0, 1) := by decide +kernel
theorem dX4_firstLetter_122 : decode cX4_firstLetter 122 = .ok (.ireturn, 1) := by decide +kernel
theorem dX5_init_0 : decode cX5_init 0 = .ok (.aload_n 0, 1) := by decide +kernel
theorem dX5_init_1 : decode cX5_init 1 = .ok (.invokespecial 5, 3) := by decide +kernel
theorem dX5_init_4 : decode cX5_init 4 = .ok (.aload_n 0, 1) := by decide +kernel
theorem dX5_init_5 : decode cX5_init 5 = .ok (.bipush 6, 2) := by decide +kernel
theorem dX5_init_7 : decode cX5_init 7 = .ok (.newarray .int, 2) := by decide +kernel
theorem dX5_init_9 : decode cX5_init 9 = .ok (.putfield 11, 3) := by decide +kernel
theorem dX5_init_12 : decode cX5_init 12 = .ok (.aload_n 0, 1) := by decide +kernel
theorem dX5_init_13 : decode cX5_init 13 = .ok (.bipush 6, 2) := by decide +kernel
theorem dX5_init_15 : decode cX5_init 15 = .ok (.newarray .int, 2) := by decide +kernel
theorem dX5_init_17 : decode cX5_init 17 = .ok (.putfield 15, 3) := by decide +kernel
theorem dX5_init_20 : decode cX5_init 20 = .ok (.return_, 1) := by decide +kernel
theorem dX5_explain_0 : decode cX5_explain 0 = .ok (.iconst (-1), 1) := by decide +kernel
theorem dX5_explain_1 : decode cX5_explain 1 = .ok (.istore_n 3, 1) := by decide +kernel
theorem dX5_explain_2 : decode cX5_explain 2 = .ok (.iconst 0, 1) := by decide +kernel
theorem dX5_explain_3 : decode cX5_explain 3 = .ok (.istore 4, 2) := by decide +kernel
theorem dX5_explain_5 : decode cX5_explain 5 = .ok (.iload 4, 2) := by decide +kernel
theorem dX5_explain_7 : decode cX5_explain 7 = .ok (.bipush 125, 2) := by decide +kernel
theorem dX5_explain_9 : decode cX5_explain 9 = .ok (.if_icmp .ge 101, 3) := by decide +kernel
theorem dX5_explain_12 : decode cX5_explain 12 = .ok (.aload_n 0, 1) := by decide +kernel
theorem dX5_explain_13 : decode cX5_explain 13 = .ok (.getfield 11, 3) := by decide +kernel
theorem dX5_explain_16 : decode cX5_explain 16 = .ok (.iconst 0, 1) := by decide +kernel
theorem dX5_explain_17 : decode cX5_explain 17 = .ok (.iload 4, 2) := by decide +kernel
theorem dX5_explain_19 : decode cX5_explain 19 = .ok (.bipush 25, 2) := by decide +kernel
theorem dX5_explain_21 : decode cX5_explain 21 = .ok (.idiv, 1) := by decide +kernel
theorem dX5_explain_22 : decode cX5_explain 22 = .ok (.iastore, 1) := by decide +kernel
theorem dX5_explain_23 : decode cX5_explain 23 = .ok (.aload_n 0, 1) := by decide +kernel
theorem dX5_explain_24 : decode cX5_explain 24 = .ok (.getfield 11, 3) := by decide +kernel
theorem dX5_explain_27 : decode cX5_explain 27 = .ok (.iconst 1, 1) := by decide +kernel
theorem dX5_explain_28 : decode cX5_explain 28 = .ok (.iload 4, 2) := by decide +kernel
theorem dX5_explain_30 : decode cX5_explain 30 = .ok (.iconst 5, 1) := by decide +kernel
theorem dX5_explain_31 : decode cX5_explain 31 = .ok (.idiv, 1) := by decide +kernel
theorem dX5_explain_32 : decode cX5_explain 32 = .ok (.iconst 5, 1) := by decide +kernel
theorem dX5_explain_33 : decode cX5_explain 33 = .ok (.irem, 1) := by decide +kernel
theorem dX5_explain_34 : decode cX5_explain 34 = .ok (.iastore, 1) := by decide +kernel
theorem dX5_explain_35 : decode cX5_explain 35 = .ok (.aload_n 0, 1) := by decide +kernel
theorem dX5_explain_36 : decode cX5_explain 36 = .ok (.getfield 11, 3) := by decide +kernel
theorem dX5_explain_39 : decode cX5_explain 39 = .ok (.iconst 2, 1) := by decide +kernel
theorem dX5_explain_40 : decode cX5_explain 40 = .ok (.iload 4, 2) := by decide +kernel
theorem dX5_explain_42 : decode cX5_explain 42 = .ok (.iconst 5, 1) := by decide +kernel
theorem dX5_explain_43 : decode cX5_explain 43 = .ok (.irem, 1) := by decide +kernel
theorem dX5_explain_44 : decode cX5_explain 44 = .ok (.iastore, 1) := by decide +kernel
theorem dX5_explain_45 : decode cX5_explain 45 = .ok (.iconst 0, 1) := by decide +kernel
theorem dX5_explain_46 : decode cX5_explain 46 = .ok (.istore 5, 2) := by decide +kernel
theorem dX5_explain_48 : decode cX5_explain 48 = .ok (.iconst 0, 1) := by decide +kernel
theorem dX5_explain_49 : decode cX5_explain 49 = .ok (.istore 6, 2) := by decide +kernel
theorem dX5_explain_51 : decode cX5_explain 51 = .ok (.iload 6, 2) := by decide +kernel
theorem dX5_explain_53 : decode cX5_explain 53 = .ok (.iconst 3, 1) := by decide +kernel
theorem dX5_explain_54 : decode cX5_explain 54 = .ok (.if_icmp .ge 21, 3) := by decide +kernel
theorem dX5_explain_57 : decode cX5_explain 57 = .ok (.iload 5, 2) := by decide +kernel
theorem dX5_explain_59 : decode cX5_explain 59 = .ok (.aload_n 0, 1) := by decide +kernel
theorem dX5_explain_60 : decode cX5_explain 60 = .ok (.aload_n 1, 1) := by decide +kernel
theorem dX5_explain_61 : decode cX5_explain 61 = .ok (.iload 6, 2) := by decide +kernel
theorem dX5_explain_63 : decode cX5_explain 63 = .ok (.invokevirtual 18, 3) := by decide +kernel
theorem dX5_explain_66 : decode cX5_explain 66 = .ok (.iadd, 1) := by decide +kernel
theorem dX5_explain_67 : decode cX5_explain 67 = .ok (.istore 5, 2) := by decide +kernel
theorem dX5_explain_69 : decode cX5_explain 69 = .ok (.iinc 6 1, 3) := by decide +kernel
theorem dX5_explain_72 : decode cX5_explain 72 = .ok (.goto (-21), 3) := by decide +kernel
theorem dX5_explain_75 : decode cX5_explain 75 = .ok (.iload_n 3, 1) := by decide +kernel
theorem dX5_explain_76 : decode cX5_explain 76 = .ok (.iconst (-1), 1) := by decide +kernel
theorem dX5_explain_77 : decode cX5_explain 77 = .ok (.if_icmp .eq 9, 3) := by decide +kernel
theorem dX5_explain_80 : decode cX5_explain 80 = .ok (.iload 5, 2) := by decide +kernel
theorem dX5_explain_82 : decode cX5_explain 82 = .ok (.iload_n 3, 1) := by decide +kernel
theorem dX5_explain_83 : decode cX5_explain 83 = .ok (.if_icmp .ge 21, 3) := by decide +kernel
theorem dX5_explain_86 : decode cX5_explain 86 = .ok (.iload 5, 2) := by decide +kernel
theorem dX5_explain_88 : decode cX5_explain 88 = .ok (.istore_n 3, 1) := by decide +kernel
theorem dX5_explain_89 : decode cX5_explain 89 = .ok (.aload_n 0, 1) := by decide +kernel
theorem dX5_explain_90 : decode cX5_explain 90 = .ok (.getfield 11, 3) := by decide +kernel
theorem dX5_explain_93 : decode cX5_explain 93 = .ok (.iconst 0, 1) := by decide +kernel
theorem dX5_explain_94 : decode cX5_explain 94 = .ok (.aload_n 0, 1) := by decide +kernel
theorem dX5_explain_95 : decode cX5_explain 95 = .ok (.getfield 15, 3) := by decide +kernel
theorem dX5_explain_98 : decode cX5_explain 98 = .ok (.iconst 0, 1) := by decide +kernel
theorem dX5_explain_99 : decode cX5_explain 99 = .ok (.bipush 6, 2) := by decide +kernel
theorem dX5_explain_101 : decode cX5_explain 101 = .ok (.invokestatic 22, 3) := by decide +kernel
theorem dX5_explain_104 : decode cX5_explain 104 = .ok (.iinc 4 1, 3) := by decide +kernel
theorem dX5_explain_107 : decode cX5_explain 107 = .ok (.goto (-102), 3) := by decide +kernel
theorem dX5_explain_110 : decode cX5_explain 110 = .ok (.aload_n 2, 1) := by decide +kernel
theorem dX5_explain_111 : decode cX5_explain 111 = .ok (.invokevirtual 28, 3) := by decide +kernel
theorem dX5_explain_114 : decode cX5_explain 114 = .ok (.iconst 0, 1) := by decide +kernel
theorem dX5_explain_115 : decode cX5_explain 115 = .ok (.istore 4, 2) := by decide +kernel
theorem dX5_explain_117 : decode cX5_explain 117 = .ok (.iload 4, 2) := by decide +kernel
theorem dX5_explain_119 : decode cX5_explain 119 = .ok (.bipush 6, 2) := by decide +kernel
theorem dX5_explain_121 : decode cX5_explain 121 = .ok (.if_icmp .ge 21, 3) := by decide +kernel
theorem dX5_explain_124 : decode cX5_explain 124 = .ok (.aload_n 2, 1) := by decide +kernel
theorem dX5_explain_125 : decode cX5_explain 125 = .ok (.aload_n 0, 1) := by decide +kernel
theorem dX5_explain_126 : decode cX5_explain 126 = .ok (.getfield 15, 3) := by decide +kernel
theorem dX5_explain_129 : decode cX5_explain 129 = .ok (.iload 4, 2) := by decide +kernel
theorem dX5_explain_131 : decode cX5_explain 131 = .ok (.iaload, 1) := by decide +kernel
theorem dX5_explain_132 : decode cX5_explain 132 = .ok (.i2l, 1) := by decide +kernel
theorem dX5_explain_133 : decode cX5_explain 133 = .ok (.invokevirtual 33, 3) := by decide +kernel
theorem dX5_explain_136 : decode cX5_explain 136 = .ok (.iinc 4 1, 3) := by decide +kernel
theorem dX5_explain_139 : decode cX5_explain 139 = .ok (.goto (-22), 3) := by decide +kernel
theorem dX5_explain_142 : decode cX5_explain 142 = .ok (.aload_n 2, 1) := by decide +kernel
theorem dX5_explain_143 : decode cX5_explain 143 = .ok (.aload_n 1, 1) := by decide +kernel
theorem dX5_explain_144 : decode cX5_explain 144 = .ok (.invokestatic 37, 3) := by decide +kernel
theorem dX5_explain_147 : decode cX5_explain 147 = .ok (.i2l, 1) := by decide +kernel
theorem dX5_explain_148 : decode cX5_explain 148 = .ok (.invokevirtual 33, 3) := by decide +kernel
theorem dX5_explain_151 : decode cX5_explain 151 = .ok (.iload_n 3, 1) := by decide +kernel
theorem dX5_explain_152 : decode cX5_explain 152 = .ok (.ireturn, 1) := by decide +kernel
theorem dX5_fitHorse_0 : decode cX5_fitHorse 0 = .ok (.iconst (-1), 1) := by decide +kernel
theorem dX5_fitHorse_1 : decode cX5_fitHorse 1 = .ok (.istore_n 3, 1) := by decide +kernel
theorem dX5_fitHorse_2 : decode cX5_fitHorse 2 = .ok (.iconst 0, 1) := by decide +kernel
theorem dX5_fitHorse_3 : decode cX5_fitHorse 3 = .ok (.istore 4, 2) := by decide +kernel
theorem dX5_fitHorse_5 : decode cX5_fitHorse 5 = .ok (.iload 4, 2) := by decide +kernel
theorem dX5_fitHorse_7 : decode cX5_fitHorse 7 = .ok (.iconst 5, 1) := by decide +kernel
theorem dX5_fitHorse_8 : decode cX5_fitHorse 8 = .ok (.if_icmp .ge 107, 3) := by decide +kernel
theorem dX5_fitHorse_11 : decode cX5_fitHorse 11 = .ok (.iconst 0, 1) := by decide +kernel
theorem dX5_fitHorse_12 : decode cX5_fitHorse 12 = .ok (.istore 5, 2) := by decide +kernel
theorem dX5_fitHorse_14 : decode cX5_fitHorse 14 = .ok (.iconst 0, 1) := by decide +kernel
theorem dX5_fitHorse_15 : decode cX5_fitHorse 15 = .ok (.istore 6, 2) := by decide +kernel
theorem dX5_fitHorse_17 : decode cX5_fitHorse 17 = .ok (.iload 6, 2) := by decide +kernel
theorem dX5_fitHorse_19 : decode cX5_fitHorse 19 = .ok (.aload_n 1, 1) := by decide +kernel
theorem dX5_fitHorse_20 : decode cX5_fitHorse 20 = .ok (.getfield 41, 3) := by decide +kernel
theorem dX5_fitHorse_23 : decode cX5_fitHorse 23 = .ok (.if_icmp .ge 62, 3) := by decide +kernel
theorem dX5_fitHorse_26 : decode cX5_fitHorse 26 = .ok (.aload_n 1, 1) := by decide +kernel
theorem dX5_fitHorse_27 : decode cX5_fitHorse 27 = .ok (.getfield 47, 3) := by decide +kernel
theorem dX5_fitHorse_30 : decode cX5_fitHorse 30 = .ok (.iload 6, 2) := by decide +kernel
theorem dX5_fitHorse_32 : decode cX5_fitHorse 32 = .ok (.iaload, 1) := by decide +kernel
theorem dX5_fitHorse_33 : decode cX5_fitHorse 33 = .ok (.iload_n 2, 1) := by decide +kernel
theorem dX5_fitHorse_34 : decode cX5_fitHorse 34 = .ok (.if_icmp .ne 45, 3) := by decide +kernel
theorem dX5_fitHorse_37 : decode cX5_fitHorse 37 = .ok (.aload_n 1, 1) := by decide +kernel
theorem dX5_fitHorse_38 : decode cX5_fitHorse 38 = .ok (.getfield 50, 3) := by decide +kernel
theorem dX5_fitHorse_41 : decode cX5_fitHorse 41 = .ok (.iload 6, 2) := by decide +kernel
theorem dX5_fitHorse_43 : decode cX5_fitHorse 43 = .ok (.iaload, 1) := by decide +kernel
theorem dX5_fitHorse_44 : decode cX5_fitHorse 44 = .ok (.iconst 3, 1) := by decide +kernel
theorem dX5_fitHorse_45 : decode cX5_fitHorse 45 = .ok (.if_icmp .ge 34, 3) := by decide +kernel
theorem dX5_fitHorse_48 : decode cX5_fitHorse 48 = .ok (.iload 5, 2) := by decide +kernel
theorem dX5_fitHorse_50 : decode cX5_fitHorse 50 = .ok (.aload_n 1, 1) := by decide +kernel
theorem dX5_fitHorse_51 : decode cX5_fitHorse 51 = .ok (.getfield 53, 3) := by decide +kernel
theorem dX5_fitHorse_54 : decode cX5_fitHorse 54 = .ok (.iload 6, 2) := by decide +kernel
theorem dX5_fitHorse_56 : decode cX5_fitHorse 56 = .ok (.iaload, 1) := by decide +kernel
theorem dX5_fitHorse_57 : decode cX5_fitHorse 57 = .ok (.aload_n 0, 1) := by decide +kernel
theorem dX5_fitHorse_58 : decode cX5_fitHorse 58 = .ok (.getfield 11, 3) := by decide +kernel
theorem dX5_fitHorse_61 : decode cX5_fitHorse 61 = .ok (.aload_n 1, 1) := by decide +kernel
theorem dX5_fitHorse_62 : decode cX5_fitHorse 62 = .ok (.getfield 50, 3) := by decide +kernel
theorem dX5_fitHorse_65 : decode cX5_fitHorse 65 = .ok (.iload 6, 2) := by decide +kernel
theorem dX5_fitHorse_67 : decode cX5_fitHorse 67 = .ok (.iaload, 1) := by decide +kernel
theorem dX5_fitHorse_68 : decode cX5_fitHorse 68 = .ok (.iaload, 1) := by decide +kernel
theorem dX5_fitHorse_69 : decode cX5_fitHorse 69 = .ok (.isub, 1) := by decide +kernel
theorem dX5_fitHorse_70 : decode cX5_fitHorse 70 = .ok (.iload 4, 2) := by decide +kernel
theorem dX5_fitHorse_72 : decode cX5_fitHorse 72 = .ok (.isub, 1) := by decide +kernel
theorem dX5_fitHorse_73 : decode cX5_fitHorse 73 = .ok (.invokestatic 56, 3) := by decide +kernel
theorem dX5_fitHorse_76 : decode cX5_fitHorse 76 = .ok (.iadd, 1) := by decide +kernel
theorem dX5_fitHorse_77 : decode cX5_fitHorse 77 = .ok (.istore 5, 2) := by decide +kernel
theorem dX5_fitHorse_79 : decode cX5_fitHorse 79 = .ok (.iinc 6 1, 3) := by decide +kernel
theorem dX5_fitHorse_82 : decode cX5_fitHorse 82 = .ok (.goto (-65), 3) := by decide +kernel
theorem dX5_fitHorse_85 : decode cX5_fitHorse 85 = .ok (.iload_n 3, 1) := by decide +kernel
theorem dX5_fitHorse_86 : decode cX5_fitHorse 86 = .ok (.iconst (-1), 1) := by decide +kernel
theorem dX5_fitHorse_87 : decode cX5_fitHorse 87 = .ok (.if_icmp .eq 9, 3) := by decide +kernel
theorem dX5_fitHorse_90 : decode cX5_fitHorse 90 = .ok (.iload 5, 2) := by decide +kernel
theorem dX5_fitHorse_92 : decode cX5_fitHorse 92 = .ok (.iload_n 3, 1) := by decide +kernel
theorem dX5_fitHorse_93 : decode cX5_fitHorse 93 = .ok (.if_icmp .ge 16, 3) := by decide +kernel
theorem dX5_fitHorse_96 : decode cX5_fitHorse 96 = .ok (.iload 5, 2) := by decide +kernel
theorem dX5_fitHorse_98 : decode cX5_fitHorse 98 = .ok (.istore_n 3, 1) := by decide +kernel
theorem dX5_fitHorse_99 : decode cX5_fitHorse 99 = .ok (.aload_n 0, 1) := by decide +kernel
theorem dX5_fitHorse_100 : decode cX5_fitHorse 100 = .ok (.getfield 11, 3) := by decide +kernel
theorem dX5_fitHorse_103 : decode cX5_fitHorse 103 = .ok (.iconst 3, 1) := by decide +kernel
theorem dX5_fitHorse_104 : decode cX5_fitHorse 104 = .ok (.iload_n 2, 1) := by decide +kernel
theorem dX5_fitHorse_105 : decode cX5_fitHorse 105 = .ok (.iadd, 1) := by decide +kernel
theorem dX5_fitHorse_106 : decode cX5_fitHorse 106 = .ok (.iload 4, 2) := by decide +kernel
theorem dX5_fitHorse_108 : decode cX5_fitHorse 108 = .ok (.iastore, 1) := by decide +kernel
theorem dX5_fitHorse_109 : decode cX5_fitHorse 109 = .ok (.iinc 4 1, 3) := by decide +kernel
theorem dX5_fitHorse_112 : decode cX5_fitHorse 112 = .ok (.goto (-107), 3) := by decide +kernel
theorem dX5_fitHorse_115 : decode cX5_fitHorse 115 = .ok (.iload_n 3, 1) := by decide +kernel
theorem dX5_fitHorse_116 : decode cX5_fitHorse 116 = .ok (.ireturn, 1) := by decide +kernel
theorem dX5_countExplained_0 : decode cX5_countExplained 0 = .ok (.iconst 0, 1) := by decide +kernel
theorem dX5_countExplained_1 : decode cX5_countExplained 1 = .ok (.istore_n 1, 1) := by decide +kernel
theorem dX5_countExplained_2 : decode cX5_countExplained 2 = .ok (.iconst 0, 1) := by decide +kernel
theorem dX5_countExplained_3 : decode cX5_countExplained 3 = .ok (.istore_n 2, 1) := by decide +kernel
theorem dX5_countExplained_4 : decode cX5_countExplained 4 = .ok (.iload_n 2, 1) := by decide +kernel
theorem dX5_countExplained_5 : decode cX5_countExplained 5 = .ok (.aload_n 0, 1) := by decide +kernel
theorem dX5_countExplained_6 : decode cX5_countExplained 6 = .ok (.getfield 41, 3) := by decide +kernel
theorem dX5_countExplained_9 : decode cX5_countExplained 9 = .ok (.if_icmp .ge 37, 3) := by decide +kernel
theorem dX5_countExplained_12 : decode cX5_countExplained 12 = .ok (.iload_n 1, 1) := by decide +kernel
theorem dX5_countExplained_13 : decode cX5_countExplained 13 = .ok (.aload_n 0, 1) := by decide +kernel
theorem dX5_countExplained_14 : decode cX5_countExplained 14 = .ok (.getfield 47, 3) := by decide +kernel
theorem dX5_countExplained_17 : decode cX5_countExplained 17 = .ok (.iload_n 2, 1) := by decide +kernel
theorem dX5_countExplained_18 : decode cX5_countExplained 18 = .ok (.iaload, 1) := by decide +kernel
theorem dX5_countExplained_19 : decode cX5_countExplained 19 = .ok (.iconst 3, 1) := by decide +kernel
theorem dX5_countExplained_20 : decode cX5_countExplained 20 = .ok (.if_icmp .ge 17, 3) := by decide +kernel
theorem dX5_countExplained_23 : decode cX5_countExplained 23 = .ok (.aload_n 0, 1) := by decide +kernel
theorem dX5_countExplained_24 : decode cX5_countExplained 24 = .ok (.getfield 50, 3) := by decide +kernel
theorem dX5_countExplained_27 : decode cX5_countExplained 27 = .ok (.iload_n 2, 1) := by decide +kernel
theorem dX5_countExplained_28 : decode cX5_countExplained 28 = .ok (.iaload, 1) := by decide +kernel
theorem dX5_countExplained_29 : decode cX5_countExplained 29 = .ok (.iconst 3, 1) := by decide +kernel
theorem dX5_countExplained_30 : decode cX5_countExplained 30 = .ok (.if_icmp .ge 7, 3) := by decide +kernel
theorem dX5_countExplained_33 : decode cX5_countExplained 33 = .ok (.iconst 1, 1) := by decide +kernel
theorem dX5_countExplained_34 : decode cX5_countExplained 34 = .ok (.goto 4, 3) := by decide +kernel
theorem dX5_countExplained_37 : decode cX5_countExplained 37 = .ok (.iconst 0, 1) := by decide +kernel
theorem dX5_countExplained_38 : decode cX5_countExplained 38 = .ok (.iadd, 1) := by decide +kernel
theorem dX5_countExplained_39 : decode cX5_countExplained 39 = .ok (.istore_n 1, 1) := by decide +kernel
theorem dX5_countExplained_40 : decode cX5_countExplained 40 = .ok (.iinc 2 1, 3) := by decide +kernel
theorem dX5_countExplained_43 : decode cX5_countExplained 43 = .ok (.goto (-39), 3) := by decide +kernel
theorem dX5_countExplained_46 : decode cX5_countExplained 46 = .ok (.iload_n 1, 1) := by decide +kernel
theorem dX5_countExplained_47 : decode cX5_countExplained 47 = .ok (.ireturn, 1) := by decide +kernel
theorem dX6_init_0 : decode cX6_init 0 = .ok (.aload_n 0, 1) := by decide +kernel
theorem dX6_init_1 : decode cX6_init 1 = .ok (.invokespecial 3, 3) := by decide +kernel
theorem dX6_init_4 : decode cX6_init 4 = .ok (.aload_n 0, 1) := by decide +kernel
theorem dX6_init_5 : decode cX6_init 5 = .ok (.bipush 12, 2) := by decide +kernel
theorem dX6_init_7 : decode cX6_init 7 = .ok (.newarray .long, 2) := by decide +kernel
theorem dX6_init_9 : decode cX6_init 9 = .ok (.putfield 9, 3) := by decide +kernel
theorem dX6_init_12 : decode cX6_init 12 = .ok (.return_, 1) := by decide +kernel
theorem dX6_start_0 : decode cX6_start 0 = .ok (.aload_n 0, 1) := by decide +kernel
theorem dX6_start_1 : decode cX6_start 1 = .ok (.iconst 0, 1) := by decide +kernel
theorem dX6_start_2 : decode cX6_start 2 = .ok (.putfield 15, 3) := by decide +kernel
theorem dX6_start_5 : decode cX6_start 5 = .ok (.return_, 1) := by decide +kernel
theorem dX6_put_0 : decode cX6_put 0 = .ok (.aload_n 0, 1) := by decide +kernel
theorem dX6_put_1 : decode cX6_put 1 = .ok (.getfield 15, 3) := by decide +kernel
theorem dX6_put_4 : decode cX6_put 4 = .ok (.bipush 12, 2) := by decide +kernel
theorem dX6_put_6 : decode cX6_put 6 = .ok (.if_icmp .ge 23, 3) := by decide +kernel
theorem dX6_put_9 : decode cX6_put 9 = .ok (.aload_n 0, 1) := by decide +kernel
theorem dX6_put_10 : decode cX6_put 10 = .ok (.getfield 9, 3) := by decide +kernel
theorem dX6_put_13 : decode cX6_put 13 = .ok (.aload_n 0, 1) := by decide +kernel
theorem dX6_put_14 : decode cX6_put 14 = .ok (.getfield 15, 3) := by decide +kernel
theorem dX6_put_17 : decode cX6_put 17 = .ok (.lload_n 1, 1) := by decide +kernel
theorem dX6_put_18 : decode cX6_put 18 = .ok (.lastore, 1) := by decide +kernel
theorem dX6_put_19 : decode cX6_put 19 = .ok (.aload_n 0, 1) := by decide +kernel
theorem dX6_put_20 : decode cX6_put 20 = .ok (.dup, 1) := by decide +kernel
theorem dX6_put_21 : decode cX6_put 21 = .ok (.getfield 15, 3) := by decide +kernel
theorem dX6_put_24 : decode cX6_put 24 = .ok (.iconst 1, 1) := by decide +kernel
theorem dX6_put_25 : decode cX6_put 25 = .ok (.iadd, 1) := by decide +kernel
theorem dX6_put_26 : decode cX6_put 26 = .ok (.putfield 15, 3) := by decide +kernel
theorem dX6_put_29 : decode cX6_put 29 = .ok (.return_, 1) := by decide +kernel
theorem dX6_putFraction_0 : decode cX6_putFraction 0 = .ok (.lload_n 1, 1) := by decide +kernel
theorem dX6_putFraction_1 : decode cX6_putFraction 1 = .ok (.invokestatic 19, 3) := by decide +kernel
theorem dX6_putFraction_4 : decode cX6_putFraction 4 = .ok (.lload_n 3, 1) := by decide +kernel
theorem dX6_putFraction_5 : decode cX6_putFraction 5 = .ok (.invokestatic 25, 3) := by decide +kernel
theorem dX6_putFraction_8 : decode cX6_putFraction 8 = .ok (.lstore 5, 2) := by decide +kernel
theorem dX6_putFraction_10 : decode cX6_putFraction 10 = .ok (.aload_n 0, 1) := by decide +kernel
theorem dX6_putFraction_11 : decode cX6_putFraction 11 = .ok (.lload 5, 2) := by decide +kernel
theorem dX6_putFraction_13 : decode cX6_putFraction 13 = .ok (.lconst 0, 1) := by decide +kernel
theorem dX6_putFraction_14 : decode cX6_putFraction 14 = .ok (.lcmp, 1) := by decide +kernel
theorem dX6_putFraction_15 : decode cX6_putFraction 15 = .ok (.ifCond .le 10, 3) := by decide +kernel
theorem dX6_putFraction_18 : decode cX6_putFraction 18 = .ok (.lload_n 1, 1) := by decide +kernel
theorem dX6_putFraction_19 : decode cX6_putFraction 19 = .ok (.lload 5, 2) := by decide +kernel
theorem dX6_putFraction_21 : decode cX6_putFraction 21 = .ok (.ldiv, 1) := by decide +kernel
theorem dX6_putFraction_22 : decode cX6_putFraction 22 = .ok (.goto 4, 3) := by decide +kernel
theorem dX6_putFraction_25 : decode cX6_putFraction 25 = .ok (.lload_n 1, 1) := by decide +kernel
theorem dX6_putFraction_26 : decode cX6_putFraction 26 = .ok (.invokevirtual 29, 3) := by decide +kernel
theorem dX6_putFraction_29 : decode cX6_putFraction 29 = .ok (.aload_n 0, 1) := by decide +kernel
theorem dX6_putFraction_30 : decode cX6_putFraction 30 = .ok (.lload 5, 2) := by decide +kernel
theorem dX6_putFraction_32 : decode cX6_putFraction 32 = .ok (.lconst 0, 1) := by decide +kernel
theorem dX6_putFraction_33 : decode cX6_putFraction 33 = .ok (.lcmp, 1) := by decide +kernel
theorem dX6_putFraction_34 : decode cX6_putFraction 34 = .ok (.ifCond .le 10, 3) := by decide +kernel
theorem dX6_putFraction_37 : decode cX6_putFraction 37 = .ok (.lload_n 3, 1) := by decide +kernel
theorem dX6_putFraction_38 : decode cX6_putFraction 38 = .ok (.lload 5, 2) := by decide +kernel
theorem dX6_putFraction_40 : decode cX6_putFraction 40 = .ok (.ldiv, 1) := by decide +kernel
theorem dX6_putFraction_41 : decode cX6_putFraction 41 = .ok (.goto 4, 3) := by decide +kernel
theorem dX6_putFraction_44 : decode cX6_putFraction 44 = .ok (.lload_n 3, 1) := by decide +kernel
theorem dX6_putFraction_45 : decode cX6_putFraction 45 = .ok (.invokevirtual 29, 3) := by decide +kernel
theorem dX6_putFraction_48 : decode cX6_putFraction 48 = .ok (.return_, 1) := by decide +kernel
theorem dX6_common_0 : decode cX6_common 0 = .ok (.lload_n 0, 1) := by decide +kernel
theorem dX6_common_1 : decode cX6_common 1 = .ok (.lstore 4, 2) := by decide +kernel
theorem dX6_common_3 : decode cX6_common 3 = .ok (.lload_n 2, 1) := by decide +kernel
theorem dX6_common_4 : decode cX6_common 4 = .ok (.lstore 6, 2) := by decide +kernel
theorem dX6_common_6 : decode cX6_common 6 = .ok (.iconst 0, 1) := by decide +kernel
theorem dX6_common_7 : decode cX6_common 7 = .ok (.istore 8, 2) := by decide +kernel
theorem dX6_common_9 : decode cX6_common 9 = .ok (.iload 8, 2) := by decide +kernel
theorem dX6_common_11 : decode cX6_common 11 = .ok (.sipush 200, 3) := by decide +kernel
theorem dX6_common_14 : decode cX6_common 14 = .ok (.if_icmp .ge 31, 3) := by decide +kernel
theorem dX6_common_17 : decode cX6_common 17 = .ok (.lload 6, 2) := by decide +kernel
theorem dX6_common_19 : decode cX6_common 19 = .ok (.lconst 0, 1) := by decide +kernel
theorem dX6_common_20 : decode cX6_common 20 = .ok (.lcmp, 1) := by decide +kernel
theorem dX6_common_21 : decode cX6_common 21 = .ok (.ifCond .eq 24, 3) := by decide +kernel
theorem dX6_common_24 : decode cX6_common 24 = .ok (.lload 4, 2) := by decide +kernel
theorem dX6_common_26 : decode cX6_common 26 = .ok (.lload 6, 2) := by decide +kernel
theorem dX6_common_28 : decode cX6_common 28 = .ok (.lrem, 1) := by decide +kernel
theorem dX6_common_29 : decode cX6_common 29 = .ok (.lstore 9, 2) := by decide +kernel
theorem dX6_common_31 : decode cX6_common 31 = .ok (.lload 6, 2) := by decide +kernel
theorem dX6_common_33 : decode cX6_common 33 = .ok (.lstore 4, 2) := by decide +kernel
theorem dX6_common_35 : decode cX6_common 35 = .ok (.lload 9, 2) := by decide +kernel
theorem dX6_common_37 : decode cX6_common 37 = .ok (.lstore 6, 2) := by decide +kernel
theorem dX6_common_39 : decode cX6_common 39 = .ok (.iinc 8 1, 3) := by decide +kernel
theorem dX6_common_42 : decode cX6_common 42 = .ok (.goto (-33), 3) := by decide +kernel
theorem dX6_common_45 : decode cX6_common 45 = .ok (.lload 4, 2) := by decide +kernel
theorem dX6_common_47 : decode cX6_common 47 = .ok (.lreturn, 1) := by decide +kernel
