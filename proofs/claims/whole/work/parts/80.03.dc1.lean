theorem dX11_init_0 : decode cX11_init 0 = .ok (.aload_n 0, 1) := by decide +kernel
theorem dX11_init_1 : decode cX11_init 1 = .ok (.invokespecial 1, 3) := by decide +kernel
theorem dX11_init_4 : decode cX11_init 4 = .ok (.aload_n 0, 1) := by decide +kernel
theorem dX11_init_5 : decode cX11_init 5 = .ok (.new 7, 3) := by decide +kernel
theorem dX11_init_8 : decode cX11_init 8 = .ok (.dup, 1) := by decide +kernel
theorem dX11_init_9 : decode cX11_init 9 = .ok (.invokespecial 9, 3) := by decide +kernel
theorem dX11_init_12 : decode cX11_init 12 = .ok (.putfield 10, 3) := by decide +kernel
theorem dX11_init_15 : decode cX11_init 15 = .ok (.aload_n 0, 1) := by decide +kernel
theorem dX11_init_16 : decode cX11_init 16 = .ok (.new 16, 3) := by decide +kernel
theorem dX11_init_19 : decode cX11_init 19 = .ok (.dup, 1) := by decide +kernel
theorem dX11_init_20 : decode cX11_init 20 = .ok (.invokespecial 18, 3) := by decide +kernel
theorem dX11_init_23 : decode cX11_init 23 = .ok (.putfield 19, 3) := by decide +kernel
theorem dX11_init_26 : decode cX11_init 26 = .ok (.aload_n 0, 1) := by decide +kernel
theorem dX11_init_27 : decode cX11_init 27 = .ok (.new 23, 3) := by decide +kernel
theorem dX11_init_30 : decode cX11_init 30 = .ok (.dup, 1) := by decide +kernel
theorem dX11_init_31 : decode cX11_init 31 = .ok (.invokespecial 25, 3) := by decide +kernel
theorem dX11_init_34 : decode cX11_init 34 = .ok (.putfield 26, 3) := by decide +kernel
theorem dX11_init_37 : decode cX11_init 37 = .ok (.aload_n 0, 1) := by decide +kernel
theorem dX11_init_38 : decode cX11_init 38 = .ok (.new 30, 3) := by decide +kernel
theorem dX11_init_41 : decode cX11_init 41 = .ok (.dup, 1) := by decide +kernel
theorem dX11_init_42 : decode cX11_init 42 = .ok (.invokespecial 32, 3) := by decide +kernel
theorem dX11_init_45 : decode cX11_init 45 = .ok (.putfield 33, 3) := by decide +kernel
theorem dX11_init_48 : decode cX11_init 48 = .ok (.aload_n 0, 1) := by decide +kernel
theorem dX11_init_49 : decode cX11_init 49 = .ok (.new 37, 3) := by decide +kernel
theorem dX11_init_52 : decode cX11_init 52 = .ok (.dup, 1) := by decide +kernel
theorem dX11_init_53 : decode cX11_init 53 = .ok (.bipush 13, 2) := by decide +kernel
theorem dX11_init_55 : decode cX11_init 55 = .ok (.invokespecial 39, 3) := by decide +kernel
theorem dX11_init_58 : decode cX11_init 58 = .ok (.putfield 42, 3) := by decide +kernel
theorem dX11_init_61 : decode cX11_init 61 = .ok (.aload_n 0, 1) := by decide +kernel
theorem dX11_init_62 : decode cX11_init 62 = .ok (.new 37, 3) := by decide +kernel
theorem dX11_init_65 : decode cX11_init 65 = .ok (.dup, 1) := by decide +kernel
theorem dX11_init_66 : decode cX11_init 66 = .ok (.iconst 2, 1) := by decide +kernel
theorem dX11_init_67 : decode cX11_init 67 = .ok (.invokespecial 39, 3) := by decide +kernel
theorem dX11_init_70 : decode cX11_init 70 = .ok (.putfield 46, 3) := by decide +kernel
theorem dX11_init_73 : decode cX11_init 73 = .ok (.aload_n 0, 1) := by decide +kernel
theorem dX11_init_74 : decode cX11_init 74 = .ok (.new 49, 3) := by decide +kernel
theorem dX11_init_77 : decode cX11_init 77 = .ok (.dup, 1) := by decide +kernel
theorem dX11_init_78 : decode cX11_init 78 = .ok (.invokespecial 51, 3) := by decide +kernel
theorem dX11_init_81 : decode cX11_init 81 = .ok (.putfield 52, 3) := by decide +kernel
theorem dX11_init_84 : decode cX11_init 84 = .ok (.aload_n 0, 1) := by decide +kernel
theorem dX11_init_85 : decode cX11_init 85 = .ok (.new 56, 3) := by decide +kernel
theorem dX11_init_88 : decode cX11_init 88 = .ok (.dup, 1) := by decide +kernel
theorem dX11_init_89 : decode cX11_init 89 = .ok (.invokespecial 58, 3) := by decide +kernel
theorem dX11_init_92 : decode cX11_init 92 = .ok (.putfield 59, 3) := by decide +kernel
theorem dX11_init_95 : decode cX11_init 95 = .ok (.aload_n 0, 1) := by decide +kernel
theorem dX11_init_96 : decode cX11_init 96 = .ok (.new 63, 3) := by decide +kernel
theorem dX11_init_99 : decode cX11_init 99 = .ok (.dup, 1) := by decide +kernel
theorem dX11_init_100 : decode cX11_init 100 = .ok (.invokespecial 65, 3) := by decide +kernel
theorem dX11_init_103 : decode cX11_init 103 = .ok (.putfield 66, 3) := by decide +kernel
theorem dX11_init_106 : decode cX11_init 106 = .ok (.aload_n 0, 1) := by decide +kernel
theorem dX11_init_107 : decode cX11_init 107 = .ok (.new 70, 3) := by decide +kernel
theorem dX11_init_110 : decode cX11_init 110 = .ok (.dup, 1) := by decide +kernel
theorem dX11_init_111 : decode cX11_init 111 = .ok (.invokespecial 72, 3) := by decide +kernel
theorem dX11_init_114 : decode cX11_init 114 = .ok (.putfield 73, 3) := by decide +kernel
theorem dX11_init_117 : decode cX11_init 117 = .ok (.aload_n 0, 1) := by decide +kernel
theorem dX11_init_118 : decode cX11_init 118 = .ok (.new 77, 3) := by decide +kernel
theorem dX11_init_121 : decode cX11_init 121 = .ok (.dup, 1) := by decide +kernel
theorem dX11_init_122 : decode cX11_init 122 = .ok (.invokespecial 79, 3) := by decide +kernel
theorem dX11_init_125 : decode cX11_init 125 = .ok (.putfield 80, 3) := by decide +kernel
theorem dX11_init_128 : decode cX11_init 128 = .ok (.aload_n 0, 1) := by decide +kernel
theorem dX11_init_129 : decode cX11_init 129 = .ok (.bipush 9, 2) := by decide +kernel
theorem dX11_init_131 : decode cX11_init 131 = .ok (.newarray .long, 2) := by decide +kernel
theorem dX11_init_133 : decode cX11_init 133 = .ok (.putfield 84, 3) := by decide +kernel
theorem dX11_init_136 : decode cX11_init 136 = .ok (.aload_n 0, 1) := by decide +kernel
theorem dX11_init_137 : decode cX11_init 137 = .ok (.bipush 12, 2) := by decide +kernel
theorem dX11_init_139 : decode cX11_init 139 = .ok (.newarray .int, 2) := by decide +kernel
theorem dX11_init_141 : decode cX11_init 141 = .ok (.putfield 88, 3) := by decide +kernel
theorem dX11_init_144 : decode cX11_init 144 = .ok (.return_, 1) := by decide +kernel
theorem dX11_sign_0 : decode cX11_sign 0 = .ok (.aload_n 0, 1) := by decide +kernel
theorem dX11_sign_1 : decode cX11_sign 1 = .ok (.getfield 10, 3) := by decide +kernel
theorem dX11_sign_4 : decode cX11_sign 4 = .ok (.iload_n 1, 1) := by decide +kernel
theorem dX11_sign_5 : decode cX11_sign 5 = .ok (.invokevirtual 92, 3) := by decide +kernel
theorem dX11_sign_8 : decode cX11_sign 8 = .ok (.ireturn, 1) := by decide +kernel
theorem dX11_end_0 : decode cX11_end 0 = .ok (.aload_n 0, 1) := by decide +kernel
theorem dX11_end_1 : decode cX11_end 1 = .ok (.getfield 10, 3) := by decide +kernel
theorem dX11_end_4 : decode cX11_end 4 = .ok (.iload_n 1, 1) := by decide +kernel
theorem dX11_end_5 : decode cX11_end 5 = .ok (.invokevirtual 96, 3) := by decide +kernel
theorem dX11_end_8 : decode cX11_end 8 = .ok (.ireturn, 1) := by decide +kernel
theorem dX11_ring_0 : decode cX11_ring 0 = .ok (.aload_n 0, 1) := by decide +kernel
theorem dX11_ring_1 : decode cX11_ring 1 = .ok (.getfield 26, 3) := by decide +kernel
theorem dX11_ring_4 : decode cX11_ring 4 = .ok (.aload_n 0, 1) := by decide +kernel
theorem dX11_ring_5 : decode cX11_ring 5 = .ok (.getfield 10, 3) := by decide +kernel
theorem dX11_ring_8 : decode cX11_ring 8 = .ok (.invokevirtual 100, 3) := by decide +kernel
theorem dX11_ring_11 : decode cX11_ring 11 = .ok (.istore_n 1, 1) := by decide +kernel
theorem dX11_ring_12 : decode cX11_ring 12 = .ok (.aload_n 0, 1) := by decide +kernel
theorem dX11_ring_13 : decode cX11_ring 13 = .ok (.getfield 10, 3) := by decide +kernel
theorem dX11_ring_16 : decode cX11_ring 16 = .ok (.invokevirtual 104, 3) := by decide +kernel
theorem dX11_ring_19 : decode cX11_ring 19 = .ok (.iload_n 1, 1) := by decide +kernel
theorem dX11_ring_20 : decode cX11_ring 20 = .ok (.ifCond .le 25, 3) := by decide +kernel
theorem dX11_ring_23 : decode cX11_ring 23 = .ok (.aload_n 0, 1) := by decide +kernel
theorem dX11_ring_24 : decode cX11_ring 24 = .ok (.getfield 33, 3) := by decide +kernel
theorem dX11_ring_27 : decode cX11_ring 27 = .ok (.iconst 0, 1) := by decide +kernel
theorem dX11_ring_28 : decode cX11_ring 28 = .ok (.putfield 107, 3) := by decide +kernel
theorem dX11_ring_31 : decode cX11_ring 31 = .ok (.aload_n 0, 1) := by decide +kernel
theorem dX11_ring_32 : decode cX11_ring 32 = .ok (.getfield 42, 3) := by decide +kernel
theorem dX11_ring_35 : decode cX11_ring 35 = .ok (.invokevirtual 111, 3) := by decide +kernel
theorem dX11_ring_38 : decode cX11_ring 38 = .ok (.aload_n 0, 1) := by decide +kernel
theorem dX11_ring_39 : decode cX11_ring 39 = .ok (.getfield 46, 3) := by decide +kernel
theorem dX11_ring_42 : decode cX11_ring 42 = .ok (.invokevirtual 111, 3) := by decide +kernel
theorem dX11_ring_45 : decode cX11_ring 45 = .ok (.iload_n 1, 1) := by decide +kernel
theorem dX11_ring_46 : decode cX11_ring 46 = .ok (.ireturn, 1) := by decide +kernel
theorem dX11_horses_0 : decode cX11_horses 0 = .ok (.aload_n 0, 1) := by decide +kernel
theorem dX11_horses_1 : decode cX11_horses 1 = .ok (.getfield 26, 3) := by decide +kernel
theorem dX11_horses_4 : decode cX11_horses 4 = .ok (.aload_n 0, 1) := by decide +kernel
theorem dX11_horses_5 : decode cX11_horses 5 = .ok (.getfield 10, 3) := by decide +kernel
theorem dX11_horses_8 : decode cX11_horses 8 = .ok (.invokevirtual 114, 3) := by decide +kernel
theorem dX11_horses_11 : decode cX11_horses 11 = .ok (.istore_n 1, 1) := by decide +kernel
theorem dX11_horses_12 : decode cX11_horses 12 = .ok (.aload_n 0, 1) := by decide +kernel
theorem dX11_horses_13 : decode cX11_horses 13 = .ok (.getfield 10, 3) := by decide +kernel
theorem dX11_horses_16 : decode cX11_horses 16 = .ok (.invokevirtual 104, 3) := by decide +kernel
theorem dX11_horses_19 : decode cX11_horses 19 = .ok (.iload_n 1, 1) := by decide +kernel
theorem dX11_horses_20 : decode cX11_horses 20 = .ok (.ireturn, 1) := by decide +kernel
theorem dX11_plan_0 : decode cX11_plan 0 = .ok (.aload_n 0, 1) := by decide +kernel
theorem dX11_plan_1 : decode cX11_plan 1 = .ok (.getfield 26, 3) := by decide +kernel
theorem dX11_plan_4 : decode cX11_plan 4 = .ok (.aload_n 0, 1) := by decide +kernel
theorem dX11_plan_5 : decode cX11_plan 5 = .ok (.getfield 10, 3) := by decide +kernel
theorem dX11_plan_8 : decode cX11_plan 8 = .ok (.invokevirtual 117, 3) := by decide +kernel
theorem dX11_plan_11 : decode cX11_plan 11 = .ok (.istore_n 1, 1) := by decide +kernel
theorem dX11_plan_12 : decode cX11_plan 12 = .ok (.aload_n 0, 1) := by decide +kernel
theorem dX11_plan_13 : decode cX11_plan 13 = .ok (.getfield 10, 3) := by decide +kernel
theorem dX11_plan_16 : decode cX11_plan 16 = .ok (.invokevirtual 104, 3) := by decide +kernel
theorem dX11_plan_19 : decode cX11_plan 19 = .ok (.iload_n 1, 1) := by decide +kernel
theorem dX11_plan_20 : decode cX11_plan 20 = .ok (.ireturn, 1) := by decide +kernel
theorem dX11_rule_0 : decode cX11_rule 0 = .ok (.aload_n 0, 1) := by decide +kernel
theorem dX11_rule_1 : decode cX11_rule 1 = .ok (.getfield 26, 3) := by decide +kernel
theorem dX11_rule_4 : decode cX11_rule 4 = .ok (.getfield 120, 3) := by decide +kernel
theorem dX11_rule_7 : decode cX11_rule 7 = .ok (.aload_n 0, 1) := by decide +kernel
theorem dX11_rule_8 : decode cX11_rule 8 = .ok (.getfield 10, 3) := by decide +kernel
theorem dX11_rule_11 : decode cX11_rule 11 = .ok (.invokevirtual 124, 3) := by decide +kernel
theorem dX11_rule_14 : decode cX11_rule 14 = .ok (.istore_n 1, 1) := by decide +kernel
theorem dX11_rule_15 : decode cX11_rule 15 = .ok (.aload_n 0, 1) := by decide +kernel
theorem dX11_rule_16 : decode cX11_rule 16 = .ok (.getfield 10, 3) := by decide +kernel
theorem dX11_rule_19 : decode cX11_rule 19 = .ok (.invokevirtual 104, 3) := by decide +kernel
theorem dX11_rule_22 : decode cX11_rule 22 = .ok (.iload_n 1, 1) := by decide +kernel
theorem dX11_rule_23 : decode cX11_rule 23 = .ok (.ireturn, 1) := by decide +kernel
theorem dX11_prizes_0 : decode cX11_prizes 0 = .ok (.aload_n 0, 1) := by decide +kernel
theorem dX11_prizes_1 : decode cX11_prizes 1 = .ok (.getfield 33, 3) := by decide +kernel
theorem dX11_prizes_4 : decode cX11_prizes 4 = .ok (.aload_n 0, 1) := by decide +kernel
theorem dX11_prizes_5 : decode cX11_prizes 5 = .ok (.getfield 10, 3) := by decide +kernel
theorem dX11_prizes_8 : decode cX11_prizes 8 = .ok (.invokevirtual 129, 3) := by decide +kernel
theorem dX11_prizes_11 : decode cX11_prizes 11 = .ok (.istore_n 1, 1) := by decide +kernel
theorem dX11_prizes_12 : decode cX11_prizes 12 = .ok (.aload_n 0, 1) := by decide +kernel
theorem dX11_prizes_13 : decode cX11_prizes 13 = .ok (.getfield 10, 3) := by decide +kernel
theorem dX11_prizes_16 : decode cX11_prizes 16 = .ok (.invokevirtual 104, 3) := by decide +kernel
theorem dX11_prizes_19 : decode cX11_prizes 19 = .ok (.iload_n 1, 1) := by decide +kernel
theorem dX11_prizes_20 : decode cX11_prizes 20 = .ok (.ireturn, 1) := by decide +kernel
theorem dX11_fence_0 : decode cX11_fence 0 = .ok (.aload_n 0, 1) := by decide +kernel
theorem dX11_fence_1 : decode cX11_fence 1 = .ok (.getfield 26, 3) := by decide +kernel
theorem dX11_fence_4 : decode cX11_fence 4 = .ok (.iload_n 1, 1) := by decide +kernel
theorem dX11_fence_5 : decode cX11_fence 5 = .ok (.invokevirtual 132, 3) := by decide +kernel
theorem dX11_fence_8 : decode cX11_fence 8 = .ok (.ifCond .eq 12, 3) := by decide +kernel
theorem dX11_fence_11 : decode cX11_fence 11 = .ok (.iload_n 2, 1) := by decide +kernel
theorem dX11_fence_12 : decode cX11_fence 12 = .ok (.ifCond .lt 8, 3) := by decide +kernel
theorem dX11_fence_15 : decode cX11_fence 15 = .ok (.iload_n 2, 1) := by decide +kernel
theorem dX11_fence_16 : decode cX11_fence 16 = .ok (.iconst 2, 1) := by decide +kernel
theorem dX11_fence_17 : decode cX11_fence 17 = .ok (.if_icmp .le 11, 3) := by decide +kernel
theorem dX11_fence_20 : decode cX11_fence 20 = .ok (.new 135, 3) := by decide +kernel
theorem dX11_fence_23 : decode cX11_fence 23 = .ok (.dup, 1) := by decide +kernel
theorem dX11_fence_24 : decode cX11_fence 24 = .ok (.invokespecial 137, 3) := by decide +kernel
theorem dX11_fence_27 : decode cX11_fence 27 = .ok (.athrow, 1) := by decide +kernel
theorem dX11_fence_28 : decode cX11_fence 28 = .ok (.iload_n 2, 1) := by decide +kernel
theorem dX11_fence_29 : decode cX11_fence 29 = .ok (.ifCond .ne 13, 3) := by decide +kernel
theorem dX11_fence_32 : decode cX11_fence 32 = .ok (.aload_n 0, 1) := by decide +kernel
theorem dX11_fence_33 : decode cX11_fence 33 = .ok (.getfield 26, 3) := by decide +kernel
theorem dX11_fence_36 : decode cX11_fence 36 = .ok (.getfield 138, 3) := by decide +kernel
theorem dX11_fence_39 : decode cX11_fence 39 = .ok (.iload_n 1, 1) := by decide +kernel
theorem dX11_fence_40 : decode cX11_fence 40 = .ok (.iaload, 1) := by decide +kernel
theorem dX11_fence_41 : decode cX11_fence 41 = .ok (.ireturn, 1) := by decide +kernel
theorem dX11_fence_42 : decode cX11_fence 42 = .ok (.iload_n 2, 1) := by decide +kernel
theorem dX11_fence_43 : decode cX11_fence 43 = .ok (.iconst 1, 1) := by decide +kernel
theorem dX11_fence_44 : decode cX11_fence 44 = .ok (.if_icmp .ne 15, 3) := by decide +kernel
theorem dX11_fence_47 : decode cX11_fence 47 = .ok (.aload_n 0, 1) := by decide +kernel
theorem dX11_fence_48 : decode cX11_fence 48 = .ok (.getfield 26, 3) := by decide +kernel
theorem dX11_fence_51 : decode cX11_fence 51 = .ok (.getfield 141, 3) := by decide +kernel
theorem dX11_fence_54 : decode cX11_fence 54 = .ok (.iload_n 1, 1) := by decide +kernel
theorem dX11_fence_55 : decode cX11_fence 55 = .ok (.iaload, 1) := by decide +kernel
theorem dX11_fence_56 : decode cX11_fence 56 = .ok (.goto 12, 3) := by decide +kernel
theorem dX11_fence_59 : decode cX11_fence 59 = .ok (.aload_n 0, 1) := by decide +kernel
theorem dX11_fence_60 : decode cX11_fence 60 = .ok (.getfield 26, 3) := by decide +kernel
theorem dX11_fence_63 : decode cX11_fence 63 = .ok (.getfield 144, 3) := by decide +kernel
theorem dX11_fence_66 : decode cX11_fence 66 = .ok (.iload_n 1, 1) := by decide +kernel
theorem dX11_fence_67 : decode cX11_fence 67 = .ok (.iaload, 1) := by decide +kernel
theorem dX11_fence_68 : decode cX11_fence 68 = .ok (.ireturn, 1) := by decide +kernel
theorem dX11_horse_0 : decode cX11_horse 0 = .ok (.aload_n 0, 1) := by decide +kernel
theorem dX11_horse_1 : decode cX11_horse 1 = .ok (.getfield 26, 3) := by decide +kernel
theorem dX11_horse_4 : decode cX11_horse 4 = .ok (.iload_n 1, 1) := by decide +kernel
theorem dX11_horse_5 : decode cX11_horse 5 = .ok (.invokevirtual 147, 3) := by decide +kernel
theorem dX11_horse_8 : decode cX11_horse 8 = .ok (.ifCond .eq 13, 3) := by decide +kernel
theorem dX11_horse_11 : decode cX11_horse 11 = .ok (.iload_n 2, 1) := by decide +kernel
theorem dX11_horse_12 : decode cX11_horse 12 = .ok (.ifCond .lt 9, 3) := by decide +kernel
theorem dX11_horse_15 : decode cX11_horse 15 = .ok (.iload_n 2, 1) := by decide +kernel
theorem dX11_horse_16 : decode cX11_horse 16 = .ok (.bipush 6, 2) := by decide +kernel
theorem dX11_horse_18 : decode cX11_horse 18 = .ok (.if_icmp .lt 11, 3) := by decide +kernel
theorem dX11_horse_21 : decode cX11_horse 21 = .ok (.new 135, 3) := by decide +kernel
theorem dX11_horse_24 : decode cX11_horse 24 = .ok (.dup, 1) := by decide +kernel
theorem dX11_horse_25 : decode cX11_horse 25 = .ok (.invokespecial 137, 3) := by decide +kernel
theorem dX11_horse_28 : decode cX11_horse 28 = .ok (.athrow, 1) := by decide +kernel
theorem dX11_horse_29 : decode cX11_horse 29 = .ok (.aload_n 0, 1) := by decide +kernel
theorem dX11_horse_30 : decode cX11_horse 30 = .ok (.getfield 26, 3) := by decide +kernel
theorem dX11_horse_33 : decode cX11_horse 33 = .ok (.iload_n 1, 1) := by decide +kernel
theorem dX11_horse_34 : decode cX11_horse 34 = .ok (.iload_n 2, 1) := by decide +kernel
theorem dX11_horse_35 : decode cX11_horse 35 = .ok (.invokevirtual 150, 3) := by decide +kernel
theorem dX11_horse_38 : decode cX11_horse 38 = .ok (.ireturn, 1) := by decide +kernel
theorem dX11_raise_0 : decode cX11_raise 0 = .ok (.aload_n 0, 1) := by decide +kernel
theorem dX11_raise_1 : decode cX11_raise 1 = .ok (.getfield 26, 3) := by decide +kernel
theorem dX11_raise_4 : decode cX11_raise 4 = .ok (.iload_n 1, 1) := by decide +kernel
theorem dX11_raise_5 : decode cX11_raise 5 = .ok (.invokevirtual 132, 3) := by decide +kernel
theorem dX11_raise_8 : decode cX11_raise 8 = .ok (.ifCond .eq 13, 3) := by decide +kernel
theorem dX11_raise_11 : decode cX11_raise 11 = .ok (.iload_n 2, 1) := by decide +kernel
theorem dX11_raise_12 : decode cX11_raise 12 = .ok (.ifCond .lt 9, 3) := by decide +kernel
theorem dX11_raise_15 : decode cX11_raise 15 = .ok (.iload_n 2, 1) := by decide +kernel
theorem dX11_raise_16 : decode cX11_raise 16 = .ok (.bipush 9, 2) := by decide +kernel
theorem dX11_raise_18 : decode cX11_raise 18 = .ok (.if_icmp .le 5, 3) := by decide +kernel
theorem dX11_raise_21 : decode cX11_raise 21 = .ok (.iconst (-1), 1) := by decide +kernel
theorem dX11_raise_22 : decode cX11_raise 22 = .ok (.ireturn, 1) := by decide +kernel
theorem dX11_raise_23 : decode cX11_raise 23 = .ok (.aload_n 0, 1) := by decide +kernel
theorem dX11_raise_24 : decode cX11_raise 24 = .ok (.getfield 26, 3) := by decide +kernel
theorem dX11_raise_27 : decode cX11_raise 27 = .ok (.getfield 141, 3) := by decide +kernel
theorem dX11_raise_30 : decode cX11_raise 30 = .ok (.iload_n 1, 1) := by decide +kernel
theorem dX11_raise_31 : decode cX11_raise 31 = .ok (.iaload, 1) := by decide +kernel
theorem dX11_raise_32 : decode cX11_raise 32 = .ok (.istore_n 3, 1) := by decide +kernel
theorem dX11_raise_33 : decode cX11_raise 33 = .ok (.aload_n 0, 1) := by decide +kernel
theorem dX11_raise_34 : decode cX11_raise 34 = .ok (.getfield 26, 3) := by decide +kernel
theorem dX11_raise_37 : decode cX11_raise 37 = .ok (.getfield 141, 3) := by decide +kernel
theorem dX11_raise_40 : decode cX11_raise 40 = .ok (.iload_n 1, 1) := by decide +kernel
theorem dX11_raise_41 : decode cX11_raise 41 = .ok (.iload_n 2, 1) := by decide +kernel
theorem dX11_raise_42 : decode cX11_raise 42 = .ok (.iastore, 1) := by decide +kernel
theorem dX11_raise_43 : decode cX11_raise 43 = .ok (.iload_n 3, 1) := by decide +kernel
theorem dX11_raise_44 : decode cX11_raise 44 = .ok (.ireturn, 1) := by decide +kernel
theorem dX11_move_0 : decode cX11_move 0 = .ok (.aload_n 0, 1) := by decide +kernel
theorem dX11_move_1 : decode cX11_move 1 = .ok (.getfield 26, 3) := by decide +kernel
theorem dX11_move_4 : decode cX11_move 4 = .ok (.iload_n 1, 1) := by decide +kernel
theorem dX11_move_5 : decode cX11_move 5 = .ok (.invokevirtual 132, 3) := by decide +kernel
theorem dX11_move_8 : decode cX11_move 8 = .ok (.ifCond .eq 15, 3) := by decide +kernel
theorem dX11_move_11 : decode cX11_move 11 = .ok (.iload_n 2, 1) := by decide +kernel
theorem dX11_move_12 : decode cX11_move 12 = .ok (.bipush 10, 2) := by decide +kernel
theorem dX11_move_14 : decode cX11_move 14 = .ok (.if_icmp .lt 9, 3) := by decide +kernel
theorem dX11_move_17 : decode cX11_move 17 = .ok (.iload_n 2, 1) := by decide +kernel
theorem dX11_move_18 : decode cX11_move 18 = .ok (.bipush 99, 2) := by decide +kernel
theorem dX11_move_20 : decode cX11_move 20 = .ok (.if_icmp .le 5, 3) := by decide +kernel
theorem dX11_move_23 : decode cX11_move 23 = .ok (.iconst (-1), 1) := by decide +kernel
theorem dX11_move_24 : decode cX11_move 24 = .ok (.ireturn, 1) := by decide +kernel
theorem dX11_move_25 : decode cX11_move 25 = .ok (.aload_n 0, 1) := by decide +kernel
theorem dX11_move_26 : decode cX11_move 26 = .ok (.getfield 26, 3) := by decide +kernel
theorem dX11_move_29 : decode cX11_move 29 = .ok (.getfield 144, 3) := by decide +kernel
theorem dX11_move_32 : decode cX11_move 32 = .ok (.iload_n 1, 1) := by decide +kernel
theorem dX11_move_33 : decode cX11_move 33 = .ok (.iaload, 1) := by decide +kernel
theorem dX11_move_34 : decode cX11_move 34 = .ok (.istore_n 3, 1) := by decide +kernel
theorem dX11_move_35 : decode cX11_move 35 = .ok (.aload_n 0, 1) := by decide +kernel
theorem dX11_move_36 : decode cX11_move 36 = .ok (.getfield 26, 3) := by decide +kernel
theorem dX11_move_39 : decode cX11_move 39 = .ok (.getfield 144, 3) := by decide +kernel
theorem dX11_move_42 : decode cX11_move 42 = .ok (.iload_n 1, 1) := by decide +kernel
theorem dX11_move_43 : decode cX11_move 43 = .ok (.iload_n 2, 1) := by decide +kernel
theorem dX11_move_44 : decode cX11_move 44 = .ok (.iastore, 1) := by decide +kernel
theorem dX11_move_45 : decode cX11_move 45 = .ok (.iload_n 3, 1) := by decide +kernel
theorem dX11_move_46 : decode cX11_move 46 = .ok (.ireturn, 1) := by decide +kernel
theorem dX11_allow_0 : decode cX11_allow 0 = .ok (.iload_n 1, 1) := by decide +kernel
theorem dX11_allow_1 : decode cX11_allow 1 = .ok (.ifCond .lt 10, 3) := by decide +kernel
theorem dX11_allow_4 : decode cX11_allow 4 = .ok (.iload_n 1, 1) := by decide +kernel
theorem dX11_allow_5 : decode cX11_allow 5 = .ok (.sipush 9999, 3) := by decide +kernel
theorem dX11_allow_8 : decode cX11_allow 8 = .ok (.if_icmp .le 5, 3) := by decide +kernel
theorem dX11_allow_11 : decode cX11_allow 11 = .ok (.iconst (-1), 1) := by decide +kernel
theorem dX11_allow_12 : decode cX11_allow 12 = .ok (.ireturn, 1) := by decide +kernel
theorem dX11_allow_13 : decode cX11_allow 13 = .ok (.aload_n 0, 1) := by decide +kernel
theorem dX11_allow_14 : decode cX11_allow 14 = .ok (.getfield 26, 3) := by decide +kernel
theorem dX11_allow_17 : decode cX11_allow 17 = .ok (.getfield 154, 3) := by decide +kernel
theorem dX11_allow_20 : decode cX11_allow 20 = .ok (.istore_n 2, 1) := by decide +kernel
theorem dX11_allow_21 : decode cX11_allow 21 = .ok (.aload_n 0, 1) := by decide +kernel
theorem dX11_allow_22 : decode cX11_allow 22 = .ok (.getfield 26, 3) := by decide +kernel
theorem dX11_allow_25 : decode cX11_allow 25 = .ok (.iload_n 1, 1) := by decide +kernel
theorem dX11_allow_26 : decode cX11_allow 26 = .ok (.putfield 154, 3) := by decide +kernel
theorem dX11_allow_29 : decode cX11_allow 29 = .ok (.iload_n 2, 1) := by decide +kernel
theorem dX11_allow_30 : decode cX11_allow 30 = .ok (.ireturn, 1) := by decide +kernel
theorem dX11_sheet_0 : decode cX11_sheet 0 = .ok (.iload_n 1, 1) := by decide +kernel
theorem dX11_sheet_1 : decode cX11_sheet 1 = .ok (.ifCond .lt 14, 3) := by decide +kernel
theorem dX11_sheet_4 : decode cX11_sheet 4 = .ok (.iload_n 1, 1) := by decide +kernel
theorem dX11_sheet_5 : decode cX11_sheet 5 = .ok (.iconst 3, 1) := by decide +kernel
theorem dX11_sheet_6 : decode cX11_sheet 6 = .ok (.if_icmp .gt 9, 3) := by decide +kernel
theorem dX11_sheet_9 : decode cX11_sheet 9 = .ok (.iload_n 2, 1) := by decide +kernel
theorem dX11_sheet_10 : decode cX11_sheet 10 = .ok (.bipush 8, 2) := by decide +kernel
theorem dX11_sheet_12 : decode cX11_sheet 12 = .ok (.if_icmp .le 5, 3) := by decide +kernel
theorem dX11_sheet_15 : decode cX11_sheet 15 = .ok (.iconst (-1), 1) := by decide +kernel
theorem dX11_sheet_16 : decode cX11_sheet 16 = .ok (.ireturn, 1) := by decide +kernel
theorem dX11_sheet_17 : decode cX11_sheet 17 = .ok (.iload_n 1, 1) := by decide +kernel
theorem dX11_sheet_18 : decode cX11_sheet 18 = .ok (.iconst 3, 1) := by decide +kernel
theorem dX11_sheet_19 : decode cX11_sheet 19 = .ok (.if_icmp .ne 7, 3) := by decide +kernel
theorem dX11_sheet_22 : decode cX11_sheet 22 = .ok (.iconst 1, 1) := by decide +kernel
theorem dX11_sheet_23 : decode cX11_sheet 23 = .ok (.goto 4, 3) := by decide +kernel
theorem dX11_sheet_26 : decode cX11_sheet 26 = .ok (.iconst 0, 1) := by decide +kernel
theorem dX11_sheet_27 : decode cX11_sheet 27 = .ok (.istore 5, 2) := by decide +kernel
theorem dX11_sheet_29 : decode cX11_sheet 29 = .ok (.iload 5, 2) := by decide +kernel
theorem dX11_sheet_31 : decode cX11_sheet 31 = .ok (.ifCond .ne 10, 3) := by decide +kernel
theorem dX11_sheet_34 : decode cX11_sheet 34 = .ok (.iload_n 2, 1) := by decide +kernel
theorem dX11_sheet_35 : decode cX11_sheet 35 = .ok (.ifCond .ge 6, 3) := by decide +kernel
theorem dX11_sheet_38 : decode cX11_sheet 38 = .ok (.bipush (-2), 2) := by decide +kernel
theorem dX11_sheet_40 : decode cX11_sheet 40 = .ok (.ireturn, 1) := by decide +kernel
theorem dX11_sheet_41 : decode cX11_sheet 41 = .ok (.iload 5, 2) := by decide +kernel
theorem dX11_sheet_43 : decode cX11_sheet 43 = .ok (.ifCond .eq 7, 3) := by decide +kernel
theorem dX11_sheet_46 : decode cX11_sheet 46 = .ok (.iconst 0, 1) := by decide +kernel
theorem dX11_sheet_47 : decode cX11_sheet 47 = .ok (.goto 4, 3) := by decide +kernel
theorem dX11_sheet_50 : decode cX11_sheet 50 = .ok (.iload_n 2, 1) := by decide +kernel
theorem dX11_sheet_51 : decode cX11_sheet 51 = .ok (.istore 6, 2) := by decide +kernel
theorem dX11_sheet_53 : decode cX11_sheet 53 = .ok (.iconst 0, 1) := by decide +kernel
theorem dX11_sheet_54 : decode cX11_sheet 54 = .ok (.istore 7, 2) := by decide +kernel
theorem dX11_sheet_56 : decode cX11_sheet 56 = .ok (.iconst 0, 1) := by decide +kernel
theorem dX11_sheet_57 : decode cX11_sheet 57 = .ok (.istore 8, 2) := by decide +kernel
theorem dX11_sheet_59 : decode cX11_sheet 59 = .ok (.iload 8, 2) := by decide +kernel
theorem dX11_sheet_61 : decode cX11_sheet 61 = .ok (.aload_n 0, 1) := by decide +kernel
theorem dX11_sheet_62 : decode cX11_sheet 62 = .ok (.getfield 26, 3) := by decide +kernel
theorem dX11_sheet_65 : decode cX11_sheet 65 = .ok (.getfield 157, 3) := by decide +kernel
theorem dX11_sheet_68 : decode cX11_sheet 68 = .ok (.if_icmp .ge 52, 3) := by decide +kernel
theorem dX11_sheet_71 : decode cX11_sheet 71 = .ok (.iload 8, 2) := by decide +kernel
theorem dX11_sheet_73 : decode cX11_sheet 73 = .ok (.iload 6, 2) := by decide +kernel
theorem dX11_sheet_75 : decode cX11_sheet 75 = .ok (.if_icmp .ge 17, 3) := by decide +kernel
theorem dX11_sheet_78 : decode cX11_sheet 78 = .ok (.iload_n 1, 1) := by decide +kernel
theorem dX11_sheet_79 : decode cX11_sheet 79 = .ok (.iload_n 3, 1) := by decide +kernel
theorem dX11_sheet_80 : decode cX11_sheet 80 = .ok (.iload 8, 2) := by decide +kernel
theorem dX11_sheet_82 : decode cX11_sheet 82 = .ok (.iload 4, 2) := by decide +kernel
theorem dX11_sheet_84 : decode cX11_sheet 84 = .ok (.imul, 1) := by decide +kernel
theorem dX11_sheet_85 : decode cX11_sheet 85 = .ok (.iadd, 1) := by decide +kernel
theorem dX11_sheet_86 : decode cX11_sheet 86 = .ok (.invokestatic 160, 3) := by decide +kernel
theorem dX11_sheet_89 : decode cX11_sheet 89 = .ok (.goto 4, 3) := by decide +kernel
theorem dX11_sheet_92 : decode cX11_sheet 92 = .ok (.iconst 0, 1) := by decide +kernel
theorem dX11_sheet_93 : decode cX11_sheet 93 = .ok (.istore 9, 2) := by decide +kernel
theorem dX11_sheet_95 : decode cX11_sheet 95 = .ok (.aload_n 0, 1) := by decide +kernel
theorem dX11_sheet_96 : decode cX11_sheet 96 = .ok (.getfield 26, 3) := by decide +kernel
theorem dX11_sheet_99 : decode cX11_sheet 99 = .ok (.getfield 141, 3) := by decide +kernel
theorem dX11_sheet_102 : decode cX11_sheet 102 = .ok (.iload 8, 2) := by decide +kernel
theorem dX11_sheet_104 : decode cX11_sheet 104 = .ok (.iload 9, 2) := by decide +kernel
theorem dX11_sheet_106 : decode cX11_sheet 106 = .ok (.iastore, 1) := by decide +kernel
theorem dX11_sheet_107 : decode cX11_sheet 107 = .ok (.iload 7, 2) := by decide +kernel
theorem dX11_sheet_109 : decode cX11_sheet 109 = .ok (.iload 9, 2) := by decide +kernel
theorem dX11_sheet_111 : decode cX11_sheet 111 = .ok (.iadd, 1) := by decide +kernel
theorem dX11_sheet_112 : decode cX11_sheet 112 = .ok (.istore 7, 2) := by decide +kernel
theorem dX11_sheet_114 : decode cX11_sheet 114 = .ok (.iinc 8 1, 3) := by decide +kernel
theorem dX11_sheet_117 : decode cX11_sheet 117 = .ok (.goto (-58), 3) := by decide +kernel
theorem dX11_sheet_120 : decode cX11_sheet 120 = .ok (.iload 5, 2) := by decide +kernel
theorem dX11_sheet_122 : decode cX11_sheet 122 = .ok (.ifCond .eq 8, 3) := by decide +kernel
theorem dX11_sheet_125 : decode cX11_sheet 125 = .ok (.bipush (-3), 2) := by decide +kernel
theorem dX11_sheet_127 : decode cX11_sheet 127 = .ok (.goto 5, 3) := by decide +kernel
theorem dX11_sheet_130 : decode cX11_sheet 130 = .ok (.iload 7, 2) := by decide +kernel
theorem dX11_sheet_132 : decode cX11_sheet 132 = .ok (.ireturn, 1) := by decide +kernel
theorem dX11_sheetEntry_0 : decode cX11_sheetEntry 0 = .ok (.iload_n 1, 1) := by decide +kernel
theorem dX11_sheetEntry_1 : decode cX11_sheetEntry 1 = .ok (.istore_n 2, 1) := by decide +kernel
theorem dX11_sheetEntry_2 : decode cX11_sheetEntry 2 = .ok (.iload_n 0, 1) := by decide +kernel
theorem dX11_sheetEntry_3 : decode cX11_sheetEntry 3 = .ok (.ifCond .ne 9, 3) := by decide +kernel
theorem dX11_sheetEntry_6 : decode cX11_sheetEntry 6 = .ok (.iload_n 1, 1) := by decide +kernel
theorem dX11_sheetEntry_7 : decode cX11_sheetEntry 7 = .ok (.i2b, 1) := by decide +kernel
theorem dX11_sheetEntry_8 : decode cX11_sheetEntry 8 = .ok (.istore_n 2, 1) := by decide +kernel
theorem dX11_sheetEntry_9 : decode cX11_sheetEntry 9 = .ok (.goto 11, 3) := by decide +kernel
theorem dX11_sheetEntry_12 : decode cX11_sheetEntry 12 = .ok (.iload_n 0, 1) := by decide +kernel
theorem dX11_sheetEntry_13 : decode cX11_sheetEntry 13 = .ok (.iconst 1, 1) := by decide +kernel
theorem dX11_sheetEntry_14 : decode cX11_sheetEntry 14 = .ok (.if_icmp .ne 6, 3) := by decide +kernel
theorem dX11_sheetEntry_17 : decode cX11_sheetEntry 17 = .ok (.iload_n 1, 1) := by decide +kernel
theorem dX11_sheetEntry_18 : decode cX11_sheetEntry 18 = .ok (.i2s, 1) := by decide +kernel
theorem dX11_sheetEntry_19 : decode cX11_sheetEntry 19 = .ok (.istore_n 2, 1) := by decide +kernel
theorem dX11_sheetEntry_20 : decode cX11_sheetEntry 20 = .ok (.iconst 0, 1) := by decide +kernel
theorem dX11_sheetEntry_21 : decode cX11_sheetEntry 21 = .ok (.bipush 9, 2) := by decide +kernel
theorem dX11_sheetEntry_23 : decode cX11_sheetEntry 23 = .ok (.iload_n 2, 1) := by decide +kernel
theorem dX11_sheetEntry_24 : decode cX11_sheetEntry 24 = .ok (.invokestatic 163, 3) := by decide +kernel
theorem dX11_sheetEntry_27 : decode cX11_sheetEntry 27 = .ok (.invokestatic 168, 3) := by decide +kernel
theorem dX11_sheetEntry_30 : decode cX11_sheetEntry 30 = .ok (.ireturn, 1) := by decide +kernel
theorem dX11_jump_0 : decode cX11_jump 0 = .ok (.aload_n 0, 1) := by decide +kernel
theorem dX11_jump_1 : decode cX11_jump 1 = .ok (.getfield 26, 3) := by decide +kernel
theorem dX11_jump_4 : decode cX11_jump 4 = .ok (.iload_n 1, 1) := by decide +kernel
theorem dX11_jump_5 : decode cX11_jump 5 = .ok (.invokevirtual 147, 3) := by decide +kernel
theorem dX11_jump_8 : decode cX11_jump 8 = .ok (.ifCond .eq 24, 3) := by decide +kernel
theorem dX11_jump_11 : decode cX11_jump 11 = .ok (.aload_n 0, 1) := by decide +kernel
theorem dX11_jump_12 : decode cX11_jump 12 = .ok (.getfield 26, 3) := by decide +kernel
theorem dX11_jump_15 : decode cX11_jump 15 = .ok (.iload_n 2, 1) := by decide +kernel
theorem dX11_jump_16 : decode cX11_jump 16 = .ok (.invokevirtual 132, 3) := by decide +kernel
theorem dX11_jump_19 : decode cX11_jump 19 = .ok (.ifCond .eq 13, 3) := by decide +kernel
theorem dX11_jump_22 : decode cX11_jump 22 = .ok (.iload_n 3, 1) := by decide +kernel
theorem dX11_jump_23 : decode cX11_jump 23 = .ok (.ifCond .lt 9, 3) := by decide +kernel
theorem dX11_jump_26 : decode cX11_jump 26 = .ok (.iload_n 3, 1) := by decide +kernel
theorem dX11_jump_27 : decode cX11_jump 27 = .ok (.bipush 8, 2) := by decide +kernel
theorem dX11_jump_29 : decode cX11_jump 29 = .ok (.if_icmp .lt 5, 3) := by decide +kernel
theorem dX11_jump_32 : decode cX11_jump 32 = .ok (.iconst (-1), 1) := by decide +kernel
theorem dX11_jump_33 : decode cX11_jump 33 = .ok (.ireturn, 1) := by decide +kernel
theorem dX11_jump_34 : decode cX11_jump 34 = .ok (.aload_n 0, 1) := by decide +kernel
theorem dX11_jump_35 : decode cX11_jump 35 = .ok (.getfield 19, 3) := by decide +kernel
theorem dX11_jump_38 : decode cX11_jump 38 = .ok (.invokevirtual 171, 3) := by decide +kernel
theorem dX11_jump_41 : decode cX11_jump 41 = .ok (.aload_n 0, 1) := by decide +kernel
theorem dX11_jump_42 : decode cX11_jump 42 = .ok (.getfield 19, 3) := by decide +kernel
theorem dX11_jump_45 : decode cX11_jump 45 = .ok (.aload_n 0, 1) := by decide +kernel
theorem dX11_jump_46 : decode cX11_jump 46 = .ok (.getfield 26, 3) := by decide +kernel
theorem dX11_jump_49 : decode cX11_jump 49 = .ok (.iload_n 1, 1) := by decide +kernel
theorem dX11_jump_50 : decode cX11_jump 50 = .ok (.iload_n 2, 1) := by decide +kernel
theorem dX11_jump_51 : decode cX11_jump 51 = .ok (.invokevirtual 174, 3) := by decide +kernel
theorem dX11_jump_54 : decode cX11_jump 54 = .ok (.i2l, 1) := by decide +kernel
theorem dX11_jump_55 : decode cX11_jump 55 = .ok (.invokevirtual 177, 3) := by decide +kernel
theorem dX11_jump_58 : decode cX11_jump 58 = .ok (.aload_n 0, 1) := by decide +kernel
theorem dX11_jump_59 : decode cX11_jump 59 = .ok (.getfield 19, 3) := by decide +kernel
theorem dX11_jump_62 : decode cX11_jump 62 = .ok (.aload_n 0, 1) := by decide +kernel
theorem dX11_jump_63 : decode cX11_jump 63 = .ok (.getfield 26, 3) := by decide +kernel
theorem dX11_jump_66 : decode cX11_jump 66 = .ok (.iload_n 2, 1) := by decide +kernel
theorem dX11_jump_67 : decode cX11_jump 67 = .ok (.iload_n 3, 1) := by decide +kernel
theorem dX11_jump_68 : decode cX11_jump 68 = .ok (.invokevirtual 181, 3) := by decide +kernel
theorem dX11_jump_71 : decode cX11_jump 71 = .ok (.i2l, 1) := by decide +kernel
theorem dX11_jump_72 : decode cX11_jump 72 = .ok (.invokevirtual 177, 3) := by decide +kernel
theorem dX11_jump_75 : decode cX11_jump 75 = .ok (.aload_n 0, 1) := by decide +kernel
theorem dX11_jump_76 : decode cX11_jump 76 = .ok (.getfield 19, 3) := by decide +kernel
theorem dX11_jump_79 : decode cX11_jump 79 = .ok (.aload_n 0, 1) := by decide +kernel
theorem dX11_jump_80 : decode cX11_jump 80 = .ok (.getfield 26, 3) := by decide +kernel
theorem dX11_jump_83 : decode cX11_jump 83 = .ok (.iload_n 1, 1) := by decide +kernel
theorem dX11_jump_84 : decode cX11_jump 84 = .ok (.iload_n 2, 1) := by decide +kernel
theorem dX11_jump_85 : decode cX11_jump 85 = .ok (.invokevirtual 184, 3) := by decide +kernel
theorem dX11_jump_88 : decode cX11_jump 88 = .ok (.i2l, 1) := by decide +kernel
theorem dX11_jump_89 : decode cX11_jump 89 = .ok (.invokevirtual 177, 3) := by decide +kernel
theorem dX11_jump_92 : decode cX11_jump 92 = .ok (.aload_n 0, 1) := by decide +kernel
theorem dX11_jump_93 : decode cX11_jump 93 = .ok (.getfield 26, 3) := by decide +kernel
theorem dX11_jump_96 : decode cX11_jump 96 = .ok (.iload_n 1, 1) := by decide +kernel
theorem dX11_jump_97 : decode cX11_jump 97 = .ok (.iload_n 2, 1) := by decide +kernel
theorem dX11_jump_98 : decode cX11_jump 98 = .ok (.iload_n 3, 1) := by decide +kernel
theorem dX11_jump_99 : decode cX11_jump 99 = .ok (.invokevirtual 187, 3) := by decide +kernel
theorem dX11_jump_102 : decode cX11_jump 102 = .ok (.ireturn, 1) := by decide +kernel
theorem dX11_strides_0 : decode cX11_strides 0 = .ok (.aload_n 0, 1) := by decide +kernel
theorem dX11_strides_1 : decode cX11_strides 1 = .ok (.getfield 26, 3) := by decide +kernel
theorem dX11_strides_4 : decode cX11_strides 4 = .ok (.iload_n 1, 1) := by decide +kernel
theorem dX11_strides_5 : decode cX11_strides 5 = .ok (.invokevirtual 147, 3) := by decide +kernel
theorem dX11_strides_8 : decode cX11_strides 8 = .ok (.ifCond .eq 14, 3) := by decide +kernel
theorem dX11_strides_11 : decode cX11_strides 11 = .ok (.aload_n 0, 1) := by decide +kernel
theorem dX11_strides_12 : decode cX11_strides 12 = .ok (.getfield 26, 3) := by decide +kernel
theorem dX11_strides_15 : decode cX11_strides 15 = .ok (.iload_n 2, 1) := by decide +kernel
theorem dX11_strides_16 : decode cX11_strides 16 = .ok (.invokevirtual 132, 3) := by decide +kernel
theorem dX11_strides_19 : decode cX11_strides 19 = .ok (.ifCond .ne 5, 3) := by decide +kernel
theorem dX11_strides_22 : decode cX11_strides 22 = .ok (.iconst (-1), 1) := by decide +kernel
theorem dX11_strides_23 : decode cX11_strides 23 = .ok (.ireturn, 1) := by decide +kernel
theorem dX11_strides_24 : decode cX11_strides 24 = .ok (.aload_n 0, 1) := by decide +kernel
theorem dX11_strides_25 : decode cX11_strides 25 = .ok (.getfield 26, 3) := by decide +kernel
theorem dX11_strides_28 : decode cX11_strides 28 = .ok (.iload_n 1, 1) := by decide +kernel
theorem dX11_strides_29 : decode cX11_strides 29 = .ok (.iconst 0, 1) := by decide +kernel
theorem dX11_strides_30 : decode cX11_strides 30 = .ok (.invokevirtual 150, 3) := by decide +kernel
theorem dX11_strides_33 : decode cX11_strides 33 = .ok (.istore_n 3, 1) := by decide +kernel
theorem dX11_strides_34 : decode cX11_strides 34 = .ok (.aload_n 0, 1) := by decide +kernel
theorem dX11_strides_35 : decode cX11_strides 35 = .ok (.getfield 26, 3) := by decide +kernel
theorem dX11_strides_38 : decode cX11_strides 38 = .ok (.getfield 144, 3) := by decide +kernel
theorem dX11_strides_41 : decode cX11_strides 41 = .ok (.iload_n 2, 1) := by decide +kernel
theorem dX11_strides_42 : decode cX11_strides 42 = .ok (.iaload, 1) := by decide +kernel
theorem dX11_strides_43 : decode cX11_strides 43 = .ok (.istore 4, 2) := by decide +kernel
theorem dX11_strides_45 : decode cX11_strides 45 = .ok (.iload_n 3, 1) := by decide +kernel
theorem dX11_strides_46 : decode cX11_strides 46 = .ok (.ifCond .le 10, 3) := by decide +kernel
theorem dX11_strides_49 : decode cX11_strides 49 = .ok (.iload 4, 2) := by decide +kernel
theorem dX11_strides_51 : decode cX11_strides 51 = .ok (.iload_n 3, 1) := by decide +kernel
theorem dX11_strides_52 : decode cX11_strides 52 = .ok (.idiv, 1) := by decide +kernel
theorem dX11_strides_53 : decode cX11_strides 53 = .ok (.goto 4, 3) := by decide +kernel
theorem dX11_strides_56 : decode cX11_strides 56 = .ok (.iconst 0, 1) := by decide +kernel
theorem dX11_strides_57 : decode cX11_strides 57 = .ok (.istore 5, 2) := by decide +kernel
theorem dX11_strides_59 : decode cX11_strides 59 = .ok (.iload 4, 2) := by decide +kernel
theorem dX11_strides_61 : decode cX11_strides 61 = .ok (.iload 5, 2) := by decide +kernel
theorem dX11_strides_63 : decode cX11_strides 63 = .ok (.iload_n 3, 1) := by decide +kernel
theorem dX11_strides_64 : decode cX11_strides 64 = .ok (.imul, 1) := by decide +kernel
theorem dX11_strides_65 : decode cX11_strides 65 = .ok (.isub, 1) := by decide +kernel
theorem dX11_strides_66 : decode cX11_strides 66 = .ok (.istore 6, 2) := by decide +kernel
theorem dX11_strides_68 : decode cX11_strides 68 = .ok (.aload_n 0, 1) := by decide +kernel
theorem dX11_strides_69 : decode cX11_strides 69 = .ok (.getfield 26, 3) := by decide +kernel
theorem dX11_strides_72 : decode cX11_strides 72 = .ok (.iload_n 1, 1) := by decide +kernel
theorem dX11_strides_73 : decode cX11_strides 73 = .ok (.iload_n 2, 1) := by decide +kernel
theorem dX11_strides_74 : decode cX11_strides 74 = .ok (.invokevirtual 184, 3) := by decide +kernel
theorem dX11_strides_77 : decode cX11_strides 77 = .ok (.istore 7, 2) := by decide +kernel
theorem dX11_strides_79 : decode cX11_strides 79 = .ok (.iload 7, 2) := by decide +kernel
theorem dX11_strides_81 : decode cX11_strides 81 = .ok (.iload 6, 2) := by decide +kernel
theorem dX11_strides_83 : decode cX11_strides 83 = .ok (.if_icmp .ge 7, 3) := by decide +kernel
theorem dX11_strides_86 : decode cX11_strides 86 = .ok (.iconst 1, 1) := by decide +kernel
theorem dX11_strides_87 : decode cX11_strides 87 = .ok (.goto 4, 3) := by decide +kernel
theorem dX11_strides_90 : decode cX11_strides 90 = .ok (.iconst 0, 1) := by decide +kernel
theorem dX11_strides_91 : decode cX11_strides 91 = .ok (.istore 8, 2) := by decide +kernel
theorem dX11_strides_93 : decode cX11_strides 93 = .ok (.aload_n 0, 1) := by decide +kernel
theorem dX11_strides_94 : decode cX11_strides 94 = .ok (.getfield 19, 3) := by decide +kernel
theorem dX11_strides_97 : decode cX11_strides 97 = .ok (.invokevirtual 171, 3) := by decide +kernel
theorem dX11_strides_100 : decode cX11_strides 100 = .ok (.aload_n 0, 1) := by decide +kernel
theorem dX11_strides_101 : decode cX11_strides 101 = .ok (.getfield 19, 3) := by decide +kernel
theorem dX11_strides_104 : decode cX11_strides 104 = .ok (.iload 7, 2) := by decide +kernel
theorem dX11_strides_106 : decode cX11_strides 106 = .ok (.i2l, 1) := by decide +kernel
theorem dX11_strides_107 : decode cX11_strides 107 = .ok (.invokevirtual 177, 3) := by decide +kernel
theorem dX11_strides_110 : decode cX11_strides 110 = .ok (.aload_n 0, 1) := by decide +kernel
theorem dX11_strides_111 : decode cX11_strides 111 = .ok (.getfield 19, 3) := by decide +kernel
theorem dX11_strides_114 : decode cX11_strides 114 = .ok (.iload 8, 2) := by decide +kernel
theorem dX11_strides_116 : decode cX11_strides 116 = .ok (.i2l, 1) := by decide +kernel
theorem dX11_strides_117 : decode cX11_strides 117 = .ok (.invokevirtual 177, 3) := by decide +kernel
theorem dX11_strides_120 : decode cX11_strides 120 = .ok (.iload 5, 2) := by decide +kernel
theorem dX11_strides_122 : decode cX11_strides 122 = .ok (.iload 8, 2) := by decide +kernel
theorem dX11_strides_124 : decode cX11_strides 124 = .ok (.iadd, 1) := by decide +kernel
theorem dX11_strides_125 : decode cX11_strides 125 = .ok (.ireturn, 1) := by decide +kernel
theorem dX11_calm_0 : decode cX11_calm 0 = .ok (.aload_n 0, 1) := by decide +kernel
theorem dX11_calm_1 : decode cX11_calm 1 = .ok (.getfield 26, 3) := by decide +kernel
theorem dX11_calm_4 : decode cX11_calm 4 = .ok (.iload_n 1, 1) := by decide +kernel
theorem dX11_calm_5 : decode cX11_calm 5 = .ok (.invokevirtual 147, 3) := by decide +kernel
theorem dX11_calm_8 : decode cX11_calm 8 = .ok (.ifCond .eq 14, 3) := by decide +kernel
theorem dX11_calm_11 : decode cX11_calm 11 = .ok (.aload_n 0, 1) := by decide +kernel
theorem dX11_calm_12 : decode cX11_calm 12 = .ok (.getfield 26, 3) := by decide +kernel
theorem dX11_calm_15 : decode cX11_calm 15 = .ok (.iload_n 2, 1) := by decide +kernel
theorem dX11_calm_16 : decode cX11_calm 16 = .ok (.invokevirtual 132, 3) := by decide +kernel
theorem dX11_calm_19 : decode cX11_calm 19 = .ok (.ifCond .ne 5, 3) := by decide +kernel
theorem dX11_calm_22 : decode cX11_calm 22 = .ok (.iconst (-1), 1) := by decide +kernel
theorem dX11_calm_23 : decode cX11_calm 23 = .ok (.ireturn, 1) := by decide +kernel
theorem dX11_calm_24 : decode cX11_calm 24 = .ok (.aload_n 0, 1) := by decide +kernel
theorem dX11_calm_25 : decode cX11_calm 25 = .ok (.getfield 26, 3) := by decide +kernel
theorem dX11_calm_28 : decode cX11_calm 28 = .ok (.iload_n 1, 1) := by decide +kernel
theorem dX11_calm_29 : decode cX11_calm 29 = .ok (.iload_n 2, 1) := by decide +kernel
theorem dX11_calm_30 : decode cX11_calm 30 = .ok (.invokevirtual 174, 3) := by decide +kernel
theorem dX11_calm_33 : decode cX11_calm 33 = .ok (.istore_n 3, 1) := by decide +kernel
theorem dX11_calm_34 : decode cX11_calm 34 = .ok (.iconst 0, 1) := by decide +kernel
theorem dX11_calm_35 : decode cX11_calm 35 = .ok (.istore 4, 2) := by decide +kernel
theorem dX11_calm_37 : decode cX11_calm 37 = .ok (.iconst 0, 1) := by decide +kernel
theorem dX11_calm_38 : decode cX11_calm 38 = .ok (.istore 5, 2) := by decide +kernel
theorem dX11_calm_40 : decode cX11_calm 40 = .ok (.iconst 0, 1) := by decide +kernel
theorem dX11_calm_41 : decode cX11_calm 41 = .ok (.istore 6, 2) := by decide +kernel
theorem dX11_calm_43 : decode cX11_calm 43 = .ok (.iconst 0, 1) := by decide +kernel
theorem dX11_calm_44 : decode cX11_calm 44 = .ok (.istore 7, 2) := by decide +kernel
theorem dX11_calm_46 : decode cX11_calm 46 = .ok (.iload 7, 2) := by decide +kernel
theorem dX11_calm_48 : decode cX11_calm 48 = .ok (.bipush 8, 2) := by decide +kernel
theorem dX11_calm_50 : decode cX11_calm 50 = .ok (.if_icmp .ge 74, 3) := by decide +kernel
theorem dX11_calm_53 : decode cX11_calm 53 = .ok (.aload_n 0, 1) := by decide +kernel
theorem dX11_calm_54 : decode cX11_calm 54 = .ok (.getfield 26, 3) := by decide +kernel
theorem dX11_calm_57 : decode cX11_calm 57 = .ok (.iload_n 1, 1) := by decide +kernel
theorem dX11_calm_58 : decode cX11_calm 58 = .ok (.iload_n 2, 1) := by decide +kernel
theorem dX11_calm_59 : decode cX11_calm 59 = .ok (.iload 7, 2) := by decide +kernel
theorem dX11_calm_61 : decode cX11_calm 61 = .ok (.invokevirtual 187, 3) := by decide +kernel
theorem dX11_calm_64 : decode cX11_calm 64 = .ok (.iload_n 3, 1) := by decide +kernel
theorem dX11_calm_65 : decode cX11_calm 65 = .ok (.iadd, 1) := by decide +kernel
theorem dX11_calm_66 : decode cX11_calm 66 = .ok (.istore 8, 2) := by decide +kernel
theorem dX11_calm_68 : decode cX11_calm 68 = .ok (.aload_n 0, 1) := by decide +kernel
theorem dX11_calm_69 : decode cX11_calm 69 = .ok (.getfield 26, 3) := by decide +kernel
theorem dX11_calm_72 : decode cX11_calm 72 = .ok (.iload_n 2, 1) := by decide +kernel
theorem dX11_calm_73 : decode cX11_calm 73 = .ok (.iload 7, 2) := by decide +kernel
theorem dX11_calm_75 : decode cX11_calm 75 = .ok (.invokevirtual 181, 3) := by decide +kernel
theorem dX11_calm_78 : decode cX11_calm 78 = .ok (.istore 9, 2) := by decide +kernel
theorem dX11_calm_80 : decode cX11_calm 80 = .ok (.iload 7, 2) := by decide +kernel
theorem dX11_calm_82 : decode cX11_calm 82 = .ok (.ifCond .eq 24, 3) := by decide +kernel
theorem dX11_calm_85 : decode cX11_calm 85 = .ok (.iload 8, 2) := by decide +kernel
theorem dX11_calm_87 : decode cX11_calm 87 = .ok (.iload 5, 2) := by decide +kernel
theorem dX11_calm_89 : decode cX11_calm 89 = .ok (.if_icmp .lt 17, 3) := by decide +kernel
theorem dX11_calm_92 : decode cX11_calm 92 = .ok (.iload 8, 2) := by decide +kernel
theorem dX11_calm_94 : decode cX11_calm 94 = .ok (.iload 5, 2) := by decide +kernel
theorem dX11_calm_96 : decode cX11_calm 96 = .ok (.if_icmp .ne 22, 3) := by decide +kernel
theorem dX11_calm_99 : decode cX11_calm 99 = .ok (.iload 9, 2) := by decide +kernel
theorem dX11_calm_101 : decode cX11_calm 101 = .ok (.iload 6, 2) := by decide +kernel
theorem dX11_calm_103 : decode cX11_calm 103 = .ok (.if_icmp .ge 15, 3) := by decide +kernel
theorem dX11_calm_106 : decode cX11_calm 106 = .ok (.iload 7, 2) := by decide +kernel
theorem dX11_calm_108 : decode cX11_calm 108 = .ok (.istore 4, 2) := by decide +kernel
theorem dX11_calm_110 : decode cX11_calm 110 = .ok (.iload 8, 2) := by decide +kernel
theorem dX11_calm_112 : decode cX11_calm 112 = .ok (.istore 5, 2) := by decide +kernel
theorem dX11_calm_114 : decode cX11_calm 114 = .ok (.iload 9, 2) := by decide +kernel
theorem dX11_calm_116 : decode cX11_calm 116 = .ok (.istore 6, 2) := by decide +kernel
theorem dX11_calm_118 : decode cX11_calm 118 = .ok (.iinc 7 1, 3) := by decide +kernel
theorem dX11_calm_121 : decode cX11_calm 121 = .ok (.goto (-75), 3) := by decide +kernel
theorem dX11_calm_124 : decode cX11_calm 124 = .ok (.aload_n 0, 1) := by decide +kernel
theorem dX11_calm_125 : decode cX11_calm 125 = .ok (.getfield 19, 3) := by decide +kernel
theorem dX11_calm_128 : decode cX11_calm 128 = .ok (.invokevirtual 171, 3) := by decide +kernel
theorem dX11_calm_131 : decode cX11_calm 131 = .ok (.aload_n 0, 1) := by decide +kernel
theorem dX11_calm_132 : decode cX11_calm 132 = .ok (.getfield 19, 3) := by decide +kernel
theorem dX11_calm_135 : decode cX11_calm 135 = .ok (.iload 5, 2) := by decide +kernel
theorem dX11_calm_137 : decode cX11_calm 137 = .ok (.i2l, 1) := by decide +kernel
theorem dX11_calm_138 : decode cX11_calm 138 = .ok (.invokevirtual 177, 3) := by decide +kernel
theorem dX11_calm_141 : decode cX11_calm 141 = .ok (.aload_n 0, 1) := by decide +kernel
theorem dX11_calm_142 : decode cX11_calm 142 = .ok (.getfield 19, 3) := by decide +kernel
theorem dX11_calm_145 : decode cX11_calm 145 = .ok (.iload 6, 2) := by decide +kernel
theorem dX11_calm_147 : decode cX11_calm 147 = .ok (.i2l, 1) := by decide +kernel
theorem dX11_calm_148 : decode cX11_calm 148 = .ok (.invokevirtual 177, 3) := by decide +kernel
theorem dX11_calm_151 : decode cX11_calm 151 = .ok (.iload 4, 2) := by decide +kernel
theorem dX11_calm_153 : decode cX11_calm 153 = .ok (.ireturn, 1) := by decide +kernel
theorem dX11_fear_0 : decode cX11_fear 0 = .ok (.aload_n 0, 1) := by decide +kernel
theorem dX11_fear_1 : decode cX11_fear 1 = .ok (.getfield 26, 3) := by decide +kernel
theorem dX11_fear_4 : decode cX11_fear 4 = .ok (.iload_n 1, 1) := by decide +kernel
theorem dX11_fear_5 : decode cX11_fear 5 = .ok (.invokevirtual 147, 3) := by decide +kernel
theorem dX11_fear_8 : decode cX11_fear 8 = .ok (.ifCond .eq 14, 3) := by decide +kernel
theorem dX11_fear_11 : decode cX11_fear 11 = .ok (.aload_n 0, 1) := by decide +kernel
theorem dX11_fear_12 : decode cX11_fear 12 = .ok (.getfield 26, 3) := by decide +kernel
theorem dX11_fear_15 : decode cX11_fear 15 = .ok (.iload_n 2, 1) := by decide +kernel
theorem dX11_fear_16 : decode cX11_fear 16 = .ok (.invokevirtual 191, 3) := by decide +kernel
theorem dX11_fear_19 : decode cX11_fear 19 = .ok (.ifCond .ne 5, 3) := by decide +kernel
theorem dX11_fear_22 : decode cX11_fear 22 = .ok (.iconst (-1), 1) := by decide +kernel
theorem dX11_fear_23 : decode cX11_fear 23 = .ok (.ireturn, 1) := by decide +kernel
theorem dX11_fear_24 : decode cX11_fear 24 = .ok (.iconst 0, 1) := by decide +kernel
theorem dX11_fear_25 : decode cX11_fear 25 = .ok (.istore_n 3, 1) := by decide +kernel
theorem dX11_fear_26 : decode cX11_fear 26 = .ok (.iconst 0, 1) := by decide +kernel
theorem dX11_fear_27 : decode cX11_fear 27 = .ok (.istore 4, 2) := by decide +kernel
theorem dX11_fear_29 : decode cX11_fear 29 = .ok (.iload 4, 2) := by decide +kernel
theorem dX11_fear_31 : decode cX11_fear 31 = .ok (.aload_n 0, 1) := by decide +kernel
theorem dX11_fear_32 : decode cX11_fear 32 = .ok (.getfield 26, 3) := by decide +kernel
theorem dX11_fear_35 : decode cX11_fear 35 = .ok (.getfield 157, 3) := by decide +kernel
theorem dX11_fear_38 : decode cX11_fear 38 = .ok (.if_icmp .ge 43, 3) := by decide +kernel
theorem dX11_fear_41 : decode cX11_fear 41 = .ok (.iload_n 3, 1) := by decide +kernel
theorem dX11_fear_42 : decode cX11_fear 42 = .ok (.aload_n 0, 1) := by decide +kernel
theorem dX11_fear_43 : decode cX11_fear 43 = .ok (.getfield 26, 3) := by decide +kernel
theorem dX11_fear_46 : decode cX11_fear 46 = .ok (.iload_n 1, 1) := by decide +kernel
theorem dX11_fear_47 : decode cX11_fear 47 = .ok (.iload 4, 2) := by decide +kernel
theorem dX11_fear_49 : decode cX11_fear 49 = .ok (.aload_n 0, 1) := by decide +kernel
theorem dX11_fear_50 : decode cX11_fear 50 = .ok (.getfield 26, 3) := by decide +kernel
theorem dX11_fear_53 : decode cX11_fear 53 = .ok (.iload_n 2, 1) := by decide +kernel
theorem dX11_fear_54 : decode cX11_fear 54 = .ok (.iload 4, 2) := by decide +kernel
theorem dX11_fear_56 : decode cX11_fear 56 = .ok (.invokevirtual 194, 3) := by decide +kernel
theorem dX11_fear_59 : decode cX11_fear 59 = .ok (.invokevirtual 187, 3) := by decide +kernel
theorem dX11_fear_62 : decode cX11_fear 62 = .ok (.aload_n 0, 1) := by decide +kernel
theorem dX11_fear_63 : decode cX11_fear 63 = .ok (.getfield 26, 3) := by decide +kernel
theorem dX11_fear_66 : decode cX11_fear 66 = .ok (.iload_n 1, 1) := by decide +kernel
theorem dX11_fear_67 : decode cX11_fear 67 = .ok (.iload 4, 2) := by decide +kernel
theorem dX11_fear_69 : decode cX11_fear 69 = .ok (.invokevirtual 174, 3) := by decide +kernel
theorem dX11_fear_72 : decode cX11_fear 72 = .ok (.iadd, 1) := by decide +kernel
theorem dX11_fear_73 : decode cX11_fear 73 = .ok (.iadd, 1) := by decide +kernel
theorem dX11_fear_74 : decode cX11_fear 74 = .ok (.istore_n 3, 1) := by decide +kernel
theorem dX11_fear_75 : decode cX11_fear 75 = .ok (.iinc 4 1, 3) := by decide +kernel
theorem dX11_fear_78 : decode cX11_fear 78 = .ok (.goto (-49), 3) := by decide +kernel
theorem dX11_fear_81 : decode cX11_fear 81 = .ok (.aload_n 0, 1) := by decide +kernel
theorem dX11_fear_82 : decode cX11_fear 82 = .ok (.getfield 19, 3) := by decide +kernel
theorem dX11_fear_85 : decode cX11_fear 85 = .ok (.invokevirtual 171, 3) := by decide +kernel
theorem dX11_fear_88 : decode cX11_fear 88 = .ok (.aload_n 0, 1) := by decide +kernel
theorem dX11_fear_89 : decode cX11_fear 89 = .ok (.getfield 19, 3) := by decide +kernel
theorem dX11_fear_92 : decode cX11_fear 92 = .ok (.aload_n 0, 1) := by decide +kernel
theorem dX11_fear_93 : decode cX11_fear 93 = .ok (.getfield 26, 3) := by decide +kernel
theorem dX11_fear_96 : decode cX11_fear 96 = .ok (.iload_n 2, 1) := by decide +kernel
theorem dX11_fear_97 : decode cX11_fear 97 = .ok (.invokevirtual 197, 3) := by decide +kernel
theorem dX11_fear_100 : decode cX11_fear 100 = .ok (.i2l, 1) := by decide +kernel
theorem dX11_fear_101 : decode cX11_fear 101 = .ok (.invokevirtual 177, 3) := by decide +kernel
theorem dX11_fear_104 : decode cX11_fear 104 = .ok (.aload_n 0, 1) := by decide +kernel
theorem dX11_fear_105 : decode cX11_fear 105 = .ok (.getfield 19, 3) := by decide +kernel
theorem dX11_fear_108 : decode cX11_fear 108 = .ok (.aload_n 0, 1) := by decide +kernel
theorem dX11_fear_109 : decode cX11_fear 109 = .ok (.getfield 26, 3) := by decide +kernel
theorem dX11_fear_112 : decode cX11_fear 112 = .ok (.iload_n 1, 1) := by decide +kernel
theorem dX11_fear_113 : decode cX11_fear 113 = .ok (.iload_n 2, 1) := by decide +kernel
theorem dX11_fear_114 : decode cX11_fear 114 = .ok (.invokevirtual 200, 3) := by decide +kernel
theorem dX11_fear_117 : decode cX11_fear 117 = .ok (.i2l, 1) := by decide +kernel
theorem dX11_fear_118 : decode cX11_fear 118 = .ok (.invokevirtual 177, 3) := by decide +kernel
theorem dX11_fear_121 : decode cX11_fear 121 = .ok (.iload_n 3, 1) := by decide +kernel
theorem dX11_fear_122 : decode cX11_fear 122 = .ok (.ireturn, 1) := by decide +kernel
theorem dX11_falls_0 : decode cX11_falls 0 = .ok (.aload_n 0, 1) := by decide +kernel
theorem dX11_falls_1 : decode cX11_falls 1 = .ok (.getfield 26, 3) := by decide +kernel
theorem dX11_falls_4 : decode cX11_falls 4 = .ok (.iload_n 1, 1) := by decide +kernel
theorem dX11_falls_5 : decode cX11_falls 5 = .ok (.invokevirtual 147, 3) := by decide +kernel
theorem dX11_falls_8 : decode cX11_falls 8 = .ok (.ifCond .eq 14, 3) := by decide +kernel
theorem dX11_falls_11 : decode cX11_falls 11 = .ok (.aload_n 0, 1) := by decide +kernel
theorem dX11_falls_12 : decode cX11_falls 12 = .ok (.getfield 26, 3) := by decide +kernel
theorem dX11_falls_15 : decode cX11_falls 15 = .ok (.iload_n 2, 1) := by decide +kernel
theorem dX11_falls_16 : decode cX11_falls 16 = .ok (.invokevirtual 191, 3) := by decide +kernel
theorem dX11_falls_19 : decode cX11_falls 19 = .ok (.ifCond .ne 5, 3) := by decide +kernel
theorem dX11_falls_22 : decode cX11_falls 22 = .ok (.iconst (-1), 1) := by decide +kernel
theorem dX11_falls_23 : decode cX11_falls 23 = .ok (.ireturn, 1) := by decide +kernel
theorem dX11_falls_24 : decode cX11_falls 24 = .ok (.aload_n 0, 1) := by decide +kernel
theorem dX11_falls_25 : decode cX11_falls 25 = .ok (.getfield 26, 3) := by decide +kernel
theorem dX11_falls_28 : decode cX11_falls 28 = .ok (.getfield 157, 3) := by decide +kernel
theorem dX11_falls_31 : decode cX11_falls 31 = .ok (.ifCond .ne 6, 3) := by decide +kernel
theorem dX11_falls_34 : decode cX11_falls 34 = .ok (.bipush (-2), 2) := by decide +kernel
theorem dX11_falls_36 : decode cX11_falls 36 = .ok (.ireturn, 1) := by decide +kernel
theorem dX11_falls_37 : decode cX11_falls 37 = .ok (.iconst 0, 1) := by decide +kernel
theorem dX11_falls_38 : decode cX11_falls 38 = .ok (.istore_n 3, 1) := by decide +kernel
theorem dX11_falls_39 : decode cX11_falls 39 = .ok (.iconst (-1), 1) := by decide +kernel
theorem dX11_falls_40 : decode cX11_falls 40 = .ok (.istore 4, 2) := by decide +kernel
theorem dX11_falls_42 : decode cX11_falls 42 = .ok (.iconst 0, 1) := by decide +kernel
theorem dX11_falls_43 : decode cX11_falls 43 = .ok (.istore 5, 2) := by decide +kernel
theorem dX11_falls_45 : decode cX11_falls 45 = .ok (.iload 5, 2) := by decide +kernel
theorem dX11_falls_47 : decode cX11_falls 47 = .ok (.aload_n 0, 1) := by decide +kernel
theorem dX11_falls_48 : decode cX11_falls 48 = .ok (.getfield 26, 3) := by decide +kernel
theorem dX11_falls_51 : decode cX11_falls 51 = .ok (.getfield 157, 3) := by decide +kernel
theorem dX11_falls_54 : decode cX11_falls 54 = .ok (.if_icmp .ge 45, 3) := by decide +kernel
theorem dX11_falls_57 : decode cX11_falls 57 = .ok (.aload_n 0, 1) := by decide +kernel
theorem dX11_falls_58 : decode cX11_falls 58 = .ok (.getfield 26, 3) := by decide +kernel
theorem dX11_falls_61 : decode cX11_falls 61 = .ok (.iload_n 1, 1) := by decide +kernel
theorem dX11_falls_62 : decode cX11_falls 62 = .ok (.iload 5, 2) := by decide +kernel
theorem dX11_falls_64 : decode cX11_falls 64 = .ok (.aload_n 0, 1) := by decide +kernel
theorem dX11_falls_65 : decode cX11_falls 65 = .ok (.getfield 26, 3) := by decide +kernel
theorem dX11_falls_68 : decode cX11_falls 68 = .ok (.iload_n 2, 1) := by decide +kernel
theorem dX11_falls_69 : decode cX11_falls 69 = .ok (.iload 5, 2) := by decide +kernel
theorem dX11_falls_71 : decode cX11_falls 71 = .ok (.invokevirtual 194, 3) := by decide +kernel
theorem dX11_falls_74 : decode cX11_falls 74 = .ok (.invokevirtual 187, 3) := by decide +kernel
theorem dX11_falls_77 : decode cX11_falls 77 = .ok (.istore 6, 2) := by decide +kernel
theorem dX11_falls_79 : decode cX11_falls 79 = .ok (.iload 6, 2) := by decide +kernel
theorem dX11_falls_81 : decode cX11_falls 81 = .ok (.iload 4, 2) := by decide +kernel
theorem dX11_falls_83 : decode cX11_falls 83 = .ok (.if_icmp .le 10, 3) := by decide +kernel
theorem dX11_falls_86 : decode cX11_falls 86 = .ok (.iload 5, 2) := by decide +kernel
theorem dX11_falls_88 : decode cX11_falls 88 = .ok (.istore_n 3, 1) := by decide +kernel
theorem dX11_falls_89 : decode cX11_falls 89 = .ok (.iload 6, 2) := by decide +kernel
theorem dX11_falls_91 : decode cX11_falls 91 = .ok (.istore 4, 2) := by decide +kernel
theorem dX11_falls_93 : decode cX11_falls 93 = .ok (.iinc 5 1, 3) := by decide +kernel
theorem dX11_falls_96 : decode cX11_falls 96 = .ok (.goto (-51), 3) := by decide +kernel
theorem dX11_falls_99 : decode cX11_falls 99 = .ok (.aload_n 0, 1) := by decide +kernel
theorem dX11_falls_100 : decode cX11_falls 100 = .ok (.getfield 19, 3) := by decide +kernel
theorem dX11_falls_103 : decode cX11_falls 103 = .ok (.invokevirtual 171, 3) := by decide +kernel
theorem dX11_falls_106 : decode cX11_falls 106 = .ok (.aload_n 0, 1) := by decide +kernel
theorem dX11_falls_107 : decode cX11_falls 107 = .ok (.getfield 19, 3) := by decide +kernel
theorem dX11_falls_110 : decode cX11_falls 110 = .ok (.iload 4, 2) := by decide +kernel
theorem dX11_falls_112 : decode cX11_falls 112 = .ok (.i2l, 1) := by decide +kernel
theorem dX11_falls_113 : decode cX11_falls 113 = .ok (.invokevirtual 177, 3) := by decide +kernel
theorem dX11_falls_116 : decode cX11_falls 116 = .ok (.iload_n 3, 1) := by decide +kernel
theorem dX11_falls_117 : decode cX11_falls 117 = .ok (.ireturn, 1) := by decide +kernel
theorem dX11_poles_0 : decode cX11_poles 0 = .ok (.aload_n 0, 1) := by decide +kernel
theorem dX11_poles_1 : decode cX11_poles 1 = .ok (.getfield 26, 3) := by decide +kernel
theorem dX11_poles_4 : decode cX11_poles 4 = .ok (.iload_n 1, 1) := by decide +kernel
theorem dX11_poles_5 : decode cX11_poles 5 = .ok (.invokevirtual 147, 3) := by decide +kernel
theorem dX11_poles_8 : decode cX11_poles 8 = .ok (.ifCond .eq 24, 3) := by decide +kernel
theorem dX11_poles_11 : decode cX11_poles 11 = .ok (.aload_n 0, 1) := by decide +kernel
theorem dX11_poles_12 : decode cX11_poles 12 = .ok (.getfield 26, 3) := by decide +kernel
theorem dX11_poles_15 : decode cX11_poles 15 = .ok (.iload_n 2, 1) := by decide +kernel
theorem dX11_poles_16 : decode cX11_poles 16 = .ok (.invokevirtual 191, 3) := by decide +kernel
theorem dX11_poles_19 : decode cX11_poles 19 = .ok (.ifCond .eq 13, 3) := by decide +kernel
theorem dX11_poles_22 : decode cX11_poles 22 = .ok (.iload_n 3, 1) := by decide +kernel
theorem dX11_poles_23 : decode cX11_poles 23 = .ok (.ifCond .lt 9, 3) := by decide +kernel
theorem dX11_poles_26 : decode cX11_poles 26 = .ok (.iload_n 3, 1) := by decide +kernel
theorem dX11_poles_27 : decode cX11_poles 27 = .ok (.bipush 8, 2) := by decide +kernel
theorem dX11_poles_29 : decode cX11_poles 29 = .ok (.if_icmp .le 5, 3) := by decide +kernel
theorem dX11_poles_32 : decode cX11_poles 32 = .ok (.iconst (-1), 1) := by decide +kernel
theorem dX11_poles_33 : decode cX11_poles 33 = .ok (.ireturn, 1) := by decide +kernel
theorem dX11_poles_34 : decode cX11_poles 34 = .ok (.aload_n 0, 1) := by decide +kernel
theorem dX11_poles_35 : decode cX11_poles 35 = .ok (.getfield 84, 3) := by decide +kernel
theorem dX11_poles_38 : decode cX11_poles 38 = .ok (.lconst 0, 1) := by decide +kernel
theorem dX11_poles_39 : decode cX11_poles 39 = .ok (.invokestatic 203, 3) := by decide +kernel
theorem dX11_poles_42 : decode cX11_poles 42 = .ok (.aload_n 0, 1) := by decide +kernel
theorem dX11_poles_43 : decode cX11_poles 43 = .ok (.getfield 84, 3) := by decide +kernel
theorem dX11_poles_46 : decode cX11_poles 46 = .ok (.iconst 0, 1) := by decide +kernel
theorem dX11_poles_47 : decode cX11_poles 47 = .ok (.ldc2_w 209, 3) := by decide +kernel
theorem dX11_poles_50 : decode cX11_poles 50 = .ok (.lastore, 1) := by decide +kernel
theorem dX11_poles_51 : decode cX11_poles 51 = .ok (.iconst 0, 1) := by decide +kernel
theorem dX11_poles_52 : decode cX11_poles 52 = .ok (.istore 4, 2) := by decide +kernel
theorem dX11_poles_54 : decode cX11_poles 54 = .ok (.iload 4, 2) := by decide +kernel
theorem dX11_poles_56 : decode cX11_poles 56 = .ok (.aload_n 0, 1) := by decide +kernel
theorem dX11_poles_57 : decode cX11_poles 57 = .ok (.getfield 26, 3) := by decide +kernel
theorem dX11_poles_60 : decode cX11_poles 60 = .ok (.getfield 157, 3) := by decide +kernel
theorem dX11_poles_63 : decode cX11_poles 63 = .ok (.if_icmp .ge 112, 3) := by decide +kernel
theorem dX11_poles_66 : decode cX11_poles 66 = .ok (.aload_n 0, 1) := by decide +kernel
theorem dX11_poles_67 : decode cX11_poles 67 = .ok (.getfield 26, 3) := by decide +kernel
theorem dX11_poles_70 : decode cX11_poles 70 = .ok (.iload_n 1, 1) := by decide +kernel
theorem dX11_poles_71 : decode cX11_poles 71 = .ok (.iload 4, 2) := by decide +kernel
theorem dX11_poles_73 : decode cX11_poles 73 = .ok (.aload_n 0, 1) := by decide +kernel
theorem dX11_poles_74 : decode cX11_poles 74 = .ok (.getfield 26, 3) := by decide +kernel
theorem dX11_poles_77 : decode cX11_poles 77 = .ok (.iload_n 2, 1) := by decide +kernel
theorem dX11_poles_78 : decode cX11_poles 78 = .ok (.iload 4, 2) := by decide +kernel
theorem dX11_poles_80 : decode cX11_poles 80 = .ok (.invokevirtual 194, 3) := by decide +kernel
theorem dX11_poles_83 : decode cX11_poles 83 = .ok (.invokevirtual 187, 3) := by decide +kernel
theorem dX11_poles_86 : decode cX11_poles 86 = .ok (.istore 5, 2) := by decide +kernel
theorem dX11_poles_88 : decode cX11_poles 88 = .ok (.bipush 8, 2) := by decide +kernel
theorem dX11_poles_90 : decode cX11_poles 90 = .ok (.istore 6, 2) := by decide +kernel
theorem dX11_poles_92 : decode cX11_poles 92 = .ok (.iload 6, 2) := by decide +kernel
theorem dX11_poles_94 : decode cX11_poles 94 = .ok (.ifCond .le 52, 3) := by decide +kernel
theorem dX11_poles_97 : decode cX11_poles 97 = .ok (.aload_n 0, 1) := by decide +kernel
theorem dX11_poles_98 : decode cX11_poles 98 = .ok (.getfield 84, 3) := by decide +kernel
theorem dX11_poles_101 : decode cX11_poles 101 = .ok (.iload 6, 2) := by decide +kernel
theorem dX11_poles_103 : decode cX11_poles 103 = .ok (.aload_n 0, 1) := by decide +kernel
theorem dX11_poles_104 : decode cX11_poles 104 = .ok (.getfield 84, 3) := by decide +kernel
theorem dX11_poles_107 : decode cX11_poles 107 = .ok (.iload 6, 2) := by decide +kernel
theorem dX11_poles_109 : decode cX11_poles 109 = .ok (.laload, 1) := by decide +kernel
theorem dX11_poles_110 : decode cX11_poles 110 = .ok (.bipush 100, 2) := by decide +kernel
theorem dX11_poles_112 : decode cX11_poles 112 = .ok (.iload 5, 2) := by decide +kernel
theorem dX11_poles_114 : decode cX11_poles 114 = .ok (.isub, 1) := by decide +kernel
theorem dX11_poles_115 : decode cX11_poles 115 = .ok (.i2l, 1) := by decide +kernel
theorem dX11_poles_116 : decode cX11_poles 116 = .ok (.lmul, 1) := by decide +kernel
theorem dX11_poles_117 : decode cX11_poles 117 = .ok (.ldc2_w 211, 3) := by decide +kernel
theorem dX11_poles_120 : decode cX11_poles 120 = .ok (.ldiv, 1) := by decide +kernel
theorem dX11_poles_121 : decode cX11_poles 121 = .ok (.aload_n 0, 1) := by decide +kernel
theorem dX11_poles_122 : decode cX11_poles 122 = .ok (.getfield 84, 3) := by decide +kernel
theorem dX11_poles_125 : decode cX11_poles 125 = .ok (.iload 6, 2) := by decide +kernel
theorem dX11_poles_127 : decode cX11_poles 127 = .ok (.iconst 1, 1) := by decide +kernel
theorem dX11_poles_128 : decode cX11_poles 128 = .ok (.isub, 1) := by decide +kernel
theorem dX11_poles_129 : decode cX11_poles 129 = .ok (.laload, 1) := by decide +kernel
theorem dX11_poles_130 : decode cX11_poles 130 = .ok (.iload 5, 2) := by decide +kernel
theorem dX11_poles_132 : decode cX11_poles 132 = .ok (.i2l, 1) := by decide +kernel
theorem dX11_poles_133 : decode cX11_poles 133 = .ok (.lmul, 1) := by decide +kernel
theorem dX11_poles_134 : decode cX11_poles 134 = .ok (.ldc2_w 211, 3) := by decide +kernel
theorem dX11_poles_137 : decode cX11_poles 137 = .ok (.ldiv, 1) := by decide +kernel
theorem dX11_poles_138 : decode cX11_poles 138 = .ok (.ladd, 1) := by decide +kernel
theorem dX11_poles_139 : decode cX11_poles 139 = .ok (.lastore, 1) := by decide +kernel
theorem dX11_poles_140 : decode cX11_poles 140 = .ok (.iinc 6 (-1), 3) := by decide +kernel
theorem dX11_poles_143 : decode cX11_poles 143 = .ok (.goto (-51), 3) := by decide +kernel
theorem dX11_poles_146 : decode cX11_poles 146 = .ok (.aload_n 0, 1) := by decide +kernel
theorem dX11_poles_147 : decode cX11_poles 147 = .ok (.getfield 84, 3) := by decide +kernel
theorem dX11_poles_150 : decode cX11_poles 150 = .ok (.iconst 0, 1) := by decide +kernel
theorem dX11_poles_151 : decode cX11_poles 151 = .ok (.aload_n 0, 1) := by decide +kernel
theorem dX11_poles_152 : decode cX11_poles 152 = .ok (.getfield 84, 3) := by decide +kernel
theorem dX11_poles_155 : decode cX11_poles 155 = .ok (.iconst 0, 1) := by decide +kernel
theorem dX11_poles_156 : decode cX11_poles 156 = .ok (.laload, 1) := by decide +kernel
theorem dX11_poles_157 : decode cX11_poles 157 = .ok (.bipush 100, 2) := by decide +kernel
theorem dX11_poles_159 : decode cX11_poles 159 = .ok (.iload 5, 2) := by decide +kernel
theorem dX11_poles_161 : decode cX11_poles 161 = .ok (.isub, 1) := by decide +kernel
theorem dX11_poles_162 : decode cX11_poles 162 = .ok (.i2l, 1) := by decide +kernel
theorem dX11_poles_163 : decode cX11_poles 163 = .ok (.lmul, 1) := by decide +kernel
theorem dX11_poles_164 : decode cX11_poles 164 = .ok (.ldc2_w 211, 3) := by decide +kernel
theorem dX11_poles_167 : decode cX11_poles 167 = .ok (.ldiv, 1) := by decide +kernel
theorem dX11_poles_168 : decode cX11_poles 168 = .ok (.lastore, 1) := by decide +kernel
theorem dX11_poles_169 : decode cX11_poles 169 = .ok (.iinc 4 1, 3) := by decide +kernel
theorem dX11_poles_172 : decode cX11_poles 172 = .ok (.goto (-118), 3) := by decide +kernel
theorem dX11_poles_175 : decode cX11_poles 175 = .ok (.aload_n 0, 1) := by decide +kernel
theorem dX11_poles_176 : decode cX11_poles 176 = .ok (.getfield 84, 3) := by decide +kernel
theorem dX11_poles_179 : decode cX11_poles 179 = .ok (.iload_n 3, 1) := by decide +kernel
theorem dX11_poles_180 : decode cX11_poles 180 = .ok (.laload, 1) := by decide +kernel
theorem dX11_poles_181 : decode cX11_poles 181 = .ok (.l2i, 1) := by decide +kernel
theorem dX11_poles_182 : decode cX11_poles 182 = .ok (.ireturn, 1) := by decide +kernel
theorem dX11_cuts_0 : decode cX11_cuts 0 = .ok (.aload_n 0, 1) := by decide +kernel
theorem dX11_cuts_1 : decode cX11_cuts 1 = .ok (.getfield 26, 3) := by decide +kernel
theorem dX11_cuts_4 : decode cX11_cuts 4 = .ok (.iload_n 1, 1) := by decide +kernel
theorem dX11_cuts_5 : decode cX11_cuts 5 = .ok (.invokevirtual 147, 3) := by decide +kernel
theorem dX11_cuts_8 : decode cX11_cuts 8 = .ok (.ifCond .eq 14, 3) := by decide +kernel
theorem dX11_cuts_11 : decode cX11_cuts 11 = .ok (.aload_n 0, 1) := by decide +kernel
theorem dX11_cuts_12 : decode cX11_cuts 12 = .ok (.getfield 26, 3) := by decide +kernel
theorem dX11_cuts_15 : decode cX11_cuts 15 = .ok (.iload_n 2, 1) := by decide +kernel
theorem dX11_cuts_16 : decode cX11_cuts 16 = .ok (.invokevirtual 191, 3) := by decide +kernel
theorem dX11_cuts_19 : decode cX11_cuts 19 = .ok (.ifCond .ne 5, 3) := by decide +kernel
theorem dX11_cuts_22 : decode cX11_cuts 22 = .ok (.iconst (-1), 1) := by decide +kernel
theorem dX11_cuts_23 : decode cX11_cuts 23 = .ok (.ireturn, 1) := by decide +kernel
theorem dX11_cuts_24 : decode cX11_cuts 24 = .ok (.iconst (-1), 1) := by decide +kernel
theorem dX11_cuts_25 : decode cX11_cuts 25 = .ok (.istore_n 3, 1) := by decide +kernel
theorem dX11_cuts_26 : decode cX11_cuts 26 = .ok (.iconst 0, 1) := by decide +kernel
theorem dX11_cuts_27 : decode cX11_cuts 27 = .ok (.istore 4, 2) := by decide +kernel
theorem dX11_cuts_29 : decode cX11_cuts 29 = .ok (.iconst 0, 1) := by decide +kernel
theorem dX11_cuts_30 : decode cX11_cuts 30 = .ok (.istore 5, 2) := by decide +kernel
theorem dX11_cuts_32 : decode cX11_cuts 32 = .ok (.iconst 0, 1) := by decide +kernel
theorem dX11_cuts_33 : decode cX11_cuts 33 = .ok (.istore 6, 2) := by decide +kernel
theorem dX11_cuts_35 : decode cX11_cuts 35 = .ok (.iload 6, 2) := by decide +kernel
theorem dX11_cuts_37 : decode cX11_cuts 37 = .ok (.aload_n 0, 1) := by decide +kernel
theorem dX11_cuts_38 : decode cX11_cuts 38 = .ok (.getfield 26, 3) := by decide +kernel
theorem dX11_cuts_41 : decode cX11_cuts 41 = .ok (.getfield 157, 3) := by decide +kernel
theorem dX11_cuts_44 : decode cX11_cuts 44 = .ok (.if_icmp .ge 127, 3) := by decide +kernel
theorem dX11_cuts_47 : decode cX11_cuts 47 = .ok (.aload_n 0, 1) := by decide +kernel
theorem dX11_cuts_48 : decode cX11_cuts 48 = .ok (.getfield 26, 3) := by decide +kernel
theorem dX11_cuts_51 : decode cX11_cuts 51 = .ok (.iload_n 2, 1) := by decide +kernel
theorem dX11_cuts_52 : decode cX11_cuts 52 = .ok (.iload 6, 2) := by decide +kernel
theorem dX11_cuts_54 : decode cX11_cuts 54 = .ok (.invokevirtual 194, 3) := by decide +kernel
theorem dX11_cuts_57 : decode cX11_cuts 57 = .ok (.istore 7, 2) := by decide +kernel
theorem dX11_cuts_59 : decode cX11_cuts 59 = .ok (.iload 7, 2) := by decide +kernel
theorem dX11_cuts_61 : decode cX11_cuts 61 = .ok (.invokestatic 213, 3) := by decide +kernel
theorem dX11_cuts_64 : decode cX11_cuts 64 = .ok (.ifCond .eq 6, 3) := by decide +kernel
theorem dX11_cuts_67 : decode cX11_cuts 67 = .ok (.goto 98, 3) := by decide +kernel
theorem dX11_cuts_70 : decode cX11_cuts 70 = .ok (.iload 7, 2) := by decide +kernel
theorem dX11_cuts_72 : decode cX11_cuts 72 = .ok (.iconst 4, 1) := by decide +kernel
theorem dX11_cuts_73 : decode cX11_cuts 73 = .ok (.iadd, 1) := by decide +kernel
theorem dX11_cuts_74 : decode cX11_cuts 74 = .ok (.istore 8, 2) := by decide +kernel
theorem dX11_cuts_76 : decode cX11_cuts 76 = .ok (.aload_n 0, 1) := by decide +kernel
theorem dX11_cuts_77 : decode cX11_cuts 77 = .ok (.getfield 26, 3) := by decide +kernel
theorem dX11_cuts_80 : decode cX11_cuts 80 = .ok (.iload_n 1, 1) := by decide +kernel
theorem dX11_cuts_81 : decode cX11_cuts 81 = .ok (.iload 6, 2) := by decide +kernel
theorem dX11_cuts_83 : decode cX11_cuts 83 = .ok (.iload 8, 2) := by decide +kernel
theorem dX11_cuts_85 : decode cX11_cuts 85 = .ok (.invokevirtual 187, 3) := by decide +kernel
theorem dX11_cuts_88 : decode cX11_cuts 88 = .ok (.aload_n 0, 1) := by decide +kernel
theorem dX11_cuts_89 : decode cX11_cuts 89 = .ok (.getfield 26, 3) := by decide +kernel
theorem dX11_cuts_92 : decode cX11_cuts 92 = .ok (.iload_n 1, 1) := by decide +kernel
theorem dX11_cuts_93 : decode cX11_cuts 93 = .ok (.iload 6, 2) := by decide +kernel
theorem dX11_cuts_95 : decode cX11_cuts 95 = .ok (.iload 7, 2) := by decide +kernel
theorem dX11_cuts_97 : decode cX11_cuts 97 = .ok (.invokevirtual 187, 3) := by decide +kernel
theorem dX11_cuts_100 : decode cX11_cuts 100 = .ok (.isub, 1) := by decide +kernel
theorem dX11_cuts_101 : decode cX11_cuts 101 = .ok (.istore 9, 2) := by decide +kernel
theorem dX11_cuts_103 : decode cX11_cuts 103 = .ok (.aload_n 0, 1) := by decide +kernel
theorem dX11_cuts_104 : decode cX11_cuts 104 = .ok (.getfield 26, 3) := by decide +kernel
theorem dX11_cuts_107 : decode cX11_cuts 107 = .ok (.iload 6, 2) := by decide +kernel
theorem dX11_cuts_109 : decode cX11_cuts 109 = .ok (.iload 7, 2) := by decide +kernel
theorem dX11_cuts_111 : decode cX11_cuts 111 = .ok (.invokevirtual 181, 3) := by decide +kernel
theorem dX11_cuts_114 : decode cX11_cuts 114 = .ok (.aload_n 0, 1) := by decide +kernel
theorem dX11_cuts_115 : decode cX11_cuts 115 = .ok (.getfield 26, 3) := by decide +kernel
theorem dX11_cuts_118 : decode cX11_cuts 118 = .ok (.iload 6, 2) := by decide +kernel
theorem dX11_cuts_120 : decode cX11_cuts 120 = .ok (.iload 8, 2) := by decide +kernel
theorem dX11_cuts_122 : decode cX11_cuts 122 = .ok (.invokevirtual 181, 3) := by decide +kernel
theorem dX11_cuts_125 : decode cX11_cuts 125 = .ok (.isub, 1) := by decide +kernel
theorem dX11_cuts_126 : decode cX11_cuts 126 = .ok (.istore 10, 2) := by decide +kernel
theorem dX11_cuts_128 : decode cX11_cuts 128 = .ok (.iload_n 3, 1) := by decide +kernel
theorem dX11_cuts_129 : decode cX11_cuts 129 = .ok (.iconst (-1), 1) := by decide +kernel
theorem dX11_cuts_130 : decode cX11_cuts 130 = .ok (.if_icmp .eq 24, 3) := by decide +kernel
theorem dX11_cuts_133 : decode cX11_cuts 133 = .ok (.iload 9, 2) := by decide +kernel
theorem dX11_cuts_135 : decode cX11_cuts 135 = .ok (.iload 4, 2) := by decide +kernel
theorem dX11_cuts_137 : decode cX11_cuts 137 = .ok (.if_icmp .lt 17, 3) := by decide +kernel
theorem dX11_cuts_140 : decode cX11_cuts 140 = .ok (.iload 9, 2) := by decide +kernel
theorem dX11_cuts_142 : decode cX11_cuts 142 = .ok (.iload 4, 2) := by decide +kernel
theorem dX11_cuts_144 : decode cX11_cuts 144 = .ok (.if_icmp .ne 21, 3) := by decide +kernel
theorem dX11_cuts_147 : decode cX11_cuts 147 = .ok (.iload 10, 2) := by decide +kernel
theorem dX11_cuts_149 : decode cX11_cuts 149 = .ok (.iload 5, 2) := by decide +kernel
theorem dX11_cuts_151 : decode cX11_cuts 151 = .ok (.if_icmp .le 14, 3) := by decide +kernel
theorem dX11_cuts_154 : decode cX11_cuts 154 = .ok (.iload 6, 2) := by decide +kernel
theorem dX11_cuts_156 : decode cX11_cuts 156 = .ok (.istore_n 3, 1) := by decide +kernel
theorem dX11_cuts_157 : decode cX11_cuts 157 = .ok (.iload 9, 2) := by decide +kernel
theorem dX11_cuts_159 : decode cX11_cuts 159 = .ok (.istore 4, 2) := by decide +kernel
theorem dX11_cuts_161 : decode cX11_cuts 161 = .ok (.iload 10, 2) := by decide +kernel
theorem dX11_cuts_163 : decode cX11_cuts 163 = .ok (.istore 5, 2) := by decide +kernel
theorem dX11_cuts_165 : decode cX11_cuts 165 = .ok (.iinc 6 1, 3) := by decide +kernel
theorem dX11_cuts_168 : decode cX11_cuts 168 = .ok (.goto (-133), 3) := by decide +kernel
theorem dX11_cuts_171 : decode cX11_cuts 171 = .ok (.iload_n 3, 1) := by decide +kernel
theorem dX11_cuts_172 : decode cX11_cuts 172 = .ok (.iconst (-1), 1) := by decide +kernel
theorem dX11_cuts_173 : decode cX11_cuts 173 = .ok (.if_icmp .ne 6, 3) := by decide +kernel
theorem dX11_cuts_176 : decode cX11_cuts 176 = .ok (.bipush (-2), 2) := by decide +kernel
theorem dX11_cuts_178 : decode cX11_cuts 178 = .ok (.ireturn, 1) := by decide +kernel
theorem dX11_cuts_179 : decode cX11_cuts 179 = .ok (.aload_n 0, 1) := by decide +kernel
theorem dX11_cuts_180 : decode cX11_cuts 180 = .ok (.getfield 19, 3) := by decide +kernel
theorem dX11_cuts_183 : decode cX11_cuts 183 = .ok (.invokevirtual 171, 3) := by decide +kernel
theorem dX11_cuts_186 : decode cX11_cuts 186 = .ok (.aload_n 0, 1) := by decide +kernel
theorem dX11_cuts_187 : decode cX11_cuts 187 = .ok (.getfield 19, 3) := by decide +kernel
theorem dX11_cuts_190 : decode cX11_cuts 190 = .ok (.iload 4, 2) := by decide +kernel
theorem dX11_cuts_192 : decode cX11_cuts 192 = .ok (.i2l, 1) := by decide +kernel
theorem dX11_cuts_193 : decode cX11_cuts 193 = .ok (.invokevirtual 177, 3) := by decide +kernel
theorem dX11_cuts_196 : decode cX11_cuts 196 = .ok (.aload_n 0, 1) := by decide +kernel
theorem dX11_cuts_197 : decode cX11_cuts 197 = .ok (.getfield 19, 3) := by decide +kernel
theorem dX11_cuts_200 : decode cX11_cuts 200 = .ok (.iload 5, 2) := by decide +kernel
theorem dX11_cuts_202 : decode cX11_cuts 202 = .ok (.i2l, 1) := by decide +kernel
theorem dX11_cuts_203 : decode cX11_cuts 203 = .ok (.invokevirtual 177, 3) := by decide +kernel
theorem dX11_cuts_206 : decode cX11_cuts 206 = .ok (.iload_n 3, 1) := by decide +kernel
theorem dX11_cuts_207 : decode cX11_cuts 207 = .ok (.ireturn, 1) := by decide +kernel
theorem dX11_curve_0 : decode cX11_curve 0 = .ok (.aload_n 0, 1) := by decide +kernel
theorem dX11_curve_1 : decode cX11_curve 1 = .ok (.getfield 26, 3) := by decide +kernel
theorem dX11_curve_4 : decode cX11_curve 4 = .ok (.iload_n 1, 1) := by decide +kernel
theorem dX11_curve_5 : decode cX11_curve 5 = .ok (.invokevirtual 147, 3) := by decide +kernel
theorem dX11_curve_8 : decode cX11_curve 8 = .ok (.ifCond .eq 14, 3) := by decide +kernel
theorem dX11_curve_11 : decode cX11_curve 11 = .ok (.iload_n 2, 1) := by decide +kernel
theorem dX11_curve_12 : decode cX11_curve 12 = .ok (.ifCond .lt 10, 3) := by decide +kernel
theorem dX11_curve_15 : decode cX11_curve 15 = .ok (.iload_n 2, 1) := by decide +kernel
theorem dX11_curve_16 : decode cX11_curve 16 = .ok (.sipush 9999, 3) := by decide +kernel
theorem dX11_curve_19 : decode cX11_curve 19 = .ok (.if_icmp .le 5, 3) := by decide +kernel
theorem dX11_curve_22 : decode cX11_curve 22 = .ok (.iconst (-1), 1) := by decide +kernel
theorem dX11_curve_23 : decode cX11_curve 23 = .ok (.ireturn, 1) := by decide +kernel
theorem dX11_curve_24 : decode cX11_curve 24 = .ok (.aload_n 0, 1) := by decide +kernel
theorem dX11_curve_25 : decode cX11_curve 25 = .ok (.iload_n 1, 1) := by decide +kernel
theorem dX11_curve_26 : decode cX11_curve 26 = .ok (.iload_n 2, 1) := by decide +kernel
theorem dX11_curve_27 : decode cX11_curve 27 = .ok (.invokevirtual 216, 3) := by decide +kernel
theorem dX11_curve_30 : decode cX11_curve 30 = .ok (.ireturn, 1) := by decide +kernel
theorem dX11_quick_0 : decode cX11_quick 0 = .ok (.aload_n 0, 1) := by decide +kernel
theorem dX11_quick_1 : decode cX11_quick 1 = .ok (.getfield 26, 3) := by decide +kernel
theorem dX11_quick_4 : decode cX11_quick 4 = .ok (.iload_n 1, 1) := by decide +kernel
theorem dX11_quick_5 : decode cX11_quick 5 = .ok (.invokevirtual 147, 3) := by decide +kernel
theorem dX11_quick_8 : decode cX11_quick 8 = .ok (.ifCond .eq 14, 3) := by decide +kernel
theorem dX11_quick_11 : decode cX11_quick 11 = .ok (.iload_n 2, 1) := by decide +kernel
theorem dX11_quick_12 : decode cX11_quick 12 = .ok (.ifCond .lt 10, 3) := by decide +kernel
theorem dX11_quick_15 : decode cX11_quick 15 = .ok (.iload_n 2, 1) := by decide +kernel
theorem dX11_quick_16 : decode cX11_quick 16 = .ok (.sipush 9999, 3) := by decide +kernel
theorem dX11_quick_19 : decode cX11_quick 19 = .ok (.if_icmp .le 5, 3) := by decide +kernel
theorem dX11_quick_22 : decode cX11_quick 22 = .ok (.iconst (-1), 1) := by decide +kernel
theorem dX11_quick_23 : decode cX11_quick 23 = .ok (.ireturn, 1) := by decide +kernel
theorem dX11_quick_24 : decode cX11_quick 24 = .ok (.aload_n 0, 1) := by decide +kernel
theorem dX11_quick_25 : decode cX11_quick 25 = .ok (.getfield 59, 3) := by decide +kernel
theorem dX11_quick_28 : decode cX11_quick 28 = .ok (.aload_n 0, 1) := by decide +kernel
theorem dX11_quick_29 : decode cX11_quick 29 = .ok (.getfield 26, 3) := by decide +kernel
theorem dX11_quick_32 : decode cX11_quick 32 = .ok (.iload_n 1, 1) := by decide +kernel
theorem dX11_quick_33 : decode cX11_quick 33 = .ok (.invokevirtual 219, 3) := by decide +kernel
theorem dX11_quick_36 : decode cX11_quick 36 = .ok (.aload_n 0, 1) := by decide +kernel
theorem dX11_quick_37 : decode cX11_quick 37 = .ok (.getfield 59, 3) := by decide +kernel
theorem dX11_quick_40 : decode cX11_quick 40 = .ok (.iload_n 2, 1) := by decide +kernel
theorem dX11_quick_41 : decode cX11_quick 41 = .ok (.invokevirtual 223, 3) := by decide +kernel
theorem dX11_quick_44 : decode cX11_quick 44 = .ok (.istore_n 3, 1) := by decide +kernel
theorem dX11_quick_45 : decode cX11_quick 45 = .ok (.iload_n 3, 1) := by decide +kernel
theorem dX11_quick_46 : decode cX11_quick 46 = .ok (.iconst (-1), 1) := by decide +kernel
theorem dX11_quick_47 : decode cX11_quick 47 = .ok (.if_icmp .ne 6, 3) := by decide +kernel
theorem dX11_quick_50 : decode cX11_quick 50 = .ok (.bipush (-2), 2) := by decide +kernel
theorem dX11_quick_52 : decode cX11_quick 52 = .ok (.ireturn, 1) := by decide +kernel
theorem dX11_quick_53 : decode cX11_quick 53 = .ok (.aload_n 0, 1) := by decide +kernel
theorem dX11_quick_54 : decode cX11_quick 54 = .ok (.getfield 19, 3) := by decide +kernel
theorem dX11_quick_57 : decode cX11_quick 57 = .ok (.invokevirtual 171, 3) := by decide +kernel
theorem dX11_quick_60 : decode cX11_quick 60 = .ok (.aload_n 0, 1) := by decide +kernel
theorem dX11_quick_61 : decode cX11_quick 61 = .ok (.getfield 19, 3) := by decide +kernel
theorem dX11_quick_64 : decode cX11_quick 64 = .ok (.aload_n 0, 1) := by decide +kernel
theorem dX11_quick_65 : decode cX11_quick 65 = .ok (.getfield 59, 3) := by decide +kernel
theorem dX11_quick_68 : decode cX11_quick 68 = .ok (.iload_n 3, 1) := by decide +kernel
theorem dX11_quick_69 : decode cX11_quick 69 = .ok (.invokevirtual 226, 3) := by decide +kernel
theorem dX11_quick_72 : decode cX11_quick 72 = .ok (.i2l, 1) := by decide +kernel
theorem dX11_quick_73 : decode cX11_quick 73 = .ok (.invokevirtual 177, 3) := by decide +kernel
theorem dX11_quick_76 : decode cX11_quick 76 = .ok (.aload_n 0, 1) := by decide +kernel
theorem dX11_quick_77 : decode cX11_quick 77 = .ok (.getfield 59, 3) := by decide +kernel
theorem dX11_quick_80 : decode cX11_quick 80 = .ok (.aload_n 0, 1) := by decide +kernel
theorem dX11_quick_81 : decode cX11_quick 81 = .ok (.getfield 19, 3) := by decide +kernel
theorem dX11_quick_84 : decode cX11_quick 84 = .ok (.iload_n 3, 1) := by decide +kernel
theorem dX11_quick_85 : decode cX11_quick 85 = .ok (.invokevirtual 229, 3) := by decide +kernel
theorem dX11_quick_88 : decode cX11_quick 88 = .ok (.iload_n 3, 1) := by decide +kernel
theorem dX11_quick_89 : decode cX11_quick 89 = .ok (.ireturn, 1) := by decide +kernel
theorem dX11_sure_0 : decode cX11_sure 0 = .ok (.aload_n 0, 1) := by decide +kernel
theorem dX11_sure_1 : decode cX11_sure 1 = .ok (.getfield 26, 3) := by decide +kernel
theorem dX11_sure_4 : decode cX11_sure 4 = .ok (.iload_n 1, 1) := by decide +kernel
theorem dX11_sure_5 : decode cX11_sure 5 = .ok (.invokevirtual 147, 3) := by decide +kernel
theorem dX11_sure_8 : decode cX11_sure 8 = .ok (.ifCond .ne 5, 3) := by decide +kernel
theorem dX11_sure_11 : decode cX11_sure 11 = .ok (.iconst (-1), 1) := by decide +kernel
theorem dX11_sure_12 : decode cX11_sure 12 = .ok (.ireturn, 1) := by decide +kernel
theorem dX11_sure_13 : decode cX11_sure 13 = .ok (.aload_n 0, 1) := by decide +kernel
theorem dX11_sure_14 : decode cX11_sure 14 = .ok (.iload_n 1, 1) := by decide +kernel
theorem dX11_sure_15 : decode cX11_sure 15 = .ok (.aload_n 0, 1) := by decide +kernel
theorem dX11_sure_16 : decode cX11_sure 16 = .ok (.getfield 26, 3) := by decide +kernel
theorem dX11_sure_19 : decode cX11_sure 19 = .ok (.getfield 154, 3) := by decide +kernel
theorem dX11_sure_22 : decode cX11_sure 22 = .ok (.invokevirtual 216, 3) := by decide +kernel
theorem dX11_sure_25 : decode cX11_sure 25 = .ok (.ireturn, 1) := by decide +kernel
theorem dX11_leastFear_0 : decode cX11_leastFear 0 = .ok (.aload_n 0, 1) := by decide +kernel
theorem dX11_leastFear_1 : decode cX11_leastFear 1 = .ok (.getfield 59, 3) := by decide +kernel
theorem dX11_leastFear_4 : decode cX11_leastFear 4 = .ok (.aload_n 0, 1) := by decide +kernel
theorem dX11_leastFear_5 : decode cX11_leastFear 5 = .ok (.getfield 26, 3) := by decide +kernel
theorem dX11_leastFear_8 : decode cX11_leastFear 8 = .ok (.iload_n 1, 1) := by decide +kernel
theorem dX11_leastFear_9 : decode cX11_leastFear 9 = .ok (.invokevirtual 219, 3) := by decide +kernel
theorem dX11_leastFear_12 : decode cX11_leastFear 12 = .ok (.aload_n 0, 1) := by decide +kernel
theorem dX11_leastFear_13 : decode cX11_leastFear 13 = .ok (.getfield 59, 3) := by decide +kernel
theorem dX11_leastFear_16 : decode cX11_leastFear 16 = .ok (.iload_n 2, 1) := by decide +kernel
theorem dX11_leastFear_17 : decode cX11_leastFear 17 = .ok (.invokevirtual 233, 3) := by decide +kernel
theorem dX11_leastFear_20 : decode cX11_leastFear 20 = .ok (.istore_n 3, 1) := by decide +kernel
theorem dX11_leastFear_21 : decode cX11_leastFear 21 = .ok (.iload_n 3, 1) := by decide +kernel
theorem dX11_leastFear_22 : decode cX11_leastFear 22 = .ok (.iconst (-1), 1) := by decide +kernel
theorem dX11_leastFear_23 : decode cX11_leastFear 23 = .ok (.if_icmp .ne 6, 3) := by decide +kernel
theorem dX11_leastFear_26 : decode cX11_leastFear 26 = .ok (.bipush (-2), 2) := by decide +kernel
theorem dX11_leastFear_28 : decode cX11_leastFear 28 = .ok (.ireturn, 1) := by decide +kernel
theorem dX11_leastFear_29 : decode cX11_leastFear 29 = .ok (.aload_n 0, 1) := by decide +kernel
theorem dX11_leastFear_30 : decode cX11_leastFear 30 = .ok (.getfield 19, 3) := by decide +kernel
theorem dX11_leastFear_33 : decode cX11_leastFear 33 = .ok (.invokevirtual 171, 3) := by decide +kernel
theorem dX11_leastFear_36 : decode cX11_leastFear 36 = .ok (.aload_n 0, 1) := by decide +kernel
theorem dX11_leastFear_37 : decode cX11_leastFear 37 = .ok (.getfield 19, 3) := by decide +kernel
theorem dX11_leastFear_40 : decode cX11_leastFear 40 = .ok (.iload_n 3, 1) := by decide +kernel
theorem dX11_leastFear_41 : decode cX11_leastFear 41 = .ok (.i2l, 1) := by decide +kernel
theorem dX11_leastFear_42 : decode cX11_leastFear 42 = .ok (.invokevirtual 177, 3) := by decide +kernel
theorem dX11_leastFear_45 : decode cX11_leastFear 45 = .ok (.aload_n 0, 1) := by decide +kernel
theorem dX11_leastFear_46 : decode cX11_leastFear 46 = .ok (.getfield 59, 3) := by decide +kernel
theorem dX11_leastFear_49 : decode cX11_leastFear 49 = .ok (.aload_n 0, 1) := by decide +kernel
theorem dX11_leastFear_50 : decode cX11_leastFear 50 = .ok (.getfield 19, 3) := by decide +kernel
theorem dX11_leastFear_53 : decode cX11_leastFear 53 = .ok (.iload_n 3, 1) := by decide +kernel
theorem dX11_leastFear_54 : decode cX11_leastFear 54 = .ok (.invokevirtual 229, 3) := by decide +kernel
theorem dX11_leastFear_57 : decode cX11_leastFear 57 = .ok (.aload_n 0, 1) := by decide +kernel
theorem dX11_leastFear_58 : decode cX11_leastFear 58 = .ok (.getfield 59, 3) := by decide +kernel
theorem dX11_leastFear_61 : decode cX11_leastFear 61 = .ok (.iload_n 3, 1) := by decide +kernel
theorem dX11_leastFear_62 : decode cX11_leastFear 62 = .ok (.invokevirtual 226, 3) := by decide +kernel
theorem dX11_leastFear_65 : decode cX11_leastFear 65 = .ok (.ireturn, 1) := by decide +kernel
theorem dX11_ride_0 : decode cX11_ride 0 = .ok (.aload_n 0, 1) := by decide +kernel
theorem dX11_ride_1 : decode cX11_ride 1 = .ok (.getfield 42, 3) := by decide +kernel
theorem dX11_ride_4 : decode cX11_ride 4 = .ok (.aload_n 0, 1) := by decide +kernel
theorem dX11_ride_5 : decode cX11_ride 5 = .ok (.getfield 33, 3) := by decide +kernel
theorem dX11_ride_8 : decode cX11_ride 8 = .ok (.invokevirtual 236, 3) := by decide +kernel
theorem dX11_ride_11 : decode cX11_ride 11 = .ok (.aload_n 0, 1) := by decide +kernel
theorem dX11_ride_12 : decode cX11_ride 12 = .ok (.iload_n 1, 1) := by decide +kernel
theorem dX11_ride_13 : decode cX11_ride 13 = .ok (.iload_n 2, 1) := by decide +kernel
theorem dX11_ride_14 : decode cX11_ride 14 = .ok (.iload_n 3, 1) := by decide +kernel
theorem dX11_ride_15 : decode cX11_ride 15 = .ok (.iload 4, 2) := by decide +kernel
theorem dX11_ride_17 : decode cX11_ride 17 = .ok (.invokevirtual 240, 3) := by decide +kernel
theorem dX11_ride_20 : decode cX11_ride 20 = .ok (.istore 5, 2) := by decide +kernel
theorem dX11_ride_22 : decode cX11_ride 22 = .ok (.iload 5, 2) := by decide +kernel
theorem dX11_ride_24 : decode cX11_ride 24 = .ok (.ifCond .lt 14, 3) := by decide +kernel
theorem dX11_ride_27 : decode cX11_ride 27 = .ok (.aload_n 0, 1) := by decide +kernel
theorem dX11_ride_28 : decode cX11_ride 28 = .ok (.getfield 42, 3) := by decide +kernel
theorem dX11_ride_31 : decode cX11_ride 31 = .ok (.invokevirtual 244, 3) := by decide +kernel
theorem dX11_ride_34 : decode cX11_ride 34 = .ok (.aload_n 0, 1) := by decide +kernel
theorem dX11_ride_35 : decode cX11_ride 35 = .ok (.invokevirtual 247, 3) := by decide +kernel
theorem dX11_ride_38 : decode cX11_ride 38 = .ok (.iload 5, 2) := by decide +kernel
theorem dX11_ride_40 : decode cX11_ride 40 = .ok (.ireturn, 1) := by decide +kernel
theorem dX11_look_0 : decode cX11_look 0 = .ok (.aload_n 0, 1) := by decide +kernel
theorem dX11_look_1 : decode cX11_look 1 = .ok (.getfield 26, 3) := by decide +kernel
theorem dX11_look_4 : decode cX11_look 4 = .ok (.iload_n 1, 1) := by decide +kernel
theorem dX11_look_5 : decode cX11_look 5 = .ok (.invokevirtual 147, 3) := by decide +kernel
theorem dX11_look_8 : decode cX11_look 8 = .ok (.ifCond .eq 14, 3) := by decide +kernel
theorem dX11_look_11 : decode cX11_look 11 = .ok (.aload_n 0, 1) := by decide +kernel
theorem dX11_look_12 : decode cX11_look 12 = .ok (.getfield 26, 3) := by decide +kernel
theorem dX11_look_15 : decode cX11_look 15 = .ok (.iload_n 2, 1) := by decide +kernel
theorem dX11_look_16 : decode cX11_look 16 = .ok (.invokevirtual 191, 3) := by decide +kernel
theorem dX11_look_19 : decode cX11_look 19 = .ok (.ifCond .ne 5, 3) := by decide +kernel
theorem dX11_look_22 : decode cX11_look 22 = .ok (.iconst (-1), 1) := by decide +kernel
theorem dX11_look_23 : decode cX11_look 23 = .ok (.ireturn, 1) := by decide +kernel
theorem dX11_look_24 : decode cX11_look 24 = .ok (.aload_n 0, 1) := by decide +kernel
theorem dX11_look_25 : decode cX11_look 25 = .ok (.getfield 52, 3) := by decide +kernel
theorem dX11_look_28 : decode cX11_look 28 = .ok (.aload_n 0, 1) := by decide +kernel
theorem dX11_look_29 : decode cX11_look 29 = .ok (.getfield 26, 3) := by decide +kernel
theorem dX11_look_32 : decode cX11_look 32 = .ok (.iload_n 1, 1) := by decide +kernel
theorem dX11_look_33 : decode cX11_look 33 = .ok (.iload_n 2, 1) := by decide +kernel
theorem dX11_look_34 : decode cX11_look 34 = .ok (.iload_n 3, 1) := by decide +kernel
theorem dX11_look_35 : decode cX11_look 35 = .ok (.invokevirtual 250, 3) := by decide +kernel
theorem dX11_look_38 : decode cX11_look 38 = .ok (.aload_n 0, 1) := by decide +kernel
theorem dX11_look_39 : decode cX11_look 39 = .ok (.invokevirtual 247, 3) := by decide +kernel
theorem dX11_look_42 : decode cX11_look 42 = .ok (.aload_n 0, 1) := by decide +kernel
theorem dX11_look_43 : decode cX11_look 43 = .ok (.getfield 52, 3) := by decide +kernel
theorem dX11_look_46 : decode cX11_look 46 = .ok (.getfield 254, 3) := by decide +kernel
theorem dX11_look_49 : decode cX11_look 49 = .ok (.ireturn, 1) := by decide +kernel
theorem dX11_told_0 : decode cX11_told 0 = .ok (.aload_n 0, 1) := by decide +kernel
theorem dX11_told_1 : decode cX11_told 1 = .ok (.getfield 42, 3) := by decide +kernel
theorem dX11_told_4 : decode cX11_told 4 = .ok (.aload_n 0, 1) := by decide +kernel
theorem dX11_told_5 : decode cX11_told 5 = .ok (.getfield 33, 3) := by decide +kernel
theorem dX11_told_8 : decode cX11_told 8 = .ok (.invokevirtual 236, 3) := by decide +kernel
theorem dX11_told_11 : decode cX11_told 11 = .ok (.aload_n 0, 1) := by decide +kernel
theorem dX11_told_12 : decode cX11_told 12 = .ok (.iload_n 1, 1) := by decide +kernel
theorem dX11_told_13 : decode cX11_told 13 = .ok (.iload_n 2, 1) := by decide +kernel
theorem dX11_told_14 : decode cX11_told 14 = .ok (.iload_n 3, 1) := by decide +kernel
theorem dX11_told_15 : decode cX11_told 15 = .ok (.iload 4, 2) := by decide +kernel
theorem dX11_told_17 : decode cX11_told 17 = .ok (.invokevirtual 257, 3) := by decide +kernel
theorem dX11_told_20 : decode cX11_told 20 = .ok (.istore 5, 2) := by decide +kernel
theorem dX11_told_22 : decode cX11_told 22 = .ok (.iload 5, 2) := by decide +kernel
theorem dX11_told_24 : decode cX11_told 24 = .ok (.ifCond .lt 10, 3) := by decide +kernel
theorem dX11_told_27 : decode cX11_told 27 = .ok (.aload_n 0, 1) := by decide +kernel
theorem dX11_told_28 : decode cX11_told 28 = .ok (.getfield 42, 3) := by decide +kernel
theorem dX11_told_31 : decode cX11_told 31 = .ok (.invokevirtual 244, 3) := by decide +kernel
theorem dX11_told_34 : decode cX11_told 34 = .ok (.iload 5, 2) := by decide +kernel
theorem dX11_told_36 : decode cX11_told 36 = .ok (.ireturn, 1) := by decide +kernel
theorem dX11_addRide_0 : decode cX11_addRide 0 = .ok (.iload_n 1, 1) := by decide +kernel
theorem dX11_addRide_1 : decode cX11_addRide 1 = .ok (.invokestatic 260, 3) := by decide +kernel
theorem dX11_addRide_4 : decode cX11_addRide 4 = .ok (.ifCond .eq 25, 3) := by decide +kernel
theorem dX11_addRide_7 : decode cX11_addRide 7 = .ok (.aload_n 0, 1) := by decide +kernel
theorem dX11_addRide_8 : decode cX11_addRide 8 = .ok (.getfield 26, 3) := by decide +kernel
theorem dX11_addRide_11 : decode cX11_addRide 11 = .ok (.iload_n 2, 1) := by decide +kernel
theorem dX11_addRide_12 : decode cX11_addRide 12 = .ok (.invokevirtual 147, 3) := by decide +kernel
theorem dX11_addRide_15 : decode cX11_addRide 15 = .ok (.ifCond .eq 14, 3) := by decide +kernel
theorem dX11_addRide_18 : decode cX11_addRide 18 = .ok (.aload_n 0, 1) := by decide +kernel
theorem dX11_addRide_19 : decode cX11_addRide 19 = .ok (.getfield 26, 3) := by decide +kernel
theorem dX11_addRide_22 : decode cX11_addRide 22 = .ok (.iload_n 3, 1) := by decide +kernel
theorem dX11_addRide_23 : decode cX11_addRide 23 = .ok (.invokevirtual 191, 3) := by decide +kernel
theorem dX11_addRide_26 : decode cX11_addRide 26 = .ok (.ifCond .ne 5, 3) := by decide +kernel
theorem dX11_addRide_29 : decode cX11_addRide 29 = .ok (.iconst (-1), 1) := by decide +kernel
theorem dX11_addRide_30 : decode cX11_addRide 30 = .ok (.ireturn, 1) := by decide +kernel
theorem dX11_addRide_31 : decode cX11_addRide 31 = .ok (.aload_n 0, 1) := by decide +kernel
theorem dX11_addRide_32 : decode cX11_addRide 32 = .ok (.getfield 33, 3) := by decide +kernel
theorem dX11_addRide_35 : decode cX11_addRide 35 = .ok (.invokevirtual 263, 3) := by decide +kernel
theorem dX11_addRide_38 : decode cX11_addRide 38 = .ok (.ifCond .eq 6, 3) := by decide +kernel
theorem dX11_addRide_41 : decode cX11_addRide 41 = .ok (.bipush (-2), 2) := by decide +kernel
theorem dX11_addRide_43 : decode cX11_addRide 43 = .ok (.ireturn, 1) := by decide +kernel
theorem dX11_addRide_44 : decode cX11_addRide 44 = .ok (.aload_n 0, 1) := by decide +kernel
theorem dX11_addRide_45 : decode cX11_addRide 45 = .ok (.getfield 52, 3) := by decide +kernel
theorem dX11_addRide_48 : decode cX11_addRide 48 = .ok (.aload_n 0, 1) := by decide +kernel
theorem dX11_addRide_49 : decode cX11_addRide 49 = .ok (.getfield 26, 3) := by decide +kernel
theorem dX11_addRide_52 : decode cX11_addRide 52 = .ok (.iload_n 2, 1) := by decide +kernel
theorem dX11_addRide_53 : decode cX11_addRide 53 = .ok (.iload_n 3, 1) := by decide +kernel
theorem dX11_addRide_54 : decode cX11_addRide 54 = .ok (.iload 4, 2) := by decide +kernel
theorem dX11_addRide_56 : decode cX11_addRide 56 = .ok (.invokevirtual 250, 3) := by decide +kernel
theorem dX11_addRide_59 : decode cX11_addRide 59 = .ok (.aload_n 0, 1) := by decide +kernel
theorem dX11_addRide_60 : decode cX11_addRide 60 = .ok (.getfield 33, 3) := by decide +kernel
theorem dX11_addRide_63 : decode cX11_addRide 63 = .ok (.iload_n 1, 1) := by decide +kernel
theorem dX11_addRide_64 : decode cX11_addRide 64 = .ok (.iload_n 2, 1) := by decide +kernel
theorem dX11_addRide_65 : decode cX11_addRide 65 = .ok (.aload_n 0, 1) := by decide +kernel
theorem dX11_addRide_66 : decode cX11_addRide 66 = .ok (.getfield 52, 3) := by decide +kernel
theorem dX11_addRide_69 : decode cX11_addRide 69 = .ok (.getfield 254, 3) := by decide +kernel
theorem dX11_addRide_72 : decode cX11_addRide 72 = .ok (.aload_n 0, 1) := by decide +kernel
theorem dX11_addRide_73 : decode cX11_addRide 73 = .ok (.getfield 52, 3) := by decide +kernel
theorem dX11_addRide_76 : decode cX11_addRide 76 = .ok (.getfield 267, 3) := by decide +kernel
theorem dX11_addRide_79 : decode cX11_addRide 79 = .ok (.invokevirtual 270, 3) := by decide +kernel
theorem dX11_addRide_82 : decode cX11_addRide 82 = .ok (.aload_n 0, 1) := by decide +kernel
theorem dX11_addRide_83 : decode cX11_addRide 83 = .ok (.getfield 52, 3) := by decide +kernel
theorem dX11_addRide_86 : decode cX11_addRide 86 = .ok (.getfield 254, 3) := by decide +kernel
theorem dX11_addRide_89 : decode cX11_addRide 89 = .ok (.ireturn, 1) := by decide +kernel
theorem dX11_addTold_0 : decode cX11_addTold 0 = .ok (.iload_n 1, 1) := by decide +kernel
theorem dX11_addTold_1 : decode cX11_addTold 1 = .ok (.invokestatic 260, 3) := by decide +kernel
theorem dX11_addTold_4 : decode cX11_addTold 4 = .ok (.ifCond .eq 23, 3) := by decide +kernel
theorem dX11_addTold_7 : decode cX11_addTold 7 = .ok (.aload_n 0, 1) := by decide +kernel
theorem dX11_addTold_8 : decode cX11_addTold 8 = .ok (.getfield 26, 3) := by decide +kernel
theorem dX11_addTold_11 : decode cX11_addTold 11 = .ok (.iload_n 2, 1) := by decide +kernel
theorem dX11_addTold_12 : decode cX11_addTold 12 = .ok (.invokevirtual 147, 3) := by decide +kernel
theorem dX11_addTold_15 : decode cX11_addTold 15 = .ok (.ifCond .eq 12, 3) := by decide +kernel
theorem dX11_addTold_18 : decode cX11_addTold 18 = .ok (.iload_n 3, 1) := by decide +kernel
theorem dX11_addTold_19 : decode cX11_addTold 19 = .ok (.iload 4, 2) := by decide +kernel
theorem dX11_addTold_21 : decode cX11_addTold 21 = .ok (.invokestatic 273, 3) := by decide +kernel
theorem dX11_addTold_24 : decode cX11_addTold 24 = .ok (.ifCond .ne 5, 3) := by decide +kernel
theorem dX11_addTold_27 : decode cX11_addTold 27 = .ok (.iconst (-1), 1) := by decide +kernel
theorem dX11_addTold_28 : decode cX11_addTold 28 = .ok (.ireturn, 1) := by decide +kernel
theorem dX11_addTold_29 : decode cX11_addTold 29 = .ok (.aload_n 0, 1) := by decide +kernel
theorem dX11_addTold_30 : decode cX11_addTold 30 = .ok (.getfield 33, 3) := by decide +kernel
theorem dX11_addTold_33 : decode cX11_addTold 33 = .ok (.invokevirtual 263, 3) := by decide +kernel
theorem dX11_addTold_36 : decode cX11_addTold 36 = .ok (.ifCond .eq 6, 3) := by decide +kernel
theorem dX11_addTold_39 : decode cX11_addTold 39 = .ok (.bipush (-2), 2) := by decide +kernel
theorem dX11_addTold_41 : decode cX11_addTold 41 = .ok (.ireturn, 1) := by decide +kernel
theorem dX11_addTold_42 : decode cX11_addTold 42 = .ok (.aload_n 0, 1) := by decide +kernel
theorem dX11_addTold_43 : decode cX11_addTold 43 = .ok (.getfield 33, 3) := by decide +kernel
theorem dX11_addTold_46 : decode cX11_addTold 46 = .ok (.iload_n 1, 1) := by decide +kernel
theorem dX11_addTold_47 : decode cX11_addTold 47 = .ok (.iload_n 2, 1) := by decide +kernel
theorem dX11_addTold_48 : decode cX11_addTold 48 = .ok (.iload_n 3, 1) := by decide +kernel
theorem dX11_addTold_49 : decode cX11_addTold 49 = .ok (.iload 4, 2) := by decide +kernel
theorem dX11_addTold_51 : decode cX11_addTold 51 = .ok (.invokevirtual 270, 3) := by decide +kernel
theorem dX11_addTold_54 : decode cX11_addTold 54 = .ok (.aload_n 0, 1) := by decide +kernel
theorem dX11_addTold_55 : decode cX11_addTold 55 = .ok (.getfield 33, 3) := by decide +kernel
theorem dX11_addTold_58 : decode cX11_addTold 58 = .ok (.getfield 107, 3) := by decide +kernel
theorem dX11_addTold_61 : decode cX11_addTold 61 = .ok (.ireturn, 1) := by decide +kernel
theorem dX11_tellDrawn_0 : decode cX11_tellDrawn 0 = .ok (.aload_n 0, 1) := by decide +kernel
theorem dX11_tellDrawn_1 : decode cX11_tellDrawn 1 = .ok (.getfield 19, 3) := by decide +kernel
theorem dX11_tellDrawn_4 : decode cX11_tellDrawn 4 = .ok (.invokevirtual 171, 3) := by decide +kernel
theorem dX11_tellDrawn_7 : decode cX11_tellDrawn 7 = .ok (.aload_n 0, 1) := by decide +kernel
theorem dX11_tellDrawn_8 : decode cX11_tellDrawn 8 = .ok (.getfield 19, 3) := by decide +kernel
theorem dX11_tellDrawn_11 : decode cX11_tellDrawn 11 = .ok (.aload_n 0, 1) := by decide +kernel
theorem dX11_tellDrawn_12 : decode cX11_tellDrawn 12 = .ok (.getfield 52, 3) := by decide +kernel
theorem dX11_tellDrawn_15 : decode cX11_tellDrawn 15 = .ok (.getfield 267, 3) := by decide +kernel
theorem dX11_tellDrawn_18 : decode cX11_tellDrawn 18 = .ok (.i2l, 1) := by decide +kernel
theorem dX11_tellDrawn_19 : decode cX11_tellDrawn 19 = .ok (.invokevirtual 177, 3) := by decide +kernel
theorem dX11_tellDrawn_22 : decode cX11_tellDrawn 22 = .ok (.aload_n 0, 1) := by decide +kernel
theorem dX11_tellDrawn_23 : decode cX11_tellDrawn 23 = .ok (.getfield 19, 3) := by decide +kernel
theorem dX11_tellDrawn_26 : decode cX11_tellDrawn 26 = .ok (.aload_n 0, 1) := by decide +kernel
theorem dX11_tellDrawn_27 : decode cX11_tellDrawn 27 = .ok (.getfield 52, 3) := by decide +kernel
theorem dX11_tellDrawn_30 : decode cX11_tellDrawn 30 = .ok (.getfield 277, 3) := by decide +kernel
theorem dX11_tellDrawn_33 : decode cX11_tellDrawn 33 = .ok (.i2l, 1) := by decide +kernel
theorem dX11_tellDrawn_34 : decode cX11_tellDrawn 34 = .ok (.invokevirtual 177, 3) := by decide +kernel
theorem dX11_tellDrawn_37 : decode cX11_tellDrawn 37 = .ok (.aload_n 0, 1) := by decide +kernel
theorem dX11_tellDrawn_38 : decode cX11_tellDrawn 38 = .ok (.getfield 19, 3) := by decide +kernel
theorem dX11_tellDrawn_41 : decode cX11_tellDrawn 41 = .ok (.aload_n 0, 1) := by decide +kernel
theorem dX11_tellDrawn_42 : decode cX11_tellDrawn 42 = .ok (.getfield 52, 3) := by decide +kernel
theorem dX11_tellDrawn_45 : decode cX11_tellDrawn 45 = .ok (.getfield 280, 3) := by decide +kernel
theorem dX11_tellDrawn_48 : decode cX11_tellDrawn 48 = .ok (.i2l, 1) := by decide +kernel
theorem dX11_tellDrawn_49 : decode cX11_tellDrawn 49 = .ok (.invokevirtual 177, 3) := by decide +kernel
theorem dX11_tellDrawn_52 : decode cX11_tellDrawn 52 = .ok (.aload_n 0, 1) := by decide +kernel
theorem dX11_tellDrawn_53 : decode cX11_tellDrawn 53 = .ok (.getfield 19, 3) := by decide +kernel
theorem dX11_tellDrawn_56 : decode cX11_tellDrawn 56 = .ok (.aload_n 0, 1) := by decide +kernel
theorem dX11_tellDrawn_57 : decode cX11_tellDrawn 57 = .ok (.getfield 52, 3) := by decide +kernel
theorem dX11_tellDrawn_60 : decode cX11_tellDrawn 60 = .ok (.getfield 283, 3) := by decide +kernel
theorem dX11_tellDrawn_63 : decode cX11_tellDrawn 63 = .ok (.i2l, 1) := by decide +kernel
theorem dX11_tellDrawn_64 : decode cX11_tellDrawn 64 = .ok (.invokevirtual 177, 3) := by decide +kernel
theorem dX11_tellDrawn_67 : decode cX11_tellDrawn 67 = .ok (.return_, 1) := by decide +kernel
theorem dX11_isRider_0 : decode cX11_isRider 0 = .ok (.iload_n 0, 1) := by decide +kernel
theorem dX11_isRider_1 : decode cX11_isRider 1 = .ok (.ifCond .lt 13, 3) := by decide +kernel
theorem dX11_isRider_4 : decode cX11_isRider 4 = .ok (.iload_n 0, 1) := by decide +kernel
theorem dX11_isRider_5 : decode cX11_isRider 5 = .ok (.bipush 6, 2) := by decide +kernel
theorem dX11_isRider_7 : decode cX11_isRider 7 = .ok (.if_icmp .ge 7, 3) := by decide +kernel
theorem dX11_isRider_10 : decode cX11_isRider 10 = .ok (.iconst 1, 1) := by decide +kernel
theorem dX11_isRider_11 : decode cX11_isRider 11 = .ok (.goto 4, 3) := by decide +kernel
theorem dX11_isRider_14 : decode cX11_isRider 14 = .ok (.iconst 0, 1) := by decide +kernel
theorem dX11_isRider_15 : decode cX11_isRider 15 = .ok (.ireturn, 1) := by decide +kernel
theorem dX11_isResult_0 : decode cX11_isResult 0 = .ok (.iload_n 0, 1) := by decide +kernel
theorem dX11_isResult_1 : decode cX11_isResult 1 = .ok (.ifCond .lt 24, 3) := by decide +kernel
theorem dX11_isResult_4 : decode cX11_isResult 4 = .ok (.iload_n 0, 1) := by decide +kernel
theorem dX11_isResult_5 : decode cX11_isResult 5 = .ok (.bipush 99, 2) := by decide +kernel
theorem dX11_isResult_7 : decode cX11_isResult 7 = .ok (.if_icmp .gt 18, 3) := by decide +kernel
theorem dX11_isResult_10 : decode cX11_isResult 10 = .ok (.iload_n 1, 1) := by decide +kernel
theorem dX11_isResult_11 : decode cX11_isResult 11 = .ok (.ifCond .lt 14, 3) := by decide +kernel
theorem dX11_isResult_14 : decode cX11_isResult 14 = .ok (.iload_n 1, 1) := by decide +kernel
theorem dX11_isResult_15 : decode cX11_isResult 15 = .ok (.sipush 9999, 3) := by decide +kernel
theorem dX11_isResult_18 : decode cX11_isResult 18 = .ok (.if_icmp .gt 7, 3) := by decide +kernel
theorem dX11_isResult_21 : decode cX11_isResult 21 = .ok (.iconst 1, 1) := by decide +kernel
theorem dX11_isResult_22 : decode cX11_isResult 22 = .ok (.goto 4, 3) := by decide +kernel
theorem dX11_isResult_25 : decode cX11_isResult 25 = .ok (.iconst 0, 1) := by decide +kernel
theorem dX11_isResult_26 : decode cX11_isResult 26 = .ok (.ireturn, 1) := by decide +kernel
theorem dX11_show_0 : decode cX11_show 0 = .ok (.aload_n 0, 1) := by decide +kernel
theorem dX11_show_1 : decode cX11_show 1 = .ok (.getfield 73, 3) := by decide +kernel
theorem dX11_show_4 : decode cX11_show 4 = .ok (.aload_n 0, 1) := by decide +kernel
theorem dX11_show_5 : decode cX11_show 5 = .ok (.getfield 10, 3) := by decide +kernel
theorem dX11_show_8 : decode cX11_show 8 = .ok (.invokevirtual 286, 3) := by decide +kernel
theorem dX11_show_11 : decode cX11_show 11 = .ok (.istore_n 1, 1) := by decide +kernel
theorem dX11_show_12 : decode cX11_show 12 = .ok (.iload_n 1, 1) := by decide +kernel
theorem dX11_show_13 : decode cX11_show 13 = .ok (.ifCond .ge 12, 3) := by decide +kernel
theorem dX11_show_16 : decode cX11_show 16 = .ok (.aload_n 0, 1) := by decide +kernel
theorem dX11_show_17 : decode cX11_show 17 = .ok (.getfield 10, 3) := by decide +kernel
theorem dX11_show_20 : decode cX11_show 20 = .ok (.invokevirtual 104, 3) := by decide +kernel
theorem dX11_show_23 : decode cX11_show 23 = .ok (.iload_n 1, 1) := by decide +kernel
theorem dX11_show_24 : decode cX11_show 24 = .ok (.ireturn, 1) := by decide +kernel
theorem dX11_show_25 : decode cX11_show 25 = .ok (.aload_n 0, 1) := by decide +kernel
theorem dX11_show_26 : decode cX11_show 26 = .ok (.getfield 42, 3) := by decide +kernel
theorem dX11_show_29 : decode cX11_show 29 = .ok (.aload_n 0, 1) := by decide +kernel
theorem dX11_show_30 : decode cX11_show 30 = .ok (.getfield 33, 3) := by decide +kernel
theorem dX11_show_33 : decode cX11_show 33 = .ok (.invokevirtual 236, 3) := by decide +kernel
theorem dX11_show_36 : decode cX11_show 36 = .ok (.aload_n 0, 1) := by decide +kernel
theorem dX11_show_37 : decode cX11_show 37 = .ok (.getfield 10, 3) := by decide +kernel
theorem dX11_show_40 : decode cX11_show 40 = .ok (.bipush 60, 2) := by decide +kernel
theorem dX11_show_42 : decode cX11_show 42 = .ok (.invokevirtual 289, 3) := by decide +kernel
theorem dX11_show_45 : decode cX11_show 45 = .ok (.iconst 0, 1) := by decide +kernel
theorem dX11_show_46 : decode cX11_show 46 = .ok (.istore_n 2, 1) := by decide +kernel
theorem dX11_show_47 : decode cX11_show 47 = .ok (.iconst 0, 1) := by decide +kernel
theorem dX11_show_48 : decode cX11_show 48 = .ok (.istore_n 3, 1) := by decide +kernel
theorem dX11_show_49 : decode cX11_show 49 = .ok (.iconst 0, 1) := by decide +kernel
theorem dX11_show_50 : decode cX11_show 50 = .ok (.istore 4, 2) := by decide +kernel
theorem dX11_show_52 : decode cX11_show 52 = .ok (.iload 4, 2) := by decide +kernel
theorem dX11_show_54 : decode cX11_show 54 = .ok (.bipush 60, 2) := by decide +kernel
theorem dX11_show_56 : decode cX11_show 56 = .ok (.if_icmp .ge 70, 3) := by decide +kernel
theorem dX11_show_59 : decode cX11_show 59 = .ok (.iload_n 3, 1) := by decide +kernel
theorem dX11_show_60 : decode cX11_show 60 = .ok (.ifCond .ne 66, 3) := by decide +kernel
theorem dX11_show_63 : decode cX11_show 63 = .ok (.aload_n 0, 1) := by decide +kernel
theorem dX11_show_64 : decode cX11_show 64 = .ok (.getfield 10, 3) := by decide +kernel
theorem dX11_show_67 : decode cX11_show 67 = .ok (.invokevirtual 292, 3) := by decide +kernel
theorem dX11_show_70 : decode cX11_show 70 = .ok (.ifCond .ne 56, 3) := by decide +kernel
theorem dX11_show_73 : decode cX11_show 73 = .ok (.aload_n 0, 1) := by decide +kernel
theorem dX11_show_74 : decode cX11_show 74 = .ok (.getfield 73, 3) := by decide +kernel
theorem dX11_show_77 : decode cX11_show 77 = .ok (.aload_n 0, 1) := by decide +kernel
theorem dX11_show_78 : decode cX11_show 78 = .ok (.getfield 10, 3) := by decide +kernel
theorem dX11_show_81 : decode cX11_show 81 = .ok (.invokevirtual 295, 3) := by decide +kernel
theorem dX11_show_84 : decode cX11_show 84 = .ok (.pop, 1) := by decide +kernel
theorem dX11_show_85 : decode cX11_show 85 = .ok (.aload_n 0, 1) := by decide +kernel
theorem dX11_show_86 : decode cX11_show 86 = .ok (.getfield 10, 3) := by decide +kernel
theorem dX11_show_89 : decode cX11_show 89 = .ok (.bipush 59, 2) := by decide +kernel
theorem dX11_show_91 : decode cX11_show 91 = .ok (.invokevirtual 299, 3) := by decide +kernel
theorem dX11_show_94 : decode cX11_show 94 = .ok (.pop, 1) := by decide +kernel
theorem dX11_show_95 : decode cX11_show 95 = .ok (.aload_n 0, 1) := by decide +kernel
theorem dX11_show_96 : decode cX11_show 96 = .ok (.invokevirtual 303, 3) := by decide +kernel
theorem dX11_show_99 : decode cX11_show 99 = .ok (.ifCond .ne 7, 3) := by decide +kernel
theorem dX11_show_102 : decode cX11_show 102 = .ok (.iconst 1, 1) := by decide +kernel
theorem dX11_show_103 : decode cX11_show 103 = .ok (.goto 4, 3) := by decide +kernel
theorem dX11_show_106 : decode cX11_show 106 = .ok (.iconst 0, 1) := by decide +kernel
theorem dX11_show_107 : decode cX11_show 107 = .ok (.istore_n 3, 1) := by decide +kernel
theorem dX11_show_108 : decode cX11_show 108 = .ok (.iload_n 2, 1) := by decide +kernel
theorem dX11_show_109 : decode cX11_show 109 = .ok (.iload_n 3, 1) := by decide +kernel
theorem dX11_show_110 : decode cX11_show 110 = .ok (.ifCond .eq 7, 3) := by decide +kernel
theorem dX11_show_113 : decode cX11_show 113 = .ok (.iconst 0, 1) := by decide +kernel
theorem dX11_show_114 : decode cX11_show 114 = .ok (.goto 4, 3) := by decide +kernel
theorem dX11_show_117 : decode cX11_show 117 = .ok (.iconst 1, 1) := by decide +kernel
theorem dX11_show_118 : decode cX11_show 118 = .ok (.iadd, 1) := by decide +kernel
theorem dX11_show_119 : decode cX11_show 119 = .ok (.istore_n 2, 1) := by decide +kernel
theorem dX11_show_120 : decode cX11_show 120 = .ok (.iinc 4 1, 3) := by decide +kernel
theorem dX11_show_123 : decode cX11_show 123 = .ok (.goto (-71), 3) := by decide +kernel
theorem dX11_show_126 : decode cX11_show 126 = .ok (.aload_n 0, 1) := by decide +kernel
theorem dX11_show_127 : decode cX11_show 127 = .ok (.getfield 10, 3) := by decide +kernel
theorem dX11_show_130 : decode cX11_show 130 = .ok (.invokevirtual 104, 3) := by decide +kernel
theorem dX11_show_133 : decode cX11_show 133 = .ok (.iload_n 2, 1) := by decide +kernel
theorem dX11_show_134 : decode cX11_show 134 = .ok (.ifCond .le 10, 3) := by decide +kernel
theorem dX11_show_137 : decode cX11_show 137 = .ok (.aload_n 0, 1) := by decide +kernel
theorem dX11_show_138 : decode cX11_show 138 = .ok (.getfield 42, 3) := by decide +kernel
theorem dX11_show_141 : decode cX11_show 141 = .ok (.invokevirtual 244, 3) := by decide +kernel
theorem dX11_show_144 : decode cX11_show 144 = .ok (.aload_n 0, 1) := by decide +kernel
theorem dX11_show_145 : decode cX11_show 145 = .ok (.getfield 19, 3) := by decide +kernel
theorem dX11_show_148 : decode cX11_show 148 = .ok (.invokevirtual 171, 3) := by decide +kernel
theorem dX11_show_151 : decode cX11_show 151 = .ok (.aload_n 0, 1) := by decide +kernel
theorem dX11_show_152 : decode cX11_show 152 = .ok (.getfield 19, 3) := by decide +kernel
theorem dX11_show_155 : decode cX11_show 155 = .ok (.iload_n 3, 1) := by decide +kernel
theorem dX11_show_156 : decode cX11_show 156 = .ok (.ifCond .eq 7, 3) := by decide +kernel
theorem dX11_show_159 : decode cX11_show 159 = .ok (.lconst 1, 1) := by decide +kernel
theorem dX11_show_160 : decode cX11_show 160 = .ok (.goto 4, 3) := by decide +kernel
theorem dX11_show_163 : decode cX11_show 163 = .ok (.lconst 0, 1) := by decide +kernel
theorem dX11_show_164 : decode cX11_show 164 = .ok (.invokevirtual 177, 3) := by decide +kernel
theorem dX11_show_167 : decode cX11_show 167 = .ok (.aload_n 0, 1) := by decide +kernel
theorem dX11_show_168 : decode cX11_show 168 = .ok (.getfield 19, 3) := by decide +kernel
theorem dX11_show_171 : decode cX11_show 171 = .ok (.aload_n 0, 1) := by decide +kernel
theorem dX11_show_172 : decode cX11_show 172 = .ok (.getfield 33, 3) := by decide +kernel
theorem dX11_show_175 : decode cX11_show 175 = .ok (.getfield 107, 3) := by decide +kernel
theorem dX11_show_178 : decode cX11_show 178 = .ok (.i2l, 1) := by decide +kernel
theorem dX11_show_179 : decode cX11_show 179 = .ok (.invokevirtual 177, 3) := by decide +kernel
theorem dX11_show_182 : decode cX11_show 182 = .ok (.iload_n 2, 1) := by decide +kernel
theorem dX11_show_183 : decode cX11_show 183 = .ok (.ireturn, 1) := by decide +kernel
theorem dX11_perform_0 : decode cX11_perform 0 = .ok (.aload_n 0, 1) := by decide +kernel
theorem dX11_perform_1 : decode cX11_perform 1 = .ok (.getfield 73, 3) := by decide +kernel
theorem dX11_perform_4 : decode cX11_perform 4 = .ok (.getfield 306, 3) := by decide +kernel
theorem dX11_perform_7 : decode cX11_perform 7 = .ok (.bipush 114, 2) := by decide +kernel
theorem dX11_perform_9 : decode cX11_perform 9 = .ok (.if_icmp .ne 44, 3) := by decide +kernel
theorem dX11_perform_12 : decode cX11_perform 12 = .ok (.aload_n 0, 1) := by decide +kernel
theorem dX11_perform_13 : decode cX11_perform 13 = .ok (.aload_n 0, 1) := by decide +kernel
theorem dX11_perform_14 : decode cX11_perform 14 = .ok (.getfield 73, 3) := by decide +kernel
theorem dX11_perform_17 : decode cX11_perform 17 = .ok (.getfield 310, 3) := by decide +kernel
theorem dX11_perform_20 : decode cX11_perform 20 = .ok (.aload_n 0, 1) := by decide +kernel
theorem dX11_perform_21 : decode cX11_perform 21 = .ok (.getfield 73, 3) := by decide +kernel
theorem dX11_perform_24 : decode cX11_perform 24 = .ok (.getfield 313, 3) := by decide +kernel
theorem dX11_perform_27 : decode cX11_perform 27 = .ok (.aload_n 0, 1) := by decide +kernel
theorem dX11_perform_28 : decode cX11_perform 28 = .ok (.getfield 73, 3) := by decide +kernel
theorem dX11_perform_31 : decode cX11_perform 31 = .ok (.getfield 316, 3) := by decide +kernel
theorem dX11_perform_34 : decode cX11_perform 34 = .ok (.aload_n 0, 1) := by decide +kernel
theorem dX11_perform_35 : decode cX11_perform 35 = .ok (.getfield 73, 3) := by decide +kernel
theorem dX11_perform_38 : decode cX11_perform 38 = .ok (.getfield 319, 3) := by decide +kernel
theorem dX11_perform_41 : decode cX11_perform 41 = .ok (.invokevirtual 240, 3) := by decide +kernel
theorem dX11_perform_44 : decode cX11_perform 44 = .ok (.ifCond .lt 7, 3) := by decide +kernel
theorem dX11_perform_47 : decode cX11_perform 47 = .ok (.iconst 1, 1) := by decide +kernel
theorem dX11_perform_48 : decode cX11_perform 48 = .ok (.goto 4, 3) := by decide +kernel
theorem dX11_perform_51 : decode cX11_perform 51 = .ok (.iconst 0, 1) := by decide +kernel
theorem dX11_perform_52 : decode cX11_perform 52 = .ok (.ireturn, 1) := by decide +kernel
theorem dX11_perform_53 : decode cX11_perform 53 = .ok (.aload_n 0, 1) := by decide +kernel
theorem dX11_perform_54 : decode cX11_perform 54 = .ok (.getfield 73, 3) := by decide +kernel
theorem dX11_perform_57 : decode cX11_perform 57 = .ok (.getfield 306, 3) := by decide +kernel
theorem dX11_perform_60 : decode cX11_perform 60 = .ok (.bipush 116, 2) := by decide +kernel
theorem dX11_perform_62 : decode cX11_perform 62 = .ok (.if_icmp .ne 44, 3) := by decide +kernel
theorem dX11_perform_65 : decode cX11_perform 65 = .ok (.aload_n 0, 1) := by decide +kernel
theorem dX11_perform_66 : decode cX11_perform 66 = .ok (.aload_n 0, 1) := by decide +kernel
theorem dX11_perform_67 : decode cX11_perform 67 = .ok (.getfield 73, 3) := by decide +kernel
theorem dX11_perform_70 : decode cX11_perform 70 = .ok (.getfield 310, 3) := by decide +kernel
theorem dX11_perform_73 : decode cX11_perform 73 = .ok (.aload_n 0, 1) := by decide +kernel
theorem dX11_perform_74 : decode cX11_perform 74 = .ok (.getfield 73, 3) := by decide +kernel
theorem dX11_perform_77 : decode cX11_perform 77 = .ok (.getfield 313, 3) := by decide +kernel
theorem dX11_perform_80 : decode cX11_perform 80 = .ok (.aload_n 0, 1) := by decide +kernel
theorem dX11_perform_81 : decode cX11_perform 81 = .ok (.getfield 73, 3) := by decide +kernel
theorem dX11_perform_84 : decode cX11_perform 84 = .ok (.getfield 316, 3) := by decide +kernel
theorem dX11_perform_87 : decode cX11_perform 87 = .ok (.aload_n 0, 1) := by decide +kernel
theorem dX11_perform_88 : decode cX11_perform 88 = .ok (.getfield 73, 3) := by decide +kernel
theorem dX11_perform_91 : decode cX11_perform 91 = .ok (.getfield 319, 3) := by decide +kernel
theorem dX11_perform_94 : decode cX11_perform 94 = .ok (.invokevirtual 257, 3) := by decide +kernel
theorem dX11_perform_97 : decode cX11_perform 97 = .ok (.ifCond .lt 7, 3) := by decide +kernel
theorem dX11_perform_100 : decode cX11_perform 100 = .ok (.iconst 1, 1) := by decide +kernel
theorem dX11_perform_101 : decode cX11_perform 101 = .ok (.goto 4, 3) := by decide +kernel
theorem dX11_perform_104 : decode cX11_perform 104 = .ok (.iconst 0, 1) := by decide +kernel
theorem dX11_perform_105 : decode cX11_perform 105 = .ok (.ireturn, 1) := by decide +kernel
theorem dX11_perform_106 : decode cX11_perform 106 = .ok (.aload_n 0, 1) := by decide +kernel
theorem dX11_perform_107 : decode cX11_perform 107 = .ok (.getfield 33, 3) := by decide +kernel
theorem dX11_perform_110 : decode cX11_perform 110 = .ok (.invokevirtual 322, 3) := by decide +kernel
theorem dX11_perform_113 : decode cX11_perform 113 = .ok (.ireturn, 1) := by decide +kernel
theorem dX11_undo_0 : decode cX11_undo 0 = .ok (.aload_n 0, 1) := by decide +kernel
theorem dX11_undo_1 : decode cX11_undo 1 = .ok (.getfield 42, 3) := by decide +kernel
theorem dX11_undo_4 : decode cX11_undo 4 = .ok (.aload_n 0, 1) := by decide +kernel
theorem dX11_undo_5 : decode cX11_undo 5 = .ok (.getfield 33, 3) := by decide +kernel
theorem dX11_undo_8 : decode cX11_undo 8 = .ok (.invokevirtual 325, 3) := by decide +kernel
theorem dX11_undo_11 : decode cX11_undo 11 = .ok (.ireturn, 1) := by decide +kernel
theorem dX11_round_0 : decode cX11_round 0 = .ok (.iload_n 1, 1) := by decide +kernel
theorem dX11_round_1 : decode cX11_round 1 = .ok (.ifCond .lt 23, 3) := by decide +kernel
theorem dX11_round_4 : decode cX11_round 4 = .ok (.iload_n 1, 1) := by decide +kernel
theorem dX11_round_5 : decode cX11_round 5 = .ok (.aload_n 0, 1) := by decide +kernel
theorem dX11_round_6 : decode cX11_round 6 = .ok (.getfield 33, 3) := by decide +kernel
theorem dX11_round_9 : decode cX11_round 9 = .ok (.getfield 107, 3) := by decide +kernel
theorem dX11_round_12 : decode cX11_round 12 = .ok (.if_icmp .ge 12, 3) := by decide +kernel
theorem dX11_round_15 : decode cX11_round 15 = .ok (.iload_n 2, 1) := by decide +kernel
theorem dX11_round_16 : decode cX11_round 16 = .ok (.ifCond .lt 8, 3) := by decide +kernel
theorem dX11_round_19 : decode cX11_round 19 = .ok (.iload_n 2, 1) := by decide +kernel
theorem dX11_round_20 : decode cX11_round 20 = .ok (.iconst 5, 1) := by decide +kernel
theorem dX11_round_21 : decode cX11_round 21 = .ok (.if_icmp .le 11, 3) := by decide +kernel
theorem dX11_round_24 : decode cX11_round 24 = .ok (.new 135, 3) := by decide +kernel
theorem dX11_round_27 : decode cX11_round 27 = .ok (.dup, 1) := by decide +kernel
theorem dX11_round_28 : decode cX11_round 28 = .ok (.invokespecial 137, 3) := by decide +kernel
theorem dX11_round_31 : decode cX11_round 31 = .ok (.athrow, 1) := by decide +kernel
theorem dX11_round_32 : decode cX11_round 32 = .ok (.iload_n 2, 1) := by decide +kernel
theorem dX11_round_33 : decode cX11_round 33 = .ok (.tableswitch 91 0 4 #[35, 45, 55, 65, 75], 35) := by decide +kernel
theorem dX11_round_68 : decode cX11_round 68 = .ok (.aload_n 0, 1) := by decide +kernel
theorem dX11_round_69 : decode cX11_round 69 = .ok (.getfield 33, 3) := by decide +kernel
theorem dX11_round_72 : decode cX11_round 72 = .ok (.getfield 329, 3) := by decide +kernel
theorem dX11_round_75 : decode cX11_round 75 = .ok (.iload_n 1, 1) := by decide +kernel
theorem dX11_round_76 : decode cX11_round 76 = .ok (.iaload, 1) := by decide +kernel
theorem dX11_round_77 : decode cX11_round 77 = .ok (.ireturn, 1) := by decide +kernel
theorem dX11_round_78 : decode cX11_round 78 = .ok (.aload_n 0, 1) := by decide +kernel
theorem dX11_round_79 : decode cX11_round 79 = .ok (.getfield 33, 3) := by decide +kernel
theorem dX11_round_82 : decode cX11_round 82 = .ok (.getfield 332, 3) := by decide +kernel
theorem dX11_round_85 : decode cX11_round 85 = .ok (.iload_n 1, 1) := by decide +kernel
theorem dX11_round_86 : decode cX11_round 86 = .ok (.iaload, 1) := by decide +kernel
theorem dX11_round_87 : decode cX11_round 87 = .ok (.ireturn, 1) := by decide +kernel
theorem dX11_round_88 : decode cX11_round 88 = .ok (.aload_n 0, 1) := by decide +kernel
theorem dX11_round_89 : decode cX11_round 89 = .ok (.getfield 33, 3) := by decide +kernel
theorem dX11_round_92 : decode cX11_round 92 = .ok (.getfield 335, 3) := by decide +kernel
theorem dX11_round_95 : decode cX11_round 95 = .ok (.iload_n 1, 1) := by decide +kernel
theorem dX11_round_96 : decode cX11_round 96 = .ok (.iaload, 1) := by decide +kernel
theorem dX11_round_97 : decode cX11_round 97 = .ok (.ireturn, 1) := by decide +kernel
theorem dX11_round_98 : decode cX11_round 98 = .ok (.aload_n 0, 1) := by decide +kernel
theorem dX11_round_99 : decode cX11_round 99 = .ok (.getfield 33, 3) := by decide +kernel
theorem dX11_round_102 : decode cX11_round 102 = .ok (.getfield 337, 3) := by decide +kernel
theorem dX11_round_105 : decode cX11_round 105 = .ok (.iload_n 1, 1) := by decide +kernel
theorem dX11_round_106 : decode cX11_round 106 = .ok (.iaload, 1) := by decide +kernel
theorem dX11_round_107 : decode cX11_round 107 = .ok (.ireturn, 1) := by decide +kernel
theorem dX11_round_108 : decode cX11_round 108 = .ok (.aload_n 0, 1) := by decide +kernel
theorem dX11_round_109 : decode cX11_round 109 = .ok (.getfield 33, 3) := by decide +kernel
theorem dX11_round_112 : decode cX11_round 112 = .ok (.iload_n 1, 1) := by decide +kernel
theorem dX11_round_113 : decode cX11_round 113 = .ok (.aload_n 0, 1) := by decide +kernel
theorem dX11_round_114 : decode cX11_round 114 = .ok (.getfield 33, 3) := by decide +kernel
theorem dX11_round_117 : decode cX11_round 117 = .ok (.getfield 335, 3) := by decide +kernel
theorem dX11_round_120 : decode cX11_round 120 = .ok (.invokevirtual 339, 3) := by decide +kernel
theorem dX11_round_123 : decode cX11_round 123 = .ok (.ireturn, 1) := by decide +kernel
