theorem dX12_layThought_42 : decode cX12_layThought 42 = .ok (.iadd, 1) := by decide +kernel
theorem dX12_layThought_43 : decode cX12_layThought 43 = .ok (.iload 4, 2) := by decide +kernel
theorem dX12_layThought_45 : decode cX12_layThought 45 = .ok (.iastore, 1) := by decide +kernel
theorem dX12_layThought_46 : decode cX12_layThought 46 = .ok (.return_, 1) := by decide +kernel
theorem dX12_common_0 : decode cX12_common 0 = .ok (.lload_n 2, 1) := by decide +kernel
theorem dX12_common_1 : decode cX12_common 1 = .ok (.lconst 0, 1) := by decide +kernel
theorem dX12_common_2 : decode cX12_common 2 = .ok (.lcmp, 1) := by decide +kernel
theorem dX12_common_3 : decode cX12_common 3 = .ok (.ifCond .ne 7, 3) := by decide +kernel
theorem dX12_common_6 : decode cX12_common 6 = .ok (.lload_n 0, 1) := by decide +kernel
theorem dX12_common_7 : decode cX12_common 7 = .ok (.goto 10, 3) := by decide +kernel
theorem dX12_common_10 : decode cX12_common 10 = .ok (.lload_n 2, 1) := by decide +kernel
theorem dX12_common_11 : decode cX12_common 11 = .ok (.lload_n 0, 1) := by decide +kernel
theorem dX12_common_12 : decode cX12_common 12 = .ok (.lload_n 2, 1) := by decide +kernel
theorem dX12_common_13 : decode cX12_common 13 = .ok (.lrem, 1) := by decide +kernel
theorem dX12_common_14 : decode cX12_common 14 = .ok (.invokestatic 397, 3) := by decide +kernel
theorem dX12_common_17 : decode cX12_common 17 = .ok (.lreturn, 1) := by decide +kernel
theorem dX12_power_0 : decode cX12_power 0 = .ok (.lconst 1, 1) := by decide +kernel
theorem dX12_power_1 : decode cX12_power 1 = .ok (.lstore_n 3, 1) := by decide +kernel
theorem dX12_power_2 : decode cX12_power 2 = .ok (.iconst 0, 1) := by decide +kernel
theorem dX12_power_3 : decode cX12_power 3 = .ok (.istore 5, 2) := by decide +kernel
theorem dX12_power_5 : decode cX12_power 5 = .ok (.iload 5, 2) := by decide +kernel
theorem dX12_power_7 : decode cX12_power 7 = .ok (.iload_n 2, 1) := by decide +kernel
theorem dX12_power_8 : decode cX12_power 8 = .ok (.if_icmp .ge 13, 3) := by decide +kernel
theorem dX12_power_11 : decode cX12_power 11 = .ok (.lload_n 3, 1) := by decide +kernel
theorem dX12_power_12 : decode cX12_power 12 = .ok (.lload_n 0, 1) := by decide +kernel
theorem dX12_power_13 : decode cX12_power 13 = .ok (.lmul, 1) := by decide +kernel
theorem dX12_power_14 : decode cX12_power 14 = .ok (.lstore_n 3, 1) := by decide +kernel
theorem dX12_power_15 : decode cX12_power 15 = .ok (.iinc 5 1, 3) := by decide +kernel
theorem dX12_power_18 : decode cX12_power 18 = .ok (.goto (-13), 3) := by decide +kernel
theorem dX12_power_21 : decode cX12_power 21 = .ok (.lload_n 3, 1) := by decide +kernel
theorem dX12_power_22 : decode cX12_power 22 = .ok (.lreturn, 1) := by decide +kernel
theorem dX12_tellPart_0 : decode cX12_tellPart 0 = .ok (.lload_n 1, 1) := by decide +kernel
theorem dX12_tellPart_1 : decode cX12_tellPart 1 = .ok (.invokestatic 401, 3) := by decide +kernel
theorem dX12_tellPart_4 : decode cX12_tellPart 4 = .ok (.lload_n 3, 1) := by decide +kernel
theorem dX12_tellPart_5 : decode cX12_tellPart 5 = .ok (.invokestatic 397, 3) := by decide +kernel
theorem dX12_tellPart_8 : decode cX12_tellPart 8 = .ok (.lstore 5, 2) := by decide +kernel
theorem dX12_tellPart_10 : decode cX12_tellPart 10 = .ok (.aload_n 0, 1) := by decide +kernel
theorem dX12_tellPart_11 : decode cX12_tellPart 11 = .ok (.lload_n 1, 1) := by decide +kernel
theorem dX12_tellPart_12 : decode cX12_tellPart 12 = .ok (.lload 5, 2) := by decide +kernel
theorem dX12_tellPart_14 : decode cX12_tellPart 14 = .ok (.ldiv, 1) := by decide +kernel
theorem dX12_tellPart_15 : decode cX12_tellPart 15 = .ok (.invokevirtual 265, 3) := by decide +kernel
theorem dX12_tellPart_18 : decode cX12_tellPart 18 = .ok (.aload_n 0, 1) := by decide +kernel
theorem dX12_tellPart_19 : decode cX12_tellPart 19 = .ok (.lload_n 3, 1) := by decide +kernel
theorem dX12_tellPart_20 : decode cX12_tellPart 20 = .ok (.lload 5, 2) := by decide +kernel
theorem dX12_tellPart_22 : decode cX12_tellPart 22 = .ok (.ldiv, 1) := by decide +kernel
theorem dX12_tellPart_23 : decode cX12_tellPart 23 = .ok (.invokevirtual 265, 3) := by decide +kernel
theorem dX12_tellPart_26 : decode cX12_tellPart 26 = .ok (.return_, 1) := by decide +kernel
theorem dX12_readComing_0 : decode cX12_readComing 0 = .ok (.aload_n 0, 1) := by decide +kernel
theorem dX12_readComing_1 : decode cX12_readComing 1 = .ok (.getfield 139, 3) := by decide +kernel
theorem dX12_readComing_4 : decode cX12_readComing 4 = .ok (.istore_n 3, 1) := by decide +kernel
theorem dX12_readComing_5 : decode cX12_readComing 5 = .ok (.aload_n 0, 1) := by decide +kernel
theorem dX12_readComing_6 : decode cX12_readComing 6 = .ok (.iconst 0, 1) := by decide +kernel
theorem dX12_readComing_7 : decode cX12_readComing 7 = .ok (.putfield 139, 3) := by decide +kernel
theorem dX12_readComing_10 : decode cX12_readComing 10 = .ok (.aload_n 0, 1) := by decide +kernel
theorem dX12_readComing_11 : decode cX12_readComing 11 = .ok (.getfield 129, 3) := by decide +kernel
theorem dX12_readComing_14 : decode cX12_readComing 14 = .ok (.ifCond .ne 6, 3) := by decide +kernel
theorem dX12_readComing_17 : decode cX12_readComing 17 = .ok (.bipush (-100), 2) := by decide +kernel
theorem dX12_readComing_19 : decode cX12_readComing 19 = .ok (.ireturn, 1) := by decide +kernel
theorem dX12_readComing_20 : decode cX12_readComing 20 = .ok (.iconst 0, 1) := by decide +kernel
theorem dX12_readComing_21 : decode cX12_readComing 21 = .ok (.istore 4, 2) := by decide +kernel
theorem dX12_readComing_23 : decode cX12_readComing 23 = .ok (.iload 4, 2) := by decide +kernel
theorem dX12_readComing_25 : decode cX12_readComing 25 = .ok (.iload_n 3, 1) := by decide +kernel
theorem dX12_readComing_26 : decode cX12_readComing 26 = .ok (.if_icmp .ge 44, 3) := by decide +kernel
theorem dX12_readComing_29 : decode cX12_readComing 29 = .ok (.iload 4, 2) := by decide +kernel
theorem dX12_readComing_31 : decode cX12_readComing 31 = .ok (.iload_n 2, 1) := by decide +kernel
theorem dX12_readComing_32 : decode cX12_readComing 32 = .ok (.if_icmp .eq 27, 3) := by decide +kernel
theorem dX12_readComing_35 : decode cX12_readComing 35 = .ok (.aload_n 0, 1) := by decide +kernel
theorem dX12_readComing_36 : decode cX12_readComing 36 = .ok (.getfield 41, 3) := by decide +kernel
theorem dX12_readComing_39 : decode cX12_readComing 39 = .ok (.iload 4, 2) := by decide +kernel
theorem dX12_readComing_41 : decode cX12_readComing 41 = .ok (.baload, 1) := by decide +kernel
theorem dX12_readComing_42 : decode cX12_readComing 42 = .ok (.bipush 48, 2) := by decide +kernel
theorem dX12_readComing_44 : decode cX12_readComing 44 = .ok (.bipush 48, 2) := by decide +kernel
theorem dX12_readComing_46 : decode cX12_readComing 46 = .ok (.aload_n 0, 1) := by decide +kernel
theorem dX12_readComing_47 : decode cX12_readComing 47 = .ok (.getfield 126, 3) := by decide +kernel
theorem dX12_readComing_50 : decode cX12_readComing 50 = .ok (.iadd, 1) := by decide +kernel
theorem dX12_readComing_51 : decode cX12_readComing 51 = .ok (.iconst 1, 1) := by decide +kernel
theorem dX12_readComing_52 : decode cX12_readComing 52 = .ok (.isub, 1) := by decide +kernel
theorem dX12_readComing_53 : decode cX12_readComing 53 = .ok (.invokestatic 122, 3) := by decide +kernel
theorem dX12_readComing_56 : decode cX12_readComing 56 = .ok (.ifCond .ne 8, 3) := by decide +kernel
theorem dX12_readComing_59 : decode cX12_readComing 59 = .ok (.iconst (-1), 1) := by decide +kernel
theorem dX12_readComing_60 : decode cX12_readComing 60 = .ok (.iload 4, 2) := by decide +kernel
theorem dX12_readComing_62 : decode cX12_readComing 62 = .ok (.isub, 1) := by decide +kernel
theorem dX12_readComing_63 : decode cX12_readComing 63 = .ok (.ireturn, 1) := by decide +kernel
theorem dX12_readComing_64 : decode cX12_readComing 64 = .ok (.iinc 4 1, 3) := by decide +kernel
theorem dX12_readComing_67 : decode cX12_readComing 67 = .ok (.goto (-44), 3) := by decide +kernel
theorem dX12_readComing_70 : decode cX12_readComing 70 = .ok (.iload_n 3, 1) := by decide +kernel
theorem dX12_readComing_71 : decode cX12_readComing 71 = .ok (.iload_n 1, 1) := by decide +kernel
theorem dX12_readComing_72 : decode cX12_readComing 72 = .ok (.if_icmp .ge 7, 3) := by decide +kernel
theorem dX12_readComing_75 : decode cX12_readComing 75 = .ok (.iconst (-1), 1) := by decide +kernel
theorem dX12_readComing_76 : decode cX12_readComing 76 = .ok (.iload_n 3, 1) := by decide +kernel
theorem dX12_readComing_77 : decode cX12_readComing 77 = .ok (.isub, 1) := by decide +kernel
theorem dX12_readComing_78 : decode cX12_readComing 78 = .ok (.ireturn, 1) := by decide +kernel
theorem dX12_readComing_79 : decode cX12_readComing 79 = .ok (.iconst 0, 1) := by decide +kernel
theorem dX12_readComing_80 : decode cX12_readComing 80 = .ok (.istore 4, 2) := by decide +kernel
theorem dX12_readComing_82 : decode cX12_readComing 82 = .ok (.iload 4, 2) := by decide +kernel
theorem dX12_readComing_84 : decode cX12_readComing 84 = .ok (.iload_n 3, 1) := by decide +kernel
theorem dX12_readComing_85 : decode cX12_readComing 85 = .ok (.if_icmp .ge 26, 3) := by decide +kernel
theorem dX12_readComing_88 : decode cX12_readComing 88 = .ok (.aload_n 0, 1) := by decide +kernel
theorem dX12_readComing_89 : decode cX12_readComing 89 = .ok (.getfield 85, 3) := by decide +kernel
theorem dX12_readComing_92 : decode cX12_readComing 92 = .ok (.iload 4, 2) := by decide +kernel
theorem dX12_readComing_94 : decode cX12_readComing 94 = .ok (.aload_n 0, 1) := by decide +kernel
theorem dX12_readComing_95 : decode cX12_readComing 95 = .ok (.getfield 41, 3) := by decide +kernel
theorem dX12_readComing_98 : decode cX12_readComing 98 = .ok (.iload 4, 2) := by decide +kernel
theorem dX12_readComing_100 : decode cX12_readComing 100 = .ok (.baload, 1) := by decide +kernel
theorem dX12_readComing_101 : decode cX12_readComing 101 = .ok (.bipush 48, 2) := by decide +kernel
theorem dX12_readComing_103 : decode cX12_readComing 103 = .ok (.isub, 1) := by decide +kernel
theorem dX12_readComing_104 : decode cX12_readComing 104 = .ok (.iastore, 1) := by decide +kernel
theorem dX12_readComing_105 : decode cX12_readComing 105 = .ok (.iinc 4 1, 3) := by decide +kernel
theorem dX12_readComing_108 : decode cX12_readComing 108 = .ok (.goto (-26), 3) := by decide +kernel
theorem dX12_readComing_111 : decode cX12_readComing 111 = .ok (.aload_n 0, 1) := by decide +kernel
theorem dX12_readComing_112 : decode cX12_readComing 112 = .ok (.iload_n 3, 1) := by decide +kernel
theorem dX12_readComing_113 : decode cX12_readComing 113 = .ok (.putfield 382, 3) := by decide +kernel
theorem dX12_readComing_116 : decode cX12_readComing 116 = .ok (.iconst 0, 1) := by decide +kernel
theorem dX12_readComing_117 : decode cX12_readComing 117 = .ok (.ireturn, 1) := by decide +kernel
theorem dX12_game_0 : decode cX12_game 0 = .ok (.aload_n 0, 1) := by decide +kernel
theorem dX12_game_1 : decode cX12_game 1 = .ok (.iconst 0, 1) := by decide +kernel
theorem dX12_game_2 : decode cX12_game 2 = .ok (.putfield 113, 3) := by decide +kernel
theorem dX12_game_5 : decode cX12_game 5 = .ok (.aload_n 0, 1) := by decide +kernel
theorem dX12_game_6 : decode cX12_game 6 = .ok (.iconst 1, 1) := by decide +kernel
theorem dX12_game_7 : decode cX12_game 7 = .ok (.iconst 3, 1) := by decide +kernel
theorem dX12_game_8 : decode cX12_game 8 = .ok (.invokevirtual 405, 3) := by decide +kernel
theorem dX12_game_11 : decode cX12_game 11 = .ok (.istore_n 1, 1) := by decide +kernel
theorem dX12_game_12 : decode cX12_game 12 = .ok (.iload_n 1, 1) := by decide +kernel
theorem dX12_game_13 : decode cX12_game 13 = .ok (.ifCond .ge 5, 3) := by decide +kernel
theorem dX12_game_16 : decode cX12_game 16 = .ok (.iload_n 1, 1) := by decide +kernel
theorem dX12_game_17 : decode cX12_game 17 = .ok (.ireturn, 1) := by decide +kernel
theorem dX12_game_18 : decode cX12_game 18 = .ok (.aload_n 0, 1) := by decide +kernel
theorem dX12_game_19 : decode cX12_game 19 = .ok (.iconst 0, 1) := by decide +kernel
theorem dX12_game_20 : decode cX12_game 20 = .ok (.invokevirtual 394, 3) := by decide +kernel
theorem dX12_game_23 : decode cX12_game 23 = .ok (.aload_n 0, 1) := by decide +kernel
theorem dX12_game_24 : decode cX12_game 24 = .ok (.iconst 0, 1) := by decide +kernel
theorem dX12_game_25 : decode cX12_game 25 = .ok (.putfield 116, 3) := by decide +kernel
theorem dX12_game_28 : decode cX12_game 28 = .ok (.iconst 0, 1) := by decide +kernel
theorem dX12_game_29 : decode cX12_game 29 = .ok (.istore_n 2, 1) := by decide +kernel
theorem dX12_game_30 : decode cX12_game 30 = .ok (.iload_n 2, 1) := by decide +kernel
theorem dX12_game_31 : decode cX12_game 31 = .ok (.aload_n 0, 1) := by decide +kernel
theorem dX12_game_32 : decode cX12_game 32 = .ok (.getfield 382, 3) := by decide +kernel
theorem dX12_game_35 : decode cX12_game 35 = .ok (.if_icmp .ge 29, 3) := by decide +kernel
theorem dX12_game_38 : decode cX12_game 38 = .ok (.aload_n 0, 1) := by decide +kernel
theorem dX12_game_39 : decode cX12_game 39 = .ok (.aload_n 0, 1) := by decide +kernel
theorem dX12_game_40 : decode cX12_game 40 = .ok (.getfield 88, 3) := by decide +kernel
theorem dX12_game_43 : decode cX12_game 43 = .ok (.iload_n 2, 1) := by decide +kernel
theorem dX12_game_44 : decode cX12_game 44 = .ok (.laload, 1) := by decide +kernel
theorem dX12_game_45 : decode cX12_game 45 = .ok (.ldc2_w 408, 3) := by decide +kernel
theorem dX12_game_48 : decode cX12_game 48 = .ok (.aload_n 0, 1) := by decide +kernel
theorem dX12_game_49 : decode cX12_game 49 = .ok (.getfield 382, 3) := by decide +kernel
theorem dX12_game_52 : decode cX12_game 52 = .ok (.invokestatic 410, 3) := by decide +kernel
theorem dX12_game_55 : decode cX12_game 55 = .ok (.invokevirtual 414, 3) := by decide +kernel
theorem dX12_game_58 : decode cX12_game 58 = .ok (.iinc 2 1, 3) := by decide +kernel
theorem dX12_game_61 : decode cX12_game 61 = .ok (.goto (-31), 3) := by decide +kernel
theorem dX12_game_64 : decode cX12_game 64 = .ok (.aload_n 0, 1) := by decide +kernel
theorem dX12_game_65 : decode cX12_game 65 = .ok (.getfield 91, 3) := by decide +kernel
theorem dX12_game_68 : decode cX12_game 68 = .ok (.iconst 0, 1) := by decide +kernel
theorem dX12_game_69 : decode cX12_game 69 = .ok (.iaload, 1) := by decide +kernel
theorem dX12_game_70 : decode cX12_game 70 = .ok (.ireturn, 1) := by decide +kernel
theorem dX12_lot_0 : decode cX12_lot 0 = .ok (.aload_n 0, 1) := by decide +kernel
theorem dX12_lot_1 : decode cX12_lot 1 = .ok (.iconst 0, 1) := by decide +kernel
theorem dX12_lot_2 : decode cX12_lot 2 = .ok (.putfield 113, 3) := by decide +kernel
theorem dX12_lot_5 : decode cX12_lot 5 = .ok (.aload_n 0, 1) := by decide +kernel
theorem dX12_lot_6 : decode cX12_lot 6 = .ok (.iconst 2, 1) := by decide +kernel
theorem dX12_lot_7 : decode cX12_lot 7 = .ok (.iconst 3, 1) := by decide +kernel
theorem dX12_lot_8 : decode cX12_lot 8 = .ok (.invokevirtual 405, 3) := by decide +kernel
theorem dX12_lot_11 : decode cX12_lot 11 = .ok (.istore_n 1, 1) := by decide +kernel
theorem dX12_lot_12 : decode cX12_lot 12 = .ok (.iload_n 1, 1) := by decide +kernel
theorem dX12_lot_13 : decode cX12_lot 13 = .ok (.ifCond .ge 5, 3) := by decide +kernel
theorem dX12_lot_16 : decode cX12_lot 16 = .ok (.iload_n 1, 1) := by decide +kernel
theorem dX12_lot_17 : decode cX12_lot 17 = .ok (.ireturn, 1) := by decide +kernel
theorem dX12_lot_18 : decode cX12_lot 18 = .ok (.iconst 0, 1) := by decide +kernel
theorem dX12_lot_19 : decode cX12_lot 19 = .ok (.istore_n 2, 1) := by decide +kernel
theorem dX12_lot_20 : decode cX12_lot 20 = .ok (.iload_n 2, 1) := by decide +kernel
theorem dX12_lot_21 : decode cX12_lot 21 = .ok (.aload_n 0, 1) := by decide +kernel
theorem dX12_lot_22 : decode cX12_lot 22 = .ok (.getfield 382, 3) := by decide +kernel
theorem dX12_lot_25 : decode cX12_lot 25 = .ok (.if_icmp .ge 21, 3) := by decide +kernel
theorem dX12_lot_28 : decode cX12_lot 28 = .ok (.aload_n 0, 1) := by decide +kernel
theorem dX12_lot_29 : decode cX12_lot 29 = .ok (.getfield 97, 3) := by decide +kernel
theorem dX12_lot_32 : decode cX12_lot 32 = .ok (.iload_n 2, 1) := by decide +kernel
theorem dX12_lot_33 : decode cX12_lot 33 = .ok (.aload_n 0, 1) := by decide +kernel
theorem dX12_lot_34 : decode cX12_lot 34 = .ok (.getfield 85, 3) := by decide +kernel
theorem dX12_lot_37 : decode cX12_lot 37 = .ok (.iload_n 2, 1) := by decide +kernel
theorem dX12_lot_38 : decode cX12_lot 38 = .ok (.iaload, 1) := by decide +kernel
theorem dX12_lot_39 : decode cX12_lot 39 = .ok (.iastore, 1) := by decide +kernel
theorem dX12_lot_40 : decode cX12_lot 40 = .ok (.iinc 2 1, 3) := by decide +kernel
theorem dX12_lot_43 : decode cX12_lot 43 = .ok (.goto (-23), 3) := by decide +kernel
theorem dX12_lot_46 : decode cX12_lot 46 = .ok (.iconst 0, 1) := by decide +kernel
theorem dX12_lot_47 : decode cX12_lot 47 = .ok (.istore_n 2, 1) := by decide +kernel
theorem dX12_lot_48 : decode cX12_lot 48 = .ok (.ldc2_w 388, 3) := by decide +kernel
theorem dX12_lot_51 : decode cX12_lot 51 = .ok (.lstore_n 3, 1) := by decide +kernel
theorem dX12_lot_52 : decode cX12_lot 52 = .ok (.iconst 0, 1) := by decide +kernel
theorem dX12_lot_53 : decode cX12_lot 53 = .ok (.istore 5, 2) := by decide +kernel
theorem dX12_lot_55 : decode cX12_lot 55 = .ok (.iload 5, 2) := by decide +kernel
theorem dX12_lot_57 : decode cX12_lot 57 = .ok (.aload_n 0, 1) := by decide +kernel
theorem dX12_lot_58 : decode cX12_lot 58 = .ok (.getfield 382, 3) := by decide +kernel
theorem dX12_lot_61 : decode cX12_lot 61 = .ok (.if_icmp .ge 101, 3) := by decide +kernel
theorem dX12_lot_64 : decode cX12_lot 64 = .ok (.iconst 1, 1) := by decide +kernel
theorem dX12_lot_65 : decode cX12_lot 65 = .ok (.istore 6, 2) := by decide +kernel
theorem dX12_lot_67 : decode cX12_lot 67 = .ok (.iconst 0, 1) := by decide +kernel
theorem dX12_lot_68 : decode cX12_lot 68 = .ok (.istore 7, 2) := by decide +kernel
theorem dX12_lot_70 : decode cX12_lot 70 = .ok (.iload 7, 2) := by decide +kernel
theorem dX12_lot_72 : decode cX12_lot 72 = .ok (.aload_n 0, 1) := by decide +kernel
theorem dX12_lot_73 : decode cX12_lot 73 = .ok (.getfield 382, 3) := by decide +kernel
theorem dX12_lot_76 : decode cX12_lot 76 = .ok (.if_icmp .ge 49, 3) := by decide +kernel
theorem dX12_lot_79 : decode cX12_lot 79 = .ok (.aload_n 0, 1) := by decide +kernel
theorem dX12_lot_80 : decode cX12_lot 80 = .ok (.getfield 85, 3) := by decide +kernel
theorem dX12_lot_83 : decode cX12_lot 83 = .ok (.iload 7, 2) := by decide +kernel
theorem dX12_lot_85 : decode cX12_lot 85 = .ok (.iload 7, 2) := by decide +kernel
theorem dX12_lot_87 : decode cX12_lot 87 = .ok (.iload 5, 2) := by decide +kernel
theorem dX12_lot_89 : decode cX12_lot 89 = .ok (.if_icmp .ne 12, 3) := by decide +kernel
theorem dX12_lot_92 : decode cX12_lot 92 = .ok (.aload_n 0, 1) := by decide +kernel
theorem dX12_lot_93 : decode cX12_lot 93 = .ok (.getfield 97, 3) := by decide +kernel
theorem dX12_lot_96 : decode cX12_lot 96 = .ok (.iconst 0, 1) := by decide +kernel
theorem dX12_lot_97 : decode cX12_lot 97 = .ok (.iaload, 1) := by decide +kernel
theorem dX12_lot_98 : decode cX12_lot 98 = .ok (.goto 10, 3) := by decide +kernel
theorem dX12_lot_101 : decode cX12_lot 101 = .ok (.aload_n 0, 1) := by decide +kernel
theorem dX12_lot_102 : decode cX12_lot 102 = .ok (.getfield 97, 3) := by decide +kernel
theorem dX12_lot_105 : decode cX12_lot 105 = .ok (.iload 6, 2) := by decide +kernel
theorem dX12_lot_107 : decode cX12_lot 107 = .ok (.iaload, 1) := by decide +kernel
theorem dX12_lot_108 : decode cX12_lot 108 = .ok (.iastore, 1) := by decide +kernel
theorem dX12_lot_109 : decode cX12_lot 109 = .ok (.iload 7, 2) := by decide +kernel
theorem dX12_lot_111 : decode cX12_lot 111 = .ok (.iload 5, 2) := by decide +kernel
theorem dX12_lot_113 : decode cX12_lot 113 = .ok (.if_icmp .eq 6, 3) := by decide +kernel
theorem dX12_lot_116 : decode cX12_lot 116 = .ok (.iinc 6 1, 3) := by decide +kernel
theorem dX12_lot_119 : decode cX12_lot 119 = .ok (.iinc 7 1, 3) := by decide +kernel
theorem dX12_lot_122 : decode cX12_lot 122 = .ok (.goto (-52), 3) := by decide +kernel
theorem dX12_lot_125 : decode cX12_lot 125 = .ok (.aload_n 0, 1) := by decide +kernel
theorem dX12_lot_126 : decode cX12_lot 126 = .ok (.iconst 0, 1) := by decide +kernel
theorem dX12_lot_127 : decode cX12_lot 127 = .ok (.invokevirtual 394, 3) := by decide +kernel
theorem dX12_lot_130 : decode cX12_lot 130 = .ok (.aload_n 0, 1) := by decide +kernel
theorem dX12_lot_131 : decode cX12_lot 131 = .ok (.getfield 88, 3) := by decide +kernel
theorem dX12_lot_134 : decode cX12_lot 134 = .ok (.iload 5, 2) := by decide +kernel
theorem dX12_lot_136 : decode cX12_lot 136 = .ok (.laload, 1) := by decide +kernel
theorem dX12_lot_137 : decode cX12_lot 137 = .ok (.lload_n 3, 1) := by decide +kernel
theorem dX12_lot_138 : decode cX12_lot 138 = .ok (.lcmp, 1) := by decide +kernel
theorem dX12_lot_139 : decode cX12_lot 139 = .ok (.ifCond .gt 6, 3) := by decide +kernel
theorem dX12_lot_142 : decode cX12_lot 142 = .ok (.goto 14, 3) := by decide +kernel
theorem dX12_lot_145 : decode cX12_lot 145 = .ok (.iload 5, 2) := by decide +kernel
theorem dX12_lot_147 : decode cX12_lot 147 = .ok (.istore_n 2, 1) := by decide +kernel
theorem dX12_lot_148 : decode cX12_lot 148 = .ok (.aload_n 0, 1) := by decide +kernel
theorem dX12_lot_149 : decode cX12_lot 149 = .ok (.getfield 88, 3) := by decide +kernel
theorem dX12_lot_152 : decode cX12_lot 152 = .ok (.iload 5, 2) := by decide +kernel
theorem dX12_lot_154 : decode cX12_lot 154 = .ok (.laload, 1) := by decide +kernel
theorem dX12_lot_155 : decode cX12_lot 155 = .ok (.lstore_n 3, 1) := by decide +kernel
theorem dX12_lot_156 : decode cX12_lot 156 = .ok (.iinc 5 1, 3) := by decide +kernel
theorem dX12_lot_159 : decode cX12_lot 159 = .ok (.goto (-104), 3) := by decide +kernel
theorem dX12_lot_162 : decode cX12_lot 162 = .ok (.aload_n 0, 1) := by decide +kernel
theorem dX12_lot_163 : decode cX12_lot 163 = .ok (.iconst 0, 1) := by decide +kernel
theorem dX12_lot_164 : decode cX12_lot 164 = .ok (.putfield 116, 3) := by decide +kernel
theorem dX12_lot_167 : decode cX12_lot 167 = .ok (.aload_n 0, 1) := by decide +kernel
theorem dX12_lot_168 : decode cX12_lot 168 = .ok (.lload_n 3, 1) := by decide +kernel
theorem dX12_lot_169 : decode cX12_lot 169 = .ok (.ldc2_w 408, 3) := by decide +kernel
theorem dX12_lot_172 : decode cX12_lot 172 = .ok (.aload_n 0, 1) := by decide +kernel
theorem dX12_lot_173 : decode cX12_lot 173 = .ok (.getfield 382, 3) := by decide +kernel
theorem dX12_lot_176 : decode cX12_lot 176 = .ok (.invokestatic 410, 3) := by decide +kernel
theorem dX12_lot_179 : decode cX12_lot 179 = .ok (.invokevirtual 414, 3) := by decide +kernel
theorem dX12_lot_182 : decode cX12_lot 182 = .ok (.iload_n 2, 1) := by decide +kernel
theorem dX12_lot_183 : decode cX12_lot 183 = .ok (.ireturn, 1) := by decide +kernel
theorem dX12_share_0 : decode cX12_share 0 = .ok (.aload_n 0, 1) := by decide +kernel
theorem dX12_share_1 : decode cX12_share 1 = .ok (.iconst 0, 1) := by decide +kernel
theorem dX12_share_2 : decode cX12_share 2 = .ok (.putfield 113, 3) := by decide +kernel
theorem dX12_share_5 : decode cX12_share 5 = .ok (.aload_n 0, 1) := by decide +kernel
theorem dX12_share_6 : decode cX12_share 6 = .ok (.getfield 129, 3) := by decide +kernel
theorem dX12_share_9 : decode cX12_share 9 = .ok (.ifCond .le 21, 3) := by decide +kernel
theorem dX12_share_12 : decode cX12_share 12 = .ok (.iload_n 1, 1) := by decide +kernel
theorem dX12_share_13 : decode cX12_share 13 = .ok (.iconst 1, 1) := by decide +kernel
theorem dX12_share_14 : decode cX12_share 14 = .ok (.iconst 5, 1) := by decide +kernel
theorem dX12_share_15 : decode cX12_share 15 = .ok (.invokestatic 122, 3) := by decide +kernel
theorem dX12_share_18 : decode cX12_share 18 = .ok (.ifCond .ne 12, 3) := by decide +kernel
theorem dX12_share_21 : decode cX12_share 21 = .ok (.aload_n 0, 1) := by decide +kernel
theorem dX12_share_22 : decode cX12_share 22 = .ok (.iconst 0, 1) := by decide +kernel
theorem dX12_share_23 : decode cX12_share 23 = .ok (.putfield 139, 3) := by decide +kernel
theorem dX12_share_26 : decode cX12_share 26 = .ok (.sipush (-200), 3) := by decide +kernel
theorem dX12_share_29 : decode cX12_share 29 = .ok (.ireturn, 1) := by decide +kernel
theorem dX12_share_30 : decode cX12_share 30 = .ok (.aload_n 0, 1) := by decide +kernel
theorem dX12_share_31 : decode cX12_share 31 = .ok (.iconst 2, 1) := by decide +kernel
theorem dX12_share_32 : decode cX12_share 32 = .ok (.iconst 2, 1) := by decide +kernel
theorem dX12_share_33 : decode cX12_share 33 = .ok (.invokevirtual 405, 3) := by decide +kernel
theorem dX12_share_36 : decode cX12_share 36 = .ok (.istore_n 2, 1) := by decide +kernel
theorem dX12_share_37 : decode cX12_share 37 = .ok (.iload_n 2, 1) := by decide +kernel
theorem dX12_share_38 : decode cX12_share 38 = .ok (.ifCond .ge 5, 3) := by decide +kernel
theorem dX12_share_41 : decode cX12_share 41 = .ok (.iload_n 2, 1) := by decide +kernel
theorem dX12_share_42 : decode cX12_share 42 = .ok (.ireturn, 1) := by decide +kernel
theorem dX12_share_43 : decode cX12_share 43 = .ok (.aload_n 0, 1) := by decide +kernel
theorem dX12_share_44 : decode cX12_share 44 = .ok (.iconst 0, 1) := by decide +kernel
theorem dX12_share_45 : decode cX12_share 45 = .ok (.invokevirtual 394, 3) := by decide +kernel
theorem dX12_share_48 : decode cX12_share 48 = .ok (.ldc2_w 418, 3) := by decide +kernel
theorem dX12_share_51 : decode cX12_share 51 = .ok (.lstore_n 3, 1) := by decide +kernel
theorem dX12_share_52 : decode cX12_share 52 = .ok (.aload_n 0, 1) := by decide +kernel
theorem dX12_share_53 : decode cX12_share 53 = .ok (.iload_n 1, 1) := by decide +kernel
theorem dX12_share_54 : decode cX12_share 54 = .ok (.invokevirtual 362, 3) := by decide +kernel
theorem dX12_share_57 : decode cX12_share 57 = .ok (.aload_n 0, 1) := by decide +kernel
theorem dX12_share_58 : decode cX12_share 58 = .ok (.iload_n 1, 1) := by decide +kernel
theorem dX12_share_59 : decode cX12_share 59 = .ok (.iconst 1, 1) := by decide +kernel
theorem dX12_share_60 : decode cX12_share 60 = .ok (.iadd, 1) := by decide +kernel
theorem dX12_share_61 : decode cX12_share 61 = .ok (.invokevirtual 362, 3) := by decide +kernel
theorem dX12_share_64 : decode cX12_share 64 = .ok (.iadd, 1) := by decide +kernel
theorem dX12_share_65 : decode cX12_share 65 = .ok (.i2l, 1) := by decide +kernel
theorem dX12_share_66 : decode cX12_share 66 = .ok (.lstore 5, 2) := by decide +kernel
theorem dX12_share_68 : decode cX12_share 68 = .ok (.lload 5, 2) := by decide +kernel
theorem dX12_share_70 : decode cX12_share 70 = .ok (.lload_n 3, 1) := by decide +kernel
theorem dX12_share_71 : decode cX12_share 71 = .ok (.lmul, 1) := by decide +kernel
theorem dX12_share_72 : decode cX12_share 72 = .ok (.ldc2_w 420, 3) := by decide +kernel
theorem dX12_share_75 : decode cX12_share 75 = .ok (.aload_n 0, 1) := by decide +kernel
theorem dX12_share_76 : decode cX12_share 76 = .ok (.getfield 88, 3) := by decide +kernel
theorem dX12_share_79 : decode cX12_share 79 = .ok (.iconst 0, 1) := by decide +kernel
theorem dX12_share_80 : decode cX12_share 80 = .ok (.laload, 1) := by decide +kernel
theorem dX12_share_81 : decode cX12_share 81 = .ok (.lmul, 1) := by decide +kernel
theorem dX12_share_82 : decode cX12_share 82 = .ok (.lcmp, 1) := by decide +kernel
theorem dX12_share_83 : decode cX12_share 83 = .ok (.ifCond .lt 25, 3) := by decide +kernel
theorem dX12_share_86 : decode cX12_share 86 = .ok (.lload 5, 2) := by decide +kernel
theorem dX12_share_88 : decode cX12_share 88 = .ok (.lload_n 3, 1) := by decide +kernel
theorem dX12_share_89 : decode cX12_share 89 = .ok (.lmul, 1) := by decide +kernel
theorem dX12_share_90 : decode cX12_share 90 = .ok (.ldc2_w 420, 3) := by decide +kernel
theorem dX12_share_93 : decode cX12_share 93 = .ok (.aload_n 0, 1) := by decide +kernel
theorem dX12_share_94 : decode cX12_share 94 = .ok (.getfield 88, 3) := by decide +kernel
theorem dX12_share_97 : decode cX12_share 97 = .ok (.iconst 1, 1) := by decide +kernel
theorem dX12_share_98 : decode cX12_share 98 = .ok (.laload, 1) := by decide +kernel
theorem dX12_share_99 : decode cX12_share 99 = .ok (.lmul, 1) := by decide +kernel
theorem dX12_share_100 : decode cX12_share 100 = .ok (.lcmp, 1) := by decide +kernel
theorem dX12_share_101 : decode cX12_share 101 = .ok (.ifCond .lt 7, 3) := by decide +kernel
theorem dX12_share_104 : decode cX12_share 104 = .ok (.iconst 1, 1) := by decide +kernel
theorem dX12_share_105 : decode cX12_share 105 = .ok (.goto 4, 3) := by decide +kernel
theorem dX12_share_108 : decode cX12_share 108 = .ok (.iconst 0, 1) := by decide +kernel
theorem dX12_share_109 : decode cX12_share 109 = .ok (.istore 7, 2) := by decide +kernel
theorem dX12_share_111 : decode cX12_share 111 = .ok (.aload_n 0, 1) := by decide +kernel
theorem dX12_share_112 : decode cX12_share 112 = .ok (.iconst 0, 1) := by decide +kernel
theorem dX12_share_113 : decode cX12_share 113 = .ok (.putfield 116, 3) := by decide +kernel
theorem dX12_share_116 : decode cX12_share 116 = .ok (.aload_n 0, 1) := by decide +kernel
theorem dX12_share_117 : decode cX12_share 117 = .ok (.lload 5, 2) := by decide +kernel
theorem dX12_share_119 : decode cX12_share 119 = .ok (.invokevirtual 265, 3) := by decide +kernel
theorem dX12_share_122 : decode cX12_share 122 = .ok (.aload_n 0, 1) := by decide +kernel
theorem dX12_share_123 : decode cX12_share 123 = .ok (.aload_n 0, 1) := by decide +kernel
theorem dX12_share_124 : decode cX12_share 124 = .ok (.getfield 88, 3) := by decide +kernel
theorem dX12_share_127 : decode cX12_share 127 = .ok (.iconst 0, 1) := by decide +kernel
theorem dX12_share_128 : decode cX12_share 128 = .ok (.laload, 1) := by decide +kernel
theorem dX12_share_129 : decode cX12_share 129 = .ok (.lload_n 3, 1) := by decide +kernel
theorem dX12_share_130 : decode cX12_share 130 = .ok (.invokevirtual 414, 3) := by decide +kernel
theorem dX12_share_133 : decode cX12_share 133 = .ok (.aload_n 0, 1) := by decide +kernel
theorem dX12_share_134 : decode cX12_share 134 = .ok (.aload_n 0, 1) := by decide +kernel
theorem dX12_share_135 : decode cX12_share 135 = .ok (.getfield 88, 3) := by decide +kernel
theorem dX12_share_138 : decode cX12_share 138 = .ok (.iconst 1, 1) := by decide +kernel
theorem dX12_share_139 : decode cX12_share 139 = .ok (.laload, 1) := by decide +kernel
theorem dX12_share_140 : decode cX12_share 140 = .ok (.lload_n 3, 1) := by decide +kernel
theorem dX12_share_141 : decode cX12_share 141 = .ok (.invokevirtual 414, 3) := by decide +kernel
theorem dX12_share_144 : decode cX12_share 144 = .ok (.iload 7, 2) := by decide +kernel
theorem dX12_share_146 : decode cX12_share 146 = .ok (.ifCond .eq 7, 3) := by decide +kernel
theorem dX12_share_149 : decode cX12_share 149 = .ok (.iconst 1, 1) := by decide +kernel
theorem dX12_share_150 : decode cX12_share 150 = .ok (.goto 4, 3) := by decide +kernel
theorem dX12_share_153 : decode cX12_share 153 = .ok (.iconst 0, 1) := by decide +kernel
theorem dX12_share_154 : decode cX12_share 154 = .ok (.ireturn, 1) := by decide +kernel
theorem dX12_throughBy_0 : decode cX12_throughBy 0 = .ok (.iconst 0, 1) := by decide +kernel
theorem dX12_throughBy_1 : decode cX12_throughBy 1 = .ok (.istore 5, 2) := by decide +kernel
theorem dX12_throughBy_3 : decode cX12_throughBy 3 = .ok (.iconst 0, 1) := by decide +kernel
theorem dX12_throughBy_4 : decode cX12_throughBy 4 = .ok (.istore 6, 2) := by decide +kernel
theorem dX12_throughBy_6 : decode cX12_throughBy 6 = .ok (.iload 6, 2) := by decide +kernel
theorem dX12_throughBy_8 : decode cX12_throughBy 8 = .ok (.aload_n 0, 1) := by decide +kernel
theorem dX12_throughBy_9 : decode cX12_throughBy 9 = .ok (.getfield 126, 3) := by decide +kernel
theorem dX12_throughBy_12 : decode cX12_throughBy 12 = .ok (.if_icmp .ge 36, 3) := by decide +kernel
theorem dX12_throughBy_15 : decode cX12_throughBy 15 = .ok (.iload 5, 2) := by decide +kernel
theorem dX12_throughBy_17 : decode cX12_throughBy 17 = .ok (.aload_n 0, 1) := by decide +kernel
theorem dX12_throughBy_18 : decode cX12_throughBy 18 = .ok (.iload 6, 2) := by decide +kernel
theorem dX12_throughBy_20 : decode cX12_throughBy 20 = .ok (.iload_n 1, 1) := by decide +kernel
theorem dX12_throughBy_21 : decode cX12_throughBy 21 = .ok (.iload_n 3, 1) := by decide +kernel
theorem dX12_throughBy_22 : decode cX12_throughBy 22 = .ok (.iload 4, 2) := by decide +kernel
theorem dX12_throughBy_24 : decode cX12_throughBy 24 = .ok (.invokevirtual 276, 3) := by decide +kernel
theorem dX12_throughBy_27 : decode cX12_throughBy 27 = .ok (.iload_n 2, 1) := by decide +kernel
theorem dX12_throughBy_28 : decode cX12_throughBy 28 = .ok (.if_icmp .lt 10, 3) := by decide +kernel
theorem dX12_throughBy_31 : decode cX12_throughBy 31 = .ok (.iconst 1, 1) := by decide +kernel
theorem dX12_throughBy_32 : decode cX12_throughBy 32 = .ok (.iload 6, 2) := by decide +kernel
theorem dX12_throughBy_34 : decode cX12_throughBy 34 = .ok (.ishl, 1) := by decide +kernel
theorem dX12_throughBy_35 : decode cX12_throughBy 35 = .ok (.goto 4, 3) := by decide +kernel
theorem dX12_throughBy_38 : decode cX12_throughBy 38 = .ok (.iconst 0, 1) := by decide +kernel
theorem dX12_throughBy_39 : decode cX12_throughBy 39 = .ok (.ior, 1) := by decide +kernel
theorem dX12_throughBy_40 : decode cX12_throughBy 40 = .ok (.istore 5, 2) := by decide +kernel
theorem dX12_throughBy_42 : decode cX12_throughBy 42 = .ok (.iinc 6 1, 3) := by decide +kernel
theorem dX12_throughBy_45 : decode cX12_throughBy 45 = .ok (.goto (-39), 3) := by decide +kernel
theorem dX12_throughBy_48 : decode cX12_throughBy 48 = .ok (.iload 5, 2) := by decide +kernel
theorem dX12_throughBy_50 : decode cX12_throughBy 50 = .ok (.ireturn, 1) := by decide +kernel
theorem dX12_through_0 : decode cX12_through 0 = .ok (.aload_n 0, 1) := by decide +kernel
theorem dX12_through_1 : decode cX12_through 1 = .ok (.iconst 0, 1) := by decide +kernel
theorem dX12_through_2 : decode cX12_through 2 = .ok (.putfield 113, 3) := by decide +kernel
theorem dX12_through_5 : decode cX12_through 5 = .ok (.aload_n 0, 1) := by decide +kernel
theorem dX12_through_6 : decode cX12_through 6 = .ok (.iload_n 1, 1) := by decide +kernel
theorem dX12_through_7 : decode cX12_through 7 = .ok (.invokevirtual 136, 3) := by decide +kernel
theorem dX12_through_10 : decode cX12_through 10 = .ok (.ifCond .eq 14, 3) := by decide +kernel
theorem dX12_through_13 : decode cX12_through 13 = .ok (.iload_n 2, 1) := by decide +kernel
theorem dX12_through_14 : decode cX12_through 14 = .ok (.iconst 0, 1) := by decide +kernel
theorem dX12_through_15 : decode cX12_through 15 = .ok (.sipush 10000, 3) := by decide +kernel
theorem dX12_through_18 : decode cX12_through 18 = .ok (.invokestatic 122, 3) := by decide +kernel
theorem dX12_through_21 : decode cX12_through 21 = .ok (.ifCond .ne 5, 3) := by decide +kernel
theorem dX12_through_24 : decode cX12_through 24 = .ok (.iconst (-1), 1) := by decide +kernel
theorem dX12_through_25 : decode cX12_through 25 = .ok (.ireturn, 1) := by decide +kernel
theorem dX12_through_26 : decode cX12_through 26 = .ok (.aload_n 0, 1) := by decide +kernel
theorem dX12_through_27 : decode cX12_through 27 = .ok (.iload_n 1, 1) := by decide +kernel
theorem dX12_through_28 : decode cX12_through 28 = .ok (.iload_n 2, 1) := by decide +kernel
theorem dX12_through_29 : decode cX12_through 29 = .ok (.iconst (-1), 1) := by decide +kernel
theorem dX12_through_30 : decode cX12_through 30 = .ok (.iconst 0, 1) := by decide +kernel
theorem dX12_through_31 : decode cX12_through 31 = .ok (.invokevirtual 422, 3) := by decide +kernel
theorem dX12_through_34 : decode cX12_through 34 = .ok (.istore_n 3, 1) := by decide +kernel
theorem dX12_through_35 : decode cX12_through 35 = .ok (.aload_n 0, 1) := by decide +kernel
theorem dX12_through_36 : decode cX12_through 36 = .ok (.iconst 0, 1) := by decide +kernel
theorem dX12_through_37 : decode cX12_through 37 = .ok (.putfield 116, 3) := by decide +kernel
theorem dX12_through_40 : decode cX12_through 40 = .ok (.aload_n 0, 1) := by decide +kernel
theorem dX12_through_41 : decode cX12_through 41 = .ok (.iload_n 3, 1) := by decide +kernel
theorem dX12_through_42 : decode cX12_through 42 = .ok (.invokestatic 425, 3) := by decide +kernel
theorem dX12_through_45 : decode cX12_through 45 = .ok (.i2l, 1) := by decide +kernel
theorem dX12_through_46 : decode cX12_through 46 = .ok (.invokevirtual 265, 3) := by decide +kernel
theorem dX12_through_49 : decode cX12_through 49 = .ok (.iload_n 3, 1) := by decide +kernel
theorem dX12_through_50 : decode cX12_through 50 = .ok (.ireturn, 1) := by decide +kernel
theorem dX12_built_0 : decode cX12_built 0 = .ok (.aload_n 0, 1) := by decide +kernel
theorem dX12_built_1 : decode cX12_built 1 = .ok (.iconst 0, 1) := by decide +kernel
theorem dX12_built_2 : decode cX12_built 2 = .ok (.putfield 113, 3) := by decide +kernel
theorem dX12_built_5 : decode cX12_built 5 = .ok (.aload_n 0, 1) := by decide +kernel
theorem dX12_built_6 : decode cX12_built 6 = .ok (.iload_n 1, 1) := by decide +kernel
theorem dX12_built_7 : decode cX12_built 7 = .ok (.invokevirtual 136, 3) := by decide +kernel
theorem dX12_built_10 : decode cX12_built 10 = .ok (.ifCond .eq 24, 3) := by decide +kernel
theorem dX12_built_13 : decode cX12_built 13 = .ok (.iload_n 2, 1) := by decide +kernel
theorem dX12_built_14 : decode cX12_built 14 = .ok (.iconst 0, 1) := by decide +kernel
theorem dX12_built_15 : decode cX12_built 15 = .ok (.sipush 10000, 3) := by decide +kernel
theorem dX12_built_18 : decode cX12_built 18 = .ok (.invokestatic 122, 3) := by decide +kernel
theorem dX12_built_21 : decode cX12_built 21 = .ok (.ifCond .eq 13, 3) := by decide +kernel
theorem dX12_built_24 : decode cX12_built 24 = .ok (.iload_n 3, 1) := by decide +kernel
theorem dX12_built_25 : decode cX12_built 25 = .ok (.iconst 0, 1) := by decide +kernel
theorem dX12_built_26 : decode cX12_built 26 = .ok (.bipush 6, 2) := by decide +kernel
theorem dX12_built_28 : decode cX12_built 28 = .ok (.invokestatic 122, 3) := by decide +kernel
theorem dX12_built_31 : decode cX12_built 31 = .ok (.ifCond .ne 6, 3) := by decide +kernel
theorem dX12_built_34 : decode cX12_built 34 = .ok (.bipush (-2), 2) := by decide +kernel
theorem dX12_built_36 : decode cX12_built 36 = .ok (.ireturn, 1) := by decide +kernel
theorem dX12_built_37 : decode cX12_built 37 = .ok (.iconst (-1), 1) := by decide +kernel
theorem dX12_built_38 : decode cX12_built 38 = .ok (.istore 4, 2) := by decide +kernel
theorem dX12_built_40 : decode cX12_built 40 = .ok (.iconst (-1), 1) := by decide +kernel
theorem dX12_built_41 : decode cX12_built 41 = .ok (.istore 5, 2) := by decide +kernel
theorem dX12_built_43 : decode cX12_built 43 = .ok (.aload_n 0, 1) := by decide +kernel
theorem dX12_built_44 : decode cX12_built 44 = .ok (.iload_n 1, 1) := by decide +kernel
theorem dX12_built_45 : decode cX12_built 45 = .ok (.iload_n 2, 1) := by decide +kernel
theorem dX12_built_46 : decode cX12_built 46 = .ok (.iconst (-1), 1) := by decide +kernel
theorem dX12_built_47 : decode cX12_built 47 = .ok (.iconst 0, 1) := by decide +kernel
theorem dX12_built_48 : decode cX12_built 48 = .ok (.invokevirtual 422, 3) := by decide +kernel
theorem dX12_built_51 : decode cX12_built 51 = .ok (.invokestatic 425, 3) := by decide +kernel
theorem dX12_built_54 : decode cX12_built 54 = .ok (.istore 6, 2) := by decide +kernel
theorem dX12_built_56 : decode cX12_built 56 = .ok (.iconst 0, 1) := by decide +kernel
theorem dX12_built_57 : decode cX12_built 57 = .ok (.istore 7, 2) := by decide +kernel
theorem dX12_built_59 : decode cX12_built 59 = .ok (.iload 7, 2) := by decide +kernel
theorem dX12_built_61 : decode cX12_built 61 = .ok (.aload_n 0, 1) := by decide +kernel
theorem dX12_built_62 : decode cX12_built 62 = .ok (.getfield 119, 3) := by decide +kernel
theorem dX12_built_65 : decode cX12_built 65 = .ok (.if_icmp .ge 72, 3) := by decide +kernel
theorem dX12_built_68 : decode cX12_built 68 = .ok (.iconst 0, 1) := by decide +kernel
theorem dX12_built_69 : decode cX12_built 69 = .ok (.istore 8, 2) := by decide +kernel
theorem dX12_built_71 : decode cX12_built 71 = .ok (.iload 8, 2) := by decide +kernel
theorem dX12_built_73 : decode cX12_built 73 = .ok (.bipush 9, 2) := by decide +kernel
theorem dX12_built_75 : decode cX12_built 75 = .ok (.if_icmp .gt 56, 3) := by decide +kernel
theorem dX12_built_78 : decode cX12_built 78 = .ok (.aload_n 0, 1) := by decide +kernel
theorem dX12_built_79 : decode cX12_built 79 = .ok (.iload_n 1, 1) := by decide +kernel
theorem dX12_built_80 : decode cX12_built 80 = .ok (.iload_n 2, 1) := by decide +kernel
theorem dX12_built_81 : decode cX12_built 81 = .ok (.iload 7, 2) := by decide +kernel
theorem dX12_built_83 : decode cX12_built 83 = .ok (.iload 8, 2) := by decide +kernel
theorem dX12_built_85 : decode cX12_built 85 = .ok (.invokevirtual 422, 3) := by decide +kernel
theorem dX12_built_88 : decode cX12_built 88 = .ok (.invokestatic 425, 3) := by decide +kernel
theorem dX12_built_91 : decode cX12_built 91 = .ok (.istore 9, 2) := by decide +kernel
theorem dX12_built_93 : decode cX12_built 93 = .ok (.iload 9, 2) := by decide +kernel
theorem dX12_built_95 : decode cX12_built 95 = .ok (.iload_n 3, 1) := by decide +kernel
theorem dX12_built_96 : decode cX12_built 96 = .ok (.isub, 1) := by decide +kernel
theorem dX12_built_97 : decode cX12_built 97 = .ok (.invokestatic 430, 3) := by decide +kernel
theorem dX12_built_100 : decode cX12_built 100 = .ok (.iload 6, 2) := by decide +kernel
theorem dX12_built_102 : decode cX12_built 102 = .ok (.iload_n 3, 1) := by decide +kernel
theorem dX12_built_103 : decode cX12_built 103 = .ok (.isub, 1) := by decide +kernel
theorem dX12_built_104 : decode cX12_built 104 = .ok (.invokestatic 430, 3) := by decide +kernel
theorem dX12_built_107 : decode cX12_built 107 = .ok (.if_icmp .lt 6, 3) := by decide +kernel
theorem dX12_built_110 : decode cX12_built 110 = .ok (.goto 15, 3) := by decide +kernel
theorem dX12_built_113 : decode cX12_built 113 = .ok (.iload 7, 2) := by decide +kernel
theorem dX12_built_115 : decode cX12_built 115 = .ok (.istore 4, 2) := by decide +kernel
theorem dX12_built_117 : decode cX12_built 117 = .ok (.iload 8, 2) := by decide +kernel
theorem dX12_built_119 : decode cX12_built 119 = .ok (.istore 5, 2) := by decide +kernel
theorem dX12_built_121 : decode cX12_built 121 = .ok (.iload 9, 2) := by decide +kernel
theorem dX12_built_123 : decode cX12_built 123 = .ok (.istore 6, 2) := by decide +kernel
theorem dX12_built_125 : decode cX12_built 125 = .ok (.iinc 8 1, 3) := by decide +kernel
theorem dX12_built_128 : decode cX12_built 128 = .ok (.goto (-57), 3) := by decide +kernel
theorem dX12_built_131 : decode cX12_built 131 = .ok (.iinc 7 1, 3) := by decide +kernel
theorem dX12_built_134 : decode cX12_built 134 = .ok (.goto (-75), 3) := by decide +kernel
theorem dX12_built_137 : decode cX12_built 137 = .ok (.aload_n 0, 1) := by decide +kernel
theorem dX12_built_138 : decode cX12_built 138 = .ok (.iconst 0, 1) := by decide +kernel
theorem dX12_built_139 : decode cX12_built 139 = .ok (.putfield 116, 3) := by decide +kernel
theorem dX12_built_142 : decode cX12_built 142 = .ok (.aload_n 0, 1) := by decide +kernel
theorem dX12_built_143 : decode cX12_built 143 = .ok (.iload 5, 2) := by decide +kernel
theorem dX12_built_145 : decode cX12_built 145 = .ok (.i2l, 1) := by decide +kernel
theorem dX12_built_146 : decode cX12_built 146 = .ok (.invokevirtual 265, 3) := by decide +kernel
theorem dX12_built_149 : decode cX12_built 149 = .ok (.aload_n 0, 1) := by decide +kernel
theorem dX12_built_150 : decode cX12_built 150 = .ok (.iload 6, 2) := by decide +kernel
theorem dX12_built_152 : decode cX12_built 152 = .ok (.i2l, 1) := by decide +kernel
theorem dX12_built_153 : decode cX12_built 153 = .ok (.invokevirtual 265, 3) := by decide +kernel
theorem dX12_built_156 : decode cX12_built 156 = .ok (.iload 4, 2) := by decide +kernel
theorem dX12_built_158 : decode cX12_built 158 = .ok (.ireturn, 1) := by decide +kernel
theorem dX12_fair_0 : decode cX12_fair 0 = .ok (.aload_n 0, 1) := by decide +kernel
theorem dX12_fair_1 : decode cX12_fair 1 = .ok (.iconst 0, 1) := by decide +kernel
theorem dX12_fair_2 : decode cX12_fair 2 = .ok (.putfield 113, 3) := by decide +kernel
theorem dX12_fair_5 : decode cX12_fair 5 = .ok (.aload_n 0, 1) := by decide +kernel
theorem dX12_fair_6 : decode cX12_fair 6 = .ok (.iload_n 1, 1) := by decide +kernel
theorem dX12_fair_7 : decode cX12_fair 7 = .ok (.invokevirtual 250, 3) := by decide +kernel
theorem dX12_fair_10 : decode cX12_fair 10 = .ok (.ifCond .ne 5, 3) := by decide +kernel
theorem dX12_fair_13 : decode cX12_fair 13 = .ok (.iconst (-1), 1) := by decide +kernel
theorem dX12_fair_14 : decode cX12_fair 14 = .ok (.ireturn, 1) := by decide +kernel
theorem dX12_fair_15 : decode cX12_fair 15 = .ok (.iconst 0, 1) := by decide +kernel
theorem dX12_fair_16 : decode cX12_fair 16 = .ok (.istore_n 2, 1) := by decide +kernel
theorem dX12_fair_17 : decode cX12_fair 17 = .ok (.ldc_w 272, 3) := by decide +kernel
theorem dX12_fair_20 : decode cX12_fair 20 = .ok (.istore_n 3, 1) := by decide +kernel
theorem dX12_fair_21 : decode cX12_fair 21 = .ok (.iconst 0, 1) := by decide +kernel
theorem dX12_fair_22 : decode cX12_fair 22 = .ok (.istore 4, 2) := by decide +kernel
theorem dX12_fair_24 : decode cX12_fair 24 = .ok (.bipush 10, 2) := by decide +kernel
theorem dX12_fair_26 : decode cX12_fair 26 = .ok (.istore 5, 2) := by decide +kernel
theorem dX12_fair_28 : decode cX12_fair 28 = .ok (.iload 5, 2) := by decide +kernel
theorem dX12_fair_30 : decode cX12_fair 30 = .ok (.bipush 99, 2) := by decide +kernel
theorem dX12_fair_32 : decode cX12_fair 32 = .ok (.if_icmp .gt 80, 3) := by decide +kernel
theorem dX12_fair_35 : decode cX12_fair 35 = .ok (.iconst 0, 1) := by decide +kernel
theorem dX12_fair_36 : decode cX12_fair 36 = .ok (.istore 6, 2) := by decide +kernel
theorem dX12_fair_38 : decode cX12_fair 38 = .ok (.iconst 0, 1) := by decide +kernel
theorem dX12_fair_39 : decode cX12_fair 39 = .ok (.istore 7, 2) := by decide +kernel
theorem dX12_fair_41 : decode cX12_fair 41 = .ok (.iconst 0, 1) := by decide +kernel
theorem dX12_fair_42 : decode cX12_fair 42 = .ok (.istore 8, 2) := by decide +kernel
theorem dX12_fair_44 : decode cX12_fair 44 = .ok (.iload 8, 2) := by decide +kernel
theorem dX12_fair_46 : decode cX12_fair 46 = .ok (.aload_n 0, 1) := by decide +kernel
theorem dX12_fair_47 : decode cX12_fair 47 = .ok (.getfield 126, 3) := by decide +kernel
theorem dX12_fair_50 : decode cX12_fair 50 = .ok (.if_icmp .ge 37, 3) := by decide +kernel
theorem dX12_fair_53 : decode cX12_fair 53 = .ok (.iload 6, 2) := by decide +kernel
theorem dX12_fair_55 : decode cX12_fair 55 = .ok (.aload_n 0, 1) := by decide +kernel
theorem dX12_fair_56 : decode cX12_fair 56 = .ok (.iload 8, 2) := by decide +kernel
theorem dX12_fair_58 : decode cX12_fair 58 = .ok (.iload 5, 2) := by decide +kernel
theorem dX12_fair_60 : decode cX12_fair 60 = .ok (.invokevirtual 232, 3) := by decide +kernel
theorem dX12_fair_63 : decode cX12_fair 63 = .ok (.iadd, 1) := by decide +kernel
theorem dX12_fair_64 : decode cX12_fair 64 = .ok (.istore 6, 2) := by decide +kernel
theorem dX12_fair_66 : decode cX12_fair 66 = .ok (.iload 7, 2) := by decide +kernel
theorem dX12_fair_68 : decode cX12_fair 68 = .ok (.aload_n 0, 1) := by decide +kernel
theorem dX12_fair_69 : decode cX12_fair 69 = .ok (.iload 8, 2) := by decide +kernel
theorem dX12_fair_71 : decode cX12_fair 71 = .ok (.iload 5, 2) := by decide +kernel
theorem dX12_fair_73 : decode cX12_fair 73 = .ok (.invokevirtual 232, 3) := by decide +kernel
theorem dX12_fair_76 : decode cX12_fair 76 = .ok (.invokestatic 243, 3) := by decide +kernel
theorem dX12_fair_79 : decode cX12_fair 79 = .ok (.istore 7, 2) := by decide +kernel
theorem dX12_fair_81 : decode cX12_fair 81 = .ok (.iinc 8 1, 3) := by decide +kernel
theorem dX12_fair_84 : decode cX12_fair 84 = .ok (.goto (-40), 3) := by decide +kernel
theorem dX12_fair_87 : decode cX12_fair 87 = .ok (.iload 6, 2) := by decide +kernel
theorem dX12_fair_89 : decode cX12_fair 89 = .ok (.iload_n 3, 1) := by decide +kernel
theorem dX12_fair_90 : decode cX12_fair 90 = .ok (.if_icmp .lt 6, 3) := by decide +kernel
theorem dX12_fair_93 : decode cX12_fair 93 = .ok (.goto 13, 3) := by decide +kernel
theorem dX12_fair_96 : decode cX12_fair 96 = .ok (.iload 5, 2) := by decide +kernel
theorem dX12_fair_98 : decode cX12_fair 98 = .ok (.istore_n 2, 1) := by decide +kernel
theorem dX12_fair_99 : decode cX12_fair 99 = .ok (.iload 6, 2) := by decide +kernel
theorem dX12_fair_101 : decode cX12_fair 101 = .ok (.istore_n 3, 1) := by decide +kernel
theorem dX12_fair_102 : decode cX12_fair 102 = .ok (.iload 7, 2) := by decide +kernel
theorem dX12_fair_104 : decode cX12_fair 104 = .ok (.istore 4, 2) := by decide +kernel
theorem dX12_fair_106 : decode cX12_fair 106 = .ok (.iinc 5 1, 3) := by decide +kernel
theorem dX12_fair_109 : decode cX12_fair 109 = .ok (.goto (-81), 3) := by decide +kernel
theorem dX12_fair_112 : decode cX12_fair 112 = .ok (.aload_n 0, 1) := by decide +kernel
theorem dX12_fair_113 : decode cX12_fair 113 = .ok (.iconst 0, 1) := by decide +kernel
theorem dX12_fair_114 : decode cX12_fair 114 = .ok (.putfield 116, 3) := by decide +kernel
theorem dX12_fair_117 : decode cX12_fair 117 = .ok (.aload_n 0, 1) := by decide +kernel
theorem dX12_fair_118 : decode cX12_fair 118 = .ok (.iload_n 3, 1) := by decide +kernel
theorem dX12_fair_119 : decode cX12_fair 119 = .ok (.i2l, 1) := by decide +kernel
theorem dX12_fair_120 : decode cX12_fair 120 = .ok (.invokevirtual 265, 3) := by decide +kernel
theorem dX12_fair_123 : decode cX12_fair 123 = .ok (.aload_n 0, 1) := by decide +kernel
theorem dX12_fair_124 : decode cX12_fair 124 = .ok (.iload 4, 2) := by decide +kernel
theorem dX12_fair_126 : decode cX12_fair 126 = .ok (.i2l, 1) := by decide +kernel
theorem dX12_fair_127 : decode cX12_fair 127 = .ok (.invokevirtual 265, 3) := by decide +kernel
theorem dX12_fair_130 : decode cX12_fair 130 = .ok (.iload_n 2, 1) := by decide +kernel
theorem dX12_fair_131 : decode cX12_fair 131 = .ok (.ireturn, 1) := by decide +kernel
theorem dX12_offBy_0 : decode cX12_offBy 0 = .ok (.iload_n 1, 1) := by decide +kernel
theorem dX12_offBy_1 : decode cX12_offBy 1 = .ok (.istore_n 2, 1) := by decide +kernel
theorem dX12_offBy_2 : decode cX12_offBy 2 = .ok (.iconst 5, 1) := by decide +kernel
theorem dX12_offBy_3 : decode cX12_offBy 3 = .ok (.istore_n 3, 1) := by decide +kernel
theorem dX12_offBy_4 : decode cX12_offBy 4 = .ok (.iload_n 3, 1) := by decide +kernel
theorem dX12_offBy_5 : decode cX12_offBy 5 = .ok (.ifCond .lt 22, 3) := by decide +kernel
theorem dX12_offBy_8 : decode cX12_offBy 8 = .ok (.aload_n 0, 1) := by decide +kernel
theorem dX12_offBy_9 : decode cX12_offBy 9 = .ok (.getfield 100, 3) := by decide +kernel
theorem dX12_offBy_12 : decode cX12_offBy 12 = .ok (.iload_n 3, 1) := by decide +kernel
theorem dX12_offBy_13 : decode cX12_offBy 13 = .ok (.iload_n 2, 1) := by decide +kernel
theorem dX12_offBy_14 : decode cX12_offBy 14 = .ok (.iconst 5, 1) := by decide +kernel
theorem dX12_offBy_15 : decode cX12_offBy 15 = .ok (.irem, 1) := by decide +kernel
theorem dX12_offBy_16 : decode cX12_offBy 16 = .ok (.iastore, 1) := by decide +kernel
theorem dX12_offBy_17 : decode cX12_offBy 17 = .ok (.iload_n 2, 1) := by decide +kernel
theorem dX12_offBy_18 : decode cX12_offBy 18 = .ok (.iconst 5, 1) := by decide +kernel
theorem dX12_offBy_19 : decode cX12_offBy 19 = .ok (.idiv, 1) := by decide +kernel
theorem dX12_offBy_20 : decode cX12_offBy 20 = .ok (.istore_n 2, 1) := by decide +kernel
theorem dX12_offBy_21 : decode cX12_offBy 21 = .ok (.iinc 3 (-1), 3) := by decide +kernel
theorem dX12_offBy_24 : decode cX12_offBy 24 = .ok (.goto (-20), 3) := by decide +kernel
theorem dX12_offBy_27 : decode cX12_offBy 27 = .ok (.iconst 0, 1) := by decide +kernel
theorem dX12_offBy_28 : decode cX12_offBy 28 = .ok (.istore_n 3, 1) := by decide +kernel
theorem dX12_offBy_29 : decode cX12_offBy 29 = .ok (.iconst 0, 1) := by decide +kernel
theorem dX12_offBy_30 : decode cX12_offBy 30 = .ok (.istore 4, 2) := by decide +kernel
theorem dX12_offBy_32 : decode cX12_offBy 32 = .ok (.iload 4, 2) := by decide +kernel
theorem dX12_offBy_34 : decode cX12_offBy 34 = .ok (.aload_n 0, 1) := by decide +kernel
theorem dX12_offBy_35 : decode cX12_offBy 35 = .ok (.getfield 9, 3) := by decide +kernel
theorem dX12_offBy_38 : decode cX12_offBy 38 = .ok (.bipush 48, 2) := by decide +kernel
theorem dX12_offBy_40 : decode cX12_offBy 40 = .ok (.iaload, 1) := by decide +kernel
theorem dX12_offBy_41 : decode cX12_offBy 41 = .ok (.if_icmp .ge 88, 3) := by decide +kernel
theorem dX12_offBy_44 : decode cX12_offBy 44 = .ok (.aload_n 0, 1) := by decide +kernel
theorem dX12_offBy_45 : decode cX12_offBy 45 = .ok (.getfield 9, 3) := by decide +kernel
theorem dX12_offBy_48 : decode cX12_offBy 48 = .ok (.iconst 4, 1) := by decide +kernel
theorem dX12_offBy_49 : decode cX12_offBy 49 = .ok (.iload 4, 2) := by decide +kernel
theorem dX12_offBy_51 : decode cX12_offBy 51 = .ok (.imul, 1) := by decide +kernel
theorem dX12_offBy_52 : decode cX12_offBy 52 = .ok (.iaload, 1) := by decide +kernel
theorem dX12_offBy_53 : decode cX12_offBy 53 = .ok (.iconst 3, 1) := by decide +kernel
theorem dX12_offBy_54 : decode cX12_offBy 54 = .ok (.if_icmp .ge 69, 3) := by decide +kernel
theorem dX12_offBy_57 : decode cX12_offBy 57 = .ok (.aload_n 0, 1) := by decide +kernel
theorem dX12_offBy_58 : decode cX12_offBy 58 = .ok (.getfield 9, 3) := by decide +kernel
theorem dX12_offBy_61 : decode cX12_offBy 61 = .ok (.iconst 4, 1) := by decide +kernel
theorem dX12_offBy_62 : decode cX12_offBy 62 = .ok (.iload 4, 2) := by decide +kernel
theorem dX12_offBy_64 : decode cX12_offBy 64 = .ok (.imul, 1) := by decide +kernel
theorem dX12_offBy_65 : decode cX12_offBy 65 = .ok (.iconst 1, 1) := by decide +kernel
theorem dX12_offBy_66 : decode cX12_offBy 66 = .ok (.iadd, 1) := by decide +kernel
theorem dX12_offBy_67 : decode cX12_offBy 67 = .ok (.iaload, 1) := by decide +kernel
theorem dX12_offBy_68 : decode cX12_offBy 68 = .ok (.iconst 3, 1) := by decide +kernel
theorem dX12_offBy_69 : decode cX12_offBy 69 = .ok (.if_icmp .ge 54, 3) := by decide +kernel
theorem dX12_offBy_72 : decode cX12_offBy 72 = .ok (.iload_n 3, 1) := by decide +kernel
theorem dX12_offBy_73 : decode cX12_offBy 73 = .ok (.aload_n 0, 1) := by decide +kernel
theorem dX12_offBy_74 : decode cX12_offBy 74 = .ok (.getfield 9, 3) := by decide +kernel
theorem dX12_offBy_77 : decode cX12_offBy 77 = .ok (.iconst 4, 1) := by decide +kernel
theorem dX12_offBy_78 : decode cX12_offBy 78 = .ok (.iload 4, 2) := by decide +kernel
theorem dX12_offBy_80 : decode cX12_offBy 80 = .ok (.imul, 1) := by decide +kernel
theorem dX12_offBy_81 : decode cX12_offBy 81 = .ok (.iconst 2, 1) := by decide +kernel
theorem dX12_offBy_82 : decode cX12_offBy 82 = .ok (.iadd, 1) := by decide +kernel
theorem dX12_offBy_83 : decode cX12_offBy 83 = .ok (.iaload, 1) := by decide +kernel
theorem dX12_offBy_84 : decode cX12_offBy 84 = .ok (.aload_n 0, 1) := by decide +kernel
theorem dX12_offBy_85 : decode cX12_offBy 85 = .ok (.getfield 100, 3) := by decide +kernel
theorem dX12_offBy_88 : decode cX12_offBy 88 = .ok (.aload_n 0, 1) := by decide +kernel
theorem dX12_offBy_89 : decode cX12_offBy 89 = .ok (.getfield 9, 3) := by decide +kernel
theorem dX12_offBy_92 : decode cX12_offBy 92 = .ok (.iconst 4, 1) := by decide +kernel
theorem dX12_offBy_93 : decode cX12_offBy 93 = .ok (.iload 4, 2) := by decide +kernel
theorem dX12_offBy_95 : decode cX12_offBy 95 = .ok (.imul, 1) := by decide +kernel
theorem dX12_offBy_96 : decode cX12_offBy 96 = .ok (.iaload, 1) := by decide +kernel
theorem dX12_offBy_97 : decode cX12_offBy 97 = .ok (.iaload, 1) := by decide +kernel
theorem dX12_offBy_98 : decode cX12_offBy 98 = .ok (.isub, 1) := by decide +kernel
theorem dX12_offBy_99 : decode cX12_offBy 99 = .ok (.aload_n 0, 1) := by decide +kernel
theorem dX12_offBy_100 : decode cX12_offBy 100 = .ok (.getfield 100, 3) := by decide +kernel
theorem dX12_offBy_103 : decode cX12_offBy 103 = .ok (.iconst 3, 1) := by decide +kernel
theorem dX12_offBy_104 : decode cX12_offBy 104 = .ok (.aload_n 0, 1) := by decide +kernel
theorem dX12_offBy_105 : decode cX12_offBy 105 = .ok (.getfield 9, 3) := by decide +kernel
theorem dX12_offBy_108 : decode cX12_offBy 108 = .ok (.iconst 4, 1) := by decide +kernel
theorem dX12_offBy_109 : decode cX12_offBy 109 = .ok (.iload 4, 2) := by decide +kernel
theorem dX12_offBy_111 : decode cX12_offBy 111 = .ok (.imul, 1) := by decide +kernel
theorem dX12_offBy_112 : decode cX12_offBy 112 = .ok (.iconst 1, 1) := by decide +kernel
theorem dX12_offBy_113 : decode cX12_offBy 113 = .ok (.iadd, 1) := by decide +kernel
theorem dX12_offBy_114 : decode cX12_offBy 114 = .ok (.iaload, 1) := by decide +kernel
theorem dX12_offBy_115 : decode cX12_offBy 115 = .ok (.iadd, 1) := by decide +kernel
theorem dX12_offBy_116 : decode cX12_offBy 116 = .ok (.iaload, 1) := by decide +kernel
theorem dX12_offBy_117 : decode cX12_offBy 117 = .ok (.isub, 1) := by decide +kernel
theorem dX12_offBy_118 : decode cX12_offBy 118 = .ok (.invokestatic 430, 3) := by decide +kernel
theorem dX12_offBy_121 : decode cX12_offBy 121 = .ok (.iadd, 1) := by decide +kernel
theorem dX12_offBy_122 : decode cX12_offBy 122 = .ok (.istore_n 3, 1) := by decide +kernel
theorem dX12_offBy_123 : decode cX12_offBy 123 = .ok (.iinc 4 1, 3) := by decide +kernel
theorem dX12_offBy_126 : decode cX12_offBy 126 = .ok (.goto (-94), 3) := by decide +kernel
theorem dX12_offBy_129 : decode cX12_offBy 129 = .ok (.iload_n 3, 1) := by decide +kernel
theorem dX12_offBy_130 : decode cX12_offBy 130 = .ok (.ireturn, 1) := by decide +kernel
theorem dX12_parts_0 : decode cX12_parts 0 = .ok (.aload_n 0, 1) := by decide +kernel
theorem dX12_parts_1 : decode cX12_parts 1 = .ok (.iconst 0, 1) := by decide +kernel
theorem dX12_parts_2 : decode cX12_parts 2 = .ok (.putfield 113, 3) := by decide +kernel
theorem dX12_parts_5 : decode cX12_parts 5 = .ok (.iconst 0, 1) := by decide +kernel
theorem dX12_parts_6 : decode cX12_parts 6 = .ok (.istore_n 1, 1) := by decide +kernel
theorem dX12_parts_7 : decode cX12_parts 7 = .ok (.ldc_w 272, 3) := by decide +kernel
theorem dX12_parts_10 : decode cX12_parts 10 = .ok (.istore_n 2, 1) := by decide +kernel
theorem dX12_parts_11 : decode cX12_parts 11 = .ok (.iconst 0, 1) := by decide +kernel
theorem dX12_parts_12 : decode cX12_parts 12 = .ok (.istore_n 3, 1) := by decide +kernel
theorem dX12_parts_13 : decode cX12_parts 13 = .ok (.iload_n 3, 1) := by decide +kernel
theorem dX12_parts_14 : decode cX12_parts 14 = .ok (.sipush 15625, 3) := by decide +kernel
theorem dX12_parts_17 : decode cX12_parts 17 = .ok (.if_icmp .ge 30, 3) := by decide +kernel
theorem dX12_parts_20 : decode cX12_parts 20 = .ok (.aload_n 0, 1) := by decide +kernel
theorem dX12_parts_21 : decode cX12_parts 21 = .ok (.iload_n 3, 1) := by decide +kernel
theorem dX12_parts_22 : decode cX12_parts 22 = .ok (.invokevirtual 432, 3) := by decide +kernel
theorem dX12_parts_25 : decode cX12_parts 25 = .ok (.istore 4, 2) := by decide +kernel
theorem dX12_parts_27 : decode cX12_parts 27 = .ok (.iload 4, 2) := by decide +kernel
theorem dX12_parts_29 : decode cX12_parts 29 = .ok (.iload_n 2, 1) := by decide +kernel
theorem dX12_parts_30 : decode cX12_parts 30 = .ok (.if_icmp .lt 6, 3) := by decide +kernel
theorem dX12_parts_33 : decode cX12_parts 33 = .ok (.goto 8, 3) := by decide +kernel
theorem dX12_parts_36 : decode cX12_parts 36 = .ok (.iload_n 3, 1) := by decide +kernel
theorem dX12_parts_37 : decode cX12_parts 37 = .ok (.istore_n 1, 1) := by decide +kernel
theorem dX12_parts_38 : decode cX12_parts 38 = .ok (.iload 4, 2) := by decide +kernel
theorem dX12_parts_40 : decode cX12_parts 40 = .ok (.istore_n 2, 1) := by decide +kernel
theorem dX12_parts_41 : decode cX12_parts 41 = .ok (.iinc 3 1, 3) := by decide +kernel
theorem dX12_parts_44 : decode cX12_parts 44 = .ok (.goto (-31), 3) := by decide +kernel
theorem dX12_parts_47 : decode cX12_parts 47 = .ok (.aload_n 0, 1) := by decide +kernel
theorem dX12_parts_48 : decode cX12_parts 48 = .ok (.iload_n 1, 1) := by decide +kernel
theorem dX12_parts_49 : decode cX12_parts 49 = .ok (.invokevirtual 432, 3) := by decide +kernel
theorem dX12_parts_52 : decode cX12_parts 52 = .ok (.pop, 1) := by decide +kernel
theorem dX12_parts_53 : decode cX12_parts 53 = .ok (.iconst 0, 1) := by decide +kernel
theorem dX12_parts_54 : decode cX12_parts 54 = .ok (.istore_n 3, 1) := by decide +kernel
theorem dX12_parts_55 : decode cX12_parts 55 = .ok (.iconst 0, 1) := by decide +kernel
theorem dX12_parts_56 : decode cX12_parts 56 = .ok (.istore 4, 2) := by decide +kernel
theorem dX12_parts_58 : decode cX12_parts 58 = .ok (.iload 4, 2) := by decide +kernel
theorem dX12_parts_60 : decode cX12_parts 60 = .ok (.aload_n 0, 1) := by decide +kernel
theorem dX12_parts_61 : decode cX12_parts 61 = .ok (.getfield 9, 3) := by decide +kernel
theorem dX12_parts_64 : decode cX12_parts 64 = .ok (.bipush 48, 2) := by decide +kernel
theorem dX12_parts_66 : decode cX12_parts 66 = .ok (.iaload, 1) := by decide +kernel
theorem dX12_parts_67 : decode cX12_parts 67 = .ok (.if_icmp .ge 45, 3) := by decide +kernel
theorem dX12_parts_70 : decode cX12_parts 70 = .ok (.iload_n 3, 1) := by decide +kernel
theorem dX12_parts_71 : decode cX12_parts 71 = .ok (.aload_n 0, 1) := by decide +kernel
theorem dX12_parts_72 : decode cX12_parts 72 = .ok (.getfield 9, 3) := by decide +kernel
theorem dX12_parts_75 : decode cX12_parts 75 = .ok (.iconst 4, 1) := by decide +kernel
theorem dX12_parts_76 : decode cX12_parts 76 = .ok (.iload 4, 2) := by decide +kernel
theorem dX12_parts_78 : decode cX12_parts 78 = .ok (.imul, 1) := by decide +kernel
theorem dX12_parts_79 : decode cX12_parts 79 = .ok (.iaload, 1) := by decide +kernel
theorem dX12_parts_80 : decode cX12_parts 80 = .ok (.iconst 3, 1) := by decide +kernel
theorem dX12_parts_81 : decode cX12_parts 81 = .ok (.if_icmp .ge 22, 3) := by decide +kernel
theorem dX12_parts_84 : decode cX12_parts 84 = .ok (.aload_n 0, 1) := by decide +kernel
theorem dX12_parts_85 : decode cX12_parts 85 = .ok (.getfield 9, 3) := by decide +kernel
theorem dX12_parts_88 : decode cX12_parts 88 = .ok (.iconst 4, 1) := by decide +kernel
theorem dX12_parts_89 : decode cX12_parts 89 = .ok (.iload 4, 2) := by decide +kernel
theorem dX12_parts_91 : decode cX12_parts 91 = .ok (.imul, 1) := by decide +kernel
theorem dX12_parts_92 : decode cX12_parts 92 = .ok (.iconst 1, 1) := by decide +kernel
theorem dX12_parts_93 : decode cX12_parts 93 = .ok (.iadd, 1) := by decide +kernel
theorem dX12_parts_94 : decode cX12_parts 94 = .ok (.iaload, 1) := by decide +kernel
theorem dX12_parts_95 : decode cX12_parts 95 = .ok (.iconst 3, 1) := by decide +kernel
theorem dX12_parts_96 : decode cX12_parts 96 = .ok (.if_icmp .ge 7, 3) := by decide +kernel
theorem dX12_parts_99 : decode cX12_parts 99 = .ok (.iconst 1, 1) := by decide +kernel
theorem dX12_parts_100 : decode cX12_parts 100 = .ok (.goto 4, 3) := by decide +kernel
theorem dX12_parts_103 : decode cX12_parts 103 = .ok (.iconst 0, 1) := by decide +kernel
theorem dX12_parts_104 : decode cX12_parts 104 = .ok (.iadd, 1) := by decide +kernel
theorem dX12_parts_105 : decode cX12_parts 105 = .ok (.istore_n 3, 1) := by decide +kernel
theorem dX12_parts_106 : decode cX12_parts 106 = .ok (.iinc 4 1, 3) := by decide +kernel
theorem dX12_parts_109 : decode cX12_parts 109 = .ok (.goto (-51), 3) := by decide +kernel
theorem dX12_parts_112 : decode cX12_parts 112 = .ok (.aload_n 0, 1) := by decide +kernel
theorem dX12_parts_113 : decode cX12_parts 113 = .ok (.iconst 0, 1) := by decide +kernel
theorem dX12_parts_114 : decode cX12_parts 114 = .ok (.putfield 116, 3) := by decide +kernel
theorem dX12_parts_117 : decode cX12_parts 117 = .ok (.iconst 0, 1) := by decide +kernel
theorem dX12_parts_118 : decode cX12_parts 118 = .ok (.istore 4, 2) := by decide +kernel
theorem dX12_parts_120 : decode cX12_parts 120 = .ok (.iload 4, 2) := by decide +kernel
theorem dX12_parts_122 : decode cX12_parts 122 = .ok (.bipush 6, 2) := by decide +kernel
theorem dX12_parts_124 : decode cX12_parts 124 = .ok (.if_icmp .ge 21, 3) := by decide +kernel
theorem dX12_parts_127 : decode cX12_parts 127 = .ok (.aload_n 0, 1) := by decide +kernel
theorem dX12_parts_128 : decode cX12_parts 128 = .ok (.aload_n 0, 1) := by decide +kernel
theorem dX12_parts_129 : decode cX12_parts 129 = .ok (.getfield 100, 3) := by decide +kernel
theorem dX12_parts_132 : decode cX12_parts 132 = .ok (.iload 4, 2) := by decide +kernel
theorem dX12_parts_134 : decode cX12_parts 134 = .ok (.iaload, 1) := by decide +kernel
theorem dX12_parts_135 : decode cX12_parts 135 = .ok (.i2l, 1) := by decide +kernel
theorem dX12_parts_136 : decode cX12_parts 136 = .ok (.invokevirtual 265, 3) := by decide +kernel
theorem dX12_parts_139 : decode cX12_parts 139 = .ok (.iinc 4 1, 3) := by decide +kernel
theorem dX12_parts_142 : decode cX12_parts 142 = .ok (.goto (-22), 3) := by decide +kernel
theorem dX12_parts_145 : decode cX12_parts 145 = .ok (.aload_n 0, 1) := by decide +kernel
theorem dX12_parts_146 : decode cX12_parts 146 = .ok (.iload_n 3, 1) := by decide +kernel
theorem dX12_parts_147 : decode cX12_parts 147 = .ok (.i2l, 1) := by decide +kernel
theorem dX12_parts_148 : decode cX12_parts 148 = .ok (.invokevirtual 265, 3) := by decide +kernel
theorem dX12_parts_151 : decode cX12_parts 151 = .ok (.iload_n 2, 1) := by decide +kernel
theorem dX12_parts_152 : decode cX12_parts 152 = .ok (.ireturn, 1) := by decide +kernel
theorem dX12_ridden_0 : decode cX12_ridden 0 = .ok (.aload_n 0, 1) := by decide +kernel
theorem dX12_ridden_1 : decode cX12_ridden 1 = .ok (.iconst 0, 1) := by decide +kernel
theorem dX12_ridden_2 : decode cX12_ridden 2 = .ok (.putfield 435, 3) := by decide +kernel
theorem dX12_ridden_5 : decode cX12_ridden 5 = .ok (.aload_n 0, 1) := by decide +kernel
theorem dX12_ridden_6 : decode cX12_ridden 6 = .ok (.iconst 0, 1) := by decide +kernel
theorem dX12_ridden_7 : decode cX12_ridden 7 = .ok (.putfield 438, 3) := by decide +kernel
theorem dX12_ridden_10 : decode cX12_ridden 10 = .ok (.iconst 0, 1) := by decide +kernel
theorem dX12_ridden_11 : decode cX12_ridden 11 = .ok (.istore_n 3, 1) := by decide +kernel
theorem dX12_ridden_12 : decode cX12_ridden 12 = .ok (.iload_n 3, 1) := by decide +kernel
theorem dX12_ridden_13 : decode cX12_ridden 13 = .ok (.aload_n 0, 1) := by decide +kernel
theorem dX12_ridden_14 : decode cX12_ridden 14 = .ok (.getfield 9, 3) := by decide +kernel
theorem dX12_ridden_17 : decode cX12_ridden 17 = .ok (.bipush 48, 2) := by decide +kernel
theorem dX12_ridden_19 : decode cX12_ridden 19 = .ok (.iaload, 1) := by decide +kernel
theorem dX12_ridden_20 : decode cX12_ridden 20 = .ok (.if_icmp .ge 67, 3) := by decide +kernel
theorem dX12_ridden_23 : decode cX12_ridden 23 = .ok (.aload_n 0, 1) := by decide +kernel
theorem dX12_ridden_24 : decode cX12_ridden 24 = .ok (.getfield 9, 3) := by decide +kernel
theorem dX12_ridden_27 : decode cX12_ridden 27 = .ok (.iconst 4, 1) := by decide +kernel
theorem dX12_ridden_28 : decode cX12_ridden 28 = .ok (.iload_n 3, 1) := by decide +kernel
theorem dX12_ridden_29 : decode cX12_ridden 29 = .ok (.imul, 1) := by decide +kernel
theorem dX12_ridden_30 : decode cX12_ridden 30 = .ok (.iaload, 1) := by decide +kernel
theorem dX12_ridden_31 : decode cX12_ridden 31 = .ok (.iload_n 1, 1) := by decide +kernel
theorem dX12_ridden_32 : decode cX12_ridden 32 = .ok (.if_icmp .ne 49, 3) := by decide +kernel
theorem dX12_ridden_35 : decode cX12_ridden 35 = .ok (.aload_n 0, 1) := by decide +kernel
theorem dX12_ridden_36 : decode cX12_ridden 36 = .ok (.getfield 9, 3) := by decide +kernel
theorem dX12_ridden_39 : decode cX12_ridden 39 = .ok (.iconst 4, 1) := by decide +kernel
theorem dX12_ridden_40 : decode cX12_ridden 40 = .ok (.iload_n 3, 1) := by decide +kernel
theorem dX12_ridden_41 : decode cX12_ridden 41 = .ok (.imul, 1) := by decide +kernel
theorem dX12_ridden_42 : decode cX12_ridden 42 = .ok (.iconst 1, 1) := by decide +kernel
theorem dX12_ridden_43 : decode cX12_ridden 43 = .ok (.iadd, 1) := by decide +kernel
theorem dX12_ridden_44 : decode cX12_ridden 44 = .ok (.iaload, 1) := by decide +kernel
theorem dX12_ridden_45 : decode cX12_ridden 45 = .ok (.iload_n 2, 1) := by decide +kernel
theorem dX12_ridden_46 : decode cX12_ridden 46 = .ok (.if_icmp .eq 6, 3) := by decide +kernel
theorem dX12_ridden_49 : decode cX12_ridden 49 = .ok (.goto 32, 3) := by decide +kernel
theorem dX12_ridden_52 : decode cX12_ridden 52 = .ok (.aload_n 0, 1) := by decide +kernel
theorem dX12_ridden_53 : decode cX12_ridden 53 = .ok (.dup, 1) := by decide +kernel
theorem dX12_ridden_54 : decode cX12_ridden 54 = .ok (.getfield 435, 3) := by decide +kernel
theorem dX12_ridden_57 : decode cX12_ridden 57 = .ok (.iconst 1, 1) := by decide +kernel
theorem dX12_ridden_58 : decode cX12_ridden 58 = .ok (.iadd, 1) := by decide +kernel
theorem dX12_ridden_59 : decode cX12_ridden 59 = .ok (.putfield 435, 3) := by decide +kernel
theorem dX12_ridden_62 : decode cX12_ridden 62 = .ok (.aload_n 0, 1) := by decide +kernel
theorem dX12_ridden_63 : decode cX12_ridden 63 = .ok (.dup, 1) := by decide +kernel
theorem dX12_ridden_64 : decode cX12_ridden 64 = .ok (.getfield 438, 3) := by decide +kernel
theorem dX12_ridden_67 : decode cX12_ridden 67 = .ok (.aload_n 0, 1) := by decide +kernel
theorem dX12_ridden_68 : decode cX12_ridden 68 = .ok (.getfield 9, 3) := by decide +kernel
theorem dX12_ridden_71 : decode cX12_ridden 71 = .ok (.iconst 4, 1) := by decide +kernel
theorem dX12_ridden_72 : decode cX12_ridden 72 = .ok (.iload_n 3, 1) := by decide +kernel
theorem dX12_ridden_73 : decode cX12_ridden 73 = .ok (.imul, 1) := by decide +kernel
theorem dX12_ridden_74 : decode cX12_ridden 74 = .ok (.iconst 2, 1) := by decide +kernel
theorem dX12_ridden_75 : decode cX12_ridden 75 = .ok (.iadd, 1) := by decide +kernel
theorem dX12_ridden_76 : decode cX12_ridden 76 = .ok (.iaload, 1) := by decide +kernel
theorem dX12_ridden_77 : decode cX12_ridden 77 = .ok (.iadd, 1) := by decide +kernel
theorem dX12_ridden_78 : decode cX12_ridden 78 = .ok (.putfield 438, 3) := by decide +kernel
theorem dX12_ridden_81 : decode cX12_ridden 81 = .ok (.iinc 3 1, 3) := by decide +kernel
theorem dX12_ridden_84 : decode cX12_ridden 84 = .ok (.goto (-72), 3) := by decide +kernel
theorem dX12_ridden_87 : decode cX12_ridden 87 = .ok (.return_, 1) := by decide +kernel
theorem dX12_riders_0 : decode cX12_riders 0 = .ok (.aload_n 0, 1) := by decide +kernel
theorem dX12_riders_1 : decode cX12_riders 1 = .ok (.iconst 0, 1) := by decide +kernel
theorem dX12_riders_2 : decode cX12_riders 2 = .ok (.putfield 113, 3) := by decide +kernel
theorem dX12_riders_5 : decode cX12_riders 5 = .ok (.iload_n 1, 1) := by decide +kernel
theorem dX12_riders_6 : decode cX12_riders 6 = .ok (.iconst 0, 1) := by decide +kernel
theorem dX12_riders_7 : decode cX12_riders 7 = .ok (.iconst 5, 1) := by decide +kernel
theorem dX12_riders_8 : decode cX12_riders 8 = .ok (.invokestatic 122, 3) := by decide +kernel
theorem dX12_riders_11 : decode cX12_riders 11 = .ok (.ifCond .eq 17, 3) := by decide +kernel
theorem dX12_riders_14 : decode cX12_riders 14 = .ok (.iload_n 2, 1) := by decide +kernel
theorem dX12_riders_15 : decode cX12_riders 15 = .ok (.iconst 0, 1) := by decide +kernel
theorem dX12_riders_16 : decode cX12_riders 16 = .ok (.iconst 5, 1) := by decide +kernel
theorem dX12_riders_17 : decode cX12_riders 17 = .ok (.invokestatic 122, 3) := by decide +kernel
theorem dX12_riders_20 : decode cX12_riders 20 = .ok (.ifCond .eq 8, 3) := by decide +kernel
theorem dX12_riders_23 : decode cX12_riders 23 = .ok (.iload_n 1, 1) := by decide +kernel
theorem dX12_riders_24 : decode cX12_riders 24 = .ok (.iload_n 2, 1) := by decide +kernel
theorem dX12_riders_25 : decode cX12_riders 25 = .ok (.if_icmp .ne 5, 3) := by decide +kernel
theorem dX12_riders_28 : decode cX12_riders 28 = .ok (.iconst (-1), 1) := by decide +kernel
theorem dX12_riders_29 : decode cX12_riders 29 = .ok (.ireturn, 1) := by decide +kernel
theorem dX12_riders_30 : decode cX12_riders 30 = .ok (.iconst 0, 1) := by decide +kernel
theorem dX12_riders_31 : decode cX12_riders 31 = .ok (.istore_n 3, 1) := by decide +kernel
theorem dX12_riders_32 : decode cX12_riders 32 = .ok (.lconst 0, 1) := by decide +kernel
theorem dX12_riders_33 : decode cX12_riders 33 = .ok (.lstore 4, 2) := by decide +kernel
theorem dX12_riders_35 : decode cX12_riders 35 = .ok (.lconst 1, 1) := by decide +kernel
theorem dX12_riders_36 : decode cX12_riders 36 = .ok (.lstore 6, 2) := by decide +kernel
theorem dX12_riders_38 : decode cX12_riders 38 = .ok (.iconst 0, 1) := by decide +kernel
theorem dX12_riders_39 : decode cX12_riders 39 = .ok (.istore 8, 2) := by decide +kernel
theorem dX12_riders_41 : decode cX12_riders 41 = .ok (.iload 8, 2) := by decide +kernel
theorem dX12_riders_43 : decode cX12_riders 43 = .ok (.aload_n 0, 1) := by decide +kernel
theorem dX12_riders_44 : decode cX12_riders 44 = .ok (.getfield 126, 3) := by decide +kernel
theorem dX12_riders_47 : decode cX12_riders 47 = .ok (.if_icmp .ge 127, 3) := by decide +kernel
theorem dX12_riders_50 : decode cX12_riders 50 = .ok (.aload_n 0, 1) := by decide +kernel
theorem dX12_riders_51 : decode cX12_riders 51 = .ok (.iload_n 1, 1) := by decide +kernel
theorem dX12_riders_52 : decode cX12_riders 52 = .ok (.iload 8, 2) := by decide +kernel
theorem dX12_riders_54 : decode cX12_riders 54 = .ok (.invokevirtual 441, 3) := by decide +kernel
theorem dX12_riders_57 : decode cX12_riders 57 = .ok (.aload_n 0, 1) := by decide +kernel
theorem dX12_riders_58 : decode cX12_riders 58 = .ok (.getfield 435, 3) := by decide +kernel
theorem dX12_riders_61 : decode cX12_riders 61 = .ok (.istore 9, 2) := by decide +kernel
theorem dX12_riders_63 : decode cX12_riders 63 = .ok (.aload_n 0, 1) := by decide +kernel
theorem dX12_riders_64 : decode cX12_riders 64 = .ok (.getfield 438, 3) := by decide +kernel
theorem dX12_riders_67 : decode cX12_riders 67 = .ok (.istore 10, 2) := by decide +kernel
theorem dX12_riders_69 : decode cX12_riders 69 = .ok (.aload_n 0, 1) := by decide +kernel
theorem dX12_riders_70 : decode cX12_riders 70 = .ok (.iload_n 2, 1) := by decide +kernel
theorem dX12_riders_71 : decode cX12_riders 71 = .ok (.iload 8, 2) := by decide +kernel
theorem dX12_riders_73 : decode cX12_riders 73 = .ok (.invokevirtual 441, 3) := by decide +kernel
theorem dX12_riders_76 : decode cX12_riders 76 = .ok (.iload 9, 2) := by decide +kernel
theorem dX12_riders_78 : decode cX12_riders 78 = .ok (.ifCond .eq 90, 3) := by decide +kernel
theorem dX12_riders_81 : decode cX12_riders 81 = .ok (.aload_n 0, 1) := by decide +kernel
theorem dX12_riders_82 : decode cX12_riders 82 = .ok (.getfield 435, 3) := by decide +kernel
theorem dX12_riders_85 : decode cX12_riders 85 = .ok (.ifCond .ne 6, 3) := by decide +kernel
theorem dX12_riders_88 : decode cX12_riders 88 = .ok (.goto 80, 3) := by decide +kernel
theorem dX12_riders_91 : decode cX12_riders 91 = .ok (.iload 9, 2) := by decide +kernel
theorem dX12_riders_93 : decode cX12_riders 93 = .ok (.i2l, 1) := by decide +kernel
theorem dX12_riders_94 : decode cX12_riders 94 = .ok (.aload_n 0, 1) := by decide +kernel
theorem dX12_riders_95 : decode cX12_riders 95 = .ok (.getfield 435, 3) := by decide +kernel
theorem dX12_riders_98 : decode cX12_riders 98 = .ok (.i2l, 1) := by decide +kernel
theorem dX12_riders_99 : decode cX12_riders 99 = .ok (.lmul, 1) := by decide +kernel
theorem dX12_riders_100 : decode cX12_riders 100 = .ok (.lstore 11, 2) := by decide +kernel
theorem dX12_riders_102 : decode cX12_riders 102 = .ok (.lload 4, 2) := by decide +kernel
theorem dX12_riders_104 : decode cX12_riders 104 = .ok (.lload 11, 2) := by decide +kernel
theorem dX12_riders_106 : decode cX12_riders 106 = .ok (.lmul, 1) := by decide +kernel
theorem dX12_riders_107 : decode cX12_riders 107 = .ok (.lload 6, 2) := by decide +kernel
theorem dX12_riders_109 : decode cX12_riders 109 = .ok (.iload 10, 2) := by decide +kernel
theorem dX12_riders_111 : decode cX12_riders 111 = .ok (.i2l, 1) := by decide +kernel
theorem dX12_riders_112 : decode cX12_riders 112 = .ok (.aload_n 0, 1) := by decide +kernel
theorem dX12_riders_113 : decode cX12_riders 113 = .ok (.getfield 435, 3) := by decide +kernel
theorem dX12_riders_116 : decode cX12_riders 116 = .ok (.i2l, 1) := by decide +kernel
theorem dX12_riders_117 : decode cX12_riders 117 = .ok (.lmul, 1) := by decide +kernel
theorem dX12_riders_118 : decode cX12_riders 118 = .ok (.aload_n 0, 1) := by decide +kernel
theorem dX12_riders_119 : decode cX12_riders 119 = .ok (.getfield 438, 3) := by decide +kernel
theorem dX12_riders_122 : decode cX12_riders 122 = .ok (.i2l, 1) := by decide +kernel
theorem dX12_riders_123 : decode cX12_riders 123 = .ok (.iload 9, 2) := by decide +kernel
theorem dX12_riders_125 : decode cX12_riders 125 = .ok (.i2l, 1) := by decide +kernel
theorem dX12_riders_126 : decode cX12_riders 126 = .ok (.lmul, 1) := by decide +kernel
theorem dX12_riders_127 : decode cX12_riders 127 = .ok (.lsub, 1) := by decide +kernel
theorem dX12_riders_128 : decode cX12_riders 128 = .ok (.lmul, 1) := by decide +kernel
theorem dX12_riders_129 : decode cX12_riders 129 = .ok (.ladd, 1) := by decide +kernel
theorem dX12_riders_130 : decode cX12_riders 130 = .ok (.lstore 4, 2) := by decide +kernel
theorem dX12_riders_132 : decode cX12_riders 132 = .ok (.lload 6, 2) := by decide +kernel
theorem dX12_riders_134 : decode cX12_riders 134 = .ok (.lload 11, 2) := by decide +kernel
theorem dX12_riders_136 : decode cX12_riders 136 = .ok (.lmul, 1) := by decide +kernel
theorem dX12_riders_137 : decode cX12_riders 137 = .ok (.lstore 6, 2) := by decide +kernel
theorem dX12_riders_139 : decode cX12_riders 139 = .ok (.lload 4, 2) := by decide +kernel
theorem dX12_riders_141 : decode cX12_riders 141 = .ok (.invokestatic 401, 3) := by decide +kernel
theorem dX12_riders_144 : decode cX12_riders 144 = .ok (.lload 6, 2) := by decide +kernel
theorem dX12_riders_146 : decode cX12_riders 146 = .ok (.invokestatic 397, 3) := by decide +kernel
theorem dX12_riders_149 : decode cX12_riders 149 = .ok (.lstore 13, 2) := by decide +kernel
theorem dX12_riders_151 : decode cX12_riders 151 = .ok (.lload 4, 2) := by decide +kernel
theorem dX12_riders_153 : decode cX12_riders 153 = .ok (.lload 13, 2) := by decide +kernel
theorem dX12_riders_155 : decode cX12_riders 155 = .ok (.ldiv, 1) := by decide +kernel
theorem dX12_riders_156 : decode cX12_riders 156 = .ok (.lstore 4, 2) := by decide +kernel
theorem dX12_riders_158 : decode cX12_riders 158 = .ok (.lload 6, 2) := by decide +kernel
theorem dX12_riders_160 : decode cX12_riders 160 = .ok (.lload 13, 2) := by decide +kernel
theorem dX12_riders_162 : decode cX12_riders 162 = .ok (.ldiv, 1) := by decide +kernel
theorem dX12_riders_163 : decode cX12_riders 163 = .ok (.lstore 6, 2) := by decide +kernel
theorem dX12_riders_165 : decode cX12_riders 165 = .ok (.iinc 3 1, 3) := by decide +kernel
theorem dX12_riders_168 : decode cX12_riders 168 = .ok (.iinc 8 1, 3) := by decide +kernel
theorem dX12_riders_171 : decode cX12_riders 171 = .ok (.goto (-130), 3) := by decide +kernel
theorem dX12_riders_174 : decode cX12_riders 174 = .ok (.iload_n 3, 1) := by decide +kernel
theorem dX12_riders_175 : decode cX12_riders 175 = .ok (.ifCond .ne 6, 3) := by decide +kernel
theorem dX12_riders_178 : decode cX12_riders 178 = .ok (.bipush (-2), 2) := by decide +kernel
theorem dX12_riders_180 : decode cX12_riders 180 = .ok (.ireturn, 1) := by decide +kernel
theorem dX12_riders_181 : decode cX12_riders 181 = .ok (.aload_n 0, 1) := by decide +kernel
theorem dX12_riders_182 : decode cX12_riders 182 = .ok (.iconst 0, 1) := by decide +kernel
theorem dX12_riders_183 : decode cX12_riders 183 = .ok (.putfield 116, 3) := by decide +kernel
theorem dX12_riders_186 : decode cX12_riders 186 = .ok (.aload_n 0, 1) := by decide +kernel
theorem dX12_riders_187 : decode cX12_riders 187 = .ok (.lload 4, 2) := by decide +kernel
theorem dX12_riders_189 : decode cX12_riders 189 = .ok (.lload 6, 2) := by decide +kernel
theorem dX12_riders_191 : decode cX12_riders 191 = .ok (.iload_n 3, 1) := by decide +kernel
theorem dX12_riders_192 : decode cX12_riders 192 = .ok (.i2l, 1) := by decide +kernel
theorem dX12_riders_193 : decode cX12_riders 193 = .ok (.lmul, 1) := by decide +kernel
theorem dX12_riders_194 : decode cX12_riders 194 = .ok (.invokevirtual 414, 3) := by decide +kernel
theorem dX12_riders_197 : decode cX12_riders 197 = .ok (.iload_n 3, 1) := by decide +kernel
theorem dX12_riders_198 : decode cX12_riders 198 = .ok (.ireturn, 1) := by decide +kernel
theorem dX12_justFall_0 : decode cX12_justFall 0 = .ok (.iconst 0, 1) := by decide +kernel
theorem dX12_justFall_1 : decode cX12_justFall 1 = .ok (.istore 5, 2) := by decide +kernel
theorem dX12_justFall_3 : decode cX12_justFall 3 = .ok (.iload 5, 2) := by decide +kernel
theorem dX12_justFall_5 : decode cX12_justFall 5 = .ok (.bipush 6, 2) := by decide +kernel
theorem dX12_justFall_7 : decode cX12_justFall 7 = .ok (.if_icmp .gt 26, 3) := by decide +kernel
theorem dX12_justFall_10 : decode cX12_justFall 10 = .ok (.aload_n 0, 1) := by decide +kernel
theorem dX12_justFall_11 : decode cX12_justFall 11 = .ok (.getfield 103, 3) := by decide +kernel
theorem dX12_justFall_14 : decode cX12_justFall 14 = .ok (.iload 5, 2) := by decide +kernel
theorem dX12_justFall_16 : decode cX12_justFall 16 = .ok (.iload 5, 2) := by decide +kernel
theorem dX12_justFall_18 : decode cX12_justFall 18 = .ok (.ifCond .ne 7, 3) := by decide +kernel
theorem dX12_justFall_21 : decode cX12_justFall 21 = .ok (.lconst 1, 1) := by decide +kernel
theorem dX12_justFall_22 : decode cX12_justFall 22 = .ok (.goto 4, 3) := by decide +kernel
theorem dX12_justFall_25 : decode cX12_justFall 25 = .ok (.lconst 0, 1) := by decide +kernel
theorem dX12_justFall_26 : decode cX12_justFall 26 = .ok (.lastore, 1) := by decide +kernel
theorem dX12_justFall_27 : decode cX12_justFall 27 = .ok (.iinc 5 1, 3) := by decide +kernel
theorem dX12_justFall_30 : decode cX12_justFall 30 = .ok (.goto (-27), 3) := by decide +kernel
theorem dX12_justFall_33 : decode cX12_justFall 33 = .ok (.iconst 0, 1) := by decide +kernel
theorem dX12_justFall_34 : decode cX12_justFall 34 = .ok (.istore 5, 2) := by decide +kernel
theorem dX12_justFall_36 : decode cX12_justFall 36 = .ok (.iload 5, 2) := by decide +kernel
theorem dX12_justFall_38 : decode cX12_justFall 38 = .ok (.iload_n 3, 1) := by decide +kernel
theorem dX12_justFall_39 : decode cX12_justFall 39 = .ok (.if_icmp .ge 91, 3) := by decide +kernel
theorem dX12_justFall_42 : decode cX12_justFall 42 = .ok (.bipush 100, 2) := by decide +kernel
theorem dX12_justFall_44 : decode cX12_justFall 44 = .ok (.aload_n 0, 1) := by decide +kernel
theorem dX12_justFall_45 : decode cX12_justFall 45 = .ok (.iload 5, 2) := by decide +kernel
theorem dX12_justFall_47 : decode cX12_justFall 47 = .ok (.iload_n 1, 1) := by decide +kernel
theorem dX12_justFall_48 : decode cX12_justFall 48 = .ok (.aload_n 0, 1) := by decide +kernel
theorem dX12_justFall_49 : decode cX12_justFall 49 = .ok (.iconst 0, 1) := by decide +kernel
theorem dX12_justFall_50 : decode cX12_justFall 50 = .ok (.iload_n 1, 1) := by decide +kernel
theorem dX12_justFall_51 : decode cX12_justFall 51 = .ok (.invokevirtual 273, 3) := by decide +kernel
theorem dX12_justFall_54 : decode cX12_justFall 54 = .ok (.invokevirtual 259, 3) := by decide +kernel
theorem dX12_justFall_57 : decode cX12_justFall 57 = .ok (.iload 4, 2) := by decide +kernel
theorem dX12_justFall_59 : decode cX12_justFall 59 = .ok (.iadd, 1) := by decide +kernel
theorem dX12_justFall_60 : decode cX12_justFall 60 = .ok (.invokestatic 238, 3) := by decide +kernel
theorem dX12_justFall_63 : decode cX12_justFall 63 = .ok (.istore 6, 2) := by decide +kernel
theorem dX12_justFall_65 : decode cX12_justFall 65 = .ok (.bipush 6, 2) := by decide +kernel
theorem dX12_justFall_67 : decode cX12_justFall 67 = .ok (.istore 7, 2) := by decide +kernel
theorem dX12_justFall_69 : decode cX12_justFall 69 = .ok (.iload 7, 2) := by decide +kernel
theorem dX12_justFall_71 : decode cX12_justFall 71 = .ok (.ifCond .lt 53, 3) := by decide +kernel
theorem dX12_justFall_74 : decode cX12_justFall 74 = .ok (.aload_n 0, 1) := by decide +kernel
theorem dX12_justFall_75 : decode cX12_justFall 75 = .ok (.getfield 103, 3) := by decide +kernel
theorem dX12_justFall_78 : decode cX12_justFall 78 = .ok (.iload 7, 2) := by decide +kernel
theorem dX12_justFall_80 : decode cX12_justFall 80 = .ok (.aload_n 0, 1) := by decide +kernel
theorem dX12_justFall_81 : decode cX12_justFall 81 = .ok (.getfield 103, 3) := by decide +kernel
theorem dX12_justFall_84 : decode cX12_justFall 84 = .ok (.iload 7, 2) := by decide +kernel
theorem dX12_justFall_86 : decode cX12_justFall 86 = .ok (.laload, 1) := by decide +kernel
theorem dX12_justFall_87 : decode cX12_justFall 87 = .ok (.bipush 100, 2) := by decide +kernel
theorem dX12_justFall_89 : decode cX12_justFall 89 = .ok (.iload 6, 2) := by decide +kernel
theorem dX12_justFall_91 : decode cX12_justFall 91 = .ok (.isub, 1) := by decide +kernel
theorem dX12_justFall_92 : decode cX12_justFall 92 = .ok (.i2l, 1) := by decide +kernel
theorem dX12_justFall_93 : decode cX12_justFall 93 = .ok (.lmul, 1) := by decide +kernel
theorem dX12_justFall_94 : decode cX12_justFall 94 = .ok (.iload 7, 2) := by decide +kernel
theorem dX12_justFall_96 : decode cX12_justFall 96 = .ok (.ifCond .ne 7, 3) := by decide +kernel
theorem dX12_justFall_99 : decode cX12_justFall 99 = .ok (.lconst 0, 1) := by decide +kernel
theorem dX12_justFall_100 : decode cX12_justFall 100 = .ok (.goto 16, 3) := by decide +kernel
theorem dX12_justFall_103 : decode cX12_justFall 103 = .ok (.aload_n 0, 1) := by decide +kernel
theorem dX12_justFall_104 : decode cX12_justFall 104 = .ok (.getfield 103, 3) := by decide +kernel
theorem dX12_justFall_107 : decode cX12_justFall 107 = .ok (.iload 7, 2) := by decide +kernel
theorem dX12_justFall_109 : decode cX12_justFall 109 = .ok (.iconst 1, 1) := by decide +kernel
theorem dX12_justFall_110 : decode cX12_justFall 110 = .ok (.isub, 1) := by decide +kernel
theorem dX12_justFall_111 : decode cX12_justFall 111 = .ok (.laload, 1) := by decide +kernel
theorem dX12_justFall_112 : decode cX12_justFall 112 = .ok (.iload 6, 2) := by decide +kernel
theorem dX12_justFall_114 : decode cX12_justFall 114 = .ok (.i2l, 1) := by decide +kernel
theorem dX12_justFall_115 : decode cX12_justFall 115 = .ok (.lmul, 1) := by decide +kernel
theorem dX12_justFall_116 : decode cX12_justFall 116 = .ok (.ladd, 1) := by decide +kernel
theorem dX12_justFall_117 : decode cX12_justFall 117 = .ok (.lastore, 1) := by decide +kernel
theorem dX12_justFall_118 : decode cX12_justFall 118 = .ok (.iinc 7 (-1), 3) := by decide +kernel
theorem dX12_justFall_121 : decode cX12_justFall 121 = .ok (.goto (-52), 3) := by decide +kernel
theorem dX12_justFall_124 : decode cX12_justFall 124 = .ok (.iinc 5 1, 3) := by decide +kernel
theorem dX12_justFall_127 : decode cX12_justFall 127 = .ok (.goto (-91), 3) := by decide +kernel
theorem dX12_justFall_130 : decode cX12_justFall 130 = .ok (.aload_n 0, 1) := by decide +kernel
theorem dX12_justFall_131 : decode cX12_justFall 131 = .ok (.getfield 103, 3) := by decide +kernel
theorem dX12_justFall_134 : decode cX12_justFall 134 = .ok (.iload_n 2, 1) := by decide +kernel
theorem dX12_justFall_135 : decode cX12_justFall 135 = .ok (.laload, 1) := by decide +kernel
theorem dX12_justFall_136 : decode cX12_justFall 136 = .ok (.lreturn, 1) := by decide +kernel
theorem dX12_wind_0 : decode cX12_wind 0 = .ok (.aload_n 0, 1) := by decide +kernel
theorem dX12_wind_1 : decode cX12_wind 1 = .ok (.iconst 0, 1) := by decide +kernel
theorem dX12_wind_2 : decode cX12_wind 2 = .ok (.putfield 113, 3) := by decide +kernel
theorem dX12_wind_5 : decode cX12_wind 5 = .ok (.aload_n 0, 1) := by decide +kernel
theorem dX12_wind_6 : decode cX12_wind 6 = .ok (.iload_n 1, 1) := by decide +kernel
theorem dX12_wind_7 : decode cX12_wind 7 = .ok (.invokevirtual 250, 3) := by decide +kernel
theorem dX12_wind_10 : decode cX12_wind 10 = .ok (.ifCond .eq 48, 3) := by decide +kernel
theorem dX12_wind_13 : decode cX12_wind 13 = .ok (.iload_n 3, 1) := by decide +kernel
theorem dX12_wind_14 : decode cX12_wind 14 = .ok (.iconst 0, 1) := by decide +kernel
theorem dX12_wind_15 : decode cX12_wind 15 = .ok (.bipush 6, 2) := by decide +kernel
theorem dX12_wind_17 : decode cX12_wind 17 = .ok (.invokestatic 122, 3) := by decide +kernel
theorem dX12_wind_20 : decode cX12_wind 20 = .ok (.ifCond .eq 38, 3) := by decide +kernel
theorem dX12_wind_23 : decode cX12_wind 23 = .ok (.iload_n 2, 1) := by decide +kernel
theorem dX12_wind_24 : decode cX12_wind 24 = .ok (.iconst 0, 1) := by decide +kernel
theorem dX12_wind_25 : decode cX12_wind 25 = .ok (.iload_n 3, 1) := by decide +kernel
theorem dX12_wind_26 : decode cX12_wind 26 = .ok (.invokestatic 122, 3) := by decide +kernel
theorem dX12_wind_29 : decode cX12_wind 29 = .ok (.ifCond .eq 29, 3) := by decide +kernel
theorem dX12_wind_32 : decode cX12_wind 32 = .ok (.iload 4, 2) := by decide +kernel
theorem dX12_wind_34 : decode cX12_wind 34 = .ok (.iconst 0, 1) := by decide +kernel
theorem dX12_wind_35 : decode cX12_wind 35 = .ok (.bipush 100, 2) := by decide +kernel
theorem dX12_wind_37 : decode cX12_wind 37 = .ok (.invokestatic 122, 3) := by decide +kernel
theorem dX12_wind_40 : decode cX12_wind 40 = .ok (.ifCond .eq 18, 3) := by decide +kernel
theorem dX12_wind_43 : decode cX12_wind 43 = .ok (.iload_n 3, 1) := by decide +kernel
theorem dX12_wind_44 : decode cX12_wind 44 = .ok (.aload_n 0, 1) := by decide +kernel
theorem dX12_wind_45 : decode cX12_wind 45 = .ok (.getfield 126, 3) := by decide +kernel
theorem dX12_wind_48 : decode cX12_wind 48 = .ok (.if_icmp .gt 10, 3) := by decide +kernel
theorem dX12_wind_51 : decode cX12_wind 51 = .ok (.aload_n 0, 1) := by decide +kernel
theorem dX12_wind_52 : decode cX12_wind 52 = .ok (.getfield 129, 3) := by decide +kernel
theorem dX12_wind_55 : decode cX12_wind 55 = .ok (.ifCond .ne 5, 3) := by decide +kernel
theorem dX12_wind_58 : decode cX12_wind 58 = .ok (.iconst (-1), 1) := by decide +kernel
theorem dX12_wind_59 : decode cX12_wind 59 = .ok (.ireturn, 1) := by decide +kernel
theorem dX12_wind_60 : decode cX12_wind 60 = .ok (.aload_n 0, 1) := by decide +kernel
theorem dX12_wind_61 : decode cX12_wind 61 = .ok (.iload_n 1, 1) := by decide +kernel
theorem dX12_wind_62 : decode cX12_wind 62 = .ok (.iload_n 2, 1) := by decide +kernel
theorem dX12_wind_63 : decode cX12_wind 63 = .ok (.iload_n 3, 1) := by decide +kernel
theorem dX12_wind_64 : decode cX12_wind 64 = .ok (.iconst 0, 1) := by decide +kernel
theorem dX12_wind_65 : decode cX12_wind 65 = .ok (.invokevirtual 445, 3) := by decide +kernel
theorem dX12_wind_68 : decode cX12_wind 68 = .ok (.lstore 5, 2) := by decide +kernel
theorem dX12_wind_70 : decode cX12_wind 70 = .ok (.aload_n 0, 1) := by decide +kernel
theorem dX12_wind_71 : decode cX12_wind 71 = .ok (.iload_n 1, 1) := by decide +kernel
theorem dX12_wind_72 : decode cX12_wind 72 = .ok (.iload_n 2, 1) := by decide +kernel
theorem dX12_wind_73 : decode cX12_wind 73 = .ok (.iload_n 3, 1) := by decide +kernel
theorem dX12_wind_74 : decode cX12_wind 74 = .ok (.iload 4, 2) := by decide +kernel
theorem dX12_wind_76 : decode cX12_wind 76 = .ok (.invokevirtual 445, 3) := by decide +kernel
theorem dX12_wind_79 : decode cX12_wind 79 = .ok (.lstore 7, 2) := by decide +kernel
theorem dX12_wind_81 : decode cX12_wind 81 = .ok (.aload_n 0, 1) := by decide +kernel
theorem dX12_wind_82 : decode cX12_wind 82 = .ok (.iconst 0, 1) := by decide +kernel
theorem dX12_wind_83 : decode cX12_wind 83 = .ok (.putfield 116, 3) := by decide +kernel
theorem dX12_wind_86 : decode cX12_wind 86 = .ok (.aload_n 0, 1) := by decide +kernel
theorem dX12_wind_87 : decode cX12_wind 87 = .ok (.lload 5, 2) := by decide +kernel
theorem dX12_wind_89 : decode cX12_wind 89 = .ok (.ldc2_w 449, 3) := by decide +kernel
theorem dX12_wind_92 : decode cX12_wind 92 = .ok (.iload_n 3, 1) := by decide +kernel
theorem dX12_wind_93 : decode cX12_wind 93 = .ok (.invokestatic 410, 3) := by decide +kernel
theorem dX12_wind_96 : decode cX12_wind 96 = .ok (.invokevirtual 414, 3) := by decide +kernel
theorem dX12_wind_99 : decode cX12_wind 99 = .ok (.aload_n 0, 1) := by decide +kernel
theorem dX12_wind_100 : decode cX12_wind 100 = .ok (.lload 7, 2) := by decide +kernel
theorem dX12_wind_102 : decode cX12_wind 102 = .ok (.ldc2_w 449, 3) := by decide +kernel
theorem dX12_wind_105 : decode cX12_wind 105 = .ok (.iload_n 3, 1) := by decide +kernel
theorem dX12_wind_106 : decode cX12_wind 106 = .ok (.invokestatic 410, 3) := by decide +kernel
theorem dX12_wind_109 : decode cX12_wind 109 = .ok (.invokevirtual 414, 3) := by decide +kernel
theorem dX12_wind_112 : decode cX12_wind 112 = .ok (.lload 7, 2) := by decide +kernel
theorem dX12_wind_114 : decode cX12_wind 114 = .ok (.lload 5, 2) := by decide +kernel
theorem dX12_wind_116 : decode cX12_wind 116 = .ok (.lcmp, 1) := by decide +kernel
theorem dX12_wind_117 : decode cX12_wind 117 = .ok (.ifCond .le 7, 3) := by decide +kernel
theorem dX12_wind_120 : decode cX12_wind 120 = .ok (.iconst 1, 1) := by decide +kernel
theorem dX12_wind_121 : decode cX12_wind 121 = .ok (.goto 4, 3) := by decide +kernel
theorem dX12_wind_124 : decode cX12_wind 124 = .ok (.iconst 0, 1) := by decide +kernel
theorem dX12_wind_125 : decode cX12_wind 125 = .ok (.ireturn, 1) := by decide +kernel
theorem dX12_keep_0 : decode cX12_keep 0 = .ok (.aload_n 0, 1) := by decide +kernel
theorem dX12_keep_1 : decode cX12_keep 1 = .ok (.iconst 0, 1) := by decide +kernel
theorem dX12_keep_2 : decode cX12_keep 2 = .ok (.putfield 113, 3) := by decide +kernel
theorem dX12_keep_5 : decode cX12_keep 5 = .ok (.iload_n 1, 1) := by decide +kernel
theorem dX12_keep_6 : decode cX12_keep 6 = .ok (.iconst 0, 1) := by decide +kernel
theorem dX12_keep_7 : decode cX12_keep 7 = .ok (.iconst 1, 1) := by decide +kernel
theorem dX12_keep_8 : decode cX12_keep 8 = .ok (.invokestatic 122, 3) := by decide +kernel
theorem dX12_keep_11 : decode cX12_keep 11 = .ok (.ifCond .ne 5, 3) := by decide +kernel
theorem dX12_keep_14 : decode cX12_keep 14 = .ok (.iconst 0, 1) := by decide +kernel
theorem dX12_keep_15 : decode cX12_keep 15 = .ok (.ireturn, 1) := by decide +kernel
theorem dX12_keep_16 : decode cX12_keep 16 = .ok (.aload_n 0, 1) := by decide +kernel
theorem dX12_keep_17 : decode cX12_keep 17 = .ok (.getfield 109, 3) := by decide +kernel
theorem dX12_keep_20 : decode cX12_keep 20 = .ok (.iload_n 1, 1) := by decide +kernel
theorem dX12_keep_21 : decode cX12_keep 21 = .ok (.iconst 1, 1) := by decide +kernel
theorem dX12_keep_22 : decode cX12_keep 22 = .ok (.bastore, 1) := by decide +kernel
theorem dX12_keep_23 : decode cX12_keep 23 = .ok (.aload_n 0, 1) := by decide +kernel
theorem dX12_keep_24 : decode cX12_keep 24 = .ok (.getfield 9, 3) := by decide +kernel
theorem dX12_keep_27 : decode cX12_keep 27 = .ok (.aload_n 0, 1) := by decide +kernel
theorem dX12_keep_28 : decode cX12_keep 28 = .ok (.getfield 106, 3) := by decide +kernel
theorem dX12_keep_31 : decode cX12_keep 31 = .ok (.bipush 49, 2) := by decide +kernel
theorem dX12_keep_33 : decode cX12_keep 33 = .ok (.iload_n 1, 1) := by decide +kernel
theorem dX12_keep_34 : decode cX12_keep 34 = .ok (.imul, 1) := by decide +kernel
theorem dX12_keep_35 : decode cX12_keep 35 = .ok (.invokestatic 305, 3) := by decide +kernel
theorem dX12_keep_38 : decode cX12_keep 38 = .ok (.iconst 1, 1) := by decide +kernel
theorem dX12_keep_39 : decode cX12_keep 39 = .ok (.ireturn, 1) := by decide +kernel
theorem dX12_again_0 : decode cX12_again 0 = .ok (.aload_n 0, 1) := by decide +kernel
theorem dX12_again_1 : decode cX12_again 1 = .ok (.iconst 0, 1) := by decide +kernel
theorem dX12_again_2 : decode cX12_again 2 = .ok (.putfield 113, 3) := by decide +kernel
theorem dX12_again_5 : decode cX12_again 5 = .ok (.iload_n 1, 1) := by decide +kernel
theorem dX12_again_6 : decode cX12_again 6 = .ok (.iconst 0, 1) := by decide +kernel
theorem dX12_again_7 : decode cX12_again 7 = .ok (.iconst 1, 1) := by decide +kernel
theorem dX12_again_8 : decode cX12_again 8 = .ok (.invokestatic 122, 3) := by decide +kernel
theorem dX12_again_11 : decode cX12_again 11 = .ok (.ifCond .eq 12, 3) := by decide +kernel
theorem dX12_again_14 : decode cX12_again 14 = .ok (.aload_n 0, 1) := by decide +kernel
theorem dX12_again_15 : decode cX12_again 15 = .ok (.getfield 109, 3) := by decide +kernel
theorem dX12_again_18 : decode cX12_again 18 = .ok (.iload_n 1, 1) := by decide +kernel
theorem dX12_again_19 : decode cX12_again 19 = .ok (.baload, 1) := by decide +kernel
theorem dX12_again_20 : decode cX12_again 20 = .ok (.ifCond .ne 5, 3) := by decide +kernel
theorem dX12_again_23 : decode cX12_again 23 = .ok (.iconst 0, 1) := by decide +kernel
theorem dX12_again_24 : decode cX12_again 24 = .ok (.ireturn, 1) := by decide +kernel
theorem dX12_again_25 : decode cX12_again 25 = .ok (.iconst 0, 1) := by decide +kernel
theorem dX12_again_26 : decode cX12_again 26 = .ok (.istore_n 2, 1) := by decide +kernel
theorem dX12_again_27 : decode cX12_again 27 = .ok (.iload_n 2, 1) := by decide +kernel
theorem dX12_again_28 : decode cX12_again 28 = .ok (.bipush 49, 2) := by decide +kernel
theorem dX12_again_30 : decode cX12_again 30 = .ok (.if_icmp .ge 26, 3) := by decide +kernel
theorem dX12_again_33 : decode cX12_again 33 = .ok (.aload_n 0, 1) := by decide +kernel
theorem dX12_again_34 : decode cX12_again 34 = .ok (.getfield 9, 3) := by decide +kernel
theorem dX12_again_37 : decode cX12_again 37 = .ok (.iload_n 2, 1) := by decide +kernel
theorem dX12_again_38 : decode cX12_again 38 = .ok (.aload_n 0, 1) := by decide +kernel
theorem dX12_again_39 : decode cX12_again 39 = .ok (.getfield 106, 3) := by decide +kernel
theorem dX12_again_42 : decode cX12_again 42 = .ok (.bipush 49, 2) := by decide +kernel
theorem dX12_again_44 : decode cX12_again 44 = .ok (.iload_n 1, 1) := by decide +kernel
theorem dX12_again_45 : decode cX12_again 45 = .ok (.imul, 1) := by decide +kernel
theorem dX12_again_46 : decode cX12_again 46 = .ok (.iload_n 2, 1) := by decide +kernel
theorem dX12_again_47 : decode cX12_again 47 = .ok (.iadd, 1) := by decide +kernel
theorem dX12_again_48 : decode cX12_again 48 = .ok (.iaload, 1) := by decide +kernel
theorem dX12_again_49 : decode cX12_again 49 = .ok (.iastore, 1) := by decide +kernel
theorem dX12_again_50 : decode cX12_again 50 = .ok (.iinc 2 1, 3) := by decide +kernel
theorem dX12_again_53 : decode cX12_again 53 = .ok (.goto (-26), 3) := by decide +kernel
theorem dX12_again_56 : decode cX12_again 56 = .ok (.aload_n 0, 1) := by decide +kernel
theorem dX12_again_57 : decode cX12_again 57 = .ok (.iconst 0, 1) := by decide +kernel
theorem dX12_again_58 : decode cX12_again 58 = .ok (.putfield 192, 3) := by decide +kernel
theorem dX12_again_61 : decode cX12_again 61 = .ok (.iconst 1, 1) := by decide +kernel
theorem dX12_again_62 : decode cX12_again 62 = .ok (.ireturn, 1) := by decide +kernel
theorem dX12_count_0 : decode cX12_count 0 = .ok (.aload_n 0, 1) := by decide +kernel
theorem dX12_count_1 : decode cX12_count 1 = .ok (.iconst 0, 1) := by decide +kernel
theorem dX12_count_2 : decode cX12_count 2 = .ok (.putfield 113, 3) := by decide +kernel
theorem dX12_count_5 : decode cX12_count 5 = .ok (.iconst 0, 1) := by decide +kernel
theorem dX12_count_6 : decode cX12_count 6 = .ok (.istore_n 2, 1) := by decide +kernel
theorem dX12_count_7 : decode cX12_count 7 = .ok (.iload_n 1, 1) := by decide +kernel
theorem dX12_count_8 : decode cX12_count 8 = .ok (.tableswitch 133 0 8 #[52, 57, 62, 67, 75, 80, 85, 90, 95], 52) := by decide +kernel
theorem dX12_count_60 : decode cX12_count 60 = .ok (.aload_n 0, 1) := by decide +kernel
theorem dX12_count_61 : decode cX12_count 61 = .ok (.getfield 119, 3) := by decide +kernel
theorem dX12_count_64 : decode cX12_count 64 = .ok (.ireturn, 1) := by decide +kernel
theorem dX12_count_65 : decode cX12_count 65 = .ok (.aload_n 0, 1) := by decide +kernel
theorem dX12_count_66 : decode cX12_count 66 = .ok (.getfield 126, 3) := by decide +kernel
theorem dX12_count_69 : decode cX12_count 69 = .ok (.ireturn, 1) := by decide +kernel
theorem dX12_count_70 : decode cX12_count 70 = .ok (.aload_n 0, 1) := by decide +kernel
theorem dX12_count_71 : decode cX12_count 71 = .ok (.getfield 129, 3) := by decide +kernel
theorem dX12_count_74 : decode cX12_count 74 = .ok (.ireturn, 1) := by decide +kernel
theorem dX12_count_75 : decode cX12_count 75 = .ok (.aload_n 0, 1) := by decide +kernel
theorem dX12_count_76 : decode cX12_count 76 = .ok (.getfield 9, 3) := by decide +kernel
theorem dX12_count_79 : decode cX12_count 79 = .ok (.bipush 48, 2) := by decide +kernel
theorem dX12_count_81 : decode cX12_count 81 = .ok (.iaload, 1) := by decide +kernel
theorem dX12_count_82 : decode cX12_count 82 = .ok (.ireturn, 1) := by decide +kernel
theorem dX12_count_83 : decode cX12_count 83 = .ok (.aload_n 0, 1) := by decide +kernel
theorem dX12_count_84 : decode cX12_count 84 = .ok (.getfield 22, 3) := by decide +kernel
theorem dX12_count_87 : decode cX12_count 87 = .ok (.ireturn, 1) := by decide +kernel
theorem dX12_count_88 : decode cX12_count 88 = .ok (.aload_n 0, 1) := by decide +kernel
theorem dX12_count_89 : decode cX12_count 89 = .ok (.getfield 192, 3) := by decide +kernel
theorem dX12_count_92 : decode cX12_count 92 = .ok (.ireturn, 1) := by decide +kernel
theorem dX12_count_93 : decode cX12_count 93 = .ok (.aload_n 0, 1) := by decide +kernel
theorem dX12_count_94 : decode cX12_count 94 = .ok (.getfield 116, 3) := by decide +kernel
theorem dX12_count_97 : decode cX12_count 97 = .ok (.ireturn, 1) := by decide +kernel
theorem dX12_count_98 : decode cX12_count 98 = .ok (.aload_n 0, 1) := by decide +kernel
theorem dX12_count_99 : decode cX12_count 99 = .ok (.getfield 139, 3) := by decide +kernel
theorem dX12_count_102 : decode cX12_count 102 = .ok (.ireturn, 1) := by decide +kernel
theorem dX12_count_103 : decode cX12_count 103 = .ok (.aload_n 0, 1) := by decide +kernel
theorem dX12_count_104 : decode cX12_count 104 = .ok (.getfield 38, 3) := by decide +kernel
theorem dX12_count_107 : decode cX12_count 107 = .ok (.astore_n 3, 1) := by decide +kernel
theorem dX12_count_108 : decode cX12_count 108 = .ok (.aload_n 3, 1) := by decide +kernel
theorem dX12_count_109 : decode cX12_count 109 = .ok (.arraylength, 1) := by decide +kernel
theorem dX12_count_110 : decode cX12_count 110 = .ok (.istore 4, 2) := by decide +kernel
theorem dX12_count_112 : decode cX12_count 112 = .ok (.iconst 0, 1) := by decide +kernel
theorem dX12_count_113 : decode cX12_count 113 = .ok (.istore 5, 2) := by decide +kernel
theorem dX12_count_115 : decode cX12_count 115 = .ok (.iload 5, 2) := by decide +kernel
theorem dX12_count_117 : decode cX12_count 117 = .ok (.iload 4, 2) := by decide +kernel
theorem dX12_count_119 : decode cX12_count 119 = .ok (.if_icmp .ge 20, 3) := by decide +kernel
theorem dX12_count_122 : decode cX12_count 122 = .ok (.aload_n 3, 1) := by decide +kernel
theorem dX12_count_123 : decode cX12_count 123 = .ok (.iload 5, 2) := by decide +kernel
theorem dX12_count_125 : decode cX12_count 125 = .ok (.iaload, 1) := by decide +kernel
theorem dX12_count_126 : decode cX12_count 126 = .ok (.istore 6, 2) := by decide +kernel
theorem dX12_count_128 : decode cX12_count 128 = .ok (.iload_n 2, 1) := by decide +kernel
theorem dX12_count_129 : decode cX12_count 129 = .ok (.iload 6, 2) := by decide +kernel
theorem dX12_count_131 : decode cX12_count 131 = .ok (.iadd, 1) := by decide +kernel
theorem dX12_count_132 : decode cX12_count 132 = .ok (.istore_n 2, 1) := by decide +kernel
theorem dX12_count_133 : decode cX12_count 133 = .ok (.iinc 5 1, 3) := by decide +kernel
theorem dX12_count_136 : decode cX12_count 136 = .ok (.goto (-21), 3) := by decide +kernel
theorem dX12_count_139 : decode cX12_count 139 = .ok (.iload_n 2, 1) := by decide +kernel
theorem dX12_count_140 : decode cX12_count 140 = .ok (.ireturn, 1) := by decide +kernel
theorem dX12_count_141 : decode cX12_count 141 = .ok (.iconst (-1), 1) := by decide +kernel
theorem dX12_count_142 : decode cX12_count 142 = .ok (.ireturn, 1) := by decide +kernel
theorem dX12_row_0 : decode cX12_row 0 = .ok (.aload_n 0, 1) := by decide +kernel
theorem dX12_row_1 : decode cX12_row 1 = .ok (.iconst 0, 1) := by decide +kernel
theorem dX12_row_2 : decode cX12_row 2 = .ok (.putfield 113, 3) := by decide +kernel
theorem dX12_row_5 : decode cX12_row 5 = .ok (.iload_n 1, 1) := by decide +kernel
theorem dX12_row_6 : decode cX12_row 6 = .ok (.iconst 0, 1) := by decide +kernel
theorem dX12_row_7 : decode cX12_row 7 = .ok (.aload_n 0, 1) := by decide +kernel
theorem dX12_row_8 : decode cX12_row 8 = .ok (.getfield 116, 3) := by decide +kernel
theorem dX12_row_11 : decode cX12_row 11 = .ok (.iconst 1, 1) := by decide +kernel
theorem dX12_row_12 : decode cX12_row 12 = .ok (.isub, 1) := by decide +kernel
theorem dX12_row_13 : decode cX12_row 13 = .ok (.invokestatic 122, 3) := by decide +kernel
theorem dX12_row_16 : decode cX12_row 16 = .ok (.ifCond .eq 12, 3) := by decide +kernel
theorem dX12_row_19 : decode cX12_row 19 = .ok (.aload_n 0, 1) := by decide +kernel
theorem dX12_row_20 : decode cX12_row 20 = .ok (.getfield 45, 3) := by decide +kernel
theorem dX12_row_23 : decode cX12_row 23 = .ok (.iload_n 1, 1) := by decide +kernel
theorem dX12_row_24 : decode cX12_row 24 = .ok (.laload, 1) := by decide +kernel
theorem dX12_row_25 : decode cX12_row 25 = .ok (.goto 8, 3) := by decide +kernel
theorem dX12_row_28 : decode cX12_row 28 = .ok (.aload_n 0, 1) := by decide +kernel
theorem dX12_row_29 : decode cX12_row 29 = .ok (.invokevirtual 253, 3) := by decide +kernel
theorem dX12_row_32 : decode cX12_row 32 = .ok (.i2l, 1) := by decide +kernel
theorem dX12_row_33 : decode cX12_row 33 = .ok (.lreturn, 1) := by decide +kernel
