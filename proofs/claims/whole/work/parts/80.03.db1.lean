theorem dX7_init_0 : decode cX7_init 0 = .ok (.aload_n 0, 1) := by decide +kernel
theorem dX7_init_1 : decode cX7_init 1 = .ok (.invokespecial 5, 3) := by decide +kernel
theorem dX7_init_4 : decode cX7_init 4 = .ok (.aload_n 0, 1) := by decide +kernel
theorem dX7_init_5 : decode cX7_init 5 = .ok (.bipush 40, 2) := by decide +kernel
theorem dX7_init_7 : decode cX7_init 7 = .ok (.newarray .int, 2) := by decide +kernel
theorem dX7_init_9 : decode cX7_init 9 = .ok (.putfield 11, 3) := by decide +kernel
theorem dX7_init_12 : decode cX7_init 12 = .ok (.aload_n 0, 1) := by decide +kernel
theorem dX7_init_13 : decode cX7_init 13 = .ok (.bipush 40, 2) := by decide +kernel
theorem dX7_init_15 : decode cX7_init 15 = .ok (.newarray .int, 2) := by decide +kernel
theorem dX7_init_17 : decode cX7_init 17 = .ok (.putfield 15, 3) := by decide +kernel
theorem dX7_init_20 : decode cX7_init 20 = .ok (.aload_n 0, 1) := by decide +kernel
theorem dX7_init_21 : decode cX7_init 21 = .ok (.bipush 40, 2) := by decide +kernel
theorem dX7_init_23 : decode cX7_init 23 = .ok (.newarray .int, 2) := by decide +kernel
theorem dX7_init_25 : decode cX7_init 25 = .ok (.putfield 18, 3) := by decide +kernel
theorem dX7_init_28 : decode cX7_init 28 = .ok (.aload_n 0, 1) := by decide +kernel
theorem dX7_init_29 : decode cX7_init 29 = .ok (.bipush 8, 2) := by decide +kernel
theorem dX7_init_31 : decode cX7_init 31 = .ok (.newarray .int, 2) := by decide +kernel
theorem dX7_init_33 : decode cX7_init 33 = .ok (.putfield 21, 3) := by decide +kernel
theorem dX7_init_36 : decode cX7_init 36 = .ok (.return_, 1) := by decide +kernel
theorem dX7_readRule_0 : decode cX7_readRule 0 = .ok (.aload_n 1, 1) := by decide +kernel
theorem dX7_readRule_1 : decode cX7_readRule 1 = .ok (.bipush 40, 2) := by decide +kernel
theorem dX7_readRule_3 : decode cX7_readRule 3 = .ok (.invokevirtual 24, 3) := by decide +kernel
theorem dX7_readRule_6 : decode cX7_readRule 6 = .ok (.aload_n 0, 1) := by decide +kernel
theorem dX7_readRule_7 : decode cX7_readRule 7 = .ok (.iconst 0, 1) := by decide +kernel
theorem dX7_readRule_8 : decode cX7_readRule 8 = .ok (.putfield 30, 3) := by decide +kernel
theorem dX7_readRule_11 : decode cX7_readRule 11 = .ok (.aload_n 1, 1) := by decide +kernel
theorem dX7_readRule_12 : decode cX7_readRule 12 = .ok (.invokevirtual 34, 3) := by decide +kernel
theorem dX7_readRule_15 : decode cX7_readRule 15 = .ok (.ifCond .ne 25, 3) := by decide +kernel
theorem dX7_readRule_18 : decode cX7_readRule 18 = .ok (.aload_n 0, 1) := by decide +kernel
theorem dX7_readRule_19 : decode cX7_readRule 19 = .ok (.aload_n 1, 1) := by decide +kernel
theorem dX7_readRule_20 : decode cX7_readRule 20 = .ok (.iconst 0, 1) := by decide +kernel
theorem dX7_readRule_21 : decode cX7_readRule 21 = .ok (.iconst 0, 1) := by decide +kernel
theorem dX7_readRule_22 : decode cX7_readRule 22 = .ok (.invokevirtual 38, 3) := by decide +kernel
theorem dX7_readRule_25 : decode cX7_readRule 25 = .ok (.ifCond .eq 10, 3) := by decide +kernel
theorem dX7_readRule_28 : decode cX7_readRule 28 = .ok (.aload_n 1, 1) := by decide +kernel
theorem dX7_readRule_29 : decode cX7_readRule 29 = .ok (.invokevirtual 34, 3) := by decide +kernel
theorem dX7_readRule_32 : decode cX7_readRule 32 = .ok (.ifCond .ne 8, 3) := by decide +kernel
theorem dX7_readRule_35 : decode cX7_readRule 35 = .ok (.aload_n 1, 1) := by decide +kernel
theorem dX7_readRule_36 : decode cX7_readRule 36 = .ok (.invokevirtual 42, 3) := by decide +kernel
theorem dX7_readRule_39 : decode cX7_readRule 39 = .ok (.ireturn, 1) := by decide +kernel
theorem dX7_readRule_40 : decode cX7_readRule 40 = .ok (.aload_n 0, 1) := by decide +kernel
theorem dX7_readRule_41 : decode cX7_readRule 41 = .ok (.getfield 15, 3) := by decide +kernel
theorem dX7_readRule_44 : decode cX7_readRule 44 = .ok (.iconst 0, 1) := by decide +kernel
theorem dX7_readRule_45 : decode cX7_readRule 45 = .ok (.aload_n 0, 1) := by decide +kernel
theorem dX7_readRule_46 : decode cX7_readRule 46 = .ok (.getfield 11, 3) := by decide +kernel
theorem dX7_readRule_49 : decode cX7_readRule 49 = .ok (.iconst 0, 1) := by decide +kernel
theorem dX7_readRule_50 : decode cX7_readRule 50 = .ok (.aload_n 0, 1) := by decide +kernel
theorem dX7_readRule_51 : decode cX7_readRule 51 = .ok (.getfield 30, 3) := by decide +kernel
theorem dX7_readRule_54 : decode cX7_readRule 54 = .ok (.invokestatic 46, 3) := by decide +kernel
theorem dX7_readRule_57 : decode cX7_readRule 57 = .ok (.aload_n 0, 1) := by decide +kernel
theorem dX7_readRule_58 : decode cX7_readRule 58 = .ok (.aload_n 0, 1) := by decide +kernel
theorem dX7_readRule_59 : decode cX7_readRule 59 = .ok (.getfield 30, 3) := by decide +kernel
theorem dX7_readRule_62 : decode cX7_readRule 62 = .ok (.putfield 52, 3) := by decide +kernel
theorem dX7_readRule_65 : decode cX7_readRule 65 = .ok (.iconst 0, 1) := by decide +kernel
theorem dX7_readRule_66 : decode cX7_readRule 66 = .ok (.ireturn, 1) := by decide +kernel
theorem dX7_readLevel_0 : decode cX7_readLevel 0 = .ok (.iload_n 2, 1) := by decide +kernel
theorem dX7_readLevel_1 : decode cX7_readLevel 1 = .ok (.iconst 3, 1) := by decide +kernel
theorem dX7_readLevel_2 : decode cX7_readLevel 2 = .ok (.if_icmp .lt 10, 3) := by decide +kernel
theorem dX7_readLevel_5 : decode cX7_readLevel 5 = .ok (.aload_n 0, 1) := by decide +kernel
theorem dX7_readLevel_6 : decode cX7_readLevel 6 = .ok (.aload_n 1, 1) := by decide +kernel
theorem dX7_readLevel_7 : decode cX7_readLevel 7 = .ok (.iload_n 3, 1) := by decide +kernel
theorem dX7_readLevel_8 : decode cX7_readLevel 8 = .ok (.invokevirtual 55, 3) := by decide +kernel
theorem dX7_readLevel_11 : decode cX7_readLevel 11 = .ok (.ireturn, 1) := by decide +kernel
theorem dX7_readLevel_12 : decode cX7_readLevel 12 = .ok (.aload_n 0, 1) := by decide +kernel
theorem dX7_readLevel_13 : decode cX7_readLevel 13 = .ok (.aload_n 1, 1) := by decide +kernel
theorem dX7_readLevel_14 : decode cX7_readLevel 14 = .ok (.iload_n 2, 1) := by decide +kernel
theorem dX7_readLevel_15 : decode cX7_readLevel 15 = .ok (.iconst 1, 1) := by decide +kernel
theorem dX7_readLevel_16 : decode cX7_readLevel 16 = .ok (.iadd, 1) := by decide +kernel
theorem dX7_readLevel_17 : decode cX7_readLevel 17 = .ok (.iload_n 3, 1) := by decide +kernel
theorem dX7_readLevel_18 : decode cX7_readLevel 18 = .ok (.invokevirtual 38, 3) := by decide +kernel
theorem dX7_readLevel_21 : decode cX7_readLevel 21 = .ok (.ifCond .ne 5, 3) := by decide +kernel
theorem dX7_readLevel_24 : decode cX7_readLevel 24 = .ok (.iconst 0, 1) := by decide +kernel
theorem dX7_readLevel_25 : decode cX7_readLevel 25 = .ok (.ireturn, 1) := by decide +kernel
theorem dX7_readLevel_26 : decode cX7_readLevel 26 = .ok (.iload_n 2, 1) := by decide +kernel
theorem dX7_readLevel_27 : decode cX7_readLevel 27 = .ok (.ifCond .ne 7, 3) := by decide +kernel
theorem dX7_readLevel_30 : decode cX7_readLevel 30 = .ok (.iconst 1, 1) := by decide +kernel
theorem dX7_readLevel_31 : decode cX7_readLevel 31 = .ok (.goto 5, 3) := by decide +kernel
theorem dX7_readLevel_34 : decode cX7_readLevel 34 = .ok (.bipush 40, 2) := by decide +kernel
theorem dX7_readLevel_36 : decode cX7_readLevel 36 = .ok (.istore 4, 2) := by decide +kernel
theorem dX7_readLevel_38 : decode cX7_readLevel 38 = .ok (.iconst 0, 1) := by decide +kernel
theorem dX7_readLevel_39 : decode cX7_readLevel 39 = .ok (.istore 5, 2) := by decide +kernel
theorem dX7_readLevel_41 : decode cX7_readLevel 41 = .ok (.iload 5, 2) := by decide +kernel
theorem dX7_readLevel_43 : decode cX7_readLevel 43 = .ok (.iload 4, 2) := by decide +kernel
theorem dX7_readLevel_45 : decode cX7_readLevel 45 = .ok (.if_icmp .ge 54, 3) := by decide +kernel
theorem dX7_readLevel_48 : decode cX7_readLevel 48 = .ok (.aload_n 1, 1) := by decide +kernel
theorem dX7_readLevel_49 : decode cX7_readLevel 49 = .ok (.iload_n 2, 1) := by decide +kernel
theorem dX7_readLevel_50 : decode cX7_readLevel 50 = .ok (.invokestatic 59, 3) := by decide +kernel
theorem dX7_readLevel_53 : decode cX7_readLevel 53 = .ok (.invokevirtual 63, 3) := by decide +kernel
theorem dX7_readLevel_56 : decode cX7_readLevel 56 = .ok (.istore 6, 2) := by decide +kernel
theorem dX7_readLevel_58 : decode cX7_readLevel 58 = .ok (.iload 6, 2) := by decide +kernel
theorem dX7_readLevel_60 : decode cX7_readLevel 60 = .ok (.ifCond .ge 5, 3) := by decide +kernel
theorem dX7_readLevel_63 : decode cX7_readLevel 63 = .ok (.iconst 1, 1) := by decide +kernel
theorem dX7_readLevel_64 : decode cX7_readLevel 64 = .ok (.ireturn, 1) := by decide +kernel
theorem dX7_readLevel_65 : decode cX7_readLevel 65 = .ok (.aload_n 0, 1) := by decide +kernel
theorem dX7_readLevel_66 : decode cX7_readLevel 66 = .ok (.aload_n 1, 1) := by decide +kernel
theorem dX7_readLevel_67 : decode cX7_readLevel 67 = .ok (.iload_n 2, 1) := by decide +kernel
theorem dX7_readLevel_68 : decode cX7_readLevel 68 = .ok (.iconst 1, 1) := by decide +kernel
theorem dX7_readLevel_69 : decode cX7_readLevel 69 = .ok (.iadd, 1) := by decide +kernel
theorem dX7_readLevel_70 : decode cX7_readLevel 70 = .ok (.iload_n 3, 1) := by decide +kernel
theorem dX7_readLevel_71 : decode cX7_readLevel 71 = .ok (.invokevirtual 38, 3) := by decide +kernel
theorem dX7_readLevel_74 : decode cX7_readLevel 74 = .ok (.ifCond .ne 5, 3) := by decide +kernel
theorem dX7_readLevel_77 : decode cX7_readLevel 77 = .ok (.iconst 0, 1) := by decide +kernel
theorem dX7_readLevel_78 : decode cX7_readLevel 78 = .ok (.ireturn, 1) := by decide +kernel
theorem dX7_readLevel_79 : decode cX7_readLevel 79 = .ok (.aload_n 0, 1) := by decide +kernel
theorem dX7_readLevel_80 : decode cX7_readLevel 80 = .ok (.sipush 2000, 3) := by decide +kernel
theorem dX7_readLevel_83 : decode cX7_readLevel 83 = .ok (.iload_n 2, 1) := by decide +kernel
theorem dX7_readLevel_84 : decode cX7_readLevel 84 = .ok (.iconst 3, 1) := by decide +kernel
theorem dX7_readLevel_85 : decode cX7_readLevel 85 = .ok (.imul, 1) := by decide +kernel
theorem dX7_readLevel_86 : decode cX7_readLevel 86 = .ok (.iadd, 1) := by decide +kernel
theorem dX7_readLevel_87 : decode cX7_readLevel 87 = .ok (.iload 6, 2) := by decide +kernel
theorem dX7_readLevel_89 : decode cX7_readLevel 89 = .ok (.iadd, 1) := by decide +kernel
theorem dX7_readLevel_90 : decode cX7_readLevel 90 = .ok (.invokevirtual 67, 3) := by decide +kernel
theorem dX7_readLevel_93 : decode cX7_readLevel 93 = .ok (.iinc 5 1, 3) := by decide +kernel
theorem dX7_readLevel_96 : decode cX7_readLevel 96 = .ok (.goto (-55), 3) := by decide +kernel
theorem dX7_readLevel_99 : decode cX7_readLevel 99 = .ok (.iconst 1, 1) := by decide +kernel
theorem dX7_readLevel_100 : decode cX7_readLevel 100 = .ok (.ireturn, 1) := by decide +kernel
theorem dX7_signsOf_0 : decode cX7_signsOf 0 = .ok (.iload_n 0, 1) := by decide +kernel
theorem dX7_signsOf_1 : decode cX7_signsOf 1 = .ok (.ifCond .ne 6, 3) := by decide +kernel
theorem dX7_signsOf_4 : decode cX7_signsOf 4 = .ok (.ldc 70, 2) := by decide +kernel
theorem dX7_signsOf_6 : decode cX7_signsOf 6 = .ok (.areturn, 1) := by decide +kernel
theorem dX7_signsOf_7 : decode cX7_signsOf 7 = .ok (.iload_n 0, 1) := by decide +kernel
theorem dX7_signsOf_8 : decode cX7_signsOf 8 = .ok (.iconst 1, 1) := by decide +kernel
theorem dX7_signsOf_9 : decode cX7_signsOf 9 = .ok (.if_icmp .ne 8, 3) := by decide +kernel
theorem dX7_signsOf_12 : decode cX7_signsOf 12 = .ok (.ldc 72, 2) := by decide +kernel
theorem dX7_signsOf_14 : decode cX7_signsOf 14 = .ok (.goto 5, 3) := by decide +kernel
theorem dX7_signsOf_17 : decode cX7_signsOf 17 = .ok (.ldc 74, 2) := by decide +kernel
theorem dX7_signsOf_19 : decode cX7_signsOf 19 = .ok (.areturn, 1) := by decide +kernel
theorem dX7_readThing_0 : decode cX7_readThing 0 = .ok (.iconst 0, 1) := by decide +kernel
theorem dX7_readThing_1 : decode cX7_readThing 1 = .ok (.istore_n 3, 1) := by decide +kernel
theorem dX7_readThing_2 : decode cX7_readThing 2 = .ok (.iconst 0, 1) := by decide +kernel
theorem dX7_readThing_3 : decode cX7_readThing 3 = .ok (.istore 4, 2) := by decide +kernel
theorem dX7_readThing_5 : decode cX7_readThing 5 = .ok (.iload 4, 2) := by decide +kernel
theorem dX7_readThing_7 : decode cX7_readThing 7 = .ok (.bipush 40, 2) := by decide +kernel
theorem dX7_readThing_9 : decode cX7_readThing 9 = .ok (.if_icmp .ge 28, 3) := by decide +kernel
theorem dX7_readThing_12 : decode cX7_readThing 12 = .ok (.aload_n 1, 1) := by decide +kernel
theorem dX7_readThing_13 : decode cX7_readThing 13 = .ok (.bipush 45, 2) := by decide +kernel
theorem dX7_readThing_15 : decode cX7_readThing 15 = .ok (.invokevirtual 76, 3) := by decide +kernel
theorem dX7_readThing_18 : decode cX7_readThing 18 = .ok (.ifCond .eq 19, 3) := by decide +kernel
theorem dX7_readThing_21 : decode cX7_readThing 21 = .ok (.iload_n 3, 1) := by decide +kernel
theorem dX7_readThing_22 : decode cX7_readThing 22 = .ok (.ifCond .ne 7, 3) := by decide +kernel
theorem dX7_readThing_25 : decode cX7_readThing 25 = .ok (.iconst 1, 1) := by decide +kernel
theorem dX7_readThing_26 : decode cX7_readThing 26 = .ok (.goto 4, 3) := by decide +kernel
theorem dX7_readThing_29 : decode cX7_readThing 29 = .ok (.iconst 0, 1) := by decide +kernel
theorem dX7_readThing_30 : decode cX7_readThing 30 = .ok (.istore_n 3, 1) := by decide +kernel
theorem dX7_readThing_31 : decode cX7_readThing 31 = .ok (.iinc 4 1, 3) := by decide +kernel
theorem dX7_readThing_34 : decode cX7_readThing 34 = .ok (.goto (-29), 3) := by decide +kernel
theorem dX7_readThing_37 : decode cX7_readThing 37 = .ok (.aload_n 0, 1) := by decide +kernel
theorem dX7_readThing_38 : decode cX7_readThing 38 = .ok (.aload_n 1, 1) := by decide +kernel
theorem dX7_readThing_39 : decode cX7_readThing 39 = .ok (.iload_n 2, 1) := by decide +kernel
theorem dX7_readThing_40 : decode cX7_readThing 40 = .ok (.invokevirtual 80, 3) := by decide +kernel
theorem dX7_readThing_43 : decode cX7_readThing 43 = .ok (.ifCond .ne 5, 3) := by decide +kernel
theorem dX7_readThing_46 : decode cX7_readThing 46 = .ok (.iconst 0, 1) := by decide +kernel
theorem dX7_readThing_47 : decode cX7_readThing 47 = .ok (.ireturn, 1) := by decide +kernel
theorem dX7_readThing_48 : decode cX7_readThing 48 = .ok (.iload_n 3, 1) := by decide +kernel
theorem dX7_readThing_49 : decode cX7_readThing 49 = .ok (.ifCond .eq 10, 3) := by decide +kernel
theorem dX7_readThing_52 : decode cX7_readThing 52 = .ok (.aload_n 0, 1) := by decide +kernel
theorem dX7_readThing_53 : decode cX7_readThing 53 = .ok (.sipush 3000, 3) := by decide +kernel
theorem dX7_readThing_56 : decode cX7_readThing 56 = .ok (.invokevirtual 67, 3) := by decide +kernel
theorem dX7_readThing_59 : decode cX7_readThing 59 = .ok (.iconst 1, 1) := by decide +kernel
theorem dX7_readThing_60 : decode cX7_readThing 60 = .ok (.ireturn, 1) := by decide +kernel
theorem dX7_readBareThing_0 : decode cX7_readBareThing 0 = .ok (.aload_n 1, 1) := by decide +kernel
theorem dX7_readBareThing_1 : decode cX7_readBareThing 1 = .ok (.iconst 3, 1) := by decide +kernel
theorem dX7_readBareThing_2 : decode cX7_readBareThing 2 = .ok (.invokevirtual 83, 3) := by decide +kernel
theorem dX7_readBareThing_5 : decode cX7_readBareThing 5 = .ok (.istore_n 3, 1) := by decide +kernel
theorem dX7_readBareThing_6 : decode cX7_readBareThing 6 = .ok (.iload_n 3, 1) := by decide +kernel
theorem dX7_readBareThing_7 : decode cX7_readBareThing 7 = .ok (.iconst (-1), 1) := by decide +kernel
theorem dX7_readBareThing_8 : decode cX7_readBareThing 8 = .ok (.if_icmp .eq 10, 3) := by decide +kernel
theorem dX7_readBareThing_11 : decode cX7_readBareThing 11 = .ok (.aload_n 0, 1) := by decide +kernel
theorem dX7_readBareThing_12 : decode cX7_readBareThing 12 = .ok (.iload_n 3, 1) := by decide +kernel
theorem dX7_readBareThing_13 : decode cX7_readBareThing 13 = .ok (.invokevirtual 67, 3) := by decide +kernel
theorem dX7_readBareThing_16 : decode cX7_readBareThing 16 = .ok (.iconst 1, 1) := by decide +kernel
theorem dX7_readBareThing_17 : decode cX7_readBareThing 17 = .ok (.ireturn, 1) := by decide +kernel
theorem dX7_readBareThing_18 : decode cX7_readBareThing 18 = .ok (.aload_n 1, 1) := by decide +kernel
theorem dX7_readBareThing_19 : decode cX7_readBareThing 19 = .ok (.ldc 87, 2) := by decide +kernel
theorem dX7_readBareThing_21 : decode cX7_readBareThing 21 = .ok (.invokevirtual 63, 3) := by decide +kernel
theorem dX7_readBareThing_24 : decode cX7_readBareThing 24 = .ok (.istore 4, 2) := by decide +kernel
theorem dX7_readBareThing_26 : decode cX7_readBareThing 26 = .ok (.iload 4, 2) := by decide +kernel
theorem dX7_readBareThing_28 : decode cX7_readBareThing 28 = .ok (.ifCond .lt 15, 3) := by decide +kernel
theorem dX7_readBareThing_31 : decode cX7_readBareThing 31 = .ok (.aload_n 0, 1) := by decide +kernel
theorem dX7_readBareThing_32 : decode cX7_readBareThing 32 = .ok (.sipush 1000, 3) := by decide +kernel
theorem dX7_readBareThing_35 : decode cX7_readBareThing 35 = .ok (.iload 4, 2) := by decide +kernel
theorem dX7_readBareThing_37 : decode cX7_readBareThing 37 = .ok (.iadd, 1) := by decide +kernel
theorem dX7_readBareThing_38 : decode cX7_readBareThing 38 = .ok (.invokevirtual 67, 3) := by decide +kernel
theorem dX7_readBareThing_41 : decode cX7_readBareThing 41 = .ok (.iconst 1, 1) := by decide +kernel
theorem dX7_readBareThing_42 : decode cX7_readBareThing 42 = .ok (.ireturn, 1) := by decide +kernel
theorem dX7_readBareThing_43 : decode cX7_readBareThing 43 = .ok (.iload_n 2, 1) := by decide +kernel
theorem dX7_readBareThing_44 : decode cX7_readBareThing 44 = .ok (.iconst 4, 1) := by decide +kernel
theorem dX7_readBareThing_45 : decode cX7_readBareThing 45 = .ok (.if_icmp .ge 12, 3) := by decide +kernel
theorem dX7_readBareThing_48 : decode cX7_readBareThing 48 = .ok (.aload_n 1, 1) := by decide +kernel
theorem dX7_readBareThing_49 : decode cX7_readBareThing 49 = .ok (.bipush 40, 2) := by decide +kernel
theorem dX7_readBareThing_51 : decode cX7_readBareThing 51 = .ok (.invokevirtual 76, 3) := by decide +kernel
theorem dX7_readBareThing_54 : decode cX7_readBareThing 54 = .ok (.ifCond .ne 5, 3) := by decide +kernel
theorem dX7_readBareThing_57 : decode cX7_readBareThing 57 = .ok (.iconst 0, 1) := by decide +kernel
theorem dX7_readBareThing_58 : decode cX7_readBareThing 58 = .ok (.ireturn, 1) := by decide +kernel
theorem dX7_readBareThing_59 : decode cX7_readBareThing 59 = .ok (.aload_n 0, 1) := by decide +kernel
theorem dX7_readBareThing_60 : decode cX7_readBareThing 60 = .ok (.aload_n 1, 1) := by decide +kernel
theorem dX7_readBareThing_61 : decode cX7_readBareThing 61 = .ok (.iconst 0, 1) := by decide +kernel
theorem dX7_readBareThing_62 : decode cX7_readBareThing 62 = .ok (.iload_n 2, 1) := by decide +kernel
theorem dX7_readBareThing_63 : decode cX7_readBareThing 63 = .ok (.iconst 1, 1) := by decide +kernel
theorem dX7_readBareThing_64 : decode cX7_readBareThing 64 = .ok (.iadd, 1) := by decide +kernel
theorem dX7_readBareThing_65 : decode cX7_readBareThing 65 = .ok (.invokevirtual 38, 3) := by decide +kernel
theorem dX7_readBareThing_68 : decode cX7_readBareThing 68 = .ok (.ifCond .eq 16, 3) := by decide +kernel
theorem dX7_readBareThing_71 : decode cX7_readBareThing 71 = .ok (.aload_n 1, 1) := by decide +kernel
theorem dX7_readBareThing_72 : decode cX7_readBareThing 72 = .ok (.bipush 41, 2) := by decide +kernel
theorem dX7_readBareThing_74 : decode cX7_readBareThing 74 = .ok (.invokevirtual 76, 3) := by decide +kernel
theorem dX7_readBareThing_77 : decode cX7_readBareThing 77 = .ok (.ifCond .eq 7, 3) := by decide +kernel
theorem dX7_readBareThing_80 : decode cX7_readBareThing 80 = .ok (.iconst 1, 1) := by decide +kernel
theorem dX7_readBareThing_81 : decode cX7_readBareThing 81 = .ok (.goto 4, 3) := by decide +kernel
theorem dX7_readBareThing_84 : decode cX7_readBareThing 84 = .ok (.iconst 0, 1) := by decide +kernel
theorem dX7_readBareThing_85 : decode cX7_readBareThing 85 = .ok (.ireturn, 1) := by decide +kernel
theorem dX7_emit_0 : decode cX7_emit 0 = .ok (.aload_n 0, 1) := by decide +kernel
theorem dX7_emit_1 : decode cX7_emit 1 = .ok (.getfield 30, 3) := by decide +kernel
theorem dX7_emit_4 : decode cX7_emit 4 = .ok (.bipush 40, 2) := by decide +kernel
theorem dX7_emit_6 : decode cX7_emit 6 = .ok (.if_icmp .ge 23, 3) := by decide +kernel
theorem dX7_emit_9 : decode cX7_emit 9 = .ok (.aload_n 0, 1) := by decide +kernel
theorem dX7_emit_10 : decode cX7_emit 10 = .ok (.getfield 15, 3) := by decide +kernel
theorem dX7_emit_13 : decode cX7_emit 13 = .ok (.aload_n 0, 1) := by decide +kernel
theorem dX7_emit_14 : decode cX7_emit 14 = .ok (.getfield 30, 3) := by decide +kernel
theorem dX7_emit_17 : decode cX7_emit 17 = .ok (.iload_n 1, 1) := by decide +kernel
theorem dX7_emit_18 : decode cX7_emit 18 = .ok (.iastore, 1) := by decide +kernel
theorem dX7_emit_19 : decode cX7_emit 19 = .ok (.aload_n 0, 1) := by decide +kernel
theorem dX7_emit_20 : decode cX7_emit 20 = .ok (.dup, 1) := by decide +kernel
theorem dX7_emit_21 : decode cX7_emit 21 = .ok (.getfield 30, 3) := by decide +kernel
theorem dX7_emit_24 : decode cX7_emit 24 = .ok (.iconst 1, 1) := by decide +kernel
theorem dX7_emit_25 : decode cX7_emit 25 = .ok (.iadd, 1) := by decide +kernel
theorem dX7_emit_26 : decode cX7_emit 26 = .ok (.putfield 30, 3) := by decide +kernel
theorem dX7_emit_29 : decode cX7_emit 29 = .ok (.return_, 1) := by decide +kernel
theorem dX7_odds_0 : decode cX7_odds 0 = .ok (.iconst 0, 1) := by decide +kernel
theorem dX7_odds_1 : decode cX7_odds 1 = .ok (.istore_n 1, 1) := by decide +kernel
theorem dX7_odds_2 : decode cX7_odds 2 = .ok (.iconst 0, 1) := by decide +kernel
theorem dX7_odds_3 : decode cX7_odds 3 = .ok (.istore_n 2, 1) := by decide +kernel
theorem dX7_odds_4 : decode cX7_odds 4 = .ok (.iload_n 2, 1) := by decide +kernel
theorem dX7_odds_5 : decode cX7_odds 5 = .ok (.aload_n 0, 1) := by decide +kernel
theorem dX7_odds_6 : decode cX7_odds 6 = .ok (.getfield 52, 3) := by decide +kernel
theorem dX7_odds_9 : decode cX7_odds 9 = .ok (.if_icmp .ge 132, 3) := by decide +kernel
theorem dX7_odds_12 : decode cX7_odds 12 = .ok (.aload_n 0, 1) := by decide +kernel
theorem dX7_odds_13 : decode cX7_odds 13 = .ok (.getfield 11, 3) := by decide +kernel
theorem dX7_odds_16 : decode cX7_odds 16 = .ok (.iload_n 2, 1) := by decide +kernel
theorem dX7_odds_17 : decode cX7_odds 17 = .ok (.iaload, 1) := by decide +kernel
theorem dX7_odds_18 : decode cX7_odds 18 = .ok (.istore_n 3, 1) := by decide +kernel
theorem dX7_odds_19 : decode cX7_odds 19 = .ok (.iload_n 3, 1) := by decide +kernel
theorem dX7_odds_20 : decode cX7_odds 20 = .ok (.sipush 2000, 3) := by decide +kernel
theorem dX7_odds_23 : decode cX7_odds 23 = .ok (.if_icmp .ge 42, 3) := by decide +kernel
theorem dX7_odds_26 : decode cX7_odds 26 = .ok (.iload_n 1, 1) := by decide +kernel
theorem dX7_odds_27 : decode cX7_odds 27 = .ok (.bipush 40, 2) := by decide +kernel
theorem dX7_odds_29 : decode cX7_odds 29 = .ok (.if_icmp .ge 36, 3) := by decide +kernel
theorem dX7_odds_32 : decode cX7_odds 32 = .ok (.aload_n 0, 1) := by decide +kernel
theorem dX7_odds_33 : decode cX7_odds 33 = .ok (.getfield 18, 3) := by decide +kernel
theorem dX7_odds_36 : decode cX7_odds 36 = .ok (.iload_n 1, 1) := by decide +kernel
theorem dX7_odds_37 : decode cX7_odds 37 = .ok (.iload_n 3, 1) := by decide +kernel
theorem dX7_odds_38 : decode cX7_odds 38 = .ok (.sipush 1000, 3) := by decide +kernel
theorem dX7_odds_41 : decode cX7_odds 41 = .ok (.if_icmp .ge 7, 3) := by decide +kernel
theorem dX7_odds_44 : decode cX7_odds 44 = .ok (.iload_n 3, 1) := by decide +kernel
theorem dX7_odds_45 : decode cX7_odds 45 = .ok (.goto 13, 3) := by decide +kernel
theorem dX7_odds_48 : decode cX7_odds 48 = .ok (.aload_n 0, 1) := by decide +kernel
theorem dX7_odds_49 : decode cX7_odds 49 = .ok (.getfield 21, 3) := by decide +kernel
theorem dX7_odds_52 : decode cX7_odds 52 = .ok (.iload_n 3, 1) := by decide +kernel
theorem dX7_odds_53 : decode cX7_odds 53 = .ok (.sipush 1000, 3) := by decide +kernel
theorem dX7_odds_56 : decode cX7_odds 56 = .ok (.isub, 1) := by decide +kernel
theorem dX7_odds_57 : decode cX7_odds 57 = .ok (.iaload, 1) := by decide +kernel
theorem dX7_odds_58 : decode cX7_odds 58 = .ok (.iastore, 1) := by decide +kernel
theorem dX7_odds_59 : decode cX7_odds 59 = .ok (.iinc 1 1, 3) := by decide +kernel
theorem dX7_odds_62 : decode cX7_odds 62 = .ok (.goto 73, 3) := by decide +kernel
theorem dX7_odds_65 : decode cX7_odds 65 = .ok (.iload_n 3, 1) := by decide +kernel
theorem dX7_odds_66 : decode cX7_odds 66 = .ok (.sipush 3000, 3) := by decide +kernel
theorem dX7_odds_69 : decode cX7_odds 69 = .ok (.if_icmp .ne 28, 3) := by decide +kernel
theorem dX7_odds_72 : decode cX7_odds 72 = .ok (.iload_n 1, 1) := by decide +kernel
theorem dX7_odds_73 : decode cX7_odds 73 = .ok (.iconst 1, 1) := by decide +kernel
theorem dX7_odds_74 : decode cX7_odds 74 = .ok (.if_icmp .lt 23, 3) := by decide +kernel
theorem dX7_odds_77 : decode cX7_odds 77 = .ok (.aload_n 0, 1) := by decide +kernel
theorem dX7_odds_78 : decode cX7_odds 78 = .ok (.getfield 18, 3) := by decide +kernel
theorem dX7_odds_81 : decode cX7_odds 81 = .ok (.iload_n 1, 1) := by decide +kernel
theorem dX7_odds_82 : decode cX7_odds 82 = .ok (.iconst 1, 1) := by decide +kernel
theorem dX7_odds_83 : decode cX7_odds 83 = .ok (.isub, 1) := by decide +kernel
theorem dX7_odds_84 : decode cX7_odds 84 = .ok (.aload_n 0, 1) := by decide +kernel
theorem dX7_odds_85 : decode cX7_odds 85 = .ok (.getfield 18, 3) := by decide +kernel
theorem dX7_odds_88 : decode cX7_odds 88 = .ok (.iload_n 1, 1) := by decide +kernel
theorem dX7_odds_89 : decode cX7_odds 89 = .ok (.iconst 1, 1) := by decide +kernel
theorem dX7_odds_90 : decode cX7_odds 90 = .ok (.isub, 1) := by decide +kernel
theorem dX7_odds_91 : decode cX7_odds 91 = .ok (.iaload, 1) := by decide +kernel
theorem dX7_odds_92 : decode cX7_odds 92 = .ok (.ineg, 1) := by decide +kernel
theorem dX7_odds_93 : decode cX7_odds 93 = .ok (.iastore, 1) := by decide +kernel
theorem dX7_odds_94 : decode cX7_odds 94 = .ok (.goto 41, 3) := by decide +kernel
theorem dX7_odds_97 : decode cX7_odds 97 = .ok (.iload_n 1, 1) := by decide +kernel
theorem dX7_odds_98 : decode cX7_odds 98 = .ok (.iconst 2, 1) := by decide +kernel
theorem dX7_odds_99 : decode cX7_odds 99 = .ok (.if_icmp .lt 36, 3) := by decide +kernel
theorem dX7_odds_102 : decode cX7_odds 102 = .ok (.iinc 1 (-1), 3) := by decide +kernel
theorem dX7_odds_105 : decode cX7_odds 105 = .ok (.aload_n 0, 1) := by decide +kernel
theorem dX7_odds_106 : decode cX7_odds 106 = .ok (.getfield 18, 3) := by decide +kernel
theorem dX7_odds_109 : decode cX7_odds 109 = .ok (.iload_n 1, 1) := by decide +kernel
theorem dX7_odds_110 : decode cX7_odds 110 = .ok (.iconst 1, 1) := by decide +kernel
theorem dX7_odds_111 : decode cX7_odds 111 = .ok (.isub, 1) := by decide +kernel
theorem dX7_odds_112 : decode cX7_odds 112 = .ok (.iload_n 3, 1) := by decide +kernel
theorem dX7_odds_113 : decode cX7_odds 113 = .ok (.sipush 2000, 3) := by decide +kernel
theorem dX7_odds_116 : decode cX7_odds 116 = .ok (.isub, 1) := by decide +kernel
theorem dX7_odds_117 : decode cX7_odds 117 = .ok (.aload_n 0, 1) := by decide +kernel
theorem dX7_odds_118 : decode cX7_odds 118 = .ok (.getfield 18, 3) := by decide +kernel
theorem dX7_odds_121 : decode cX7_odds 121 = .ok (.iload_n 1, 1) := by decide +kernel
theorem dX7_odds_122 : decode cX7_odds 122 = .ok (.iconst 1, 1) := by decide +kernel
theorem dX7_odds_123 : decode cX7_odds 123 = .ok (.isub, 1) := by decide +kernel
theorem dX7_odds_124 : decode cX7_odds 124 = .ok (.iaload, 1) := by decide +kernel
theorem dX7_odds_125 : decode cX7_odds 125 = .ok (.aload_n 0, 1) := by decide +kernel
theorem dX7_odds_126 : decode cX7_odds 126 = .ok (.getfield 18, 3) := by decide +kernel
theorem dX7_odds_129 : decode cX7_odds 129 = .ok (.iload_n 1, 1) := by decide +kernel
theorem dX7_odds_130 : decode cX7_odds 130 = .ok (.iaload, 1) := by decide +kernel
theorem dX7_odds_131 : decode cX7_odds 131 = .ok (.invokestatic 89, 3) := by decide +kernel
theorem dX7_odds_134 : decode cX7_odds 134 = .ok (.iastore, 1) := by decide +kernel
theorem dX7_odds_135 : decode cX7_odds 135 = .ok (.iinc 2 1, 3) := by decide +kernel
theorem dX7_odds_138 : decode cX7_odds 138 = .ok (.goto (-134), 3) := by decide +kernel
theorem dX7_odds_141 : decode cX7_odds 141 = .ok (.iload_n 1, 1) := by decide +kernel
theorem dX7_odds_142 : decode cX7_odds 142 = .ok (.ifCond .le 12, 3) := by decide +kernel
theorem dX7_odds_145 : decode cX7_odds 145 = .ok (.aload_n 0, 1) := by decide +kernel
theorem dX7_odds_146 : decode cX7_odds 146 = .ok (.getfield 18, 3) := by decide +kernel
theorem dX7_odds_149 : decode cX7_odds 149 = .ok (.iconst 0, 1) := by decide +kernel
theorem dX7_odds_150 : decode cX7_odds 150 = .ok (.iaload, 1) := by decide +kernel
theorem dX7_odds_151 : decode cX7_odds 151 = .ok (.goto 7, 3) := by decide +kernel
theorem dX7_odds_154 : decode cX7_odds 154 = .ok (.aload_n 0, 1) := by decide +kernel
theorem dX7_odds_155 : decode cX7_odds 155 = .ok (.invokevirtual 93, 3) := by decide +kernel
theorem dX7_odds_158 : decode cX7_odds 158 = .ok (.istore_n 2, 1) := by decide +kernel
theorem dX7_odds_159 : decode cX7_odds 159 = .ok (.iconst 0, 1) := by decide +kernel
theorem dX7_odds_160 : decode cX7_odds 160 = .ok (.bipush 100, 2) := by decide +kernel
theorem dX7_odds_162 : decode cX7_odds 162 = .ok (.iload_n 2, 1) := by decide +kernel
theorem dX7_odds_163 : decode cX7_odds 163 = .ok (.invokestatic 96, 3) := by decide +kernel
theorem dX7_odds_166 : decode cX7_odds 166 = .ok (.invokestatic 102, 3) := by decide +kernel
theorem dX7_odds_169 : decode cX7_odds 169 = .ok (.ireturn, 1) := by decide +kernel
theorem dX7_join_0 : decode cX7_join 0 = .ok (.iload_n 0, 1) := by decide +kernel
theorem dX7_join_1 : decode cX7_join 1 = .ok (.tableswitch 88 0 6 #[43, 54, 65, 76, 80, 88, 84], 43) := by decide +kernel
theorem dX7_join_44 : decode cX7_join 44 = .ok (.iload_n 1, 1) := by decide +kernel
theorem dX7_join_45 : decode cX7_join 45 = .ok (.iload_n 2, 1) := by decide +kernel
theorem dX7_join_46 : decode cX7_join 46 = .ok (.if_icmp .ge 7, 3) := by decide +kernel
theorem dX7_join_49 : decode cX7_join 49 = .ok (.iconst 1, 1) := by decide +kernel
theorem dX7_join_50 : decode cX7_join 50 = .ok (.goto 4, 3) := by decide +kernel
theorem dX7_join_53 : decode cX7_join 53 = .ok (.iconst 0, 1) := by decide +kernel
theorem dX7_join_54 : decode cX7_join 54 = .ok (.ireturn, 1) := by decide +kernel
theorem dX7_join_55 : decode cX7_join 55 = .ok (.iload_n 1, 1) := by decide +kernel
theorem dX7_join_56 : decode cX7_join 56 = .ok (.iload_n 2, 1) := by decide +kernel
theorem dX7_join_57 : decode cX7_join 57 = .ok (.if_icmp .le 7, 3) := by decide +kernel
theorem dX7_join_60 : decode cX7_join 60 = .ok (.iconst 1, 1) := by decide +kernel
theorem dX7_join_61 : decode cX7_join 61 = .ok (.goto 4, 3) := by decide +kernel
theorem dX7_join_64 : decode cX7_join 64 = .ok (.iconst 0, 1) := by decide +kernel
theorem dX7_join_65 : decode cX7_join 65 = .ok (.ireturn, 1) := by decide +kernel
theorem dX7_join_66 : decode cX7_join 66 = .ok (.iload_n 1, 1) := by decide +kernel
theorem dX7_join_67 : decode cX7_join 67 = .ok (.iload_n 2, 1) := by decide +kernel
theorem dX7_join_68 : decode cX7_join 68 = .ok (.if_icmp .ne 7, 3) := by decide +kernel
theorem dX7_join_71 : decode cX7_join 71 = .ok (.iconst 1, 1) := by decide +kernel
theorem dX7_join_72 : decode cX7_join 72 = .ok (.goto 4, 3) := by decide +kernel
theorem dX7_join_75 : decode cX7_join 75 = .ok (.iconst 0, 1) := by decide +kernel
theorem dX7_join_76 : decode cX7_join 76 = .ok (.ireturn, 1) := by decide +kernel
theorem dX7_join_77 : decode cX7_join 77 = .ok (.iload_n 1, 1) := by decide +kernel
theorem dX7_join_78 : decode cX7_join 78 = .ok (.iload_n 2, 1) := by decide +kernel
theorem dX7_join_79 : decode cX7_join 79 = .ok (.iadd, 1) := by decide +kernel
theorem dX7_join_80 : decode cX7_join 80 = .ok (.ireturn, 1) := by decide +kernel
theorem dX7_join_81 : decode cX7_join 81 = .ok (.iload_n 1, 1) := by decide +kernel
theorem dX7_join_82 : decode cX7_join 82 = .ok (.iload_n 2, 1) := by decide +kernel
theorem dX7_join_83 : decode cX7_join 83 = .ok (.isub, 1) := by decide +kernel
theorem dX7_join_84 : decode cX7_join 84 = .ok (.ireturn, 1) := by decide +kernel
theorem dX7_join_85 : decode cX7_join 85 = .ok (.iload_n 1, 1) := by decide +kernel
theorem dX7_join_86 : decode cX7_join 86 = .ok (.iload_n 2, 1) := by decide +kernel
theorem dX7_join_87 : decode cX7_join 87 = .ok (.imul, 1) := by decide +kernel
theorem dX7_join_88 : decode cX7_join 88 = .ok (.ireturn, 1) := by decide +kernel
theorem dX7_join_89 : decode cX7_join 89 = .ok (.iload_n 2, 1) := by decide +kernel
theorem dX7_join_90 : decode cX7_join 90 = .ok (.ifCond .ne 7, 3) := by decide +kernel
theorem dX7_join_93 : decode cX7_join 93 = .ok (.iconst 0, 1) := by decide +kernel
theorem dX7_join_94 : decode cX7_join 94 = .ok (.goto 6, 3) := by decide +kernel
theorem dX7_join_97 : decode cX7_join 97 = .ok (.iload_n 1, 1) := by decide +kernel
theorem dX7_join_98 : decode cX7_join 98 = .ok (.iload_n 2, 1) := by decide +kernel
theorem dX7_join_99 : decode cX7_join 99 = .ok (.idiv, 1) := by decide +kernel
theorem dX7_join_100 : decode cX7_join 100 = .ok (.ireturn, 1) := by decide +kernel
theorem dX7_usual_0 : decode cX7_usual 0 = .ok (.aload_n 0, 1) := by decide +kernel
theorem dX7_usual_1 : decode cX7_usual 1 = .ok (.getfield 21, 3) := by decide +kernel
theorem dX7_usual_4 : decode cX7_usual 4 = .ok (.iconst 0, 1) := by decide +kernel
theorem dX7_usual_5 : decode cX7_usual 5 = .ok (.iaload, 1) := by decide +kernel
theorem dX7_usual_6 : decode cX7_usual 6 = .ok (.istore_n 1, 1) := by decide +kernel
theorem dX7_usual_7 : decode cX7_usual 7 = .ok (.aload_n 0, 1) := by decide +kernel
theorem dX7_usual_8 : decode cX7_usual 8 = .ok (.getfield 21, 3) := by decide +kernel
theorem dX7_usual_11 : decode cX7_usual 11 = .ok (.iconst 1, 1) := by decide +kernel
theorem dX7_usual_12 : decode cX7_usual 12 = .ok (.iaload, 1) := by decide +kernel
theorem dX7_usual_13 : decode cX7_usual 13 = .ok (.istore_n 2, 1) := by decide +kernel
theorem dX7_usual_14 : decode cX7_usual 14 = .ok (.aload_n 0, 1) := by decide +kernel
theorem dX7_usual_15 : decode cX7_usual 15 = .ok (.getfield 21, 3) := by decide +kernel
theorem dX7_usual_18 : decode cX7_usual 18 = .ok (.iconst 2, 1) := by decide +kernel
theorem dX7_usual_19 : decode cX7_usual 19 = .ok (.iaload, 1) := by decide +kernel
theorem dX7_usual_20 : decode cX7_usual 20 = .ok (.istore_n 3, 1) := by decide +kernel
theorem dX7_usual_21 : decode cX7_usual 21 = .ok (.aload_n 0, 1) := by decide +kernel
theorem dX7_usual_22 : decode cX7_usual 22 = .ok (.getfield 21, 3) := by decide +kernel
theorem dX7_usual_25 : decode cX7_usual 25 = .ok (.iconst 3, 1) := by decide +kernel
theorem dX7_usual_26 : decode cX7_usual 26 = .ok (.iaload, 1) := by decide +kernel
theorem dX7_usual_27 : decode cX7_usual 27 = .ok (.istore 4, 2) := by decide +kernel
theorem dX7_usual_29 : decode cX7_usual 29 = .ok (.aload_n 0, 1) := by decide +kernel
theorem dX7_usual_30 : decode cX7_usual 30 = .ok (.getfield 21, 3) := by decide +kernel
theorem dX7_usual_33 : decode cX7_usual 33 = .ok (.iconst 4, 1) := by decide +kernel
theorem dX7_usual_34 : decode cX7_usual 34 = .ok (.iaload, 1) := by decide +kernel
theorem dX7_usual_35 : decode cX7_usual 35 = .ok (.istore 5, 2) := by decide +kernel
theorem dX7_usual_37 : decode cX7_usual 37 = .ok (.aload_n 0, 1) := by decide +kernel
theorem dX7_usual_38 : decode cX7_usual 38 = .ok (.getfield 21, 3) := by decide +kernel
theorem dX7_usual_41 : decode cX7_usual 41 = .ok (.iconst 5, 1) := by decide +kernel
theorem dX7_usual_42 : decode cX7_usual 42 = .ok (.iaload, 1) := by decide +kernel
theorem dX7_usual_43 : decode cX7_usual 43 = .ok (.istore 6, 2) := by decide +kernel
theorem dX7_usual_45 : decode cX7_usual 45 = .ok (.iload_n 1, 1) := by decide +kernel
theorem dX7_usual_46 : decode cX7_usual 46 = .ok (.iconst 3, 1) := by decide +kernel
theorem dX7_usual_47 : decode cX7_usual 47 = .ok (.imul, 1) := by decide +kernel
theorem dX7_usual_48 : decode cX7_usual 48 = .ok (.iload_n 2, 1) := by decide +kernel
theorem dX7_usual_49 : decode cX7_usual 49 = .ok (.iconst 2, 1) := by decide +kernel
theorem dX7_usual_50 : decode cX7_usual 50 = .ok (.imul, 1) := by decide +kernel
theorem dX7_usual_51 : decode cX7_usual 51 = .ok (.isub, 1) := by decide +kernel
theorem dX7_usual_52 : decode cX7_usual 52 = .ok (.iload_n 3, 1) := by decide +kernel
theorem dX7_usual_53 : decode cX7_usual 53 = .ok (.isub, 1) := by decide +kernel
theorem dX7_usual_54 : decode cX7_usual 54 = .ok (.iload 4, 2) := by decide +kernel
theorem dX7_usual_56 : decode cX7_usual 56 = .ok (.iload 4, 2) := by decide +kernel
theorem dX7_usual_58 : decode cX7_usual 58 = .ok (.imul, 1) := by decide +kernel
theorem dX7_usual_59 : decode cX7_usual 59 = .ok (.iadd, 1) := by decide +kernel
theorem dX7_usual_60 : decode cX7_usual 60 = .ok (.iload 5, 2) := by decide +kernel
theorem dX7_usual_62 : decode cX7_usual 62 = .ok (.iconst 4, 1) := by decide +kernel
theorem dX7_usual_63 : decode cX7_usual 63 = .ok (.imul, 1) := by decide +kernel
theorem dX7_usual_64 : decode cX7_usual 64 = .ok (.iadd, 1) := by decide +kernel
theorem dX7_usual_65 : decode cX7_usual 65 = .ok (.iload 6, 2) := by decide +kernel
theorem dX7_usual_67 : decode cX7_usual 67 = .ok (.iconst 2, 1) := by decide +kernel
theorem dX7_usual_68 : decode cX7_usual 68 = .ok (.imul, 1) := by decide +kernel
theorem dX7_usual_69 : decode cX7_usual 69 = .ok (.iadd, 1) := by decide +kernel
theorem dX7_usual_70 : decode cX7_usual 70 = .ok (.iconst 5, 1) := by decide +kernel
theorem dX7_usual_71 : decode cX7_usual 71 = .ok (.iadd, 1) := by decide +kernel
theorem dX7_usual_72 : decode cX7_usual 72 = .ok (.ireturn, 1) := by decide +kernel
theorem dX8_init_0 : decode cX8_init 0 = .ok (.aload_n 0, 1) := by decide +kernel
theorem dX8_init_1 : decode cX8_init 1 = .ok (.invokespecial 3, 3) := by decide +kernel
theorem dX8_init_4 : decode cX8_init 4 = .ok (.aload_n 0, 1) := by decide +kernel
theorem dX8_init_5 : decode cX8_init 5 = .ok (.iconst 1, 1) := by decide +kernel
theorem dX8_init_6 : decode cX8_init 6 = .ok (.iload_n 1, 1) := by decide +kernel
theorem dX8_init_7 : decode cX8_init 7 = .ok (.invokestatic 9, 3) := by decide +kernel
theorem dX8_init_10 : decode cX8_init 10 = .ok (.putfield 15, 3) := by decide +kernel
theorem dX8_init_13 : decode cX8_init 13 = .ok (.aload_n 0, 1) := by decide +kernel
theorem dX8_init_14 : decode cX8_init 14 = .ok (.aload_n 0, 1) := by decide +kernel
theorem dX8_init_15 : decode cX8_init 15 = .ok (.getfield 15, 3) := by decide +kernel
theorem dX8_init_18 : decode cX8_init 18 = .ok (.bipush 48, 2) := by decide +kernel
theorem dX8_init_20 : decode cX8_init 20 = .ok (.imul, 1) := by decide +kernel
theorem dX8_init_21 : decode cX8_init 21 = .ok (.newarray .int, 2) := by decide +kernel
theorem dX8_init_23 : decode cX8_init 23 = .ok (.putfield 21, 3) := by decide +kernel
theorem dX8_init_26 : decode cX8_init 26 = .ok (.aload_n 0, 1) := by decide +kernel
theorem dX8_init_27 : decode cX8_init 27 = .ok (.aload_n 0, 1) := by decide +kernel
theorem dX8_init_28 : decode cX8_init 28 = .ok (.getfield 15, 3) := by decide +kernel
theorem dX8_init_31 : decode cX8_init 31 = .ok (.newarray .int, 2) := by decide +kernel
theorem dX8_init_33 : decode cX8_init 33 = .ok (.putfield 25, 3) := by decide +kernel
theorem dX8_init_36 : decode cX8_init 36 = .ok (.aload_n 0, 1) := by decide +kernel
theorem dX8_init_37 : decode cX8_init 37 = .ok (.getfield 25, 3) := by decide +kernel
theorem dX8_init_40 : decode cX8_init 40 = .ok (.iconst (-1), 1) := by decide +kernel
theorem dX8_init_41 : decode cX8_init 41 = .ok (.invokestatic 28, 3) := by decide +kernel
theorem dX8_init_44 : decode cX8_init 44 = .ok (.return_, 1) := by decide +kernel
theorem dX8_forget_0 : decode cX8_forget 0 = .ok (.aload_n 0, 1) := by decide +kernel
theorem dX8_forget_1 : decode cX8_forget 1 = .ok (.getfield 25, 3) := by decide +kernel
theorem dX8_forget_4 : decode cX8_forget 4 = .ok (.iconst (-1), 1) := by decide +kernel
theorem dX8_forget_5 : decode cX8_forget 5 = .ok (.invokestatic 28, 3) := by decide +kernel
theorem dX8_forget_8 : decode cX8_forget 8 = .ok (.aload_n 0, 1) := by decide +kernel
theorem dX8_forget_9 : decode cX8_forget 9 = .ok (.iconst 0, 1) := by decide +kernel
theorem dX8_forget_10 : decode cX8_forget 10 = .ok (.putfield 34, 3) := by decide +kernel
theorem dX8_forget_13 : decode cX8_forget 13 = .ok (.return_, 1) := by decide +kernel
theorem dX8_store_0 : decode cX8_store 0 = .ok (.iload_n 1, 1) := by decide +kernel
theorem dX8_store_1 : decode cX8_store 1 = .ok (.ifCond .lt 11, 3) := by decide +kernel
theorem dX8_store_4 : decode cX8_store 4 = .ok (.iload_n 1, 1) := by decide +kernel
theorem dX8_store_5 : decode cX8_store 5 = .ok (.aload_n 0, 1) := by decide +kernel
theorem dX8_store_6 : decode cX8_store 6 = .ok (.getfield 15, 3) := by decide +kernel
theorem dX8_store_9 : decode cX8_store 9 = .ok (.if_icmp .lt 5, 3) := by decide +kernel
theorem dX8_store_12 : decode cX8_store 12 = .ok (.iconst 0, 1) := by decide +kernel
theorem dX8_store_13 : decode cX8_store 13 = .ok (.ireturn, 1) := by decide +kernel
theorem dX8_store_14 : decode cX8_store 14 = .ok (.iload_n 1, 1) := by decide +kernel
theorem dX8_store_15 : decode cX8_store 15 = .ok (.bipush 48, 2) := by decide +kernel
theorem dX8_store_17 : decode cX8_store 17 = .ok (.imul, 1) := by decide +kernel
theorem dX8_store_18 : decode cX8_store 18 = .ok (.istore_n 3, 1) := by decide +kernel
theorem dX8_store_19 : decode cX8_store 19 = .ok (.aload_n 2, 1) := by decide +kernel
theorem dX8_store_20 : decode cX8_store 20 = .ok (.getfield 37, 3) := by decide +kernel
theorem dX8_store_23 : decode cX8_store 23 = .ok (.iconst 0, 1) := by decide +kernel
theorem dX8_store_24 : decode cX8_store 24 = .ok (.aload_n 0, 1) := by decide +kernel
theorem dX8_store_25 : decode cX8_store 25 = .ok (.getfield 21, 3) := by decide +kernel
theorem dX8_store_28 : decode cX8_store 28 = .ok (.iload_n 3, 1) := by decide +kernel
theorem dX8_store_29 : decode cX8_store 29 = .ok (.bipush 12, 2) := by decide +kernel
theorem dX8_store_31 : decode cX8_store 31 = .ok (.invokestatic 42, 3) := by decide +kernel
theorem dX8_store_34 : decode cX8_store 34 = .ok (.aload_n 2, 1) := by decide +kernel
theorem dX8_store_35 : decode cX8_store 35 = .ok (.getfield 48, 3) := by decide +kernel
theorem dX8_store_38 : decode cX8_store 38 = .ok (.iconst 0, 1) := by decide +kernel
theorem dX8_store_39 : decode cX8_store 39 = .ok (.aload_n 0, 1) := by decide +kernel
theorem dX8_store_40 : decode cX8_store 40 = .ok (.getfield 21, 3) := by decide +kernel
theorem dX8_store_43 : decode cX8_store 43 = .ok (.iload_n 3, 1) := by decide +kernel
theorem dX8_store_44 : decode cX8_store 44 = .ok (.bipush 12, 2) := by decide +kernel
theorem dX8_store_46 : decode cX8_store 46 = .ok (.iadd, 1) := by decide +kernel
theorem dX8_store_47 : decode cX8_store 47 = .ok (.bipush 12, 2) := by decide +kernel
theorem dX8_store_49 : decode cX8_store 49 = .ok (.invokestatic 42, 3) := by decide +kernel
theorem dX8_store_52 : decode cX8_store 52 = .ok (.aload_n 2, 1) := by decide +kernel
theorem dX8_store_53 : decode cX8_store 53 = .ok (.getfield 51, 3) := by decide +kernel
theorem dX8_store_56 : decode cX8_store 56 = .ok (.iconst 0, 1) := by decide +kernel
theorem dX8_store_57 : decode cX8_store 57 = .ok (.aload_n 0, 1) := by decide +kernel
theorem dX8_store_58 : decode cX8_store 58 = .ok (.getfield 21, 3) := by decide +kernel
theorem dX8_store_61 : decode cX8_store 61 = .ok (.iload_n 3, 1) := by decide +kernel
theorem dX8_store_62 : decode cX8_store 62 = .ok (.bipush 24, 2) := by decide +kernel
theorem dX8_store_64 : decode cX8_store 64 = .ok (.iadd, 1) := by decide +kernel
theorem dX8_store_65 : decode cX8_store 65 = .ok (.bipush 12, 2) := by decide +kernel
theorem dX8_store_67 : decode cX8_store 67 = .ok (.invokestatic 42, 3) := by decide +kernel
theorem dX8_store_70 : decode cX8_store 70 = .ok (.aload_n 2, 1) := by decide +kernel
theorem dX8_store_71 : decode cX8_store 71 = .ok (.getfield 54, 3) := by decide +kernel
theorem dX8_store_74 : decode cX8_store 74 = .ok (.iconst 0, 1) := by decide +kernel
theorem dX8_store_75 : decode cX8_store 75 = .ok (.aload_n 0, 1) := by decide +kernel
theorem dX8_store_76 : decode cX8_store 76 = .ok (.getfield 21, 3) := by decide +kernel
theorem dX8_store_79 : decode cX8_store 79 = .ok (.iload_n 3, 1) := by decide +kernel
theorem dX8_store_80 : decode cX8_store 80 = .ok (.bipush 36, 2) := by decide +kernel
theorem dX8_store_82 : decode cX8_store 82 = .ok (.iadd, 1) := by decide +kernel
theorem dX8_store_83 : decode cX8_store 83 = .ok (.bipush 12, 2) := by decide +kernel
theorem dX8_store_85 : decode cX8_store 85 = .ok (.invokestatic 42, 3) := by decide +kernel
theorem dX8_store_88 : decode cX8_store 88 = .ok (.aload_n 0, 1) := by decide +kernel
theorem dX8_store_89 : decode cX8_store 89 = .ok (.getfield 25, 3) := by decide +kernel
theorem dX8_store_92 : decode cX8_store 92 = .ok (.iload_n 1, 1) := by decide +kernel
theorem dX8_store_93 : decode cX8_store 93 = .ok (.aload_n 2, 1) := by decide +kernel
theorem dX8_store_94 : decode cX8_store 94 = .ok (.getfield 57, 3) := by decide +kernel
theorem dX8_store_97 : decode cX8_store 97 = .ok (.iastore, 1) := by decide +kernel
theorem dX8_store_98 : decode cX8_store 98 = .ok (.iconst 1, 1) := by decide +kernel
theorem dX8_store_99 : decode cX8_store 99 = .ok (.ireturn, 1) := by decide +kernel
theorem dX8_load_0 : decode cX8_load 0 = .ok (.iload_n 1, 1) := by decide +kernel
theorem dX8_load_1 : decode cX8_load 1 = .ok (.ifCond .lt 21, 3) := by decide +kernel
theorem dX8_load_4 : decode cX8_load 4 = .ok (.iload_n 1, 1) := by decide +kernel
theorem dX8_load_5 : decode cX8_load 5 = .ok (.aload_n 0, 1) := by decide +kernel
theorem dX8_load_6 : decode cX8_load 6 = .ok (.getfield 15, 3) := by decide +kernel
theorem dX8_load_9 : decode cX8_load 9 = .ok (.if_icmp .ge 13, 3) := by decide +kernel
theorem dX8_load_12 : decode cX8_load 12 = .ok (.aload_n 0, 1) := by decide +kernel
theorem dX8_load_13 : decode cX8_load 13 = .ok (.getfield 25, 3) := by decide +kernel
theorem dX8_load_16 : decode cX8_load 16 = .ok (.iload_n 1, 1) := by decide +kernel
theorem dX8_load_17 : decode cX8_load 17 = .ok (.iaload, 1) := by decide +kernel
theorem dX8_load_18 : decode cX8_load 18 = .ok (.iconst (-1), 1) := by decide +kernel
theorem dX8_load_19 : decode cX8_load 19 = .ok (.if_icmp .ne 5, 3) := by decide +kernel
theorem dX8_load_22 : decode cX8_load 22 = .ok (.iconst 0, 1) := by decide +kernel
theorem dX8_load_23 : decode cX8_load 23 = .ok (.ireturn, 1) := by decide +kernel
theorem dX8_load_24 : decode cX8_load 24 = .ok (.iload_n 1, 1) := by decide +kernel
theorem dX8_load_25 : decode cX8_load 25 = .ok (.bipush 48, 2) := by decide +kernel
theorem dX8_load_27 : decode cX8_load 27 = .ok (.imul, 1) := by decide +kernel
theorem dX8_load_28 : decode cX8_load 28 = .ok (.istore_n 3, 1) := by decide +kernel
theorem dX8_load_29 : decode cX8_load 29 = .ok (.aload_n 0, 1) := by decide +kernel
theorem dX8_load_30 : decode cX8_load 30 = .ok (.getfield 21, 3) := by decide +kernel
theorem dX8_load_33 : decode cX8_load 33 = .ok (.iload_n 3, 1) := by decide +kernel
theorem dX8_load_34 : decode cX8_load 34 = .ok (.aload_n 2, 1) := by decide +kernel
theorem dX8_load_35 : decode cX8_load 35 = .ok (.getfield 37, 3) := by decide +kernel
theorem dX8_load_38 : decode cX8_load 38 = .ok (.iconst 0, 1) := by decide +kernel
theorem dX8_load_39 : decode cX8_load 39 = .ok (.bipush 12, 2) := by decide +kernel
theorem dX8_load_41 : decode cX8_load 41 = .ok (.invokestatic 42, 3) := by decide +kernel
theorem dX8_load_44 : decode cX8_load 44 = .ok (.aload_n 0, 1) := by decide +kernel
theorem dX8_load_45 : decode cX8_load 45 = .ok (.getfield 21, 3) := by decide +kernel
theorem dX8_load_48 : decode cX8_load 48 = .ok (.iload_n 3, 1) := by decide +kernel
theorem dX8_load_49 : decode cX8_load 49 = .ok (.bipush 12, 2) := by decide +kernel
theorem dX8_load_51 : decode cX8_load 51 = .ok (.iadd, 1) := by decide +kernel
theorem dX8_load_52 : decode cX8_load 52 = .ok (.aload_n 2, 1) := by decide +kernel
theorem dX8_load_53 : decode cX8_load 53 = .ok (.getfield 48, 3) := by decide +kernel
theorem dX8_load_56 : decode cX8_load 56 = .ok (.iconst 0, 1) := by decide +kernel
theorem dX8_load_57 : decode cX8_load 57 = .ok (.bipush 12, 2) := by decide +kernel
theorem dX8_load_59 : decode cX8_load 59 = .ok (.invokestatic 42, 3) := by decide +kernel
theorem dX8_load_62 : decode cX8_load 62 = .ok (.aload_n 0, 1) := by decide +kernel
theorem dX8_load_63 : decode cX8_load 63 = .ok (.getfield 21, 3) := by decide +kernel
theorem dX8_load_66 : decode cX8_load 66 = .ok (.iload_n 3, 1) := by decide +kernel
theorem dX8_load_67 : decode cX8_load 67 = .ok (.bipush 24, 2) := by decide +kernel
theorem dX8_load_69 : decode cX8_load 69 = .ok (.iadd, 1) := by decide +kernel
theorem dX8_load_70 : decode cX8_load 70 = .ok (.aload_n 2, 1) := by decide +kernel
theorem dX8_load_71 : decode cX8_load 71 = .ok (.getfield 51, 3) := by decide +kernel
theorem dX8_load_74 : decode cX8_load 74 = .ok (.iconst 0, 1) := by decide +kernel
theorem dX8_load_75 : decode cX8_load 75 = .ok (.bipush 12, 2) := by decide +kernel
theorem dX8_load_77 : decode cX8_load 77 = .ok (.invokestatic 42, 3) := by decide +kernel
theorem dX8_load_80 : decode cX8_load 80 = .ok (.aload_n 0, 1) := by decide +kernel
theorem dX8_load_81 : decode cX8_load 81 = .ok (.getfield 21, 3) := by decide +kernel
theorem dX8_load_84 : decode cX8_load 84 = .ok (.iload_n 3, 1) := by decide +kernel
theorem dX8_load_85 : decode cX8_load 85 = .ok (.bipush 36, 2) := by decide +kernel
theorem dX8_load_87 : decode cX8_load 87 = .ok (.iadd, 1) := by decide +kernel
theorem dX8_load_88 : decode cX8_load 88 = .ok (.aload_n 2, 1) := by decide +kernel
theorem dX8_load_89 : decode cX8_load 89 = .ok (.getfield 54, 3) := by decide +kernel
theorem dX8_load_92 : decode cX8_load 92 = .ok (.iconst 0, 1) := by decide +kernel
theorem dX8_load_93 : decode cX8_load 93 = .ok (.bipush 12, 2) := by decide +kernel
theorem dX8_load_95 : decode cX8_load 95 = .ok (.invokestatic 42, 3) := by decide +kernel
theorem dX8_load_98 : decode cX8_load 98 = .ok (.aload_n 2, 1) := by decide +kernel
theorem dX8_load_99 : decode cX8_load 99 = .ok (.aload_n 0, 1) := by decide +kernel
theorem dX8_load_100 : decode cX8_load 100 = .ok (.getfield 25, 3) := by decide +kernel
theorem dX8_load_103 : decode cX8_load 103 = .ok (.iload_n 1, 1) := by decide +kernel
theorem dX8_load_104 : decode cX8_load 104 = .ok (.iaload, 1) := by decide +kernel
theorem dX8_load_105 : decode cX8_load 105 = .ok (.putfield 57, 3) := by decide +kernel
theorem dX8_load_108 : decode cX8_load 108 = .ok (.iconst 1, 1) := by decide +kernel
theorem dX8_load_109 : decode cX8_load 109 = .ok (.ireturn, 1) := by decide +kernel
theorem dX8_mark_0 : decode cX8_mark 0 = .ok (.aload_n 0, 1) := by decide +kernel
theorem dX8_mark_1 : decode cX8_mark 1 = .ok (.aload_n 0, 1) := by decide +kernel
theorem dX8_mark_2 : decode cX8_mark 2 = .ok (.getfield 34, 3) := by decide +kernel
theorem dX8_mark_5 : decode cX8_mark 5 = .ok (.aload_n 1, 1) := by decide +kernel
theorem dX8_mark_6 : decode cX8_mark 6 = .ok (.invokevirtual 60, 3) := by decide +kernel
theorem dX8_mark_9 : decode cX8_mark 9 = .ok (.pop, 1) := by decide +kernel
theorem dX8_mark_10 : decode cX8_mark 10 = .ok (.return_, 1) := by decide +kernel
theorem dX8_commit_0 : decode cX8_commit 0 = .ok (.aload_n 0, 1) := by decide +kernel
theorem dX8_commit_1 : decode cX8_commit 1 = .ok (.getfield 34, 3) := by decide +kernel
theorem dX8_commit_4 : decode cX8_commit 4 = .ok (.aload_n 0, 1) := by decide +kernel
theorem dX8_commit_5 : decode cX8_commit 5 = .ok (.getfield 15, 3) := by decide +kernel
theorem dX8_commit_8 : decode cX8_commit 8 = .ok (.iconst 1, 1) := by decide +kernel
theorem dX8_commit_9 : decode cX8_commit 9 = .ok (.isub, 1) := by decide +kernel
theorem dX8_commit_10 : decode cX8_commit 10 = .ok (.if_icmp .ge 14, 3) := by decide +kernel
theorem dX8_commit_13 : decode cX8_commit 13 = .ok (.aload_n 0, 1) := by decide +kernel
theorem dX8_commit_14 : decode cX8_commit 14 = .ok (.dup, 1) := by decide +kernel
theorem dX8_commit_15 : decode cX8_commit 15 = .ok (.getfield 34, 3) := by decide +kernel
theorem dX8_commit_18 : decode cX8_commit 18 = .ok (.iconst 1, 1) := by decide +kernel
theorem dX8_commit_19 : decode cX8_commit 19 = .ok (.iadd, 1) := by decide +kernel
theorem dX8_commit_20 : decode cX8_commit 20 = .ok (.putfield 34, 3) := by decide +kernel
theorem dX8_commit_23 : decode cX8_commit 23 = .ok (.return_, 1) := by decide +kernel
theorem dX8_commit_24 : decode cX8_commit 24 = .ok (.aload_n 0, 1) := by decide +kernel
theorem dX8_commit_25 : decode cX8_commit 25 = .ok (.getfield 21, 3) := by decide +kernel
theorem dX8_commit_28 : decode cX8_commit 28 = .ok (.bipush 48, 2) := by decide +kernel
theorem dX8_commit_30 : decode cX8_commit 30 = .ok (.aload_n 0, 1) := by decide +kernel
theorem dX8_commit_31 : decode cX8_commit 31 = .ok (.getfield 21, 3) := by decide +kernel
theorem dX8_commit_34 : decode cX8_commit 34 = .ok (.iconst 0, 1) := by decide +kernel
theorem dX8_commit_35 : decode cX8_commit 35 = .ok (.aload_n 0, 1) := by decide +kernel
theorem dX8_commit_36 : decode cX8_commit 36 = .ok (.getfield 15, 3) := by decide +kernel
theorem dX8_commit_39 : decode cX8_commit 39 = .ok (.iconst 1, 1) := by decide +kernel
theorem dX8_commit_40 : decode cX8_commit 40 = .ok (.isub, 1) := by decide +kernel
theorem dX8_commit_41 : decode cX8_commit 41 = .ok (.bipush 48, 2) := by decide +kernel
theorem dX8_commit_43 : decode cX8_commit 43 = .ok (.imul, 1) := by decide +kernel
theorem dX8_commit_44 : decode cX8_commit 44 = .ok (.invokestatic 42, 3) := by decide +kernel
theorem dX8_commit_47 : decode cX8_commit 47 = .ok (.aload_n 0, 1) := by decide +kernel
theorem dX8_commit_48 : decode cX8_commit 48 = .ok (.getfield 25, 3) := by decide +kernel
theorem dX8_commit_51 : decode cX8_commit 51 = .ok (.iconst 1, 1) := by decide +kernel
theorem dX8_commit_52 : decode cX8_commit 52 = .ok (.aload_n 0, 1) := by decide +kernel
theorem dX8_commit_53 : decode cX8_commit 53 = .ok (.getfield 25, 3) := by decide +kernel
theorem dX8_commit_56 : decode cX8_commit 56 = .ok (.iconst 0, 1) := by decide +kernel
theorem dX8_commit_57 : decode cX8_commit 57 = .ok (.aload_n 0, 1) := by decide +kernel
theorem dX8_commit_58 : decode cX8_commit 58 = .ok (.getfield 15, 3) := by decide +kernel
theorem dX8_commit_61 : decode cX8_commit 61 = .ok (.iconst 1, 1) := by decide +kernel
theorem dX8_commit_62 : decode cX8_commit 62 = .ok (.isub, 1) := by decide +kernel
theorem dX8_commit_63 : decode cX8_commit 63 = .ok (.invokestatic 42, 3) := by decide +kernel
theorem dX8_commit_66 : decode cX8_commit 66 = .ok (.return_, 1) := by decide +kernel
theorem dX8_back_0 : decode cX8_back 0 = .ok (.aload_n 0, 1) := by decide +kernel
theorem dX8_back_1 : decode cX8_back 1 = .ok (.getfield 34, 3) := by decide +kernel
theorem dX8_back_4 : decode cX8_back 4 = .ok (.ifCond .eq 17, 3) := by decide +kernel
theorem dX8_back_7 : decode cX8_back 7 = .ok (.aload_n 0, 1) := by decide +kernel
theorem dX8_back_8 : decode cX8_back 8 = .ok (.aload_n 0, 1) := by decide +kernel
theorem dX8_back_9 : decode cX8_back 9 = .ok (.getfield 34, 3) := by decide +kernel
theorem dX8_back_12 : decode cX8_back 12 = .ok (.iconst 1, 1) := by decide +kernel
theorem dX8_back_13 : decode cX8_back 13 = .ok (.isub, 1) := by decide +kernel
theorem dX8_back_14 : decode cX8_back 14 = .ok (.aload_n 1, 1) := by decide +kernel
theorem dX8_back_15 : decode cX8_back 15 = .ok (.invokevirtual 64, 3) := by decide +kernel
theorem dX8_back_18 : decode cX8_back 18 = .ok (.ifCond .ne 5, 3) := by decide +kernel
theorem dX8_back_21 : decode cX8_back 21 = .ok (.iconst (-1), 1) := by decide +kernel
theorem dX8_back_22 : decode cX8_back 22 = .ok (.ireturn, 1) := by decide +kernel
theorem dX8_back_23 : decode cX8_back 23 = .ok (.aload_n 0, 1) := by decide +kernel
theorem dX8_back_24 : decode cX8_back 24 = .ok (.dup, 1) := by decide +kernel
theorem dX8_back_25 : decode cX8_back 25 = .ok (.getfield 34, 3) := by decide +kernel
theorem dX8_back_28 : decode cX8_back 28 = .ok (.iconst 1, 1) := by decide +kernel
theorem dX8_back_29 : decode cX8_back 29 = .ok (.isub, 1) := by decide +kernel
theorem dX8_back_30 : decode cX8_back 30 = .ok (.putfield 34, 3) := by decide +kernel
theorem dX8_back_33 : decode cX8_back 33 = .ok (.aload_n 0, 1) := by decide +kernel
theorem dX8_back_34 : decode cX8_back 34 = .ok (.getfield 34, 3) := by decide +kernel
theorem dX8_back_37 : decode cX8_back 37 = .ok (.ireturn, 1) := by decide +kernel
theorem dX9_init_0 : decode cX9_init 0 = .ok (.aload_n 0, 1) := by decide +kernel
theorem dX9_init_1 : decode cX9_init 1 = .ok (.invokespecial 3, 3) := by decide +kernel
theorem dX9_init_4 : decode cX9_init 4 = .ok (.aload_n 0, 1) := by decide +kernel
theorem dX9_init_5 : decode cX9_init 5 = .ok (.bipush 80, 2) := by decide +kernel
theorem dX9_init_7 : decode cX9_init 7 = .ok (.newarray .char, 2) := by decide +kernel
theorem dX9_init_9 : decode cX9_init 9 = .ok (.putfield 9, 3) := by decide +kernel
theorem dX9_init_12 : decode cX9_init 12 = .ok (.return_, 1) := by decide +kernel
theorem dX9_add_0 : decode cX9_add 0 = .ok (.aload_n 0, 1) := by decide +kernel
theorem dX9_add_1 : decode cX9_add 1 = .ok (.getfield 15, 3) := by decide +kernel
theorem dX9_add_4 : decode cX9_add 4 = .ok (.bipush 76, 2) := by decide +kernel
theorem dX9_add_6 : decode cX9_add 6 = .ok (.if_icmp .le 5, 3) := by decide +kernel
theorem dX9_add_9 : decode cX9_add 9 = .ok (.iconst (-1), 1) := by decide +kernel
theorem dX9_add_10 : decode cX9_add 10 = .ok (.ireturn, 1) := by decide +kernel
theorem dX9_add_11 : decode cX9_add 11 = .ok (.bipush 24, 2) := by decide +kernel
theorem dX9_add_13 : decode cX9_add 13 = .ok (.istore_n 2, 1) := by decide +kernel
theorem dX9_add_14 : decode cX9_add 14 = .ok (.iload_n 2, 1) := by decide +kernel
theorem dX9_add_15 : decode cX9_add 15 = .ok (.ifCond .lt 36, 3) := by decide +kernel
theorem dX9_add_18 : decode cX9_add 18 = .ok (.aload_n 0, 1) := by decide +kernel
theorem dX9_add_19 : decode cX9_add 19 = .ok (.getfield 9, 3) := by decide +kernel
theorem dX9_add_22 : decode cX9_add 22 = .ok (.aload_n 0, 1) := by decide +kernel
theorem dX9_add_23 : decode cX9_add 23 = .ok (.getfield 15, 3) := by decide +kernel
theorem dX9_add_26 : decode cX9_add 26 = .ok (.iload_n 1, 1) := by decide +kernel
theorem dX9_add_27 : decode cX9_add 27 = .ok (.iload_n 2, 1) := by decide +kernel
theorem dX9_add_28 : decode cX9_add 28 = .ok (.iushr, 1) := by decide +kernel
theorem dX9_add_29 : decode cX9_add 29 = .ok (.sipush 255, 3) := by decide +kernel
theorem dX9_add_32 : decode cX9_add 32 = .ok (.iand, 1) := by decide +kernel
theorem dX9_add_33 : decode cX9_add 33 = .ok (.i2c, 1) := by decide +kernel
theorem dX9_add_34 : decode cX9_add 34 = .ok (.castore, 1) := by decide +kernel
theorem dX9_add_35 : decode cX9_add 35 = .ok (.aload_n 0, 1) := by decide +kernel
theorem dX9_add_36 : decode cX9_add 36 = .ok (.dup, 1) := by decide +kernel
theorem dX9_add_37 : decode cX9_add 37 = .ok (.getfield 15, 3) := by decide +kernel
theorem dX9_add_40 : decode cX9_add 40 = .ok (.iconst 1, 1) := by decide +kernel
theorem dX9_add_41 : decode cX9_add 41 = .ok (.iadd, 1) := by decide +kernel
theorem dX9_add_42 : decode cX9_add 42 = .ok (.putfield 15, 3) := by decide +kernel
theorem dX9_add_45 : decode cX9_add 45 = .ok (.iinc 2 (-8), 3) := by decide +kernel
theorem dX9_add_48 : decode cX9_add 48 = .ok (.goto (-34), 3) := by decide +kernel
theorem dX9_add_51 : decode cX9_add 51 = .ok (.aload_n 0, 1) := by decide +kernel
theorem dX9_add_52 : decode cX9_add 52 = .ok (.getfield 15, 3) := by decide +kernel
theorem dX9_add_55 : decode cX9_add 55 = .ok (.ireturn, 1) := by decide +kernel
theorem dX9_cut_0 : decode cX9_cut 0 = .ok (.iload_n 1, 1) := by decide +kernel
theorem dX9_cut_1 : decode cX9_cut 1 = .ok (.ifCond .lt 11, 3) := by decide +kernel
theorem dX9_cut_4 : decode cX9_cut 4 = .ok (.iload_n 1, 1) := by decide +kernel
theorem dX9_cut_5 : decode cX9_cut 5 = .ok (.aload_n 0, 1) := by decide +kernel
theorem dX9_cut_6 : decode cX9_cut 6 = .ok (.getfield 15, 3) := by decide +kernel
theorem dX9_cut_9 : decode cX9_cut 9 = .ok (.if_icmp .le 5, 3) := by decide +kernel
theorem dX9_cut_12 : decode cX9_cut 12 = .ok (.iconst 0, 1) := by decide +kernel
theorem dX9_cut_13 : decode cX9_cut 13 = .ok (.ireturn, 1) := by decide +kernel
theorem dX9_cut_14 : decode cX9_cut 14 = .ok (.aload_n 0, 1) := by decide +kernel
theorem dX9_cut_15 : decode cX9_cut 15 = .ok (.iload_n 1, 1) := by decide +kernel
theorem dX9_cut_16 : decode cX9_cut 16 = .ok (.putfield 15, 3) := by decide +kernel
theorem dX9_cut_19 : decode cX9_cut 19 = .ok (.iconst 1, 1) := by decide +kernel
theorem dX9_cut_20 : decode cX9_cut 20 = .ok (.ireturn, 1) := by decide +kernel
theorem dX9_clear_0 : decode cX9_clear 0 = .ok (.aload_n 0, 1) := by decide +kernel
theorem dX9_clear_1 : decode cX9_clear 1 = .ok (.iconst 0, 1) := by decide +kernel
theorem dX9_clear_2 : decode cX9_clear 2 = .ok (.putfield 15, 3) := by decide +kernel
theorem dX9_clear_5 : decode cX9_clear 5 = .ok (.return_, 1) := by decide +kernel
theorem dX9_open_0 : decode cX9_open 0 = .ok (.aload_n 0, 1) := by decide +kernel
theorem dX9_open_1 : decode cX9_open 1 = .ok (.iconst 0, 1) := by decide +kernel
theorem dX9_open_2 : decode cX9_open 2 = .ok (.putfield 19, 3) := by decide +kernel
theorem dX9_open_5 : decode cX9_open 5 = .ok (.aload_n 0, 1) := by decide +kernel
theorem dX9_open_6 : decode cX9_open 6 = .ok (.aload_n 0, 1) := by decide +kernel
theorem dX9_open_7 : decode cX9_open 7 = .ok (.getfield 15, 3) := by decide +kernel
theorem dX9_open_10 : decode cX9_open 10 = .ok (.iload_n 1, 1) := by decide +kernel
theorem dX9_open_11 : decode cX9_open 11 = .ok (.invokestatic 22, 3) := by decide +kernel
theorem dX9_open_14 : decode cX9_open 14 = .ok (.putfield 28, 3) := by decide +kernel
theorem dX9_open_17 : decode cX9_open 17 = .ok (.return_, 1) := by decide +kernel
theorem dX9_isDone_0 : decode cX9_isDone 0 = .ok (.aload_n 0, 1) := by decide +kernel
theorem dX9_isDone_1 : decode cX9_isDone 1 = .ok (.getfield 19, 3) := by decide +kernel
theorem dX9_isDone_4 : decode cX9_isDone 4 = .ok (.aload_n 0, 1) := by decide +kernel
theorem dX9_isDone_5 : decode cX9_isDone 5 = .ok (.getfield 15, 3) := by decide +kernel
theorem dX9_isDone_8 : decode cX9_isDone 8 = .ok (.if_icmp .ne 7, 3) := by decide +kernel
theorem dX9_isDone_11 : decode cX9_isDone 11 = .ok (.iconst 1, 1) := by decide +kernel
theorem dX9_isDone_12 : decode cX9_isDone 12 = .ok (.goto 4, 3) := by decide +kernel
theorem dX9_isDone_15 : decode cX9_isDone 15 = .ok (.iconst 0, 1) := by decide +kernel
theorem dX9_isDone_16 : decode cX9_isDone 16 = .ok (.ireturn, 1) := by decide +kernel
theorem dX9_fault_0 : decode cX9_fault 0 = .ok (.iconst (-1), 1) := by decide +kernel
theorem dX9_fault_1 : decode cX9_fault 1 = .ok (.aload_n 0, 1) := by decide +kernel
theorem dX9_fault_2 : decode cX9_fault 2 = .ok (.getfield 19, 3) := by decide +kernel
theorem dX9_fault_5 : decode cX9_fault 5 = .ok (.isub, 1) := by decide +kernel
theorem dX9_fault_6 : decode cX9_fault 6 = .ok (.ireturn, 1) := by decide +kernel
theorem dX9_take_0 : decode cX9_take 0 = .ok (.aload_n 0, 1) := by decide +kernel
theorem dX9_take_1 : decode cX9_take 1 = .ok (.getfield 19, 3) := by decide +kernel
theorem dX9_take_4 : decode cX9_take 4 = .ok (.aload_n 0, 1) := by decide +kernel
theorem dX9_take_5 : decode cX9_take 5 = .ok (.getfield 28, 3) := by decide +kernel
theorem dX9_take_8 : decode cX9_take 8 = .ok (.if_icmp .ge 16, 3) := by decide +kernel
theorem dX9_take_11 : decode cX9_take 11 = .ok (.aload_n 0, 1) := by decide +kernel
theorem dX9_take_12 : decode cX9_take 12 = .ok (.getfield 9, 3) := by decide +kernel
theorem dX9_take_15 : decode cX9_take 15 = .ok (.aload_n 0, 1) := by decide +kernel
theorem dX9_take_16 : decode cX9_take 16 = .ok (.getfield 19, 3) := by decide +kernel
theorem dX9_take_19 : decode cX9_take 19 = .ok (.caload, 1) := by decide +kernel
theorem dX9_take_20 : decode cX9_take 20 = .ok (.iload_n 1, 1) := by decide +kernel
theorem dX9_take_21 : decode cX9_take 21 = .ok (.if_icmp .eq 5, 3) := by decide +kernel
theorem dX9_take_24 : decode cX9_take 24 = .ok (.iconst 0, 1) := by decide +kernel
theorem dX9_take_25 : decode cX9_take 25 = .ok (.ireturn, 1) := by decide +kernel
theorem dX9_take_26 : decode cX9_take 26 = .ok (.aload_n 0, 1) := by decide +kernel
theorem dX9_take_27 : decode cX9_take 27 = .ok (.dup, 1) := by decide +kernel
theorem dX9_take_28 : decode cX9_take 28 = .ok (.getfield 19, 3) := by decide +kernel
theorem dX9_take_31 : decode cX9_take 31 = .ok (.iconst 1, 1) := by decide +kernel
theorem dX9_take_32 : decode cX9_take 32 = .ok (.iadd, 1) := by decide +kernel
theorem dX9_take_33 : decode cX9_take 33 = .ok (.putfield 19, 3) := by decide +kernel
theorem dX9_take_36 : decode cX9_take 36 = .ok (.iconst 1, 1) := by decide +kernel
theorem dX9_take_37 : decode cX9_take 37 = .ok (.ireturn, 1) := by decide +kernel
theorem dX9_oneOf_0 : decode cX9_oneOf 0 = .ok (.aload_n 0, 1) := by decide +kernel
theorem dX9_oneOf_1 : decode cX9_oneOf 1 = .ok (.getfield 19, 3) := by decide +kernel
theorem dX9_oneOf_4 : decode cX9_oneOf 4 = .ok (.aload_n 0, 1) := by decide +kernel
theorem dX9_oneOf_5 : decode cX9_oneOf 5 = .ok (.getfield 28, 3) := by decide +kernel
theorem dX9_oneOf_8 : decode cX9_oneOf 8 = .ok (.if_icmp .ge 19, 3) := by decide +kernel
theorem dX9_oneOf_11 : decode cX9_oneOf 11 = .ok (.aload_n 1, 1) := by decide +kernel
theorem dX9_oneOf_12 : decode cX9_oneOf 12 = .ok (.aload_n 0, 1) := by decide +kernel
theorem dX9_oneOf_13 : decode cX9_oneOf 13 = .ok (.getfield 9, 3) := by decide +kernel
theorem dX9_oneOf_16 : decode cX9_oneOf 16 = .ok (.aload_n 0, 1) := by decide +kernel
theorem dX9_oneOf_17 : decode cX9_oneOf 17 = .ok (.getfield 19, 3) := by decide +kernel
theorem dX9_oneOf_20 : decode cX9_oneOf 20 = .ok (.caload, 1) := by decide +kernel
theorem dX9_oneOf_21 : decode cX9_oneOf 21 = .ok (.invokevirtual 31, 3) := by decide +kernel
theorem dX9_oneOf_24 : decode cX9_oneOf 24 = .ok (.goto 4, 3) := by decide +kernel
theorem dX9_oneOf_27 : decode cX9_oneOf 27 = .ok (.iconst (-1), 1) := by decide +kernel
theorem dX9_oneOf_28 : decode cX9_oneOf 28 = .ok (.istore_n 2, 1) := by decide +kernel
theorem dX9_oneOf_29 : decode cX9_oneOf 29 = .ok (.iload_n 2, 1) := by decide +kernel
theorem dX9_oneOf_30 : decode cX9_oneOf 30 = .ok (.ifCond .lt 13, 3) := by decide +kernel
theorem dX9_oneOf_33 : decode cX9_oneOf 33 = .ok (.aload_n 0, 1) := by decide +kernel
theorem dX9_oneOf_34 : decode cX9_oneOf 34 = .ok (.dup, 1) := by decide +kernel
theorem dX9_oneOf_35 : decode cX9_oneOf 35 = .ok (.getfield 19, 3) := by decide +kernel
theorem dX9_oneOf_38 : decode cX9_oneOf 38 = .ok (.iconst 1, 1) := by decide +kernel
theorem dX9_oneOf_39 : decode cX9_oneOf 39 = .ok (.iadd, 1) := by decide +kernel
theorem dX9_oneOf_40 : decode cX9_oneOf 40 = .ok (.putfield 19, 3) := by decide +kernel
theorem dX9_oneOf_43 : decode cX9_oneOf 43 = .ok (.iload_n 2, 1) := by decide +kernel
theorem dX9_oneOf_44 : decode cX9_oneOf 44 = .ok (.ireturn, 1) := by decide +kernel
theorem dX9_digit_0 : decode cX9_digit 0 = .ok (.aload_n 0, 1) := by decide +kernel
theorem dX9_digit_1 : decode cX9_digit 1 = .ok (.getfield 19, 3) := by decide +kernel
theorem dX9_digit_4 : decode cX9_digit 4 = .ok (.aload_n 0, 1) := by decide +kernel
theorem dX9_digit_5 : decode cX9_digit 5 = .ok (.getfield 28, 3) := by decide +kernel
theorem dX9_digit_8 : decode cX9_digit 8 = .ok (.if_icmp .ge 35, 3) := by decide +kernel
theorem dX9_digit_11 : decode cX9_digit 11 = .ok (.aload_n 0, 1) := by decide +kernel
theorem dX9_digit_12 : decode cX9_digit 12 = .ok (.getfield 9, 3) := by decide +kernel
theorem dX9_digit_15 : decode cX9_digit 15 = .ok (.aload_n 0, 1) := by decide +kernel
theorem dX9_digit_16 : decode cX9_digit 16 = .ok (.getfield 19, 3) := by decide +kernel
theorem dX9_digit_19 : decode cX9_digit 19 = .ok (.caload, 1) := by decide +kernel
theorem dX9_digit_20 : decode cX9_digit 20 = .ok (.bipush 48, 2) := by decide +kernel
theorem dX9_digit_22 : decode cX9_digit 22 = .ok (.isub, 1) := by decide +kernel
theorem dX9_digit_23 : decode cX9_digit 23 = .ok (.iload_n 1, 1) := by decide +kernel
theorem dX9_digit_24 : decode cX9_digit 24 = .ok (.if_icmp .lt 19, 3) := by decide +kernel
theorem dX9_digit_27 : decode cX9_digit 27 = .ok (.aload_n 0, 1) := by decide +kernel
theorem dX9_digit_28 : decode cX9_digit 28 = .ok (.getfield 9, 3) := by decide +kernel
theorem dX9_digit_31 : decode cX9_digit 31 = .ok (.aload_n 0, 1) := by decide +kernel
theorem dX9_digit_32 : decode cX9_digit 32 = .ok (.getfield 19, 3) := by decide +kernel
theorem dX9_digit_35 : decode cX9_digit 35 = .ok (.caload, 1) := by decide +kernel
theorem dX9_digit_36 : decode cX9_digit 36 = .ok (.bipush 48, 2) := by decide +kernel
theorem dX9_digit_38 : decode cX9_digit 38 = .ok (.isub, 1) := by decide +kernel
theorem dX9_digit_39 : decode cX9_digit 39 = .ok (.iload_n 2, 1) := by decide +kernel
theorem dX9_digit_40 : decode cX9_digit 40 = .ok (.if_icmp .le 5, 3) := by decide +kernel
theorem dX9_digit_43 : decode cX9_digit 43 = .ok (.iconst (-1), 1) := by decide +kernel
theorem dX9_digit_44 : decode cX9_digit 44 = .ok (.ireturn, 1) := by decide +kernel
theorem dX9_digit_45 : decode cX9_digit 45 = .ok (.aload_n 0, 1) := by decide +kernel
theorem dX9_digit_46 : decode cX9_digit 46 = .ok (.dup, 1) := by decide +kernel
theorem dX9_digit_47 : decode cX9_digit 47 = .ok (.getfield 19, 3) := by decide +kernel
theorem dX9_digit_50 : decode cX9_digit 50 = .ok (.iconst 1, 1) := by decide +kernel
theorem dX9_digit_51 : decode cX9_digit 51 = .ok (.iadd, 1) := by decide +kernel
theorem dX9_digit_52 : decode cX9_digit 52 = .ok (.putfield 19, 3) := by decide +kernel
theorem dX9_digit_55 : decode cX9_digit 55 = .ok (.aload_n 0, 1) := by decide +kernel
theorem dX9_digit_56 : decode cX9_digit 56 = .ok (.getfield 9, 3) := by decide +kernel
theorem dX9_digit_59 : decode cX9_digit 59 = .ok (.aload_n 0, 1) := by decide +kernel
theorem dX9_digit_60 : decode cX9_digit 60 = .ok (.getfield 19, 3) := by decide +kernel
theorem dX9_digit_63 : decode cX9_digit 63 = .ok (.iconst 1, 1) := by decide +kernel
theorem dX9_digit_64 : decode cX9_digit 64 = .ok (.isub, 1) := by decide +kernel
theorem dX9_digit_65 : decode cX9_digit 65 = .ok (.caload, 1) := by decide +kernel
theorem dX9_digit_66 : decode cX9_digit 66 = .ok (.bipush 48, 2) := by decide +kernel
theorem dX9_digit_68 : decode cX9_digit 68 = .ok (.isub, 1) := by decide +kernel
theorem dX9_digit_69 : decode cX9_digit 69 = .ok (.ireturn, 1) := by decide +kernel
theorem dX9_number_0 : decode cX9_number 0 = .ok (.aload_n 0, 1) := by decide +kernel
theorem dX9_number_1 : decode cX9_number 1 = .ok (.iconst 0, 1) := by decide +kernel
theorem dX9_number_2 : decode cX9_number 2 = .ok (.bipush 9, 2) := by decide +kernel
theorem dX9_number_4 : decode cX9_number 4 = .ok (.invokevirtual 37, 3) := by decide +kernel
theorem dX9_number_7 : decode cX9_number 7 = .ok (.istore_n 2, 1) := by decide +kernel
theorem dX9_number_8 : decode cX9_number 8 = .ok (.iconst 1, 1) := by decide +kernel
theorem dX9_number_9 : decode cX9_number 9 = .ok (.istore_n 3, 1) := by decide +kernel
theorem dX9_number_10 : decode cX9_number 10 = .ok (.iload_n 3, 1) := by decide +kernel
theorem dX9_number_11 : decode cX9_number 11 = .ok (.iload_n 1, 1) := by decide +kernel
theorem dX9_number_12 : decode cX9_number 12 = .ok (.if_icmp .ge 39, 3) := by decide +kernel
theorem dX9_number_15 : decode cX9_number 15 = .ok (.iload_n 2, 1) := by decide +kernel
theorem dX9_number_16 : decode cX9_number 16 = .ok (.iconst (-1), 1) := by decide +kernel
theorem dX9_number_17 : decode cX9_number 17 = .ok (.if_icmp .eq 34, 3) := by decide +kernel
theorem dX9_number_20 : decode cX9_number 20 = .ok (.aload_n 0, 1) := by decide +kernel
theorem dX9_number_21 : decode cX9_number 21 = .ok (.iconst 0, 1) := by decide +kernel
theorem dX9_number_22 : decode cX9_number 22 = .ok (.bipush 9, 2) := by decide +kernel
theorem dX9_number_24 : decode cX9_number 24 = .ok (.invokevirtual 37, 3) := by decide +kernel
theorem dX9_number_27 : decode cX9_number 27 = .ok (.istore 4, 2) := by decide +kernel
theorem dX9_number_29 : decode cX9_number 29 = .ok (.iload 4, 2) := by decide +kernel
theorem dX9_number_31 : decode cX9_number 31 = .ok (.iconst (-1), 1) := by decide +kernel
theorem dX9_number_32 : decode cX9_number 32 = .ok (.if_icmp .ne 5, 3) := by decide +kernel
theorem dX9_number_35 : decode cX9_number 35 = .ok (.iload_n 2, 1) := by decide +kernel
theorem dX9_number_36 : decode cX9_number 36 = .ok (.ireturn, 1) := by decide +kernel
theorem dX9_number_37 : decode cX9_number 37 = .ok (.iload_n 2, 1) := by decide +kernel
theorem dX9_number_38 : decode cX9_number 38 = .ok (.bipush 10, 2) := by decide +kernel
theorem dX9_number_40 : decode cX9_number 40 = .ok (.imul, 1) := by decide +kernel
theorem dX9_number_41 : decode cX9_number 41 = .ok (.iload 4, 2) := by decide +kernel
theorem dX9_number_43 : decode cX9_number 43 = .ok (.iadd, 1) := by decide +kernel
theorem dX9_number_44 : decode cX9_number 44 = .ok (.istore_n 2, 1) := by decide +kernel
theorem dX9_number_45 : decode cX9_number 45 = .ok (.iinc 3 1, 3) := by decide +kernel
theorem dX9_number_48 : decode cX9_number 48 = .ok (.goto (-38), 3) := by decide +kernel
theorem dX9_number_51 : decode cX9_number 51 = .ok (.iload_n 2, 1) := by decide +kernel
theorem dX9_number_52 : decode cX9_number 52 = .ok (.ireturn, 1) := by decide +kernel
theorem dX10_init_0 : decode cX10_init 0 = .ok (.aload_n 0, 1) := by decide +kernel
theorem dX10_init_1 : decode cX10_init 1 = .ok (.invokespecial 3, 3) := by decide +kernel
theorem dX10_init_4 : decode cX10_init 4 = .ok (.aload_n 0, 1) := by decide +kernel
theorem dX10_init_5 : decode cX10_init 5 = .ok (.bipush 12, 2) := by decide +kernel
theorem dX10_init_7 : decode cX10_init 7 = .ok (.newarray .int, 2) := by decide +kernel
theorem dX10_init_9 : decode cX10_init 9 = .ok (.putfield 9, 3) := by decide +kernel
theorem dX10_init_12 : decode cX10_init 12 = .ok (.aload_n 0, 1) := by decide +kernel
theorem dX10_init_13 : decode cX10_init 13 = .ok (.bipush 12, 2) := by decide +kernel
theorem dX10_init_15 : decode cX10_init 15 = .ok (.newarray .int, 2) := by decide +kernel
theorem dX10_init_17 : decode cX10_init 17 = .ok (.putfield 15, 3) := by decide +kernel
theorem dX10_init_20 : decode cX10_init 20 = .ok (.aload_n 0, 1) := by decide +kernel
theorem dX10_init_21 : decode cX10_init 21 = .ok (.bipush 12, 2) := by decide +kernel
theorem dX10_init_23 : decode cX10_init 23 = .ok (.newarray .int, 2) := by decide +kernel
theorem dX10_init_25 : decode cX10_init 25 = .ok (.putfield 18, 3) := by decide +kernel
theorem dX10_init_28 : decode cX10_init 28 = .ok (.aload_n 0, 1) := by decide +kernel
theorem dX10_init_29 : decode cX10_init 29 = .ok (.bipush 12, 2) := by decide +kernel
theorem dX10_init_31 : decode cX10_init 31 = .ok (.newarray .int, 2) := by decide +kernel
theorem dX10_init_33 : decode cX10_init 33 = .ok (.putfield 21, 3) := by decide +kernel
theorem dX10_init_36 : decode cX10_init 36 = .ok (.aload_n 0, 1) := by decide +kernel
theorem dX10_init_37 : decode cX10_init 37 = .ok (.bipush 6, 2) := by decide +kernel
theorem dX10_init_39 : decode cX10_init 39 = .ok (.newarray .int, 2) := by decide +kernel
theorem dX10_init_41 : decode cX10_init 41 = .ok (.dup, 1) := by decide +kernel
theorem dX10_init_42 : decode cX10_init 42 = .ok (.iconst 0, 1) := by decide +kernel
theorem dX10_init_43 : decode cX10_init 43 = .ok (.bipush 50, 2) := by decide +kernel
theorem dX10_init_45 : decode cX10_init 45 = .ok (.iastore, 1) := by decide +kernel
theorem dX10_init_46 : decode cX10_init 46 = .ok (.dup, 1) := by decide +kernel
theorem dX10_init_47 : decode cX10_init 47 = .ok (.iconst 1, 1) := by decide +kernel
theorem dX10_init_48 : decode cX10_init 48 = .ok (.bipush 30, 2) := by decide +kernel
theorem dX10_init_50 : decode cX10_init 50 = .ok (.iastore, 1) := by decide +kernel
theorem dX10_init_51 : decode cX10_init 51 = .ok (.dup, 1) := by decide +kernel
theorem dX10_init_52 : decode cX10_init 52 = .ok (.iconst 2, 1) := by decide +kernel
theorem dX10_init_53 : decode cX10_init 53 = .ok (.bipush 20, 2) := by decide +kernel
theorem dX10_init_55 : decode cX10_init 55 = .ok (.iastore, 1) := by decide +kernel
theorem dX10_init_56 : decode cX10_init 56 = .ok (.dup, 1) := by decide +kernel
theorem dX10_init_57 : decode cX10_init 57 = .ok (.iconst 3, 1) := by decide +kernel
theorem dX10_init_58 : decode cX10_init 58 = .ok (.bipush 10, 2) := by decide +kernel
theorem dX10_init_60 : decode cX10_init 60 = .ok (.iastore, 1) := by decide +kernel
theorem dX10_init_61 : decode cX10_init 61 = .ok (.dup, 1) := by decide +kernel
theorem dX10_init_62 : decode cX10_init 62 = .ok (.iconst 4, 1) := by decide +kernel
theorem dX10_init_63 : decode cX10_init 63 = .ok (.iconst 5, 1) := by decide +kernel
theorem dX10_init_64 : decode cX10_init 64 = .ok (.iastore, 1) := by decide +kernel
theorem dX10_init_65 : decode cX10_init 65 = .ok (.dup, 1) := by decide +kernel
theorem dX10_init_66 : decode cX10_init 66 = .ok (.iconst 5, 1) := by decide +kernel
theorem dX10_init_67 : decode cX10_init 67 = .ok (.iconst 5, 1) := by decide +kernel
theorem dX10_init_68 : decode cX10_init 68 = .ok (.iastore, 1) := by decide +kernel
theorem dX10_init_69 : decode cX10_init 69 = .ok (.putfield 24, 3) := by decide +kernel
theorem dX10_init_72 : decode cX10_init 72 = .ok (.aload_n 0, 1) := by decide +kernel
theorem dX10_init_73 : decode cX10_init 73 = .ok (.bipush 6, 2) := by decide +kernel
theorem dX10_init_75 : decode cX10_init 75 = .ok (.newarray .int, 2) := by decide +kernel
theorem dX10_init_77 : decode cX10_init 77 = .ok (.putfield 27, 3) := by decide +kernel
theorem dX10_init_80 : decode cX10_init 80 = .ok (.return_, 1) := by decide +kernel
theorem dX10_readMoney_0 : decode cX10_readMoney 0 = .ok (.aload_n 1, 1) := by decide +kernel
theorem dX10_readMoney_1 : decode cX10_readMoney 1 = .ok (.bipush 80, 2) := by decide +kernel
theorem dX10_readMoney_3 : decode cX10_readMoney 3 = .ok (.invokevirtual 30, 3) := by decide +kernel
theorem dX10_readMoney_6 : decode cX10_readMoney 6 = .ok (.aload_n 0, 1) := by decide +kernel
theorem dX10_readMoney_7 : decode cX10_readMoney 7 = .ok (.getfield 27, 3) := by decide +kernel
theorem dX10_readMoney_10 : decode cX10_readMoney 10 = .ok (.iconst 0, 1) := by decide +kernel
theorem dX10_readMoney_11 : decode cX10_readMoney 11 = .ok (.invokestatic 36, 3) := by decide +kernel
theorem dX10_readMoney_14 : decode cX10_readMoney 14 = .ok (.iconst 0, 1) := by decide +kernel
theorem dX10_readMoney_15 : decode cX10_readMoney 15 = .ok (.istore_n 2, 1) := by decide +kernel
theorem dX10_readMoney_16 : decode cX10_readMoney 16 = .ok (.iload_n 2, 1) := by decide +kernel
theorem dX10_readMoney_17 : decode cX10_readMoney 17 = .ok (.bipush 6, 2) := by decide +kernel
theorem dX10_readMoney_19 : decode cX10_readMoney 19 = .ok (.if_icmp .ge 75, 3) := by decide +kernel
theorem dX10_readMoney_22 : decode cX10_readMoney 22 = .ok (.aload_n 0, 1) := by decide +kernel
theorem dX10_readMoney_23 : decode cX10_readMoney 23 = .ok (.getfield 27, 3) := by decide +kernel
theorem dX10_readMoney_26 : decode cX10_readMoney 26 = .ok (.iload_n 2, 1) := by decide +kernel
theorem dX10_readMoney_27 : decode cX10_readMoney 27 = .ok (.aload_n 1, 1) := by decide +kernel
theorem dX10_readMoney_28 : decode cX10_readMoney 28 = .ok (.iconst 2, 1) := by decide +kernel
theorem dX10_readMoney_29 : decode cX10_readMoney 29 = .ok (.invokevirtual 42, 3) := by decide +kernel
theorem dX10_readMoney_32 : decode cX10_readMoney 32 = .ok (.iastore, 1) := by decide +kernel
theorem dX10_readMoney_33 : decode cX10_readMoney 33 = .ok (.aload_n 0, 1) := by decide +kernel
theorem dX10_readMoney_34 : decode cX10_readMoney 34 = .ok (.getfield 27, 3) := by decide +kernel
theorem dX10_readMoney_37 : decode cX10_readMoney 37 = .ok (.iload_n 2, 1) := by decide +kernel
theorem dX10_readMoney_38 : decode cX10_readMoney 38 = .ok (.iaload, 1) := by decide +kernel
theorem dX10_readMoney_39 : decode cX10_readMoney 39 = .ok (.iconst (-1), 1) := by decide +kernel
theorem dX10_readMoney_40 : decode cX10_readMoney 40 = .ok (.if_icmp .ne 8, 3) := by decide +kernel
theorem dX10_readMoney_43 : decode cX10_readMoney 43 = .ok (.aload_n 1, 1) := by decide +kernel
theorem dX10_readMoney_44 : decode cX10_readMoney 44 = .ok (.invokevirtual 46, 3) := by decide +kernel
theorem dX10_readMoney_47 : decode cX10_readMoney 47 = .ok (.ireturn, 1) := by decide +kernel
theorem dX10_readMoney_48 : decode cX10_readMoney 48 = .ok (.aload_n 1, 1) := by decide +kernel
theorem dX10_readMoney_49 : decode cX10_readMoney 49 = .ok (.invokevirtual 50, 3) := by decide +kernel
theorem dX10_readMoney_52 : decode cX10_readMoney 52 = .ok (.ifCond .eq 22, 3) := by decide +kernel
theorem dX10_readMoney_55 : decode cX10_readMoney 55 = .ok (.aload_n 0, 1) := by decide +kernel
theorem dX10_readMoney_56 : decode cX10_readMoney 56 = .ok (.getfield 27, 3) := by decide +kernel
theorem dX10_readMoney_59 : decode cX10_readMoney 59 = .ok (.iconst 0, 1) := by decide +kernel
theorem dX10_readMoney_60 : decode cX10_readMoney 60 = .ok (.aload_n 0, 1) := by decide +kernel
theorem dX10_readMoney_61 : decode cX10_readMoney 61 = .ok (.getfield 24, 3) := by decide +kernel
theorem dX10_readMoney_64 : decode cX10_readMoney 64 = .ok (.iconst 0, 1) := by decide +kernel
theorem dX10_readMoney_65 : decode cX10_readMoney 65 = .ok (.bipush 6, 2) := by decide +kernel
theorem dX10_readMoney_67 : decode cX10_readMoney 67 = .ok (.invokestatic 54, 3) := by decide +kernel
theorem dX10_readMoney_70 : decode cX10_readMoney 70 = .ok (.iload_n 2, 1) := by decide +kernel
theorem dX10_readMoney_71 : decode cX10_readMoney 71 = .ok (.iconst 1, 1) := by decide +kernel
theorem dX10_readMoney_72 : decode cX10_readMoney 72 = .ok (.iadd, 1) := by decide +kernel
theorem dX10_readMoney_73 : decode cX10_readMoney 73 = .ok (.ireturn, 1) := by decide +kernel
theorem dX10_readMoney_74 : decode cX10_readMoney 74 = .ok (.aload_n 1, 1) := by decide +kernel
theorem dX10_readMoney_75 : decode cX10_readMoney 75 = .ok (.bipush 44, 2) := by decide +kernel
theorem dX10_readMoney_77 : decode cX10_readMoney 77 = .ok (.invokevirtual 60, 3) := by decide +kernel
theorem dX10_readMoney_80 : decode cX10_readMoney 80 = .ok (.ifCond .ne 8, 3) := by decide +kernel
theorem dX10_readMoney_83 : decode cX10_readMoney 83 = .ok (.aload_n 1, 1) := by decide +kernel
theorem dX10_readMoney_84 : decode cX10_readMoney 84 = .ok (.invokevirtual 46, 3) := by decide +kernel
theorem dX10_readMoney_87 : decode cX10_readMoney 87 = .ok (.ireturn, 1) := by decide +kernel
theorem dX10_readMoney_88 : decode cX10_readMoney 88 = .ok (.iinc 2 1, 3) := by decide +kernel
theorem dX10_readMoney_91 : decode cX10_readMoney 91 = .ok (.goto (-75), 3) := by decide +kernel
theorem dX10_readMoney_94 : decode cX10_readMoney 94 = .ok (.aload_n 1, 1) := by decide +kernel
theorem dX10_readMoney_95 : decode cX10_readMoney 95 = .ok (.invokevirtual 46, 3) := by decide +kernel
theorem dX10_readMoney_98 : decode cX10_readMoney 98 = .ok (.ireturn, 1) := by decide +kernel
theorem dX10_moneyAt_0 : decode cX10_moneyAt 0 = .ok (.iload_n 1, 1) := by decide +kernel
theorem dX10_moneyAt_1 : decode cX10_moneyAt 1 = .ok (.iconst 1, 1) := by decide +kernel
theorem dX10_moneyAt_2 : decode cX10_moneyAt 2 = .ok (.if_icmp .lt 20, 3) := by decide +kernel
theorem dX10_moneyAt_5 : decode cX10_moneyAt 5 = .ok (.iload_n 1, 1) := by decide +kernel
theorem dX10_moneyAt_6 : decode cX10_moneyAt 6 = .ok (.bipush 6, 2) := by decide +kernel
theorem dX10_moneyAt_8 : decode cX10_moneyAt 8 = .ok (.if_icmp .gt 14, 3) := by decide +kernel
theorem dX10_moneyAt_11 : decode cX10_moneyAt 11 = .ok (.aload_n 0, 1) := by decide +kernel
theorem dX10_moneyAt_12 : decode cX10_moneyAt 12 = .ok (.getfield 24, 3) := by decide +kernel
theorem dX10_moneyAt_15 : decode cX10_moneyAt 15 = .ok (.iload_n 1, 1) := by decide +kernel
theorem dX10_moneyAt_16 : decode cX10_moneyAt 16 = .ok (.iconst 1, 1) := by decide +kernel
theorem dX10_moneyAt_17 : decode cX10_moneyAt 17 = .ok (.isub, 1) := by decide +kernel
theorem dX10_moneyAt_18 : decode cX10_moneyAt 18 = .ok (.iaload, 1) := by decide +kernel
theorem dX10_moneyAt_19 : decode cX10_moneyAt 19 = .ok (.goto 4, 3) := by decide +kernel
theorem dX10_moneyAt_22 : decode cX10_moneyAt 22 = .ok (.iconst 0, 1) := by decide +kernel
theorem dX10_moneyAt_23 : decode cX10_moneyAt 23 = .ok (.ireturn, 1) := by decide +kernel
theorem dX10_moneyInAll_0 : decode cX10_moneyInAll 0 = .ok (.iconst 0, 1) := by decide +kernel
theorem dX10_moneyInAll_1 : decode cX10_moneyInAll 1 = .ok (.istore_n 1, 1) := by decide +kernel
theorem dX10_moneyInAll_2 : decode cX10_moneyInAll 2 = .ok (.iconst 0, 1) := by decide +kernel
theorem dX10_moneyInAll_3 : decode cX10_moneyInAll 3 = .ok (.istore_n 2, 1) := by decide +kernel
theorem dX10_moneyInAll_4 : decode cX10_moneyInAll 4 = .ok (.iload_n 2, 1) := by decide +kernel
theorem dX10_moneyInAll_5 : decode cX10_moneyInAll 5 = .ok (.bipush 6, 2) := by decide +kernel
theorem dX10_moneyInAll_7 : decode cX10_moneyInAll 7 = .ok (.if_icmp .ge 18, 3) := by decide +kernel
theorem dX10_moneyInAll_10 : decode cX10_moneyInAll 10 = .ok (.iload_n 1, 1) := by decide +kernel
theorem dX10_moneyInAll_11 : decode cX10_moneyInAll 11 = .ok (.aload_n 0, 1) := by decide +kernel
theorem dX10_moneyInAll_12 : decode cX10_moneyInAll 12 = .ok (.getfield 24, 3) := by decide +kernel
theorem dX10_moneyInAll_15 : decode cX10_moneyInAll 15 = .ok (.iload_n 2, 1) := by decide +kernel
theorem dX10_moneyInAll_16 : decode cX10_moneyInAll 16 = .ok (.iaload, 1) := by decide +kernel
theorem dX10_moneyInAll_17 : decode cX10_moneyInAll 17 = .ok (.iadd, 1) := by decide +kernel
theorem dX10_moneyInAll_18 : decode cX10_moneyInAll 18 = .ok (.istore_n 1, 1) := by decide +kernel
theorem dX10_moneyInAll_19 : decode cX10_moneyInAll 19 = .ok (.iinc 2 1, 3) := by decide +kernel
theorem dX10_moneyInAll_22 : decode cX10_moneyInAll 22 = .ok (.goto (-18), 3) := by decide +kernel
theorem dX10_moneyInAll_25 : decode cX10_moneyInAll 25 = .ok (.iload_n 1, 1) := by decide +kernel
theorem dX10_moneyInAll_26 : decode cX10_moneyInAll 26 = .ok (.ireturn, 1) := by decide +kernel
theorem dX10_isFull_0 : decode cX10_isFull 0 = .ok (.aload_n 0, 1) := by decide +kernel
theorem dX10_isFull_1 : decode cX10_isFull 1 = .ok (.getfield 64, 3) := by decide +kernel
theorem dX10_isFull_4 : decode cX10_isFull 4 = .ok (.bipush 12, 2) := by decide +kernel
theorem dX10_isFull_6 : decode cX10_isFull 6 = .ok (.if_icmp .lt 7, 3) := by decide +kernel
theorem dX10_isFull_9 : decode cX10_isFull 9 = .ok (.iconst 1, 1) := by decide +kernel
theorem dX10_isFull_10 : decode cX10_isFull 10 = .ok (.goto 4, 3) := by decide +kernel
theorem dX10_isFull_13 : decode cX10_isFull 13 = .ok (.iconst 0, 1) := by decide +kernel
theorem dX10_isFull_14 : decode cX10_isFull 14 = .ok (.ireturn, 1) := by decide +kernel
theorem dX10_add_0 : decode cX10_add 0 = .ok (.aload_n 0, 1) := by decide +kernel
theorem dX10_add_1 : decode cX10_add 1 = .ok (.invokevirtual 68, 3) := by decide +kernel
theorem dX10_add_4 : decode cX10_add 4 = .ok (.ifCond .eq 4, 3) := by decide +kernel
theorem dX10_add_7 : decode cX10_add 7 = .ok (.return_, 1) := by decide +kernel
theorem dX10_add_8 : decode cX10_add 8 = .ok (.aload_n 0, 1) := by decide +kernel
theorem dX10_add_9 : decode cX10_add 9 = .ok (.getfield 9, 3) := by decide +kernel
theorem dX10_add_12 : decode cX10_add 12 = .ok (.aload_n 0, 1) := by decide +kernel
theorem dX10_add_13 : decode cX10_add 13 = .ok (.getfield 64, 3) := by decide +kernel
theorem dX10_add_16 : decode cX10_add 16 = .ok (.iload_n 1, 1) := by decide +kernel
theorem dX10_add_17 : decode cX10_add 17 = .ok (.iastore, 1) := by decide +kernel
theorem dX10_add_18 : decode cX10_add 18 = .ok (.aload_n 0, 1) := by decide +kernel
theorem dX10_add_19 : decode cX10_add 19 = .ok (.getfield 15, 3) := by decide +kernel
theorem dX10_add_22 : decode cX10_add 22 = .ok (.aload_n 0, 1) := by decide +kernel
theorem dX10_add_23 : decode cX10_add 23 = .ok (.getfield 64, 3) := by decide +kernel
theorem dX10_add_26 : decode cX10_add 26 = .ok (.iload_n 2, 1) := by decide +kernel
theorem dX10_add_27 : decode cX10_add 27 = .ok (.iastore, 1) := by decide +kernel
theorem dX10_add_28 : decode cX10_add 28 = .ok (.aload_n 0, 1) := by decide +kernel
theorem dX10_add_29 : decode cX10_add 29 = .ok (.getfield 18, 3) := by decide +kernel
theorem dX10_add_32 : decode cX10_add 32 = .ok (.aload_n 0, 1) := by decide +kernel
theorem dX10_add_33 : decode cX10_add 33 = .ok (.getfield 64, 3) := by decide +kernel
theorem dX10_add_36 : decode cX10_add 36 = .ok (.iload_n 3, 1) := by decide +kernel
theorem dX10_add_37 : decode cX10_add 37 = .ok (.iastore, 1) := by decide +kernel
theorem dX10_add_38 : decode cX10_add 38 = .ok (.aload_n 0, 1) := by decide +kernel
theorem dX10_add_39 : decode cX10_add 39 = .ok (.getfield 21, 3) := by decide +kernel
theorem dX10_add_42 : decode cX10_add 42 = .ok (.aload_n 0, 1) := by decide +kernel
theorem dX10_add_43 : decode cX10_add 43 = .ok (.getfield 64, 3) := by decide +kernel
theorem dX10_add_46 : decode cX10_add 46 = .ok (.iload 4, 2) := by decide +kernel
theorem dX10_add_48 : decode cX10_add 48 = .ok (.iastore, 1) := by decide +kernel
theorem dX10_add_49 : decode cX10_add 49 = .ok (.aload_n 0, 1) := by decide +kernel
theorem dX10_add_50 : decode cX10_add 50 = .ok (.dup, 1) := by decide +kernel
theorem dX10_add_51 : decode cX10_add 51 = .ok (.getfield 64, 3) := by decide +kernel
theorem dX10_add_54 : decode cX10_add 54 = .ok (.iconst 1, 1) := by decide +kernel
theorem dX10_add_55 : decode cX10_add 55 = .ok (.iadd, 1) := by decide +kernel
theorem dX10_add_56 : decode cX10_add 56 = .ok (.putfield 64, 3) := by decide +kernel
theorem dX10_add_59 : decode cX10_add 59 = .ok (.return_, 1) := by decide +kernel
theorem dX10_strike_0 : decode cX10_strike 0 = .ok (.aload_n 0, 1) := by decide +kernel
theorem dX10_strike_1 : decode cX10_strike 1 = .ok (.getfield 64, 3) := by decide +kernel
theorem dX10_strike_4 : decode cX10_strike 4 = .ok (.ifCond .ne 5, 3) := by decide +kernel
theorem dX10_strike_7 : decode cX10_strike 7 = .ok (.iconst 0, 1) := by decide +kernel
theorem dX10_strike_8 : decode cX10_strike 8 = .ok (.ireturn, 1) := by decide +kernel
theorem dX10_strike_9 : decode cX10_strike 9 = .ok (.aload_n 0, 1) := by decide +kernel
theorem dX10_strike_10 : decode cX10_strike 10 = .ok (.dup, 1) := by decide +kernel
theorem dX10_strike_11 : decode cX10_strike 11 = .ok (.getfield 64, 3) := by decide +kernel
theorem dX10_strike_14 : decode cX10_strike 14 = .ok (.iconst 1, 1) := by decide +kernel
theorem dX10_strike_15 : decode cX10_strike 15 = .ok (.isub, 1) := by decide +kernel
theorem dX10_strike_16 : decode cX10_strike 16 = .ok (.putfield 64, 3) := by decide +kernel
theorem dX10_strike_19 : decode cX10_strike 19 = .ok (.iconst 1, 1) := by decide +kernel
theorem dX10_strike_20 : decode cX10_strike 20 = .ok (.ireturn, 1) := by decide +kernel
theorem dX10_placeFor_0 : decode cX10_placeFor 0 = .ok (.iconst 1, 1) := by decide +kernel
theorem dX10_placeFor_1 : decode cX10_placeFor 1 = .ok (.istore_n 3, 1) := by decide +kernel
theorem dX10_placeFor_2 : decode cX10_placeFor 2 = .ok (.iconst 0, 1) := by decide +kernel
theorem dX10_placeFor_3 : decode cX10_placeFor 3 = .ok (.istore 4, 2) := by decide +kernel
theorem dX10_placeFor_5 : decode cX10_placeFor 5 = .ok (.iload 4, 2) := by decide +kernel
theorem dX10_placeFor_7 : decode cX10_placeFor 7 = .ok (.aload_n 0, 1) := by decide +kernel
theorem dX10_placeFor_8 : decode cX10_placeFor 8 = .ok (.getfield 64, 3) := by decide +kernel
theorem dX10_placeFor_11 : decode cX10_placeFor 11 = .ok (.if_icmp .ge 62, 3) := by decide +kernel
theorem dX10_placeFor_14 : decode cX10_placeFor 14 = .ok (.aload_n 0, 1) := by decide +kernel
theorem dX10_placeFor_15 : decode cX10_placeFor 15 = .ok (.getfield 18, 3) := by decide +kernel
theorem dX10_placeFor_18 : decode cX10_placeFor 18 = .ok (.iload 4, 2) := by decide +kernel
theorem dX10_placeFor_20 : decode cX10_placeFor 20 = .ok (.iaload, 1) := by decide +kernel
theorem dX10_placeFor_21 : decode cX10_placeFor 21 = .ok (.iload_n 1, 1) := by decide +kernel
theorem dX10_placeFor_22 : decode cX10_placeFor 22 = .ok (.if_icmp .lt 25, 3) := by decide +kernel
theorem dX10_placeFor_25 : decode cX10_placeFor 25 = .ok (.aload_n 0, 1) := by decide +kernel
theorem dX10_placeFor_26 : decode cX10_placeFor 26 = .ok (.getfield 18, 3) := by decide +kernel
theorem dX10_placeFor_29 : decode cX10_placeFor 29 = .ok (.iload 4, 2) := by decide +kernel
theorem dX10_placeFor_31 : decode cX10_placeFor 31 = .ok (.iaload, 1) := by decide +kernel
theorem dX10_placeFor_32 : decode cX10_placeFor 32 = .ok (.iload_n 1, 1) := by decide +kernel
theorem dX10_placeFor_33 : decode cX10_placeFor 33 = .ok (.if_icmp .ne 18, 3) := by decide +kernel
theorem dX10_placeFor_36 : decode cX10_placeFor 36 = .ok (.aload_n 0, 1) := by decide +kernel
theorem dX10_placeFor_37 : decode cX10_placeFor 37 = .ok (.getfield 21, 3) := by decide +kernel
theorem dX10_placeFor_40 : decode cX10_placeFor 40 = .ok (.iload 4, 2) := by decide +kernel
theorem dX10_placeFor_42 : decode cX10_placeFor 42 = .ok (.iaload, 1) := by decide +kernel
theorem dX10_placeFor_43 : decode cX10_placeFor 43 = .ok (.iload_n 2, 1) := by decide +kernel
theorem dX10_placeFor_44 : decode cX10_placeFor 44 = .ok (.if_icmp .gt 7, 3) := by decide +kernel
theorem dX10_placeFor_47 : decode cX10_placeFor 47 = .ok (.iconst 1, 1) := by decide +kernel
theorem dX10_placeFor_48 : decode cX10_placeFor 48 = .ok (.goto 4, 3) := by decide +kernel
theorem dX10_placeFor_51 : decode cX10_placeFor 51 = .ok (.iconst 0, 1) := by decide +kernel
theorem dX10_placeFor_52 : decode cX10_placeFor 52 = .ok (.istore 5, 2) := by decide +kernel
theorem dX10_placeFor_54 : decode cX10_placeFor 54 = .ok (.iload_n 3, 1) := by decide +kernel
theorem dX10_placeFor_55 : decode cX10_placeFor 55 = .ok (.iload 5, 2) := by decide +kernel
theorem dX10_placeFor_57 : decode cX10_placeFor 57 = .ok (.ifCond .eq 7, 3) := by decide +kernel
theorem dX10_placeFor_60 : decode cX10_placeFor 60 = .ok (.iconst 1, 1) := by decide +kernel
theorem dX10_placeFor_61 : decode cX10_placeFor 61 = .ok (.goto 4, 3) := by decide +kernel
theorem dX10_placeFor_64 : decode cX10_placeFor 64 = .ok (.iconst 0, 1) := by decide +kernel
theorem dX10_placeFor_65 : decode cX10_placeFor 65 = .ok (.iadd, 1) := by decide +kernel
theorem dX10_placeFor_66 : decode cX10_placeFor 66 = .ok (.istore_n 3, 1) := by decide +kernel
theorem dX10_placeFor_67 : decode cX10_placeFor 67 = .ok (.iinc 4 1, 3) := by decide +kernel
theorem dX10_placeFor_70 : decode cX10_placeFor 70 = .ok (.goto (-65), 3) := by decide +kernel
theorem dX10_placeFor_73 : decode cX10_placeFor 73 = .ok (.iload_n 3, 1) := by decide +kernel
theorem dX10_placeFor_74 : decode cX10_placeFor 74 = .ok (.ireturn, 1) := by decide +kernel
theorem dX10_placeOf_0 : decode cX10_placeOf 0 = .ok (.iconst 1, 1) := by decide +kernel
theorem dX10_placeOf_1 : decode cX10_placeOf 1 = .ok (.istore_n 3, 1) := by decide +kernel
theorem dX10_placeOf_2 : decode cX10_placeOf 2 = .ok (.iconst 0, 1) := by decide +kernel
theorem dX10_placeOf_3 : decode cX10_placeOf 3 = .ok (.istore 4, 2) := by decide +kernel
theorem dX10_placeOf_5 : decode cX10_placeOf 5 = .ok (.iload 4, 2) := by decide +kernel
theorem dX10_placeOf_7 : decode cX10_placeOf 7 = .ok (.aload_n 0, 1) := by decide +kernel
theorem dX10_placeOf_8 : decode cX10_placeOf 8 = .ok (.getfield 64, 3) := by decide +kernel
theorem dX10_placeOf_11 : decode cX10_placeOf 11 = .ok (.if_icmp .ge 97, 3) := by decide +kernel
theorem dX10_placeOf_14 : decode cX10_placeOf 14 = .ok (.aload_n 2, 1) := by decide +kernel
theorem dX10_placeOf_15 : decode cX10_placeOf 15 = .ok (.iload 4, 2) := by decide +kernel
theorem dX10_placeOf_17 : decode cX10_placeOf 17 = .ok (.iaload, 1) := by decide +kernel
theorem dX10_placeOf_18 : decode cX10_placeOf 18 = .ok (.aload_n 2, 1) := by decide +kernel
theorem dX10_placeOf_19 : decode cX10_placeOf 19 = .ok (.iload_n 1, 1) := by decide +kernel
theorem dX10_placeOf_20 : decode cX10_placeOf 20 = .ok (.iaload, 1) := by decide +kernel
theorem dX10_placeOf_21 : decode cX10_placeOf 21 = .ok (.if_icmp .eq 24, 3) := by decide +kernel
theorem dX10_placeOf_24 : decode cX10_placeOf 24 = .ok (.iload_n 3, 1) := by decide +kernel
theorem dX10_placeOf_25 : decode cX10_placeOf 25 = .ok (.aload_n 2, 1) := by decide +kernel
theorem dX10_placeOf_26 : decode cX10_placeOf 26 = .ok (.iload 4, 2) := by decide +kernel
theorem dX10_placeOf_28 : decode cX10_placeOf 28 = .ok (.iaload, 1) := by decide +kernel
theorem dX10_placeOf_29 : decode cX10_placeOf 29 = .ok (.aload_n 2, 1) := by decide +kernel
theorem dX10_placeOf_30 : decode cX10_placeOf 30 = .ok (.iload_n 1, 1) := by decide +kernel
theorem dX10_placeOf_31 : decode cX10_placeOf 31 = .ok (.iaload, 1) := by decide +kernel
theorem dX10_placeOf_32 : decode cX10_placeOf 32 = .ok (.if_icmp .ge 7, 3) := by decide +kernel
theorem dX10_placeOf_35 : decode cX10_placeOf 35 = .ok (.iconst 1, 1) := by decide +kernel
theorem dX10_placeOf_36 : decode cX10_placeOf 36 = .ok (.goto 4, 3) := by decide +kernel
theorem dX10_placeOf_39 : decode cX10_placeOf 39 = .ok (.iconst 0, 1) := by decide +kernel
theorem dX10_placeOf_40 : decode cX10_placeOf 40 = .ok (.iadd, 1) := by decide +kernel
theorem dX10_placeOf_41 : decode cX10_placeOf 41 = .ok (.istore_n 3, 1) := by decide +kernel
theorem dX10_placeOf_42 : decode cX10_placeOf 42 = .ok (.goto 60, 3) := by decide +kernel
theorem dX10_placeOf_45 : decode cX10_placeOf 45 = .ok (.aload_n 0, 1) := by decide +kernel
theorem dX10_placeOf_46 : decode cX10_placeOf 46 = .ok (.getfield 21, 3) := by decide +kernel
theorem dX10_placeOf_49 : decode cX10_placeOf 49 = .ok (.iload 4, 2) := by decide +kernel
theorem dX10_placeOf_51 : decode cX10_placeOf 51 = .ok (.iaload, 1) := by decide +kernel
theorem dX10_placeOf_52 : decode cX10_placeOf 52 = .ok (.aload_n 0, 1) := by decide +kernel
theorem dX10_placeOf_53 : decode cX10_placeOf 53 = .ok (.getfield 21, 3) := by decide +kernel
theorem dX10_placeOf_56 : decode cX10_placeOf 56 = .ok (.iload_n 1, 1) := by decide +kernel
theorem dX10_placeOf_57 : decode cX10_placeOf 57 = .ok (.iaload, 1) := by decide +kernel
theorem dX10_placeOf_58 : decode cX10_placeOf 58 = .ok (.if_icmp .eq 30, 3) := by decide +kernel
theorem dX10_placeOf_61 : decode cX10_placeOf 61 = .ok (.iload_n 3, 1) := by decide +kernel
theorem dX10_placeOf_62 : decode cX10_placeOf 62 = .ok (.aload_n 0, 1) := by decide +kernel
theorem dX10_placeOf_63 : decode cX10_placeOf 63 = .ok (.getfield 21, 3) := by decide +kernel
theorem dX10_placeOf_66 : decode cX10_placeOf 66 = .ok (.iload 4, 2) := by decide +kernel
theorem dX10_placeOf_68 : decode cX10_placeOf 68 = .ok (.iaload, 1) := by decide +kernel
theorem dX10_placeOf_69 : decode cX10_placeOf 69 = .ok (.aload_n 0, 1) := by decide +kernel
theorem dX10_placeOf_70 : decode cX10_placeOf 70 = .ok (.getfield 21, 3) := by decide +kernel
theorem dX10_placeOf_73 : decode cX10_placeOf 73 = .ok (.iload_n 1, 1) := by decide +kernel
theorem dX10_placeOf_74 : decode cX10_placeOf 74 = .ok (.iaload, 1) := by decide +kernel
theorem dX10_placeOf_75 : decode cX10_placeOf 75 = .ok (.if_icmp .ge 7, 3) := by decide +kernel
theorem dX10_placeOf_78 : decode cX10_placeOf 78 = .ok (.iconst 1, 1) := by decide +kernel
theorem dX10_placeOf_79 : decode cX10_placeOf 79 = .ok (.goto 4, 3) := by decide +kernel
theorem dX10_placeOf_82 : decode cX10_placeOf 82 = .ok (.iconst 0, 1) := by decide +kernel
theorem dX10_placeOf_83 : decode cX10_placeOf 83 = .ok (.iadd, 1) := by decide +kernel
theorem dX10_placeOf_84 : decode cX10_placeOf 84 = .ok (.istore_n 3, 1) := by decide +kernel
theorem dX10_placeOf_85 : decode cX10_placeOf 85 = .ok (.goto 17, 3) := by decide +kernel
theorem dX10_placeOf_88 : decode cX10_placeOf 88 = .ok (.iload_n 3, 1) := by decide +kernel
theorem dX10_placeOf_89 : decode cX10_placeOf 89 = .ok (.iload 4, 2) := by decide +kernel
theorem dX10_placeOf_91 : decode cX10_placeOf 91 = .ok (.iload_n 1, 1) := by decide +kernel
theorem dX10_placeOf_92 : decode cX10_placeOf 92 = .ok (.if_icmp .ge 7, 3) := by decide +kernel
theorem dX10_placeOf_95 : decode cX10_placeOf 95 = .ok (.iconst 1, 1) := by decide +kernel
theorem dX10_placeOf_96 : decode cX10_placeOf 96 = .ok (.goto 4, 3) := by decide +kernel
theorem dX10_placeOf_99 : decode cX10_placeOf 99 = .ok (.iconst 0, 1) := by decide +kernel
theorem dX10_placeOf_100 : decode cX10_placeOf 100 = .ok (.iadd, 1) := by decide +kernel
theorem dX10_placeOf_101 : decode cX10_placeOf 101 = .ok (.istore_n 3, 1) := by decide +kernel
theorem dX10_placeOf_102 : decode cX10_placeOf 102 = .ok (.iinc 4 1, 3) := by decide +kernel
theorem dX10_placeOf_105 : decode cX10_placeOf 105 = .ok (.goto (-100), 3) := by decide +kernel
theorem dX10_placeOf_108 : decode cX10_placeOf 108 = .ok (.iload_n 3, 1) := by decide +kernel
theorem dX10_placeOf_109 : decode cX10_placeOf 109 = .ok (.ireturn, 1) := by decide +kernel
theorem dX10_tellOrder_0 : decode cX10_tellOrder 0 = .ok (.aload_n 1, 1) := by decide +kernel
theorem dX10_tellOrder_1 : decode cX10_tellOrder 1 = .ok (.invokevirtual 71, 3) := by decide +kernel
theorem dX10_tellOrder_4 : decode cX10_tellOrder 4 = .ok (.iconst 1, 1) := by decide +kernel
theorem dX10_tellOrder_5 : decode cX10_tellOrder 5 = .ok (.istore_n 3, 1) := by decide +kernel
theorem dX10_tellOrder_6 : decode cX10_tellOrder 6 = .ok (.iload_n 3, 1) := by decide +kernel
theorem dX10_tellOrder_7 : decode cX10_tellOrder 7 = .ok (.aload_n 0, 1) := by decide +kernel
theorem dX10_tellOrder_8 : decode cX10_tellOrder 8 = .ok (.getfield 64, 3) := by decide +kernel
theorem dX10_tellOrder_11 : decode cX10_tellOrder 11 = .ok (.if_icmp .gt 45, 3) := by decide +kernel
theorem dX10_tellOrder_14 : decode cX10_tellOrder 14 = .ok (.iconst 0, 1) := by decide +kernel
theorem dX10_tellOrder_15 : decode cX10_tellOrder 15 = .ok (.istore 4, 2) := by decide +kernel
theorem dX10_tellOrder_17 : decode cX10_tellOrder 17 = .ok (.iload 4, 2) := by decide +kernel
theorem dX10_tellOrder_19 : decode cX10_tellOrder 19 = .ok (.aload_n 0, 1) := by decide +kernel
theorem dX10_tellOrder_20 : decode cX10_tellOrder 20 = .ok (.getfield 64, 3) := by decide +kernel
theorem dX10_tellOrder_23 : decode cX10_tellOrder 23 = .ok (.if_icmp .ge 27, 3) := by decide +kernel
theorem dX10_tellOrder_26 : decode cX10_tellOrder 26 = .ok (.aload_n 0, 1) := by decide +kernel
theorem dX10_tellOrder_27 : decode cX10_tellOrder 27 = .ok (.iload 4, 2) := by decide +kernel
theorem dX10_tellOrder_29 : decode cX10_tellOrder 29 = .ok (.aload_n 2, 1) := by decide +kernel
theorem dX10_tellOrder_30 : decode cX10_tellOrder 30 = .ok (.invokevirtual 76, 3) := by decide +kernel
theorem dX10_tellOrder_33 : decode cX10_tellOrder 33 = .ok (.iload_n 3, 1) := by decide +kernel
theorem dX10_tellOrder_34 : decode cX10_tellOrder 34 = .ok (.if_icmp .ne 10, 3) := by decide +kernel
theorem dX10_tellOrder_37 : decode cX10_tellOrder 37 = .ok (.aload_n 1, 1) := by decide +kernel
theorem dX10_tellOrder_38 : decode cX10_tellOrder 38 = .ok (.iload 4, 2) := by decide +kernel
theorem dX10_tellOrder_40 : decode cX10_tellOrder 40 = .ok (.i2l, 1) := by decide +kernel
theorem dX10_tellOrder_41 : decode cX10_tellOrder 41 = .ok (.invokevirtual 80, 3) := by decide +kernel
theorem dX10_tellOrder_44 : decode cX10_tellOrder 44 = .ok (.iinc 4 1, 3) := by decide +kernel
theorem dX10_tellOrder_47 : decode cX10_tellOrder 47 = .ok (.goto (-30), 3) := by decide +kernel
theorem dX10_tellOrder_50 : decode cX10_tellOrder 50 = .ok (.iinc 3 1, 3) := by decide +kernel
theorem dX10_tellOrder_53 : decode cX10_tellOrder 53 = .ok (.goto (-47), 3) := by decide +kernel
theorem dX10_tellOrder_56 : decode cX10_tellOrder 56 = .ok (.return_, 1) := by decide +kernel
theorem dX10_scaledMean_0 : decode cX10_scaledMean 0 = .ok (.lconst 0, 1) := by decide +kernel
theorem dX10_scaledMean_1 : decode cX10_scaledMean 1 = .ok (.lstore_n 3, 1) := by decide +kernel
theorem dX10_scaledMean_2 : decode cX10_scaledMean 2 = .ok (.iconst 0, 1) := by decide +kernel
theorem dX10_scaledMean_3 : decode cX10_scaledMean 3 = .ok (.istore 5, 2) := by decide +kernel
theorem dX10_scaledMean_5 : decode cX10_scaledMean 5 = .ok (.iconst 0, 1) := by decide +kernel
theorem dX10_scaledMean_6 : decode cX10_scaledMean 6 = .ok (.istore 6, 2) := by decide +kernel
theorem dX10_scaledMean_8 : decode cX10_scaledMean 8 = .ok (.iload 6, 2) := by decide +kernel
theorem dX10_scaledMean_10 : decode cX10_scaledMean 10 = .ok (.aload_n 0, 1) := by decide +kernel
theorem dX10_scaledMean_11 : decode cX10_scaledMean 11 = .ok (.getfield 64, 3) := by decide +kernel
theorem dX10_scaledMean_14 : decode cX10_scaledMean 14 = .ok (.if_icmp .ge 45, 3) := by decide +kernel
theorem dX10_scaledMean_17 : decode cX10_scaledMean 17 = .ok (.aload_n 0, 1) := by decide +kernel
theorem dX10_scaledMean_18 : decode cX10_scaledMean 18 = .ok (.getfield 9, 3) := by decide +kernel
theorem dX10_scaledMean_21 : decode cX10_scaledMean 21 = .ok (.iload 6, 2) := by decide +kernel
theorem dX10_scaledMean_23 : decode cX10_scaledMean 23 = .ok (.iaload, 1) := by decide +kernel
theorem dX10_scaledMean_24 : decode cX10_scaledMean 24 = .ok (.iload_n 1, 1) := by decide +kernel
theorem dX10_scaledMean_25 : decode cX10_scaledMean 25 = .ok (.if_icmp .ne 28, 3) := by decide +kernel
theorem dX10_scaledMean_28 : decode cX10_scaledMean 28 = .ok (.aload_n 0, 1) := by decide +kernel
theorem dX10_scaledMean_29 : decode cX10_scaledMean 29 = .ok (.getfield 15, 3) := by decide +kernel
theorem dX10_scaledMean_32 : decode cX10_scaledMean 32 = .ok (.iload 6, 2) := by decide +kernel
theorem dX10_scaledMean_34 : decode cX10_scaledMean 34 = .ok (.iaload, 1) := by decide +kernel
theorem dX10_scaledMean_35 : decode cX10_scaledMean 35 = .ok (.iload_n 2, 1) := by decide +kernel
theorem dX10_scaledMean_36 : decode cX10_scaledMean 36 = .ok (.if_icmp .ne 17, 3) := by decide +kernel
theorem dX10_scaledMean_39 : decode cX10_scaledMean 39 = .ok (.lload_n 3, 1) := by decide +kernel
theorem dX10_scaledMean_40 : decode cX10_scaledMean 40 = .ok (.aload_n 0, 1) := by decide +kernel
theorem dX10_scaledMean_41 : decode cX10_scaledMean 41 = .ok (.getfield 18, 3) := by decide +kernel
theorem dX10_scaledMean_44 : decode cX10_scaledMean 44 = .ok (.iload 6, 2) := by decide +kernel
theorem dX10_scaledMean_46 : decode cX10_scaledMean 46 = .ok (.iaload, 1) := by decide +kernel
theorem dX10_scaledMean_47 : decode cX10_scaledMean 47 = .ok (.i2l, 1) := by decide +kernel
theorem dX10_scaledMean_48 : decode cX10_scaledMean 48 = .ok (.ladd, 1) := by decide +kernel
theorem dX10_scaledMean_49 : decode cX10_scaledMean 49 = .ok (.lstore_n 3, 1) := by decide +kernel
theorem dX10_scaledMean_50 : decode cX10_scaledMean 50 = .ok (.iinc 5 1, 3) := by decide +kernel
theorem dX10_scaledMean_53 : decode cX10_scaledMean 53 = .ok (.iinc 6 1, 3) := by decide +kernel
theorem dX10_scaledMean_56 : decode cX10_scaledMean 56 = .ok (.goto (-48), 3) := by decide +kernel
theorem dX10_scaledMean_59 : decode cX10_scaledMean 59 = .ok (.iload 5, 2) := by decide +kernel
theorem dX10_scaledMean_61 : decode cX10_scaledMean 61 = .ok (.ifCond .ne 9, 3) := by decide +kernel
theorem dX10_scaledMean_64 : decode cX10_scaledMean 64 = .ok (.ldc2_w 84, 3) := by decide +kernel
theorem dX10_scaledMean_67 : decode cX10_scaledMean 67 = .ok (.goto 12, 3) := by decide +kernel
theorem dX10_scaledMean_70 : decode cX10_scaledMean 70 = .ok (.lload_n 3, 1) := by decide +kernel
theorem dX10_scaledMean_71 : decode cX10_scaledMean 71 = .ok (.ldc2_w 86, 3) := by decide +kernel
theorem dX10_scaledMean_74 : decode cX10_scaledMean 74 = .ok (.lmul, 1) := by decide +kernel
theorem dX10_scaledMean_75 : decode cX10_scaledMean 75 = .ok (.iload 5, 2) := by decide +kernel
theorem dX10_scaledMean_77 : decode cX10_scaledMean 77 = .ok (.i2l, 1) := by decide +kernel
theorem dX10_scaledMean_78 : decode cX10_scaledMean 78 = .ok (.ldiv, 1) := by decide +kernel
theorem dX10_scaledMean_79 : decode cX10_scaledMean 79 = .ok (.lreturn, 1) := by decide +kernel
