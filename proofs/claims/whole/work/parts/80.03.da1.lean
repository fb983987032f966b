theorem dX0_init_0 : decode cX0_init 0 = .ok (.aload_n 0, 1) := by decide +kernel
theorem dX0_init_1 : decode cX0_init 1 = .ok (.invokespecial 3, 3) := by decide +kernel
theorem dX0_init_4 : decode cX0_init 4 = .ok (.return_, 1) := by decide +kernel
theorem dX0_check_0 : decode cX0_check 0 = .ok (.aload_n 1, 1) := by decide +kernel
theorem dX0_check_1 : decode cX0_check 1 = .ok (.bipush 60, 2) := by decide +kernel
theorem dX0_check_3 : decode cX0_check 3 = .ok (.invokevirtual 11, 3) := by decide +kernel
theorem dX0_check_6 : decode cX0_check 6 = .ok (.aload_n 1, 1) := by decide +kernel
theorem dX0_check_7 : decode cX0_check 7 = .ok (.invokevirtual 17, 3) := by decide +kernel
theorem dX0_check_10 : decode cX0_check 10 = .ok (.ifCond .eq 5, 3) := by decide +kernel
theorem dX0_check_13 : decode cX0_check 13 = .ok (.iconst 0, 1) := by decide +kernel
theorem dX0_check_14 : decode cX0_check 14 = .ok (.ireturn, 1) := by decide +kernel
theorem dX0_check_15 : decode cX0_check 15 = .ok (.iconst 0, 1) := by decide +kernel
theorem dX0_check_16 : decode cX0_check 16 = .ok (.istore_n 2, 1) := by decide +kernel
theorem dX0_check_17 : decode cX0_check 17 = .ok (.iload_n 2, 1) := by decide +kernel
theorem dX0_check_18 : decode cX0_check 18 = .ok (.bipush 60, 2) := by decide +kernel
theorem dX0_check_20 : decode cX0_check 20 = .ok (.if_icmp .ge 45, 3) := by decide +kernel
theorem dX0_check_23 : decode cX0_check 23 = .ok (.aload_n 0, 1) := by decide +kernel
theorem dX0_check_24 : decode cX0_check 24 = .ok (.aload_n 1, 1) := by decide +kernel
theorem dX0_check_25 : decode cX0_check 25 = .ok (.invokevirtual 21, 3) := by decide +kernel
theorem dX0_check_28 : decode cX0_check 28 = .ok (.ifCond .ne 8, 3) := by decide +kernel
theorem dX0_check_31 : decode cX0_check 31 = .ok (.aload_n 1, 1) := by decide +kernel
theorem dX0_check_32 : decode cX0_check 32 = .ok (.invokevirtual 25, 3) := by decide +kernel
theorem dX0_check_35 : decode cX0_check 35 = .ok (.ireturn, 1) := by decide +kernel
theorem dX0_check_36 : decode cX0_check 36 = .ok (.aload_n 1, 1) := by decide +kernel
theorem dX0_check_37 : decode cX0_check 37 = .ok (.invokevirtual 17, 3) := by decide +kernel
theorem dX0_check_40 : decode cX0_check 40 = .ok (.ifCond .eq 5, 3) := by decide +kernel
theorem dX0_check_43 : decode cX0_check 43 = .ok (.iconst 0, 1) := by decide +kernel
theorem dX0_check_44 : decode cX0_check 44 = .ok (.ireturn, 1) := by decide +kernel
theorem dX0_check_45 : decode cX0_check 45 = .ok (.aload_n 1, 1) := by decide +kernel
theorem dX0_check_46 : decode cX0_check 46 = .ok (.bipush 59, 2) := by decide +kernel
theorem dX0_check_48 : decode cX0_check 48 = .ok (.invokevirtual 29, 3) := by decide +kernel
theorem dX0_check_51 : decode cX0_check 51 = .ok (.ifCond .ne 8, 3) := by decide +kernel
theorem dX0_check_54 : decode cX0_check 54 = .ok (.aload_n 1, 1) := by decide +kernel
theorem dX0_check_55 : decode cX0_check 55 = .ok (.invokevirtual 25, 3) := by decide +kernel
theorem dX0_check_58 : decode cX0_check 58 = .ok (.ireturn, 1) := by decide +kernel
theorem dX0_check_59 : decode cX0_check 59 = .ok (.iinc 2 1, 3) := by decide +kernel
theorem dX0_check_62 : decode cX0_check 62 = .ok (.goto (-45), 3) := by decide +kernel
theorem dX0_check_65 : decode cX0_check 65 = .ok (.aload_n 1, 1) := by decide +kernel
theorem dX0_check_66 : decode cX0_check 66 = .ok (.invokevirtual 25, 3) := by decide +kernel
theorem dX0_check_69 : decode cX0_check 69 = .ok (.ireturn, 1) := by decide +kernel
theorem dX0_read_0 : decode cX0_read 0 = .ok (.aload_n 1, 1) := by decide +kernel
theorem dX0_read_1 : decode cX0_read 1 = .ok (.bipush 120, 2) := by decide +kernel
theorem dX0_read_3 : decode cX0_read 3 = .ok (.invokevirtual 29, 3) := by decide +kernel
theorem dX0_read_6 : decode cX0_read 6 = .ok (.ifCond .eq 11, 3) := by decide +kernel
theorem dX0_read_9 : decode cX0_read 9 = .ok (.aload_n 0, 1) := by decide +kernel
theorem dX0_read_10 : decode cX0_read 10 = .ok (.bipush 120, 2) := by decide +kernel
theorem dX0_read_12 : decode cX0_read 12 = .ok (.putfield 33, 3) := by decide +kernel
theorem dX0_read_15 : decode cX0_read 15 = .ok (.iconst 1, 1) := by decide +kernel
theorem dX0_read_16 : decode cX0_read 16 = .ok (.ireturn, 1) := by decide +kernel
theorem dX0_read_17 : decode cX0_read 17 = .ok (.aload_n 1, 1) := by decide +kernel
theorem dX0_read_18 : decode cX0_read 18 = .ok (.bipush 114, 2) := by decide +kernel
theorem dX0_read_20 : decode cX0_read 20 = .ok (.invokevirtual 29, 3) := by decide +kernel
theorem dX0_read_23 : decode cX0_read 23 = .ok (.ifCond .eq 31, 3) := by decide +kernel
theorem dX0_read_26 : decode cX0_read 26 = .ok (.aload_n 0, 1) := by decide +kernel
theorem dX0_read_27 : decode cX0_read 27 = .ok (.bipush 114, 2) := by decide +kernel
theorem dX0_read_29 : decode cX0_read 29 = .ok (.putfield 33, 3) := by decide +kernel
theorem dX0_read_32 : decode cX0_read 32 = .ok (.aload_n 0, 1) := by decide +kernel
theorem dX0_read_33 : decode cX0_read 33 = .ok (.aload_n 1, 1) := by decide +kernel
theorem dX0_read_34 : decode cX0_read 34 = .ok (.invokevirtual 37, 3) := by decide +kernel
theorem dX0_read_37 : decode cX0_read 37 = .ok (.ifCond .eq 15, 3) := by decide +kernel
theorem dX0_read_40 : decode cX0_read 40 = .ok (.aload_n 0, 1) := by decide +kernel
theorem dX0_read_41 : decode cX0_read 41 = .ok (.aload_n 1, 1) := by decide +kernel
theorem dX0_read_42 : decode cX0_read 42 = .ok (.invokevirtual 40, 3) := by decide +kernel
theorem dX0_read_45 : decode cX0_read 45 = .ok (.ifCond .eq 7, 3) := by decide +kernel
theorem dX0_read_48 : decode cX0_read 48 = .ok (.iconst 1, 1) := by decide +kernel
theorem dX0_read_49 : decode cX0_read 49 = .ok (.goto 4, 3) := by decide +kernel
theorem dX0_read_52 : decode cX0_read 52 = .ok (.iconst 0, 1) := by decide +kernel
theorem dX0_read_53 : decode cX0_read 53 = .ok (.ireturn, 1) := by decide +kernel
theorem dX0_read_54 : decode cX0_read 54 = .ok (.aload_n 0, 1) := by decide +kernel
theorem dX0_read_55 : decode cX0_read 55 = .ok (.bipush 116, 2) := by decide +kernel
theorem dX0_read_57 : decode cX0_read 57 = .ok (.putfield 33, 3) := by decide +kernel
theorem dX0_read_60 : decode cX0_read 60 = .ok (.aload_n 1, 1) := by decide +kernel
theorem dX0_read_61 : decode cX0_read 61 = .ok (.bipush 116, 2) := by decide +kernel
theorem dX0_read_63 : decode cX0_read 63 = .ok (.invokevirtual 29, 3) := by decide +kernel
theorem dX0_read_66 : decode cX0_read 66 = .ok (.ifCond .eq 23, 3) := by decide +kernel
theorem dX0_read_69 : decode cX0_read 69 = .ok (.aload_n 0, 1) := by decide +kernel
theorem dX0_read_70 : decode cX0_read 70 = .ok (.aload_n 1, 1) := by decide +kernel
theorem dX0_read_71 : decode cX0_read 71 = .ok (.invokevirtual 37, 3) := by decide +kernel
theorem dX0_read_74 : decode cX0_read 74 = .ok (.ifCond .eq 15, 3) := by decide +kernel
theorem dX0_read_77 : decode cX0_read 77 = .ok (.aload_n 0, 1) := by decide +kernel
theorem dX0_read_78 : decode cX0_read 78 = .ok (.aload_n 1, 1) := by decide +kernel
theorem dX0_read_79 : decode cX0_read 79 = .ok (.invokevirtual 43, 3) := by decide +kernel
theorem dX0_read_82 : decode cX0_read 82 = .ok (.ifCond .eq 7, 3) := by decide +kernel
theorem dX0_read_85 : decode cX0_read 85 = .ok (.iconst 1, 1) := by decide +kernel
theorem dX0_read_86 : decode cX0_read 86 = .ok (.goto 4, 3) := by decide +kernel
theorem dX0_read_89 : decode cX0_read 89 = .ok (.iconst 0, 1) := by decide +kernel
theorem dX0_read_90 : decode cX0_read 90 = .ok (.ireturn, 1) := by decide +kernel
theorem dX0_readPair_0 : decode cX0_readPair 0 = .ok (.aload_n 0, 1) := by decide +kernel
theorem dX0_readPair_1 : decode cX0_readPair 1 = .ok (.aload_n 1, 1) := by decide +kernel
theorem dX0_readPair_2 : decode cX0_readPair 2 = .ok (.iconst 0, 1) := by decide +kernel
theorem dX0_readPair_3 : decode cX0_readPair 3 = .ok (.bipush 9, 2) := by decide +kernel
theorem dX0_readPair_5 : decode cX0_readPair 5 = .ok (.invokevirtual 46, 3) := by decide +kernel
theorem dX0_readPair_8 : decode cX0_readPair 8 = .ok (.putfield 50, 3) := by decide +kernel
theorem dX0_readPair_11 : decode cX0_readPair 11 = .ok (.aload_n 0, 1) := by decide +kernel
theorem dX0_readPair_12 : decode cX0_readPair 12 = .ok (.aload_n 0, 1) := by decide +kernel
theorem dX0_readPair_13 : decode cX0_readPair 13 = .ok (.getfield 50, 3) := by decide +kernel
theorem dX0_readPair_16 : decode cX0_readPair 16 = .ok (.iconst (-1), 1) := by decide +kernel
theorem dX0_readPair_17 : decode cX0_readPair 17 = .ok (.if_icmp .ne 7, 3) := by decide +kernel
theorem dX0_readPair_20 : decode cX0_readPair 20 = .ok (.iconst (-1), 1) := by decide +kernel
theorem dX0_readPair_21 : decode cX0_readPair 21 = .ok (.goto 10, 3) := by decide +kernel
theorem dX0_readPair_24 : decode cX0_readPair 24 = .ok (.aload_n 1, 1) := by decide +kernel
theorem dX0_readPair_25 : decode cX0_readPair 25 = .ok (.iconst 0, 1) := by decide +kernel
theorem dX0_readPair_26 : decode cX0_readPair 26 = .ok (.bipush 9, 2) := by decide +kernel
theorem dX0_readPair_28 : decode cX0_readPair 28 = .ok (.invokevirtual 46, 3) := by decide +kernel
theorem dX0_readPair_31 : decode cX0_readPair 31 = .ok (.putfield 54, 3) := by decide +kernel
theorem dX0_readPair_34 : decode cX0_readPair 34 = .ok (.aload_n 0, 1) := by decide +kernel
theorem dX0_readPair_35 : decode cX0_readPair 35 = .ok (.getfield 54, 3) := by decide +kernel
theorem dX0_readPair_38 : decode cX0_readPair 38 = .ok (.iconst (-1), 1) := by decide +kernel
theorem dX0_readPair_39 : decode cX0_readPair 39 = .ok (.if_icmp .eq 7, 3) := by decide +kernel
theorem dX0_readPair_42 : decode cX0_readPair 42 = .ok (.iconst 1, 1) := by decide +kernel
theorem dX0_readPair_43 : decode cX0_readPair 43 = .ok (.goto 4, 3) := by decide +kernel
theorem dX0_readPair_46 : decode cX0_readPair 46 = .ok (.iconst 0, 1) := by decide +kernel
theorem dX0_readPair_47 : decode cX0_readPair 47 = .ok (.ireturn, 1) := by decide +kernel
theorem dX0_readRide_0 : decode cX0_readRide 0 = .ok (.aload_n 0, 1) := by decide +kernel
theorem dX0_readRide_1 : decode cX0_readRide 1 = .ok (.aload_n 1, 1) := by decide +kernel
theorem dX0_readRide_2 : decode cX0_readRide 2 = .ok (.iconst 0, 1) := by decide +kernel
theorem dX0_readRide_3 : decode cX0_readRide 3 = .ok (.bipush 9, 2) := by decide +kernel
theorem dX0_readRide_5 : decode cX0_readRide 5 = .ok (.invokevirtual 46, 3) := by decide +kernel
theorem dX0_readRide_8 : decode cX0_readRide 8 = .ok (.putfield 57, 3) := by decide +kernel
theorem dX0_readRide_11 : decode cX0_readRide 11 = .ok (.aload_n 0, 1) := by decide +kernel
theorem dX0_readRide_12 : decode cX0_readRide 12 = .ok (.getfield 57, 3) := by decide +kernel
theorem dX0_readRide_15 : decode cX0_readRide 15 = .ok (.iconst (-1), 1) := by decide +kernel
theorem dX0_readRide_16 : decode cX0_readRide 16 = .ok (.if_icmp .eq 12, 3) := by decide +kernel
theorem dX0_readRide_19 : decode cX0_readRide 19 = .ok (.aload_n 1, 1) := by decide +kernel
theorem dX0_readRide_20 : decode cX0_readRide 20 = .ok (.bipush 42, 2) := by decide +kernel
theorem dX0_readRide_22 : decode cX0_readRide 22 = .ok (.invokevirtual 29, 3) := by decide +kernel
theorem dX0_readRide_25 : decode cX0_readRide 25 = .ok (.ifCond .ne 5, 3) := by decide +kernel
theorem dX0_readRide_28 : decode cX0_readRide 28 = .ok (.iconst 0, 1) := by decide +kernel
theorem dX0_readRide_29 : decode cX0_readRide 29 = .ok (.ireturn, 1) := by decide +kernel
theorem dX0_readRide_30 : decode cX0_readRide 30 = .ok (.aload_n 0, 1) := by decide +kernel
theorem dX0_readRide_31 : decode cX0_readRide 31 = .ok (.aload_n 1, 1) := by decide +kernel
theorem dX0_readRide_32 : decode cX0_readRide 32 = .ok (.iconst 0, 1) := by decide +kernel
theorem dX0_readRide_33 : decode cX0_readRide 33 = .ok (.bipush 9, 2) := by decide +kernel
theorem dX0_readRide_35 : decode cX0_readRide 35 = .ok (.invokevirtual 46, 3) := by decide +kernel
theorem dX0_readRide_38 : decode cX0_readRide 38 = .ok (.putfield 60, 3) := by decide +kernel
theorem dX0_readRide_41 : decode cX0_readRide 41 = .ok (.aload_n 0, 1) := by decide +kernel
theorem dX0_readRide_42 : decode cX0_readRide 42 = .ok (.getfield 60, 3) := by decide +kernel
theorem dX0_readRide_45 : decode cX0_readRide 45 = .ok (.iconst (-1), 1) := by decide +kernel
theorem dX0_readRide_46 : decode cX0_readRide 46 = .ok (.if_icmp .eq 7, 3) := by decide +kernel
theorem dX0_readRide_49 : decode cX0_readRide 49 = .ok (.iconst 1, 1) := by decide +kernel
theorem dX0_readRide_50 : decode cX0_readRide 50 = .ok (.goto 4, 3) := by decide +kernel
theorem dX0_readRide_53 : decode cX0_readRide 53 = .ok (.iconst 0, 1) := by decide +kernel
theorem dX0_readRide_54 : decode cX0_readRide 54 = .ok (.ireturn, 1) := by decide +kernel
theorem dX0_readTold_0 : decode cX0_readTold 0 = .ok (.aload_n 1, 1) := by decide +kernel
theorem dX0_readTold_1 : decode cX0_readTold 1 = .ok (.bipush 58, 2) := by decide +kernel
theorem dX0_readTold_3 : decode cX0_readTold 3 = .ok (.invokevirtual 29, 3) := by decide +kernel
theorem dX0_readTold_6 : decode cX0_readTold 6 = .ok (.ifCond .ne 5, 3) := by decide +kernel
theorem dX0_readTold_9 : decode cX0_readTold 9 = .ok (.iconst 0, 1) := by decide +kernel
theorem dX0_readTold_10 : decode cX0_readTold 10 = .ok (.ireturn, 1) := by decide +kernel
theorem dX0_readTold_11 : decode cX0_readTold 11 = .ok (.aload_n 0, 1) := by decide +kernel
theorem dX0_readTold_12 : decode cX0_readTold 12 = .ok (.aload_n 1, 1) := by decide +kernel
theorem dX0_readTold_13 : decode cX0_readTold 13 = .ok (.iconst 2, 1) := by decide +kernel
theorem dX0_readTold_14 : decode cX0_readTold 14 = .ok (.invokevirtual 63, 3) := by decide +kernel
theorem dX0_readTold_17 : decode cX0_readTold 17 = .ok (.putfield 57, 3) := by decide +kernel
theorem dX0_readTold_20 : decode cX0_readTold 20 = .ok (.aload_n 0, 1) := by decide +kernel
theorem dX0_readTold_21 : decode cX0_readTold 21 = .ok (.getfield 57, 3) := by decide +kernel
theorem dX0_readTold_24 : decode cX0_readTold 24 = .ok (.iconst (-1), 1) := by decide +kernel
theorem dX0_readTold_25 : decode cX0_readTold 25 = .ok (.if_icmp .eq 12, 3) := by decide +kernel
theorem dX0_readTold_28 : decode cX0_readTold 28 = .ok (.aload_n 1, 1) := by decide +kernel
theorem dX0_readTold_29 : decode cX0_readTold 29 = .ok (.bipush 43, 2) := by decide +kernel
theorem dX0_readTold_31 : decode cX0_readTold 31 = .ok (.invokevirtual 29, 3) := by decide +kernel
theorem dX0_readTold_34 : decode cX0_readTold 34 = .ok (.ifCond .ne 5, 3) := by decide +kernel
theorem dX0_readTold_37 : decode cX0_readTold 37 = .ok (.iconst 0, 1) := by decide +kernel
theorem dX0_readTold_38 : decode cX0_readTold 38 = .ok (.ireturn, 1) := by decide +kernel
theorem dX0_readTold_39 : decode cX0_readTold 39 = .ok (.aload_n 0, 1) := by decide +kernel
theorem dX0_readTold_40 : decode cX0_readTold 40 = .ok (.aload_n 1, 1) := by decide +kernel
theorem dX0_readTold_41 : decode cX0_readTold 41 = .ok (.iconst 4, 1) := by decide +kernel
theorem dX0_readTold_42 : decode cX0_readTold 42 = .ok (.invokevirtual 63, 3) := by decide +kernel
theorem dX0_readTold_45 : decode cX0_readTold 45 = .ok (.putfield 60, 3) := by decide +kernel
theorem dX0_readTold_48 : decode cX0_readTold 48 = .ok (.aload_n 0, 1) := by decide +kernel
theorem dX0_readTold_49 : decode cX0_readTold 49 = .ok (.getfield 60, 3) := by decide +kernel
theorem dX0_readTold_52 : decode cX0_readTold 52 = .ok (.iconst (-1), 1) := by decide +kernel
theorem dX0_readTold_53 : decode cX0_readTold 53 = .ok (.if_icmp .eq 7, 3) := by decide +kernel
theorem dX0_readTold_56 : decode cX0_readTold 56 = .ok (.iconst 1, 1) := by decide +kernel
theorem dX0_readTold_57 : decode cX0_readTold 57 = .ok (.goto 4, 3) := by decide +kernel
theorem dX0_readTold_60 : decode cX0_readTold 60 = .ok (.iconst 0, 1) := by decide +kernel
theorem dX0_readTold_61 : decode cX0_readTold 61 = .ok (.ireturn, 1) := by decide +kernel
theorem dX1_init_0 : decode cX1_init 0 = .ok (.aload_n 0, 1) := by decide +kernel
theorem dX1_init_1 : decode cX1_init 1 = .ok (.invokespecial 5, 3) := by decide +kernel
theorem dX1_init_4 : decode cX1_init 4 = .ok (.aload_n 0, 1) := by decide +kernel
theorem dX1_init_5 : decode cX1_init 5 = .ok (.bipush 8, 2) := by decide +kernel
theorem dX1_init_7 : decode cX1_init 7 = .ok (.newarray .int, 2) := by decide +kernel
theorem dX1_init_9 : decode cX1_init 9 = .ok (.putfield 11, 3) := by decide +kernel
theorem dX1_init_12 : decode cX1_init 12 = .ok (.aload_n 0, 1) := by decide +kernel
theorem dX1_init_13 : decode cX1_init 13 = .ok (.bipush 8, 2) := by decide +kernel
theorem dX1_init_15 : decode cX1_init 15 = .ok (.newarray .int, 2) := by decide +kernel
theorem dX1_init_17 : decode cX1_init 17 = .ok (.putfield 15, 3) := by decide +kernel
theorem dX1_init_20 : decode cX1_init 20 = .ok (.aload_n 0, 1) := by decide +kernel
theorem dX1_init_21 : decode cX1_init 21 = .ok (.bipush 8, 2) := by decide +kernel
theorem dX1_init_23 : decode cX1_init 23 = .ok (.newarray .int, 2) := by decide +kernel
theorem dX1_init_25 : decode cX1_init 25 = .ok (.putfield 18, 3) := by decide +kernel
theorem dX1_init_28 : decode cX1_init 28 = .ok (.aload_n 0, 1) := by decide +kernel
theorem dX1_init_29 : decode cX1_init 29 = .ok (.bipush 24, 2) := by decide +kernel
theorem dX1_init_31 : decode cX1_init 31 = .ok (.newarray .int, 2) := by decide +kernel
theorem dX1_init_33 : decode cX1_init 33 = .ok (.putfield 21, 3) := by decide +kernel
theorem dX1_init_36 : decode cX1_init 36 = .ok (.aload_n 0, 1) := by decide +kernel
theorem dX1_init_37 : decode cX1_init 37 = .ok (.bipush 36, 2) := by decide +kernel
theorem dX1_init_39 : decode cX1_init 39 = .ok (.newarray .int, 2) := by decide +kernel
theorem dX1_init_41 : decode cX1_init 41 = .ok (.putfield 24, 3) := by decide +kernel
theorem dX1_init_44 : decode cX1_init 44 = .ok (.aload_n 0, 1) := by decide +kernel
theorem dX1_init_45 : decode cX1_init 45 = .ok (.bipush 48, 2) := by decide +kernel
theorem dX1_init_47 : decode cX1_init 47 = .ok (.newarray .int, 2) := by decide +kernel
theorem dX1_init_49 : decode cX1_init 49 = .ok (.putfield 27, 3) := by decide +kernel
theorem dX1_init_52 : decode cX1_init 52 = .ok (.aload_n 0, 1) := by decide +kernel
theorem dX1_init_53 : decode cX1_init 53 = .ok (.sipush 600, 3) := by decide +kernel
theorem dX1_init_56 : decode cX1_init 56 = .ok (.putfield 30, 3) := by decide +kernel
theorem dX1_init_59 : decode cX1_init 59 = .ok (.aload_n 0, 1) := by decide +kernel
theorem dX1_init_60 : decode cX1_init 60 = .ok (.new 34, 3) := by decide +kernel
theorem dX1_init_63 : decode cX1_init 63 = .ok (.dup, 1) := by decide +kernel
theorem dX1_init_64 : decode cX1_init 64 = .ok (.invokespecial 36, 3) := by decide +kernel
theorem dX1_init_67 : decode cX1_init 67 = .ok (.putfield 37, 3) := by decide +kernel
theorem dX1_init_70 : decode cX1_init 70 = .ok (.aload_n 0, 1) := by decide +kernel
theorem dX1_init_71 : decode cX1_init 71 = .ok (.bipush 80, 2) := by decide +kernel
theorem dX1_init_73 : decode cX1_init 73 = .ok (.newarray .int, 2) := by decide +kernel
theorem dX1_init_75 : decode cX1_init 75 = .ok (.putfield 41, 3) := by decide +kernel
theorem dX1_init_78 : decode cX1_init 78 = .ok (.aload_n 0, 1) := by decide +kernel
theorem dX1_init_79 : decode cX1_init 79 = .ok (.bipush 8, 2) := by decide +kernel
theorem dX1_init_81 : decode cX1_init 81 = .ok (.newarray .int, 2) := by decide +kernel
theorem dX1_init_83 : decode cX1_init 83 = .ok (.putfield 44, 3) := by decide +kernel
theorem dX1_init_86 : decode cX1_init 86 = .ok (.aload_n 0, 1) := by decide +kernel
theorem dX1_init_87 : decode cX1_init 87 = .ok (.bipush 8, 2) := by decide +kernel
theorem dX1_init_89 : decode cX1_init 89 = .ok (.newarray .int, 2) := by decide +kernel
theorem dX1_init_91 : decode cX1_init 91 = .ok (.putfield 47, 3) := by decide +kernel
theorem dX1_init_94 : decode cX1_init 94 = .ok (.return_, 1) := by decide +kernel
theorem dX1_hasFence_0 : decode cX1_hasFence 0 = .ok (.iload_n 1, 1) := by decide +kernel
theorem dX1_hasFence_1 : decode cX1_hasFence 1 = .ok (.ifCond .lt 15, 3) := by decide +kernel
theorem dX1_hasFence_4 : decode cX1_hasFence 4 = .ok (.iload_n 1, 1) := by decide +kernel
theorem dX1_hasFence_5 : decode cX1_hasFence 5 = .ok (.aload_n 0, 1) := by decide +kernel
theorem dX1_hasFence_6 : decode cX1_hasFence 6 = .ok (.getfield 50, 3) := by decide +kernel
theorem dX1_hasFence_9 : decode cX1_hasFence 9 = .ok (.if_icmp .ge 7, 3) := by decide +kernel
theorem dX1_hasFence_12 : decode cX1_hasFence 12 = .ok (.iconst 1, 1) := by decide +kernel
theorem dX1_hasFence_13 : decode cX1_hasFence 13 = .ok (.goto 4, 3) := by decide +kernel
theorem dX1_hasFence_16 : decode cX1_hasFence 16 = .ok (.iconst 0, 1) := by decide +kernel
theorem dX1_hasFence_17 : decode cX1_hasFence 17 = .ok (.ireturn, 1) := by decide +kernel
theorem dX1_hasHorse_0 : decode cX1_hasHorse 0 = .ok (.iload_n 1, 1) := by decide +kernel
theorem dX1_hasHorse_1 : decode cX1_hasHorse 1 = .ok (.ifCond .lt 15, 3) := by decide +kernel
theorem dX1_hasHorse_4 : decode cX1_hasHorse 4 = .ok (.iload_n 1, 1) := by decide +kernel
theorem dX1_hasHorse_5 : decode cX1_hasHorse 5 = .ok (.aload_n 0, 1) := by decide +kernel
theorem dX1_hasHorse_6 : decode cX1_hasHorse 6 = .ok (.getfield 53, 3) := by decide +kernel
theorem dX1_hasHorse_9 : decode cX1_hasHorse 9 = .ok (.if_icmp .ge 7, 3) := by decide +kernel
theorem dX1_hasHorse_12 : decode cX1_hasHorse 12 = .ok (.iconst 1, 1) := by decide +kernel
theorem dX1_hasHorse_13 : decode cX1_hasHorse 13 = .ok (.goto 4, 3) := by decide +kernel
theorem dX1_hasHorse_16 : decode cX1_hasHorse 16 = .ok (.iconst 0, 1) := by decide +kernel
theorem dX1_hasHorse_17 : decode cX1_hasHorse 17 = .ok (.ireturn, 1) := by decide +kernel
theorem dX1_hasPlan_0 : decode cX1_hasPlan 0 = .ok (.iload_n 1, 1) := by decide +kernel
theorem dX1_hasPlan_1 : decode cX1_hasPlan 1 = .ok (.ifCond .lt 15, 3) := by decide +kernel
theorem dX1_hasPlan_4 : decode cX1_hasPlan 4 = .ok (.iload_n 1, 1) := by decide +kernel
theorem dX1_hasPlan_5 : decode cX1_hasPlan 5 = .ok (.aload_n 0, 1) := by decide +kernel
theorem dX1_hasPlan_6 : decode cX1_hasPlan 6 = .ok (.getfield 56, 3) := by decide +kernel
theorem dX1_hasPlan_9 : decode cX1_hasPlan 9 = .ok (.if_icmp .ge 7, 3) := by decide +kernel
theorem dX1_hasPlan_12 : decode cX1_hasPlan 12 = .ok (.iconst 1, 1) := by decide +kernel
theorem dX1_hasPlan_13 : decode cX1_hasPlan 13 = .ok (.goto 4, 3) := by decide +kernel
theorem dX1_hasPlan_16 : decode cX1_hasPlan 16 = .ok (.iconst 0, 1) := by decide +kernel
theorem dX1_hasPlan_17 : decode cX1_hasPlan 17 = .ok (.ireturn, 1) := by decide +kernel
theorem dX1_readRing_0 : decode cX1_readRing 0 = .ok (.aload_n 1, 1) := by decide +kernel
theorem dX1_readRing_1 : decode cX1_readRing 1 = .ok (.bipush 76, 2) := by decide +kernel
theorem dX1_readRing_3 : decode cX1_readRing 3 = .ok (.invokevirtual 59, 3) := by decide +kernel
theorem dX1_readRing_6 : decode cX1_readRing 6 = .ok (.iconst 0, 1) := by decide +kernel
theorem dX1_readRing_7 : decode cX1_readRing 7 = .ok (.istore_n 2, 1) := by decide +kernel
theorem dX1_readRing_8 : decode cX1_readRing 8 = .ok (.iload_n 2, 1) := by decide +kernel
theorem dX1_readRing_9 : decode cX1_readRing 9 = .ok (.bipush 8, 2) := by decide +kernel
theorem dX1_readRing_11 : decode cX1_readRing 11 = .ok (.if_icmp .ge 55, 3) := by decide +kernel
theorem dX1_readRing_14 : decode cX1_readRing 14 = .ok (.aload_n 0, 1) := by decide +kernel
theorem dX1_readRing_15 : decode cX1_readRing 15 = .ok (.aload_n 1, 1) := by decide +kernel
theorem dX1_readRing_16 : decode cX1_readRing 16 = .ok (.iload_n 2, 1) := by decide +kernel
theorem dX1_readRing_17 : decode cX1_readRing 17 = .ok (.invokevirtual 65, 3) := by decide +kernel
theorem dX1_readRing_20 : decode cX1_readRing 20 = .ok (.ifCond .ne 8, 3) := by decide +kernel
theorem dX1_readRing_23 : decode cX1_readRing 23 = .ok (.aload_n 1, 1) := by decide +kernel
theorem dX1_readRing_24 : decode cX1_readRing 24 = .ok (.invokevirtual 69, 3) := by decide +kernel
theorem dX1_readRing_27 : decode cX1_readRing 27 = .ok (.ireturn, 1) := by decide +kernel
theorem dX1_readRing_28 : decode cX1_readRing 28 = .ok (.aload_n 1, 1) := by decide +kernel
theorem dX1_readRing_29 : decode cX1_readRing 29 = .ok (.invokevirtual 73, 3) := by decide +kernel
theorem dX1_readRing_32 : decode cX1_readRing 32 = .ok (.ifCond .eq 14, 3) := by decide +kernel
theorem dX1_readRing_35 : decode cX1_readRing 35 = .ok (.aload_n 0, 1) := by decide +kernel
theorem dX1_readRing_36 : decode cX1_readRing 36 = .ok (.iload_n 2, 1) := by decide +kernel
theorem dX1_readRing_37 : decode cX1_readRing 37 = .ok (.iconst 1, 1) := by decide +kernel
theorem dX1_readRing_38 : decode cX1_readRing 38 = .ok (.iadd, 1) := by decide +kernel
theorem dX1_readRing_39 : decode cX1_readRing 39 = .ok (.invokevirtual 77, 3) := by decide +kernel
theorem dX1_readRing_42 : decode cX1_readRing 42 = .ok (.iload_n 2, 1) := by decide +kernel
theorem dX1_readRing_43 : decode cX1_readRing 43 = .ok (.iconst 1, 1) := by decide +kernel
theorem dX1_readRing_44 : decode cX1_readRing 44 = .ok (.iadd, 1) := by decide +kernel
theorem dX1_readRing_45 : decode cX1_readRing 45 = .ok (.ireturn, 1) := by decide +kernel
theorem dX1_readRing_46 : decode cX1_readRing 46 = .ok (.aload_n 1, 1) := by decide +kernel
theorem dX1_readRing_47 : decode cX1_readRing 47 = .ok (.bipush 59, 2) := by decide +kernel
theorem dX1_readRing_49 : decode cX1_readRing 49 = .ok (.invokevirtual 80, 3) := by decide +kernel
theorem dX1_readRing_52 : decode cX1_readRing 52 = .ok (.ifCond .ne 8, 3) := by decide +kernel
theorem dX1_readRing_55 : decode cX1_readRing 55 = .ok (.aload_n 1, 1) := by decide +kernel
theorem dX1_readRing_56 : decode cX1_readRing 56 = .ok (.invokevirtual 69, 3) := by decide +kernel
theorem dX1_readRing_59 : decode cX1_readRing 59 = .ok (.ireturn, 1) := by decide +kernel
theorem dX1_readRing_60 : decode cX1_readRing 60 = .ok (.iinc 2 1, 3) := by decide +kernel
theorem dX1_readRing_63 : decode cX1_readRing 63 = .ok (.goto (-55), 3) := by decide +kernel
theorem dX1_readRing_66 : decode cX1_readRing 66 = .ok (.aload_n 1, 1) := by decide +kernel
theorem dX1_readRing_67 : decode cX1_readRing 67 = .ok (.invokevirtual 69, 3) := by decide +kernel
theorem dX1_readRing_70 : decode cX1_readRing 70 = .ok (.ireturn, 1) := by decide +kernel
theorem dX1_readFence_0 : decode cX1_readFence 0 = .ok (.aload_n 1, 1) := by decide +kernel
theorem dX1_readFence_1 : decode cX1_readFence 1 = .ok (.ldc 84, 2) := by decide +kernel
theorem dX1_readFence_3 : decode cX1_readFence 3 = .ok (.invokevirtual 86, 3) := by decide +kernel
theorem dX1_readFence_6 : decode cX1_readFence 6 = .ok (.istore_n 3, 1) := by decide +kernel
theorem dX1_readFence_7 : decode cX1_readFence 7 = .ok (.iload_n 3, 1) := by decide +kernel
theorem dX1_readFence_8 : decode cX1_readFence 8 = .ok (.ifCond .ge 5, 3) := by decide +kernel
theorem dX1_readFence_11 : decode cX1_readFence 11 = .ok (.iconst 0, 1) := by decide +kernel
theorem dX1_readFence_12 : decode cX1_readFence 12 = .ok (.ireturn, 1) := by decide +kernel
theorem dX1_readFence_13 : decode cX1_readFence 13 = .ok (.aload_n 1, 1) := by decide +kernel
theorem dX1_readFence_14 : decode cX1_readFence 14 = .ok (.iconst 0, 1) := by decide +kernel
theorem dX1_readFence_15 : decode cX1_readFence 15 = .ok (.bipush 9, 2) := by decide +kernel
theorem dX1_readFence_17 : decode cX1_readFence 17 = .ok (.invokevirtual 90, 3) := by decide +kernel
theorem dX1_readFence_20 : decode cX1_readFence 20 = .ok (.istore 4, 2) := by decide +kernel
theorem dX1_readFence_22 : decode cX1_readFence 22 = .ok (.iload 4, 2) := by decide +kernel
theorem dX1_readFence_24 : decode cX1_readFence 24 = .ok (.iconst (-1), 1) := by decide +kernel
theorem dX1_readFence_25 : decode cX1_readFence 25 = .ok (.if_icmp .eq 12, 3) := by decide +kernel
theorem dX1_readFence_28 : decode cX1_readFence 28 = .ok (.aload_n 1, 1) := by decide +kernel
theorem dX1_readFence_29 : decode cX1_readFence 29 = .ok (.bipush 64, 2) := by decide +kernel
theorem dX1_readFence_31 : decode cX1_readFence 31 = .ok (.invokevirtual 80, 3) := by decide +kernel
theorem dX1_readFence_34 : decode cX1_readFence 34 = .ok (.ifCond .ne 5, 3) := by decide +kernel
theorem dX1_readFence_37 : decode cX1_readFence 37 = .ok (.iconst 0, 1) := by decide +kernel
theorem dX1_readFence_38 : decode cX1_readFence 38 = .ok (.ireturn, 1) := by decide +kernel
theorem dX1_readFence_39 : decode cX1_readFence 39 = .ok (.aload_n 1, 1) := by decide +kernel
theorem dX1_readFence_40 : decode cX1_readFence 40 = .ok (.iconst 1, 1) := by decide +kernel
theorem dX1_readFence_41 : decode cX1_readFence 41 = .ok (.bipush 9, 2) := by decide +kernel
theorem dX1_readFence_43 : decode cX1_readFence 43 = .ok (.invokevirtual 90, 3) := by decide +kernel
theorem dX1_readFence_46 : decode cX1_readFence 46 = .ok (.istore 5, 2) := by decide +kernel
theorem dX1_readFence_48 : decode cX1_readFence 48 = .ok (.iload 5, 2) := by decide +kernel
theorem dX1_readFence_50 : decode cX1_readFence 50 = .ok (.iconst (-1), 1) := by decide +kernel
theorem dX1_readFence_51 : decode cX1_readFence 51 = .ok (.if_icmp .ne 7, 3) := by decide +kernel
theorem dX1_readFence_54 : decode cX1_readFence 54 = .ok (.iconst (-1), 1) := by decide +kernel
theorem dX1_readFence_55 : decode cX1_readFence 55 = .ok (.goto 10, 3) := by decide +kernel
theorem dX1_readFence_58 : decode cX1_readFence 58 = .ok (.aload_n 1, 1) := by decide +kernel
theorem dX1_readFence_59 : decode cX1_readFence 59 = .ok (.iconst 0, 1) := by decide +kernel
theorem dX1_readFence_60 : decode cX1_readFence 60 = .ok (.bipush 9, 2) := by decide +kernel
theorem dX1_readFence_62 : decode cX1_readFence 62 = .ok (.invokevirtual 90, 3) := by decide +kernel
theorem dX1_readFence_65 : decode cX1_readFence 65 = .ok (.istore 6, 2) := by decide +kernel
theorem dX1_readFence_67 : decode cX1_readFence 67 = .ok (.aload_n 0, 1) := by decide +kernel
theorem dX1_readFence_68 : decode cX1_readFence 68 = .ok (.getfield 21, 3) := by decide +kernel
theorem dX1_readFence_71 : decode cX1_readFence 71 = .ok (.iconst 3, 1) := by decide +kernel
theorem dX1_readFence_72 : decode cX1_readFence 72 = .ok (.iload_n 2, 1) := by decide +kernel
theorem dX1_readFence_73 : decode cX1_readFence 73 = .ok (.imul, 1) := by decide +kernel
theorem dX1_readFence_74 : decode cX1_readFence 74 = .ok (.iload_n 3, 1) := by decide +kernel
theorem dX1_readFence_75 : decode cX1_readFence 75 = .ok (.iastore, 1) := by decide +kernel
theorem dX1_readFence_76 : decode cX1_readFence 76 = .ok (.aload_n 0, 1) := by decide +kernel
theorem dX1_readFence_77 : decode cX1_readFence 77 = .ok (.getfield 21, 3) := by decide +kernel
theorem dX1_readFence_80 : decode cX1_readFence 80 = .ok (.iconst 3, 1) := by decide +kernel
theorem dX1_readFence_81 : decode cX1_readFence 81 = .ok (.iload_n 2, 1) := by decide +kernel
theorem dX1_readFence_82 : decode cX1_readFence 82 = .ok (.imul, 1) := by decide +kernel
theorem dX1_readFence_83 : decode cX1_readFence 83 = .ok (.iconst 1, 1) := by decide +kernel
theorem dX1_readFence_84 : decode cX1_readFence 84 = .ok (.iadd, 1) := by decide +kernel
theorem dX1_readFence_85 : decode cX1_readFence 85 = .ok (.iload 4, 2) := by decide +kernel
theorem dX1_readFence_87 : decode cX1_readFence 87 = .ok (.iastore, 1) := by decide +kernel
theorem dX1_readFence_88 : decode cX1_readFence 88 = .ok (.aload_n 0, 1) := by decide +kernel
theorem dX1_readFence_89 : decode cX1_readFence 89 = .ok (.getfield 21, 3) := by decide +kernel
theorem dX1_readFence_92 : decode cX1_readFence 92 = .ok (.iconst 3, 1) := by decide +kernel
theorem dX1_readFence_93 : decode cX1_readFence 93 = .ok (.iload_n 2, 1) := by decide +kernel
theorem dX1_readFence_94 : decode cX1_readFence 94 = .ok (.imul, 1) := by decide +kernel
theorem dX1_readFence_95 : decode cX1_readFence 95 = .ok (.iconst 2, 1) := by decide +kernel
theorem dX1_readFence_96 : decode cX1_readFence 96 = .ok (.iadd, 1) := by decide +kernel
theorem dX1_readFence_97 : decode cX1_readFence 97 = .ok (.iload 5, 2) := by decide +kernel
theorem dX1_readFence_99 : decode cX1_readFence 99 = .ok (.bipush 10, 2) := by decide +kernel
theorem dX1_readFence_101 : decode cX1_readFence 101 = .ok (.imul, 1) := by decide +kernel
theorem dX1_readFence_102 : decode cX1_readFence 102 = .ok (.iload 6, 2) := by decide +kernel
theorem dX1_readFence_104 : decode cX1_readFence 104 = .ok (.iadd, 1) := by decide +kernel
theorem dX1_readFence_105 : decode cX1_readFence 105 = .ok (.iastore, 1) := by decide +kernel
theorem dX1_readFence_106 : decode cX1_readFence 106 = .ok (.iload 6, 2) := by decide +kernel
theorem dX1_readFence_108 : decode cX1_readFence 108 = .ok (.iconst (-1), 1) := by decide +kernel
theorem dX1_readFence_109 : decode cX1_readFence 109 = .ok (.if_icmp .eq 7, 3) := by decide +kernel
theorem dX1_readFence_112 : decode cX1_readFence 112 = .ok (.iconst 1, 1) := by decide +kernel
theorem dX1_readFence_113 : decode cX1_readFence 113 = .ok (.goto 4, 3) := by decide +kernel
theorem dX1_readFence_116 : decode cX1_readFence 116 = .ok (.iconst 0, 1) := by decide +kernel
theorem dX1_readFence_117 : decode cX1_readFence 117 = .ok (.ireturn, 1) := by decide +kernel
theorem dX1_takeDraft_0 : decode cX1_takeDraft 0 = .ok (.iconst 0, 1) := by decide +kernel
theorem dX1_takeDraft_1 : decode cX1_takeDraft 1 = .ok (.istore_n 2, 1) := by decide +kernel
theorem dX1_takeDraft_2 : decode cX1_takeDraft 2 = .ok (.iload_n 2, 1) := by decide +kernel
theorem dX1_takeDraft_3 : decode cX1_takeDraft 3 = .ok (.iload_n 1, 1) := by decide +kernel
theorem dX1_takeDraft_4 : decode cX1_takeDraft 4 = .ok (.if_icmp .ge 55, 3) := by decide +kernel
theorem dX1_takeDraft_7 : decode cX1_takeDraft 7 = .ok (.aload_n 0, 1) := by decide +kernel
theorem dX1_takeDraft_8 : decode cX1_takeDraft 8 = .ok (.getfield 11, 3) := by decide +kernel
theorem dX1_takeDraft_11 : decode cX1_takeDraft 11 = .ok (.iload_n 2, 1) := by decide +kernel
theorem dX1_takeDraft_12 : decode cX1_takeDraft 12 = .ok (.aload_n 0, 1) := by decide +kernel
theorem dX1_takeDraft_13 : decode cX1_takeDraft 13 = .ok (.getfield 21, 3) := by decide +kernel
theorem dX1_takeDraft_16 : decode cX1_takeDraft 16 = .ok (.iconst 3, 1) := by decide +kernel
theorem dX1_takeDraft_17 : decode cX1_takeDraft 17 = .ok (.iload_n 2, 1) := by decide +kernel
theorem dX1_takeDraft_18 : decode cX1_takeDraft 18 = .ok (.imul, 1) := by decide +kernel
theorem dX1_takeDraft_19 : decode cX1_takeDraft 19 = .ok (.iaload, 1) := by decide +kernel
theorem dX1_takeDraft_20 : decode cX1_takeDraft 20 = .ok (.iastore, 1) := by decide +kernel
theorem dX1_takeDraft_21 : decode cX1_takeDraft 21 = .ok (.aload_n 0, 1) := by decide +kernel
theorem dX1_takeDraft_22 : decode cX1_takeDraft 22 = .ok (.getfield 15, 3) := by decide +kernel
theorem dX1_takeDraft_25 : decode cX1_takeDraft 25 = .ok (.iload_n 2, 1) := by decide +kernel
theorem dX1_takeDraft_26 : decode cX1_takeDraft 26 = .ok (.aload_n 0, 1) := by decide +kernel
theorem dX1_takeDraft_27 : decode cX1_takeDraft 27 = .ok (.getfield 21, 3) := by decide +kernel
theorem dX1_takeDraft_30 : decode cX1_takeDraft 30 = .ok (.iconst 3, 1) := by decide +kernel
theorem dX1_takeDraft_31 : decode cX1_takeDraft 31 = .ok (.iload_n 2, 1) := by decide +kernel
theorem dX1_takeDraft_32 : decode cX1_takeDraft 32 = .ok (.imul, 1) := by decide +kernel
theorem dX1_takeDraft_33 : decode cX1_takeDraft 33 = .ok (.iconst 1, 1) := by decide +kernel
theorem dX1_takeDraft_34 : decode cX1_takeDraft 34 = .ok (.iadd, 1) := by decide +kernel
theorem dX1_takeDraft_35 : decode cX1_takeDraft 35 = .ok (.iaload, 1) := by decide +kernel
theorem dX1_takeDraft_36 : decode cX1_takeDraft 36 = .ok (.iastore, 1) := by decide +kernel
theorem dX1_takeDraft_37 : decode cX1_takeDraft 37 = .ok (.aload_n 0, 1) := by decide +kernel
theorem dX1_takeDraft_38 : decode cX1_takeDraft 38 = .ok (.getfield 18, 3) := by decide +kernel
theorem dX1_takeDraft_41 : decode cX1_takeDraft 41 = .ok (.iload_n 2, 1) := by decide +kernel
theorem dX1_takeDraft_42 : decode cX1_takeDraft 42 = .ok (.aload_n 0, 1) := by decide +kernel
theorem dX1_takeDraft_43 : decode cX1_takeDraft 43 = .ok (.getfield 21, 3) := by decide +kernel
theorem dX1_takeDraft_46 : decode cX1_takeDraft 46 = .ok (.iconst 3, 1) := by decide +kernel
theorem dX1_takeDraft_47 : decode cX1_takeDraft 47 = .ok (.iload_n 2, 1) := by decide +kernel
theorem dX1_takeDraft_48 : decode cX1_takeDraft 48 = .ok (.imul, 1) := by decide +kernel
theorem dX1_takeDraft_49 : decode cX1_takeDraft 49 = .ok (.iconst 2, 1) := by decide +kernel
theorem dX1_takeDraft_50 : decode cX1_takeDraft 50 = .ok (.iadd, 1) := by decide +kernel
theorem dX1_takeDraft_51 : decode cX1_takeDraft 51 = .ok (.iaload, 1) := by decide +kernel
theorem dX1_takeDraft_52 : decode cX1_takeDraft 52 = .ok (.iastore, 1) := by decide +kernel
theorem dX1_takeDraft_53 : decode cX1_takeDraft 53 = .ok (.iinc 2 1, 3) := by decide +kernel
theorem dX1_takeDraft_56 : decode cX1_takeDraft 56 = .ok (.goto (-54), 3) := by decide +kernel
theorem dX1_takeDraft_59 : decode cX1_takeDraft 59 = .ok (.aload_n 0, 1) := by decide +kernel
theorem dX1_takeDraft_60 : decode cX1_takeDraft 60 = .ok (.iload_n 1, 1) := by decide +kernel
theorem dX1_takeDraft_61 : decode cX1_takeDraft 61 = .ok (.putfield 50, 3) := by decide +kernel
theorem dX1_takeDraft_64 : decode cX1_takeDraft 64 = .ok (.aload_n 0, 1) := by decide +kernel
theorem dX1_takeDraft_65 : decode cX1_takeDraft 65 = .ok (.iconst 0, 1) := by decide +kernel
theorem dX1_takeDraft_66 : decode cX1_takeDraft 66 = .ok (.putfield 56, 3) := by decide +kernel
theorem dX1_takeDraft_69 : decode cX1_takeDraft 69 = .ok (.return_, 1) := by decide +kernel
theorem dX1_readHorses_0 : decode cX1_readHorses 0 = .ok (.aload_n 1, 1) := by decide +kernel
theorem dX1_readHorses_1 : decode cX1_readHorses 1 = .ok (.bipush 76, 2) := by decide +kernel
theorem dX1_readHorses_3 : decode cX1_readHorses 3 = .ok (.invokevirtual 59, 3) := by decide +kernel
theorem dX1_readHorses_6 : decode cX1_readHorses 6 = .ok (.aload_n 1, 1) := by decide +kernel
theorem dX1_readHorses_7 : decode cX1_readHorses 7 = .ok (.invokevirtual 73, 3) := by decide +kernel
theorem dX1_readHorses_10 : decode cX1_readHorses 10 = .ok (.ifCond .eq 5, 3) := by decide +kernel
theorem dX1_readHorses_13 : decode cX1_readHorses 13 = .ok (.iconst 0, 1) := by decide +kernel
theorem dX1_readHorses_14 : decode cX1_readHorses 14 = .ok (.ireturn, 1) := by decide +kernel
theorem dX1_readHorses_15 : decode cX1_readHorses 15 = .ok (.iconst 0, 1) := by decide +kernel
theorem dX1_readHorses_16 : decode cX1_readHorses 16 = .ok (.istore_n 2, 1) := by decide +kernel
theorem dX1_readHorses_17 : decode cX1_readHorses 17 = .ok (.aload_n 0, 1) := by decide +kernel
theorem dX1_readHorses_18 : decode cX1_readHorses 18 = .ok (.getfield 53, 3) := by decide +kernel
theorem dX1_readHorses_21 : decode cX1_readHorses 21 = .ok (.iload_n 2, 1) := by decide +kernel
theorem dX1_readHorses_22 : decode cX1_readHorses 22 = .ok (.iadd, 1) := by decide +kernel
theorem dX1_readHorses_23 : decode cX1_readHorses 23 = .ok (.bipush 6, 2) := by decide +kernel
theorem dX1_readHorses_25 : decode cX1_readHorses 25 = .ok (.if_icmp .ge 65, 3) := by decide +kernel
theorem dX1_readHorses_28 : decode cX1_readHorses 28 = .ok (.aload_n 0, 1) := by decide +kernel
theorem dX1_readHorses_29 : decode cX1_readHorses 29 = .ok (.aload_n 1, 1) := by decide +kernel
theorem dX1_readHorses_30 : decode cX1_readHorses 30 = .ok (.aload_n 0, 1) := by decide +kernel
theorem dX1_readHorses_31 : decode cX1_readHorses 31 = .ok (.getfield 53, 3) := by decide +kernel
theorem dX1_readHorses_34 : decode cX1_readHorses 34 = .ok (.iload_n 2, 1) := by decide +kernel
theorem dX1_readHorses_35 : decode cX1_readHorses 35 = .ok (.iadd, 1) := by decide +kernel
theorem dX1_readHorses_36 : decode cX1_readHorses 36 = .ok (.invokevirtual 94, 3) := by decide +kernel
theorem dX1_readHorses_39 : decode cX1_readHorses 39 = .ok (.ifCond .ne 8, 3) := by decide +kernel
theorem dX1_readHorses_42 : decode cX1_readHorses 42 = .ok (.aload_n 1, 1) := by decide +kernel
theorem dX1_readHorses_43 : decode cX1_readHorses 43 = .ok (.invokevirtual 69, 3) := by decide +kernel
theorem dX1_readHorses_46 : decode cX1_readHorses 46 = .ok (.ireturn, 1) := by decide +kernel
theorem dX1_readHorses_47 : decode cX1_readHorses 47 = .ok (.aload_n 1, 1) := by decide +kernel
theorem dX1_readHorses_48 : decode cX1_readHorses 48 = .ok (.invokevirtual 73, 3) := by decide +kernel
theorem dX1_readHorses_51 : decode cX1_readHorses 51 = .ok (.ifCond .eq 19, 3) := by decide +kernel
theorem dX1_readHorses_54 : decode cX1_readHorses 54 = .ok (.aload_n 0, 1) := by decide +kernel
theorem dX1_readHorses_55 : decode cX1_readHorses 55 = .ok (.dup, 1) := by decide +kernel
theorem dX1_readHorses_56 : decode cX1_readHorses 56 = .ok (.getfield 53, 3) := by decide +kernel
theorem dX1_readHorses_59 : decode cX1_readHorses 59 = .ok (.iload_n 2, 1) := by decide +kernel
theorem dX1_readHorses_60 : decode cX1_readHorses 60 = .ok (.iconst 1, 1) := by decide +kernel
theorem dX1_readHorses_61 : decode cX1_readHorses 61 = .ok (.iadd, 1) := by decide +kernel
theorem dX1_readHorses_62 : decode cX1_readHorses 62 = .ok (.iadd, 1) := by decide +kernel
theorem dX1_readHorses_63 : decode cX1_readHorses 63 = .ok (.putfield 53, 3) := by decide +kernel
theorem dX1_readHorses_66 : decode cX1_readHorses 66 = .ok (.iload_n 2, 1) := by decide +kernel
theorem dX1_readHorses_67 : decode cX1_readHorses 67 = .ok (.iconst 1, 1) := by decide +kernel
theorem dX1_readHorses_68 : decode cX1_readHorses 68 = .ok (.iadd, 1) := by decide +kernel
theorem dX1_readHorses_69 : decode cX1_readHorses 69 = .ok (.ireturn, 1) := by decide +kernel
theorem dX1_readHorses_70 : decode cX1_readHorses 70 = .ok (.aload_n 1, 1) := by decide +kernel
theorem dX1_readHorses_71 : decode cX1_readHorses 71 = .ok (.bipush 59, 2) := by decide +kernel
theorem dX1_readHorses_73 : decode cX1_readHorses 73 = .ok (.invokevirtual 80, 3) := by decide +kernel
theorem dX1_readHorses_76 : decode cX1_readHorses 76 = .ok (.ifCond .ne 8, 3) := by decide +kernel
theorem dX1_readHorses_79 : decode cX1_readHorses 79 = .ok (.aload_n 1, 1) := by decide +kernel
theorem dX1_readHorses_80 : decode cX1_readHorses 80 = .ok (.invokevirtual 69, 3) := by decide +kernel
theorem dX1_readHorses_83 : decode cX1_readHorses 83 = .ok (.ireturn, 1) := by decide +kernel
theorem dX1_readHorses_84 : decode cX1_readHorses 84 = .ok (.iinc 2 1, 3) := by decide +kernel
theorem dX1_readHorses_87 : decode cX1_readHorses 87 = .ok (.goto (-70), 3) := by decide +kernel
theorem dX1_readHorses_90 : decode cX1_readHorses 90 = .ok (.aload_n 1, 1) := by decide +kernel
theorem dX1_readHorses_91 : decode cX1_readHorses 91 = .ok (.invokevirtual 69, 3) := by decide +kernel
theorem dX1_readHorses_94 : decode cX1_readHorses 94 = .ok (.ireturn, 1) := by decide +kernel
theorem dX1_readHorse_0 : decode cX1_readHorse 0 = .ok (.iconst 0, 1) := by decide +kernel
theorem dX1_readHorse_1 : decode cX1_readHorse 1 = .ok (.istore_n 3, 1) := by decide +kernel
theorem dX1_readHorse_2 : decode cX1_readHorse 2 = .ok (.iload_n 3, 1) := by decide +kernel
theorem dX1_readHorse_3 : decode cX1_readHorse 3 = .ok (.bipush 6, 2) := by decide +kernel
theorem dX1_readHorse_5 : decode cX1_readHorse 5 = .ok (.if_icmp .ge 47, 3) := by decide +kernel
theorem dX1_readHorse_8 : decode cX1_readHorse 8 = .ok (.aload_n 1, 1) := by decide +kernel
theorem dX1_readHorse_9 : decode cX1_readHorse 9 = .ok (.iload_n 3, 1) := by decide +kernel
theorem dX1_readHorse_10 : decode cX1_readHorse 10 = .ok (.ifCond .ne 7, 3) := by decide +kernel
theorem dX1_readHorse_13 : decode cX1_readHorse 13 = .ok (.iconst 3, 1) := by decide +kernel
theorem dX1_readHorse_14 : decode cX1_readHorse 14 = .ok (.goto 4, 3) := by decide +kernel
theorem dX1_readHorse_17 : decode cX1_readHorse 17 = .ok (.iconst 0, 1) := by decide +kernel
theorem dX1_readHorse_18 : decode cX1_readHorse 18 = .ok (.bipush 9, 2) := by decide +kernel
theorem dX1_readHorse_20 : decode cX1_readHorse 20 = .ok (.invokevirtual 90, 3) := by decide +kernel
theorem dX1_readHorse_23 : decode cX1_readHorse 23 = .ok (.istore 4, 2) := by decide +kernel
theorem dX1_readHorse_25 : decode cX1_readHorse 25 = .ok (.iload 4, 2) := by decide +kernel
theorem dX1_readHorse_27 : decode cX1_readHorse 27 = .ok (.iconst (-1), 1) := by decide +kernel
theorem dX1_readHorse_28 : decode cX1_readHorse 28 = .ok (.if_icmp .ne 5, 3) := by decide +kernel
theorem dX1_readHorse_31 : decode cX1_readHorse 31 = .ok (.iconst 0, 1) := by decide +kernel
theorem dX1_readHorse_32 : decode cX1_readHorse 32 = .ok (.ireturn, 1) := by decide +kernel
theorem dX1_readHorse_33 : decode cX1_readHorse 33 = .ok (.aload_n 0, 1) := by decide +kernel
theorem dX1_readHorse_34 : decode cX1_readHorse 34 = .ok (.getfield 24, 3) := by decide +kernel
theorem dX1_readHorse_37 : decode cX1_readHorse 37 = .ok (.iload_n 2, 1) := by decide +kernel
theorem dX1_readHorse_38 : decode cX1_readHorse 38 = .ok (.bipush 6, 2) := by decide +kernel
theorem dX1_readHorse_40 : decode cX1_readHorse 40 = .ok (.imul, 1) := by decide +kernel
theorem dX1_readHorse_41 : decode cX1_readHorse 41 = .ok (.iload_n 3, 1) := by decide +kernel
theorem dX1_readHorse_42 : decode cX1_readHorse 42 = .ok (.iadd, 1) := by decide +kernel
theorem dX1_readHorse_43 : decode cX1_readHorse 43 = .ok (.iload 4, 2) := by decide +kernel
theorem dX1_readHorse_45 : decode cX1_readHorse 45 = .ok (.iastore, 1) := by decide +kernel
theorem dX1_readHorse_46 : decode cX1_readHorse 46 = .ok (.iinc 3 1, 3) := by decide +kernel
theorem dX1_readHorse_49 : decode cX1_readHorse 49 = .ok (.goto (-47), 3) := by decide +kernel
theorem dX1_readHorse_52 : decode cX1_readHorse 52 = .ok (.iconst 1, 1) := by decide +kernel
theorem dX1_readHorse_53 : decode cX1_readHorse 53 = .ok (.ireturn, 1) := by decide +kernel
theorem dX1_readPlan_0 : decode cX1_readPlan 0 = .ok (.aload_n 0, 1) := by decide +kernel
theorem dX1_readPlan_1 : decode cX1_readPlan 1 = .ok (.getfield 56, 3) := by decide +kernel
theorem dX1_readPlan_4 : decode cX1_readPlan 4 = .ok (.bipush 6, 2) := by decide +kernel
theorem dX1_readPlan_6 : decode cX1_readPlan 6 = .ok (.if_icmp .lt 6, 3) := by decide +kernel
theorem dX1_readPlan_9 : decode cX1_readPlan 9 = .ok (.bipush (-100), 2) := by decide +kernel
theorem dX1_readPlan_11 : decode cX1_readPlan 11 = .ok (.ireturn, 1) := by decide +kernel
theorem dX1_readPlan_12 : decode cX1_readPlan 12 = .ok (.aload_n 1, 1) := by decide +kernel
theorem dX1_readPlan_13 : decode cX1_readPlan 13 = .ok (.bipush 80, 2) := by decide +kernel
theorem dX1_readPlan_15 : decode cX1_readPlan 15 = .ok (.invokevirtual 59, 3) := by decide +kernel
theorem dX1_readPlan_18 : decode cX1_readPlan 18 = .ok (.iconst 0, 1) := by decide +kernel
theorem dX1_readPlan_19 : decode cX1_readPlan 19 = .ok (.istore_n 2, 1) := by decide +kernel
theorem dX1_readPlan_20 : decode cX1_readPlan 20 = .ok (.iload_n 2, 1) := by decide +kernel
theorem dX1_readPlan_21 : decode cX1_readPlan 21 = .ok (.aload_n 0, 1) := by decide +kernel
theorem dX1_readPlan_22 : decode cX1_readPlan 22 = .ok (.getfield 50, 3) := by decide +kernel
theorem dX1_readPlan_25 : decode cX1_readPlan 25 = .ok (.if_icmp .ge 40, 3) := by decide +kernel
theorem dX1_readPlan_28 : decode cX1_readPlan 28 = .ok (.aload_n 1, 1) := by decide +kernel
theorem dX1_readPlan_29 : decode cX1_readPlan 29 = .ok (.ldc 97, 2) := by decide +kernel
theorem dX1_readPlan_31 : decode cX1_readPlan 31 = .ok (.invokevirtual 86, 3) := by decide +kernel
theorem dX1_readPlan_34 : decode cX1_readPlan 34 = .ok (.istore_n 3, 1) := by decide +kernel
theorem dX1_readPlan_35 : decode cX1_readPlan 35 = .ok (.iload_n 3, 1) := by decide +kernel
theorem dX1_readPlan_36 : decode cX1_readPlan 36 = .ok (.ifCond .ge 8, 3) := by decide +kernel
theorem dX1_readPlan_39 : decode cX1_readPlan 39 = .ok (.aload_n 1, 1) := by decide +kernel
theorem dX1_readPlan_40 : decode cX1_readPlan 40 = .ok (.invokevirtual 69, 3) := by decide +kernel
theorem dX1_readPlan_43 : decode cX1_readPlan 43 = .ok (.ireturn, 1) := by decide +kernel
theorem dX1_readPlan_44 : decode cX1_readPlan 44 = .ok (.aload_n 0, 1) := by decide +kernel
theorem dX1_readPlan_45 : decode cX1_readPlan 45 = .ok (.getfield 27, 3) := by decide +kernel
theorem dX1_readPlan_48 : decode cX1_readPlan 48 = .ok (.aload_n 0, 1) := by decide +kernel
theorem dX1_readPlan_49 : decode cX1_readPlan 49 = .ok (.getfield 56, 3) := by decide +kernel
theorem dX1_readPlan_52 : decode cX1_readPlan 52 = .ok (.bipush 8, 2) := by decide +kernel
theorem dX1_readPlan_54 : decode cX1_readPlan 54 = .ok (.imul, 1) := by decide +kernel
theorem dX1_readPlan_55 : decode cX1_readPlan 55 = .ok (.iload_n 2, 1) := by decide +kernel
theorem dX1_readPlan_56 : decode cX1_readPlan 56 = .ok (.iadd, 1) := by decide +kernel
theorem dX1_readPlan_57 : decode cX1_readPlan 57 = .ok (.iload_n 3, 1) := by decide +kernel
theorem dX1_readPlan_58 : decode cX1_readPlan 58 = .ok (.iastore, 1) := by decide +kernel
theorem dX1_readPlan_59 : decode cX1_readPlan 59 = .ok (.iinc 2 1, 3) := by decide +kernel
theorem dX1_readPlan_62 : decode cX1_readPlan 62 = .ok (.goto (-42), 3) := by decide +kernel
theorem dX1_readPlan_65 : decode cX1_readPlan 65 = .ok (.aload_n 1, 1) := by decide +kernel
theorem dX1_readPlan_66 : decode cX1_readPlan 66 = .ok (.invokevirtual 73, 3) := by decide +kernel
theorem dX1_readPlan_69 : decode cX1_readPlan 69 = .ok (.ifCond .ne 8, 3) := by decide +kernel
theorem dX1_readPlan_72 : decode cX1_readPlan 72 = .ok (.aload_n 1, 1) := by decide +kernel
theorem dX1_readPlan_73 : decode cX1_readPlan 73 = .ok (.invokevirtual 69, 3) := by decide +kernel
theorem dX1_readPlan_76 : decode cX1_readPlan 76 = .ok (.ireturn, 1) := by decide +kernel
theorem dX1_readPlan_77 : decode cX1_readPlan 77 = .ok (.aload_n 0, 1) := by decide +kernel
theorem dX1_readPlan_78 : decode cX1_readPlan 78 = .ok (.dup, 1) := by decide +kernel
theorem dX1_readPlan_79 : decode cX1_readPlan 79 = .ok (.getfield 56, 3) := by decide +kernel
theorem dX1_readPlan_82 : decode cX1_readPlan 82 = .ok (.iconst 1, 1) := by decide +kernel
theorem dX1_readPlan_83 : decode cX1_readPlan 83 = .ok (.iadd, 1) := by decide +kernel
theorem dX1_readPlan_84 : decode cX1_readPlan 84 = .ok (.putfield 56, 3) := by decide +kernel
theorem dX1_readPlan_87 : decode cX1_readPlan 87 = .ok (.aload_n 0, 1) := by decide +kernel
theorem dX1_readPlan_88 : decode cX1_readPlan 88 = .ok (.getfield 56, 3) := by decide +kernel
theorem dX1_readPlan_91 : decode cX1_readPlan 91 = .ok (.iconst 1, 1) := by decide +kernel
theorem dX1_readPlan_92 : decode cX1_readPlan 92 = .ok (.isub, 1) := by decide +kernel
theorem dX1_readPlan_93 : decode cX1_readPlan 93 = .ok (.ireturn, 1) := by decide +kernel
theorem dX1_ofHorse_0 : decode cX1_ofHorse 0 = .ok (.aload_n 0, 1) := by decide +kernel
theorem dX1_ofHorse_1 : decode cX1_ofHorse 1 = .ok (.getfield 24, 3) := by decide +kernel
theorem dX1_ofHorse_4 : decode cX1_ofHorse 4 = .ok (.iload_n 1, 1) := by decide +kernel
theorem dX1_ofHorse_5 : decode cX1_ofHorse 5 = .ok (.bipush 6, 2) := by decide +kernel
theorem dX1_ofHorse_7 : decode cX1_ofHorse 7 = .ok (.imul, 1) := by decide +kernel
theorem dX1_ofHorse_8 : decode cX1_ofHorse 8 = .ok (.iload_n 2, 1) := by decide +kernel
theorem dX1_ofHorse_9 : decode cX1_ofHorse 9 = .ok (.iadd, 1) := by decide +kernel
theorem dX1_ofHorse_10 : decode cX1_ofHorse 10 = .ok (.iaload, 1) := by decide +kernel
theorem dX1_ofHorse_11 : decode cX1_ofHorse 11 = .ok (.ireturn, 1) := by decide +kernel
theorem dX1_letterAt_0 : decode cX1_letterAt 0 = .ok (.aload_n 0, 1) := by decide +kernel
theorem dX1_letterAt_1 : decode cX1_letterAt 1 = .ok (.getfield 27, 3) := by decide +kernel
theorem dX1_letterAt_4 : decode cX1_letterAt 4 = .ok (.iload_n 1, 1) := by decide +kernel
theorem dX1_letterAt_5 : decode cX1_letterAt 5 = .ok (.bipush 8, 2) := by decide +kernel
theorem dX1_letterAt_7 : decode cX1_letterAt 7 = .ok (.imul, 1) := by decide +kernel
theorem dX1_letterAt_8 : decode cX1_letterAt 8 = .ok (.iload_n 2, 1) := by decide +kernel
theorem dX1_letterAt_9 : decode cX1_letterAt 9 = .ok (.iadd, 1) := by decide +kernel
theorem dX1_letterAt_10 : decode cX1_letterAt 10 = .ok (.iaload, 1) := by decide +kernel
theorem dX1_letterAt_11 : decode cX1_letterAt 11 = .ok (.ireturn, 1) := by decide +kernel
theorem dX1_isCut_0 : decode cX1_isCut 0 = .ok (.iload_n 0, 1) := by decide +kernel
theorem dX1_isCut_1 : decode cX1_isCut 1 = .ok (.iconst 4, 1) := by decide +kernel
theorem dX1_isCut_2 : decode cX1_isCut 2 = .ok (.if_icmp .lt 7, 3) := by decide +kernel
theorem dX1_isCut_5 : decode cX1_isCut 5 = .ok (.iconst 1, 1) := by decide +kernel
theorem dX1_isCut_6 : decode cX1_isCut 6 = .ok (.goto 4, 3) := by decide +kernel
theorem dX1_isCut_9 : decode cX1_isCut 9 = .ok (.iconst 0, 1) := by decide +kernel
theorem dX1_isCut_10 : decode cX1_isCut 10 = .ok (.ireturn, 1) := by decide +kernel
theorem dX1_lean_0 : decode cX1_lean 0 = .ok (.iload_n 1, 1) := by decide +kernel
theorem dX1_lean_1 : decode cX1_lean 1 = .ok (.ifCond .gt 5, 3) := by decide +kernel
theorem dX1_lean_4 : decode cX1_lean 4 = .ok (.iconst 0, 1) := by decide +kernel
theorem dX1_lean_5 : decode cX1_lean 5 = .ok (.ireturn, 1) := by decide +kernel
theorem dX1_lean_6 : decode cX1_lean 6 = .ok (.iload_n 0, 1) := by decide +kernel
theorem dX1_lean_7 : decode cX1_lean 7 = .ok (.iload_n 1, 1) := by decide +kernel
theorem dX1_lean_8 : decode cX1_lean 8 = .ok (.irem, 1) := by decide +kernel
theorem dX1_lean_9 : decode cX1_lean 9 = .ok (.istore_n 2, 1) := by decide +kernel
theorem dX1_lean_10 : decode cX1_lean 10 = .ok (.iload_n 2, 1) := by decide +kernel
theorem dX1_lean_11 : decode cX1_lean 11 = .ok (.iload_n 1, 1) := by decide +kernel
theorem dX1_lean_12 : decode cX1_lean 12 = .ok (.iload_n 2, 1) := by decide +kernel
theorem dX1_lean_13 : decode cX1_lean 13 = .ok (.isub, 1) := by decide +kernel
theorem dX1_lean_14 : decode cX1_lean 14 = .ok (.invokestatic 99, 3) := by decide +kernel
theorem dX1_lean_17 : decode cX1_lean 17 = .ok (.ireturn, 1) := by decide +kernel
theorem dX1_leanAt_0 : decode cX1_leanAt 0 = .ok (.aload_n 0, 1) := by decide +kernel
theorem dX1_leanAt_1 : decode cX1_leanAt 1 = .ok (.getfield 18, 3) := by decide +kernel
theorem dX1_leanAt_4 : decode cX1_leanAt 4 = .ok (.iload_n 2, 1) := by decide +kernel
theorem dX1_leanAt_5 : decode cX1_leanAt 5 = .ok (.iaload, 1) := by decide +kernel
theorem dX1_leanAt_6 : decode cX1_leanAt 6 = .ok (.aload_n 0, 1) := by decide +kernel
theorem dX1_leanAt_7 : decode cX1_leanAt 7 = .ok (.iload_n 1, 1) := by decide +kernel
theorem dX1_leanAt_8 : decode cX1_leanAt 8 = .ok (.iconst 0, 1) := by decide +kernel
theorem dX1_leanAt_9 : decode cX1_leanAt 9 = .ok (.invokevirtual 104, 3) := by decide +kernel
theorem dX1_leanAt_12 : decode cX1_leanAt 12 = .ok (.invokestatic 107, 3) := by decide +kernel
theorem dX1_leanAt_15 : decode cX1_leanAt 15 = .ok (.ireturn, 1) := by decide +kernel
theorem dX1_fenceTenths_0 : decode cX1_fenceTenths 0 = .ok (.aload_n 0, 1) := by decide +kernel
theorem dX1_fenceTenths_1 : decode cX1_fenceTenths 1 = .ok (.getfield 18, 3) := by decide +kernel
theorem dX1_fenceTenths_4 : decode cX1_fenceTenths 4 = .ok (.iload_n 1, 1) := by decide +kernel
theorem dX1_fenceTenths_5 : decode cX1_fenceTenths 5 = .ok (.iaload, 1) := by decide +kernel
theorem dX1_fenceTenths_6 : decode cX1_fenceTenths 6 = .ok (.bipush 6, 2) := by decide +kernel
theorem dX1_fenceTenths_8 : decode cX1_fenceTenths 8 = .ok (.iload_n 2, 1) := by decide +kernel
theorem dX1_fenceTenths_9 : decode cX1_fenceTenths 9 = .ok (.iconst 4, 1) := by decide +kernel
theorem dX1_fenceTenths_10 : decode cX1_fenceTenths 10 = .ok (.irem, 1) := by decide +kernel
theorem dX1_fenceTenths_11 : decode cX1_fenceTenths 11 = .ok (.isub, 1) := by decide +kernel
theorem dX1_fenceTenths_12 : decode cX1_fenceTenths 12 = .ok (.imul, 1) := by decide +kernel
theorem dX1_fenceTenths_13 : decode cX1_fenceTenths 13 = .ok (.iconst 4, 1) := by decide +kernel
theorem dX1_fenceTenths_14 : decode cX1_fenceTenths 14 = .ok (.idiv, 1) := by decide +kernel
theorem dX1_fenceTenths_15 : decode cX1_fenceTenths 15 = .ok (.istore_n 3, 1) := by decide +kernel
theorem dX1_fenceTenths_16 : decode cX1_fenceTenths 16 = .ok (.iload_n 2, 1) := by decide +kernel
theorem dX1_fenceTenths_17 : decode cX1_fenceTenths 17 = .ok (.invokestatic 110, 3) := by decide +kernel
theorem dX1_fenceTenths_20 : decode cX1_fenceTenths 20 = .ok (.ifCond .eq 14, 3) := by decide +kernel
theorem dX1_fenceTenths_23 : decode cX1_fenceTenths 23 = .ok (.iload_n 3, 1) := by decide +kernel
theorem dX1_fenceTenths_24 : decode cX1_fenceTenths 24 = .ok (.aload_n 0, 1) := by decide +kernel
theorem dX1_fenceTenths_25 : decode cX1_fenceTenths 25 = .ok (.getfield 18, 3) := by decide +kernel
theorem dX1_fenceTenths_28 : decode cX1_fenceTenths 28 = .ok (.iload_n 1, 1) := by decide +kernel
theorem dX1_fenceTenths_29 : decode cX1_fenceTenths 29 = .ok (.iaload, 1) := by decide +kernel
theorem dX1_fenceTenths_30 : decode cX1_fenceTenths 30 = .ok (.iconst 4, 1) := by decide +kernel
theorem dX1_fenceTenths_31 : decode cX1_fenceTenths 31 = .ok (.idiv, 1) := by decide +kernel
theorem dX1_fenceTenths_32 : decode cX1_fenceTenths 32 = .ok (.isub, 1) := by decide +kernel
theorem dX1_fenceTenths_33 : decode cX1_fenceTenths 33 = .ok (.istore_n 3, 1) := by decide +kernel
theorem dX1_fenceTenths_34 : decode cX1_fenceTenths 34 = .ok (.aload_n 0, 1) := by decide +kernel
theorem dX1_fenceTenths_35 : decode cX1_fenceTenths 35 = .ok (.getfield 11, 3) := by decide +kernel
theorem dX1_fenceTenths_38 : decode cX1_fenceTenths 38 = .ok (.iload_n 1, 1) := by decide +kernel
theorem dX1_fenceTenths_39 : decode cX1_fenceTenths 39 = .ok (.iaload, 1) := by decide +kernel
theorem dX1_fenceTenths_40 : decode cX1_fenceTenths 40 = .ok (.iconst 2, 1) := by decide +kernel
theorem dX1_fenceTenths_41 : decode cX1_fenceTenths 41 = .ok (.if_icmp .ne 6, 3) := by decide +kernel
theorem dX1_fenceTenths_44 : decode cX1_fenceTenths 44 = .ok (.iinc 3 2, 3) := by decide +kernel
theorem dX1_fenceTenths_47 : decode cX1_fenceTenths 47 = .ok (.iconst 1, 1) := by decide +kernel
theorem dX1_fenceTenths_48 : decode cX1_fenceTenths 48 = .ok (.iload_n 3, 1) := by decide +kernel
theorem dX1_fenceTenths_49 : decode cX1_fenceTenths 49 = .ok (.invokestatic 114, 3) := by decide +kernel
theorem dX1_fenceTenths_52 : decode cX1_fenceTenths 52 = .ok (.ireturn, 1) := by decide +kernel
theorem dX1_planTenths_0 : decode cX1_planTenths 0 = .ok (.iconst 0, 1) := by decide +kernel
theorem dX1_planTenths_1 : decode cX1_planTenths 1 = .ok (.istore_n 2, 1) := by decide +kernel
theorem dX1_planTenths_2 : decode cX1_planTenths 2 = .ok (.iconst 0, 1) := by decide +kernel
theorem dX1_planTenths_3 : decode cX1_planTenths 3 = .ok (.istore_n 3, 1) := by decide +kernel
theorem dX1_planTenths_4 : decode cX1_planTenths 4 = .ok (.iload_n 3, 1) := by decide +kernel
theorem dX1_planTenths_5 : decode cX1_planTenths 5 = .ok (.aload_n 0, 1) := by decide +kernel
theorem dX1_planTenths_6 : decode cX1_planTenths 6 = .ok (.getfield 50, 3) := by decide +kernel
theorem dX1_planTenths_9 : decode cX1_planTenths 9 = .ok (.if_icmp .ge 23, 3) := by decide +kernel
theorem dX1_planTenths_12 : decode cX1_planTenths 12 = .ok (.iload_n 2, 1) := by decide +kernel
theorem dX1_planTenths_13 : decode cX1_planTenths 13 = .ok (.aload_n 0, 1) := by decide +kernel
theorem dX1_planTenths_14 : decode cX1_planTenths 14 = .ok (.iload_n 3, 1) := by decide +kernel
theorem dX1_planTenths_15 : decode cX1_planTenths 15 = .ok (.aload_n 0, 1) := by decide +kernel
theorem dX1_planTenths_16 : decode cX1_planTenths 16 = .ok (.iload_n 1, 1) := by decide +kernel
theorem dX1_planTenths_17 : decode cX1_planTenths 17 = .ok (.iload_n 3, 1) := by decide +kernel
theorem dX1_planTenths_18 : decode cX1_planTenths 18 = .ok (.invokevirtual 117, 3) := by decide +kernel
theorem dX1_planTenths_21 : decode cX1_planTenths 21 = .ok (.invokevirtual 120, 3) := by decide +kernel
theorem dX1_planTenths_24 : decode cX1_planTenths 24 = .ok (.iadd, 1) := by decide +kernel
theorem dX1_planTenths_25 : decode cX1_planTenths 25 = .ok (.istore_n 2, 1) := by decide +kernel
theorem dX1_planTenths_26 : decode cX1_planTenths 26 = .ok (.iinc 3 1, 3) := by decide +kernel
theorem dX1_planTenths_29 : decode cX1_planTenths 29 = .ok (.goto (-25), 3) := by decide +kernel
theorem dX1_planTenths_32 : decode cX1_planTenths 32 = .ok (.iload_n 2, 1) := by decide +kernel
theorem dX1_planTenths_33 : decode cX1_planTenths 33 = .ok (.ireturn, 1) := by decide +kernel
theorem dX1_refusalOdds_0 : decode cX1_refusalOdds 0 = .ok (.iconst 0, 1) := by decide +kernel
theorem dX1_refusalOdds_1 : decode cX1_refusalOdds 1 = .ok (.bipush 8, 2) := by decide +kernel
theorem dX1_refusalOdds_3 : decode cX1_refusalOdds 3 = .ok (.aload_n 0, 1) := by decide +kernel
theorem dX1_refusalOdds_4 : decode cX1_refusalOdds 4 = .ok (.iload_n 1, 1) := by decide +kernel
theorem dX1_refusalOdds_5 : decode cX1_refusalOdds 5 = .ok (.iload_n 2, 1) := by decide +kernel
theorem dX1_refusalOdds_6 : decode cX1_refusalOdds 6 = .ok (.invokevirtual 123, 3) := by decide +kernel
theorem dX1_refusalOdds_9 : decode cX1_refusalOdds 9 = .ok (.iconst 2, 1) := by decide +kernel
theorem dX1_refusalOdds_10 : decode cX1_refusalOdds 10 = .ok (.isub, 1) := by decide +kernel
theorem dX1_refusalOdds_11 : decode cX1_refusalOdds 11 = .ok (.imul, 1) := by decide +kernel
theorem dX1_refusalOdds_12 : decode cX1_refusalOdds 12 = .ok (.invokestatic 114, 3) := by decide +kernel
theorem dX1_refusalOdds_15 : decode cX1_refusalOdds 15 = .ok (.istore_n 3, 1) := by decide +kernel
theorem dX1_refusalOdds_16 : decode cX1_refusalOdds 16 = .ok (.aload_n 0, 1) := by decide +kernel
theorem dX1_refusalOdds_17 : decode cX1_refusalOdds 17 = .ok (.getfield 11, 3) := by decide +kernel
theorem dX1_refusalOdds_20 : decode cX1_refusalOdds 20 = .ok (.iload_n 2, 1) := by decide +kernel
theorem dX1_refusalOdds_21 : decode cX1_refusalOdds 21 = .ok (.iaload, 1) := by decide +kernel
theorem dX1_refusalOdds_22 : decode cX1_refusalOdds 22 = .ok (.iconst 3, 1) := by decide +kernel
theorem dX1_refusalOdds_23 : decode cX1_refusalOdds 23 = .ok (.if_icmp .ne 17, 3) := by decide +kernel
theorem dX1_refusalOdds_26 : decode cX1_refusalOdds 26 = .ok (.aload_n 0, 1) := by decide +kernel
theorem dX1_refusalOdds_27 : decode cX1_refusalOdds 27 = .ok (.iload_n 1, 1) := by decide +kernel
theorem dX1_refusalOdds_28 : decode cX1_refusalOdds 28 = .ok (.iconst 5, 1) := by decide +kernel
theorem dX1_refusalOdds_29 : decode cX1_refusalOdds 29 = .ok (.invokevirtual 104, 3) := by decide +kernel
theorem dX1_refusalOdds_32 : decode cX1_refusalOdds 32 = .ok (.iconst 5, 1) := by decide +kernel
theorem dX1_refusalOdds_33 : decode cX1_refusalOdds 33 = .ok (.if_icmp .ge 7, 3) := by decide +kernel
theorem dX1_refusalOdds_36 : decode cX1_refusalOdds 36 = .ok (.iconst 1, 1) := by decide +kernel
theorem dX1_refusalOdds_37 : decode cX1_refusalOdds 37 = .ok (.goto 4, 3) := by decide +kernel
theorem dX1_refusalOdds_40 : decode cX1_refusalOdds 40 = .ok (.iconst 0, 1) := by decide +kernel
theorem dX1_refusalOdds_41 : decode cX1_refusalOdds 41 = .ok (.istore 4, 2) := by decide +kernel
theorem dX1_refusalOdds_43 : decode cX1_refusalOdds 43 = .ok (.iload 4, 2) := by decide +kernel
theorem dX1_refusalOdds_45 : decode cX1_refusalOdds 45 = .ok (.ifCond .eq 9, 3) := by decide +kernel
theorem dX1_refusalOdds_48 : decode cX1_refusalOdds 48 = .ok (.iload_n 3, 1) := by decide +kernel
theorem dX1_refusalOdds_49 : decode cX1_refusalOdds 49 = .ok (.iconst 5, 1) := by decide +kernel
theorem dX1_refusalOdds_50 : decode cX1_refusalOdds 50 = .ok (.iadd, 1) := by decide +kernel
theorem dX1_refusalOdds_51 : decode cX1_refusalOdds 51 = .ok (.goto 4, 3) := by decide +kernel
theorem dX1_refusalOdds_54 : decode cX1_refusalOdds 54 = .ok (.iload_n 3, 1) := by decide +kernel
theorem dX1_refusalOdds_55 : decode cX1_refusalOdds 55 = .ok (.ireturn, 1) := by decide +kernel
theorem dX1_poleOdds_0 : decode cX1_poleOdds 0 = .ok (.aload_n 0, 1) := by decide +kernel
theorem dX1_poleOdds_1 : decode cX1_poleOdds 1 = .ok (.getfield 37, 3) := by decide +kernel
theorem dX1_poleOdds_4 : decode cX1_poleOdds 4 = .ok (.getfield 126, 3) := by decide +kernel
theorem dX1_poleOdds_7 : decode cX1_poleOdds 7 = .ok (.astore 4, 2) := by decide +kernel
theorem dX1_poleOdds_9 : decode cX1_poleOdds 9 = .ok (.aload 4, 2) := by decide +kernel
theorem dX1_poleOdds_11 : decode cX1_poleOdds 11 = .ok (.iconst 0, 1) := by decide +kernel
theorem dX1_poleOdds_12 : decode cX1_poleOdds 12 = .ok (.aload_n 0, 1) := by decide +kernel
theorem dX1_poleOdds_13 : decode cX1_poleOdds 13 = .ok (.getfield 15, 3) := by decide +kernel
theorem dX1_poleOdds_16 : decode cX1_poleOdds 16 = .ok (.iload_n 2, 1) := by decide +kernel
theorem dX1_poleOdds_17 : decode cX1_poleOdds 17 = .ok (.iaload, 1) := by decide +kernel
theorem dX1_poleOdds_18 : decode cX1_poleOdds 18 = .ok (.iastore, 1) := by decide +kernel
theorem dX1_poleOdds_19 : decode cX1_poleOdds 19 = .ok (.aload 4, 2) := by decide +kernel
theorem dX1_poleOdds_21 : decode cX1_poleOdds 21 = .ok (.iconst 1, 1) := by decide +kernel
theorem dX1_poleOdds_22 : decode cX1_poleOdds 22 = .ok (.aload_n 0, 1) := by decide +kernel
theorem dX1_poleOdds_23 : decode cX1_poleOdds 23 = .ok (.iload_n 1, 1) := by decide +kernel
theorem dX1_poleOdds_24 : decode cX1_poleOdds 24 = .ok (.iconst 1, 1) := by decide +kernel
theorem dX1_poleOdds_25 : decode cX1_poleOdds 25 = .ok (.invokevirtual 104, 3) := by decide +kernel
theorem dX1_poleOdds_28 : decode cX1_poleOdds 28 = .ok (.iastore, 1) := by decide +kernel
theorem dX1_poleOdds_29 : decode cX1_poleOdds 29 = .ok (.aload 4, 2) := by decide +kernel
theorem dX1_poleOdds_31 : decode cX1_poleOdds 31 = .ok (.iconst 2, 1) := by decide +kernel
theorem dX1_poleOdds_32 : decode cX1_poleOdds 32 = .ok (.aload_n 0, 1) := by decide +kernel
theorem dX1_poleOdds_33 : decode cX1_poleOdds 33 = .ok (.iload_n 1, 1) := by decide +kernel
theorem dX1_poleOdds_34 : decode cX1_poleOdds 34 = .ok (.iconst 2, 1) := by decide +kernel
theorem dX1_poleOdds_35 : decode cX1_poleOdds 35 = .ok (.aload_n 0, 1) := by decide +kernel
theorem dX1_poleOdds_36 : decode cX1_poleOdds 36 = .ok (.getfield 11, 3) := by decide +kernel
theorem dX1_poleOdds_39 : decode cX1_poleOdds 39 = .ok (.iload_n 2, 1) := by decide +kernel
theorem dX1_poleOdds_40 : decode cX1_poleOdds 40 = .ok (.iaload, 1) := by decide +kernel
theorem dX1_poleOdds_41 : decode cX1_poleOdds 41 = .ok (.iadd, 1) := by decide +kernel
theorem dX1_poleOdds_42 : decode cX1_poleOdds 42 = .ok (.invokevirtual 104, 3) := by decide +kernel
theorem dX1_poleOdds_45 : decode cX1_poleOdds 45 = .ok (.iastore, 1) := by decide +kernel
theorem dX1_poleOdds_46 : decode cX1_poleOdds 46 = .ok (.aload 4, 2) := by decide +kernel
theorem dX1_poleOdds_48 : decode cX1_poleOdds 48 = .ok (.iconst 3, 1) := by decide +kernel
theorem dX1_poleOdds_49 : decode cX1_poleOdds 49 = .ok (.iload_n 3, 1) := by decide +kernel
theorem dX1_poleOdds_50 : decode cX1_poleOdds 50 = .ok (.iconst 4, 1) := by decide +kernel
theorem dX1_poleOdds_51 : decode cX1_poleOdds 51 = .ok (.irem, 1) := by decide +kernel
theorem dX1_poleOdds_52 : decode cX1_poleOdds 52 = .ok (.iastore, 1) := by decide +kernel
theorem dX1_poleOdds_53 : decode cX1_poleOdds 53 = .ok (.aload 4, 2) := by decide +kernel
theorem dX1_poleOdds_55 : decode cX1_poleOdds 55 = .ok (.iconst 4, 1) := by decide +kernel
theorem dX1_poleOdds_56 : decode cX1_poleOdds 56 = .ok (.iload_n 3, 1) := by decide +kernel
theorem dX1_poleOdds_57 : decode cX1_poleOdds 57 = .ok (.invokestatic 110, 3) := by decide +kernel
theorem dX1_poleOdds_60 : decode cX1_poleOdds 60 = .ok (.ifCond .eq 7, 3) := by decide +kernel
theorem dX1_poleOdds_63 : decode cX1_poleOdds 63 = .ok (.iconst 1, 1) := by decide +kernel
theorem dX1_poleOdds_64 : decode cX1_poleOdds 64 = .ok (.goto 4, 3) := by decide +kernel
theorem dX1_poleOdds_67 : decode cX1_poleOdds 67 = .ok (.iconst 0, 1) := by decide +kernel
theorem dX1_poleOdds_68 : decode cX1_poleOdds 68 = .ok (.iastore, 1) := by decide +kernel
theorem dX1_poleOdds_69 : decode cX1_poleOdds 69 = .ok (.aload 4, 2) := by decide +kernel
theorem dX1_poleOdds_71 : decode cX1_poleOdds 71 = .ok (.iconst 5, 1) := by decide +kernel
theorem dX1_poleOdds_72 : decode cX1_poleOdds 72 = .ok (.aload_n 0, 1) := by decide +kernel
theorem dX1_poleOdds_73 : decode cX1_poleOdds 73 = .ok (.iload_n 1, 1) := by decide +kernel
theorem dX1_poleOdds_74 : decode cX1_poleOdds 74 = .ok (.iload_n 2, 1) := by decide +kernel
theorem dX1_poleOdds_75 : decode cX1_poleOdds 75 = .ok (.invokevirtual 123, 3) := by decide +kernel
theorem dX1_poleOdds_78 : decode cX1_poleOdds 78 = .ok (.iastore, 1) := by decide +kernel
theorem dX1_poleOdds_79 : decode cX1_poleOdds 79 = .ok (.aload 4, 2) := by decide +kernel
theorem dX1_poleOdds_81 : decode cX1_poleOdds 81 = .ok (.bipush 6, 2) := by decide +kernel
theorem dX1_poleOdds_83 : decode cX1_poleOdds 83 = .ok (.iload_n 2, 1) := by decide +kernel
theorem dX1_poleOdds_84 : decode cX1_poleOdds 84 = .ok (.iastore, 1) := by decide +kernel
theorem dX1_poleOdds_85 : decode cX1_poleOdds 85 = .ok (.aload 4, 2) := by decide +kernel
theorem dX1_poleOdds_87 : decode cX1_poleOdds 87 = .ok (.bipush 7, 2) := by decide +kernel
theorem dX1_poleOdds_89 : decode cX1_poleOdds 89 = .ok (.aload_n 0, 1) := by decide +kernel
theorem dX1_poleOdds_90 : decode cX1_poleOdds 90 = .ok (.getfield 18, 3) := by decide +kernel
theorem dX1_poleOdds_93 : decode cX1_poleOdds 93 = .ok (.iload_n 2, 1) := by decide +kernel
theorem dX1_poleOdds_94 : decode cX1_poleOdds 94 = .ok (.iaload, 1) := by decide +kernel
theorem dX1_poleOdds_95 : decode cX1_poleOdds 95 = .ok (.iastore, 1) := by decide +kernel
theorem dX1_poleOdds_96 : decode cX1_poleOdds 96 = .ok (.aload_n 0, 1) := by decide +kernel
theorem dX1_poleOdds_97 : decode cX1_poleOdds 97 = .ok (.getfield 37, 3) := by decide +kernel
theorem dX1_poleOdds_100 : decode cX1_poleOdds 100 = .ok (.invokevirtual 129, 3) := by decide +kernel
theorem dX1_poleOdds_103 : decode cX1_poleOdds 103 = .ok (.ireturn, 1) := by decide +kernel
theorem dX1_clearOf_0 : decode cX1_clearOf 0 = .ok (.sipush 10000, 3) := by decide +kernel
theorem dX1_clearOf_3 : decode cX1_clearOf 3 = .ok (.istore_n 3, 1) := by decide +kernel
theorem dX1_clearOf_4 : decode cX1_clearOf 4 = .ok (.iconst 0, 1) := by decide +kernel
theorem dX1_clearOf_5 : decode cX1_clearOf 5 = .ok (.istore 4, 2) := by decide +kernel
theorem dX1_clearOf_7 : decode cX1_clearOf 7 = .ok (.iload 4, 2) := by decide +kernel
theorem dX1_clearOf_9 : decode cX1_clearOf 9 = .ok (.aload_n 0, 1) := by decide +kernel
theorem dX1_clearOf_10 : decode cX1_clearOf 10 = .ok (.getfield 50, 3) := by decide +kernel
theorem dX1_clearOf_13 : decode cX1_clearOf 13 = .ok (.if_icmp .ge 39, 3) := by decide +kernel
theorem dX1_clearOf_16 : decode cX1_clearOf 16 = .ok (.aload_n 0, 1) := by decide +kernel
theorem dX1_clearOf_17 : decode cX1_clearOf 17 = .ok (.iload_n 1, 1) := by decide +kernel
theorem dX1_clearOf_18 : decode cX1_clearOf 18 = .ok (.iload 4, 2) := by decide +kernel
theorem dX1_clearOf_20 : decode cX1_clearOf 20 = .ok (.aload_n 0, 1) := by decide +kernel
theorem dX1_clearOf_21 : decode cX1_clearOf 21 = .ok (.iload_n 2, 1) := by decide +kernel
theorem dX1_clearOf_22 : decode cX1_clearOf 22 = .ok (.iload 4, 2) := by decide +kernel
theorem dX1_clearOf_24 : decode cX1_clearOf 24 = .ok (.invokevirtual 117, 3) := by decide +kernel
theorem dX1_clearOf_27 : decode cX1_clearOf 27 = .ok (.invokevirtual 132, 3) := by decide +kernel
theorem dX1_clearOf_30 : decode cX1_clearOf 30 = .ok (.istore 5, 2) := by decide +kernel
theorem dX1_clearOf_32 : decode cX1_clearOf 32 = .ok (.iload_n 3, 1) := by decide +kernel
theorem dX1_clearOf_33 : decode cX1_clearOf 33 = .ok (.aload_n 0, 1) := by decide +kernel
theorem dX1_clearOf_34 : decode cX1_clearOf 34 = .ok (.iload_n 1, 1) := by decide +kernel
theorem dX1_clearOf_35 : decode cX1_clearOf 35 = .ok (.iload 4, 2) := by decide +kernel
theorem dX1_clearOf_37 : decode cX1_clearOf 37 = .ok (.invokevirtual 136, 3) := by decide +kernel
theorem dX1_clearOf_40 : decode cX1_clearOf 40 = .ok (.iload 5, 2) := by decide +kernel
theorem dX1_clearOf_42 : decode cX1_clearOf 42 = .ok (.invokestatic 139, 3) := by decide +kernel
theorem dX1_clearOf_45 : decode cX1_clearOf 45 = .ok (.istore_n 3, 1) := by decide +kernel
theorem dX1_clearOf_46 : decode cX1_clearOf 46 = .ok (.iinc 4 1, 3) := by decide +kernel
theorem dX1_clearOf_49 : decode cX1_clearOf 49 = .ok (.goto (-42), 3) := by decide +kernel
theorem dX1_clearOf_52 : decode cX1_clearOf 52 = .ok (.iload_n 3, 1) := by decide +kernel
theorem dX1_clearOf_53 : decode cX1_clearOf 53 = .ok (.ireturn, 1) := by decide +kernel
theorem dX1_passing_0 : decode cX1_passing 0 = .ok (.iload_n 0, 1) := by decide +kernel
theorem dX1_passing_1 : decode cX1_passing 1 = .ok (.bipush 100, 2) := by decide +kernel
theorem dX1_passing_3 : decode cX1_passing 3 = .ok (.iload_n 1, 1) := by decide +kernel
theorem dX1_passing_4 : decode cX1_passing 4 = .ok (.isub, 1) := by decide +kernel
theorem dX1_passing_5 : decode cX1_passing 5 = .ok (.imul, 1) := by decide +kernel
theorem dX1_passing_6 : decode cX1_passing 6 = .ok (.bipush 100, 2) := by decide +kernel
theorem dX1_passing_8 : decode cX1_passing 8 = .ok (.idiv, 1) := by decide +kernel
theorem dX1_passing_9 : decode cX1_passing 9 = .ok (.bipush 100, 2) := by decide +kernel
theorem dX1_passing_11 : decode cX1_passing 11 = .ok (.iload_n 2, 1) := by decide +kernel
theorem dX1_passing_12 : decode cX1_passing 12 = .ok (.isub, 1) := by decide +kernel
theorem dX1_passing_13 : decode cX1_passing 13 = .ok (.imul, 1) := by decide +kernel
theorem dX1_passing_14 : decode cX1_passing 14 = .ok (.bipush 100, 2) := by decide +kernel
theorem dX1_passing_16 : decode cX1_passing 16 = .ok (.idiv, 1) := by decide +kernel
theorem dX1_passing_17 : decode cX1_passing 17 = .ok (.ireturn, 1) := by decide +kernel
theorem dX1_countThrough_0 : decode cX1_countThrough 0 = .ok (.aload_n 0, 1) := by decide +kernel
theorem dX1_countThrough_1 : decode cX1_countThrough 1 = .ok (.getfield 41, 3) := by decide +kernel
theorem dX1_countThrough_4 : decode cX1_countThrough 4 = .ok (.iconst 0, 1) := by decide +kernel
theorem dX1_countThrough_5 : decode cX1_countThrough 5 = .ok (.invokestatic 142, 3) := by decide +kernel
theorem dX1_countThrough_8 : decode cX1_countThrough 8 = .ok (.iconst 0, 1) := by decide +kernel
theorem dX1_countThrough_9 : decode cX1_countThrough 9 = .ok (.istore_n 3, 1) := by decide +kernel
theorem dX1_countThrough_10 : decode cX1_countThrough 10 = .ok (.iload_n 3, 1) := by decide +kernel
theorem dX1_countThrough_11 : decode cX1_countThrough 11 = .ok (.aload_n 0, 1) := by decide +kernel
theorem dX1_countThrough_12 : decode cX1_countThrough 12 = .ok (.getfield 53, 3) := by decide +kernel
theorem dX1_countThrough_15 : decode cX1_countThrough 15 = .ok (.if_icmp .ge 95, 3) := by decide +kernel
theorem dX1_countThrough_18 : decode cX1_countThrough 18 = .ok (.iconst 0, 1) := by decide +kernel
theorem dX1_countThrough_19 : decode cX1_countThrough 19 = .ok (.istore 4, 2) := by decide +kernel
theorem dX1_countThrough_21 : decode cX1_countThrough 21 = .ok (.iload 4, 2) := by decide +kernel
theorem dX1_countThrough_23 : decode cX1_countThrough 23 = .ok (.aload_n 0, 1) := by decide +kernel
theorem dX1_countThrough_24 : decode cX1_countThrough 24 = .ok (.getfield 50, 3) := by decide +kernel
theorem dX1_countThrough_27 : decode cX1_countThrough 27 = .ok (.if_icmp .ge 44, 3) := by decide +kernel
theorem dX1_countThrough_30 : decode cX1_countThrough 30 = .ok (.aload_n 0, 1) := by decide +kernel
theorem dX1_countThrough_31 : decode cX1_countThrough 31 = .ok (.getfield 44, 3) := by decide +kernel
theorem dX1_countThrough_34 : decode cX1_countThrough 34 = .ok (.iload 4, 2) := by decide +kernel
theorem dX1_countThrough_36 : decode cX1_countThrough 36 = .ok (.aload_n 0, 1) := by decide +kernel
theorem dX1_countThrough_37 : decode cX1_countThrough 37 = .ok (.iload_n 3, 1) := by decide +kernel
theorem dX1_countThrough_38 : decode cX1_countThrough 38 = .ok (.iload 4, 2) := by decide +kernel
theorem dX1_countThrough_40 : decode cX1_countThrough 40 = .ok (.aload_n 0, 1) := by decide +kernel
theorem dX1_countThrough_41 : decode cX1_countThrough 41 = .ok (.iload_n 1, 1) := by decide +kernel
theorem dX1_countThrough_42 : decode cX1_countThrough 42 = .ok (.iload 4, 2) := by decide +kernel
theorem dX1_countThrough_44 : decode cX1_countThrough 44 = .ok (.invokevirtual 117, 3) := by decide +kernel
theorem dX1_countThrough_47 : decode cX1_countThrough 47 = .ok (.invokevirtual 132, 3) := by decide +kernel
theorem dX1_countThrough_50 : decode cX1_countThrough 50 = .ok (.iastore, 1) := by decide +kernel
theorem dX1_countThrough_51 : decode cX1_countThrough 51 = .ok (.aload_n 0, 1) := by decide +kernel
theorem dX1_countThrough_52 : decode cX1_countThrough 52 = .ok (.getfield 47, 3) := by decide +kernel
theorem dX1_countThrough_55 : decode cX1_countThrough 55 = .ok (.iload 4, 2) := by decide +kernel
theorem dX1_countThrough_57 : decode cX1_countThrough 57 = .ok (.aload_n 0, 1) := by decide +kernel
theorem dX1_countThrough_58 : decode cX1_countThrough 58 = .ok (.iload_n 3, 1) := by decide +kernel
theorem dX1_countThrough_59 : decode cX1_countThrough 59 = .ok (.iload 4, 2) := by decide +kernel
theorem dX1_countThrough_61 : decode cX1_countThrough 61 = .ok (.invokevirtual 136, 3) := by decide +kernel
theorem dX1_countThrough_64 : decode cX1_countThrough 64 = .ok (.iastore, 1) := by decide +kernel
theorem dX1_countThrough_65 : decode cX1_countThrough 65 = .ok (.iinc 4 1, 3) := by decide +kernel
theorem dX1_countThrough_68 : decode cX1_countThrough 68 = .ok (.goto (-47), 3) := by decide +kernel
theorem dX1_countThrough_71 : decode cX1_countThrough 71 = .ok (.iconst 0, 1) := by decide +kernel
theorem dX1_countThrough_72 : decode cX1_countThrough 72 = .ok (.istore 4, 2) := by decide +kernel
theorem dX1_countThrough_74 : decode cX1_countThrough 74 = .ok (.iload 4, 2) := by decide +kernel
theorem dX1_countThrough_76 : decode cX1_countThrough 76 = .ok (.aload_n 0, 1) := by decide +kernel
theorem dX1_countThrough_77 : decode cX1_countThrough 77 = .ok (.getfield 50, 3) := by decide +kernel
theorem dX1_countThrough_80 : decode cX1_countThrough 80 = .ok (.if_icmp .ge 24, 3) := by decide +kernel
theorem dX1_countThrough_83 : decode cX1_countThrough 83 = .ok (.aload_n 0, 1) := by decide +kernel
theorem dX1_countThrough_84 : decode cX1_countThrough 84 = .ok (.iload_n 3, 1) := by decide +kernel
theorem dX1_countThrough_85 : decode cX1_countThrough 85 = .ok (.iload 4, 2) := by decide +kernel
theorem dX1_countThrough_87 : decode cX1_countThrough 87 = .ok (.aload_n 0, 1) := by decide +kernel
theorem dX1_countThrough_88 : decode cX1_countThrough 88 = .ok (.iload_n 1, 1) := by decide +kernel
theorem dX1_countThrough_89 : decode cX1_countThrough 89 = .ok (.iload 4, 2) := by decide +kernel
theorem dX1_countThrough_91 : decode cX1_countThrough 91 = .ok (.invokevirtual 117, 3) := by decide +kernel
theorem dX1_countThrough_94 : decode cX1_countThrough 94 = .ok (.iload_n 2, 1) := by decide +kernel
theorem dX1_countThrough_95 : decode cX1_countThrough 95 = .ok (.invokevirtual 148, 3) := by decide +kernel
theorem dX1_countThrough_98 : decode cX1_countThrough 98 = .ok (.iinc 4 1, 3) := by decide +kernel
theorem dX1_countThrough_101 : decode cX1_countThrough 101 = .ok (.goto (-27), 3) := by decide +kernel
theorem dX1_countThrough_104 : decode cX1_countThrough 104 = .ok (.iinc 3 1, 3) := by decide +kernel
theorem dX1_countThrough_107 : decode cX1_countThrough 107 = .ok (.goto (-97), 3) := by decide +kernel
theorem dX1_countThrough_110 : decode cX1_countThrough 110 = .ok (.return_, 1) := by decide +kernel
theorem dX1_countAtHeights_0 : decode cX1_countAtHeights 0 = .ok (.aload_n 0, 1) := by decide +kernel
theorem dX1_countAtHeights_1 : decode cX1_countAtHeights 1 = .ok (.getfield 15, 3) := by decide +kernel
theorem dX1_countAtHeights_4 : decode cX1_countAtHeights 4 = .ok (.iload_n 2, 1) := by decide +kernel
theorem dX1_countAtHeights_5 : decode cX1_countAtHeights 5 = .ok (.iaload, 1) := by decide +kernel
theorem dX1_countAtHeights_6 : decode cX1_countAtHeights 6 = .ok (.istore 5, 2) := by decide +kernel
theorem dX1_countAtHeights_8 : decode cX1_countAtHeights 8 = .ok (.iconst 0, 1) := by decide +kernel
theorem dX1_countAtHeights_9 : decode cX1_countAtHeights 9 = .ok (.istore 6, 2) := by decide +kernel
theorem dX1_countAtHeights_11 : decode cX1_countAtHeights 11 = .ok (.iload 6, 2) := by decide +kernel
theorem dX1_countAtHeights_13 : decode cX1_countAtHeights 13 = .ok (.bipush 10, 2) := by decide +kernel
theorem dX1_countAtHeights_15 : decode cX1_countAtHeights 15 = .ok (.if_icmp .ge 108, 3) := by decide +kernel
theorem dX1_countAtHeights_18 : decode cX1_countAtHeights 18 = .ok (.aload_n 0, 1) := by decide +kernel
theorem dX1_countAtHeights_19 : decode cX1_countAtHeights 19 = .ok (.getfield 15, 3) := by decide +kernel
theorem dX1_countAtHeights_22 : decode cX1_countAtHeights 22 = .ok (.iload_n 2, 1) := by decide +kernel
theorem dX1_countAtHeights_23 : decode cX1_countAtHeights 23 = .ok (.iload 6, 2) := by decide +kernel
theorem dX1_countAtHeights_25 : decode cX1_countAtHeights 25 = .ok (.iastore, 1) := by decide +kernel
theorem dX1_countAtHeights_26 : decode cX1_countAtHeights 26 = .ok (.aload_n 0, 1) := by decide +kernel
theorem dX1_countAtHeights_27 : decode cX1_countAtHeights 27 = .ok (.iload_n 1, 1) := by decide +kernel
theorem dX1_countAtHeights_28 : decode cX1_countAtHeights 28 = .ok (.iload_n 2, 1) := by decide +kernel
theorem dX1_countAtHeights_29 : decode cX1_countAtHeights 29 = .ok (.iload_n 3, 1) := by decide +kernel
theorem dX1_countAtHeights_30 : decode cX1_countAtHeights 30 = .ok (.invokevirtual 132, 3) := by decide +kernel
theorem dX1_countAtHeights_33 : decode cX1_countAtHeights 33 = .ok (.istore 7, 2) := by decide +kernel
theorem dX1_countAtHeights_35 : decode cX1_countAtHeights 35 = .ok (.sipush 10000, 3) := by decide +kernel
theorem dX1_countAtHeights_38 : decode cX1_countAtHeights 38 = .ok (.istore 8, 2) := by decide +kernel
theorem dX1_countAtHeights_40 : decode cX1_countAtHeights 40 = .ok (.iconst 0, 1) := by decide +kernel
theorem dX1_countAtHeights_41 : decode cX1_countAtHeights 41 = .ok (.istore 9, 2) := by decide +kernel
theorem dX1_countAtHeights_43 : decode cX1_countAtHeights 43 = .ok (.iload 9, 2) := by decide +kernel
theorem dX1_countAtHeights_45 : decode cX1_countAtHeights 45 = .ok (.aload_n 0, 1) := by decide +kernel
theorem dX1_countAtHeights_46 : decode cX1_countAtHeights 46 = .ok (.getfield 50, 3) := by decide +kernel
theorem dX1_countAtHeights_49 : decode cX1_countAtHeights 49 = .ok (.if_icmp .ge 41, 3) := by decide +kernel
theorem dX1_countAtHeights_52 : decode cX1_countAtHeights 52 = .ok (.iload 8, 2) := by decide +kernel
theorem dX1_countAtHeights_54 : decode cX1_countAtHeights 54 = .ok (.aload_n 0, 1) := by decide +kernel
theorem dX1_countAtHeights_55 : decode cX1_countAtHeights 55 = .ok (.getfield 47, 3) := by decide +kernel
theorem dX1_countAtHeights_58 : decode cX1_countAtHeights 58 = .ok (.iload 9, 2) := by decide +kernel
theorem dX1_countAtHeights_60 : decode cX1_countAtHeights 60 = .ok (.iaload, 1) := by decide +kernel
theorem dX1_countAtHeights_61 : decode cX1_countAtHeights 61 = .ok (.iload 9, 2) := by decide +kernel
theorem dX1_countAtHeights_63 : decode cX1_countAtHeights 63 = .ok (.iload_n 2, 1) := by decide +kernel
theorem dX1_countAtHeights_64 : decode cX1_countAtHeights 64 = .ok (.if_icmp .ne 8, 3) := by decide +kernel
theorem dX1_countAtHeights_67 : decode cX1_countAtHeights 67 = .ok (.iload 7, 2) := by decide +kernel
theorem dX1_countAtHeights_69 : decode cX1_countAtHeights 69 = .ok (.goto 10, 3) := by decide +kernel
theorem dX1_countAtHeights_72 : decode cX1_countAtHeights 72 = .ok (.aload_n 0, 1) := by decide +kernel
theorem dX1_countAtHeights_73 : decode cX1_countAtHeights 73 = .ok (.getfield 44, 3) := by decide +kernel
theorem dX1_countAtHeights_76 : decode cX1_countAtHeights 76 = .ok (.iload 9, 2) := by decide +kernel
theorem dX1_countAtHeights_78 : decode cX1_countAtHeights 78 = .ok (.iaload, 1) := by decide +kernel
theorem dX1_countAtHeights_79 : decode cX1_countAtHeights 79 = .ok (.invokestatic 139, 3) := by decide +kernel
theorem dX1_countAtHeights_82 : decode cX1_countAtHeights 82 = .ok (.istore 8, 2) := by decide +kernel
theorem dX1_countAtHeights_84 : decode cX1_countAtHeights 84 = .ok (.iinc 9 1, 3) := by decide +kernel
theorem dX1_countAtHeights_87 : decode cX1_countAtHeights 87 = .ok (.goto (-44), 3) := by decide +kernel
theorem dX1_countAtHeights_90 : decode cX1_countAtHeights 90 = .ok (.aload_n 0, 1) := by decide +kernel
theorem dX1_countAtHeights_91 : decode cX1_countAtHeights 91 = .ok (.getfield 41, 3) := by decide +kernel
theorem dX1_countAtHeights_94 : decode cX1_countAtHeights 94 = .ok (.iload_n 2, 1) := by decide +kernel
theorem dX1_countAtHeights_95 : decode cX1_countAtHeights 95 = .ok (.bipush 10, 2) := by decide +kernel
theorem dX1_countAtHeights_97 : decode cX1_countAtHeights 97 = .ok (.imul, 1) := by decide +kernel
theorem dX1_countAtHeights_98 : decode cX1_countAtHeights 98 = .ok (.iload 6, 2) := by decide +kernel
theorem dX1_countAtHeights_100 : decode cX1_countAtHeights 100 = .ok (.iadd, 1) := by decide +kernel
theorem dX1_countAtHeights_101 : decode cX1_countAtHeights 101 = .ok (.dup2, 1) := by decide +kernel
theorem dX1_countAtHeights_102 : decode cX1_countAtHeights 102 = .ok (.iaload, 1) := by decide +kernel
theorem dX1_countAtHeights_103 : decode cX1_countAtHeights 103 = .ok (.iload 8, 2) := by decide +kernel
theorem dX1_countAtHeights_105 : decode cX1_countAtHeights 105 = .ok (.iload 4, 2) := by decide +kernel
theorem dX1_countAtHeights_107 : decode cX1_countAtHeights 107 = .ok (.if_icmp .lt 7, 3) := by decide +kernel
theorem dX1_countAtHeights_110 : decode cX1_countAtHeights 110 = .ok (.iconst 1, 1) := by decide +kernel
theorem dX1_countAtHeights_111 : decode cX1_countAtHeights 111 = .ok (.goto 4, 3) := by decide +kernel
theorem dX1_countAtHeights_114 : decode cX1_countAtHeights 114 = .ok (.iconst 0, 1) := by decide +kernel
theorem dX1_countAtHeights_115 : decode cX1_countAtHeights 115 = .ok (.iadd, 1) := by decide +kernel
theorem dX1_countAtHeights_116 : decode cX1_countAtHeights 116 = .ok (.iastore, 1) := by decide +kernel
theorem dX1_countAtHeights_117 : decode cX1_countAtHeights 117 = .ok (.iinc 6 1, 3) := by decide +kernel
theorem dX1_countAtHeights_120 : decode cX1_countAtHeights 120 = .ok (.goto (-109), 3) := by decide +kernel
theorem dX1_countAtHeights_123 : decode cX1_countAtHeights 123 = .ok (.aload_n 0, 1) := by decide +kernel
theorem dX1_countAtHeights_124 : decode cX1_countAtHeights 124 = .ok (.getfield 15, 3) := by decide +kernel
theorem dX1_countAtHeights_127 : decode cX1_countAtHeights 127 = .ok (.iload_n 2, 1) := by decide +kernel
theorem dX1_countAtHeights_128 : decode cX1_countAtHeights 128 = .ok (.iload 5, 2) := by decide +kernel
theorem dX1_countAtHeights_130 : decode cX1_countAtHeights 130 = .ok (.iastore, 1) := by decide +kernel
theorem dX1_countAtHeights_131 : decode cX1_countAtHeights 131 = .ok (.return_, 1) := by decide +kernel
theorem dX2_init_0 : decode cX2_init 0 = .ok (.aload_n 0, 1) := by decide +kernel
theorem dX2_init_1 : decode cX2_init 1 = .ok (.invokespecial 3, 3) := by decide +kernel
theorem dX2_init_4 : decode cX2_init 4 = .ok (.return_, 1) := by decide +kernel
theorem dX2_draw_0 : decode cX2_draw 0 = .ok (.aload_n 0, 1) := by decide +kernel
theorem dX2_draw_1 : decode cX2_draw 1 = .ok (.iload 4, 2) := by decide +kernel
theorem dX2_draw_3 : decode cX2_draw 3 = .ok (.putfield 9, 3) := by decide +kernel
theorem dX2_draw_6 : decode cX2_draw 6 = .ok (.aload_n 0, 1) := by decide +kernel
theorem dX2_draw_7 : decode cX2_draw 7 = .ok (.iconst 0, 1) := by decide +kernel
theorem dX2_draw_8 : decode cX2_draw 8 = .ok (.putfield 15, 3) := by decide +kernel
theorem dX2_draw_11 : decode cX2_draw 11 = .ok (.aload_n 0, 1) := by decide +kernel
theorem dX2_draw_12 : decode cX2_draw 12 = .ok (.aload_n 1, 1) := by decide +kernel
theorem dX2_draw_13 : decode cX2_draw 13 = .ok (.iload_n 3, 1) := by decide +kernel
theorem dX2_draw_14 : decode cX2_draw 14 = .ok (.invokevirtual 18, 3) := by decide +kernel
theorem dX2_draw_17 : decode cX2_draw 17 = .ok (.putfield 24, 3) := by decide +kernel
theorem dX2_draw_20 : decode cX2_draw 20 = .ok (.aload_n 0, 1) := by decide +kernel
theorem dX2_draw_21 : decode cX2_draw 21 = .ok (.iconst 0, 1) := by decide +kernel
theorem dX2_draw_22 : decode cX2_draw 22 = .ok (.putfield 27, 3) := by decide +kernel
theorem dX2_draw_25 : decode cX2_draw 25 = .ok (.aload_n 0, 1) := by decide +kernel
theorem dX2_draw_26 : decode cX2_draw 26 = .ok (.iconst 0, 1) := by decide +kernel
theorem dX2_draw_27 : decode cX2_draw 27 = .ok (.putfield 30, 3) := by decide +kernel
theorem dX2_draw_30 : decode cX2_draw 30 = .ok (.iconst 0, 1) := by decide +kernel
theorem dX2_draw_31 : decode cX2_draw 31 = .ok (.istore 5, 2) := by decide +kernel
theorem dX2_draw_33 : decode cX2_draw 33 = .ok (.iload 5, 2) := by decide +kernel
theorem dX2_draw_35 : decode cX2_draw 35 = .ok (.aload_n 1, 1) := by decide +kernel
theorem dX2_draw_36 : decode cX2_draw 36 = .ok (.getfield 33, 3) := by decide +kernel
theorem dX2_draw_39 : decode cX2_draw 39 = .ok (.if_icmp .ge 105, 3) := by decide +kernel
theorem dX2_draw_42 : decode cX2_draw 42 = .ok (.aload_n 0, 1) := by decide +kernel
theorem dX2_draw_43 : decode cX2_draw 43 = .ok (.bipush 100, 2) := by decide +kernel
theorem dX2_draw_45 : decode cX2_draw 45 = .ok (.invokevirtual 36, 3) := by decide +kernel
theorem dX2_draw_48 : decode cX2_draw 48 = .ok (.aload_n 1, 1) := by decide +kernel
theorem dX2_draw_49 : decode cX2_draw 49 = .ok (.iload_n 2, 1) := by decide +kernel
theorem dX2_draw_50 : decode cX2_draw 50 = .ok (.iload 5, 2) := by decide +kernel
theorem dX2_draw_52 : decode cX2_draw 52 = .ok (.invokevirtual 39, 3) := by decide +kernel
theorem dX2_draw_55 : decode cX2_draw 55 = .ok (.if_icmp .ge 37, 3) := by decide +kernel
theorem dX2_draw_58 : decode cX2_draw 58 = .ok (.aload_n 0, 1) := by decide +kernel
theorem dX2_draw_59 : decode cX2_draw 59 = .ok (.dup, 1) := by decide +kernel
theorem dX2_draw_60 : decode cX2_draw 60 = .ok (.getfield 27, 3) := by decide +kernel
theorem dX2_draw_63 : decode cX2_draw 63 = .ok (.iconst 1, 1) := by decide +kernel
theorem dX2_draw_64 : decode cX2_draw 64 = .ok (.iload 5, 2) := by decide +kernel
theorem dX2_draw_66 : decode cX2_draw 66 = .ok (.ishl, 1) := by decide +kernel
theorem dX2_draw_67 : decode cX2_draw 67 = .ok (.ior, 1) := by decide +kernel
theorem dX2_draw_68 : decode cX2_draw 68 = .ok (.putfield 27, 3) := by decide +kernel
theorem dX2_draw_71 : decode cX2_draw 71 = .ok (.aload_n 0, 1) := by decide +kernel
theorem dX2_draw_72 : decode cX2_draw 72 = .ok (.dup, 1) := by decide +kernel
theorem dX2_draw_73 : decode cX2_draw 73 = .ok (.getfield 15, 3) := by decide +kernel
theorem dX2_draw_76 : decode cX2_draw 76 = .ok (.iconst 4, 1) := by decide +kernel
theorem dX2_draw_77 : decode cX2_draw 77 = .ok (.iadd, 1) := by decide +kernel
theorem dX2_draw_78 : decode cX2_draw 78 = .ok (.putfield 15, 3) := by decide +kernel
theorem dX2_draw_81 : decode cX2_draw 81 = .ok (.aload_n 0, 1) := by decide +kernel
theorem dX2_draw_82 : decode cX2_draw 82 = .ok (.dup, 1) := by decide +kernel
theorem dX2_draw_83 : decode cX2_draw 83 = .ok (.getfield 24, 3) := by decide +kernel
theorem dX2_draw_86 : decode cX2_draw 86 = .ok (.bipush 60, 2) := by decide +kernel
theorem dX2_draw_88 : decode cX2_draw 88 = .ok (.iadd, 1) := by decide +kernel
theorem dX2_draw_89 : decode cX2_draw 89 = .ok (.putfield 24, 3) := by decide +kernel
theorem dX2_draw_92 : decode cX2_draw 92 = .ok (.aload_n 0, 1) := by decide +kernel
theorem dX2_draw_93 : decode cX2_draw 93 = .ok (.bipush 100, 2) := by decide +kernel
theorem dX2_draw_95 : decode cX2_draw 95 = .ok (.invokevirtual 36, 3) := by decide +kernel
theorem dX2_draw_98 : decode cX2_draw 98 = .ok (.aload_n 1, 1) := by decide +kernel
theorem dX2_draw_99 : decode cX2_draw 99 = .ok (.iload_n 2, 1) := by decide +kernel
theorem dX2_draw_100 : decode cX2_draw 100 = .ok (.iload 5, 2) := by decide +kernel
theorem dX2_draw_102 : decode cX2_draw 102 = .ok (.aload_n 1, 1) := by decide +kernel
theorem dX2_draw_103 : decode cX2_draw 103 = .ok (.iload_n 3, 1) := by decide +kernel
theorem dX2_draw_104 : decode cX2_draw 104 = .ok (.iload 5, 2) := by decide +kernel
theorem dX2_draw_106 : decode cX2_draw 106 = .ok (.invokevirtual 43, 3) := by decide +kernel
theorem dX2_draw_109 : decode cX2_draw 109 = .ok (.invokevirtual 46, 3) := by decide +kernel
theorem dX2_draw_112 : decode cX2_draw 112 = .ok (.if_icmp .ge 26, 3) := by decide +kernel
theorem dX2_draw_115 : decode cX2_draw 115 = .ok (.aload_n 0, 1) := by decide +kernel
theorem dX2_draw_116 : decode cX2_draw 116 = .ok (.dup, 1) := by decide +kernel
theorem dX2_draw_117 : decode cX2_draw 117 = .ok (.getfield 30, 3) := by decide +kernel
theorem dX2_draw_120 : decode cX2_draw 120 = .ok (.iconst 1, 1) := by decide +kernel
theorem dX2_draw_121 : decode cX2_draw 121 = .ok (.iload 5, 2) := by decide +kernel
theorem dX2_draw_123 : decode cX2_draw 123 = .ok (.ishl, 1) := by decide +kernel
theorem dX2_draw_124 : decode cX2_draw 124 = .ok (.ior, 1) := by decide +kernel
theorem dX2_draw_125 : decode cX2_draw 125 = .ok (.putfield 30, 3) := by decide +kernel
theorem dX2_draw_128 : decode cX2_draw 128 = .ok (.aload_n 0, 1) := by decide +kernel
theorem dX2_draw_129 : decode cX2_draw 129 = .ok (.dup, 1) := by decide +kernel
theorem dX2_draw_130 : decode cX2_draw 130 = .ok (.getfield 15, 3) := by decide +kernel
theorem dX2_draw_133 : decode cX2_draw 133 = .ok (.iconst 4, 1) := by decide +kernel
theorem dX2_draw_134 : decode cX2_draw 134 = .ok (.iadd, 1) := by decide +kernel
theorem dX2_draw_135 : decode cX2_draw 135 = .ok (.putfield 15, 3) := by decide +kernel
theorem dX2_draw_138 : decode cX2_draw 138 = .ok (.iinc 5 1, 3) := by decide +kernel
theorem dX2_draw_141 : decode cX2_draw 141 = .ok (.goto (-108), 3) := by decide +kernel
theorem dX2_draw_144 : decode cX2_draw 144 = .ok (.aload_n 0, 1) := by decide +kernel
theorem dX2_draw_145 : decode cX2_draw 145 = .ok (.dup, 1) := by decide +kernel
theorem dX2_draw_146 : decode cX2_draw 146 = .ok (.getfield 15, 3) := by decide +kernel
theorem dX2_draw_149 : decode cX2_draw 149 = .ok (.aload_n 0, 1) := by decide +kernel
theorem dX2_draw_150 : decode cX2_draw 150 = .ok (.getfield 24, 3) := by decide +kernel
theorem dX2_draw_153 : decode cX2_draw 153 = .ok (.aload_n 1, 1) := by decide +kernel
theorem dX2_draw_154 : decode cX2_draw 154 = .ok (.getfield 50, 3) := by decide +kernel
theorem dX2_draw_157 : decode cX2_draw 157 = .ok (.bipush 40, 2) := by decide +kernel
theorem dX2_draw_159 : decode cX2_draw 159 = .ok (.invokestatic 53, 3) := by decide +kernel
theorem dX2_draw_162 : decode cX2_draw 162 = .ok (.iadd, 1) := by decide +kernel
theorem dX2_draw_163 : decode cX2_draw 163 = .ok (.putfield 15, 3) := by decide +kernel
theorem dX2_draw_166 : decode cX2_draw 166 = .ok (.return_, 1) := by decide +kernel
theorem dX2_next_0 : decode cX2_next 0 = .ok (.aload_n 0, 1) := by decide +kernel
theorem dX2_next_1 : decode cX2_next 1 = .ok (.aload_n 0, 1) := by decide +kernel
theorem dX2_next_2 : decode cX2_next 2 = .ok (.getfield 9, 3) := by decide +kernel
theorem dX2_next_5 : decode cX2_next 5 = .ok (.ldc 56, 2) := by decide +kernel
theorem dX2_next_7 : decode cX2_next 7 = .ok (.imul, 1) := by decide +kernel
theorem dX2_next_8 : decode cX2_next 8 = .ok (.sipush 12345, 3) := by decide +kernel
theorem dX2_next_11 : decode cX2_next 11 = .ok (.iadd, 1) := by decide +kernel
theorem dX2_next_12 : decode cX2_next 12 = .ok (.putfield 9, 3) := by decide +kernel
theorem dX2_next_15 : decode cX2_next 15 = .ok (.iload_n 1, 1) := by decide +kernel
theorem dX2_next_16 : decode cX2_next 16 = .ok (.ifCond .le 15, 3) := by decide +kernel
theorem dX2_next_19 : decode cX2_next 19 = .ok (.aload_n 0, 1) := by decide +kernel
theorem dX2_next_20 : decode cX2_next 20 = .ok (.getfield 9, 3) := by decide +kernel
theorem dX2_next_23 : decode cX2_next 23 = .ok (.bipush 16, 2) := by decide +kernel
theorem dX2_next_25 : decode cX2_next 25 = .ok (.iushr, 1) := by decide +kernel
theorem dX2_next_26 : decode cX2_next 26 = .ok (.iload_n 1, 1) := by decide +kernel
theorem dX2_next_27 : decode cX2_next 27 = .ok (.irem, 1) := by decide +kernel
theorem dX2_next_28 : decode cX2_next 28 = .ok (.goto 4, 3) := by decide +kernel
theorem dX2_next_31 : decode cX2_next 31 = .ok (.iconst 0, 1) := by decide +kernel
theorem dX2_next_32 : decode cX2_next 32 = .ok (.ireturn, 1) := by decide +kernel
theorem dX3_init_0 : decode cX3_init 0 = .ok (.aload_n 0, 1) := by decide +kernel
theorem dX3_init_1 : decode cX3_init 1 = .ok (.invokespecial 3, 3) := by decide +kernel
theorem dX3_init_4 : decode cX3_init 4 = .ok (.aload_n 0, 1) := by decide +kernel
theorem dX3_init_5 : decode cX3_init 5 = .ok (.iconst 3, 1) := by decide +kernel
theorem dX3_init_6 : decode cX3_init 6 = .ok (.newarray .int, 2) := by decide +kernel
theorem dX3_init_8 : decode cX3_init 8 = .ok (.putfield 11, 3) := by decide +kernel
theorem dX3_init_11 : decode cX3_init 11 = .ok (.aload_n 0, 1) := by decide +kernel
theorem dX3_init_12 : decode cX3_init 12 = .ok (.bipush 12, 2) := by decide +kernel
theorem dX3_init_14 : decode cX3_init 14 = .ok (.newarray .int, 2) := by decide +kernel
theorem dX3_init_16 : decode cX3_init 16 = .ok (.putfield 15, 3) := by decide +kernel
theorem dX3_init_19 : decode cX3_init 19 = .ok (.aload_n 0, 1) := by decide +kernel
theorem dX3_init_20 : decode cX3_init 20 = .ok (.bipush 12, 2) := by decide +kernel
theorem dX3_init_22 : decode cX3_init 22 = .ok (.newarray .int, 2) := by decide +kernel
theorem dX3_init_24 : decode cX3_init 24 = .ok (.putfield 18, 3) := by decide +kernel
theorem dX3_init_27 : decode cX3_init 27 = .ok (.aload_n 0, 1) := by decide +kernel
theorem dX3_init_28 : decode cX3_init 28 = .ok (.bipush 12, 2) := by decide +kernel
theorem dX3_init_30 : decode cX3_init 30 = .ok (.newarray .int, 2) := by decide +kernel
theorem dX3_init_32 : decode cX3_init 32 = .ok (.putfield 21, 3) := by decide +kernel
theorem dX3_init_35 : decode cX3_init 35 = .ok (.aload_n 0, 1) := by decide +kernel
theorem dX3_init_36 : decode cX3_init 36 = .ok (.bipush 18, 2) := by decide +kernel
theorem dX3_init_38 : decode cX3_init 38 = .ok (.newarray .int, 2) := by decide +kernel
theorem dX3_init_40 : decode cX3_init 40 = .ok (.putfield 24, 3) := by decide +kernel
theorem dX3_init_43 : decode cX3_init 43 = .ok (.aload_n 0, 1) := by decide +kernel
theorem dX3_init_44 : decode cX3_init 44 = .ok (.iconst 3, 1) := by decide +kernel
theorem dX3_init_45 : decode cX3_init 45 = .ok (.newarray .int, 2) := by decide +kernel
theorem dX3_init_47 : decode cX3_init 47 = .ok (.putfield 27, 3) := by decide +kernel
theorem dX3_init_50 : decode cX3_init 50 = .ok (.aload_n 0, 1) := by decide +kernel
theorem dX3_init_51 : decode cX3_init 51 = .ok (.bipush 12, 2) := by decide +kernel
theorem dX3_init_53 : decode cX3_init 53 = .ok (.newarray .long, 2) := by decide +kernel
theorem dX3_init_55 : decode cX3_init 55 = .ok (.putfield 30, 3) := by decide +kernel
theorem dX3_init_58 : decode cX3_init 58 = .ok (.aload_n 0, 1) := by decide +kernel
theorem dX3_init_59 : decode cX3_init 59 = .ok (.bipush 9, 2) := by decide +kernel
theorem dX3_init_61 : decode cX3_init 61 = .ok (.newarray .long, 2) := by decide +kernel
theorem dX3_init_63 : decode cX3_init 63 = .ok (.putfield 34, 3) := by decide +kernel
theorem dX3_init_66 : decode cX3_init 66 = .ok (.return_, 1) := by decide +kernel
theorem dX3_readPlayers_0 : decode cX3_readPlayers 0 = .ok (.aload_n 1, 1) := by decide +kernel
theorem dX3_readPlayers_1 : decode cX3_readPlayers 1 = .ok (.bipush 80, 2) := by decide +kernel
theorem dX3_readPlayers_3 : decode cX3_readPlayers 3 = .ok (.invokevirtual 37, 3) := by decide +kernel
theorem dX3_readPlayers_6 : decode cX3_readPlayers 6 = .ok (.aload_n 0, 1) := by decide +kernel
theorem dX3_readPlayers_7 : decode cX3_readPlayers 7 = .ok (.iconst 0, 1) := by decide +kernel
theorem dX3_readPlayers_8 : decode cX3_readPlayers 8 = .ok (.putfield 43, 3) := by decide +kernel
theorem dX3_readPlayers_11 : decode cX3_readPlayers 11 = .ok (.iconst 0, 1) := by decide +kernel
theorem dX3_readPlayers_12 : decode cX3_readPlayers 12 = .ok (.istore 5, 2) := by decide +kernel
theorem dX3_readPlayers_14 : decode cX3_readPlayers 14 = .ok (.iload 5, 2) := by decide +kernel
theorem dX3_readPlayers_16 : decode cX3_readPlayers 16 = .ok (.iload 4, 2) := by decide +kernel
theorem dX3_readPlayers_18 : decode cX3_readPlayers 18 = .ok (.if_icmp .ge 56, 3) := by decide +kernel
theorem dX3_readPlayers_21 : decode cX3_readPlayers 21 = .ok (.aload_n 1, 1) := by decide +kernel
theorem dX3_readPlayers_22 : decode cX3_readPlayers 22 = .ok (.invokevirtual 47, 3) := by decide +kernel
theorem dX3_readPlayers_25 : decode cX3_readPlayers 25 = .ok (.ifCond .ne 49, 3) := by decide +kernel
theorem dX3_readPlayers_28 : decode cX3_readPlayers 28 = .ok (.aload_n 1, 1) := by decide +kernel
theorem dX3_readPlayers_29 : decode cX3_readPlayers 29 = .ok (.iconst 0, 1) := by decide +kernel
theorem dX3_readPlayers_30 : decode cX3_readPlayers 30 = .ok (.iload_n 2, 1) := by decide +kernel
theorem dX3_readPlayers_31 : decode cX3_readPlayers 31 = .ok (.iconst 1, 1) := by decide +kernel
theorem dX3_readPlayers_32 : decode cX3_readPlayers 32 = .ok (.isub, 1) := by decide +kernel
theorem dX3_readPlayers_33 : decode cX3_readPlayers 33 = .ok (.invokevirtual 51, 3) := by decide +kernel
theorem dX3_readPlayers_36 : decode cX3_readPlayers 36 = .ok (.istore 6, 2) := by decide +kernel
theorem dX3_readPlayers_38 : decode cX3_readPlayers 38 = .ok (.iload 6, 2) := by decide +kernel
theorem dX3_readPlayers_40 : decode cX3_readPlayers 40 = .ok (.iconst (-1), 1) := by decide +kernel
theorem dX3_readPlayers_41 : decode cX3_readPlayers 41 = .ok (.if_icmp .ne 8, 3) := by decide +kernel
theorem dX3_readPlayers_44 : decode cX3_readPlayers 44 = .ok (.aload_n 1, 1) := by decide +kernel
theorem dX3_readPlayers_45 : decode cX3_readPlayers 45 = .ok (.invokevirtual 55, 3) := by decide +kernel
theorem dX3_readPlayers_48 : decode cX3_readPlayers 48 = .ok (.ireturn, 1) := by decide +kernel
theorem dX3_readPlayers_49 : decode cX3_readPlayers 49 = .ok (.aload_n 0, 1) := by decide +kernel
theorem dX3_readPlayers_50 : decode cX3_readPlayers 50 = .ok (.getfield 11, 3) := by decide +kernel
theorem dX3_readPlayers_53 : decode cX3_readPlayers 53 = .ok (.iload 5, 2) := by decide +kernel
theorem dX3_readPlayers_55 : decode cX3_readPlayers 55 = .ok (.iload 6, 2) := by decide +kernel
theorem dX3_readPlayers_57 : decode cX3_readPlayers 57 = .ok (.iastore, 1) := by decide +kernel
theorem dX3_readPlayers_58 : decode cX3_readPlayers 58 = .ok (.aload_n 0, 1) := by decide +kernel
theorem dX3_readPlayers_59 : decode cX3_readPlayers 59 = .ok (.dup, 1) := by decide +kernel
theorem dX3_readPlayers_60 : decode cX3_readPlayers 60 = .ok (.getfield 43, 3) := by decide +kernel
theorem dX3_readPlayers_63 : decode cX3_readPlayers 63 = .ok (.iconst 1, 1) := by decide +kernel
theorem dX3_readPlayers_64 : decode cX3_readPlayers 64 = .ok (.iadd, 1) := by decide +kernel
theorem dX3_readPlayers_65 : decode cX3_readPlayers 65 = .ok (.putfield 43, 3) := by decide +kernel
theorem dX3_readPlayers_68 : decode cX3_readPlayers 68 = .ok (.iinc 5 1, 3) := by decide +kernel
theorem dX3_readPlayers_71 : decode cX3_readPlayers 71 = .ok (.goto (-57), 3) := by decide +kernel
theorem dX3_readPlayers_74 : decode cX3_readPlayers 74 = .ok (.aload_n 0, 1) := by decide +kernel
theorem dX3_readPlayers_75 : decode cX3_readPlayers 75 = .ok (.getfield 43, 3) := by decide +kernel
theorem dX3_readPlayers_78 : decode cX3_readPlayers 78 = .ok (.iload_n 3, 1) := by decide +kernel
theorem dX3_readPlayers_79 : decode cX3_readPlayers 79 = .ok (.if_icmp .lt 10, 3) := by decide +kernel
theorem dX3_readPlayers_82 : decode cX3_readPlayers 82 = .ok (.aload_n 1, 1) := by decide +kernel
theorem dX3_readPlayers_83 : decode cX3_readPlayers 83 = .ok (.invokevirtual 47, 3) := by decide +kernel
theorem dX3_readPlayers_86 : decode cX3_readPlayers 86 = .ok (.ifCond .ne 10, 3) := by decide +kernel
theorem dX3_readPlayers_89 : decode cX3_readPlayers 89 = .ok (.aload_n 1, 1) := by decide +kernel
theorem dX3_readPlayers_90 : decode cX3_readPlayers 90 = .ok (.invokevirtual 55, 3) := by decide +kernel
theorem dX3_readPlayers_93 : decode cX3_readPlayers 93 = .ok (.goto 4, 3) := by decide +kernel
theorem dX3_readPlayers_96 : decode cX3_readPlayers 96 = .ok (.iconst 0, 1) := by decide +kernel
theorem dX3_readPlayers_97 : decode cX3_readPlayers 97 = .ok (.ireturn, 1) := by decide +kernel
theorem dX3_begin_0 : decode cX3_begin 0 = .ok (.aload_n 0, 1) := by decide +kernel
theorem dX3_begin_1 : decode cX3_begin 1 = .ok (.aload_n 1, 1) := by decide +kernel
theorem dX3_begin_2 : decode cX3_begin 2 = .ok (.getfield 59, 3) := by decide +kernel
theorem dX3_begin_5 : decode cX3_begin 5 = .ok (.putfield 64, 3) := by decide +kernel
theorem dX3_begin_8 : decode cX3_begin 8 = .ok (.iconst 0, 1) := by decide +kernel
theorem dX3_begin_9 : decode cX3_begin 9 = .ok (.istore_n 3, 1) := by decide +kernel
theorem dX3_begin_10 : decode cX3_begin 10 = .ok (.iload_n 3, 1) := by decide +kernel
theorem dX3_begin_11 : decode cX3_begin 11 = .ok (.aload_n 0, 1) := by decide +kernel
theorem dX3_begin_12 : decode cX3_begin 12 = .ok (.getfield 64, 3) := by decide +kernel
theorem dX3_begin_15 : decode cX3_begin 15 = .ok (.if_icmp .ge 99, 3) := by decide +kernel
theorem dX3_begin_18 : decode cX3_begin 18 = .ok (.aload_n 1, 1) := by decide +kernel
theorem dX3_begin_19 : decode cX3_begin 19 = .ok (.iload_n 3, 1) := by decide +kernel
theorem dX3_begin_20 : decode cX3_begin 20 = .ok (.invokevirtual 67, 3) := by decide +kernel
theorem dX3_begin_23 : decode cX3_begin 23 = .ok (.istore 4, 2) := by decide +kernel
theorem dX3_begin_25 : decode cX3_begin 25 = .ok (.iload 4, 2) := by decide +kernel
theorem dX3_begin_27 : decode cX3_begin 27 = .ok (.aload_n 1, 1) := by decide +kernel
theorem dX3_begin_28 : decode cX3_begin 28 = .ok (.getfield 71, 3) := by decide +kernel
theorem dX3_begin_31 : decode cX3_begin 31 = .ok (.bipush 40, 2) := by decide +kernel
theorem dX3_begin_33 : decode cX3_begin 33 = .ok (.invokestatic 74, 3) := by decide +kernel
theorem dX3_begin_36 : decode cX3_begin 36 = .ok (.istore 5, 2) := by decide +kernel
theorem dX3_begin_38 : decode cX3_begin 38 = .ok (.iconst 0, 1) := by decide +kernel
theorem dX3_begin_39 : decode cX3_begin 39 = .ok (.istore 6, 2) := by decide +kernel
theorem dX3_begin_41 : decode cX3_begin 41 = .ok (.iload 6, 2) := by decide +kernel
theorem dX3_begin_43 : decode cX3_begin 43 = .ok (.iconst 2, 1) := by decide +kernel
theorem dX3_begin_44 : decode cX3_begin 44 = .ok (.if_icmp .ge 64, 3) := by decide +kernel
theorem dX3_begin_47 : decode cX3_begin 47 = .ok (.aload_n 0, 1) := by decide +kernel
theorem dX3_begin_48 : decode cX3_begin 48 = .ok (.getfield 15, 3) := by decide +kernel
theorem dX3_begin_51 : decode cX3_begin 51 = .ok (.iconst 2, 1) := by decide +kernel
theorem dX3_begin_52 : decode cX3_begin 52 = .ok (.iload_n 3, 1) := by decide +kernel
theorem dX3_begin_53 : decode cX3_begin 53 = .ok (.imul, 1) := by decide +kernel
theorem dX3_begin_54 : decode cX3_begin 54 = .ok (.iload 6, 2) := by decide +kernel
theorem dX3_begin_56 : decode cX3_begin 56 = .ok (.iadd, 1) := by decide +kernel
theorem dX3_begin_57 : decode cX3_begin 57 = .ok (.iload 5, 2) := by decide +kernel
theorem dX3_begin_59 : decode cX3_begin 59 = .ok (.iload 6, 2) := by decide +kernel
theorem dX3_begin_61 : decode cX3_begin 61 = .ok (.iconst 4, 1) := by decide +kernel
theorem dX3_begin_62 : decode cX3_begin 62 = .ok (.imul, 1) := by decide +kernel
theorem dX3_begin_63 : decode cX3_begin 63 = .ok (.iadd, 1) := by decide +kernel
theorem dX3_begin_64 : decode cX3_begin 64 = .ok (.iastore, 1) := by decide +kernel
theorem dX3_begin_65 : decode cX3_begin 65 = .ok (.aload_n 0, 1) := by decide +kernel
theorem dX3_begin_66 : decode cX3_begin 66 = .ok (.getfield 18, 3) := by decide +kernel
theorem dX3_begin_69 : decode cX3_begin 69 = .ok (.iconst 2, 1) := by decide +kernel
theorem dX3_begin_70 : decode cX3_begin 70 = .ok (.iload_n 3, 1) := by decide +kernel
theorem dX3_begin_71 : decode cX3_begin 71 = .ok (.imul, 1) := by decide +kernel
theorem dX3_begin_72 : decode cX3_begin 72 = .ok (.iload 6, 2) := by decide +kernel
theorem dX3_begin_74 : decode cX3_begin 74 = .ok (.iadd, 1) := by decide +kernel
theorem dX3_begin_75 : decode cX3_begin 75 = .ok (.iload 4, 2) := by decide +kernel
theorem dX3_begin_77 : decode cX3_begin 77 = .ok (.iastore, 1) := by decide +kernel
theorem dX3_begin_78 : decode cX3_begin 78 = .ok (.aload_n 0, 1) := by decide +kernel
theorem dX3_begin_79 : decode cX3_begin 79 = .ok (.getfield 21, 3) := by decide +kernel
theorem dX3_begin_82 : decode cX3_begin 82 = .ok (.iconst 2, 1) := by decide +kernel
theorem dX3_begin_83 : decode cX3_begin 83 = .ok (.iload_n 3, 1) := by decide +kernel
theorem dX3_begin_84 : decode cX3_begin 84 = .ok (.imul, 1) := by decide +kernel
theorem dX3_begin_85 : decode cX3_begin 85 = .ok (.iload 6, 2) := by decide +kernel
theorem dX3_begin_87 : decode cX3_begin 87 = .ok (.iadd, 1) := by decide +kernel
theorem dX3_begin_88 : decode cX3_begin 88 = .ok (.aload_n 2, 1) := by decide +kernel
theorem dX3_begin_89 : decode cX3_begin 89 = .ok (.iload 5, 2) := by decide +kernel
theorem dX3_begin_91 : decode cX3_begin 91 = .ok (.iload 6, 2) := by decide +kernel
theorem dX3_begin_93 : decode cX3_begin 93 = .ok (.iconst 4, 1) := by decide +kernel
theorem dX3_begin_94 : decode cX3_begin 94 = .ok (.imul, 1) := by decide +kernel
theorem dX3_begin_95 : decode cX3_begin 95 = .ok (.iadd, 1) := by decide +kernel
theorem dX3_begin_96 : decode cX3_begin 96 = .ok (.iload 4, 2) := by decide +kernel
theorem dX3_begin_98 : decode cX3_begin 98 = .ok (.invokevirtual 78, 3) := by decide +kernel
theorem dX3_begin_101 : decode cX3_begin 101 = .ok (.iastore, 1) := by decide +kernel
theorem dX3_begin_102 : decode cX3_begin 102 = .ok (.iinc 6 1, 3) := by decide +kernel
theorem dX3_begin_105 : decode cX3_begin 105 = .ok (.goto (-64), 3) := by decide +kernel
theorem dX3_begin_108 : decode cX3_begin 108 = .ok (.iinc 3 1, 3) := by decide +kernel
theorem dX3_begin_111 : decode cX3_begin 111 = .ok (.goto (-101), 3) := by decide +kernel
theorem dX3_begin_114 : decode cX3_begin 114 = .ok (.return_, 1) := by decide +kernel
theorem dX3_start_0 : decode cX3_start 0 = .ok (.iconst 0, 1) := by decide +kernel
theorem dX3_start_1 : decode cX3_start 1 = .ok (.istore 4, 2) := by decide +kernel
theorem dX3_start_3 : decode cX3_start 3 = .ok (.iload 4, 2) := by decide +kernel
theorem dX3_start_5 : decode cX3_start 5 = .ok (.aload_n 0, 1) := by decide +kernel
theorem dX3_start_6 : decode cX3_start 6 = .ok (.getfield 43, 3) := by decide +kernel
theorem dX3_start_9 : decode cX3_start 9 = .ok (.if_icmp .ge 88, 3) := by decide +kernel
theorem dX3_start_12 : decode cX3_start 12 = .ok (.iload 4, 2) := by decide +kernel
theorem dX3_start_14 : decode cX3_start 14 = .ok (.iload_n 3, 1) := by decide +kernel
theorem dX3_start_15 : decode cX3_start 15 = .ok (.if_icmp .ne 7, 3) := by decide +kernel
theorem dX3_start_18 : decode cX3_start 18 = .ok (.iconst 0, 1) := by decide +kernel
theorem dX3_start_19 : decode cX3_start 19 = .ok (.goto 5, 3) := by decide +kernel
theorem dX3_start_22 : decode cX3_start 22 = .ok (.iload 4, 2) := by decide +kernel
theorem dX3_start_24 : decode cX3_start 24 = .ok (.istore 5, 2) := by decide +kernel
theorem dX3_start_26 : decode cX3_start 26 = .ok (.iload 4, 2) := by decide +kernel
theorem dX3_start_28 : decode cX3_start 28 = .ok (.iload_n 3, 1) := by decide +kernel
theorem dX3_start_29 : decode cX3_start 29 = .ok (.if_icmp .ge 9, 3) := by decide +kernel
theorem dX3_start_32 : decode cX3_start 32 = .ok (.iload 4, 2) := by decide +kernel
theorem dX3_start_34 : decode cX3_start 34 = .ok (.iconst 1, 1) := by decide +kernel
theorem dX3_start_35 : decode cX3_start 35 = .ok (.iadd, 1) := by decide +kernel
theorem dX3_start_36 : decode cX3_start 36 = .ok (.istore 5, 2) := by decide +kernel
theorem dX3_start_38 : decode cX3_start 38 = .ok (.iconst 0, 1) := by decide +kernel
theorem dX3_start_39 : decode cX3_start 39 = .ok (.istore 6, 2) := by decide +kernel
theorem dX3_start_41 : decode cX3_start 41 = .ok (.iload 6, 2) := by decide +kernel
theorem dX3_start_43 : decode cX3_start 43 = .ok (.aload_n 0, 1) := by decide +kernel
theorem dX3_start_44 : decode cX3_start 44 = .ok (.getfield 64, 3) := by decide +kernel
theorem dX3_start_47 : decode cX3_start 47 = .ok (.if_icmp .ge 44, 3) := by decide +kernel
theorem dX3_start_50 : decode cX3_start 50 = .ok (.iload 5, 2) := by decide +kernel
theorem dX3_start_52 : decode cX3_start 52 = .ok (.aload_n 0, 1) := by decide +kernel
theorem dX3_start_53 : decode cX3_start 53 = .ok (.getfield 43, 3) := by decide +kernel
theorem dX3_start_56 : decode cX3_start 56 = .ok (.if_icmp .ge 35, 3) := by decide +kernel
theorem dX3_start_59 : decode cX3_start 59 = .ok (.aload_n 0, 1) := by decide +kernel
theorem dX3_start_60 : decode cX3_start 60 = .ok (.getfield 24, 3) := by decide +kernel
theorem dX3_start_63 : decode cX3_start 63 = .ok (.iload 4, 2) := by decide +kernel
theorem dX3_start_65 : decode cX3_start 65 = .ok (.bipush 6, 2) := by decide +kernel
theorem dX3_start_67 : decode cX3_start 67 = .ok (.imul, 1) := by decide +kernel
theorem dX3_start_68 : decode cX3_start 68 = .ok (.iload 6, 2) := by decide +kernel
theorem dX3_start_70 : decode cX3_start 70 = .ok (.iadd, 1) := by decide +kernel
theorem dX3_start_71 : decode cX3_start 71 = .ok (.aload_n 1, 1) := by decide +kernel
theorem dX3_start_72 : decode cX3_start 72 = .ok (.aload_n 0, 1) := by decide +kernel
theorem dX3_start_73 : decode cX3_start 73 = .ok (.getfield 11, 3) := by decide +kernel
theorem dX3_start_76 : decode cX3_start 76 = .ok (.iload 5, 2) := by decide +kernel
theorem dX3_start_78 : decode cX3_start 78 = .ok (.iaload, 1) := by decide +kernel
theorem dX3_start_79 : decode cX3_start 79 = .ok (.iload 6, 2) := by decide +kernel
theorem dX3_start_81 : decode cX3_start 81 = .ok (.invokevirtual 83, 3) := by decide +kernel
theorem dX3_start_84 : decode cX3_start 84 = .ok (.iastore, 1) := by decide +kernel
theorem dX3_start_85 : decode cX3_start 85 = .ok (.iinc 6 1, 3) := by decide +kernel
theorem dX3_start_88 : decode cX3_start 88 = .ok (.goto (-47), 3) := by decide +kernel
theorem dX3_start_91 : decode cX3_start 91 = .ok (.iinc 4 1, 3) := by decide +kernel
theorem dX3_start_94 : decode cX3_start 94 = .ok (.goto (-91), 3) := by decide +kernel
theorem dX3_start_97 : decode cX3_start 97 = .ok (.aload_n 0, 1) := by decide +kernel
theorem dX3_start_98 : decode cX3_start 98 = .ok (.aload_n 2, 1) := by decide +kernel
theorem dX3_start_99 : decode cX3_start 99 = .ok (.iconst 0, 1) := by decide +kernel
theorem dX3_start_100 : decode cX3_start 100 = .ok (.invokevirtual 86, 3) := by decide +kernel
theorem dX3_start_103 : decode cX3_start 103 = .ok (.return_, 1) := by decide +kernel
theorem dX3_won_0 : decode cX3_won 0 = .ok (.iload_n 1, 1) := by decide +kernel
theorem dX3_won_1 : decode cX3_won 1 = .ok (.ifCond .lt 20, 3) := by decide +kernel
theorem dX3_won_4 : decode cX3_won 4 = .ok (.iload_n 1, 1) := by decide +kernel
theorem dX3_won_5 : decode cX3_won 5 = .ok (.aload_n 0, 1) := by decide +kernel
theorem dX3_won_6 : decode cX3_won 6 = .ok (.getfield 43, 3) := by decide +kernel
theorem dX3_won_9 : decode cX3_won 9 = .ok (.if_icmp .ge 12, 3) := by decide +kernel
theorem dX3_won_12 : decode cX3_won 12 = .ok (.aload_n 0, 1) := by decide +kernel
theorem dX3_won_13 : decode cX3_won 13 = .ok (.getfield 30, 3) := by decide +kernel
theorem dX3_won_16 : decode cX3_won 16 = .ok (.iload_n 1, 1) := by decide +kernel
theorem dX3_won_17 : decode cX3_won 17 = .ok (.laload, 1) := by decide +kernel
theorem dX3_won_18 : decode cX3_won 18 = .ok (.goto 4, 3) := by decide +kernel
theorem dX3_won_21 : decode cX3_won 21 = .ok (.lconst 0, 1) := by decide +kernel
theorem dX3_won_22 : decode cX3_won 22 = .ok (.lreturn, 1) := by decide +kernel
theorem dX3_scale_0 : decode cX3_scale 0 = .ok (.lconst 1, 1) := by decide +kernel
theorem dX3_scale_1 : decode cX3_scale 1 = .ok (.lstore_n 1, 1) := by decide +kernel
theorem dX3_scale_2 : decode cX3_scale 2 = .ok (.iconst 0, 1) := by decide +kernel
theorem dX3_scale_3 : decode cX3_scale 3 = .ok (.istore_n 3, 1) := by decide +kernel
theorem dX3_scale_4 : decode cX3_scale 4 = .ok (.iload_n 3, 1) := by decide +kernel
theorem dX3_scale_5 : decode cX3_scale 5 = .ok (.aload_n 0, 1) := by decide +kernel
theorem dX3_scale_6 : decode cX3_scale 6 = .ok (.getfield 43, 3) := by decide +kernel
theorem dX3_scale_9 : decode cX3_scale 9 = .ok (.if_icmp .ge 15, 3) := by decide +kernel
theorem dX3_scale_12 : decode cX3_scale 12 = .ok (.lload_n 1, 1) := by decide +kernel
theorem dX3_scale_13 : decode cX3_scale 13 = .ok (.ldc2_w 90, 3) := by decide +kernel
theorem dX3_scale_16 : decode cX3_scale 16 = .ok (.lmul, 1) := by decide +kernel
theorem dX3_scale_17 : decode cX3_scale 17 = .ok (.lstore_n 1, 1) := by decide +kernel
theorem dX3_scale_18 : decode cX3_scale 18 = .ok (.iinc 3 1, 3) := by decide +kernel
theorem dX3_scale_21 : decode cX3_scale 21 = .ok (.goto (-17), 3) := by decide +kernel
theorem dX3_scale_24 : decode cX3_scale 24 = .ok (.lload_n 1, 1) := by decide +kernel
theorem dX3_scale_25 : decode cX3_scale 25 = .ok (.lreturn, 1) := by decide +kernel
theorem dX3_settle_0 : decode cX3_settle 0 = .ok (.iload_n 2, 1) := by decide +kernel
theorem dX3_settle_1 : decode cX3_settle 1 = .ok (.aload_n 0, 1) := by decide +kernel
theorem dX3_settle_2 : decode cX3_settle 2 = .ok (.getfield 43, 3) := by decide +kernel
theorem dX3_settle_5 : decode cX3_settle 5 = .ok (.if_icmp .lt 9, 3) := by decide +kernel
theorem dX3_settle_8 : decode cX3_settle 8 = .ok (.aload_n 0, 1) := by decide +kernel
theorem dX3_settle_9 : decode cX3_settle 9 = .ok (.aload_n 1, 1) := by decide +kernel
theorem dX3_settle_10 : decode cX3_settle 10 = .ok (.invokevirtual 92, 3) := by decide +kernel
theorem dX3_settle_13 : decode cX3_settle 13 = .ok (.return_, 1) := by decide +kernel
theorem dX3_settle_14 : decode cX3_settle 14 = .ok (.iload_n 2, 1) := by decide +kernel
theorem dX3_settle_15 : decode cX3_settle 15 = .ok (.iconst 3, 1) := by decide +kernel
theorem dX3_settle_16 : decode cX3_settle 16 = .ok (.imul, 1) := by decide +kernel
theorem dX3_settle_17 : decode cX3_settle 17 = .ok (.istore_n 3, 1) := by decide +kernel
theorem dX3_settle_18 : decode cX3_settle 18 = .ok (.iconst 0, 1) := by decide +kernel
theorem dX3_settle_19 : decode cX3_settle 19 = .ok (.istore 4, 2) := by decide +kernel
theorem dX3_settle_21 : decode cX3_settle 21 = .ok (.iload 4, 2) := by decide +kernel
theorem dX3_settle_23 : decode cX3_settle 23 = .ok (.aload_n 0, 1) := by decide +kernel
theorem dX3_settle_24 : decode cX3_settle 24 = .ok (.getfield 64, 3) := by decide +kernel
theorem dX3_settle_27 : decode cX3_settle 27 = .ok (.if_icmp .ge 73, 3) := by decide +kernel
theorem dX3_settle_30 : decode cX3_settle 30 = .ok (.aload_n 0, 1) := by decide +kernel
theorem dX3_settle_31 : decode cX3_settle 31 = .ok (.aload_n 1, 1) := by decide +kernel
theorem dX3_settle_32 : decode cX3_settle 32 = .ok (.iload_n 2, 1) := by decide +kernel
theorem dX3_settle_33 : decode cX3_settle 33 = .ok (.iload 4, 2) := by decide +kernel
theorem dX3_settle_35 : decode cX3_settle 35 = .ok (.invokevirtual 96, 3) := by decide +kernel
theorem dX3_settle_38 : decode cX3_settle 38 = .ok (.iload 4, 2) := by decide +kernel
theorem dX3_settle_40 : decode cX3_settle 40 = .ok (.ifCond .eq 23, 3) := by decide +kernel
theorem dX3_settle_43 : decode cX3_settle 43 = .ok (.aload_n 0, 1) := by decide +kernel
theorem dX3_settle_44 : decode cX3_settle 44 = .ok (.getfield 34, 3) := by decide +kernel
theorem dX3_settle_47 : decode cX3_settle 47 = .ok (.iload_n 3, 1) := by decide +kernel
theorem dX3_settle_48 : decode cX3_settle 48 = .ok (.iload_n 2, 1) := by decide +kernel
theorem dX3_settle_49 : decode cX3_settle 49 = .ok (.iadd, 1) := by decide +kernel
theorem dX3_settle_50 : decode cX3_settle 50 = .ok (.laload, 1) := by decide +kernel
theorem dX3_settle_51 : decode cX3_settle 51 = .ok (.aload_n 0, 1) := by decide +kernel
theorem dX3_settle_52 : decode cX3_settle 52 = .ok (.getfield 30, 3) := by decide +kernel
theorem dX3_settle_55 : decode cX3_settle 55 = .ok (.iload_n 3, 1) := by decide +kernel
theorem dX3_settle_56 : decode cX3_settle 56 = .ok (.iload_n 2, 1) := by decide +kernel
theorem dX3_settle_57 : decode cX3_settle 57 = .ok (.iadd, 1) := by decide +kernel
theorem dX3_settle_58 : decode cX3_settle 58 = .ok (.laload, 1) := by decide +kernel
theorem dX3_settle_59 : decode cX3_settle 59 = .ok (.lcmp, 1) := by decide +kernel
theorem dX3_settle_60 : decode cX3_settle 60 = .ok (.ifCond .le 34, 3) := by decide +kernel
theorem dX3_settle_63 : decode cX3_settle 63 = .ok (.aload_n 0, 1) := by decide +kernel
theorem dX3_settle_64 : decode cX3_settle 64 = .ok (.getfield 34, 3) := by decide +kernel
theorem dX3_settle_67 : decode cX3_settle 67 = .ok (.iload_n 3, 1) := by decide +kernel
theorem dX3_settle_68 : decode cX3_settle 68 = .ok (.aload_n 0, 1) := by decide +kernel
theorem dX3_settle_69 : decode cX3_settle 69 = .ok (.getfield 30, 3) := by decide +kernel
theorem dX3_settle_72 : decode cX3_settle 72 = .ok (.iload_n 3, 1) := by decide +kernel
theorem dX3_settle_73 : decode cX3_settle 73 = .ok (.iconst 3, 1) := by decide +kernel
theorem dX3_settle_74 : decode cX3_settle 74 = .ok (.invokestatic 100, 3) := by decide +kernel
theorem dX3_settle_77 : decode cX3_settle 77 = .ok (.aload_n 0, 1) := by decide +kernel
theorem dX3_settle_78 : decode cX3_settle 78 = .ok (.iload_n 2, 1) := by decide +kernel
theorem dX3_settle_79 : decode cX3_settle 79 = .ok (.ifCond .ne 8, 3) := by decide +kernel
theorem dX3_settle_82 : decode cX3_settle 82 = .ok (.iload 4, 2) := by decide +kernel
theorem dX3_settle_84 : decode cX3_settle 84 = .ok (.goto 7, 3) := by decide +kernel
theorem dX3_settle_87 : decode cX3_settle 87 = .ok (.aload_n 0, 1) := by decide +kernel
theorem dX3_settle_88 : decode cX3_settle 88 = .ok (.getfield 106, 3) := by decide +kernel
theorem dX3_settle_91 : decode cX3_settle 91 = .ok (.putfield 106, 3) := by decide +kernel
theorem dX3_settle_94 : decode cX3_settle 94 = .ok (.iinc 4 1, 3) := by decide +kernel
theorem dX3_settle_97 : decode cX3_settle 97 = .ok (.goto (-76), 3) := by decide +kernel
theorem dX3_settle_100 : decode cX3_settle 100 = .ok (.return_, 1) := by decide +kernel
theorem dX3_weigh_0 : decode cX3_weigh 0 = .ok (.iload_n 2, 1) := by decide +kernel
theorem dX3_weigh_1 : decode cX3_weigh 1 = .ok (.iconst 3, 1) := by decide +kernel
theorem dX3_weigh_2 : decode cX3_weigh 2 = .ok (.imul, 1) := by decide +kernel
theorem dX3_weigh_3 : decode cX3_weigh 3 = .ok (.istore 4, 2) := by decide +kernel
theorem dX3_weigh_5 : decode cX3_weigh 5 = .ok (.aload_n 0, 1) := by decide +kernel
theorem dX3_weigh_6 : decode cX3_weigh 6 = .ok (.getfield 24, 3) := by decide +kernel
theorem dX3_weigh_9 : decode cX3_weigh 9 = .ok (.iload_n 2, 1) := by decide +kernel
theorem dX3_weigh_10 : decode cX3_weigh 10 = .ok (.bipush 6, 2) := by decide +kernel
theorem dX3_weigh_12 : decode cX3_weigh 12 = .ok (.imul, 1) := by decide +kernel
theorem dX3_weigh_13 : decode cX3_weigh 13 = .ok (.iload_n 3, 1) := by decide +kernel
theorem dX3_weigh_14 : decode cX3_weigh 14 = .ok (.iadd, 1) := by decide +kernel
theorem dX3_weigh_15 : decode cX3_weigh 15 = .ok (.iaload, 1) := by decide +kernel
theorem dX3_weigh_16 : decode cX3_weigh 16 = .ok (.i2l, 1) := by decide +kernel
theorem dX3_weigh_17 : decode cX3_weigh 17 = .ok (.lstore 5, 2) := by decide +kernel
theorem dX3_weigh_19 : decode cX3_weigh 19 = .ok (.aload_n 0, 1) := by decide +kernel
theorem dX3_weigh_20 : decode cX3_weigh 20 = .ok (.getfield 27, 3) := by decide +kernel
theorem dX3_weigh_23 : decode cX3_weigh 23 = .ok (.iload_n 2, 1) := by decide +kernel
theorem dX3_weigh_24 : decode cX3_weigh 24 = .ok (.iconst 2, 1) := by decide +kernel
theorem dX3_weigh_25 : decode cX3_weigh 25 = .ok (.iload_n 3, 1) := by decide +kernel
theorem dX3_weigh_26 : decode cX3_weigh 26 = .ok (.imul, 1) := by decide +kernel
theorem dX3_weigh_27 : decode cX3_weigh 27 = .ok (.iastore, 1) := by decide +kernel
theorem dX3_weigh_28 : decode cX3_weigh 28 = .ok (.aload_n 0, 1) := by decide +kernel
theorem dX3_weigh_29 : decode cX3_weigh 29 = .ok (.aload_n 1, 1) := by decide +kernel
theorem dX3_weigh_30 : decode cX3_weigh 30 = .ok (.iload_n 2, 1) := by decide +kernel
theorem dX3_weigh_31 : decode cX3_weigh 31 = .ok (.iconst 1, 1) := by decide +kernel
theorem dX3_weigh_32 : decode cX3_weigh 32 = .ok (.iadd, 1) := by decide +kernel
theorem dX3_weigh_33 : decode cX3_weigh 33 = .ok (.invokevirtual 86, 3) := by decide +kernel
theorem dX3_weigh_36 : decode cX3_weigh 36 = .ok (.iconst 0, 1) := by decide +kernel
theorem dX3_weigh_37 : decode cX3_weigh 37 = .ok (.istore 7, 2) := by decide +kernel
theorem dX3_weigh_39 : decode cX3_weigh 39 = .ok (.iload 7, 2) := by decide +kernel
theorem dX3_weigh_41 : decode cX3_weigh 41 = .ok (.aload_n 0, 1) := by decide +kernel
theorem dX3_weigh_42 : decode cX3_weigh 42 = .ok (.getfield 43, 3) := by decide +kernel
theorem dX3_weigh_45 : decode cX3_weigh 45 = .ok (.if_icmp .ge 34, 3) := by decide +kernel
theorem dX3_weigh_48 : decode cX3_weigh 48 = .ok (.aload_n 0, 1) := by decide +kernel
theorem dX3_weigh_49 : decode cX3_weigh 49 = .ok (.getfield 34, 3) := by decide +kernel
theorem dX3_weigh_52 : decode cX3_weigh 52 = .ok (.iload 4, 2) := by decide +kernel
theorem dX3_weigh_54 : decode cX3_weigh 54 = .ok (.iload 7, 2) := by decide +kernel
theorem dX3_weigh_56 : decode cX3_weigh 56 = .ok (.iadd, 1) := by decide +kernel
theorem dX3_weigh_57 : decode cX3_weigh 57 = .ok (.lload 5, 2) := by decide +kernel
theorem dX3_weigh_59 : decode cX3_weigh 59 = .ok (.aload_n 0, 1) := by decide +kernel
theorem dX3_weigh_60 : decode cX3_weigh 60 = .ok (.getfield 30, 3) := by decide +kernel
theorem dX3_weigh_63 : decode cX3_weigh 63 = .ok (.iload 4, 2) := by decide +kernel
theorem dX3_weigh_65 : decode cX3_weigh 65 = .ok (.iconst 3, 1) := by decide +kernel
theorem dX3_weigh_66 : decode cX3_weigh 66 = .ok (.iadd, 1) := by decide +kernel
theorem dX3_weigh_67 : decode cX3_weigh 67 = .ok (.iload 7, 2) := by decide +kernel
theorem dX3_weigh_69 : decode cX3_weigh 69 = .ok (.iadd, 1) := by decide +kernel
theorem dX3_weigh_70 : decode cX3_weigh 70 = .ok (.laload, 1) := by decide +kernel
theorem dX3_weigh_71 : decode cX3_weigh 71 = .ok (.lmul, 1) := by decide +kernel
theorem dX3_weigh_72 : decode cX3_weigh 72 = .ok (.lastore, 1) := by decide +kernel
theorem dX3_weigh_73 : decode cX3_weigh 73 = .ok (.iinc 7 1, 3) := by decide +kernel
theorem dX3_weigh_76 : decode cX3_weigh 76 = .ok (.goto (-37), 3) := by decide +kernel
theorem dX3_weigh_79 : decode cX3_weigh 79 = .ok (.aload_n 0, 1) := by decide +kernel
theorem dX3_weigh_80 : decode cX3_weigh 80 = .ok (.getfield 27, 3) := by decide +kernel
theorem dX3_weigh_83 : decode cX3_weigh 83 = .ok (.iload_n 2, 1) := by decide +kernel
theorem dX3_weigh_84 : decode cX3_weigh 84 = .ok (.iconst 2, 1) := by decide +kernel
