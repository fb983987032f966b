theorem dX12_refusesRide_0 : decode cX12_refusesRide 0 = .ok (.iload_n 1, 1) := by decide +kernel
theorem dX12_refusesRide_1 : decode cX12_refusesRide 1 = .ok (.iconst 0, 1) := by decide +kernel
theorem dX12_refusesRide_2 : decode cX12_refusesRide 2 = .ok (.iconst 5, 1) := by decide +kernel
theorem dX12_refusesRide_3 : decode cX12_refusesRide 3 = .ok (.invokestatic 122, 3) := by decide +kernel
theorem dX12_refusesRide_6 : decode cX12_refusesRide 6 = .ok (.ifCond .eq 12, 3) := by decide +kernel
theorem dX12_refusesRide_9 : decode cX12_refusesRide 9 = .ok (.aload_n 0, 1) := by decide +kernel
theorem dX12_refusesRide_10 : decode cX12_refusesRide 10 = .ok (.iload_n 2, 1) := by decide +kernel
theorem dX12_refusesRide_11 : decode cX12_refusesRide 11 = .ok (.iload_n 3, 1) := by decide +kernel
theorem dX12_refusesRide_12 : decode cX12_refusesRide 12 = .ok (.invokevirtual 279, 3) := by decide +kernel
theorem dX12_refusesRide_15 : decode cX12_refusesRide 15 = .ok (.ifCond .ne 5, 3) := by decide +kernel
theorem dX12_refusesRide_18 : decode cX12_refusesRide 18 = .ok (.iconst (-1), 1) := by decide +kernel
theorem dX12_refusesRide_19 : decode cX12_refusesRide 19 = .ok (.ireturn, 1) := by decide +kernel
theorem dX12_refusesRide_20 : decode cX12_refusesRide 20 = .ok (.aload_n 0, 1) := by decide +kernel
theorem dX12_refusesRide_21 : decode cX12_refusesRide 21 = .ok (.getfield 9, 3) := by decide +kernel
theorem dX12_refusesRide_24 : decode cX12_refusesRide 24 = .ok (.bipush 48, 2) := by decide +kernel
theorem dX12_refusesRide_26 : decode cX12_refusesRide 26 = .ok (.iaload, 1) := by decide +kernel
theorem dX12_refusesRide_27 : decode cX12_refusesRide 27 = .ok (.bipush 12, 2) := by decide +kernel
theorem dX12_refusesRide_29 : decode cX12_refusesRide 29 = .ok (.if_icmp .ne 8, 3) := by decide +kernel
theorem dX12_refusesRide_32 : decode cX12_refusesRide 32 = .ok (.bipush (-2), 2) := by decide +kernel
theorem dX12_refusesRide_34 : decode cX12_refusesRide 34 = .ok (.goto 4, 3) := by decide +kernel
theorem dX12_refusesRide_37 : decode cX12_refusesRide 37 = .ok (.iconst 0, 1) := by decide +kernel
theorem dX12_refusesRide_38 : decode cX12_refusesRide 38 = .ok (.ireturn, 1) := by decide +kernel
theorem dX12_ride_0 : decode cX12_ride 0 = .ok (.aload_n 0, 1) := by decide +kernel
theorem dX12_ride_1 : decode cX12_ride 1 = .ok (.iconst 0, 1) := by decide +kernel
theorem dX12_ride_2 : decode cX12_ride 2 = .ok (.putfield 113, 3) := by decide +kernel
theorem dX12_ride_5 : decode cX12_ride 5 = .ok (.aload_n 0, 1) := by decide +kernel
theorem dX12_ride_6 : decode cX12_ride 6 = .ok (.iload_n 1, 1) := by decide +kernel
theorem dX12_ride_7 : decode cX12_ride 7 = .ok (.iload_n 2, 1) := by decide +kernel
theorem dX12_ride_8 : decode cX12_ride 8 = .ok (.iload_n 3, 1) := by decide +kernel
theorem dX12_ride_9 : decode cX12_ride 9 = .ok (.invokevirtual 328, 3) := by decide +kernel
theorem dX12_ride_12 : decode cX12_ride 12 = .ok (.istore 5, 2) := by decide +kernel
theorem dX12_ride_14 : decode cX12_ride 14 = .ok (.iload 5, 2) := by decide +kernel
theorem dX12_ride_16 : decode cX12_ride 16 = .ok (.ifCond .ge 6, 3) := by decide +kernel
theorem dX12_ride_19 : decode cX12_ride 19 = .ok (.iload 5, 2) := by decide +kernel
theorem dX12_ride_21 : decode cX12_ride 21 = .ok (.ireturn, 1) := by decide +kernel
theorem dX12_ride_22 : decode cX12_ride 22 = .ok (.aload_n 0, 1) := by decide +kernel
theorem dX12_ride_23 : decode cX12_ride 23 = .ok (.aload_n 0, 1) := by decide +kernel
theorem dX12_ride_24 : decode cX12_ride 24 = .ok (.getfield 9, 3) := by decide +kernel
theorem dX12_ride_27 : decode cX12_ride 27 = .ok (.invokevirtual 331, 3) := by decide +kernel
theorem dX12_ride_30 : decode cX12_ride 30 = .ok (.aload_n 0, 1) := by decide +kernel
theorem dX12_ride_31 : decode cX12_ride 31 = .ok (.iload_n 2, 1) := by decide +kernel
theorem dX12_ride_32 : decode cX12_ride 32 = .ok (.iload_n 3, 1) := by decide +kernel
theorem dX12_ride_33 : decode cX12_ride 33 = .ok (.iload 4, 2) := by decide +kernel
theorem dX12_ride_35 : decode cX12_ride 35 = .ok (.invokevirtual 335, 3) := by decide +kernel
theorem dX12_ride_38 : decode cX12_ride 38 = .ok (.istore 6, 2) := by decide +kernel
theorem dX12_ride_40 : decode cX12_ride 40 = .ok (.aload_n 0, 1) := by decide +kernel
theorem dX12_ride_41 : decode cX12_ride 41 = .ok (.getfield 9, 3) := by decide +kernel
theorem dX12_ride_44 : decode cX12_ride 44 = .ok (.iload_n 1, 1) := by decide +kernel
theorem dX12_ride_45 : decode cX12_ride 45 = .ok (.iload_n 2, 1) := by decide +kernel
theorem dX12_ride_46 : decode cX12_ride 46 = .ok (.iload 6, 2) := by decide +kernel
theorem dX12_ride_48 : decode cX12_ride 48 = .ok (.aload_n 0, 1) := by decide +kernel
theorem dX12_ride_49 : decode cX12_ride 49 = .ok (.getfield 313, 3) := by decide +kernel
theorem dX12_ride_52 : decode cX12_ride 52 = .ok (.invokestatic 338, 3) := by decide +kernel
theorem dX12_ride_55 : decode cX12_ride 55 = .ok (.aload_n 0, 1) := by decide +kernel
theorem dX12_ride_56 : decode cX12_ride 56 = .ok (.invokevirtual 342, 3) := by decide +kernel
theorem dX12_ride_59 : decode cX12_ride 59 = .ok (.iload 6, 2) := by decide +kernel
theorem dX12_ride_61 : decode cX12_ride 61 = .ok (.ireturn, 1) := by decide +kernel
theorem dX12_look_0 : decode cX12_look 0 = .ok (.aload_n 0, 1) := by decide +kernel
theorem dX12_look_1 : decode cX12_look 1 = .ok (.iconst 0, 1) := by decide +kernel
theorem dX12_look_2 : decode cX12_look 2 = .ok (.putfield 113, 3) := by decide +kernel
theorem dX12_look_5 : decode cX12_look 5 = .ok (.aload_n 0, 1) := by decide +kernel
theorem dX12_look_6 : decode cX12_look 6 = .ok (.iload_n 1, 1) := by decide +kernel
theorem dX12_look_7 : decode cX12_look 7 = .ok (.iload_n 2, 1) := by decide +kernel
theorem dX12_look_8 : decode cX12_look 8 = .ok (.invokevirtual 279, 3) := by decide +kernel
theorem dX12_look_11 : decode cX12_look 11 = .ok (.ifCond .ne 5, 3) := by decide +kernel
theorem dX12_look_14 : decode cX12_look 14 = .ok (.iconst (-1), 1) := by decide +kernel
theorem dX12_look_15 : decode cX12_look 15 = .ok (.ireturn, 1) := by decide +kernel
theorem dX12_look_16 : decode cX12_look 16 = .ok (.aload_n 0, 1) := by decide +kernel
theorem dX12_look_17 : decode cX12_look 17 = .ok (.iload_n 1, 1) := by decide +kernel
theorem dX12_look_18 : decode cX12_look 18 = .ok (.iload_n 2, 1) := by decide +kernel
theorem dX12_look_19 : decode cX12_look 19 = .ok (.iload_n 3, 1) := by decide +kernel
theorem dX12_look_20 : decode cX12_look 20 = .ok (.invokevirtual 335, 3) := by decide +kernel
theorem dX12_look_23 : decode cX12_look 23 = .ok (.istore 4, 2) := by decide +kernel
theorem dX12_look_25 : decode cX12_look 25 = .ok (.aload_n 0, 1) := by decide +kernel
theorem dX12_look_26 : decode cX12_look 26 = .ok (.invokevirtual 342, 3) := by decide +kernel
theorem dX12_look_29 : decode cX12_look 29 = .ok (.iload 4, 2) := by decide +kernel
theorem dX12_look_31 : decode cX12_look 31 = .ok (.ireturn, 1) := by decide +kernel
theorem dX12_refusesTold_0 : decode cX12_refusesTold 0 = .ok (.iload_n 1, 1) := by decide +kernel
theorem dX12_refusesTold_1 : decode cX12_refusesTold 1 = .ok (.iconst 0, 1) := by decide +kernel
theorem dX12_refusesTold_2 : decode cX12_refusesTold 2 = .ok (.iconst 5, 1) := by decide +kernel
theorem dX12_refusesTold_3 : decode cX12_refusesTold 3 = .ok (.invokestatic 122, 3) := by decide +kernel
theorem dX12_refusesTold_6 : decode cX12_refusesTold 6 = .ok (.ifCond .eq 29, 3) := by decide +kernel
theorem dX12_refusesTold_9 : decode cX12_refusesTold 9 = .ok (.aload_n 0, 1) := by decide +kernel
theorem dX12_refusesTold_10 : decode cX12_refusesTold 10 = .ok (.iload_n 2, 1) := by decide +kernel
theorem dX12_refusesTold_11 : decode cX12_refusesTold 11 = .ok (.invokevirtual 132, 3) := by decide +kernel
theorem dX12_refusesTold_14 : decode cX12_refusesTold 14 = .ok (.ifCond .eq 21, 3) := by decide +kernel
theorem dX12_refusesTold_17 : decode cX12_refusesTold 17 = .ok (.iload_n 3, 1) := by decide +kernel
theorem dX12_refusesTold_18 : decode cX12_refusesTold 18 = .ok (.iconst 0, 1) := by decide +kernel
theorem dX12_refusesTold_19 : decode cX12_refusesTold 19 = .ok (.bipush 99, 2) := by decide +kernel
theorem dX12_refusesTold_21 : decode cX12_refusesTold 21 = .ok (.invokestatic 122, 3) := by decide +kernel
theorem dX12_refusesTold_24 : decode cX12_refusesTold 24 = .ok (.ifCond .eq 11, 3) := by decide +kernel
theorem dX12_refusesTold_27 : decode cX12_refusesTold 27 = .ok (.iload 4, 2) := by decide +kernel
theorem dX12_refusesTold_29 : decode cX12_refusesTold 29 = .ok (.invokestatic 256, 3) := by decide +kernel
theorem dX12_refusesTold_32 : decode cX12_refusesTold 32 = .ok (.ifCond .ne 5, 3) := by decide +kernel
theorem dX12_refusesTold_35 : decode cX12_refusesTold 35 = .ok (.iconst (-1), 1) := by decide +kernel
theorem dX12_refusesTold_36 : decode cX12_refusesTold 36 = .ok (.ireturn, 1) := by decide +kernel
theorem dX12_refusesTold_37 : decode cX12_refusesTold 37 = .ok (.aload_n 0, 1) := by decide +kernel
theorem dX12_refusesTold_38 : decode cX12_refusesTold 38 = .ok (.getfield 9, 3) := by decide +kernel
theorem dX12_refusesTold_41 : decode cX12_refusesTold 41 = .ok (.bipush 48, 2) := by decide +kernel
theorem dX12_refusesTold_43 : decode cX12_refusesTold 43 = .ok (.iaload, 1) := by decide +kernel
theorem dX12_refusesTold_44 : decode cX12_refusesTold 44 = .ok (.bipush 12, 2) := by decide +kernel
theorem dX12_refusesTold_46 : decode cX12_refusesTold 46 = .ok (.if_icmp .ne 8, 3) := by decide +kernel
theorem dX12_refusesTold_49 : decode cX12_refusesTold 49 = .ok (.bipush (-2), 2) := by decide +kernel
theorem dX12_refusesTold_51 : decode cX12_refusesTold 51 = .ok (.goto 4, 3) := by decide +kernel
theorem dX12_refusesTold_54 : decode cX12_refusesTold 54 = .ok (.iconst 0, 1) := by decide +kernel
theorem dX12_refusesTold_55 : decode cX12_refusesTold 55 = .ok (.ireturn, 1) := by decide +kernel
theorem dX12_told_0 : decode cX12_told 0 = .ok (.aload_n 0, 1) := by decide +kernel
theorem dX12_told_1 : decode cX12_told 1 = .ok (.iconst 0, 1) := by decide +kernel
theorem dX12_told_2 : decode cX12_told 2 = .ok (.putfield 113, 3) := by decide +kernel
theorem dX12_told_5 : decode cX12_told 5 = .ok (.aload_n 0, 1) := by decide +kernel
theorem dX12_told_6 : decode cX12_told 6 = .ok (.iload_n 1, 1) := by decide +kernel
theorem dX12_told_7 : decode cX12_told 7 = .ok (.iload_n 2, 1) := by decide +kernel
theorem dX12_told_8 : decode cX12_told 8 = .ok (.iload_n 3, 1) := by decide +kernel
theorem dX12_told_9 : decode cX12_told 9 = .ok (.iload 4, 2) := by decide +kernel
theorem dX12_told_11 : decode cX12_told 11 = .ok (.invokevirtual 345, 3) := by decide +kernel
theorem dX12_told_14 : decode cX12_told 14 = .ok (.istore 5, 2) := by decide +kernel
theorem dX12_told_16 : decode cX12_told 16 = .ok (.iload 5, 2) := by decide +kernel
theorem dX12_told_18 : decode cX12_told 18 = .ok (.ifCond .ge 6, 3) := by decide +kernel
theorem dX12_told_21 : decode cX12_told 21 = .ok (.iload 5, 2) := by decide +kernel
theorem dX12_told_23 : decode cX12_told 23 = .ok (.ireturn, 1) := by decide +kernel
theorem dX12_told_24 : decode cX12_told 24 = .ok (.aload_n 0, 1) := by decide +kernel
theorem dX12_told_25 : decode cX12_told 25 = .ok (.aload_n 0, 1) := by decide +kernel
theorem dX12_told_26 : decode cX12_told 26 = .ok (.getfield 9, 3) := by decide +kernel
theorem dX12_told_29 : decode cX12_told 29 = .ok (.invokevirtual 331, 3) := by decide +kernel
theorem dX12_told_32 : decode cX12_told 32 = .ok (.aload_n 0, 1) := by decide +kernel
theorem dX12_told_33 : decode cX12_told 33 = .ok (.getfield 9, 3) := by decide +kernel
theorem dX12_told_36 : decode cX12_told 36 = .ok (.iload_n 1, 1) := by decide +kernel
theorem dX12_told_37 : decode cX12_told 37 = .ok (.iload_n 2, 1) := by decide +kernel
theorem dX12_told_38 : decode cX12_told 38 = .ok (.iload_n 3, 1) := by decide +kernel
theorem dX12_told_39 : decode cX12_told 39 = .ok (.iload 4, 2) := by decide +kernel
theorem dX12_told_41 : decode cX12_told 41 = .ok (.invokestatic 338, 3) := by decide +kernel
theorem dX12_told_44 : decode cX12_told 44 = .ok (.aload_n 0, 1) := by decide +kernel
theorem dX12_told_45 : decode cX12_told 45 = .ok (.getfield 9, 3) := by decide +kernel
theorem dX12_told_48 : decode cX12_told 48 = .ok (.bipush 48, 2) := by decide +kernel
theorem dX12_told_50 : decode cX12_told 50 = .ok (.iaload, 1) := by decide +kernel
theorem dX12_told_51 : decode cX12_told 51 = .ok (.ireturn, 1) := by decide +kernel
theorem dX12_show_0 : decode cX12_show 0 = .ok (.aload_n 0, 1) := by decide +kernel
theorem dX12_show_1 : decode cX12_show 1 = .ok (.iconst 0, 1) := by decide +kernel
theorem dX12_show_2 : decode cX12_show 2 = .ok (.putfield 113, 3) := by decide +kernel
theorem dX12_show_5 : decode cX12_show 5 = .ok (.aload_n 0, 1) := by decide +kernel
theorem dX12_show_6 : decode cX12_show 6 = .ok (.aload_n 0, 1) := by decide +kernel
theorem dX12_show_7 : decode cX12_show 7 = .ok (.getfield 41, 3) := by decide +kernel
theorem dX12_show_10 : decode cX12_show 10 = .ok (.aload_n 0, 1) := by decide +kernel
theorem dX12_show_11 : decode cX12_show 11 = .ok (.getfield 139, 3) := by decide +kernel
theorem dX12_show_14 : decode cX12_show 14 = .ok (.bipush 60, 2) := by decide +kernel
theorem dX12_show_16 : decode cX12_show 16 = .ok (.invokevirtual 185, 3) := by decide +kernel
theorem dX12_show_19 : decode cX12_show 19 = .ok (.aload_n 0, 1) := by decide +kernel
theorem dX12_show_20 : decode cX12_show 20 = .ok (.iconst 0, 1) := by decide +kernel
theorem dX12_show_21 : decode cX12_show 21 = .ok (.putfield 139, 3) := by decide +kernel
theorem dX12_show_24 : decode cX12_show 24 = .ok (.iconst 0, 1) := by decide +kernel
theorem dX12_show_25 : decode cX12_show 25 = .ok (.istore_n 1, 1) := by decide +kernel
theorem dX12_show_26 : decode cX12_show 26 = .ok (.aload_n 0, 1) := by decide +kernel
theorem dX12_show_27 : decode cX12_show 27 = .ok (.getfield 145, 3) := by decide +kernel
theorem dX12_show_30 : decode cX12_show 30 = .ok (.ifCond .le 7, 3) := by decide +kernel
theorem dX12_show_33 : decode cX12_show 33 = .ok (.iconst 1, 1) := by decide +kernel
theorem dX12_show_34 : decode cX12_show 34 = .ok (.goto 4, 3) := by decide +kernel
theorem dX12_show_37 : decode cX12_show 37 = .ok (.iconst 0, 1) := by decide +kernel
theorem dX12_show_38 : decode cX12_show 38 = .ok (.istore_n 2, 1) := by decide +kernel
theorem dX12_show_39 : decode cX12_show 39 = .ok (.iload_n 2, 1) := by decide +kernel
theorem dX12_show_40 : decode cX12_show 40 = .ok (.ifCond .eq 30, 3) := by decide +kernel
theorem dX12_show_43 : decode cX12_show 43 = .ok (.aload_n 0, 1) := by decide +kernel
theorem dX12_show_44 : decode cX12_show 44 = .ok (.invokevirtual 157, 3) := by decide +kernel
theorem dX12_show_47 : decode cX12_show 47 = .ok (.ifCond .eq 23, 3) := by decide +kernel
theorem dX12_show_50 : decode cX12_show 50 = .ok (.aload_n 0, 1) := by decide +kernel
theorem dX12_show_51 : decode cX12_show 51 = .ok (.iconst 5, 1) := by decide +kernel
theorem dX12_show_52 : decode cX12_show 52 = .ok (.iload_n 1, 1) := by decide +kernel
theorem dX12_show_53 : decode cX12_show 53 = .ok (.imul, 1) := by decide +kernel
theorem dX12_show_54 : decode cX12_show 54 = .ok (.invokevirtual 348, 3) := by decide +kernel
theorem dX12_show_57 : decode cX12_show 57 = .ok (.iinc 1 1, 3) := by decide +kernel
theorem dX12_show_60 : decode cX12_show 60 = .ok (.aload_n 0, 1) := by decide +kernel
theorem dX12_show_61 : decode cX12_show 61 = .ok (.bipush 59, 2) := by decide +kernel
theorem dX12_show_63 : decode cX12_show 63 = .ok (.invokevirtual 165, 3) := by decide +kernel
theorem dX12_show_66 : decode cX12_show 66 = .ok (.istore_n 2, 1) := by decide +kernel
theorem dX12_show_67 : decode cX12_show 67 = .ok (.goto (-28), 3) := by decide +kernel
theorem dX12_show_70 : decode cX12_show 70 = .ok (.aload_n 0, 1) := by decide +kernel
theorem dX12_show_71 : decode cX12_show 71 = .ok (.getfield 151, 3) := by decide +kernel
theorem dX12_show_74 : decode cX12_show 74 = .ok (.aload_n 0, 1) := by decide +kernel
theorem dX12_show_75 : decode cX12_show 75 = .ok (.getfield 145, 3) := by decide +kernel
theorem dX12_show_78 : decode cX12_show 78 = .ok (.if_icmp .ge 11, 3) := by decide +kernel
theorem dX12_show_81 : decode cX12_show 81 = .ok (.aload_n 0, 1) := by decide +kernel
theorem dX12_show_82 : decode cX12_show 82 = .ok (.aload_n 0, 1) := by decide +kernel
theorem dX12_show_83 : decode cX12_show 83 = .ok (.getfield 151, 3) := by decide +kernel
theorem dX12_show_86 : decode cX12_show 86 = .ok (.invokevirtual 169, 3) := by decide +kernel
theorem dX12_show_89 : decode cX12_show 89 = .ok (.aload_n 0, 1) := by decide +kernel
theorem dX12_show_90 : decode cX12_show 90 = .ok (.invokevirtual 157, 3) := by decide +kernel
theorem dX12_show_93 : decode cX12_show 93 = .ok (.ifCond .ne 10, 3) := by decide +kernel
theorem dX12_show_96 : decode cX12_show 96 = .ok (.iconst (-1), 1) := by decide +kernel
theorem dX12_show_97 : decode cX12_show 97 = .ok (.aload_n 0, 1) := by decide +kernel
theorem dX12_show_98 : decode cX12_show 98 = .ok (.getfield 154, 3) := by decide +kernel
theorem dX12_show_101 : decode cX12_show 101 = .ok (.isub, 1) := by decide +kernel
theorem dX12_show_102 : decode cX12_show 102 = .ok (.ireturn, 1) := by decide +kernel
theorem dX12_show_103 : decode cX12_show 103 = .ok (.aload_n 0, 1) := by decide +kernel
theorem dX12_show_104 : decode cX12_show 104 = .ok (.getfield 9, 3) := by decide +kernel
theorem dX12_show_107 : decode cX12_show 107 = .ok (.aload_n 0, 1) := by decide +kernel
theorem dX12_show_108 : decode cX12_show 108 = .ok (.getfield 76, 3) := by decide +kernel
theorem dX12_show_111 : decode cX12_show 111 = .ok (.iconst 0, 1) := by decide +kernel
theorem dX12_show_112 : decode cX12_show 112 = .ok (.invokestatic 305, 3) := by decide +kernel
theorem dX12_show_115 : decode cX12_show 115 = .ok (.iconst 0, 1) := by decide +kernel
theorem dX12_show_116 : decode cX12_show 116 = .ok (.istore_n 3, 1) := by decide +kernel
theorem dX12_show_117 : decode cX12_show 117 = .ok (.iload_n 3, 1) := by decide +kernel
theorem dX12_show_118 : decode cX12_show 118 = .ok (.iload_n 1, 1) := by decide +kernel
theorem dX12_show_119 : decode cX12_show 119 = .ok (.if_icmp .ge 19, 3) := by decide +kernel
theorem dX12_show_122 : decode cX12_show 122 = .ok (.aload_n 0, 1) := by decide +kernel
theorem dX12_show_123 : decode cX12_show 123 = .ok (.iconst 5, 1) := by decide +kernel
theorem dX12_show_124 : decode cX12_show 124 = .ok (.iload_n 3, 1) := by decide +kernel
theorem dX12_show_125 : decode cX12_show 125 = .ok (.imul, 1) := by decide +kernel
theorem dX12_show_126 : decode cX12_show 126 = .ok (.invokevirtual 351, 3) := by decide +kernel
theorem dX12_show_129 : decode cX12_show 129 = .ok (.ifCond .eq 9, 3) := by decide +kernel
theorem dX12_show_132 : decode cX12_show 132 = .ok (.iinc 3 1, 3) := by decide +kernel
theorem dX12_show_135 : decode cX12_show 135 = .ok (.goto (-18), 3) := by decide +kernel
theorem dX12_show_138 : decode cX12_show 138 = .ok (.iload_n 3, 1) := by decide +kernel
theorem dX12_show_139 : decode cX12_show 139 = .ok (.ifCond .le 11, 3) := by decide +kernel
theorem dX12_show_142 : decode cX12_show 142 = .ok (.aload_n 0, 1) := by decide +kernel
theorem dX12_show_143 : decode cX12_show 143 = .ok (.aload_n 0, 1) := by decide +kernel
theorem dX12_show_144 : decode cX12_show 144 = .ok (.getfield 76, 3) := by decide +kernel
theorem dX12_show_147 : decode cX12_show 147 = .ok (.invokevirtual 331, 3) := by decide +kernel
theorem dX12_show_150 : decode cX12_show 150 = .ok (.aload_n 0, 1) := by decide +kernel
theorem dX12_show_151 : decode cX12_show 151 = .ok (.iconst 0, 1) := by decide +kernel
theorem dX12_show_152 : decode cX12_show 152 = .ok (.putfield 116, 3) := by decide +kernel
theorem dX12_show_155 : decode cX12_show 155 = .ok (.aload_n 0, 1) := by decide +kernel
theorem dX12_show_156 : decode cX12_show 156 = .ok (.iload_n 3, 1) := by decide +kernel
theorem dX12_show_157 : decode cX12_show 157 = .ok (.iload_n 1, 1) := by decide +kernel
theorem dX12_show_158 : decode cX12_show 158 = .ok (.if_icmp .ge 7, 3) := by decide +kernel
theorem dX12_show_161 : decode cX12_show 161 = .ok (.lconst 1, 1) := by decide +kernel
theorem dX12_show_162 : decode cX12_show 162 = .ok (.goto 4, 3) := by decide +kernel
theorem dX12_show_165 : decode cX12_show 165 = .ok (.lconst 0, 1) := by decide +kernel
theorem dX12_show_166 : decode cX12_show 166 = .ok (.invokevirtual 265, 3) := by decide +kernel
theorem dX12_show_169 : decode cX12_show 169 = .ok (.aload_n 0, 1) := by decide +kernel
theorem dX12_show_170 : decode cX12_show 170 = .ok (.aload_n 0, 1) := by decide +kernel
theorem dX12_show_171 : decode cX12_show 171 = .ok (.getfield 9, 3) := by decide +kernel
theorem dX12_show_174 : decode cX12_show 174 = .ok (.bipush 48, 2) := by decide +kernel
theorem dX12_show_176 : decode cX12_show 176 = .ok (.iaload, 1) := by decide +kernel
theorem dX12_show_177 : decode cX12_show 177 = .ok (.i2l, 1) := by decide +kernel
theorem dX12_show_178 : decode cX12_show 178 = .ok (.invokevirtual 265, 3) := by decide +kernel
theorem dX12_show_181 : decode cX12_show 181 = .ok (.iload_n 3, 1) := by decide +kernel
theorem dX12_show_182 : decode cX12_show 182 = .ok (.ireturn, 1) := by decide +kernel
theorem dX12_readAct_0 : decode cX12_readAct 0 = .ok (.aload_n 0, 1) := by decide +kernel
theorem dX12_readAct_1 : decode cX12_readAct 1 = .ok (.invokevirtual 161, 3) := by decide +kernel
theorem dX12_readAct_4 : decode cX12_readAct 4 = .ok (.istore_n 2, 1) := by decide +kernel
theorem dX12_readAct_5 : decode cX12_readAct 5 = .ok (.iload_n 2, 1) := by decide +kernel
theorem dX12_readAct_6 : decode cX12_readAct 6 = .ok (.bipush 114, 2) := by decide +kernel
theorem dX12_readAct_8 : decode cX12_readAct 8 = .ok (.if_icmp .eq 23, 3) := by decide +kernel
theorem dX12_readAct_11 : decode cX12_readAct 11 = .ok (.iload_n 2, 1) := by decide +kernel
theorem dX12_readAct_12 : decode cX12_readAct 12 = .ok (.bipush 116, 2) := by decide +kernel
theorem dX12_readAct_14 : decode cX12_readAct 14 = .ok (.if_icmp .eq 17, 3) := by decide +kernel
theorem dX12_readAct_17 : decode cX12_readAct 17 = .ok (.iload_n 2, 1) := by decide +kernel
theorem dX12_readAct_18 : decode cX12_readAct 18 = .ok (.bipush 120, 2) := by decide +kernel
theorem dX12_readAct_20 : decode cX12_readAct 20 = .ok (.if_icmp .eq 11, 3) := by decide +kernel
theorem dX12_readAct_23 : decode cX12_readAct 23 = .ok (.aload_n 0, 1) := by decide +kernel
theorem dX12_readAct_24 : decode cX12_readAct 24 = .ok (.aload_n 0, 1) := by decide +kernel
theorem dX12_readAct_25 : decode cX12_readAct 25 = .ok (.getfield 151, 3) := by decide +kernel
theorem dX12_readAct_28 : decode cX12_readAct 28 = .ok (.invokevirtual 169, 3) := by decide +kernel
theorem dX12_readAct_31 : decode cX12_readAct 31 = .ok (.aload_n 0, 1) := by decide +kernel
theorem dX12_readAct_32 : decode cX12_readAct 32 = .ok (.dup, 1) := by decide +kernel
theorem dX12_readAct_33 : decode cX12_readAct 33 = .ok (.getfield 151, 3) := by decide +kernel
theorem dX12_readAct_36 : decode cX12_readAct 36 = .ok (.iconst 1, 1) := by decide +kernel
theorem dX12_readAct_37 : decode cX12_readAct 37 = .ok (.iadd, 1) := by decide +kernel
theorem dX12_readAct_38 : decode cX12_readAct 38 = .ok (.putfield 151, 3) := by decide +kernel
theorem dX12_readAct_41 : decode cX12_readAct 41 = .ok (.aload_n 0, 1) := by decide +kernel
theorem dX12_readAct_42 : decode cX12_readAct 42 = .ok (.getfield 79, 3) := by decide +kernel
theorem dX12_readAct_45 : decode cX12_readAct 45 = .ok (.iload_n 1, 1) := by decide +kernel
theorem dX12_readAct_46 : decode cX12_readAct 46 = .ok (.iload_n 2, 1) := by decide +kernel
theorem dX12_readAct_47 : decode cX12_readAct 47 = .ok (.iastore, 1) := by decide +kernel
theorem dX12_readAct_48 : decode cX12_readAct 48 = .ok (.iload_n 2, 1) := by decide +kernel
theorem dX12_readAct_49 : decode cX12_readAct 49 = .ok (.bipush 120, 2) := by decide +kernel
theorem dX12_readAct_51 : decode cX12_readAct 51 = .ok (.if_icmp .ne 4, 3) := by decide +kernel
theorem dX12_readAct_54 : decode cX12_readAct 54 = .ok (.return_, 1) := by decide +kernel
theorem dX12_readAct_55 : decode cX12_readAct 55 = .ok (.aload_n 0, 1) := by decide +kernel
theorem dX12_readAct_56 : decode cX12_readAct 56 = .ok (.getfield 79, 3) := by decide +kernel
theorem dX12_readAct_59 : decode cX12_readAct 59 = .ok (.iload_n 1, 1) := by decide +kernel
theorem dX12_readAct_60 : decode cX12_readAct 60 = .ok (.iconst 1, 1) := by decide +kernel
theorem dX12_readAct_61 : decode cX12_readAct 61 = .ok (.iadd, 1) := by decide +kernel
theorem dX12_readAct_62 : decode cX12_readAct 62 = .ok (.aload_n 0, 1) := by decide +kernel
theorem dX12_readAct_63 : decode cX12_readAct 63 = .ok (.iconst 0, 1) := by decide +kernel
theorem dX12_readAct_64 : decode cX12_readAct 64 = .ok (.bipush 9, 2) := by decide +kernel
theorem dX12_readAct_66 : decode cX12_readAct 66 = .ok (.invokevirtual 173, 3) := by decide +kernel
theorem dX12_readAct_69 : decode cX12_readAct 69 = .ok (.iastore, 1) := by decide +kernel
theorem dX12_readAct_70 : decode cX12_readAct 70 = .ok (.aload_n 0, 1) := by decide +kernel
theorem dX12_readAct_71 : decode cX12_readAct 71 = .ok (.getfield 79, 3) := by decide +kernel
theorem dX12_readAct_74 : decode cX12_readAct 74 = .ok (.iload_n 1, 1) := by decide +kernel
theorem dX12_readAct_75 : decode cX12_readAct 75 = .ok (.iconst 2, 1) := by decide +kernel
theorem dX12_readAct_76 : decode cX12_readAct 76 = .ok (.iadd, 1) := by decide +kernel
theorem dX12_readAct_77 : decode cX12_readAct 77 = .ok (.aload_n 0, 1) := by decide +kernel
theorem dX12_readAct_78 : decode cX12_readAct 78 = .ok (.iconst 0, 1) := by decide +kernel
theorem dX12_readAct_79 : decode cX12_readAct 79 = .ok (.bipush 9, 2) := by decide +kernel
theorem dX12_readAct_81 : decode cX12_readAct 81 = .ok (.invokevirtual 173, 3) := by decide +kernel
theorem dX12_readAct_84 : decode cX12_readAct 84 = .ok (.iastore, 1) := by decide +kernel
theorem dX12_readAct_85 : decode cX12_readAct 85 = .ok (.iload_n 2, 1) := by decide +kernel
theorem dX12_readAct_86 : decode cX12_readAct 86 = .ok (.bipush 114, 2) := by decide +kernel
theorem dX12_readAct_88 : decode cX12_readAct 88 = .ok (.if_icmp .ne 42, 3) := by decide +kernel
theorem dX12_readAct_91 : decode cX12_readAct 91 = .ok (.aload_n 0, 1) := by decide +kernel
theorem dX12_readAct_92 : decode cX12_readAct 92 = .ok (.getfield 79, 3) := by decide +kernel
theorem dX12_readAct_95 : decode cX12_readAct 95 = .ok (.iload_n 1, 1) := by decide +kernel
theorem dX12_readAct_96 : decode cX12_readAct 96 = .ok (.iconst 3, 1) := by decide +kernel
theorem dX12_readAct_97 : decode cX12_readAct 97 = .ok (.iadd, 1) := by decide +kernel
theorem dX12_readAct_98 : decode cX12_readAct 98 = .ok (.aload_n 0, 1) := by decide +kernel
theorem dX12_readAct_99 : decode cX12_readAct 99 = .ok (.iconst 0, 1) := by decide +kernel
theorem dX12_readAct_100 : decode cX12_readAct 100 = .ok (.bipush 9, 2) := by decide +kernel
theorem dX12_readAct_102 : decode cX12_readAct 102 = .ok (.invokevirtual 173, 3) := by decide +kernel
theorem dX12_readAct_105 : decode cX12_readAct 105 = .ok (.iastore, 1) := by decide +kernel
theorem dX12_readAct_106 : decode cX12_readAct 106 = .ok (.aload_n 0, 1) := by decide +kernel
theorem dX12_readAct_107 : decode cX12_readAct 107 = .ok (.bipush 42, 2) := by decide +kernel
theorem dX12_readAct_109 : decode cX12_readAct 109 = .ok (.invokevirtual 181, 3) := by decide +kernel
theorem dX12_readAct_112 : decode cX12_readAct 112 = .ok (.aload_n 0, 1) := by decide +kernel
theorem dX12_readAct_113 : decode cX12_readAct 113 = .ok (.getfield 79, 3) := by decide +kernel
theorem dX12_readAct_116 : decode cX12_readAct 116 = .ok (.iload_n 1, 1) := by decide +kernel
theorem dX12_readAct_117 : decode cX12_readAct 117 = .ok (.iconst 4, 1) := by decide +kernel
theorem dX12_readAct_118 : decode cX12_readAct 118 = .ok (.iadd, 1) := by decide +kernel
theorem dX12_readAct_119 : decode cX12_readAct 119 = .ok (.aload_n 0, 1) := by decide +kernel
theorem dX12_readAct_120 : decode cX12_readAct 120 = .ok (.iconst 0, 1) := by decide +kernel
theorem dX12_readAct_121 : decode cX12_readAct 121 = .ok (.bipush 9, 2) := by decide +kernel
theorem dX12_readAct_123 : decode cX12_readAct 123 = .ok (.invokevirtual 173, 3) := by decide +kernel
theorem dX12_readAct_126 : decode cX12_readAct 126 = .ok (.iastore, 1) := by decide +kernel
theorem dX12_readAct_127 : decode cX12_readAct 127 = .ok (.goto 41, 3) := by decide +kernel
theorem dX12_readAct_130 : decode cX12_readAct 130 = .ok (.aload_n 0, 1) := by decide +kernel
theorem dX12_readAct_131 : decode cX12_readAct 131 = .ok (.bipush 58, 2) := by decide +kernel
theorem dX12_readAct_133 : decode cX12_readAct 133 = .ok (.invokevirtual 181, 3) := by decide +kernel
theorem dX12_readAct_136 : decode cX12_readAct 136 = .ok (.aload_n 0, 1) := by decide +kernel
theorem dX12_readAct_137 : decode cX12_readAct 137 = .ok (.getfield 79, 3) := by decide +kernel
theorem dX12_readAct_140 : decode cX12_readAct 140 = .ok (.iload_n 1, 1) := by decide +kernel
theorem dX12_readAct_141 : decode cX12_readAct 141 = .ok (.iconst 3, 1) := by decide +kernel
theorem dX12_readAct_142 : decode cX12_readAct 142 = .ok (.iadd, 1) := by decide +kernel
theorem dX12_readAct_143 : decode cX12_readAct 143 = .ok (.aload_n 0, 1) := by decide +kernel
theorem dX12_readAct_144 : decode cX12_readAct 144 = .ok (.iconst 2, 1) := by decide +kernel
theorem dX12_readAct_145 : decode cX12_readAct 145 = .ok (.invokevirtual 198, 3) := by decide +kernel
theorem dX12_readAct_148 : decode cX12_readAct 148 = .ok (.iastore, 1) := by decide +kernel
theorem dX12_readAct_149 : decode cX12_readAct 149 = .ok (.aload_n 0, 1) := by decide +kernel
theorem dX12_readAct_150 : decode cX12_readAct 150 = .ok (.bipush 43, 2) := by decide +kernel
theorem dX12_readAct_152 : decode cX12_readAct 152 = .ok (.invokevirtual 181, 3) := by decide +kernel
theorem dX12_readAct_155 : decode cX12_readAct 155 = .ok (.aload_n 0, 1) := by decide +kernel
theorem dX12_readAct_156 : decode cX12_readAct 156 = .ok (.getfield 79, 3) := by decide +kernel
theorem dX12_readAct_159 : decode cX12_readAct 159 = .ok (.iload_n 1, 1) := by decide +kernel
theorem dX12_readAct_160 : decode cX12_readAct 160 = .ok (.iconst 4, 1) := by decide +kernel
theorem dX12_readAct_161 : decode cX12_readAct 161 = .ok (.iadd, 1) := by decide +kernel
theorem dX12_readAct_162 : decode cX12_readAct 162 = .ok (.aload_n 0, 1) := by decide +kernel
theorem dX12_readAct_163 : decode cX12_readAct 163 = .ok (.iconst 4, 1) := by decide +kernel
theorem dX12_readAct_164 : decode cX12_readAct 164 = .ok (.invokevirtual 198, 3) := by decide +kernel
theorem dX12_readAct_167 : decode cX12_readAct 167 = .ok (.iastore, 1) := by decide +kernel
theorem dX12_readAct_168 : decode cX12_readAct 168 = .ok (.return_, 1) := by decide +kernel
theorem dX12_act_0 : decode cX12_act 0 = .ok (.aload_n 0, 1) := by decide +kernel
theorem dX12_act_1 : decode cX12_act 1 = .ok (.getfield 79, 3) := by decide +kernel
theorem dX12_act_4 : decode cX12_act 4 = .ok (.iload_n 1, 1) := by decide +kernel
theorem dX12_act_5 : decode cX12_act 5 = .ok (.iconst 1, 1) := by decide +kernel
theorem dX12_act_6 : decode cX12_act 6 = .ok (.iadd, 1) := by decide +kernel
theorem dX12_act_7 : decode cX12_act 7 = .ok (.iaload, 1) := by decide +kernel
theorem dX12_act_8 : decode cX12_act 8 = .ok (.istore_n 2, 1) := by decide +kernel
theorem dX12_act_9 : decode cX12_act 9 = .ok (.aload_n 0, 1) := by decide +kernel
theorem dX12_act_10 : decode cX12_act 10 = .ok (.getfield 79, 3) := by decide +kernel
theorem dX12_act_13 : decode cX12_act 13 = .ok (.iload_n 1, 1) := by decide +kernel
theorem dX12_act_14 : decode cX12_act 14 = .ok (.iconst 2, 1) := by decide +kernel
theorem dX12_act_15 : decode cX12_act 15 = .ok (.iadd, 1) := by decide +kernel
theorem dX12_act_16 : decode cX12_act 16 = .ok (.iaload, 1) := by decide +kernel
theorem dX12_act_17 : decode cX12_act 17 = .ok (.istore_n 3, 1) := by decide +kernel
theorem dX12_act_18 : decode cX12_act 18 = .ok (.aload_n 0, 1) := by decide +kernel
theorem dX12_act_19 : decode cX12_act 19 = .ok (.getfield 79, 3) := by decide +kernel
theorem dX12_act_22 : decode cX12_act 22 = .ok (.iload_n 1, 1) := by decide +kernel
theorem dX12_act_23 : decode cX12_act 23 = .ok (.iconst 3, 1) := by decide +kernel
theorem dX12_act_24 : decode cX12_act 24 = .ok (.iadd, 1) := by decide +kernel
theorem dX12_act_25 : decode cX12_act 25 = .ok (.iaload, 1) := by decide +kernel
theorem dX12_act_26 : decode cX12_act 26 = .ok (.istore 4, 2) := by decide +kernel
theorem dX12_act_28 : decode cX12_act 28 = .ok (.aload_n 0, 1) := by decide +kernel
theorem dX12_act_29 : decode cX12_act 29 = .ok (.getfield 79, 3) := by decide +kernel
theorem dX12_act_32 : decode cX12_act 32 = .ok (.iload_n 1, 1) := by decide +kernel
theorem dX12_act_33 : decode cX12_act 33 = .ok (.iconst 4, 1) := by decide +kernel
theorem dX12_act_34 : decode cX12_act 34 = .ok (.iadd, 1) := by decide +kernel
theorem dX12_act_35 : decode cX12_act 35 = .ok (.iaload, 1) := by decide +kernel
theorem dX12_act_36 : decode cX12_act 36 = .ok (.istore 5, 2) := by decide +kernel
theorem dX12_act_38 : decode cX12_act 38 = .ok (.aload_n 0, 1) := by decide +kernel
theorem dX12_act_39 : decode cX12_act 39 = .ok (.getfield 79, 3) := by decide +kernel
theorem dX12_act_42 : decode cX12_act 42 = .ok (.iload_n 1, 1) := by decide +kernel
theorem dX12_act_43 : decode cX12_act 43 = .ok (.iaload, 1) := by decide +kernel
theorem dX12_act_44 : decode cX12_act 44 = .ok (.lookupswitch 99 #[(114, 28), (116, 69)], 28) := by decide +kernel
theorem dX12_act_72 : decode cX12_act 72 = .ok (.aload_n 0, 1) := by decide +kernel
theorem dX12_act_73 : decode cX12_act 73 = .ok (.iload_n 2, 1) := by decide +kernel
theorem dX12_act_74 : decode cX12_act 74 = .ok (.iload_n 3, 1) := by decide +kernel
theorem dX12_act_75 : decode cX12_act 75 = .ok (.iload 4, 2) := by decide +kernel
theorem dX12_act_77 : decode cX12_act 77 = .ok (.invokevirtual 328, 3) := by decide +kernel
theorem dX12_act_80 : decode cX12_act 80 = .ok (.ifCond .ge 5, 3) := by decide +kernel
theorem dX12_act_83 : decode cX12_act 83 = .ok (.iconst 0, 1) := by decide +kernel
theorem dX12_act_84 : decode cX12_act 84 = .ok (.ireturn, 1) := by decide +kernel
theorem dX12_act_85 : decode cX12_act 85 = .ok (.aload_n 0, 1) := by decide +kernel
theorem dX12_act_86 : decode cX12_act 86 = .ok (.iload_n 3, 1) := by decide +kernel
theorem dX12_act_87 : decode cX12_act 87 = .ok (.iload 4, 2) := by decide +kernel
theorem dX12_act_89 : decode cX12_act 89 = .ok (.iload 5, 2) := by decide +kernel
theorem dX12_act_91 : decode cX12_act 91 = .ok (.invokevirtual 335, 3) := by decide +kernel
theorem dX12_act_94 : decode cX12_act 94 = .ok (.istore 6, 2) := by decide +kernel
theorem dX12_act_96 : decode cX12_act 96 = .ok (.aload_n 0, 1) := by decide +kernel
theorem dX12_act_97 : decode cX12_act 97 = .ok (.getfield 9, 3) := by decide +kernel
theorem dX12_act_100 : decode cX12_act 100 = .ok (.iload_n 2, 1) := by decide +kernel
theorem dX12_act_101 : decode cX12_act 101 = .ok (.iload_n 3, 1) := by decide +kernel
theorem dX12_act_102 : decode cX12_act 102 = .ok (.iload 6, 2) := by decide +kernel
theorem dX12_act_104 : decode cX12_act 104 = .ok (.aload_n 0, 1) := by decide +kernel
theorem dX12_act_105 : decode cX12_act 105 = .ok (.getfield 313, 3) := by decide +kernel
theorem dX12_act_108 : decode cX12_act 108 = .ok (.invokestatic 338, 3) := by decide +kernel
theorem dX12_act_111 : decode cX12_act 111 = .ok (.iconst 1, 1) := by decide +kernel
theorem dX12_act_112 : decode cX12_act 112 = .ok (.ireturn, 1) := by decide +kernel
theorem dX12_act_113 : decode cX12_act 113 = .ok (.aload_n 0, 1) := by decide +kernel
theorem dX12_act_114 : decode cX12_act 114 = .ok (.iload_n 2, 1) := by decide +kernel
theorem dX12_act_115 : decode cX12_act 115 = .ok (.iload_n 3, 1) := by decide +kernel
theorem dX12_act_116 : decode cX12_act 116 = .ok (.iload 4, 2) := by decide +kernel
theorem dX12_act_118 : decode cX12_act 118 = .ok (.iload 5, 2) := by decide +kernel
theorem dX12_act_120 : decode cX12_act 120 = .ok (.invokevirtual 345, 3) := by decide +kernel
theorem dX12_act_123 : decode cX12_act 123 = .ok (.ifCond .ge 5, 3) := by decide +kernel
theorem dX12_act_126 : decode cX12_act 126 = .ok (.iconst 0, 1) := by decide +kernel
theorem dX12_act_127 : decode cX12_act 127 = .ok (.ireturn, 1) := by decide +kernel
theorem dX12_act_128 : decode cX12_act 128 = .ok (.aload_n 0, 1) := by decide +kernel
theorem dX12_act_129 : decode cX12_act 129 = .ok (.getfield 9, 3) := by decide +kernel
theorem dX12_act_132 : decode cX12_act 132 = .ok (.iload_n 2, 1) := by decide +kernel
theorem dX12_act_133 : decode cX12_act 133 = .ok (.iload_n 3, 1) := by decide +kernel
theorem dX12_act_134 : decode cX12_act 134 = .ok (.iload 4, 2) := by decide +kernel
theorem dX12_act_136 : decode cX12_act 136 = .ok (.iload 5, 2) := by decide +kernel
theorem dX12_act_138 : decode cX12_act 138 = .ok (.invokestatic 338, 3) := by decide +kernel
theorem dX12_act_141 : decode cX12_act 141 = .ok (.iconst 1, 1) := by decide +kernel
theorem dX12_act_142 : decode cX12_act 142 = .ok (.ireturn, 1) := by decide +kernel
theorem dX12_act_143 : decode cX12_act 143 = .ok (.aload_n 0, 1) := by decide +kernel
theorem dX12_act_144 : decode cX12_act 144 = .ok (.getfield 9, 3) := by decide +kernel
theorem dX12_act_147 : decode cX12_act 147 = .ok (.bipush 48, 2) := by decide +kernel
theorem dX12_act_149 : decode cX12_act 149 = .ok (.iaload, 1) := by decide +kernel
theorem dX12_act_150 : decode cX12_act 150 = .ok (.ifCond .ne 5, 3) := by decide +kernel
theorem dX12_act_153 : decode cX12_act 153 = .ok (.iconst 0, 1) := by decide +kernel
theorem dX12_act_154 : decode cX12_act 154 = .ok (.ireturn, 1) := by decide +kernel
theorem dX12_act_155 : decode cX12_act 155 = .ok (.aload_n 0, 1) := by decide +kernel
theorem dX12_act_156 : decode cX12_act 156 = .ok (.getfield 9, 3) := by decide +kernel
theorem dX12_act_159 : decode cX12_act 159 = .ok (.bipush 48, 2) := by decide +kernel
theorem dX12_act_161 : decode cX12_act 161 = .ok (.dup2, 1) := by decide +kernel
theorem dX12_act_162 : decode cX12_act 162 = .ok (.iaload, 1) := by decide +kernel
theorem dX12_act_163 : decode cX12_act 163 = .ok (.iconst 1, 1) := by decide +kernel
theorem dX12_act_164 : decode cX12_act 164 = .ok (.isub, 1) := by decide +kernel
theorem dX12_act_165 : decode cX12_act 165 = .ok (.iastore, 1) := by decide +kernel
theorem dX12_act_166 : decode cX12_act 166 = .ok (.iconst 1, 1) := by decide +kernel
theorem dX12_act_167 : decode cX12_act 167 = .ok (.ireturn, 1) := by decide +kernel
theorem dX12_undo_0 : decode cX12_undo 0 = .ok (.aload_n 0, 1) := by decide +kernel
theorem dX12_undo_1 : decode cX12_undo 1 = .ok (.iconst 0, 1) := by decide +kernel
theorem dX12_undo_2 : decode cX12_undo 2 = .ok (.putfield 113, 3) := by decide +kernel
theorem dX12_undo_5 : decode cX12_undo 5 = .ok (.aload_n 0, 1) := by decide +kernel
theorem dX12_undo_6 : decode cX12_undo 6 = .ok (.getfield 192, 3) := by decide +kernel
theorem dX12_undo_9 : decode cX12_undo 9 = .ok (.ifCond .ne 5, 3) := by decide +kernel
theorem dX12_undo_12 : decode cX12_undo 12 = .ok (.iconst (-1), 1) := by decide +kernel
theorem dX12_undo_13 : decode cX12_undo 13 = .ok (.ireturn, 1) := by decide +kernel
theorem dX12_undo_14 : decode cX12_undo 14 = .ok (.aload_n 0, 1) := by decide +kernel
theorem dX12_undo_15 : decode cX12_undo 15 = .ok (.dup, 1) := by decide +kernel
theorem dX12_undo_16 : decode cX12_undo 16 = .ok (.getfield 192, 3) := by decide +kernel
theorem dX12_undo_19 : decode cX12_undo 19 = .ok (.iconst 1, 1) := by decide +kernel
theorem dX12_undo_20 : decode cX12_undo 20 = .ok (.isub, 1) := by decide +kernel
theorem dX12_undo_21 : decode cX12_undo 21 = .ok (.putfield 192, 3) := by decide +kernel
theorem dX12_undo_24 : decode cX12_undo 24 = .ok (.iconst 0, 1) := by decide +kernel
theorem dX12_undo_25 : decode cX12_undo 25 = .ok (.istore_n 1, 1) := by decide +kernel
theorem dX12_undo_26 : decode cX12_undo 26 = .ok (.iload_n 1, 1) := by decide +kernel
theorem dX12_undo_27 : decode cX12_undo 27 = .ok (.bipush 49, 2) := by decide +kernel
theorem dX12_undo_29 : decode cX12_undo 29 = .ok (.if_icmp .ge 29, 3) := by decide +kernel
theorem dX12_undo_32 : decode cX12_undo 32 = .ok (.aload_n 0, 1) := by decide +kernel
theorem dX12_undo_33 : decode cX12_undo 33 = .ok (.getfield 9, 3) := by decide +kernel
theorem dX12_undo_36 : decode cX12_undo 36 = .ok (.iload_n 1, 1) := by decide +kernel
theorem dX12_undo_37 : decode cX12_undo 37 = .ok (.aload_n 0, 1) := by decide +kernel
theorem dX12_undo_38 : decode cX12_undo 38 = .ok (.getfield 73, 3) := by decide +kernel
theorem dX12_undo_41 : decode cX12_undo 41 = .ok (.bipush 49, 2) := by decide +kernel
theorem dX12_undo_43 : decode cX12_undo 43 = .ok (.aload_n 0, 1) := by decide +kernel
theorem dX12_undo_44 : decode cX12_undo 44 = .ok (.getfield 192, 3) := by decide +kernel
theorem dX12_undo_47 : decode cX12_undo 47 = .ok (.imul, 1) := by decide +kernel
theorem dX12_undo_48 : decode cX12_undo 48 = .ok (.iload_n 1, 1) := by decide +kernel
theorem dX12_undo_49 : decode cX12_undo 49 = .ok (.iadd, 1) := by decide +kernel
theorem dX12_undo_50 : decode cX12_undo 50 = .ok (.iaload, 1) := by decide +kernel
theorem dX12_undo_51 : decode cX12_undo 51 = .ok (.iastore, 1) := by decide +kernel
theorem dX12_undo_52 : decode cX12_undo 52 = .ok (.iinc 1 1, 3) := by decide +kernel
theorem dX12_undo_55 : decode cX12_undo 55 = .ok (.goto (-29), 3) := by decide +kernel
theorem dX12_undo_58 : decode cX12_undo 58 = .ok (.aload_n 0, 1) := by decide +kernel
theorem dX12_undo_59 : decode cX12_undo 59 = .ok (.getfield 192, 3) := by decide +kernel
theorem dX12_undo_62 : decode cX12_undo 62 = .ok (.ireturn, 1) := by decide +kernel
theorem dX12_isAhead_0 : decode cX12_isAhead 0 = .ok (.aload_n 0, 1) := by decide +kernel
theorem dX12_isAhead_1 : decode cX12_isAhead 1 = .ok (.iconst 4, 1) := by decide +kernel
theorem dX12_isAhead_2 : decode cX12_isAhead 2 = .ok (.iload_n 1, 1) := by decide +kernel
theorem dX12_isAhead_3 : decode cX12_isAhead 3 = .ok (.imul, 1) := by decide +kernel
theorem dX12_isAhead_4 : decode cX12_isAhead 4 = .ok (.iconst 2, 1) := by decide +kernel
theorem dX12_isAhead_5 : decode cX12_isAhead 5 = .ok (.iadd, 1) := by decide +kernel
theorem dX12_isAhead_6 : decode cX12_isAhead 6 = .ok (.iaload, 1) := by decide +kernel
theorem dX12_isAhead_7 : decode cX12_isAhead 7 = .ok (.aload_n 0, 1) := by decide +kernel
theorem dX12_isAhead_8 : decode cX12_isAhead 8 = .ok (.iconst 4, 1) := by decide +kernel
theorem dX12_isAhead_9 : decode cX12_isAhead 9 = .ok (.iload_n 2, 1) := by decide +kernel
theorem dX12_isAhead_10 : decode cX12_isAhead 10 = .ok (.imul, 1) := by decide +kernel
theorem dX12_isAhead_11 : decode cX12_isAhead 11 = .ok (.iconst 2, 1) := by decide +kernel
theorem dX12_isAhead_12 : decode cX12_isAhead 12 = .ok (.iadd, 1) := by decide +kernel
theorem dX12_isAhead_13 : decode cX12_isAhead 13 = .ok (.iaload, 1) := by decide +kernel
theorem dX12_isAhead_14 : decode cX12_isAhead 14 = .ok (.isub, 1) := by decide +kernel
theorem dX12_isAhead_15 : decode cX12_isAhead 15 = .ok (.istore_n 3, 1) := by decide +kernel
theorem dX12_isAhead_16 : decode cX12_isAhead 16 = .ok (.aload_n 0, 1) := by decide +kernel
theorem dX12_isAhead_17 : decode cX12_isAhead 17 = .ok (.iconst 4, 1) := by decide +kernel
theorem dX12_isAhead_18 : decode cX12_isAhead 18 = .ok (.iload_n 1, 1) := by decide +kernel
theorem dX12_isAhead_19 : decode cX12_isAhead 19 = .ok (.imul, 1) := by decide +kernel
theorem dX12_isAhead_20 : decode cX12_isAhead 20 = .ok (.iconst 3, 1) := by decide +kernel
theorem dX12_isAhead_21 : decode cX12_isAhead 21 = .ok (.iadd, 1) := by decide +kernel
theorem dX12_isAhead_22 : decode cX12_isAhead 22 = .ok (.iaload, 1) := by decide +kernel
theorem dX12_isAhead_23 : decode cX12_isAhead 23 = .ok (.aload_n 0, 1) := by decide +kernel
theorem dX12_isAhead_24 : decode cX12_isAhead 24 = .ok (.iconst 4, 1) := by decide +kernel
theorem dX12_isAhead_25 : decode cX12_isAhead 25 = .ok (.iload_n 2, 1) := by decide +kernel
theorem dX12_isAhead_26 : decode cX12_isAhead 26 = .ok (.imul, 1) := by decide +kernel
theorem dX12_isAhead_27 : decode cX12_isAhead 27 = .ok (.iconst 3, 1) := by decide +kernel
theorem dX12_isAhead_28 : decode cX12_isAhead 28 = .ok (.iadd, 1) := by decide +kernel
theorem dX12_isAhead_29 : decode cX12_isAhead 29 = .ok (.iaload, 1) := by decide +kernel
theorem dX12_isAhead_30 : decode cX12_isAhead 30 = .ok (.isub, 1) := by decide +kernel
theorem dX12_isAhead_31 : decode cX12_isAhead 31 = .ok (.istore 4, 2) := by decide +kernel
theorem dX12_isAhead_33 : decode cX12_isAhead 33 = .ok (.iload_n 3, 1) := by decide +kernel
theorem dX12_isAhead_34 : decode cX12_isAhead 34 = .ok (.ifCond .lt 22, 3) := by decide +kernel
theorem dX12_isAhead_37 : decode cX12_isAhead 37 = .ok (.iload_n 3, 1) := by decide +kernel
theorem dX12_isAhead_38 : decode cX12_isAhead 38 = .ok (.ifCond .ne 22, 3) := by decide +kernel
theorem dX12_isAhead_41 : decode cX12_isAhead 41 = .ok (.iload 4, 2) := by decide +kernel
theorem dX12_isAhead_43 : decode cX12_isAhead 43 = .ok (.ifCond .lt 13, 3) := by decide +kernel
theorem dX12_isAhead_46 : decode cX12_isAhead 46 = .ok (.iload 4, 2) := by decide +kernel
theorem dX12_isAhead_48 : decode cX12_isAhead 48 = .ok (.ifCond .ne 12, 3) := by decide +kernel
theorem dX12_isAhead_51 : decode cX12_isAhead 51 = .ok (.iload_n 1, 1) := by decide +kernel
theorem dX12_isAhead_52 : decode cX12_isAhead 52 = .ok (.iload_n 2, 1) := by decide +kernel
theorem dX12_isAhead_53 : decode cX12_isAhead 53 = .ok (.if_icmp .ge 7, 3) := by decide +kernel
theorem dX12_isAhead_56 : decode cX12_isAhead 56 = .ok (.iconst 1, 1) := by decide +kernel
theorem dX12_isAhead_57 : decode cX12_isAhead 57 = .ok (.goto 4, 3) := by decide +kernel
theorem dX12_isAhead_60 : decode cX12_isAhead 60 = .ok (.iconst 0, 1) := by decide +kernel
theorem dX12_isAhead_61 : decode cX12_isAhead 61 = .ok (.ireturn, 1) := by decide +kernel
theorem dX12_placeOf_0 : decode cX12_placeOf 0 = .ok (.iconst 1, 1) := by decide +kernel
theorem dX12_placeOf_1 : decode cX12_placeOf 1 = .ok (.istore_n 2, 1) := by decide +kernel
theorem dX12_placeOf_2 : decode cX12_placeOf 2 = .ok (.iconst 0, 1) := by decide +kernel
theorem dX12_placeOf_3 : decode cX12_placeOf 3 = .ok (.istore_n 3, 1) := by decide +kernel
theorem dX12_placeOf_4 : decode cX12_placeOf 4 = .ok (.iload_n 3, 1) := by decide +kernel
theorem dX12_placeOf_5 : decode cX12_placeOf 5 = .ok (.aload_n 0, 1) := by decide +kernel
theorem dX12_placeOf_6 : decode cX12_placeOf 6 = .ok (.bipush 48, 2) := by decide +kernel
theorem dX12_placeOf_8 : decode cX12_placeOf 8 = .ok (.iaload, 1) := by decide +kernel
theorem dX12_placeOf_9 : decode cX12_placeOf 9 = .ok (.if_icmp .ge 26, 3) := by decide +kernel
theorem dX12_placeOf_12 : decode cX12_placeOf 12 = .ok (.iload_n 3, 1) := by decide +kernel
theorem dX12_placeOf_13 : decode cX12_placeOf 13 = .ok (.iload_n 1, 1) := by decide +kernel
theorem dX12_placeOf_14 : decode cX12_placeOf 14 = .ok (.if_icmp .eq 15, 3) := by decide +kernel
theorem dX12_placeOf_17 : decode cX12_placeOf 17 = .ok (.aload_n 0, 1) := by decide +kernel
theorem dX12_placeOf_18 : decode cX12_placeOf 18 = .ok (.iload_n 3, 1) := by decide +kernel
theorem dX12_placeOf_19 : decode cX12_placeOf 19 = .ok (.iload_n 1, 1) := by decide +kernel
theorem dX12_placeOf_20 : decode cX12_placeOf 20 = .ok (.invokestatic 354, 3) := by decide +kernel
theorem dX12_placeOf_23 : decode cX12_placeOf 23 = .ok (.ifCond .eq 6, 3) := by decide +kernel
theorem dX12_placeOf_26 : decode cX12_placeOf 26 = .ok (.iinc 2 1, 3) := by decide +kernel
theorem dX12_placeOf_29 : decode cX12_placeOf 29 = .ok (.iinc 3 1, 3) := by decide +kernel
theorem dX12_placeOf_32 : decode cX12_placeOf 32 = .ok (.goto (-28), 3) := by decide +kernel
theorem dX12_placeOf_35 : decode cX12_placeOf 35 = .ok (.iload_n 2, 1) := by decide +kernel
theorem dX12_placeOf_36 : decode cX12_placeOf 36 = .ok (.ireturn, 1) := by decide +kernel
theorem dX12_moneyOf_0 : decode cX12_moneyOf 0 = .ok (.iload_n 1, 1) := by decide +kernel
theorem dX12_moneyOf_1 : decode cX12_moneyOf 1 = .ok (.bipush 6, 2) := by decide +kernel
theorem dX12_moneyOf_3 : decode cX12_moneyOf 3 = .ok (.if_icmp .gt 14, 3) := by decide +kernel
theorem dX12_moneyOf_6 : decode cX12_moneyOf 6 = .ok (.aload_n 0, 1) := by decide +kernel
theorem dX12_moneyOf_7 : decode cX12_moneyOf 7 = .ok (.getfield 38, 3) := by decide +kernel
theorem dX12_moneyOf_10 : decode cX12_moneyOf 10 = .ok (.iload_n 1, 1) := by decide +kernel
theorem dX12_moneyOf_11 : decode cX12_moneyOf 11 = .ok (.iconst 1, 1) := by decide +kernel
theorem dX12_moneyOf_12 : decode cX12_moneyOf 12 = .ok (.isub, 1) := by decide +kernel
theorem dX12_moneyOf_13 : decode cX12_moneyOf 13 = .ok (.iaload, 1) := by decide +kernel
theorem dX12_moneyOf_14 : decode cX12_moneyOf 14 = .ok (.goto 4, 3) := by decide +kernel
theorem dX12_moneyOf_17 : decode cX12_moneyOf 17 = .ok (.iconst 0, 1) := by decide +kernel
theorem dX12_moneyOf_18 : decode cX12_moneyOf 18 = .ok (.ireturn, 1) := by decide +kernel
theorem dX12_round_0 : decode cX12_round 0 = .ok (.aload_n 0, 1) := by decide +kernel
theorem dX12_round_1 : decode cX12_round 1 = .ok (.iconst 0, 1) := by decide +kernel
theorem dX12_round_2 : decode cX12_round 2 = .ok (.putfield 113, 3) := by decide +kernel
theorem dX12_round_5 : decode cX12_round 5 = .ok (.iload_n 1, 1) := by decide +kernel
theorem dX12_round_6 : decode cX12_round 6 = .ok (.iconst 0, 1) := by decide +kernel
theorem dX12_round_7 : decode cX12_round 7 = .ok (.aload_n 0, 1) := by decide +kernel
theorem dX12_round_8 : decode cX12_round 8 = .ok (.getfield 9, 3) := by decide +kernel
theorem dX12_round_11 : decode cX12_round 11 = .ok (.bipush 48, 2) := by decide +kernel
theorem dX12_round_13 : decode cX12_round 13 = .ok (.iaload, 1) := by decide +kernel
theorem dX12_round_14 : decode cX12_round 14 = .ok (.iconst 1, 1) := by decide +kernel
theorem dX12_round_15 : decode cX12_round 15 = .ok (.isub, 1) := by decide +kernel
theorem dX12_round_16 : decode cX12_round 16 = .ok (.invokestatic 122, 3) := by decide +kernel
theorem dX12_round_19 : decode cX12_round 19 = .ok (.ifCond .eq 12, 3) := by decide +kernel
theorem dX12_round_22 : decode cX12_round 22 = .ok (.iload_n 2, 1) := by decide +kernel
theorem dX12_round_23 : decode cX12_round 23 = .ok (.iconst 0, 1) := by decide +kernel
theorem dX12_round_24 : decode cX12_round 24 = .ok (.iconst 5, 1) := by decide +kernel
theorem dX12_round_25 : decode cX12_round 25 = .ok (.invokestatic 122, 3) := by decide +kernel
theorem dX12_round_28 : decode cX12_round 28 = .ok (.ifCond .ne 8, 3) := by decide +kernel
theorem dX12_round_31 : decode cX12_round 31 = .ok (.aload_n 0, 1) := by decide +kernel
theorem dX12_round_32 : decode cX12_round 32 = .ok (.invokevirtual 253, 3) := by decide +kernel
theorem dX12_round_35 : decode cX12_round 35 = .ok (.ireturn, 1) := by decide +kernel
theorem dX12_round_36 : decode cX12_round 36 = .ok (.iload_n 2, 1) := by decide +kernel
theorem dX12_round_37 : decode cX12_round 37 = .ok (.iconst 4, 1) := by decide +kernel
theorem dX12_round_38 : decode cX12_round 38 = .ok (.if_icmp .ge 16, 3) := by decide +kernel
theorem dX12_round_41 : decode cX12_round 41 = .ok (.aload_n 0, 1) := by decide +kernel
theorem dX12_round_42 : decode cX12_round 42 = .ok (.getfield 9, 3) := by decide +kernel
theorem dX12_round_45 : decode cX12_round 45 = .ok (.iconst 4, 1) := by decide +kernel
theorem dX12_round_46 : decode cX12_round 46 = .ok (.iload_n 1, 1) := by decide +kernel
theorem dX12_round_47 : decode cX12_round 47 = .ok (.imul, 1) := by decide +kernel
theorem dX12_round_48 : decode cX12_round 48 = .ok (.iload_n 2, 1) := by decide +kernel
theorem dX12_round_49 : decode cX12_round 49 = .ok (.iadd, 1) := by decide +kernel
theorem dX12_round_50 : decode cX12_round 50 = .ok (.iaload, 1) := by decide +kernel
theorem dX12_round_51 : decode cX12_round 51 = .ok (.goto 31, 3) := by decide +kernel
theorem dX12_round_54 : decode cX12_round 54 = .ok (.iload_n 2, 1) := by decide +kernel
theorem dX12_round_55 : decode cX12_round 55 = .ok (.iconst 4, 1) := by decide +kernel
theorem dX12_round_56 : decode cX12_round 56 = .ok (.if_icmp .ne 14, 3) := by decide +kernel
theorem dX12_round_59 : decode cX12_round 59 = .ok (.aload_n 0, 1) := by decide +kernel
theorem dX12_round_60 : decode cX12_round 60 = .ok (.getfield 9, 3) := by decide +kernel
theorem dX12_round_63 : decode cX12_round 63 = .ok (.iload_n 1, 1) := by decide +kernel
theorem dX12_round_64 : decode cX12_round 64 = .ok (.invokestatic 358, 3) := by decide +kernel
theorem dX12_round_67 : decode cX12_round 67 = .ok (.goto 15, 3) := by decide +kernel
theorem dX12_round_70 : decode cX12_round 70 = .ok (.aload_n 0, 1) := by decide +kernel
theorem dX12_round_71 : decode cX12_round 71 = .ok (.aload_n 0, 1) := by decide +kernel
theorem dX12_round_72 : decode cX12_round 72 = .ok (.getfield 9, 3) := by decide +kernel
theorem dX12_round_75 : decode cX12_round 75 = .ok (.iload_n 1, 1) := by decide +kernel
theorem dX12_round_76 : decode cX12_round 76 = .ok (.invokestatic 358, 3) := by decide +kernel
theorem dX12_round_79 : decode cX12_round 79 = .ok (.invokevirtual 362, 3) := by decide +kernel
theorem dX12_round_82 : decode cX12_round 82 = .ok (.ireturn, 1) := by decide +kernel
theorem dX12_tellPlaces_0 : decode cX12_tellPlaces 0 = .ok (.iconst 1, 1) := by decide +kernel
theorem dX12_tellPlaces_1 : decode cX12_tellPlaces 1 = .ok (.istore_n 2, 1) := by decide +kernel
theorem dX12_tellPlaces_2 : decode cX12_tellPlaces 2 = .ok (.iload_n 2, 1) := by decide +kernel
theorem dX12_tellPlaces_3 : decode cX12_tellPlaces 3 = .ok (.aload_n 1, 1) := by decide +kernel
theorem dX12_tellPlaces_4 : decode cX12_tellPlaces 4 = .ok (.bipush 48, 2) := by decide +kernel
theorem dX12_tellPlaces_6 : decode cX12_tellPlaces 6 = .ok (.iaload, 1) := by decide +kernel
theorem dX12_tellPlaces_7 : decode cX12_tellPlaces 7 = .ok (.if_icmp .gt 40, 3) := by decide +kernel
theorem dX12_tellPlaces_10 : decode cX12_tellPlaces 10 = .ok (.iconst 0, 1) := by decide +kernel
theorem dX12_tellPlaces_11 : decode cX12_tellPlaces 11 = .ok (.istore_n 3, 1) := by decide +kernel
theorem dX12_tellPlaces_12 : decode cX12_tellPlaces 12 = .ok (.iload_n 3, 1) := by decide +kernel
theorem dX12_tellPlaces_13 : decode cX12_tellPlaces 13 = .ok (.aload_n 1, 1) := by decide +kernel
theorem dX12_tellPlaces_14 : decode cX12_tellPlaces 14 = .ok (.bipush 48, 2) := by decide +kernel
theorem dX12_tellPlaces_16 : decode cX12_tellPlaces 16 = .ok (.iaload, 1) := by decide +kernel
theorem dX12_tellPlaces_17 : decode cX12_tellPlaces 17 = .ok (.if_icmp .ge 24, 3) := by decide +kernel
theorem dX12_tellPlaces_20 : decode cX12_tellPlaces 20 = .ok (.aload_n 1, 1) := by decide +kernel
theorem dX12_tellPlaces_21 : decode cX12_tellPlaces 21 = .ok (.iload_n 3, 1) := by decide +kernel
theorem dX12_tellPlaces_22 : decode cX12_tellPlaces 22 = .ok (.invokestatic 358, 3) := by decide +kernel
theorem dX12_tellPlaces_25 : decode cX12_tellPlaces 25 = .ok (.iload_n 2, 1) := by decide +kernel
theorem dX12_tellPlaces_26 : decode cX12_tellPlaces 26 = .ok (.if_icmp .ne 9, 3) := by decide +kernel
theorem dX12_tellPlaces_29 : decode cX12_tellPlaces 29 = .ok (.aload_n 0, 1) := by decide +kernel
theorem dX12_tellPlaces_30 : decode cX12_tellPlaces 30 = .ok (.iload_n 3, 1) := by decide +kernel
theorem dX12_tellPlaces_31 : decode cX12_tellPlaces 31 = .ok (.i2l, 1) := by decide +kernel
theorem dX12_tellPlaces_32 : decode cX12_tellPlaces 32 = .ok (.invokevirtual 265, 3) := by decide +kernel
theorem dX12_tellPlaces_35 : decode cX12_tellPlaces 35 = .ok (.iinc 3 1, 3) := by decide +kernel
theorem dX12_tellPlaces_38 : decode cX12_tellPlaces 38 = .ok (.goto (-26), 3) := by decide +kernel
theorem dX12_tellPlaces_41 : decode cX12_tellPlaces 41 = .ok (.iinc 2 1, 3) := by decide +kernel
theorem dX12_tellPlaces_44 : decode cX12_tellPlaces 44 = .ok (.goto (-42), 3) := by decide +kernel
theorem dX12_tellPlaces_47 : decode cX12_tellPlaces 47 = .ok (.return_, 1) := by decide +kernel
theorem dX12_table_0 : decode cX12_table 0 = .ok (.aload_n 0, 1) := by decide +kernel
theorem dX12_table_1 : decode cX12_table 1 = .ok (.iconst 0, 1) := by decide +kernel
theorem dX12_table_2 : decode cX12_table 2 = .ok (.putfield 113, 3) := by decide +kernel
theorem dX12_table_5 : decode cX12_table 5 = .ok (.iconst 0, 1) := by decide +kernel
theorem dX12_table_6 : decode cX12_table 6 = .ok (.istore_n 1, 1) := by decide +kernel
theorem dX12_table_7 : decode cX12_table 7 = .ok (.iconst 0, 1) := by decide +kernel
theorem dX12_table_8 : decode cX12_table 8 = .ok (.istore_n 2, 1) := by decide +kernel
theorem dX12_table_9 : decode cX12_table 9 = .ok (.iload_n 2, 1) := by decide +kernel
theorem dX12_table_10 : decode cX12_table 10 = .ok (.aload_n 0, 1) := by decide +kernel
theorem dX12_table_11 : decode cX12_table 11 = .ok (.getfield 9, 3) := by decide +kernel
theorem dX12_table_14 : decode cX12_table 14 = .ok (.bipush 48, 2) := by decide +kernel
theorem dX12_table_16 : decode cX12_table 16 = .ok (.iaload, 1) := by decide +kernel
theorem dX12_table_17 : decode cX12_table 17 = .ok (.if_icmp .ge 30, 3) := by decide +kernel
theorem dX12_table_20 : decode cX12_table 20 = .ok (.iload_n 1, 1) := by decide +kernel
theorem dX12_table_21 : decode cX12_table 21 = .ok (.aload_n 0, 1) := by decide +kernel
theorem dX12_table_22 : decode cX12_table 22 = .ok (.getfield 9, 3) := by decide +kernel
theorem dX12_table_25 : decode cX12_table 25 = .ok (.iconst 4, 1) := by decide +kernel
theorem dX12_table_26 : decode cX12_table 26 = .ok (.iload_n 2, 1) := by decide +kernel
theorem dX12_table_27 : decode cX12_table 27 = .ok (.imul, 1) := by decide +kernel
theorem dX12_table_28 : decode cX12_table 28 = .ok (.iconst 2, 1) := by decide +kernel
theorem dX12_table_29 : decode cX12_table 29 = .ok (.iadd, 1) := by decide +kernel
theorem dX12_table_30 : decode cX12_table 30 = .ok (.iaload, 1) := by decide +kernel
theorem dX12_table_31 : decode cX12_table 31 = .ok (.ifCond .ne 7, 3) := by decide +kernel
theorem dX12_table_34 : decode cX12_table 34 = .ok (.iconst 1, 1) := by decide +kernel
theorem dX12_table_35 : decode cX12_table 35 = .ok (.goto 4, 3) := by decide +kernel
theorem dX12_table_38 : decode cX12_table 38 = .ok (.iconst 0, 1) := by decide +kernel
theorem dX12_table_39 : decode cX12_table 39 = .ok (.iadd, 1) := by decide +kernel
theorem dX12_table_40 : decode cX12_table 40 = .ok (.istore_n 1, 1) := by decide +kernel
theorem dX12_table_41 : decode cX12_table 41 = .ok (.iinc 2 1, 3) := by decide +kernel
theorem dX12_table_44 : decode cX12_table 44 = .ok (.goto (-35), 3) := by decide +kernel
theorem dX12_table_47 : decode cX12_table 47 = .ok (.aload_n 0, 1) := by decide +kernel
theorem dX12_table_48 : decode cX12_table 48 = .ok (.iconst 0, 1) := by decide +kernel
theorem dX12_table_49 : decode cX12_table 49 = .ok (.putfield 116, 3) := by decide +kernel
theorem dX12_table_52 : decode cX12_table 52 = .ok (.aload_n 0, 1) := by decide +kernel
theorem dX12_table_53 : decode cX12_table 53 = .ok (.aload_n 0, 1) := by decide +kernel
theorem dX12_table_54 : decode cX12_table 54 = .ok (.getfield 9, 3) := by decide +kernel
theorem dX12_table_57 : decode cX12_table 57 = .ok (.invokevirtual 365, 3) := by decide +kernel
theorem dX12_table_60 : decode cX12_table 60 = .ok (.iload_n 1, 1) := by decide +kernel
theorem dX12_table_61 : decode cX12_table 61 = .ok (.ireturn, 1) := by decide +kernel
theorem dX12_placeFor_0 : decode cX12_placeFor 0 = .ok (.iconst 1, 1) := by decide +kernel
theorem dX12_placeFor_1 : decode cX12_placeFor 1 = .ok (.istore_n 3, 1) := by decide +kernel
theorem dX12_placeFor_2 : decode cX12_placeFor 2 = .ok (.iconst 0, 1) := by decide +kernel
theorem dX12_placeFor_3 : decode cX12_placeFor 3 = .ok (.istore 4, 2) := by decide +kernel
theorem dX12_placeFor_5 : decode cX12_placeFor 5 = .ok (.iload 4, 2) := by decide +kernel
theorem dX12_placeFor_7 : decode cX12_placeFor 7 = .ok (.aload_n 0, 1) := by decide +kernel
theorem dX12_placeFor_8 : decode cX12_placeFor 8 = .ok (.bipush 48, 2) := by decide +kernel
theorem dX12_placeFor_10 : decode cX12_placeFor 10 = .ok (.iaload, 1) := by decide +kernel
theorem dX12_placeFor_11 : decode cX12_placeFor 11 = .ok (.if_icmp .ge 48, 3) := by decide +kernel
theorem dX12_placeFor_14 : decode cX12_placeFor 14 = .ok (.aload_n 0, 1) := by decide +kernel
theorem dX12_placeFor_15 : decode cX12_placeFor 15 = .ok (.iconst 4, 1) := by decide +kernel
theorem dX12_placeFor_16 : decode cX12_placeFor 16 = .ok (.iload 4, 2) := by decide +kernel
theorem dX12_placeFor_18 : decode cX12_placeFor 18 = .ok (.imul, 1) := by decide +kernel
theorem dX12_placeFor_19 : decode cX12_placeFor 19 = .ok (.iconst 2, 1) := by decide +kernel
theorem dX12_placeFor_20 : decode cX12_placeFor 20 = .ok (.iadd, 1) := by decide +kernel
theorem dX12_placeFor_21 : decode cX12_placeFor 21 = .ok (.iaload, 1) := by decide +kernel
theorem dX12_placeFor_22 : decode cX12_placeFor 22 = .ok (.iload_n 1, 1) := by decide +kernel
theorem dX12_placeFor_23 : decode cX12_placeFor 23 = .ok (.if_icmp .lt 27, 3) := by decide +kernel
theorem dX12_placeFor_26 : decode cX12_placeFor 26 = .ok (.aload_n 0, 1) := by decide +kernel
theorem dX12_placeFor_27 : decode cX12_placeFor 27 = .ok (.iconst 4, 1) := by decide +kernel
theorem dX12_placeFor_28 : decode cX12_placeFor 28 = .ok (.iload 4, 2) := by decide +kernel
theorem dX12_placeFor_30 : decode cX12_placeFor 30 = .ok (.imul, 1) := by decide +kernel
theorem dX12_placeFor_31 : decode cX12_placeFor 31 = .ok (.iconst 2, 1) := by decide +kernel
theorem dX12_placeFor_32 : decode cX12_placeFor 32 = .ok (.iadd, 1) := by decide +kernel
theorem dX12_placeFor_33 : decode cX12_placeFor 33 = .ok (.iaload, 1) := by decide +kernel
theorem dX12_placeFor_34 : decode cX12_placeFor 34 = .ok (.iload_n 1, 1) := by decide +kernel
theorem dX12_placeFor_35 : decode cX12_placeFor 35 = .ok (.if_icmp .ne 18, 3) := by decide +kernel
theorem dX12_placeFor_38 : decode cX12_placeFor 38 = .ok (.aload_n 0, 1) := by decide +kernel
theorem dX12_placeFor_39 : decode cX12_placeFor 39 = .ok (.iconst 4, 1) := by decide +kernel
theorem dX12_placeFor_40 : decode cX12_placeFor 40 = .ok (.iload 4, 2) := by decide +kernel
theorem dX12_placeFor_42 : decode cX12_placeFor 42 = .ok (.imul, 1) := by decide +kernel
theorem dX12_placeFor_43 : decode cX12_placeFor 43 = .ok (.iconst 3, 1) := by decide +kernel
theorem dX12_placeFor_44 : decode cX12_placeFor 44 = .ok (.iadd, 1) := by decide +kernel
theorem dX12_placeFor_45 : decode cX12_placeFor 45 = .ok (.iaload, 1) := by decide +kernel
theorem dX12_placeFor_46 : decode cX12_placeFor 46 = .ok (.iload_n 2, 1) := by decide +kernel
theorem dX12_placeFor_47 : decode cX12_placeFor 47 = .ok (.if_icmp .gt 6, 3) := by decide +kernel
theorem dX12_placeFor_50 : decode cX12_placeFor 50 = .ok (.iinc 3 1, 3) := by decide +kernel
theorem dX12_placeFor_53 : decode cX12_placeFor 53 = .ok (.iinc 4 1, 3) := by decide +kernel
theorem dX12_placeFor_56 : decode cX12_placeFor 56 = .ok (.goto (-51), 3) := by decide +kernel
theorem dX12_placeFor_59 : decode cX12_placeFor 59 = .ok (.iload_n 3, 1) := by decide +kernel
theorem dX12_placeFor_60 : decode cX12_placeFor 60 = .ok (.ireturn, 1) := by decide +kernel
theorem dX12_place_0 : decode cX12_place 0 = .ok (.aload_n 0, 1) := by decide +kernel
theorem dX12_place_1 : decode cX12_place 1 = .ok (.iconst 0, 1) := by decide +kernel
theorem dX12_place_2 : decode cX12_place 2 = .ok (.putfield 113, 3) := by decide +kernel
theorem dX12_place_5 : decode cX12_place 5 = .ok (.iload_n 1, 1) := by decide +kernel
theorem dX12_place_6 : decode cX12_place 6 = .ok (.iconst 0, 1) := by decide +kernel
theorem dX12_place_7 : decode cX12_place 7 = .ok (.bipush 99, 2) := by decide +kernel
theorem dX12_place_9 : decode cX12_place 9 = .ok (.invokestatic 122, 3) := by decide +kernel
theorem dX12_place_12 : decode cX12_place 12 = .ok (.ifCond .eq 10, 3) := by decide +kernel
theorem dX12_place_15 : decode cX12_place 15 = .ok (.iload_n 2, 1) := by decide +kernel
theorem dX12_place_16 : decode cX12_place 16 = .ok (.invokestatic 256, 3) := by decide +kernel
theorem dX12_place_19 : decode cX12_place 19 = .ok (.ifCond .ne 5, 3) := by decide +kernel
theorem dX12_place_22 : decode cX12_place 22 = .ok (.iconst (-1), 1) := by decide +kernel
theorem dX12_place_23 : decode cX12_place 23 = .ok (.ireturn, 1) := by decide +kernel
theorem dX12_place_24 : decode cX12_place 24 = .ok (.aload_n 0, 1) := by decide +kernel
theorem dX12_place_25 : decode cX12_place 25 = .ok (.getfield 9, 3) := by decide +kernel
theorem dX12_place_28 : decode cX12_place 28 = .ok (.iload_n 1, 1) := by decide +kernel
theorem dX12_place_29 : decode cX12_place 29 = .ok (.iload_n 2, 1) := by decide +kernel
theorem dX12_place_30 : decode cX12_place 30 = .ok (.invokestatic 368, 3) := by decide +kernel
theorem dX12_place_33 : decode cX12_place 33 = .ok (.istore_n 3, 1) := by decide +kernel
theorem dX12_place_34 : decode cX12_place 34 = .ok (.aload_n 0, 1) := by decide +kernel
theorem dX12_place_35 : decode cX12_place 35 = .ok (.iconst 0, 1) := by decide +kernel
theorem dX12_place_36 : decode cX12_place 36 = .ok (.putfield 116, 3) := by decide +kernel
theorem dX12_place_39 : decode cX12_place 39 = .ok (.aload_n 0, 1) := by decide +kernel
theorem dX12_place_40 : decode cX12_place 40 = .ok (.aload_n 0, 1) := by decide +kernel
theorem dX12_place_41 : decode cX12_place 41 = .ok (.iload_n 3, 1) := by decide +kernel
theorem dX12_place_42 : decode cX12_place 42 = .ok (.invokevirtual 362, 3) := by decide +kernel
theorem dX12_place_45 : decode cX12_place 45 = .ok (.i2l, 1) := by decide +kernel
theorem dX12_place_46 : decode cX12_place 46 = .ok (.invokevirtual 265, 3) := by decide +kernel
theorem dX12_place_49 : decode cX12_place 49 = .ok (.iload_n 3, 1) := by decide +kernel
theorem dX12_place_50 : decode cX12_place 50 = .ok (.ireturn, 1) := by decide +kernel
theorem dX12_beat_0 : decode cX12_beat 0 = .ok (.aload_n 0, 1) := by decide +kernel
theorem dX12_beat_1 : decode cX12_beat 1 = .ok (.iconst 0, 1) := by decide +kernel
theorem dX12_beat_2 : decode cX12_beat 2 = .ok (.putfield 113, 3) := by decide +kernel
theorem dX12_beat_5 : decode cX12_beat 5 = .ok (.iload_n 1, 1) := by decide +kernel
theorem dX12_beat_6 : decode cX12_beat 6 = .ok (.iconst 1, 1) := by decide +kernel
theorem dX12_beat_7 : decode cX12_beat 7 = .ok (.bipush 12, 2) := by decide +kernel
theorem dX12_beat_9 : decode cX12_beat 9 = .ok (.invokestatic 122, 3) := by decide +kernel
theorem dX12_beat_12 : decode cX12_beat 12 = .ok (.ifCond .ne 5, 3) := by decide +kernel
theorem dX12_beat_15 : decode cX12_beat 15 = .ok (.iconst (-1), 1) := by decide +kernel
theorem dX12_beat_16 : decode cX12_beat 16 = .ok (.ireturn, 1) := by decide +kernel
theorem dX12_beat_17 : decode cX12_beat 17 = .ok (.sipush 9999, 3) := by decide +kernel
theorem dX12_beat_20 : decode cX12_beat 20 = .ok (.istore_n 2, 1) := by decide +kernel
theorem dX12_beat_21 : decode cX12_beat 21 = .ok (.iload_n 2, 1) := by decide +kernel
theorem dX12_beat_22 : decode cX12_beat 22 = .ok (.ifCond .lt 22, 3) := by decide +kernel
theorem dX12_beat_25 : decode cX12_beat 25 = .ok (.aload_n 0, 1) := by decide +kernel
theorem dX12_beat_26 : decode cX12_beat 26 = .ok (.getfield 9, 3) := by decide +kernel
theorem dX12_beat_29 : decode cX12_beat 29 = .ok (.iconst 0, 1) := by decide +kernel
theorem dX12_beat_30 : decode cX12_beat 30 = .ok (.iload_n 2, 1) := by decide +kernel
theorem dX12_beat_31 : decode cX12_beat 31 = .ok (.invokestatic 368, 3) := by decide +kernel
theorem dX12_beat_34 : decode cX12_beat 34 = .ok (.iload_n 1, 1) := by decide +kernel
theorem dX12_beat_35 : decode cX12_beat 35 = .ok (.if_icmp .le 9, 3) := by decide +kernel
theorem dX12_beat_38 : decode cX12_beat 38 = .ok (.iinc 2 (-1), 3) := by decide +kernel
theorem dX12_beat_41 : decode cX12_beat 41 = .ok (.goto (-20), 3) := by decide +kernel
theorem dX12_beat_44 : decode cX12_beat 44 = .ok (.iload_n 2, 1) := by decide +kernel
theorem dX12_beat_45 : decode cX12_beat 45 = .ok (.ifCond .ge 6, 3) := by decide +kernel
theorem dX12_beat_48 : decode cX12_beat 48 = .ok (.bipush (-2), 2) := by decide +kernel
theorem dX12_beat_50 : decode cX12_beat 50 = .ok (.ireturn, 1) := by decide +kernel
theorem dX12_beat_51 : decode cX12_beat 51 = .ok (.aload_n 0, 1) := by decide +kernel
theorem dX12_beat_52 : decode cX12_beat 52 = .ok (.iconst 0, 1) := by decide +kernel
theorem dX12_beat_53 : decode cX12_beat 53 = .ok (.putfield 116, 3) := by decide +kernel
theorem dX12_beat_56 : decode cX12_beat 56 = .ok (.aload_n 0, 1) := by decide +kernel
theorem dX12_beat_57 : decode cX12_beat 57 = .ok (.aload_n 0, 1) := by decide +kernel
theorem dX12_beat_58 : decode cX12_beat 58 = .ok (.aload_n 0, 1) := by decide +kernel
theorem dX12_beat_59 : decode cX12_beat 59 = .ok (.getfield 9, 3) := by decide +kernel
theorem dX12_beat_62 : decode cX12_beat 62 = .ok (.iconst 0, 1) := by decide +kernel
theorem dX12_beat_63 : decode cX12_beat 63 = .ok (.iload_n 2, 1) := by decide +kernel
theorem dX12_beat_64 : decode cX12_beat 64 = .ok (.invokestatic 368, 3) := by decide +kernel
theorem dX12_beat_67 : decode cX12_beat 67 = .ok (.invokevirtual 362, 3) := by decide +kernel
theorem dX12_beat_70 : decode cX12_beat 70 = .ok (.i2l, 1) := by decide +kernel
theorem dX12_beat_71 : decode cX12_beat 71 = .ok (.invokevirtual 265, 3) := by decide +kernel
theorem dX12_beat_74 : decode cX12_beat 74 = .ok (.iload_n 2, 1) := by decide +kernel
theorem dX12_beat_75 : decode cX12_beat 75 = .ok (.ireturn, 1) := by decide +kernel
theorem dX12_law_0 : decode cX12_law 0 = .ok (.aload_n 0, 1) := by decide +kernel
theorem dX12_law_1 : decode cX12_law 1 = .ok (.iconst 0, 1) := by decide +kernel
theorem dX12_law_2 : decode cX12_law 2 = .ok (.putfield 113, 3) := by decide +kernel
theorem dX12_law_5 : decode cX12_law 5 = .ok (.iload_n 1, 1) := by decide +kernel
theorem dX12_law_6 : decode cX12_law 6 = .ok (.iconst 1, 1) := by decide +kernel
theorem dX12_law_7 : decode cX12_law 7 = .ok (.sipush 999, 3) := by decide +kernel
theorem dX12_law_10 : decode cX12_law 10 = .ok (.invokestatic 122, 3) := by decide +kernel
theorem dX12_law_13 : decode cX12_law 13 = .ok (.ifCond .eq 13, 3) := by decide +kernel
theorem dX12_law_16 : decode cX12_law 16 = .ok (.iload_n 2, 1) := by decide +kernel
theorem dX12_law_17 : decode cX12_law 17 = .ok (.iconst 0, 1) := by decide +kernel
theorem dX12_law_18 : decode cX12_law 18 = .ok (.bipush 9, 2) := by decide +kernel
theorem dX12_law_20 : decode cX12_law 20 = .ok (.invokestatic 122, 3) := by decide +kernel
theorem dX12_law_23 : decode cX12_law 23 = .ok (.ifCond .ne 5, 3) := by decide +kernel
theorem dX12_law_26 : decode cX12_law 26 = .ok (.iconst (-1), 1) := by decide +kernel
theorem dX12_law_27 : decode cX12_law 27 = .ok (.ireturn, 1) := by decide +kernel
theorem dX12_law_28 : decode cX12_law 28 = .ok (.aload_n 0, 1) := by decide +kernel
theorem dX12_law_29 : decode cX12_law 29 = .ok (.getfield 9, 3) := by decide +kernel
theorem dX12_law_32 : decode cX12_law 32 = .ok (.aload_n 0, 1) := by decide +kernel
theorem dX12_law_33 : decode cX12_law 33 = .ok (.getfield 82, 3) := by decide +kernel
theorem dX12_law_36 : decode cX12_law 36 = .ok (.iconst 0, 1) := by decide +kernel
theorem dX12_law_37 : decode cX12_law 37 = .ok (.invokestatic 305, 3) := by decide +kernel
theorem dX12_law_40 : decode cX12_law 40 = .ok (.iconst 0, 1) := by decide +kernel
theorem dX12_law_41 : decode cX12_law 41 = .ok (.istore_n 3, 1) := by decide +kernel
theorem dX12_law_42 : decode cX12_law 42 = .ok (.iload_n 3, 1) := by decide +kernel
theorem dX12_law_43 : decode cX12_law 43 = .ok (.aload_n 0, 1) := by decide +kernel
theorem dX12_law_44 : decode cX12_law 44 = .ok (.getfield 82, 3) := by decide +kernel
theorem dX12_law_47 : decode cX12_law 47 = .ok (.bipush 48, 2) := by decide +kernel
theorem dX12_law_49 : decode cX12_law 49 = .ok (.iaload, 1) := by decide +kernel
theorem dX12_law_50 : decode cX12_law 50 = .ok (.if_icmp .ge 64, 3) := by decide +kernel
theorem dX12_law_53 : decode cX12_law 53 = .ok (.aload_n 0, 1) := by decide +kernel
theorem dX12_law_54 : decode cX12_law 54 = .ok (.getfield 82, 3) := by decide +kernel
theorem dX12_law_57 : decode cX12_law 57 = .ok (.iconst 4, 1) := by decide +kernel
theorem dX12_law_58 : decode cX12_law 58 = .ok (.iload_n 3, 1) := by decide +kernel
theorem dX12_law_59 : decode cX12_law 59 = .ok (.imul, 1) := by decide +kernel
theorem dX12_law_60 : decode cX12_law 60 = .ok (.iconst 3, 1) := by decide +kernel
theorem dX12_law_61 : decode cX12_law 61 = .ok (.iadd, 1) := by decide +kernel
theorem dX12_law_62 : decode cX12_law 62 = .ok (.iaload, 1) := by decide +kernel
theorem dX12_law_63 : decode cX12_law 63 = .ok (.istore 4, 2) := by decide +kernel
theorem dX12_law_65 : decode cX12_law 65 = .ok (.aload_n 0, 1) := by decide +kernel
theorem dX12_law_66 : decode cX12_law 66 = .ok (.getfield 82, 3) := by decide +kernel
theorem dX12_law_69 : decode cX12_law 69 = .ok (.iconst 4, 1) := by decide +kernel
theorem dX12_law_70 : decode cX12_law 70 = .ok (.iload_n 3, 1) := by decide +kernel
theorem dX12_law_71 : decode cX12_law 71 = .ok (.imul, 1) := by decide +kernel
theorem dX12_law_72 : decode cX12_law 72 = .ok (.iconst 2, 1) := by decide +kernel
theorem dX12_law_73 : decode cX12_law 73 = .ok (.iadd, 1) := by decide +kernel
theorem dX12_law_74 : decode cX12_law 74 = .ok (.iconst 0, 1) := by decide +kernel
theorem dX12_law_75 : decode cX12_law 75 = .ok (.aload_n 0, 1) := by decide +kernel
theorem dX12_law_76 : decode cX12_law 76 = .ok (.getfield 82, 3) := by decide +kernel
theorem dX12_law_79 : decode cX12_law 79 = .ok (.iconst 4, 1) := by decide +kernel
theorem dX12_law_80 : decode cX12_law 80 = .ok (.iload_n 3, 1) := by decide +kernel
theorem dX12_law_81 : decode cX12_law 81 = .ok (.imul, 1) := by decide +kernel
theorem dX12_law_82 : decode cX12_law 82 = .ok (.iconst 2, 1) := by decide +kernel
theorem dX12_law_83 : decode cX12_law 83 = .ok (.iadd, 1) := by decide +kernel
theorem dX12_law_84 : decode cX12_law 84 = .ok (.iaload, 1) := by decide +kernel
theorem dX12_law_85 : decode cX12_law 85 = .ok (.aload_n 0, 1) := by decide +kernel
theorem dX12_law_86 : decode cX12_law 86 = .ok (.iload 4, 2) := by decide +kernel
theorem dX12_law_88 : decode cX12_law 88 = .ok (.bipush 40, 2) := by decide +kernel
theorem dX12_law_90 : decode cX12_law 90 = .ok (.iconst 1, 1) := by decide +kernel
theorem dX12_law_91 : decode cX12_law 91 = .ok (.invokevirtual 325, 3) := by decide +kernel
theorem dX12_law_94 : decode cX12_law 94 = .ok (.isub, 1) := by decide +kernel
theorem dX12_law_95 : decode cX12_law 95 = .ok (.invokestatic 243, 3) := by decide +kernel
theorem dX12_law_98 : decode cX12_law 98 = .ok (.aload_n 0, 1) := by decide +kernel
theorem dX12_law_99 : decode cX12_law 99 = .ok (.iload 4, 2) := by decide +kernel
theorem dX12_law_101 : decode cX12_law 101 = .ok (.iload_n 1, 1) := by decide +kernel
theorem dX12_law_102 : decode cX12_law 102 = .ok (.iload_n 2, 1) := by decide +kernel
theorem dX12_law_103 : decode cX12_law 103 = .ok (.invokevirtual 325, 3) := by decide +kernel
theorem dX12_law_106 : decode cX12_law 106 = .ok (.iadd, 1) := by decide +kernel
theorem dX12_law_107 : decode cX12_law 107 = .ok (.iastore, 1) := by decide +kernel
theorem dX12_law_108 : decode cX12_law 108 = .ok (.iinc 3 1, 3) := by decide +kernel
theorem dX12_law_111 : decode cX12_law 111 = .ok (.goto (-69), 3) := by decide +kernel
theorem dX12_law_114 : decode cX12_law 114 = .ok (.iconst 0, 1) := by decide +kernel
theorem dX12_law_115 : decode cX12_law 115 = .ok (.istore_n 3, 1) := by decide +kernel
theorem dX12_law_116 : decode cX12_law 116 = .ok (.iconst 0, 1) := by decide +kernel
theorem dX12_law_117 : decode cX12_law 117 = .ok (.istore 4, 2) := by decide +kernel
theorem dX12_law_119 : decode cX12_law 119 = .ok (.iload 4, 2) := by decide +kernel
theorem dX12_law_121 : decode cX12_law 121 = .ok (.aload_n 0, 1) := by decide +kernel
theorem dX12_law_122 : decode cX12_law 122 = .ok (.getfield 82, 3) := by decide +kernel
theorem dX12_law_125 : decode cX12_law 125 = .ok (.bipush 48, 2) := by decide +kernel
theorem dX12_law_127 : decode cX12_law 127 = .ok (.iaload, 1) := by decide +kernel
theorem dX12_law_128 : decode cX12_law 128 = .ok (.if_icmp .ge 38, 3) := by decide +kernel
theorem dX12_law_131 : decode cX12_law 131 = .ok (.iload_n 3, 1) := by decide +kernel
theorem dX12_law_132 : decode cX12_law 132 = .ok (.aload_n 0, 1) := by decide +kernel
theorem dX12_law_133 : decode cX12_law 133 = .ok (.getfield 82, 3) := by decide +kernel
theorem dX12_law_136 : decode cX12_law 136 = .ok (.iload 4, 2) := by decide +kernel
theorem dX12_law_138 : decode cX12_law 138 = .ok (.invokestatic 358, 3) := by decide +kernel
theorem dX12_law_141 : decode cX12_law 141 = .ok (.aload_n 0, 1) := by decide +kernel
theorem dX12_law_142 : decode cX12_law 142 = .ok (.getfield 9, 3) := by decide +kernel
theorem dX12_law_145 : decode cX12_law 145 = .ok (.iload 4, 2) := by decide +kernel
theorem dX12_law_147 : decode cX12_law 147 = .ok (.invokestatic 358, 3) := by decide +kernel
theorem dX12_law_150 : decode cX12_law 150 = .ok (.if_icmp .ne 7, 3) := by decide +kernel
theorem dX12_law_153 : decode cX12_law 153 = .ok (.iconst 0, 1) := by decide +kernel
theorem dX12_law_154 : decode cX12_law 154 = .ok (.goto 4, 3) := by decide +kernel
theorem dX12_law_157 : decode cX12_law 157 = .ok (.iconst 1, 1) := by decide +kernel
theorem dX12_law_158 : decode cX12_law 158 = .ok (.iadd, 1) := by decide +kernel
theorem dX12_law_159 : decode cX12_law 159 = .ok (.istore_n 3, 1) := by decide +kernel
theorem dX12_law_160 : decode cX12_law 160 = .ok (.iinc 4 1, 3) := by decide +kernel
theorem dX12_law_163 : decode cX12_law 163 = .ok (.goto (-44), 3) := by decide +kernel
theorem dX12_law_166 : decode cX12_law 166 = .ok (.aload_n 0, 1) := by decide +kernel
theorem dX12_law_167 : decode cX12_law 167 = .ok (.iconst 0, 1) := by decide +kernel
theorem dX12_law_168 : decode cX12_law 168 = .ok (.putfield 116, 3) := by decide +kernel
theorem dX12_law_171 : decode cX12_law 171 = .ok (.aload_n 0, 1) := by decide +kernel
theorem dX12_law_172 : decode cX12_law 172 = .ok (.aload_n 0, 1) := by decide +kernel
theorem dX12_law_173 : decode cX12_law 173 = .ok (.getfield 82, 3) := by decide +kernel
theorem dX12_law_176 : decode cX12_law 176 = .ok (.invokevirtual 365, 3) := by decide +kernel
theorem dX12_law_179 : decode cX12_law 179 = .ok (.iload_n 3, 1) := by decide +kernel
theorem dX12_law_180 : decode cX12_law 180 = .ok (.ireturn, 1) := by decide +kernel
theorem dX12_moneyFor_0 : decode cX12_moneyFor 0 = .ok (.aload_n 0, 1) := by decide +kernel
theorem dX12_moneyFor_1 : decode cX12_moneyFor 1 = .ok (.iload_n 2, 1) := by decide +kernel
theorem dX12_moneyFor_2 : decode cX12_moneyFor 2 = .ok (.invokevirtual 283, 3) := by decide +kernel
theorem dX12_moneyFor_5 : decode cX12_moneyFor 5 = .ok (.istore 4, 2) := by decide +kernel
theorem dX12_moneyFor_7 : decode cX12_moneyFor 7 = .ok (.aload_n 0, 1) := by decide +kernel
theorem dX12_moneyFor_8 : decode cX12_moneyFor 8 = .ok (.aload_n 1, 1) := by decide +kernel
theorem dX12_moneyFor_9 : decode cX12_moneyFor 9 = .ok (.aload_n 0, 1) := by decide +kernel
theorem dX12_moneyFor_10 : decode cX12_moneyFor 10 = .ok (.iload 4, 2) := by decide +kernel
theorem dX12_moneyFor_12 : decode cX12_moneyFor 12 = .ok (.bipush 40, 2) := by decide +kernel
theorem dX12_moneyFor_14 : decode cX12_moneyFor 14 = .ok (.iconst 1, 1) := by decide +kernel
theorem dX12_moneyFor_15 : decode cX12_moneyFor 15 = .ok (.invokevirtual 325, 3) := by decide +kernel
theorem dX12_moneyFor_18 : decode cX12_moneyFor 18 = .ok (.iload_n 3, 1) := by decide +kernel
theorem dX12_moneyFor_19 : decode cX12_moneyFor 19 = .ok (.ifCond .eq 7, 3) := by decide +kernel
theorem dX12_moneyFor_22 : decode cX12_moneyFor 22 = .ok (.iconst 0, 1) := by decide +kernel
theorem dX12_moneyFor_23 : decode cX12_moneyFor 23 = .ok (.goto 4, 3) := by decide +kernel
theorem dX12_moneyFor_26 : decode cX12_moneyFor 26 = .ok (.iconst 4, 1) := by decide +kernel
theorem dX12_moneyFor_27 : decode cX12_moneyFor 27 = .ok (.iadd, 1) := by decide +kernel
theorem dX12_moneyFor_28 : decode cX12_moneyFor 28 = .ok (.iload 4, 2) := by decide +kernel
theorem dX12_moneyFor_30 : decode cX12_moneyFor 30 = .ok (.invokestatic 368, 3) := by decide +kernel
theorem dX12_moneyFor_33 : decode cX12_moneyFor 33 = .ok (.invokevirtual 362, 3) := by decide +kernel
theorem dX12_moneyFor_36 : decode cX12_moneyFor 36 = .ok (.ireturn, 1) := by decide +kernel
theorem dX12_meanOf_0 : decode cX12_meanOf 0 = .ok (.aload_n 0, 1) := by decide +kernel
theorem dX12_meanOf_1 : decode cX12_meanOf 1 = .ok (.iload_n 1, 1) := by decide +kernel
theorem dX12_meanOf_2 : decode cX12_meanOf 2 = .ok (.iload_n 2, 1) := by decide +kernel
theorem dX12_meanOf_3 : decode cX12_meanOf 3 = .ok (.invokevirtual 286, 3) := by decide +kernel
theorem dX12_meanOf_6 : decode cX12_meanOf 6 = .ok (.istore_n 3, 1) := by decide +kernel
theorem dX12_meanOf_7 : decode cX12_meanOf 7 = .ok (.iload_n 3, 1) := by decide +kernel
theorem dX12_meanOf_8 : decode cX12_meanOf 8 = .ok (.aload_n 0, 1) := by decide +kernel
theorem dX12_meanOf_9 : decode cX12_meanOf 9 = .ok (.aload_n 0, 1) := by decide +kernel
theorem dX12_meanOf_10 : decode cX12_meanOf 10 = .ok (.getfield 9, 3) := by decide +kernel
theorem dX12_meanOf_13 : decode cX12_meanOf 13 = .ok (.iload_n 2, 1) := by decide +kernel
theorem dX12_meanOf_14 : decode cX12_meanOf 14 = .ok (.iconst 1, 1) := by decide +kernel
theorem dX12_meanOf_15 : decode cX12_meanOf 15 = .ok (.invokevirtual 372, 3) := by decide +kernel
theorem dX12_meanOf_18 : decode cX12_meanOf 18 = .ok (.imul, 1) := by decide +kernel
theorem dX12_meanOf_19 : decode cX12_meanOf 19 = .ok (.sipush 10000, 3) := by decide +kernel
theorem dX12_meanOf_22 : decode cX12_meanOf 22 = .ok (.iload_n 3, 1) := by decide +kernel
theorem dX12_meanOf_23 : decode cX12_meanOf 23 = .ok (.isub, 1) := by decide +kernel
theorem dX12_meanOf_24 : decode cX12_meanOf 24 = .ok (.aload_n 0, 1) := by decide +kernel
theorem dX12_meanOf_25 : decode cX12_meanOf 25 = .ok (.aload_n 0, 1) := by decide +kernel
theorem dX12_meanOf_26 : decode cX12_meanOf 26 = .ok (.getfield 9, 3) := by decide +kernel
theorem dX12_meanOf_29 : decode cX12_meanOf 29 = .ok (.iload_n 2, 1) := by decide +kernel
theorem dX12_meanOf_30 : decode cX12_meanOf 30 = .ok (.iconst 0, 1) := by decide +kernel
theorem dX12_meanOf_31 : decode cX12_meanOf 31 = .ok (.invokevirtual 372, 3) := by decide +kernel
theorem dX12_meanOf_34 : decode cX12_meanOf 34 = .ok (.imul, 1) := by decide +kernel
theorem dX12_meanOf_35 : decode cX12_meanOf 35 = .ok (.iadd, 1) := by decide +kernel
theorem dX12_meanOf_36 : decode cX12_meanOf 36 = .ok (.ireturn, 1) := by decide +kernel
theorem dX12_mean_0 : decode cX12_mean 0 = .ok (.aload_n 0, 1) := by decide +kernel
theorem dX12_mean_1 : decode cX12_mean 1 = .ok (.iconst 0, 1) := by decide +kernel
theorem dX12_mean_2 : decode cX12_mean 2 = .ok (.putfield 113, 3) := by decide +kernel
theorem dX12_mean_5 : decode cX12_mean 5 = .ok (.aload_n 0, 1) := by decide +kernel
theorem dX12_mean_6 : decode cX12_mean 6 = .ok (.iload_n 1, 1) := by decide +kernel
theorem dX12_mean_7 : decode cX12_mean 7 = .ok (.iload_n 2, 1) := by decide +kernel
theorem dX12_mean_8 : decode cX12_mean 8 = .ok (.invokevirtual 279, 3) := by decide +kernel
theorem dX12_mean_11 : decode cX12_mean 11 = .ok (.ifCond .ne 5, 3) := by decide +kernel
theorem dX12_mean_14 : decode cX12_mean 14 = .ok (.iconst (-1), 1) := by decide +kernel
theorem dX12_mean_15 : decode cX12_mean 15 = .ok (.ireturn, 1) := by decide +kernel
theorem dX12_mean_16 : decode cX12_mean 16 = .ok (.aload_n 0, 1) := by decide +kernel
theorem dX12_mean_17 : decode cX12_mean 17 = .ok (.iconst 0, 1) := by decide +kernel
theorem dX12_mean_18 : decode cX12_mean 18 = .ok (.putfield 116, 3) := by decide +kernel
theorem dX12_mean_21 : decode cX12_mean 21 = .ok (.aload_n 0, 1) := by decide +kernel
theorem dX12_mean_22 : decode cX12_mean 22 = .ok (.aload_n 0, 1) := by decide +kernel
theorem dX12_mean_23 : decode cX12_mean 23 = .ok (.aload_n 0, 1) := by decide +kernel
theorem dX12_mean_24 : decode cX12_mean 24 = .ok (.getfield 9, 3) := by decide +kernel
theorem dX12_mean_27 : decode cX12_mean 27 = .ok (.iload_n 2, 1) := by decide +kernel
theorem dX12_mean_28 : decode cX12_mean 28 = .ok (.iconst 1, 1) := by decide +kernel
theorem dX12_mean_29 : decode cX12_mean 29 = .ok (.invokevirtual 372, 3) := by decide +kernel
theorem dX12_mean_32 : decode cX12_mean 32 = .ok (.i2l, 1) := by decide +kernel
theorem dX12_mean_33 : decode cX12_mean 33 = .ok (.invokevirtual 265, 3) := by decide +kernel
theorem dX12_mean_36 : decode cX12_mean 36 = .ok (.aload_n 0, 1) := by decide +kernel
theorem dX12_mean_37 : decode cX12_mean 37 = .ok (.aload_n 0, 1) := by decide +kernel
theorem dX12_mean_38 : decode cX12_mean 38 = .ok (.aload_n 0, 1) := by decide +kernel
theorem dX12_mean_39 : decode cX12_mean 39 = .ok (.getfield 9, 3) := by decide +kernel
theorem dX12_mean_42 : decode cX12_mean 42 = .ok (.iload_n 2, 1) := by decide +kernel
theorem dX12_mean_43 : decode cX12_mean 43 = .ok (.iconst 0, 1) := by decide +kernel
theorem dX12_mean_44 : decode cX12_mean 44 = .ok (.invokevirtual 372, 3) := by decide +kernel
theorem dX12_mean_47 : decode cX12_mean 47 = .ok (.i2l, 1) := by decide +kernel
theorem dX12_mean_48 : decode cX12_mean 48 = .ok (.invokevirtual 265, 3) := by decide +kernel
theorem dX12_mean_51 : decode cX12_mean 51 = .ok (.aload_n 0, 1) := by decide +kernel
theorem dX12_mean_52 : decode cX12_mean 52 = .ok (.iload_n 1, 1) := by decide +kernel
theorem dX12_mean_53 : decode cX12_mean 53 = .ok (.iload_n 2, 1) := by decide +kernel
theorem dX12_mean_54 : decode cX12_mean 54 = .ok (.invokevirtual 376, 3) := by decide +kernel
theorem dX12_mean_57 : decode cX12_mean 57 = .ok (.ireturn, 1) := by decide +kernel
theorem dX12_bestPlan_0 : decode cX12_bestPlan 0 = .ok (.iconst 0, 1) := by decide +kernel
theorem dX12_bestPlan_1 : decode cX12_bestPlan 1 = .ok (.istore_n 2, 1) := by decide +kernel
theorem dX12_bestPlan_2 : decode cX12_bestPlan 2 = .ok (.iconst 1, 1) := by decide +kernel
theorem dX12_bestPlan_3 : decode cX12_bestPlan 3 = .ok (.istore_n 3, 1) := by decide +kernel
theorem dX12_bestPlan_4 : decode cX12_bestPlan 4 = .ok (.iload_n 3, 1) := by decide +kernel
theorem dX12_bestPlan_5 : decode cX12_bestPlan 5 = .ok (.aload_n 0, 1) := by decide +kernel
theorem dX12_bestPlan_6 : decode cX12_bestPlan 6 = .ok (.getfield 129, 3) := by decide +kernel
theorem dX12_bestPlan_9 : decode cX12_bestPlan 9 = .ok (.if_icmp .ge 26, 3) := by decide +kernel
theorem dX12_bestPlan_12 : decode cX12_bestPlan 12 = .ok (.aload_n 0, 1) := by decide +kernel
theorem dX12_bestPlan_13 : decode cX12_bestPlan 13 = .ok (.iload_n 1, 1) := by decide +kernel
theorem dX12_bestPlan_14 : decode cX12_bestPlan 14 = .ok (.iload_n 3, 1) := by decide +kernel
theorem dX12_bestPlan_15 : decode cX12_bestPlan 15 = .ok (.invokevirtual 376, 3) := by decide +kernel
theorem dX12_bestPlan_18 : decode cX12_bestPlan 18 = .ok (.aload_n 0, 1) := by decide +kernel
theorem dX12_bestPlan_19 : decode cX12_bestPlan 19 = .ok (.iload_n 1, 1) := by decide +kernel
theorem dX12_bestPlan_20 : decode cX12_bestPlan 20 = .ok (.iload_n 2, 1) := by decide +kernel
theorem dX12_bestPlan_21 : decode cX12_bestPlan 21 = .ok (.invokevirtual 376, 3) := by decide +kernel
theorem dX12_bestPlan_24 : decode cX12_bestPlan 24 = .ok (.if_icmp .le 5, 3) := by decide +kernel
theorem dX12_bestPlan_27 : decode cX12_bestPlan 27 = .ok (.iload_n 3, 1) := by decide +kernel
theorem dX12_bestPlan_28 : decode cX12_bestPlan 28 = .ok (.istore_n 2, 1) := by decide +kernel
theorem dX12_bestPlan_29 : decode cX12_bestPlan 29 = .ok (.iinc 3 1, 3) := by decide +kernel
theorem dX12_bestPlan_32 : decode cX12_bestPlan 32 = .ok (.goto (-28), 3) := by decide +kernel
theorem dX12_bestPlan_35 : decode cX12_bestPlan 35 = .ok (.iload_n 2, 1) := by decide +kernel
theorem dX12_bestPlan_36 : decode cX12_bestPlan 36 = .ok (.ireturn, 1) := by decide +kernel
theorem dX12_last_0 : decode cX12_last 0 = .ok (.aload_n 0, 1) := by decide +kernel
theorem dX12_last_1 : decode cX12_last 1 = .ok (.iconst 0, 1) := by decide +kernel
theorem dX12_last_2 : decode cX12_last 2 = .ok (.putfield 113, 3) := by decide +kernel
theorem dX12_last_5 : decode cX12_last 5 = .ok (.aload_n 0, 1) := by decide +kernel
theorem dX12_last_6 : decode cX12_last 6 = .ok (.iload_n 1, 1) := by decide +kernel
theorem dX12_last_7 : decode cX12_last 7 = .ok (.invokevirtual 132, 3) := by decide +kernel
theorem dX12_last_10 : decode cX12_last 10 = .ok (.ifCond .ne 5, 3) := by decide +kernel
theorem dX12_last_13 : decode cX12_last 13 = .ok (.iconst (-1), 1) := by decide +kernel
theorem dX12_last_14 : decode cX12_last 14 = .ok (.ireturn, 1) := by decide +kernel
theorem dX12_last_15 : decode cX12_last 15 = .ok (.aload_n 0, 1) := by decide +kernel
theorem dX12_last_16 : decode cX12_last 16 = .ok (.getfield 129, 3) := by decide +kernel
theorem dX12_last_19 : decode cX12_last 19 = .ok (.ifCond .ne 6, 3) := by decide +kernel
theorem dX12_last_22 : decode cX12_last 22 = .ok (.bipush (-2), 2) := by decide +kernel
theorem dX12_last_24 : decode cX12_last 24 = .ok (.ireturn, 1) := by decide +kernel
theorem dX12_last_25 : decode cX12_last 25 = .ok (.aload_n 0, 1) := by decide +kernel
theorem dX12_last_26 : decode cX12_last 26 = .ok (.iload_n 1, 1) := by decide +kernel
theorem dX12_last_27 : decode cX12_last 27 = .ok (.invokevirtual 379, 3) := by decide +kernel
theorem dX12_last_30 : decode cX12_last 30 = .ok (.istore_n 2, 1) := by decide +kernel
theorem dX12_last_31 : decode cX12_last 31 = .ok (.aload_n 0, 1) := by decide +kernel
theorem dX12_last_32 : decode cX12_last 32 = .ok (.iconst 0, 1) := by decide +kernel
theorem dX12_last_33 : decode cX12_last 33 = .ok (.putfield 116, 3) := by decide +kernel
theorem dX12_last_36 : decode cX12_last 36 = .ok (.aload_n 0, 1) := by decide +kernel
theorem dX12_last_37 : decode cX12_last 37 = .ok (.aload_n 0, 1) := by decide +kernel
theorem dX12_last_38 : decode cX12_last 38 = .ok (.iload_n 1, 1) := by decide +kernel
theorem dX12_last_39 : decode cX12_last 39 = .ok (.iload_n 2, 1) := by decide +kernel
theorem dX12_last_40 : decode cX12_last 40 = .ok (.invokevirtual 376, 3) := by decide +kernel
theorem dX12_last_43 : decode cX12_last 43 = .ok (.i2l, 1) := by decide +kernel
theorem dX12_last_44 : decode cX12_last 44 = .ok (.invokevirtual 265, 3) := by decide +kernel
theorem dX12_last_47 : decode cX12_last 47 = .ok (.iload_n 2, 1) := by decide +kernel
theorem dX12_last_48 : decode cX12_last 48 = .ok (.ireturn, 1) := by decide +kernel
theorem dX12_buy_0 : decode cX12_buy 0 = .ok (.aload_n 0, 1) := by decide +kernel
theorem dX12_buy_1 : decode cX12_buy 1 = .ok (.iconst 0, 1) := by decide +kernel
theorem dX12_buy_2 : decode cX12_buy 2 = .ok (.putfield 113, 3) := by decide +kernel
theorem dX12_buy_5 : decode cX12_buy 5 = .ok (.aload_n 0, 1) := by decide +kernel
theorem dX12_buy_6 : decode cX12_buy 6 = .ok (.getfield 126, 3) := by decide +kernel
theorem dX12_buy_9 : decode cX12_buy 9 = .ok (.ifCond .eq 10, 3) := by decide +kernel
theorem dX12_buy_12 : decode cX12_buy 12 = .ok (.aload_n 0, 1) := by decide +kernel
theorem dX12_buy_13 : decode cX12_buy 13 = .ok (.getfield 129, 3) := by decide +kernel
theorem dX12_buy_16 : decode cX12_buy 16 = .ok (.ifCond .ne 6, 3) := by decide +kernel
theorem dX12_buy_19 : decode cX12_buy 19 = .ok (.bipush (-2), 2) := by decide +kernel
theorem dX12_buy_21 : decode cX12_buy 21 = .ok (.ireturn, 1) := by decide +kernel
theorem dX12_buy_22 : decode cX12_buy 22 = .ok (.iconst (-1), 1) := by decide +kernel
theorem dX12_buy_23 : decode cX12_buy 23 = .ok (.istore_n 1, 1) := by decide +kernel
theorem dX12_buy_24 : decode cX12_buy 24 = .ok (.iconst (-1), 1) := by decide +kernel
theorem dX12_buy_25 : decode cX12_buy 25 = .ok (.istore_n 2, 1) := by decide +kernel
theorem dX12_buy_26 : decode cX12_buy 26 = .ok (.iconst (-1), 1) := by decide +kernel
theorem dX12_buy_27 : decode cX12_buy 27 = .ok (.istore_n 3, 1) := by decide +kernel
theorem dX12_buy_28 : decode cX12_buy 28 = .ok (.iconst 0, 1) := by decide +kernel
theorem dX12_buy_29 : decode cX12_buy 29 = .ok (.istore 4, 2) := by decide +kernel
theorem dX12_buy_31 : decode cX12_buy 31 = .ok (.iload 4, 2) := by decide +kernel
theorem dX12_buy_33 : decode cX12_buy 33 = .ok (.aload_n 0, 1) := by decide +kernel
theorem dX12_buy_34 : decode cX12_buy 34 = .ok (.getfield 126, 3) := by decide +kernel
theorem dX12_buy_37 : decode cX12_buy 37 = .ok (.if_icmp .ge 47, 3) := by decide +kernel
theorem dX12_buy_40 : decode cX12_buy 40 = .ok (.aload_n 0, 1) := by decide +kernel
theorem dX12_buy_41 : decode cX12_buy 41 = .ok (.iload 4, 2) := by decide +kernel
theorem dX12_buy_43 : decode cX12_buy 43 = .ok (.aload_n 0, 1) := by decide +kernel
theorem dX12_buy_44 : decode cX12_buy 44 = .ok (.iload 4, 2) := by decide +kernel
theorem dX12_buy_46 : decode cX12_buy 46 = .ok (.invokevirtual 379, 3) := by decide +kernel
theorem dX12_buy_49 : decode cX12_buy 49 = .ok (.invokevirtual 376, 3) := by decide +kernel
theorem dX12_buy_52 : decode cX12_buy 52 = .ok (.istore 5, 2) := by decide +kernel
theorem dX12_buy_54 : decode cX12_buy 54 = .ok (.iload 5, 2) := by decide +kernel
theorem dX12_buy_56 : decode cX12_buy 56 = .ok (.iload_n 2, 1) := by decide +kernel
theorem dX12_buy_57 : decode cX12_buy 57 = .ok (.if_icmp .le 14, 3) := by decide +kernel
theorem dX12_buy_60 : decode cX12_buy 60 = .ok (.iload_n 2, 1) := by decide +kernel
theorem dX12_buy_61 : decode cX12_buy 61 = .ok (.istore_n 3, 1) := by decide +kernel
theorem dX12_buy_62 : decode cX12_buy 62 = .ok (.iload 5, 2) := by decide +kernel
theorem dX12_buy_64 : decode cX12_buy 64 = .ok (.istore_n 2, 1) := by decide +kernel
theorem dX12_buy_65 : decode cX12_buy 65 = .ok (.iload 4, 2) := by decide +kernel
theorem dX12_buy_67 : decode cX12_buy 67 = .ok (.istore_n 1, 1) := by decide +kernel
theorem dX12_buy_68 : decode cX12_buy 68 = .ok (.goto 10, 3) := by decide +kernel
theorem dX12_buy_71 : decode cX12_buy 71 = .ok (.iload_n 3, 1) := by decide +kernel
theorem dX12_buy_72 : decode cX12_buy 72 = .ok (.iload 5, 2) := by decide +kernel
theorem dX12_buy_74 : decode cX12_buy 74 = .ok (.invokestatic 243, 3) := by decide +kernel
theorem dX12_buy_77 : decode cX12_buy 77 = .ok (.istore_n 3, 1) := by decide +kernel
theorem dX12_buy_78 : decode cX12_buy 78 = .ok (.iinc 4 1, 3) := by decide +kernel
theorem dX12_buy_81 : decode cX12_buy 81 = .ok (.goto (-50), 3) := by decide +kernel
theorem dX12_buy_84 : decode cX12_buy 84 = .ok (.aload_n 0, 1) := by decide +kernel
theorem dX12_buy_85 : decode cX12_buy 85 = .ok (.iconst 0, 1) := by decide +kernel
theorem dX12_buy_86 : decode cX12_buy 86 = .ok (.putfield 116, 3) := by decide +kernel
theorem dX12_buy_89 : decode cX12_buy 89 = .ok (.aload_n 0, 1) := by decide +kernel
theorem dX12_buy_90 : decode cX12_buy 90 = .ok (.iload_n 2, 1) := by decide +kernel
theorem dX12_buy_91 : decode cX12_buy 91 = .ok (.i2l, 1) := by decide +kernel
theorem dX12_buy_92 : decode cX12_buy 92 = .ok (.invokevirtual 265, 3) := by decide +kernel
theorem dX12_buy_95 : decode cX12_buy 95 = .ok (.aload_n 0, 1) := by decide +kernel
theorem dX12_buy_96 : decode cX12_buy 96 = .ok (.aload_n 0, 1) := by decide +kernel
theorem dX12_buy_97 : decode cX12_buy 97 = .ok (.iload_n 1, 1) := by decide +kernel
theorem dX12_buy_98 : decode cX12_buy 98 = .ok (.invokevirtual 379, 3) := by decide +kernel
theorem dX12_buy_101 : decode cX12_buy 101 = .ok (.i2l, 1) := by decide +kernel
theorem dX12_buy_102 : decode cX12_buy 102 = .ok (.invokevirtual 265, 3) := by decide +kernel
theorem dX12_buy_105 : decode cX12_buy 105 = .ok (.aload_n 0, 1) := by decide +kernel
theorem dX12_buy_106 : decode cX12_buy 106 = .ok (.iload_n 3, 1) := by decide +kernel
theorem dX12_buy_107 : decode cX12_buy 107 = .ok (.i2l, 1) := by decide +kernel
theorem dX12_buy_108 : decode cX12_buy 108 = .ok (.invokevirtual 265, 3) := by decide +kernel
theorem dX12_buy_111 : decode cX12_buy 111 = .ok (.iload_n 1, 1) := by decide +kernel
theorem dX12_buy_112 : decode cX12_buy 112 = .ok (.ireturn, 1) := by decide +kernel
theorem dX12_placeThought_0 : decode cX12_placeThought 0 = .ok (.aload_n 0, 1) := by decide +kernel
theorem dX12_placeThought_1 : decode cX12_placeThought 1 = .ok (.getfield 94, 3) := by decide +kernel
theorem dX12_placeThought_4 : decode cX12_placeThought 4 = .ok (.iconst 4, 1) := by decide +kernel
theorem dX12_placeThought_5 : decode cX12_placeThought 5 = .ok (.iload_n 1, 1) := by decide +kernel
theorem dX12_placeThought_6 : decode cX12_placeThought 6 = .ok (.imul, 1) := by decide +kernel
theorem dX12_placeThought_7 : decode cX12_placeThought 7 = .ok (.iaload, 1) := by decide +kernel
theorem dX12_placeThought_8 : decode cX12_placeThought 8 = .ok (.istore_n 2, 1) := by decide +kernel
theorem dX12_placeThought_9 : decode cX12_placeThought 9 = .ok (.aload_n 0, 1) := by decide +kernel
theorem dX12_placeThought_10 : decode cX12_placeThought 10 = .ok (.getfield 94, 3) := by decide +kernel
theorem dX12_placeThought_13 : decode cX12_placeThought 13 = .ok (.iconst 4, 1) := by decide +kernel
theorem dX12_placeThought_14 : decode cX12_placeThought 14 = .ok (.iload_n 1, 1) := by decide +kernel
theorem dX12_placeThought_15 : decode cX12_placeThought 15 = .ok (.imul, 1) := by decide +kernel
theorem dX12_placeThought_16 : decode cX12_placeThought 16 = .ok (.iconst 1, 1) := by decide +kernel
theorem dX12_placeThought_17 : decode cX12_placeThought 17 = .ok (.iadd, 1) := by decide +kernel
theorem dX12_placeThought_18 : decode cX12_placeThought 18 = .ok (.iaload, 1) := by decide +kernel
theorem dX12_placeThought_19 : decode cX12_placeThought 19 = .ok (.istore_n 3, 1) := by decide +kernel
theorem dX12_placeThought_20 : decode cX12_placeThought 20 = .ok (.aload_n 0, 1) := by decide +kernel
theorem dX12_placeThought_21 : decode cX12_placeThought 21 = .ok (.getfield 9, 3) := by decide +kernel
theorem dX12_placeThought_24 : decode cX12_placeThought 24 = .ok (.iload_n 2, 1) := by decide +kernel
theorem dX12_placeThought_25 : decode cX12_placeThought 25 = .ok (.iload_n 3, 1) := by decide +kernel
theorem dX12_placeThought_26 : decode cX12_placeThought 26 = .ok (.invokestatic 368, 3) := by decide +kernel
theorem dX12_placeThought_29 : decode cX12_placeThought 29 = .ok (.istore 4, 2) := by decide +kernel
theorem dX12_placeThought_31 : decode cX12_placeThought 31 = .ok (.iconst 0, 1) := by decide +kernel
theorem dX12_placeThought_32 : decode cX12_placeThought 32 = .ok (.istore 5, 2) := by decide +kernel
theorem dX12_placeThought_34 : decode cX12_placeThought 34 = .ok (.iload 5, 2) := by decide +kernel
theorem dX12_placeThought_36 : decode cX12_placeThought 36 = .ok (.aload_n 0, 1) := by decide +kernel
theorem dX12_placeThought_37 : decode cX12_placeThought 37 = .ok (.getfield 382, 3) := by decide +kernel
theorem dX12_placeThought_40 : decode cX12_placeThought 40 = .ok (.if_icmp .ge 75, 3) := by decide +kernel
theorem dX12_placeThought_43 : decode cX12_placeThought 43 = .ok (.iload 5, 2) := by decide +kernel
theorem dX12_placeThought_45 : decode cX12_placeThought 45 = .ok (.iload_n 1, 1) := by decide +kernel
theorem dX12_placeThought_46 : decode cX12_placeThought 46 = .ok (.if_icmp .ne 6, 3) := by decide +kernel
theorem dX12_placeThought_49 : decode cX12_placeThought 49 = .ok (.goto 60, 3) := by decide +kernel
theorem dX12_placeThought_52 : decode cX12_placeThought 52 = .ok (.aload_n 0, 1) := by decide +kernel
theorem dX12_placeThought_53 : decode cX12_placeThought 53 = .ok (.getfield 94, 3) := by decide +kernel
theorem dX12_placeThought_56 : decode cX12_placeThought 56 = .ok (.iconst 4, 1) := by decide +kernel
theorem dX12_placeThought_57 : decode cX12_placeThought 57 = .ok (.iload 5, 2) := by decide +kernel
theorem dX12_placeThought_59 : decode cX12_placeThought 59 = .ok (.imul, 1) := by decide +kernel
theorem dX12_placeThought_60 : decode cX12_placeThought 60 = .ok (.iaload, 1) := by decide +kernel
theorem dX12_placeThought_61 : decode cX12_placeThought 61 = .ok (.iload_n 2, 1) := by decide +kernel
theorem dX12_placeThought_62 : decode cX12_placeThought 62 = .ok (.isub, 1) := by decide +kernel
theorem dX12_placeThought_63 : decode cX12_placeThought 63 = .ok (.istore 6, 2) := by decide +kernel
theorem dX12_placeThought_65 : decode cX12_placeThought 65 = .ok (.aload_n 0, 1) := by decide +kernel
theorem dX12_placeThought_66 : decode cX12_placeThought 66 = .ok (.getfield 94, 3) := by decide +kernel
theorem dX12_placeThought_69 : decode cX12_placeThought 69 = .ok (.iconst 4, 1) := by decide +kernel
theorem dX12_placeThought_70 : decode cX12_placeThought 70 = .ok (.iload 5, 2) := by decide +kernel
theorem dX12_placeThought_72 : decode cX12_placeThought 72 = .ok (.imul, 1) := by decide +kernel
theorem dX12_placeThought_73 : decode cX12_placeThought 73 = .ok (.iconst 1, 1) := by decide +kernel
theorem dX12_placeThought_74 : decode cX12_placeThought 74 = .ok (.iadd, 1) := by decide +kernel
theorem dX12_placeThought_75 : decode cX12_placeThought 75 = .ok (.iaload, 1) := by decide +kernel
theorem dX12_placeThought_76 : decode cX12_placeThought 76 = .ok (.iload_n 3, 1) := by decide +kernel
theorem dX12_placeThought_77 : decode cX12_placeThought 77 = .ok (.isub, 1) := by decide +kernel
theorem dX12_placeThought_78 : decode cX12_placeThought 78 = .ok (.istore 7, 2) := by decide +kernel
theorem dX12_placeThought_80 : decode cX12_placeThought 80 = .ok (.iload 6, 2) := by decide +kernel
theorem dX12_placeThought_82 : decode cX12_placeThought 82 = .ok (.ifCond .lt 24, 3) := by decide +kernel
theorem dX12_placeThought_85 : decode cX12_placeThought 85 = .ok (.iload 6, 2) := by decide +kernel
theorem dX12_placeThought_87 : decode cX12_placeThought 87 = .ok (.ifCond .ne 22, 3) := by decide +kernel
theorem dX12_placeThought_90 : decode cX12_placeThought 90 = .ok (.iload 7, 2) := by decide +kernel
theorem dX12_placeThought_92 : decode cX12_placeThought 92 = .ok (.ifCond .lt 14, 3) := by decide +kernel
theorem dX12_placeThought_95 : decode cX12_placeThought 95 = .ok (.iload 7, 2) := by decide +kernel
theorem dX12_placeThought_97 : decode cX12_placeThought 97 = .ok (.ifCond .ne 12, 3) := by decide +kernel
theorem dX12_placeThought_100 : decode cX12_placeThought 100 = .ok (.iload 5, 2) := by decide +kernel
theorem dX12_placeThought_102 : decode cX12_placeThought 102 = .ok (.iload_n 1, 1) := by decide +kernel
theorem dX12_placeThought_103 : decode cX12_placeThought 103 = .ok (.if_icmp .ge 6, 3) := by decide +kernel
theorem dX12_placeThought_106 : decode cX12_placeThought 106 = .ok (.iinc 4 1, 3) := by decide +kernel
theorem dX12_placeThought_109 : decode cX12_placeThought 109 = .ok (.iinc 5 1, 3) := by decide +kernel
theorem dX12_placeThought_112 : decode cX12_placeThought 112 = .ok (.goto (-78), 3) := by decide +kernel
theorem dX12_placeThought_115 : decode cX12_placeThought 115 = .ok (.iload 4, 2) := by decide +kernel
theorem dX12_placeThought_117 : decode cX12_placeThought 117 = .ok (.ireturn, 1) := by decide +kernel
theorem dX12_goGame_0 : decode cX12_goGame 0 = .ok (.iload_n 1, 1) := by decide +kernel
theorem dX12_goGame_1 : decode cX12_goGame 1 = .ok (.aload_n 0, 1) := by decide +kernel
theorem dX12_goGame_2 : decode cX12_goGame 2 = .ok (.getfield 382, 3) := by decide +kernel
theorem dX12_goGame_5 : decode cX12_goGame 5 = .ok (.if_icmp .ne 40, 3) := by decide +kernel
theorem dX12_goGame_8 : decode cX12_goGame 8 = .ok (.iconst 0, 1) := by decide +kernel
theorem dX12_goGame_9 : decode cX12_goGame 9 = .ok (.istore_n 2, 1) := by decide +kernel
theorem dX12_goGame_10 : decode cX12_goGame 10 = .ok (.iload_n 2, 1) := by decide +kernel
theorem dX12_goGame_11 : decode cX12_goGame 11 = .ok (.aload_n 0, 1) := by decide +kernel
theorem dX12_goGame_12 : decode cX12_goGame 12 = .ok (.getfield 382, 3) := by decide +kernel
theorem dX12_goGame_15 : decode cX12_goGame 15 = .ok (.if_icmp .ge 29, 3) := by decide +kernel
theorem dX12_goGame_18 : decode cX12_goGame 18 = .ok (.aload_n 0, 1) := by decide +kernel
theorem dX12_goGame_19 : decode cX12_goGame 19 = .ok (.getfield 88, 3) := by decide +kernel
theorem dX12_goGame_22 : decode cX12_goGame 22 = .ok (.iconst 3, 1) := by decide +kernel
theorem dX12_goGame_23 : decode cX12_goGame 23 = .ok (.iload_n 1, 1) := by decide +kernel
theorem dX12_goGame_24 : decode cX12_goGame 24 = .ok (.imul, 1) := by decide +kernel
theorem dX12_goGame_25 : decode cX12_goGame 25 = .ok (.iload_n 2, 1) := by decide +kernel
theorem dX12_goGame_26 : decode cX12_goGame 26 = .ok (.iadd, 1) := by decide +kernel
theorem dX12_goGame_27 : decode cX12_goGame 27 = .ok (.aload_n 0, 1) := by decide +kernel
theorem dX12_goGame_28 : decode cX12_goGame 28 = .ok (.aload_n 0, 1) := by decide +kernel
theorem dX12_goGame_29 : decode cX12_goGame 29 = .ok (.iload_n 2, 1) := by decide +kernel
theorem dX12_goGame_30 : decode cX12_goGame 30 = .ok (.invokevirtual 385, 3) := by decide +kernel
theorem dX12_goGame_33 : decode cX12_goGame 33 = .ok (.invokevirtual 362, 3) := by decide +kernel
theorem dX12_goGame_36 : decode cX12_goGame 36 = .ok (.i2l, 1) := by decide +kernel
theorem dX12_goGame_37 : decode cX12_goGame 37 = .ok (.lastore, 1) := by decide +kernel
theorem dX12_goGame_38 : decode cX12_goGame 38 = .ok (.iinc 2 1, 3) := by decide +kernel
theorem dX12_goGame_41 : decode cX12_goGame 41 = .ok (.goto (-31), 3) := by decide +kernel
theorem dX12_goGame_44 : decode cX12_goGame 44 = .ok (.return_, 1) := by decide +kernel
theorem dX12_goGame_45 : decode cX12_goGame 45 = .ok (.ldc2_w 388, 3) := by decide +kernel
theorem dX12_goGame_48 : decode cX12_goGame 48 = .ok (.lstore_n 2, 1) := by decide +kernel
theorem dX12_goGame_49 : decode cX12_goGame 49 = .ok (.lconst 0, 1) := by decide +kernel
theorem dX12_goGame_50 : decode cX12_goGame 50 = .ok (.lstore 4, 2) := by decide +kernel
theorem dX12_goGame_52 : decode cX12_goGame 52 = .ok (.lconst 0, 1) := by decide +kernel
theorem dX12_goGame_53 : decode cX12_goGame 53 = .ok (.lstore 6, 2) := by decide +kernel
theorem dX12_goGame_55 : decode cX12_goGame 55 = .ok (.lconst 0, 1) := by decide +kernel
theorem dX12_goGame_56 : decode cX12_goGame 56 = .ok (.lstore 8, 2) := by decide +kernel
theorem dX12_goGame_58 : decode cX12_goGame 58 = .ok (.iconst 0, 1) := by decide +kernel
theorem dX12_goGame_59 : decode cX12_goGame 59 = .ok (.istore 10, 2) := by decide +kernel
theorem dX12_goGame_61 : decode cX12_goGame 61 = .ok (.iconst 0, 1) := by decide +kernel
theorem dX12_goGame_62 : decode cX12_goGame 62 = .ok (.istore 11, 2) := by decide +kernel
theorem dX12_goGame_64 : decode cX12_goGame 64 = .ok (.iload 11, 2) := by decide +kernel
theorem dX12_goGame_66 : decode cX12_goGame 66 = .ok (.aload_n 0, 1) := by decide +kernel
theorem dX12_goGame_67 : decode cX12_goGame 67 = .ok (.getfield 129, 3) := by decide +kernel
theorem dX12_goGame_70 : decode cX12_goGame 70 = .ok (.if_icmp .ge 230, 3) := by decide +kernel
theorem dX12_goGame_73 : decode cX12_goGame 73 = .ok (.aload_n 0, 1) := by decide +kernel
theorem dX12_goGame_74 : decode cX12_goGame 74 = .ok (.aload_n 0, 1) := by decide +kernel
theorem dX12_goGame_75 : decode cX12_goGame 75 = .ok (.getfield 85, 3) := by decide +kernel
theorem dX12_goGame_78 : decode cX12_goGame 78 = .ok (.iload_n 1, 1) := by decide +kernel
theorem dX12_goGame_79 : decode cX12_goGame 79 = .ok (.iaload, 1) := by decide +kernel
theorem dX12_goGame_80 : decode cX12_goGame 80 = .ok (.iload 11, 2) := by decide +kernel
theorem dX12_goGame_82 : decode cX12_goGame 82 = .ok (.invokevirtual 286, 3) := by decide +kernel
theorem dX12_goGame_85 : decode cX12_goGame 85 = .ok (.istore 12, 2) := by decide +kernel
theorem dX12_goGame_87 : decode cX12_goGame 87 = .ok (.aload_n 0, 1) := by decide +kernel
theorem dX12_goGame_88 : decode cX12_goGame 88 = .ok (.iload_n 1, 1) := by decide +kernel
theorem dX12_goGame_89 : decode cX12_goGame 89 = .ok (.iload 11, 2) := by decide +kernel
theorem dX12_goGame_91 : decode cX12_goGame 91 = .ok (.iconst 1, 1) := by decide +kernel
theorem dX12_goGame_92 : decode cX12_goGame 92 = .ok (.invokevirtual 390, 3) := by decide +kernel
theorem dX12_goGame_95 : decode cX12_goGame 95 = .ok (.aload_n 0, 1) := by decide +kernel
theorem dX12_goGame_96 : decode cX12_goGame 96 = .ok (.iload_n 1, 1) := by decide +kernel
theorem dX12_goGame_97 : decode cX12_goGame 97 = .ok (.iconst 1, 1) := by decide +kernel
theorem dX12_goGame_98 : decode cX12_goGame 98 = .ok (.iadd, 1) := by decide +kernel
theorem dX12_goGame_99 : decode cX12_goGame 99 = .ok (.invokevirtual 394, 3) := by decide +kernel
theorem dX12_goGame_102 : decode cX12_goGame 102 = .ok (.iload 12, 2) := by decide +kernel
theorem dX12_goGame_104 : decode cX12_goGame 104 = .ok (.i2l, 1) := by decide +kernel
theorem dX12_goGame_105 : decode cX12_goGame 105 = .ok (.aload_n 0, 1) := by decide +kernel
theorem dX12_goGame_106 : decode cX12_goGame 106 = .ok (.getfield 88, 3) := by decide +kernel
theorem dX12_goGame_109 : decode cX12_goGame 109 = .ok (.iconst 3, 1) := by decide +kernel
theorem dX12_goGame_110 : decode cX12_goGame 110 = .ok (.iload_n 1, 1) := by decide +kernel
theorem dX12_goGame_111 : decode cX12_goGame 111 = .ok (.iconst 1, 1) := by decide +kernel
theorem dX12_goGame_112 : decode cX12_goGame 112 = .ok (.iadd, 1) := by decide +kernel
theorem dX12_goGame_113 : decode cX12_goGame 113 = .ok (.imul, 1) := by decide +kernel
theorem dX12_goGame_114 : decode cX12_goGame 114 = .ok (.laload, 1) := by decide +kernel
theorem dX12_goGame_115 : decode cX12_goGame 115 = .ok (.lmul, 1) := by decide +kernel
theorem dX12_goGame_116 : decode cX12_goGame 116 = .ok (.lstore 13, 2) := by decide +kernel
theorem dX12_goGame_118 : decode cX12_goGame 118 = .ok (.iload 12, 2) := by decide +kernel
theorem dX12_goGame_120 : decode cX12_goGame 120 = .ok (.i2l, 1) := by decide +kernel
theorem dX12_goGame_121 : decode cX12_goGame 121 = .ok (.aload_n 0, 1) := by decide +kernel
theorem dX12_goGame_122 : decode cX12_goGame 122 = .ok (.getfield 88, 3) := by decide +kernel
theorem dX12_goGame_125 : decode cX12_goGame 125 = .ok (.iconst 3, 1) := by decide +kernel
theorem dX12_goGame_126 : decode cX12_goGame 126 = .ok (.iload_n 1, 1) := by decide +kernel
theorem dX12_goGame_127 : decode cX12_goGame 127 = .ok (.iconst 1, 1) := by decide +kernel
theorem dX12_goGame_128 : decode cX12_goGame 128 = .ok (.iadd, 1) := by decide +kernel
theorem dX12_goGame_129 : decode cX12_goGame 129 = .ok (.imul, 1) := by decide +kernel
theorem dX12_goGame_130 : decode cX12_goGame 130 = .ok (.iconst 1, 1) := by decide +kernel
theorem dX12_goGame_131 : decode cX12_goGame 131 = .ok (.iadd, 1) := by decide +kernel
theorem dX12_goGame_132 : decode cX12_goGame 132 = .ok (.laload, 1) := by decide +kernel
theorem dX12_goGame_133 : decode cX12_goGame 133 = .ok (.lmul, 1) := by decide +kernel
theorem dX12_goGame_134 : decode cX12_goGame 134 = .ok (.lstore 15, 2) := by decide +kernel
theorem dX12_goGame_136 : decode cX12_goGame 136 = .ok (.iload 12, 2) := by decide +kernel
theorem dX12_goGame_138 : decode cX12_goGame 138 = .ok (.i2l, 1) := by decide +kernel
theorem dX12_goGame_139 : decode cX12_goGame 139 = .ok (.aload_n 0, 1) := by decide +kernel
theorem dX12_goGame_140 : decode cX12_goGame 140 = .ok (.getfield 88, 3) := by decide +kernel
theorem dX12_goGame_143 : decode cX12_goGame 143 = .ok (.iconst 3, 1) := by decide +kernel
theorem dX12_goGame_144 : decode cX12_goGame 144 = .ok (.iload_n 1, 1) := by decide +kernel
theorem dX12_goGame_145 : decode cX12_goGame 145 = .ok (.iconst 1, 1) := by decide +kernel
theorem dX12_goGame_146 : decode cX12_goGame 146 = .ok (.iadd, 1) := by decide +kernel
theorem dX12_goGame_147 : decode cX12_goGame 147 = .ok (.imul, 1) := by decide +kernel
theorem dX12_goGame_148 : decode cX12_goGame 148 = .ok (.iconst 2, 1) := by decide +kernel
theorem dX12_goGame_149 : decode cX12_goGame 149 = .ok (.iadd, 1) := by decide +kernel
theorem dX12_goGame_150 : decode cX12_goGame 150 = .ok (.laload, 1) := by decide +kernel
theorem dX12_goGame_151 : decode cX12_goGame 151 = .ok (.lmul, 1) := by decide +kernel
theorem dX12_goGame_152 : decode cX12_goGame 152 = .ok (.lstore 17, 2) := by decide +kernel
theorem dX12_goGame_154 : decode cX12_goGame 154 = .ok (.aload_n 0, 1) := by decide +kernel
theorem dX12_goGame_155 : decode cX12_goGame 155 = .ok (.iload_n 1, 1) := by decide +kernel
theorem dX12_goGame_156 : decode cX12_goGame 156 = .ok (.iload 11, 2) := by decide +kernel
theorem dX12_goGame_158 : decode cX12_goGame 158 = .ok (.iconst 0, 1) := by decide +kernel
theorem dX12_goGame_159 : decode cX12_goGame 159 = .ok (.invokevirtual 390, 3) := by decide +kernel
theorem dX12_goGame_162 : decode cX12_goGame 162 = .ok (.aload_n 0, 1) := by decide +kernel
theorem dX12_goGame_163 : decode cX12_goGame 163 = .ok (.iload_n 1, 1) := by decide +kernel
theorem dX12_goGame_164 : decode cX12_goGame 164 = .ok (.iconst 1, 1) := by decide +kernel
theorem dX12_goGame_165 : decode cX12_goGame 165 = .ok (.iadd, 1) := by decide +kernel
theorem dX12_goGame_166 : decode cX12_goGame 166 = .ok (.invokevirtual 394, 3) := by decide +kernel
theorem dX12_goGame_169 : decode cX12_goGame 169 = .ok (.lload 13, 2) := by decide +kernel
theorem dX12_goGame_171 : decode cX12_goGame 171 = .ok (.sipush 10000, 3) := by decide +kernel
theorem dX12_goGame_174 : decode cX12_goGame 174 = .ok (.iload 12, 2) := by decide +kernel
theorem dX12_goGame_176 : decode cX12_goGame 176 = .ok (.isub, 1) := by decide +kernel
theorem dX12_goGame_177 : decode cX12_goGame 177 = .ok (.i2l, 1) := by decide +kernel
theorem dX12_goGame_178 : decode cX12_goGame 178 = .ok (.aload_n 0, 1) := by decide +kernel
theorem dX12_goGame_179 : decode cX12_goGame 179 = .ok (.getfield 88, 3) := by decide +kernel
theorem dX12_goGame_182 : decode cX12_goGame 182 = .ok (.iconst 3, 1) := by decide +kernel
theorem dX12_goGame_183 : decode cX12_goGame 183 = .ok (.iload_n 1, 1) := by decide +kernel
theorem dX12_goGame_184 : decode cX12_goGame 184 = .ok (.iconst 1, 1) := by decide +kernel
theorem dX12_goGame_185 : decode cX12_goGame 185 = .ok (.iadd, 1) := by decide +kernel
theorem dX12_goGame_186 : decode cX12_goGame 186 = .ok (.imul, 1) := by decide +kernel
theorem dX12_goGame_187 : decode cX12_goGame 187 = .ok (.laload, 1) := by decide +kernel
theorem dX12_goGame_188 : decode cX12_goGame 188 = .ok (.lmul, 1) := by decide +kernel
theorem dX12_goGame_189 : decode cX12_goGame 189 = .ok (.ladd, 1) := by decide +kernel
theorem dX12_goGame_190 : decode cX12_goGame 190 = .ok (.lstore 13, 2) := by decide +kernel
theorem dX12_goGame_192 : decode cX12_goGame 192 = .ok (.lload 15, 2) := by decide +kernel
theorem dX12_goGame_194 : decode cX12_goGame 194 = .ok (.sipush 10000, 3) := by decide +kernel
theorem dX12_goGame_197 : decode cX12_goGame 197 = .ok (.iload 12, 2) := by decide +kernel
theorem dX12_goGame_199 : decode cX12_goGame 199 = .ok (.isub, 1) := by decide +kernel
theorem dX12_goGame_200 : decode cX12_goGame 200 = .ok (.i2l, 1) := by decide +kernel
theorem dX12_goGame_201 : decode cX12_goGame 201 = .ok (.aload_n 0, 1) := by decide +kernel
theorem dX12_goGame_202 : decode cX12_goGame 202 = .ok (.getfield 88, 3) := by decide +kernel
theorem dX12_goGame_205 : decode cX12_goGame 205 = .ok (.iconst 3, 1) := by decide +kernel
theorem dX12_goGame_206 : decode cX12_goGame 206 = .ok (.iload_n 1, 1) := by decide +kernel
theorem dX12_goGame_207 : decode cX12_goGame 207 = .ok (.iconst 1, 1) := by decide +kernel
theorem dX12_goGame_208 : decode cX12_goGame 208 = .ok (.iadd, 1) := by decide +kernel
theorem dX12_goGame_209 : decode cX12_goGame 209 = .ok (.imul, 1) := by decide +kernel
theorem dX12_goGame_210 : decode cX12_goGame 210 = .ok (.iconst 1, 1) := by decide +kernel
theorem dX12_goGame_211 : decode cX12_goGame 211 = .ok (.iadd, 1) := by decide +kernel
theorem dX12_goGame_212 : decode cX12_goGame 212 = .ok (.laload, 1) := by decide +kernel
theorem dX12_goGame_213 : decode cX12_goGame 213 = .ok (.lmul, 1) := by decide +kernel
theorem dX12_goGame_214 : decode cX12_goGame 214 = .ok (.ladd, 1) := by decide +kernel
theorem dX12_goGame_215 : decode cX12_goGame 215 = .ok (.lstore 15, 2) := by decide +kernel
theorem dX12_goGame_217 : decode cX12_goGame 217 = .ok (.lload 17, 2) := by decide +kernel
theorem dX12_goGame_219 : decode cX12_goGame 219 = .ok (.sipush 10000, 3) := by decide +kernel
theorem dX12_goGame_222 : decode cX12_goGame 222 = .ok (.iload 12, 2) := by decide +kernel
theorem dX12_goGame_224 : decode cX12_goGame 224 = .ok (.isub, 1) := by decide +kernel
theorem dX12_goGame_225 : decode cX12_goGame 225 = .ok (.i2l, 1) := by decide +kernel
theorem dX12_goGame_226 : decode cX12_goGame 226 = .ok (.aload_n 0, 1) := by decide +kernel
theorem dX12_goGame_227 : decode cX12_goGame 227 = .ok (.getfield 88, 3) := by decide +kernel
theorem dX12_goGame_230 : decode cX12_goGame 230 = .ok (.iconst 3, 1) := by decide +kernel
theorem dX12_goGame_231 : decode cX12_goGame 231 = .ok (.iload_n 1, 1) := by decide +kernel
theorem dX12_goGame_232 : decode cX12_goGame 232 = .ok (.iconst 1, 1) := by decide +kernel
theorem dX12_goGame_233 : decode cX12_goGame 233 = .ok (.iadd, 1) := by decide +kernel
theorem dX12_goGame_234 : decode cX12_goGame 234 = .ok (.imul, 1) := by decide +kernel
theorem dX12_goGame_235 : decode cX12_goGame 235 = .ok (.iconst 2, 1) := by decide +kernel
theorem dX12_goGame_236 : decode cX12_goGame 236 = .ok (.iadd, 1) := by decide +kernel
theorem dX12_goGame_237 : decode cX12_goGame 237 = .ok (.laload, 1) := by decide +kernel
theorem dX12_goGame_238 : decode cX12_goGame 238 = .ok (.lmul, 1) := by decide +kernel
theorem dX12_goGame_239 : decode cX12_goGame 239 = .ok (.ladd, 1) := by decide +kernel
theorem dX12_goGame_240 : decode cX12_goGame 240 = .ok (.lstore 17, 2) := by decide +kernel
theorem dX12_goGame_242 : decode cX12_goGame 242 = .ok (.iload_n 1, 1) := by decide +kernel
theorem dX12_goGame_243 : decode cX12_goGame 243 = .ok (.ifCond .ne 8, 3) := by decide +kernel
theorem dX12_goGame_246 : decode cX12_goGame 246 = .ok (.lload 13, 2) := by decide +kernel
theorem dX12_goGame_248 : decode cX12_goGame 248 = .ok (.goto 15, 3) := by decide +kernel
theorem dX12_goGame_251 : decode cX12_goGame 251 = .ok (.iload_n 1, 1) := by decide +kernel
theorem dX12_goGame_252 : decode cX12_goGame 252 = .ok (.iconst 1, 1) := by decide +kernel
theorem dX12_goGame_253 : decode cX12_goGame 253 = .ok (.if_icmp .ne 8, 3) := by decide +kernel
theorem dX12_goGame_256 : decode cX12_goGame 256 = .ok (.lload 15, 2) := by decide +kernel
theorem dX12_goGame_258 : decode cX12_goGame 258 = .ok (.goto 5, 3) := by decide +kernel
theorem dX12_goGame_261 : decode cX12_goGame 261 = .ok (.lload 17, 2) := by decide +kernel
theorem dX12_goGame_263 : decode cX12_goGame 263 = .ok (.lstore 19, 2) := by decide +kernel
theorem dX12_goGame_265 : decode cX12_goGame 265 = .ok (.lload 19, 2) := by decide +kernel
theorem dX12_goGame_267 : decode cX12_goGame 267 = .ok (.lload_n 2, 1) := by decide +kernel
theorem dX12_goGame_268 : decode cX12_goGame 268 = .ok (.lcmp, 1) := by decide +kernel
theorem dX12_goGame_269 : decode cX12_goGame 269 = .ok (.ifCond .gt 6, 3) := by decide +kernel
theorem dX12_goGame_272 : decode cX12_goGame 272 = .ok (.goto 22, 3) := by decide +kernel
theorem dX12_goGame_275 : decode cX12_goGame 275 = .ok (.lload 19, 2) := by decide +kernel
theorem dX12_goGame_277 : decode cX12_goGame 277 = .ok (.lstore_n 2, 1) := by decide +kernel
theorem dX12_goGame_278 : decode cX12_goGame 278 = .ok (.iload 11, 2) := by decide +kernel
theorem dX12_goGame_280 : decode cX12_goGame 280 = .ok (.istore 10, 2) := by decide +kernel
theorem dX12_goGame_282 : decode cX12_goGame 282 = .ok (.lload 13, 2) := by decide +kernel
theorem dX12_goGame_284 : decode cX12_goGame 284 = .ok (.lstore 4, 2) := by decide +kernel
theorem dX12_goGame_286 : decode cX12_goGame 286 = .ok (.lload 15, 2) := by decide +kernel
theorem dX12_goGame_288 : decode cX12_goGame 288 = .ok (.lstore 6, 2) := by decide +kernel
theorem dX12_goGame_290 : decode cX12_goGame 290 = .ok (.lload 17, 2) := by decide +kernel
theorem dX12_goGame_292 : decode cX12_goGame 292 = .ok (.lstore 8, 2) := by decide +kernel
theorem dX12_goGame_294 : decode cX12_goGame 294 = .ok (.iinc 11 1, 3) := by decide +kernel
theorem dX12_goGame_297 : decode cX12_goGame 297 = .ok (.goto (-233), 3) := by decide +kernel
theorem dX12_goGame_300 : decode cX12_goGame 300 = .ok (.aload_n 0, 1) := by decide +kernel
theorem dX12_goGame_301 : decode cX12_goGame 301 = .ok (.getfield 88, 3) := by decide +kernel
theorem dX12_goGame_304 : decode cX12_goGame 304 = .ok (.iconst 3, 1) := by decide +kernel
theorem dX12_goGame_305 : decode cX12_goGame 305 = .ok (.iload_n 1, 1) := by decide +kernel
theorem dX12_goGame_306 : decode cX12_goGame 306 = .ok (.imul, 1) := by decide +kernel
theorem dX12_goGame_307 : decode cX12_goGame 307 = .ok (.lload 4, 2) := by decide +kernel
theorem dX12_goGame_309 : decode cX12_goGame 309 = .ok (.lastore, 1) := by decide +kernel
theorem dX12_goGame_310 : decode cX12_goGame 310 = .ok (.aload_n 0, 1) := by decide +kernel
theorem dX12_goGame_311 : decode cX12_goGame 311 = .ok (.getfield 88, 3) := by decide +kernel
theorem dX12_goGame_314 : decode cX12_goGame 314 = .ok (.iconst 3, 1) := by decide +kernel
theorem dX12_goGame_315 : decode cX12_goGame 315 = .ok (.iload_n 1, 1) := by decide +kernel
theorem dX12_goGame_316 : decode cX12_goGame 316 = .ok (.imul, 1) := by decide +kernel
theorem dX12_goGame_317 : decode cX12_goGame 317 = .ok (.iconst 1, 1) := by decide +kernel
theorem dX12_goGame_318 : decode cX12_goGame 318 = .ok (.iadd, 1) := by decide +kernel
theorem dX12_goGame_319 : decode cX12_goGame 319 = .ok (.lload 6, 2) := by decide +kernel
theorem dX12_goGame_321 : decode cX12_goGame 321 = .ok (.lastore, 1) := by decide +kernel
theorem dX12_goGame_322 : decode cX12_goGame 322 = .ok (.aload_n 0, 1) := by decide +kernel
theorem dX12_goGame_323 : decode cX12_goGame 323 = .ok (.getfield 88, 3) := by decide +kernel
theorem dX12_goGame_326 : decode cX12_goGame 326 = .ok (.iconst 3, 1) := by decide +kernel
theorem dX12_goGame_327 : decode cX12_goGame 327 = .ok (.iload_n 1, 1) := by decide +kernel
theorem dX12_goGame_328 : decode cX12_goGame 328 = .ok (.imul, 1) := by decide +kernel
theorem dX12_goGame_329 : decode cX12_goGame 329 = .ok (.iconst 2, 1) := by decide +kernel
theorem dX12_goGame_330 : decode cX12_goGame 330 = .ok (.iadd, 1) := by decide +kernel
theorem dX12_goGame_331 : decode cX12_goGame 331 = .ok (.lload 8, 2) := by decide +kernel
theorem dX12_goGame_333 : decode cX12_goGame 333 = .ok (.lastore, 1) := by decide +kernel
theorem dX12_goGame_334 : decode cX12_goGame 334 = .ok (.aload_n 0, 1) := by decide +kernel
theorem dX12_goGame_335 : decode cX12_goGame 335 = .ok (.getfield 91, 3) := by decide +kernel
theorem dX12_goGame_338 : decode cX12_goGame 338 = .ok (.iload_n 1, 1) := by decide +kernel
theorem dX12_goGame_339 : decode cX12_goGame 339 = .ok (.iload 10, 2) := by decide +kernel
theorem dX12_goGame_341 : decode cX12_goGame 341 = .ok (.iastore, 1) := by decide +kernel
theorem dX12_goGame_342 : decode cX12_goGame 342 = .ok (.return_, 1) := by decide +kernel
theorem dX12_layThought_0 : decode cX12_layThought 0 = .ok (.aload_n 0, 1) := by decide +kernel
theorem dX12_layThought_1 : decode cX12_layThought 1 = .ok (.iload_n 2, 1) := by decide +kernel
theorem dX12_layThought_2 : decode cX12_layThought 2 = .ok (.invokevirtual 283, 3) := by decide +kernel
theorem dX12_layThought_5 : decode cX12_layThought 5 = .ok (.istore 4, 2) := by decide +kernel
theorem dX12_layThought_7 : decode cX12_layThought 7 = .ok (.aload_n 0, 1) := by decide +kernel
theorem dX12_layThought_8 : decode cX12_layThought 8 = .ok (.getfield 94, 3) := by decide +kernel
theorem dX12_layThought_11 : decode cX12_layThought 11 = .ok (.iconst 4, 1) := by decide +kernel
theorem dX12_layThought_12 : decode cX12_layThought 12 = .ok (.iload_n 1, 1) := by decide +kernel
theorem dX12_layThought_13 : decode cX12_layThought 13 = .ok (.imul, 1) := by decide +kernel
theorem dX12_layThought_14 : decode cX12_layThought 14 = .ok (.aload_n 0, 1) := by decide +kernel
theorem dX12_layThought_15 : decode cX12_layThought 15 = .ok (.iload 4, 2) := by decide +kernel
theorem dX12_layThought_17 : decode cX12_layThought 17 = .ok (.bipush 40, 2) := by decide +kernel
theorem dX12_layThought_19 : decode cX12_layThought 19 = .ok (.iconst 1, 1) := by decide +kernel
theorem dX12_layThought_20 : decode cX12_layThought 20 = .ok (.invokevirtual 325, 3) := by decide +kernel
theorem dX12_layThought_23 : decode cX12_layThought 23 = .ok (.iload_n 3, 1) := by decide +kernel
theorem dX12_layThought_24 : decode cX12_layThought 24 = .ok (.ifCond .eq 7, 3) := by decide +kernel
theorem dX12_layThought_27 : decode cX12_layThought 27 = .ok (.iconst 0, 1) := by decide +kernel
theorem dX12_layThought_28 : decode cX12_layThought 28 = .ok (.goto 4, 3) := by decide +kernel
theorem dX12_layThought_31 : decode cX12_layThought 31 = .ok (.iconst 4, 1) := by decide +kernel
theorem dX12_layThought_32 : decode cX12_layThought 32 = .ok (.iadd, 1) := by decide +kernel
theorem dX12_layThought_33 : decode cX12_layThought 33 = .ok (.iastore, 1) := by decide +kernel
theorem dX12_layThought_34 : decode cX12_layThought 34 = .ok (.aload_n 0, 1) := by decide +kernel
theorem dX12_layThought_35 : decode cX12_layThought 35 = .ok (.getfield 94, 3) := by decide +kernel
theorem dX12_layThought_38 : decode cX12_layThought 38 = .ok (.iconst 4, 1) := by decide +kernel
theorem dX12_layThought_39 : decode cX12_layThought 39 = .ok (.iload_n 1, 1) := by decide +kernel
theorem dX12_layThought_40 : decode cX12_layThought 40 = .ok (.imul, 1) := by decide +kernel
theorem dX12_layThought_41 : decode cX12_layThought 41 = .ok (.iconst 1, 1) := by decide +kernel
