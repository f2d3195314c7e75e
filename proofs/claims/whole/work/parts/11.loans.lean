theorem dX6_has_0 : decode cX6_has 0 = .ok (.iload_n 1, 1) := by decide +kernel
theorem dX6_has_1 : decode cX6_has 1 = .ok (.ifCond .lt 21, 3) := by decide +kernel
theorem dX6_has_4 : decode cX6_has 4 = .ok (.iload_n 1, 1) := by decide +kernel
theorem dX6_has_5 : decode cX6_has 5 = .ok (.aload_n 0, 1) := by decide +kernel
theorem dX6_has_6 : decode cX6_has 6 = .ok (.getfield 30, 3) := by decide +kernel
theorem dX6_has_9 : decode cX6_has 9 = .ok (.if_icmp .ge 13, 3) := by decide +kernel
theorem dX6_has_12 : decode cX6_has 12 = .ok (.iload_n 1, 1) := by decide +kernel
theorem dX6_has_13 : decode cX6_has 13 = .ok (.bipush 24, 2) := by decide +kernel
theorem dX6_has_15 : decode cX6_has 15 = .ok (.if_icmp .ge 7, 3) := by decide +kernel
theorem dX6_has_18 : decode cX6_has 18 = .ok (.iconst 1, 1) := by decide +kernel
theorem dX6_has_19 : decode cX6_has 19 = .ok (.goto 4, 3) := by decide +kernel
theorem dX6_has_22 : decode cX6_has 22 = .ok (.iconst 0, 1) := by decide +kernel
theorem dX6_has_23 : decode cX6_has 23 = .ok (.ireturn, 1) := by decide +kernel
theorem dX6_copy_0 : decode cX6_copy 0 = .ok (.aload_n 1, 1) := by decide +kernel
theorem dX6_copy_1 : decode cX6_copy 1 = .ok (.getfield 9, 3) := by decide +kernel
theorem dX6_copy_4 : decode cX6_copy 4 = .ok (.iconst 0, 1) := by decide +kernel
theorem dX6_copy_5 : decode cX6_copy 5 = .ok (.aload_n 0, 1) := by decide +kernel
theorem dX6_copy_6 : decode cX6_copy 6 = .ok (.getfield 9, 3) := by decide +kernel
theorem dX6_copy_9 : decode cX6_copy 9 = .ok (.iconst 0, 1) := by decide +kernel
theorem dX6_copy_10 : decode cX6_copy 10 = .ok (.bipush 24, 2) := by decide +kernel
theorem dX6_copy_12 : decode cX6_copy 12 = .ok (.invokestatic 34, 3) := by decide +kernel
theorem dX6_copy_15 : decode cX6_copy 15 = .ok (.aload_n 1, 1) := by decide +kernel
theorem dX6_copy_16 : decode cX6_copy 16 = .ok (.getfield 15, 3) := by decide +kernel
theorem dX6_copy_19 : decode cX6_copy 19 = .ok (.iconst 0, 1) := by decide +kernel
theorem dX6_copy_20 : decode cX6_copy 20 = .ok (.aload_n 0, 1) := by decide +kernel
theorem dX6_copy_21 : decode cX6_copy 21 = .ok (.getfield 15, 3) := by decide +kernel
theorem dX6_copy_24 : decode cX6_copy 24 = .ok (.iconst 0, 1) := by decide +kernel
theorem dX6_copy_25 : decode cX6_copy 25 = .ok (.bipush 24, 2) := by decide +kernel
theorem dX6_copy_27 : decode cX6_copy 27 = .ok (.invokestatic 34, 3) := by decide +kernel
theorem dX6_copy_30 : decode cX6_copy 30 = .ok (.aload_n 1, 1) := by decide +kernel
theorem dX6_copy_31 : decode cX6_copy 31 = .ok (.getfield 18, 3) := by decide +kernel
theorem dX6_copy_34 : decode cX6_copy 34 = .ok (.iconst 0, 1) := by decide +kernel
theorem dX6_copy_35 : decode cX6_copy 35 = .ok (.aload_n 0, 1) := by decide +kernel
theorem dX6_copy_36 : decode cX6_copy 36 = .ok (.getfield 18, 3) := by decide +kernel
theorem dX6_copy_39 : decode cX6_copy 39 = .ok (.iconst 0, 1) := by decide +kernel
theorem dX6_copy_40 : decode cX6_copy 40 = .ok (.bipush 24, 2) := by decide +kernel
theorem dX6_copy_42 : decode cX6_copy 42 = .ok (.invokestatic 34, 3) := by decide +kernel
theorem dX6_copy_45 : decode cX6_copy 45 = .ok (.aload_n 1, 1) := by decide +kernel
theorem dX6_copy_46 : decode cX6_copy 46 = .ok (.getfield 21, 3) := by decide +kernel
theorem dX6_copy_49 : decode cX6_copy 49 = .ok (.iconst 0, 1) := by decide +kernel
theorem dX6_copy_50 : decode cX6_copy 50 = .ok (.aload_n 0, 1) := by decide +kernel
theorem dX6_copy_51 : decode cX6_copy 51 = .ok (.getfield 21, 3) := by decide +kernel
theorem dX6_copy_54 : decode cX6_copy 54 = .ok (.iconst 0, 1) := by decide +kernel
theorem dX6_copy_55 : decode cX6_copy 55 = .ok (.bipush 24, 2) := by decide +kernel
theorem dX6_copy_57 : decode cX6_copy 57 = .ok (.invokestatic 34, 3) := by decide +kernel
theorem dX6_copy_60 : decode cX6_copy 60 = .ok (.aload_n 1, 1) := by decide +kernel
theorem dX6_copy_61 : decode cX6_copy 61 = .ok (.getfield 24, 3) := by decide +kernel
theorem dX6_copy_64 : decode cX6_copy 64 = .ok (.iconst 0, 1) := by decide +kernel
theorem dX6_copy_65 : decode cX6_copy 65 = .ok (.aload_n 0, 1) := by decide +kernel
theorem dX6_copy_66 : decode cX6_copy 66 = .ok (.getfield 24, 3) := by decide +kernel
theorem dX6_copy_69 : decode cX6_copy 69 = .ok (.iconst 0, 1) := by decide +kernel
theorem dX6_copy_70 : decode cX6_copy 70 = .ok (.bipush 24, 2) := by decide +kernel
theorem dX6_copy_72 : decode cX6_copy 72 = .ok (.invokestatic 34, 3) := by decide +kernel
theorem dX6_copy_75 : decode cX6_copy 75 = .ok (.aload_n 1, 1) := by decide +kernel
theorem dX6_copy_76 : decode cX6_copy 76 = .ok (.getfield 27, 3) := by decide +kernel
theorem dX6_copy_79 : decode cX6_copy 79 = .ok (.iconst 0, 1) := by decide +kernel
theorem dX6_copy_80 : decode cX6_copy 80 = .ok (.aload_n 0, 1) := by decide +kernel
theorem dX6_copy_81 : decode cX6_copy 81 = .ok (.getfield 27, 3) := by decide +kernel
theorem dX6_copy_84 : decode cX6_copy 84 = .ok (.iconst 0, 1) := by decide +kernel
theorem dX6_copy_85 : decode cX6_copy 85 = .ok (.bipush 24, 2) := by decide +kernel
theorem dX6_copy_87 : decode cX6_copy 87 = .ok (.invokestatic 34, 3) := by decide +kernel
theorem dX6_copy_90 : decode cX6_copy 90 = .ok (.aload_n 0, 1) := by decide +kernel
theorem dX6_copy_91 : decode cX6_copy 91 = .ok (.aload_n 1, 1) := by decide +kernel
theorem dX6_copy_92 : decode cX6_copy 92 = .ok (.getfield 30, 3) := by decide +kernel
theorem dX6_copy_95 : decode cX6_copy 95 = .ok (.putfield 30, 3) := by decide +kernel
theorem dX6_copy_98 : decode cX6_copy 98 = .ok (.return_, 1) := by decide +kernel
theorem dX6_add_0 : decode cX6_add 0 = .ok (.aload_n 0, 1) := by decide +kernel
theorem dX6_add_1 : decode cX6_add 1 = .ok (.getfield 30, 3) := by decide +kernel
theorem dX6_add_4 : decode cX6_add 4 = .ok (.bipush 24, 2) := by decide +kernel
theorem dX6_add_6 : decode cX6_add 6 = .ok (.if_icmp .ge 75, 3) := by decide +kernel
theorem dX6_add_9 : decode cX6_add 9 = .ok (.aload_n 0, 1) := by decide +kernel
theorem dX6_add_10 : decode cX6_add 10 = .ok (.getfield 9, 3) := by decide +kernel
theorem dX6_add_13 : decode cX6_add 13 = .ok (.aload_n 0, 1) := by decide +kernel
theorem dX6_add_14 : decode cX6_add 14 = .ok (.getfield 30, 3) := by decide +kernel
theorem dX6_add_17 : decode cX6_add 17 = .ok (.iload_n 1, 1) := by decide +kernel
theorem dX6_add_18 : decode cX6_add 18 = .ok (.iastore, 1) := by decide +kernel
theorem dX6_add_19 : decode cX6_add 19 = .ok (.aload_n 0, 1) := by decide +kernel
theorem dX6_add_20 : decode cX6_add 20 = .ok (.getfield 15, 3) := by decide +kernel
theorem dX6_add_23 : decode cX6_add 23 = .ok (.aload_n 0, 1) := by decide +kernel
theorem dX6_add_24 : decode cX6_add 24 = .ok (.getfield 30, 3) := by decide +kernel
theorem dX6_add_27 : decode cX6_add 27 = .ok (.iload_n 2, 1) := by decide +kernel
theorem dX6_add_28 : decode cX6_add 28 = .ok (.iastore, 1) := by decide +kernel
theorem dX6_add_29 : decode cX6_add 29 = .ok (.aload_n 0, 1) := by decide +kernel
theorem dX6_add_30 : decode cX6_add 30 = .ok (.getfield 18, 3) := by decide +kernel
theorem dX6_add_33 : decode cX6_add 33 = .ok (.aload_n 0, 1) := by decide +kernel
theorem dX6_add_34 : decode cX6_add 34 = .ok (.getfield 30, 3) := by decide +kernel
theorem dX6_add_37 : decode cX6_add 37 = .ok (.iload_n 3, 1) := by decide +kernel
theorem dX6_add_38 : decode cX6_add 38 = .ok (.iastore, 1) := by decide +kernel
theorem dX6_add_39 : decode cX6_add 39 = .ok (.aload_n 0, 1) := by decide +kernel
theorem dX6_add_40 : decode cX6_add 40 = .ok (.getfield 21, 3) := by decide +kernel
theorem dX6_add_43 : decode cX6_add 43 = .ok (.aload_n 0, 1) := by decide +kernel
theorem dX6_add_44 : decode cX6_add 44 = .ok (.getfield 30, 3) := by decide +kernel
theorem dX6_add_47 : decode cX6_add 47 = .ok (.iload 4, 2) := by decide +kernel
theorem dX6_add_49 : decode cX6_add 49 = .ok (.iastore, 1) := by decide +kernel
theorem dX6_add_50 : decode cX6_add 50 = .ok (.aload_n 0, 1) := by decide +kernel
theorem dX6_add_51 : decode cX6_add 51 = .ok (.getfield 24, 3) := by decide +kernel
theorem dX6_add_54 : decode cX6_add 54 = .ok (.aload_n 0, 1) := by decide +kernel
theorem dX6_add_55 : decode cX6_add 55 = .ok (.getfield 30, 3) := by decide +kernel
theorem dX6_add_58 : decode cX6_add 58 = .ok (.iload 5, 2) := by decide +kernel
theorem dX6_add_60 : decode cX6_add 60 = .ok (.iastore, 1) := by decide +kernel
theorem dX6_add_61 : decode cX6_add 61 = .ok (.aload_n 0, 1) := by decide +kernel
theorem dX6_add_62 : decode cX6_add 62 = .ok (.getfield 27, 3) := by decide +kernel
theorem dX6_add_65 : decode cX6_add 65 = .ok (.aload_n 0, 1) := by decide +kernel
theorem dX6_add_66 : decode cX6_add 66 = .ok (.getfield 30, 3) := by decide +kernel
theorem dX6_add_69 : decode cX6_add 69 = .ok (.iload_n 3, 1) := by decide +kernel
theorem dX6_add_70 : decode cX6_add 70 = .ok (.iastore, 1) := by decide +kernel
theorem dX6_add_71 : decode cX6_add 71 = .ok (.aload_n 0, 1) := by decide +kernel
theorem dX6_add_72 : decode cX6_add 72 = .ok (.dup, 1) := by decide +kernel
theorem dX6_add_73 : decode cX6_add 73 = .ok (.getfield 30, 3) := by decide +kernel
theorem dX6_add_76 : decode cX6_add 76 = .ok (.iconst 1, 1) := by decide +kernel
theorem dX6_add_77 : decode cX6_add 77 = .ok (.iadd, 1) := by decide +kernel
theorem dX6_add_78 : decode cX6_add 78 = .ok (.putfield 30, 3) := by decide +kernel
theorem dX6_add_81 : decode cX6_add 81 = .ok (.return_, 1) := by decide +kernel
theorem dX6_partOf_0 : decode cX6_partOf 0 = .ok (.aload_n 0, 1) := by decide +kernel
theorem dX6_partOf_1 : decode cX6_partOf 1 = .ok (.iload_n 1, 1) := by decide +kernel
theorem dX6_partOf_2 : decode cX6_partOf 2 = .ok (.invokevirtual 40, 3) := by decide +kernel
theorem dX6_partOf_5 : decode cX6_partOf 5 = .ok (.ifCond .ne 5, 3) := by decide +kernel
theorem dX6_partOf_8 : decode cX6_partOf 8 = .ok (.iconst (-1), 1) := by decide +kernel
theorem dX6_partOf_9 : decode cX6_partOf 9 = .ok (.ireturn, 1) := by decide +kernel
theorem dX6_partOf_10 : decode cX6_partOf 10 = .ok (.iload_n 2, 1) := by decide +kernel
theorem dX6_partOf_11 : decode cX6_partOf 11 = .ok (.tableswitch 79 0 5 #[37, 44, 51, 58, 65, 72], 37) := by decide +kernel
theorem dX6_partOf_48 : decode cX6_partOf 48 = .ok (.aload_n 0, 1) := by decide +kernel
theorem dX6_partOf_49 : decode cX6_partOf 49 = .ok (.getfield 9, 3) := by decide +kernel
theorem dX6_partOf_52 : decode cX6_partOf 52 = .ok (.iload_n 1, 1) := by decide +kernel
theorem dX6_partOf_53 : decode cX6_partOf 53 = .ok (.iaload, 1) := by decide +kernel
theorem dX6_partOf_54 : decode cX6_partOf 54 = .ok (.ireturn, 1) := by decide +kernel
theorem dX6_partOf_55 : decode cX6_partOf 55 = .ok (.aload_n 0, 1) := by decide +kernel
theorem dX6_partOf_56 : decode cX6_partOf 56 = .ok (.getfield 15, 3) := by decide +kernel
theorem dX6_partOf_59 : decode cX6_partOf 59 = .ok (.iload_n 1, 1) := by decide +kernel
theorem dX6_partOf_60 : decode cX6_partOf 60 = .ok (.iaload, 1) := by decide +kernel
theorem dX6_partOf_61 : decode cX6_partOf 61 = .ok (.ireturn, 1) := by decide +kernel
theorem dX6_partOf_62 : decode cX6_partOf 62 = .ok (.aload_n 0, 1) := by decide +kernel
theorem dX6_partOf_63 : decode cX6_partOf 63 = .ok (.getfield 18, 3) := by decide +kernel
theorem dX6_partOf_66 : decode cX6_partOf 66 = .ok (.iload_n 1, 1) := by decide +kernel
theorem dX6_partOf_67 : decode cX6_partOf 67 = .ok (.iaload, 1) := by decide +kernel
theorem dX6_partOf_68 : decode cX6_partOf 68 = .ok (.ireturn, 1) := by decide +kernel
theorem dX6_partOf_69 : decode cX6_partOf 69 = .ok (.aload_n 0, 1) := by decide +kernel
theorem dX6_partOf_70 : decode cX6_partOf 70 = .ok (.getfield 21, 3) := by decide +kernel
theorem dX6_partOf_73 : decode cX6_partOf 73 = .ok (.iload_n 1, 1) := by decide +kernel
theorem dX6_partOf_74 : decode cX6_partOf 74 = .ok (.iaload, 1) := by decide +kernel
theorem dX6_partOf_75 : decode cX6_partOf 75 = .ok (.ireturn, 1) := by decide +kernel
theorem dX6_partOf_76 : decode cX6_partOf 76 = .ok (.aload_n 0, 1) := by decide +kernel
theorem dX6_partOf_77 : decode cX6_partOf 77 = .ok (.getfield 24, 3) := by decide +kernel
theorem dX6_partOf_80 : decode cX6_partOf 80 = .ok (.iload_n 1, 1) := by decide +kernel
theorem dX6_partOf_81 : decode cX6_partOf 81 = .ok (.iaload, 1) := by decide +kernel
theorem dX6_partOf_82 : decode cX6_partOf 82 = .ok (.ireturn, 1) := by decide +kernel
theorem dX6_partOf_83 : decode cX6_partOf 83 = .ok (.aload_n 0, 1) := by decide +kernel
theorem dX6_partOf_84 : decode cX6_partOf 84 = .ok (.getfield 27, 3) := by decide +kernel
theorem dX6_partOf_87 : decode cX6_partOf 87 = .ok (.iload_n 1, 1) := by decide +kernel
theorem dX6_partOf_88 : decode cX6_partOf 88 = .ok (.iaload, 1) := by decide +kernel
theorem dX6_partOf_89 : decode cX6_partOf 89 = .ok (.ireturn, 1) := by decide +kernel
theorem dX6_partOf_90 : decode cX6_partOf 90 = .ok (.iconst (-1), 1) := by decide +kernel
theorem dX6_partOf_91 : decode cX6_partOf 91 = .ok (.ireturn, 1) := by decide +kernel
theorem dX6_dueOf_0 : decode cX6_dueOf 0 = .ok (.aload_n 0, 1) := by decide +kernel
theorem dX6_dueOf_1 : decode cX6_dueOf 1 = .ok (.iload_n 1, 1) := by decide +kernel
theorem dX6_dueOf_2 : decode cX6_dueOf 2 = .ok (.invokevirtual 40, 3) := by decide +kernel
theorem dX6_dueOf_5 : decode cX6_dueOf 5 = .ok (.ifCond .eq 12, 3) := by decide +kernel
theorem dX6_dueOf_8 : decode cX6_dueOf 8 = .ok (.aload_n 0, 1) := by decide +kernel
theorem dX6_dueOf_9 : decode cX6_dueOf 9 = .ok (.getfield 27, 3) := by decide +kernel
theorem dX6_dueOf_12 : decode cX6_dueOf 12 = .ok (.iload_n 1, 1) := by decide +kernel
theorem dX6_dueOf_13 : decode cX6_dueOf 13 = .ok (.iaload, 1) := by decide +kernel
theorem dX6_dueOf_14 : decode cX6_dueOf 14 = .ok (.goto 4, 3) := by decide +kernel
theorem dX6_dueOf_17 : decode cX6_dueOf 17 = .ok (.iconst 0, 1) := by decide +kernel
theorem dX6_dueOf_18 : decode cX6_dueOf 18 = .ok (.ireturn, 1) := by decide +kernel
theorem dX6_grown_0 : decode cX6_grown 0 = .ok (.aload_n 0, 1) := by decide +kernel
theorem dX6_grown_1 : decode cX6_grown 1 = .ok (.iload_n 1, 1) := by decide +kernel
theorem dX6_grown_2 : decode cX6_grown 2 = .ok (.invokevirtual 40, 3) := by decide +kernel
theorem dX6_grown_5 : decode cX6_grown 5 = .ok (.ifCond .eq 12, 3) := by decide +kernel
theorem dX6_grown_8 : decode cX6_grown 8 = .ok (.aload_n 0, 1) := by decide +kernel
theorem dX6_grown_9 : decode cX6_grown 9 = .ok (.getfield 21, 3) := by decide +kernel
theorem dX6_grown_12 : decode cX6_grown 12 = .ok (.iload_n 1, 1) := by decide +kernel
theorem dX6_grown_13 : decode cX6_grown 13 = .ok (.iaload, 1) := by decide +kernel
theorem dX6_grown_14 : decode cX6_grown 14 = .ok (.goto 4, 3) := by decide +kernel
theorem dX6_grown_17 : decode cX6_grown 17 = .ok (.iconst 0, 1) := by decide +kernel
theorem dX6_grown_18 : decode cX6_grown 18 = .ok (.istore_n 3, 1) := by decide +kernel
theorem dX6_grown_19 : decode cX6_grown 19 = .ok (.ldc 44, 2) := by decide +kernel
theorem dX6_grown_21 : decode cX6_grown 21 = .ok (.iload_n 2, 1) := by decide +kernel
theorem dX6_grown_22 : decode cX6_grown 22 = .ok (.iload_n 2, 1) := by decide +kernel
theorem dX6_grown_23 : decode cX6_grown 23 = .ok (.iload_n 3, 1) := by decide +kernel
theorem dX6_grown_24 : decode cX6_grown 24 = .ok (.imul, 1) := by decide +kernel
theorem dX6_grown_25 : decode cX6_grown 25 = .ok (.bipush 99, 2) := by decide +kernel
theorem dX6_grown_27 : decode cX6_grown 27 = .ok (.iadd, 1) := by decide +kernel
theorem dX6_grown_28 : decode cX6_grown 28 = .ok (.bipush 100, 2) := by decide +kernel
theorem dX6_grown_30 : decode cX6_grown 30 = .ok (.idiv, 1) := by decide +kernel
theorem dX6_grown_31 : decode cX6_grown 31 = .ok (.iadd, 1) := by decide +kernel
theorem dX6_grown_32 : decode cX6_grown 32 = .ok (.invokestatic 45, 3) := by decide +kernel
theorem dX6_grown_35 : decode cX6_grown 35 = .ok (.ireturn, 1) := by decide +kernel
theorem dX6_dueNextDay_0 : decode cX6_dueNextDay 0 = .ok (.aload_n 0, 1) := by decide +kernel
theorem dX6_dueNextDay_1 : decode cX6_dueNextDay 1 = .ok (.iload_n 1, 1) := by decide +kernel
theorem dX6_dueNextDay_2 : decode cX6_dueNextDay 2 = .ok (.iload_n 2, 1) := by decide +kernel
theorem dX6_dueNextDay_3 : decode cX6_dueNextDay 3 = .ok (.invokevirtual 51, 3) := by decide +kernel
theorem dX6_dueNextDay_6 : decode cX6_dueNextDay 6 = .ok (.istore_n 3, 1) := by decide +kernel
theorem dX6_dueNextDay_7 : decode cX6_dueNextDay 7 = .ok (.aload_n 0, 1) := by decide +kernel
theorem dX6_dueNextDay_8 : decode cX6_dueNextDay 8 = .ok (.iload_n 1, 1) := by decide +kernel
theorem dX6_dueNextDay_9 : decode cX6_dueNextDay 9 = .ok (.invokevirtual 40, 3) := by decide +kernel
theorem dX6_dueNextDay_12 : decode cX6_dueNextDay 12 = .ok (.ifCond .eq 18, 3) := by decide +kernel
theorem dX6_dueNextDay_15 : decode cX6_dueNextDay 15 = .ok (.iload_n 3, 1) := by decide +kernel
theorem dX6_dueNextDay_16 : decode cX6_dueNextDay 16 = .ok (.aload_n 0, 1) := by decide +kernel
theorem dX6_dueNextDay_17 : decode cX6_dueNextDay 17 = .ok (.getfield 24, 3) := by decide +kernel
theorem dX6_dueNextDay_20 : decode cX6_dueNextDay 20 = .ok (.iload_n 1, 1) := by decide +kernel
theorem dX6_dueNextDay_21 : decode cX6_dueNextDay 21 = .ok (.iaload, 1) := by decide +kernel
theorem dX6_dueNextDay_22 : decode cX6_dueNextDay 22 = .ok (.iload_n 3, 1) := by decide +kernel
theorem dX6_dueNextDay_23 : decode cX6_dueNextDay 23 = .ok (.invokestatic 45, 3) := by decide +kernel
theorem dX6_dueNextDay_26 : decode cX6_dueNextDay 26 = .ok (.isub, 1) := by decide +kernel
theorem dX6_dueNextDay_27 : decode cX6_dueNextDay 27 = .ok (.goto 4, 3) := by decide +kernel
theorem dX6_dueNextDay_30 : decode cX6_dueNextDay 30 = .ok (.iload_n 2, 1) := by decide +kernel
theorem dX6_dueNextDay_31 : decode cX6_dueNextDay 31 = .ok (.ireturn, 1) := by decide +kernel
theorem dX6_netOf_0 : decode cX6_netOf 0 = .ok (.iconst 0, 1) := by decide +kernel
theorem dX6_netOf_1 : decode cX6_netOf 1 = .ok (.istore_n 2, 1) := by decide +kernel
theorem dX6_netOf_2 : decode cX6_netOf 2 = .ok (.iconst 0, 1) := by decide +kernel
theorem dX6_netOf_3 : decode cX6_netOf 3 = .ok (.istore_n 3, 1) := by decide +kernel
theorem dX6_netOf_4 : decode cX6_netOf 4 = .ok (.iload_n 3, 1) := by decide +kernel
theorem dX6_netOf_5 : decode cX6_netOf 5 = .ok (.aload_n 0, 1) := by decide +kernel
theorem dX6_netOf_6 : decode cX6_netOf 6 = .ok (.getfield 30, 3) := by decide +kernel
theorem dX6_netOf_9 : decode cX6_netOf 9 = .ok (.if_icmp .ge 53, 3) := by decide +kernel
theorem dX6_netOf_12 : decode cX6_netOf 12 = .ok (.iload_n 3, 1) := by decide +kernel
theorem dX6_netOf_13 : decode cX6_netOf 13 = .ok (.bipush 24, 2) := by decide +kernel
theorem dX6_netOf_15 : decode cX6_netOf 15 = .ok (.if_icmp .ge 47, 3) := by decide +kernel
theorem dX6_netOf_18 : decode cX6_netOf 18 = .ok (.aload_n 0, 1) := by decide +kernel
theorem dX6_netOf_19 : decode cX6_netOf 19 = .ok (.getfield 9, 3) := by decide +kernel
theorem dX6_netOf_22 : decode cX6_netOf 22 = .ok (.iload_n 3, 1) := by decide +kernel
theorem dX6_netOf_23 : decode cX6_netOf 23 = .ok (.iaload, 1) := by decide +kernel
theorem dX6_netOf_24 : decode cX6_netOf 24 = .ok (.iload_n 1, 1) := by decide +kernel
theorem dX6_netOf_25 : decode cX6_netOf 25 = .ok (.if_icmp .ne 12, 3) := by decide +kernel
theorem dX6_netOf_28 : decode cX6_netOf 28 = .ok (.iload_n 2, 1) := by decide +kernel
theorem dX6_netOf_29 : decode cX6_netOf 29 = .ok (.aload_n 0, 1) := by decide +kernel
theorem dX6_netOf_30 : decode cX6_netOf 30 = .ok (.getfield 27, 3) := by decide +kernel
theorem dX6_netOf_33 : decode cX6_netOf 33 = .ok (.iload_n 3, 1) := by decide +kernel
theorem dX6_netOf_34 : decode cX6_netOf 34 = .ok (.iaload, 1) := by decide +kernel
theorem dX6_netOf_35 : decode cX6_netOf 35 = .ok (.iadd, 1) := by decide +kernel
theorem dX6_netOf_36 : decode cX6_netOf 36 = .ok (.istore_n 2, 1) := by decide +kernel
theorem dX6_netOf_37 : decode cX6_netOf 37 = .ok (.aload_n 0, 1) := by decide +kernel
theorem dX6_netOf_38 : decode cX6_netOf 38 = .ok (.getfield 15, 3) := by decide +kernel
theorem dX6_netOf_41 : decode cX6_netOf 41 = .ok (.iload_n 3, 1) := by decide +kernel
theorem dX6_netOf_42 : decode cX6_netOf 42 = .ok (.iaload, 1) := by decide +kernel
theorem dX6_netOf_43 : decode cX6_netOf 43 = .ok (.iload_n 1, 1) := by decide +kernel
theorem dX6_netOf_44 : decode cX6_netOf 44 = .ok (.if_icmp .ne 12, 3) := by decide +kernel
theorem dX6_netOf_47 : decode cX6_netOf 47 = .ok (.iload_n 2, 1) := by decide +kernel
theorem dX6_netOf_48 : decode cX6_netOf 48 = .ok (.aload_n 0, 1) := by decide +kernel
theorem dX6_netOf_49 : decode cX6_netOf 49 = .ok (.getfield 27, 3) := by decide +kernel
theorem dX6_netOf_52 : decode cX6_netOf 52 = .ok (.iload_n 3, 1) := by decide +kernel
theorem dX6_netOf_53 : decode cX6_netOf 53 = .ok (.iaload, 1) := by decide +kernel
theorem dX6_netOf_54 : decode cX6_netOf 54 = .ok (.isub, 1) := by decide +kernel
theorem dX6_netOf_55 : decode cX6_netOf 55 = .ok (.istore_n 2, 1) := by decide +kernel
theorem dX6_netOf_56 : decode cX6_netOf 56 = .ok (.iinc 3 1, 3) := by decide +kernel
theorem dX6_netOf_59 : decode cX6_netOf 59 = .ok (.goto (-55), 3) := by decide +kernel
theorem dX6_netOf_62 : decode cX6_netOf 62 = .ok (.iload_n 2, 1) := by decide +kernel
theorem dX6_netOf_63 : decode cX6_netOf 63 = .ok (.ireturn, 1) := by decide +kernel
theorem dX6_owedBy_0 : decode cX6_owedBy 0 = .ok (.iconst 0, 1) := by decide +kernel
theorem dX6_owedBy_1 : decode cX6_owedBy 1 = .ok (.istore_n 2, 1) := by decide +kernel
theorem dX6_owedBy_2 : decode cX6_owedBy 2 = .ok (.iconst 0, 1) := by decide +kernel
theorem dX6_owedBy_3 : decode cX6_owedBy 3 = .ok (.istore_n 3, 1) := by decide +kernel
theorem dX6_owedBy_4 : decode cX6_owedBy 4 = .ok (.iload_n 3, 1) := by decide +kernel
theorem dX6_owedBy_5 : decode cX6_owedBy 5 = .ok (.aload_n 0, 1) := by decide +kernel
theorem dX6_owedBy_6 : decode cX6_owedBy 6 = .ok (.getfield 30, 3) := by decide +kernel
theorem dX6_owedBy_9 : decode cX6_owedBy 9 = .ok (.if_icmp .ge 37, 3) := by decide +kernel
theorem dX6_owedBy_12 : decode cX6_owedBy 12 = .ok (.iload_n 3, 1) := by decide +kernel
theorem dX6_owedBy_13 : decode cX6_owedBy 13 = .ok (.bipush 24, 2) := by decide +kernel
theorem dX6_owedBy_15 : decode cX6_owedBy 15 = .ok (.if_icmp .ge 31, 3) := by decide +kernel
theorem dX6_owedBy_18 : decode cX6_owedBy 18 = .ok (.aload_n 0, 1) := by decide +kernel
theorem dX6_owedBy_19 : decode cX6_owedBy 19 = .ok (.getfield 15, 3) := by decide +kernel
theorem dX6_owedBy_22 : decode cX6_owedBy 22 = .ok (.iload_n 3, 1) := by decide +kernel
theorem dX6_owedBy_23 : decode cX6_owedBy 23 = .ok (.iaload, 1) := by decide +kernel
theorem dX6_owedBy_24 : decode cX6_owedBy 24 = .ok (.iload_n 1, 1) := by decide +kernel
theorem dX6_owedBy_25 : decode cX6_owedBy 25 = .ok (.if_icmp .ne 15, 3) := by decide +kernel
theorem dX6_owedBy_28 : decode cX6_owedBy 28 = .ok (.aload_n 0, 1) := by decide +kernel
theorem dX6_owedBy_29 : decode cX6_owedBy 29 = .ok (.getfield 27, 3) := by decide +kernel
theorem dX6_owedBy_32 : decode cX6_owedBy 32 = .ok (.iload_n 3, 1) := by decide +kernel
theorem dX6_owedBy_33 : decode cX6_owedBy 33 = .ok (.iaload, 1) := by decide +kernel
theorem dX6_owedBy_34 : decode cX6_owedBy 34 = .ok (.ifCond .le 6, 3) := by decide +kernel
theorem dX6_owedBy_37 : decode cX6_owedBy 37 = .ok (.iinc 2 1, 3) := by decide +kernel
theorem dX6_owedBy_40 : decode cX6_owedBy 40 = .ok (.iinc 3 1, 3) := by decide +kernel
theorem dX6_owedBy_43 : decode cX6_owedBy 43 = .ok (.goto (-39), 3) := by decide +kernel
theorem dX6_owedBy_46 : decode cX6_owedBy 46 = .ok (.iload_n 2, 1) := by decide +kernel
theorem dX6_owedBy_47 : decode cX6_owedBy 47 = .ok (.ireturn, 1) := by decide +kernel
def mX6_has (F : Nat) (c : Nat) (x1 : Int32) (σ : jS) : Option Int32 := (if x1 < 0 then some (0 : Int32) else (if x1 < (σ c 6) then (if x1 < (24 : Int32) then some (1 : Int32) else some (0 : Int32)) else some (0 : Int32)))
set_option maxHeartbeats 4000000 in
set_option maxRecDepth 100000 in
theorem kX6_has {V : jV} {F : Nat} {c : Nat} (hc : kX c = 6) {x1 : Int32} {σ : jS} {v : Int32} (hm : mX6_has F c x1 σ = some v) : Ct cfX 70 V yX6_has cX6_has 2 (some .boolean) 0 [.ref (vad V c), .int x1] σ (v, σ) := by
  refine j_start (own := RX6) (by decide) rfl (Nat.le_of_ble_eq_true rfl) ?_
  intro G hV C
  subst hV
  unfold mX6_has at hm
  show JX G 0 [(0, .ref (vad (gV G) c)), (1, .int x1)] [] σ (v, σ)
  refine j_iloadn (pc := 0) C 1 dX6_has_0 rfl rfl ?_
  refine j_if_lt (tgt := 22) (pc := 1) C dX6_has_1 (by decide) hm (fun _ hm => ?_) (fun _ hm => ?_)
  · refine j_iconst (v := 0) (pc := 22) C dX6_has_22 (by decide) ?_
    exact j_zret (pc := 23) C rfl rfl dX6_has_23 hm
  · refine j_iloadn (pc := 4) C 1 dX6_has_4 rfl rfl ?_
    refine j_aloadn (pc := 5) C 0 dX6_has_5 rfl rfl ?_
    refine gf_X6_30 (c := c) (pc := 6) C hc dX6_has_6 ?_
    refine j_icmp_ge (tgt := 22) (pc := 9) C dX6_has_9 (by decide) hm (fun _ hm => ?_) (fun _ hm => ?_)
    · refine j_iloadn (pc := 12) C 1 dX6_has_12 rfl rfl ?_
      refine j_bipush (v := 24) (pc := 13) C dX6_has_13 (by decide) ?_
      refine j_icmp_ge (tgt := 22) (pc := 15) C dX6_has_15 (by decide) hm (fun _ hm => ?_) (fun _ hm => ?_)
      · refine j_iconst (v := 1) (pc := 18) C dX6_has_18 (by decide) ?_
        refine j_goto (tgt := 23) (pc := 19) C dX6_has_19 (by decide) ?_
        exact j_zret (pc := 23) C rfl rfl dX6_has_23 hm
      · refine j_iconst (v := 0) (pc := 22) C dX6_has_22 (by decide) ?_
        exact j_zret (pc := 23) C rfl rfl dX6_has_23 hm
    · refine j_iconst (v := 0) (pc := 22) C dX6_has_22 (by decide) ?_
      exact j_zret (pc := 23) C rfl rfl dX6_has_23 hm

def mX6_copy (F : Nat) (c : Nat) (e1 : Nat) (σ : jS) : Option jS := (lt (jcp σ (e1 + 1) (c + 1) 24) fun σ1 => (lt (jcp σ1 (e1 + 2) (c + 2) 24) fun σ2 => (lt (jcp σ2 (e1 + 3) (c + 3) 24) fun σ3 => (lt (jcp σ3 (e1 + 4) (c + 4) 24) fun σ4 => (lt (jcp σ4 (e1 + 5) (c + 5) 24) fun σ5 => (lt (jcp σ5 (e1 + 6) (c + 6) 24) fun σ6 => (lt (js σ6 c 6 (σ6 e1 6)) fun σ7 => some σ7)))))))
set_option maxHeartbeats 4000000 in
set_option maxRecDepth 100000 in
theorem kX6_copy {V : jV} {F : Nat} {c : Nat} {e1 : Nat} (hc : kX c = 6) (he1 : kX e1 = 6) {σ : jS} {v : jS} (hm : mX6_copy F c e1 σ = some v) : Ct cfX 70 V yX6_copy cX6_copy 2 none 1 [.ref (vad V c), .ref (vad V e1)] σ (0, v) := by
  refine j_start (own := RX6) (by decide) rfl (Nat.le_of_ble_eq_true rfl) ?_
  intro G hV C
  subst hV
  unfold mX6_copy at hm
  show JX G 0 [(0, .ref (vad (gV G) c)), (1, .ref (vad (gV G) e1))] [] σ (0, v)
  refine j_aloadn (pc := 0) C 1 dX6_copy_0 rfl rfl ?_
  refine gf_X6_9 (c := e1) (pc := 1) C he1 dX6_copy_1 ?_
  refine j_iconst (v := 0) (pc := 4) C dX6_copy_4 (by decide) ?_
  refine j_aloadn (pc := 5) C 0 dX6_copy_5 rfl rfl ?_
  refine gf_X6_9 (c := c) (pc := 6) C hc dX6_copy_6 ?_
  refine j_iconst (v := 0) (pc := 9) C dX6_copy_9 (by decide) ?_
  refine j_bipush (v := 24) (pc := 10) C dX6_copy_10 (by decide) ?_
  refine j_acopy (c0 := (e1 + 1)) (c1 := (c + 1)) (n0 := 24) (n1 := 24) (k := 24) (pc := 12) C tw_3_172 tw_3_174 tw_3_173 tw_1_20 (kX_lt (of_6_1 he1) (by decide)) (kX_lt (of_6_1 hc) (by decide)) (cx_a (of_6_1 he1) (ol_6_1 he1)) (cx_a (of_6_1 hc) (ol_6_1 hc)) (by decide) (by decide) (by decide) (by decide) (by decide) (Nat.le_of_ble_eq_true rfl) dX6_copy_12 hm (fun σ1 hm => ?_)
  refine j_aloadn (pc := 15) C 1 dX6_copy_15 rfl rfl ?_
  refine gf_X6_15 (c := e1) (pc := 16) C he1 dX6_copy_16 ?_
  refine j_iconst (v := 0) (pc := 19) C dX6_copy_19 (by decide) ?_
  refine j_aloadn (pc := 20) C 0 dX6_copy_20 rfl rfl ?_
  refine gf_X6_15 (c := c) (pc := 21) C hc dX6_copy_21 ?_
  refine j_iconst (v := 0) (pc := 24) C dX6_copy_24 (by decide) ?_
  refine j_bipush (v := 24) (pc := 25) C dX6_copy_25 (by decide) ?_
  refine j_acopy (c0 := (e1 + 2)) (c1 := (c + 2)) (n0 := 24) (n1 := 24) (k := 24) (pc := 27) C tw_3_172 tw_3_174 tw_3_173 tw_1_20 (kX_lt (of_6_2 he1) (by decide)) (kX_lt (of_6_2 hc) (by decide)) (cx_a (of_6_2 he1) (ol_6_2 he1)) (cx_a (of_6_2 hc) (ol_6_2 hc)) (by decide) (by decide) (by decide) (by decide) (by decide) (Nat.le_of_ble_eq_true rfl) dX6_copy_27 hm (fun σ2 hm => ?_)
  refine j_aloadn (pc := 30) C 1 dX6_copy_30 rfl rfl ?_
  refine gf_X6_18 (c := e1) (pc := 31) C he1 dX6_copy_31 ?_
  refine j_iconst (v := 0) (pc := 34) C dX6_copy_34 (by decide) ?_
  refine j_aloadn (pc := 35) C 0 dX6_copy_35 rfl rfl ?_
  refine gf_X6_18 (c := c) (pc := 36) C hc dX6_copy_36 ?_
  refine j_iconst (v := 0) (pc := 39) C dX6_copy_39 (by decide) ?_
  refine j_bipush (v := 24) (pc := 40) C dX6_copy_40 (by decide) ?_
  refine j_acopy (c0 := (e1 + 3)) (c1 := (c + 3)) (n0 := 24) (n1 := 24) (k := 24) (pc := 42) C tw_3_172 tw_3_174 tw_3_173 tw_1_20 (kX_lt (of_6_3 he1) (by decide)) (kX_lt (of_6_3 hc) (by decide)) (cx_a (of_6_3 he1) (ol_6_3 he1)) (cx_a (of_6_3 hc) (ol_6_3 hc)) (by decide) (by decide) (by decide) (by decide) (by decide) (Nat.le_of_ble_eq_true rfl) dX6_copy_42 hm (fun σ3 hm => ?_)
  refine j_aloadn (pc := 45) C 1 dX6_copy_45 rfl rfl ?_
  refine gf_X6_21 (c := e1) (pc := 46) C he1 dX6_copy_46 ?_
  refine j_iconst (v := 0) (pc := 49) C dX6_copy_49 (by decide) ?_
  refine j_aloadn (pc := 50) C 0 dX6_copy_50 rfl rfl ?_
  refine gf_X6_21 (c := c) (pc := 51) C hc dX6_copy_51 ?_
  refine j_iconst (v := 0) (pc := 54) C dX6_copy_54 (by decide) ?_
  refine j_bipush (v := 24) (pc := 55) C dX6_copy_55 (by decide) ?_
  refine j_acopy (c0 := (e1 + 4)) (c1 := (c + 4)) (n0 := 24) (n1 := 24) (k := 24) (pc := 57) C tw_3_172 tw_3_174 tw_3_173 tw_1_20 (kX_lt (of_6_4 he1) (by decide)) (kX_lt (of_6_4 hc) (by decide)) (cx_a (of_6_4 he1) (ol_6_4 he1)) (cx_a (of_6_4 hc) (ol_6_4 hc)) (by decide) (by decide) (by decide) (by decide) (by decide) (Nat.le_of_ble_eq_true rfl) dX6_copy_57 hm (fun σ4 hm => ?_)
  refine j_aloadn (pc := 60) C 1 dX6_copy_60 rfl rfl ?_
  refine gf_X6_24 (c := e1) (pc := 61) C he1 dX6_copy_61 ?_
  refine j_iconst (v := 0) (pc := 64) C dX6_copy_64 (by decide) ?_
  refine j_aloadn (pc := 65) C 0 dX6_copy_65 rfl rfl ?_
  refine gf_X6_24 (c := c) (pc := 66) C hc dX6_copy_66 ?_
  refine j_iconst (v := 0) (pc := 69) C dX6_copy_69 (by decide) ?_
  refine j_bipush (v := 24) (pc := 70) C dX6_copy_70 (by decide) ?_
  refine j_acopy (c0 := (e1 + 5)) (c1 := (c + 5)) (n0 := 24) (n1 := 24) (k := 24) (pc := 72) C tw_3_172 tw_3_174 tw_3_173 tw_1_20 (kX_lt (of_6_5 he1) (by decide)) (kX_lt (of_6_5 hc) (by decide)) (cx_a (of_6_5 he1) (ol_6_5 he1)) (cx_a (of_6_5 hc) (ol_6_5 hc)) (by decide) (by decide) (by decide) (by decide) (by decide) (Nat.le_of_ble_eq_true rfl) dX6_copy_72 hm (fun σ5 hm => ?_)
  refine j_aloadn (pc := 75) C 1 dX6_copy_75 rfl rfl ?_
  refine gf_X6_27 (c := e1) (pc := 76) C he1 dX6_copy_76 ?_
  refine j_iconst (v := 0) (pc := 79) C dX6_copy_79 (by decide) ?_
  refine j_aloadn (pc := 80) C 0 dX6_copy_80 rfl rfl ?_
  refine gf_X6_27 (c := c) (pc := 81) C hc dX6_copy_81 ?_
  refine j_iconst (v := 0) (pc := 84) C dX6_copy_84 (by decide) ?_
  refine j_bipush (v := 24) (pc := 85) C dX6_copy_85 (by decide) ?_
  refine j_acopy (c0 := (e1 + 6)) (c1 := (c + 6)) (n0 := 24) (n1 := 24) (k := 24) (pc := 87) C tw_3_172 tw_3_174 tw_3_173 tw_1_20 (kX_lt (of_6_6 he1) (by decide)) (kX_lt (of_6_6 hc) (by decide)) (cx_a (of_6_6 he1) (ol_6_6 he1)) (cx_a (of_6_6 hc) (ol_6_6 hc)) (by decide) (by decide) (by decide) (by decide) (by decide) (Nat.le_of_ble_eq_true rfl) dX6_copy_87 hm (fun σ6 hm => ?_)
  refine j_aloadn (pc := 90) C 0 dX6_copy_90 rfl rfl ?_
  refine j_aloadn (pc := 91) C 1 dX6_copy_91 rfl rfl ?_
  refine gf_X6_30 (c := e1) (pc := 92) C he1 dX6_copy_92 ?_
  refine pf_X6_30 (c := c) (pc := 95) C hc dX6_copy_95 hm (fun σ7 hm => ?_)
  exact j_vret (pc := 98) C rfl dX6_copy_98 hm

def mX6_add (F : Nat) (c : Nat) (x1 : Int32) (x2 : Int32) (x3 : Int32) (x4 : Int32) (x5 : Int32) (σ : jS) : Option jS := (if (σ c 6) < (24 : Int32) then (if jin (σ c 6) 24 = true then (lt (js σ (c + 1) (σ c 6).toNatClampNeg x1) fun σ1 => (if jin (σ1 c 6) 24 = true then (lt (js σ1 (c + 2) (σ1 c 6).toNatClampNeg x2) fun σ3 => (if jin (σ3 c 6) 24 = true then (lt (js σ3 (c + 3) (σ3 c 6).toNatClampNeg x3) fun σ5 => (if jin (σ5 c 6) 24 = true then (lt (js σ5 (c + 4) (σ5 c 6).toNatClampNeg x4) fun σ7 => (if jin (σ7 c 6) 24 = true then (lt (js σ7 (c + 5) (σ7 c 6).toNatClampNeg x5) fun σ9 => (if jin (σ9 c 6) 24 = true then (lt (js σ9 (c + 6) (σ9 c 6).toNatClampNeg x3) fun σ11 => (lt (js σ11 c 6 ((σ11 c 6) + (1 : Int32))) fun σ13 => some σ13)) else none)) else none)) else none)) else none)) else none)) else none) else some σ)
set_option maxHeartbeats 4000000 in
set_option maxRecDepth 100000 in
theorem kX6_add {V : jV} {F : Nat} {c : Nat} (hc : kX c = 6) {x1 : Int32} {x2 : Int32} {x3 : Int32} {x4 : Int32} {x5 : Int32} {σ : jS} {v : jS} (hm : mX6_add F c x1 x2 x3 x4 x5 σ = some v) : Ct cfX 70 V yX6_add cX6_add 6 none 0 [.ref (vad V c), .int x1, .int x2, .int x3, .int x4, .int x5] σ (0, v) := by
  refine j_start (own := RX6) (by decide) rfl (Nat.le_of_ble_eq_true rfl) ?_
  intro G hV C
  subst hV
  unfold mX6_add at hm
  show JX G 0 [(0, .ref (vad (gV G) c)), (1, .int x1), (2, .int x2), (3, .int x3), (4, .int x4), (5, .int x5)] [] σ (0, v)
  refine j_aloadn (pc := 0) C 0 dX6_add_0 rfl rfl ?_
  refine gf_X6_30 (c := c) (pc := 1) C hc dX6_add_1 ?_
  refine j_bipush (v := 24) (pc := 4) C dX6_add_4 (by decide) ?_
  refine j_icmp_ge (tgt := 81) (pc := 6) C dX6_add_6 (by decide) hm (fun _ hm => ?_) (fun _ hm => ?_)
  · refine j_aloadn (pc := 9) C 0 dX6_add_9 rfl rfl ?_
    refine gf_X6_9 (c := c) (pc := 10) C hc dX6_add_10 ?_
    refine j_aloadn (pc := 13) C 0 dX6_add_13 rfl rfl ?_
    refine gf_X6_30 (c := c) (pc := 14) C hc dX6_add_14 ?_
    refine j_iloadn (pc := 17) C 1 dX6_add_17 rfl rfl ?_
    refine j_guard hm (fun hg2 hm => ?_)
    refine j_iastL (c := (c + 1)) (n := 24) (pc := 18) C (kX_lt (of_6_1 hc) (by decide)) (cx_a (of_6_1 hc) (ol_6_1 hc)) hg2 dX6_add_18 hm (fun σ1 hm => ?_)
    refine j_aloadn (pc := 19) C 0 dX6_add_19 rfl rfl ?_
    refine gf_X6_15 (c := c) (pc := 20) C hc dX6_add_20 ?_
    refine j_aloadn (pc := 23) C 0 dX6_add_23 rfl rfl ?_
    refine gf_X6_30 (c := c) (pc := 24) C hc dX6_add_24 ?_
    refine j_iloadn (pc := 27) C 2 dX6_add_27 rfl rfl ?_
    refine j_guard hm (fun hg4 hm => ?_)
    refine j_iastL (c := (c + 2)) (n := 24) (pc := 28) C (kX_lt (of_6_2 hc) (by decide)) (cx_a (of_6_2 hc) (ol_6_2 hc)) hg4 dX6_add_28 hm (fun σ3 hm => ?_)
    refine j_aloadn (pc := 29) C 0 dX6_add_29 rfl rfl ?_
    refine gf_X6_18 (c := c) (pc := 30) C hc dX6_add_30 ?_
    refine j_aloadn (pc := 33) C 0 dX6_add_33 rfl rfl ?_
    refine gf_X6_30 (c := c) (pc := 34) C hc dX6_add_34 ?_
    refine j_iloadn (pc := 37) C 3 dX6_add_37 rfl rfl ?_
    refine j_guard hm (fun hg6 hm => ?_)
    refine j_iastL (c := (c + 3)) (n := 24) (pc := 38) C (kX_lt (of_6_3 hc) (by decide)) (cx_a (of_6_3 hc) (ol_6_3 hc)) hg6 dX6_add_38 hm (fun σ5 hm => ?_)
    refine j_aloadn (pc := 39) C 0 dX6_add_39 rfl rfl ?_
    refine gf_X6_21 (c := c) (pc := 40) C hc dX6_add_40 ?_
    refine j_aloadn (pc := 43) C 0 dX6_add_43 rfl rfl ?_
    refine gf_X6_30 (c := c) (pc := 44) C hc dX6_add_44 ?_
    refine j_iload (pc := 47) C 4 dX6_add_47 rfl ?_
    refine j_guard hm (fun hg8 hm => ?_)
    refine j_iastL (c := (c + 4)) (n := 24) (pc := 49) C (kX_lt (of_6_4 hc) (by decide)) (cx_a (of_6_4 hc) (ol_6_4 hc)) hg8 dX6_add_49 hm (fun σ7 hm => ?_)
    refine j_aloadn (pc := 50) C 0 dX6_add_50 rfl rfl ?_
    refine gf_X6_24 (c := c) (pc := 51) C hc dX6_add_51 ?_
    refine j_aloadn (pc := 54) C 0 dX6_add_54 rfl rfl ?_
    refine gf_X6_30 (c := c) (pc := 55) C hc dX6_add_55 ?_
    refine j_iload (pc := 58) C 5 dX6_add_58 rfl ?_
    refine j_guard hm (fun hg10 hm => ?_)
    refine j_iastL (c := (c + 5)) (n := 24) (pc := 60) C (kX_lt (of_6_5 hc) (by decide)) (cx_a (of_6_5 hc) (ol_6_5 hc)) hg10 dX6_add_60 hm (fun σ9 hm => ?_)
    refine j_aloadn (pc := 61) C 0 dX6_add_61 rfl rfl ?_
    refine gf_X6_27 (c := c) (pc := 62) C hc dX6_add_62 ?_
    refine j_aloadn (pc := 65) C 0 dX6_add_65 rfl rfl ?_
    refine gf_X6_30 (c := c) (pc := 66) C hc dX6_add_66 ?_
    refine j_iloadn (pc := 69) C 3 dX6_add_69 rfl rfl ?_
    refine j_guard hm (fun hg12 hm => ?_)
    refine j_iastL (c := (c + 6)) (n := 24) (pc := 70) C (kX_lt (of_6_6 hc) (by decide)) (cx_a (of_6_6 hc) (ol_6_6 hc)) hg12 dX6_add_70 hm (fun σ11 hm => ?_)
    refine j_aloadn (pc := 71) C 0 dX6_add_71 rfl rfl ?_
    refine j_dup (pc := 72) C dX6_add_72 rfl ?_
    refine gf_X6_30 (c := c) (pc := 73) C hc dX6_add_73 ?_
    refine j_iconst (v := 1) (pc := 76) C dX6_add_76 (by decide) ?_
    refine j_iadd (pc := 77) C dX6_add_77 ?_
    refine pf_X6_30 (c := c) (pc := 78) C hc dX6_add_78 hm (fun σ13 hm => ?_)
    exact j_vret (pc := 81) C rfl dX6_add_81 hm
  · exact j_vret (pc := 81) C rfl dX6_add_81 hm

def mX6_partOf (F : Nat) (c : Nat) (x1 : Int32) (x2 : Int32) (σ : jS) : Option Int32 := (Option.bind (mX6_has F c x1 σ) fun q1 => (if q1 = 0 then some (-1 : Int32) else (if x2 = (0 : Int32) then (if jin x1 24 = true then some (σ (c + 1) x1.toNatClampNeg) else none) else (if x2 = (1 : Int32) then (if jin x1 24 = true then some (σ (c + 2) x1.toNatClampNeg) else none) else (if x2 = (2 : Int32) then (if jin x1 24 = true then some (σ (c + 3) x1.toNatClampNeg) else none) else (if x2 = (3 : Int32) then (if jin x1 24 = true then some (σ (c + 4) x1.toNatClampNeg) else none) else (if x2 = (4 : Int32) then (if jin x1 24 = true then some (σ (c + 5) x1.toNatClampNeg) else none) else (if x2 = (5 : Int32) then (if jin x1 24 = true then some (σ (c + 6) x1.toNatClampNeg) else none) else some (-1 : Int32)))))))))
set_option maxHeartbeats 4000000 in
set_option maxRecDepth 100000 in
theorem kX6_partOf {V : jV} {F : Nat} {c : Nat} (hc : kX c = 6) {x1 : Int32} {x2 : Int32} {σ : jS} {v : Int32} (hm : mX6_partOf F c x1 x2 σ = some v) : Ct cfX 70 V yX6_partOf cX6_partOf 3 (some .int) 1 [.ref (vad V c), .int x1, .int x2] σ (v, σ) := by
  refine j_start (own := RX6) (by decide) rfl (Nat.le_of_ble_eq_true rfl) ?_
  intro G hV C
  subst hV
  unfold mX6_partOf at hm
  show JX G 0 [(0, .ref (vad (gV G) c)), (1, .int x1), (2, .int x2)] [] σ (v, σ)
  refine j_aloadn (pc := 0) C 0 dX6_partOf_0 rfl rfl ?_
  refine j_iloadn (pc := 1) C 1 dX6_partOf_1 rfl rfl ?_
  obtain ⟨q1, hq1, hm⟩ := Option.bind_eq_some_iff.mp hm
  refine cl_X6_40 (c := c) (pc := 2) C hc (kX6_has hc hq1) (by decide) (Nat.le_of_ble_eq_true rfl) dX6_partOf_2 ?_
  refine j_if_ne (tgt := 10) (pc := 5) C dX6_partOf_5 (by decide) hm (fun _ hm => ?_) (fun _ hm => ?_)
  · refine j_iconst (v := -1) (pc := 8) C dX6_partOf_8 (by decide) ?_
    exact j_iret (pc := 9) C rfl dX6_partOf_9 hm
  · refine j_iloadn (pc := 10) C 2 dX6_partOf_10 rfl rfl ?_
    refine j_sw (b := 0) hm (fun hs hm => ?_) (fun hs0 hm => ?_)
    · refine j_swIn (tgt := 48) (b := 0) (pc := 11) C dX6_partOf_11 hs (by decide) (by decide) rfl (by decide) ?_
      refine j_aloadn (pc := 48) C 0 dX6_partOf_48 rfl rfl ?_
      refine gf_X6_9 (c := c) (pc := 49) C hc dX6_partOf_49 ?_
      refine j_iloadn (pc := 52) C 1 dX6_partOf_52 rfl rfl ?_
      refine j_guard hm (fun hg2 hm => ?_)
      refine j_iald (c := (c + 1)) (n := 24) (pc := 53) C (kX_lt (of_6_1 hc) (by decide)) (cx_a (of_6_1 hc) (ol_6_1 hc) _) hg2 dX6_partOf_53 ?_
      exact j_iret (pc := 54) C rfl dX6_partOf_54 hm
    · refine j_sw (b := 1) hm (fun hs hm => ?_) (fun hs1 hm => ?_)
      · refine j_swIn (tgt := 55) (b := 1) (pc := 11) C dX6_partOf_11 hs (by decide) (by decide) rfl (by decide) ?_
        refine j_aloadn (pc := 55) C 0 dX6_partOf_55 rfl rfl ?_
        refine gf_X6_15 (c := c) (pc := 56) C hc dX6_partOf_56 ?_
        refine j_iloadn (pc := 59) C 1 dX6_partOf_59 rfl rfl ?_
        refine j_guard hm (fun hg3 hm => ?_)
        refine j_iald (c := (c + 2)) (n := 24) (pc := 60) C (kX_lt (of_6_2 hc) (by decide)) (cx_a (of_6_2 hc) (ol_6_2 hc) _) hg3 dX6_partOf_60 ?_
        exact j_iret (pc := 61) C rfl dX6_partOf_61 hm
      · refine j_sw (b := 2) hm (fun hs hm => ?_) (fun hs2 hm => ?_)
        · refine j_swIn (tgt := 62) (b := 2) (pc := 11) C dX6_partOf_11 hs (by decide) (by decide) rfl (by decide) ?_
          refine j_aloadn (pc := 62) C 0 dX6_partOf_62 rfl rfl ?_
          refine gf_X6_18 (c := c) (pc := 63) C hc dX6_partOf_63 ?_
          refine j_iloadn (pc := 66) C 1 dX6_partOf_66 rfl rfl ?_
          refine j_guard hm (fun hg4 hm => ?_)
          refine j_iald (c := (c + 3)) (n := 24) (pc := 67) C (kX_lt (of_6_3 hc) (by decide)) (cx_a (of_6_3 hc) (ol_6_3 hc) _) hg4 dX6_partOf_67 ?_
          exact j_iret (pc := 68) C rfl dX6_partOf_68 hm
        · refine j_sw (b := 3) hm (fun hs hm => ?_) (fun hs3 hm => ?_)
          · refine j_swIn (tgt := 69) (b := 3) (pc := 11) C dX6_partOf_11 hs (by decide) (by decide) rfl (by decide) ?_
            refine j_aloadn (pc := 69) C 0 dX6_partOf_69 rfl rfl ?_
            refine gf_X6_21 (c := c) (pc := 70) C hc dX6_partOf_70 ?_
            refine j_iloadn (pc := 73) C 1 dX6_partOf_73 rfl rfl ?_
            refine j_guard hm (fun hg5 hm => ?_)
            refine j_iald (c := (c + 4)) (n := 24) (pc := 74) C (kX_lt (of_6_4 hc) (by decide)) (cx_a (of_6_4 hc) (ol_6_4 hc) _) hg5 dX6_partOf_74 ?_
            exact j_iret (pc := 75) C rfl dX6_partOf_75 hm
          · refine j_sw (b := 4) hm (fun hs hm => ?_) (fun hs4 hm => ?_)
            · refine j_swIn (tgt := 76) (b := 4) (pc := 11) C dX6_partOf_11 hs (by decide) (by decide) rfl (by decide) ?_
              refine j_aloadn (pc := 76) C 0 dX6_partOf_76 rfl rfl ?_
              refine gf_X6_24 (c := c) (pc := 77) C hc dX6_partOf_77 ?_
              refine j_iloadn (pc := 80) C 1 dX6_partOf_80 rfl rfl ?_
              refine j_guard hm (fun hg6 hm => ?_)
              refine j_iald (c := (c + 5)) (n := 24) (pc := 81) C (kX_lt (of_6_5 hc) (by decide)) (cx_a (of_6_5 hc) (ol_6_5 hc) _) hg6 dX6_partOf_81 ?_
              exact j_iret (pc := 82) C rfl dX6_partOf_82 hm
            · refine j_sw (b := 5) hm (fun hs hm => ?_) (fun hs5 hm => ?_)
              · refine j_swIn (tgt := 83) (b := 5) (pc := 11) C dX6_partOf_11 hs (by decide) (by decide) rfl (by decide) ?_
                refine j_aloadn (pc := 83) C 0 dX6_partOf_83 rfl rfl ?_
                refine gf_X6_27 (c := c) (pc := 84) C hc dX6_partOf_84 ?_
                refine j_iloadn (pc := 87) C 1 dX6_partOf_87 rfl rfl ?_
                refine j_guard hm (fun hg7 hm => ?_)
                refine j_iald (c := (c + 6)) (n := 24) (pc := 88) C (kX_lt (of_6_6 hc) (by decide)) (cx_a (of_6_6 hc) (ol_6_6 hc) _) hg7 dX6_partOf_88 ?_
                exact j_iret (pc := 89) C rfl dX6_partOf_89 hm
              · refine j_swOut (tgt := 90) (pc := 11) C dX6_partOf_11 (by have hx := jsw_out (lo := 0) (n := 6) (by decide) (by decide) (fun i hi => by rcases i with _ | _ | _ | _ | _ | _ | i <;> first | assumption | (exact absurd hi (by omega))); exact hx) (by decide) ?_
                refine j_iconst (v := -1) (pc := 90) C dX6_partOf_90 (by decide) ?_
                exact j_iret (pc := 91) C rfl dX6_partOf_91 hm

def mX6_dueOf (F : Nat) (c : Nat) (x1 : Int32) (σ : jS) : Option Int32 := (Option.bind (mX6_has F c x1 σ) fun q1 => (if q1 = 0 then some (0 : Int32) else (if jin x1 24 = true then some (σ (c + 6) x1.toNatClampNeg) else none)))
set_option maxHeartbeats 4000000 in
set_option maxRecDepth 100000 in
theorem kX6_dueOf {V : jV} {F : Nat} {c : Nat} (hc : kX c = 6) {x1 : Int32} {σ : jS} {v : Int32} (hm : mX6_dueOf F c x1 σ = some v) : Ct cfX 70 V yX6_dueOf cX6_dueOf 2 (some .int) 1 [.ref (vad V c), .int x1] σ (v, σ) := by
  refine j_start (own := RX6) (by decide) rfl (Nat.le_of_ble_eq_true rfl) ?_
  intro G hV C
  subst hV
  unfold mX6_dueOf at hm
  show JX G 0 [(0, .ref (vad (gV G) c)), (1, .int x1)] [] σ (v, σ)
  refine j_aloadn (pc := 0) C 0 dX6_dueOf_0 rfl rfl ?_
  refine j_iloadn (pc := 1) C 1 dX6_dueOf_1 rfl rfl ?_
  obtain ⟨q1, hq1, hm⟩ := Option.bind_eq_some_iff.mp hm
  refine cl_X6_40 (c := c) (pc := 2) C hc (kX6_has hc hq1) (by decide) (Nat.le_of_ble_eq_true rfl) dX6_dueOf_2 ?_
  refine j_if_eq (tgt := 17) (pc := 5) C dX6_dueOf_5 (by decide) hm (fun _ hm => ?_) (fun _ hm => ?_)
  · refine j_iconst (v := 0) (pc := 17) C dX6_dueOf_17 (by decide) ?_
    exact j_iret (pc := 18) C rfl dX6_dueOf_18 hm
  · refine j_aloadn (pc := 8) C 0 dX6_dueOf_8 rfl rfl ?_
    refine gf_X6_27 (c := c) (pc := 9) C hc dX6_dueOf_9 ?_
    refine j_iloadn (pc := 12) C 1 dX6_dueOf_12 rfl rfl ?_
    refine j_guard hm (fun hg2 hm => ?_)
    refine j_iald (c := (c + 6)) (n := 24) (pc := 13) C (kX_lt (of_6_6 hc) (by decide)) (cx_a (of_6_6 hc) (ol_6_6 hc) _) hg2 dX6_dueOf_13 ?_
    refine j_goto (tgt := 18) (pc := 14) C dX6_dueOf_14 (by decide) ?_
    exact j_iret (pc := 18) C rfl dX6_dueOf_18 hm

def jn_X6_grown_18 (F : Nat) (c : Nat) (σ : jS) (x2 : Int32) (s0 : Int32) : Option Int32 := some (imin (9999999 : Int32) (x2 + (((x2 * s0) + (99 : Int32)) / (100 : Int32))))
set_option maxHeartbeats 4000000 in
set_option maxRecDepth 100000 in
theorem jn_X6_grown_18_ok {G : jG} (C : jc cfX 70 G cX6_grown RX6 4 (some .int) 1) (F : Nat) (c : Nat) (hc : kX c = 6) (σ : jS) {v : Int32} : ∀ (x2 : Int32) (s0 : Int32), jn_X6_grown_18 F c σ x2 s0 = some v → JX G 18 [(2, .int x2)] [.int s0] σ (v, σ) := by
  intro x2 s0 hm
  unfold jn_X6_grown_18 at hm
  refine j_istoren (ls' := [(3, .int s0), (2, .int x2)]) (pc := 18) C dX6_grown_18 rfl (by decide) rfl ?_
  refine j_ldc (v := 9999999) (pc := 19) C dX6_grown_19 tw_4_36 ?_
  refine j_iloadn (pc := 21) C 1 dX6_grown_21 rfl rfl ?_
  refine j_iloadn (pc := 22) C 1 dX6_grown_22 rfl rfl ?_
  refine j_iloadn (pc := 23) C 0 dX6_grown_23 rfl rfl ?_
  refine j_imul (pc := 24) C dX6_grown_24 ?_
  refine j_bipush (v := 99) (pc := 25) C dX6_grown_25 (by decide) ?_
  refine j_iadd (pc := 27) C dX6_grown_27 ?_
  refine j_bipush (v := 100) (pc := 28) C dX6_grown_28 (by decide) ?_
  refine j_idivK (pc := 30) C dX6_grown_30 (by decide) ?_
  refine j_iadd (pc := 31) C dX6_grown_31 ?_
  refine j_mminD (pc := 32) C tw_4_37 tw_2_162 tw_1_14 tw_2_163 (by decide) (Nat.le_of_ble_eq_true rfl) dX6_grown_32 ?_
  exact j_iret (pc := 35) C rfl dX6_grown_35 hm

def mX6_grown (F : Nat) (c : Nat) (x1 : Int32) (x2 : Int32) (σ : jS) : Option Int32 := (Option.bind (mX6_has F c x1 σ) fun q1 => (if q1 = 0 then (jn_X6_grown_18 F c σ x2 (0 : Int32)) else (if jin x1 24 = true then (jn_X6_grown_18 F c σ x2 ((σ (c + 4) x1.toNatClampNeg))) else none)))
set_option maxHeartbeats 4000000 in
set_option maxRecDepth 100000 in
theorem kX6_grown {V : jV} {F : Nat} {c : Nat} (hc : kX c = 6) {x1 : Int32} {x2 : Int32} {σ : jS} {v : Int32} (hm : mX6_grown F c x1 x2 σ = some v) : Ct cfX 70 V yX6_grown cX6_grown 4 (some .int) 1 [.ref (vad V c), .int x1, .int x2] σ (v, σ) := by
  refine j_start (own := RX6) (by decide) rfl (Nat.le_of_ble_eq_true rfl) ?_
  intro G hV C
  subst hV
  unfold mX6_grown at hm
  show JX G 0 [(0, .ref (vad (gV G) c)), (1, .int x1), (2, .int x2)] [] σ (v, σ)
  refine j_aloadn (pc := 0) C 0 dX6_grown_0 rfl rfl ?_
  refine j_iloadn (pc := 1) C 1 dX6_grown_1 rfl rfl ?_
  obtain ⟨q1, hq1, hm⟩ := Option.bind_eq_some_iff.mp hm
  refine cl_X6_40 (c := c) (pc := 2) C hc (kX6_has hc hq1) (by decide) (Nat.le_of_ble_eq_true rfl) dX6_grown_2 ?_
  refine j_if_eq (tgt := 17) (pc := 5) C dX6_grown_5 (by decide) hm (fun _ hm => ?_) (fun _ hm => ?_)
  · refine j_iconst (v := 0) (pc := 17) C dX6_grown_17 (by decide) ?_
    refine j_ls [2] rfl ?_
    exact jn_X6_grown_18_ok C F c hc σ  _ _ hm
  · refine j_aloadn (pc := 8) C 0 dX6_grown_8 rfl rfl ?_
    refine gf_X6_21 (c := c) (pc := 9) C hc dX6_grown_9 ?_
    refine j_iloadn (pc := 12) C 1 dX6_grown_12 rfl rfl ?_
    refine j_guard hm (fun hg3 hm => ?_)
    refine j_iald (c := (c + 4)) (n := 24) (pc := 13) C (kX_lt (of_6_4 hc) (by decide)) (cx_a (of_6_4 hc) (ol_6_4 hc) _) hg3 dX6_grown_13 ?_
    refine j_goto (tgt := 18) (pc := 14) C dX6_grown_14 (by decide) ?_
    refine j_ls [2] rfl ?_
    exact jn_X6_grown_18_ok C F c hc σ  _ _ hm

def mX6_dueNextDay (F : Nat) (c : Nat) (x1 : Int32) (x2 : Int32) (σ : jS) : Option Int32 := (Option.bind (mX6_grown F c x1 x2 σ) fun q1 => (Option.bind (mX6_has F c x1 σ) fun q2 => (if q2 = 0 then some x2 else (if jin x1 24 = true then some (q1 - (imin (σ (c + 5) x1.toNatClampNeg) q1)) else none))))
set_option maxHeartbeats 4000000 in
set_option maxRecDepth 100000 in
theorem kX6_dueNextDay {V : jV} {F : Nat} {c : Nat} (hc : kX c = 6) {x1 : Int32} {x2 : Int32} {σ : jS} {v : Int32} (hm : mX6_dueNextDay F c x1 x2 σ = some v) : Ct cfX 70 V yX6_dueNextDay cX6_dueNextDay 4 (some .int) 2 [.ref (vad V c), .int x1, .int x2] σ (v, σ) := by
  refine j_start (own := RX6) (by decide) rfl (Nat.le_of_ble_eq_true rfl) ?_
  intro G hV C
  subst hV
  unfold mX6_dueNextDay at hm
  show JX G 0 [(0, .ref (vad (gV G) c)), (1, .int x1), (2, .int x2)] [] σ (v, σ)
  refine j_aloadn (pc := 0) C 0 dX6_dueNextDay_0 rfl rfl ?_
  refine j_iloadn (pc := 1) C 1 dX6_dueNextDay_1 rfl rfl ?_
  refine j_iloadn (pc := 2) C 2 dX6_dueNextDay_2 rfl rfl ?_
  obtain ⟨q1, hq1, hm⟩ := Option.bind_eq_some_iff.mp hm
  refine cl_X6_51 (c := c) (pc := 3) C hc (kX6_grown hc hq1) (by decide) (Nat.le_of_ble_eq_true rfl) dX6_dueNextDay_3 ?_
  refine j_istoren (ls' := [(3, .int q1), (0, .ref (vad (gV G) c)), (1, .int x1), (2, .int x2)]) (pc := 6) C dX6_dueNextDay_6 rfl (by decide) rfl ?_
  refine j_aloadn (pc := 7) C 1 dX6_dueNextDay_7 rfl rfl ?_
  refine j_iloadn (pc := 8) C 2 dX6_dueNextDay_8 rfl rfl ?_
  obtain ⟨q2, hq2, hm⟩ := Option.bind_eq_some_iff.mp hm
  refine cl_X6_40 (c := c) (pc := 9) C hc (kX6_has hc hq2) (by decide) (Nat.le_of_ble_eq_true rfl) dX6_dueNextDay_9 ?_
  refine j_if_eq (tgt := 30) (pc := 12) C dX6_dueNextDay_12 (by decide) hm (fun _ hm => ?_) (fun _ hm => ?_)
  · refine j_iloadn (pc := 30) C 3 dX6_dueNextDay_30 rfl rfl ?_
    exact j_iret (pc := 31) C rfl dX6_dueNextDay_31 hm
  · refine j_iloadn (pc := 15) C 0 dX6_dueNextDay_15 rfl rfl ?_
    refine j_aloadn (pc := 16) C 1 dX6_dueNextDay_16 rfl rfl ?_
    refine gf_X6_24 (c := c) (pc := 17) C hc dX6_dueNextDay_17 ?_
    refine j_iloadn (pc := 20) C 2 dX6_dueNextDay_20 rfl rfl ?_
    refine j_guard hm (fun hg3 hm => ?_)
    refine j_iald (c := (c + 5)) (n := 24) (pc := 21) C (kX_lt (of_6_5 hc) (by decide)) (cx_a (of_6_5 hc) (ol_6_5 hc) _) hg3 dX6_dueNextDay_21 ?_
    refine j_iloadn (pc := 22) C 0 dX6_dueNextDay_22 rfl rfl ?_
    refine j_mminD (pc := 23) C tw_4_37 tw_2_162 tw_1_14 tw_2_163 (by decide) (Nat.le_of_ble_eq_true rfl) dX6_dueNextDay_23 ?_
    refine j_isub (pc := 26) C dX6_dueNextDay_26 ?_
    refine j_goto (tgt := 31) (pc := 27) C dX6_dueNextDay_27 (by decide) ?_
    exact j_iret (pc := 31) C rfl dX6_dueNextDay_31 hm

def jn_X6_netOf_37 (F : Nat) (c : Nat) (σ : jS) (k4 : Int32 → Int32 → Int32 → Option Int32) (x1 : Int32) (x2 : Int32) (x3 : Int32) : Option Int32 := (if jin x3 24 = true then (if (σ (c + 2) x3.toNatClampNeg) = x1 then (if jin x3 24 = true then (lt (x2 - (σ (c + 6) x3.toNatClampNeg)) fun y6 => (k4 x1 y6 ((x3 + (1 : Int32))))) else none) else (k4 x1 x2 ((x3 + (1 : Int32))))) else none)
set_option maxHeartbeats 4000000 in
set_option maxRecDepth 100000 in
theorem jn_X6_netOf_37_ok {G : jG} (C : jc cfX 70 G cX6_netOf RX6 4 (some .int) 0) (F : Nat) (c : Nat) (hc : kX c = 6) (σ : jS) {v : Int32} (k4 : Int32 → Int32 → Int32 → Option Int32) (hk4 : ∀ (x1 : Int32) (x2 : Int32) (x3 : Int32), k4 x1 x2 x3 = some v → JX G 4 [(0, .ref (vad (gV G) c)), (1, .int x1), (2, .int x2), (3, .int x3)] [] σ (v, σ)) : ∀ (x1 : Int32) (x2 : Int32) (x3 : Int32), jn_X6_netOf_37 F c σ k4 x1 x2 x3 = some v → JX G 37 [(0, .ref (vad (gV G) c)), (1, .int x1), (2, .int x2), (3, .int x3)] [] σ (v, σ) := by
  intro x1 x2 x3 hm
  unfold jn_X6_netOf_37 at hm
  refine j_aloadn (pc := 37) C 0 dX6_netOf_37 rfl rfl ?_
  refine gf_X6_15 (c := c) (pc := 38) C hc dX6_netOf_38 ?_
  refine j_iloadn (pc := 41) C 3 dX6_netOf_41 rfl rfl ?_
  refine j_guard hm (fun hg4 hm => ?_)
  refine j_iald (c := (c + 2)) (n := 24) (pc := 42) C (kX_lt (of_6_2 hc) (by decide)) (cx_a (of_6_2 hc) (ol_6_2 hc) _) hg4 dX6_netOf_42 ?_
  refine j_iloadn (pc := 43) C 1 dX6_netOf_43 rfl rfl ?_
  refine j_icmp_ne (tgt := 56) (pc := 44) C dX6_netOf_44 (by decide) hm (fun _ hm => ?_) (fun _ hm => ?_)
  · refine j_iloadn (pc := 47) C 2 dX6_netOf_47 rfl rfl ?_
    refine j_aloadn (pc := 48) C 0 dX6_netOf_48 rfl rfl ?_
    refine gf_X6_27 (c := c) (pc := 49) C hc dX6_netOf_49 ?_
    refine j_iloadn (pc := 52) C 3 dX6_netOf_52 rfl rfl ?_
    refine j_guard hm (fun hg5 hm => ?_)
    refine j_iald (c := (c + 6)) (n := 24) (pc := 53) C (kX_lt (of_6_6 hc) (by decide)) (cx_a (of_6_6 hc) (ol_6_6 hc) _) hg5 dX6_netOf_53 ?_
    refine j_isub (pc := 54) C dX6_netOf_54 ?_
    refine j_lti hm (fun y6 hm => ?_)
    refine j_istoren (ls' := [(2, .int y6), (0, .ref (vad (gV G) c)), (1, .int x1), (3, .int x3)]) (pc := 55) C dX6_netOf_55 rfl (by decide) rfl ?_
    refine j_iinc (v := (x3 + (1 : Int32))) (ls' := [(3, .int (x3 + (1 : Int32))), (2, .int y6), (0, .ref (vad (gV G) c)), (1, .int x1)]) (pc := 56) C 3 dX6_netOf_56 rfl rfl (by decide) rfl ?_
    refine j_goto (tgt := 4) (pc := 59) C dX6_netOf_59 (by decide) ?_
    refine j_ls [2, 3, 1, 0] rfl ?_
    exact hk4 _ _ _ hm
  · refine j_iinc (v := (x3 + (1 : Int32))) (ls' := [(3, .int (x3 + (1 : Int32))), (0, .ref (vad (gV G) c)), (1, .int x1), (2, .int x2)]) (pc := 56) C 3 dX6_netOf_56 rfl rfl (by decide) rfl ?_
    refine j_goto (tgt := 4) (pc := 59) C dX6_netOf_59 (by decide) ?_
    refine j_ls [1, 2, 3, 0] rfl ?_
    exact hk4 _ _ _ hm

def lp_X6_netOf_4 (F : Nat) (c : Nat) (σ : jS) : Nat → Int32 → Int32 → Int32 → Option Int32
  | 0, _, _, _ => none
  | n + 1, x1, x2, x3 => (if x3 < (σ c 6) then (if x3 < (24 : Int32) then (if jin x3 24 = true then (if (σ (c + 1) x3.toNatClampNeg) = x1 then (if jin x3 24 = true then (lt (x2 + (σ (c + 6) x3.toNatClampNeg)) fun y3 => (jn_X6_netOf_37 F c σ (lp_X6_netOf_4 F c σ n) x1 y3 x3)) else none) else (jn_X6_netOf_37 F c σ (lp_X6_netOf_4 F c σ n) x1 x2 x3)) else none) else some x2) else some x2)
set_option maxHeartbeats 4000000 in
set_option maxRecDepth 100000 in
theorem lp_X6_netOf_4_ok {G : jG} (C : jc cfX 70 G cX6_netOf RX6 4 (some .int) 0) (F : Nat) (c : Nat) (hc : kX c = 6) (σ : jS) {v : Int32} : ∀ (n : Nat) (x1 : Int32) (x2 : Int32) (x3 : Int32), lp_X6_netOf_4 F c σ n x1 x2 x3 = some v → JX G 4 [(0, .ref (vad (gV G) c)), (1, .int x1), (2, .int x2), (3, .int x3)] [] σ (v, σ) := by
  intro n
  induction n with
  | zero =>
    intro x1 x2 x3 hm
    rw [lp_X6_netOf_4] at hm
    cases hm
  | succ n ih =>
    intro x1 x2 x3 hm
    rw [lp_X6_netOf_4] at hm
    refine j_iloadn (pc := 4) C 3 dX6_netOf_4 rfl rfl ?_
    refine j_aloadn (pc := 5) C 0 dX6_netOf_5 rfl rfl ?_
    refine gf_X6_30 (c := c) (pc := 6) C hc dX6_netOf_6 ?_
    refine j_icmp_ge (tgt := 62) (pc := 9) C dX6_netOf_9 (by decide) hm (fun _ hm => ?_) (fun _ hm => ?_)
    · refine j_iloadn (pc := 12) C 3 dX6_netOf_12 rfl rfl ?_
      refine j_bipush (v := 24) (pc := 13) C dX6_netOf_13 (by decide) ?_
      refine j_icmp_ge (tgt := 62) (pc := 15) C dX6_netOf_15 (by decide) hm (fun _ hm => ?_) (fun _ hm => ?_)
      · refine j_aloadn (pc := 18) C 0 dX6_netOf_18 rfl rfl ?_
        refine gf_X6_9 (c := c) (pc := 19) C hc dX6_netOf_19 ?_
        refine j_iloadn (pc := 22) C 3 dX6_netOf_22 rfl rfl ?_
        refine j_guard hm (fun hg1 hm => ?_)
        refine j_iald (c := (c + 1)) (n := 24) (pc := 23) C (kX_lt (of_6_1 hc) (by decide)) (cx_a (of_6_1 hc) (ol_6_1 hc) _) hg1 dX6_netOf_23 ?_
        refine j_iloadn (pc := 24) C 1 dX6_netOf_24 rfl rfl ?_
        refine j_icmp_ne (tgt := 37) (pc := 25) C dX6_netOf_25 (by decide) hm (fun _ hm => ?_) (fun _ hm => ?_)
        · refine j_iloadn (pc := 28) C 2 dX6_netOf_28 rfl rfl ?_
          refine j_aloadn (pc := 29) C 0 dX6_netOf_29 rfl rfl ?_
          refine gf_X6_27 (c := c) (pc := 30) C hc dX6_netOf_30 ?_
          refine j_iloadn (pc := 33) C 3 dX6_netOf_33 rfl rfl ?_
          refine j_guard hm (fun hg2 hm => ?_)
          refine j_iald (c := (c + 6)) (n := 24) (pc := 34) C (kX_lt (of_6_6 hc) (by decide)) (cx_a (of_6_6 hc) (ol_6_6 hc) _) hg2 dX6_netOf_34 ?_
          refine j_iadd (pc := 35) C dX6_netOf_35 ?_
          refine j_lti hm (fun y3 hm => ?_)
          refine j_istoren (ls' := [(2, .int y3), (0, .ref (vad (gV G) c)), (1, .int x1), (3, .int x3)]) (pc := 36) C dX6_netOf_36 rfl (by decide) rfl ?_
          refine j_ls [1, 2, 0, 3] rfl ?_
          exact jn_X6_netOf_37_ok C F c hc σ _ (fun _ _ _ hm => ih _ _ _ hm) _ _ _ hm
        · exact jn_X6_netOf_37_ok C F c hc σ _ (fun _ _ _ hm => ih _ _ _ hm) _ _ _ hm
      · refine j_iloadn (pc := 62) C 2 dX6_netOf_62 rfl rfl ?_
        exact j_iret (pc := 63) C rfl dX6_netOf_63 hm
    · refine j_iloadn (pc := 62) C 2 dX6_netOf_62 rfl rfl ?_
      exact j_iret (pc := 63) C rfl dX6_netOf_63 hm

def mX6_netOf (F : Nat) (c : Nat) (x1 : Int32) (σ : jS) : Option Int32 := (lp_X6_netOf_4 F c σ F x1 (0 : Int32) (0 : Int32))
set_option maxHeartbeats 4000000 in
set_option maxRecDepth 100000 in
theorem kX6_netOf {V : jV} {F : Nat} {c : Nat} (hc : kX c = 6) {x1 : Int32} {σ : jS} {v : Int32} (hm : mX6_netOf F c x1 σ = some v) : Ct cfX 70 V yX6_netOf cX6_netOf 4 (some .int) 0 [.ref (vad V c), .int x1] σ (v, σ) := by
  refine j_start (own := RX6) (by decide) rfl (Nat.le_of_ble_eq_true rfl) ?_
  intro G hV C
  subst hV
  unfold mX6_netOf at hm
  show JX G 0 [(0, .ref (vad (gV G) c)), (1, .int x1)] [] σ (v, σ)
  refine j_iconst (v := 0) (pc := 0) C dX6_netOf_0 (by decide) ?_
  refine j_istoren (ls' := [(2, .int (0 : Int32)), (0, .ref (vad (gV G) c)), (1, .int x1)]) (pc := 1) C dX6_netOf_1 rfl (by decide) rfl ?_
  refine j_iconst (v := 0) (pc := 2) C dX6_netOf_2 (by decide) ?_
  refine j_istoren (ls' := [(3, .int (0 : Int32)), (2, .int (0 : Int32)), (0, .ref (vad (gV G) c)), (1, .int x1)]) (pc := 3) C dX6_netOf_3 rfl (by decide) rfl ?_
  refine j_ls [2, 3, 1, 0] rfl ?_
  exact lp_X6_netOf_4_ok C F c hc σ  F _ _ _ hm

def lp_X6_owedBy_4 (F : Nat) (c : Nat) (σ : jS) : Nat → Int32 → Int32 → Int32 → Option Int32
  | 0, _, _, _ => none
  | n + 1, x1, x2, x3 => (if x3 < (σ c 6) then (if x3 < (24 : Int32) then (if jin x3 24 = true then (if (σ (c + 2) x3.toNatClampNeg) = x1 then (if jin x3 24 = true then (if 0 < (σ (c + 6) x3.toNatClampNeg) then (lp_X6_owedBy_4 F c σ n x1 ((x2 + (1 : Int32))) ((x3 + (1 : Int32)))) else (lp_X6_owedBy_4 F c σ n x1 x2 ((x3 + (1 : Int32))))) else none) else (lp_X6_owedBy_4 F c σ n x1 x2 ((x3 + (1 : Int32))))) else none) else some x2) else some x2)
set_option maxHeartbeats 4000000 in
set_option maxRecDepth 100000 in
theorem lp_X6_owedBy_4_ok {G : jG} (C : jc cfX 70 G cX6_owedBy RX6 4 (some .int) 0) (F : Nat) (c : Nat) (hc : kX c = 6) (σ : jS) {v : Int32} : ∀ (n : Nat) (x1 : Int32) (x2 : Int32) (x3 : Int32), lp_X6_owedBy_4 F c σ n x1 x2 x3 = some v → JX G 4 [(0, .ref (vad (gV G) c)), (1, .int x1), (2, .int x2), (3, .int x3)] [] σ (v, σ) := by
  intro n
  induction n with
  | zero =>
    intro x1 x2 x3 hm
    rw [lp_X6_owedBy_4] at hm
    cases hm
  | succ n ih =>
    intro x1 x2 x3 hm
    rw [lp_X6_owedBy_4] at hm
    refine j_iloadn (pc := 4) C 3 dX6_owedBy_4 rfl rfl ?_
    refine j_aloadn (pc := 5) C 0 dX6_owedBy_5 rfl rfl ?_
    refine gf_X6_30 (c := c) (pc := 6) C hc dX6_owedBy_6 ?_
    refine j_icmp_ge (tgt := 46) (pc := 9) C dX6_owedBy_9 (by decide) hm (fun _ hm => ?_) (fun _ hm => ?_)
    · refine j_iloadn (pc := 12) C 3 dX6_owedBy_12 rfl rfl ?_
      refine j_bipush (v := 24) (pc := 13) C dX6_owedBy_13 (by decide) ?_
      refine j_icmp_ge (tgt := 46) (pc := 15) C dX6_owedBy_15 (by decide) hm (fun _ hm => ?_) (fun _ hm => ?_)
      · refine j_aloadn (pc := 18) C 0 dX6_owedBy_18 rfl rfl ?_
        refine gf_X6_15 (c := c) (pc := 19) C hc dX6_owedBy_19 ?_
        refine j_iloadn (pc := 22) C 3 dX6_owedBy_22 rfl rfl ?_
        refine j_guard hm (fun hg1 hm => ?_)
        refine j_iald (c := (c + 2)) (n := 24) (pc := 23) C (kX_lt (of_6_2 hc) (by decide)) (cx_a (of_6_2 hc) (ol_6_2 hc) _) hg1 dX6_owedBy_23 ?_
        refine j_iloadn (pc := 24) C 1 dX6_owedBy_24 rfl rfl ?_
        refine j_icmp_ne (tgt := 40) (pc := 25) C dX6_owedBy_25 (by decide) hm (fun _ hm => ?_) (fun _ hm => ?_)
        · refine j_aloadn (pc := 28) C 0 dX6_owedBy_28 rfl rfl ?_
          refine gf_X6_27 (c := c) (pc := 29) C hc dX6_owedBy_29 ?_
          refine j_iloadn (pc := 32) C 3 dX6_owedBy_32 rfl rfl ?_
          refine j_guard hm (fun hg2 hm => ?_)
          refine j_iald (c := (c + 6)) (n := 24) (pc := 33) C (kX_lt (of_6_6 hc) (by decide)) (cx_a (of_6_6 hc) (ol_6_6 hc) _) hg2 dX6_owedBy_33 ?_
          refine j_if_le (tgt := 40) (pc := 34) C dX6_owedBy_34 (by decide) hm (fun _ hm => ?_) (fun _ hm => ?_)
          · refine j_iinc (v := (x2 + (1 : Int32))) (ls' := [(2, .int (x2 + (1 : Int32))), (0, .ref (vad (gV G) c)), (1, .int x1), (3, .int x3)]) (pc := 37) C 2 dX6_owedBy_37 rfl rfl (by decide) rfl ?_
            refine j_iinc (v := (x3 + (1 : Int32))) (ls' := [(3, .int (x3 + (1 : Int32))), (2, .int (x2 + (1 : Int32))), (0, .ref (vad (gV G) c)), (1, .int x1)]) (pc := 40) C 3 dX6_owedBy_40 rfl rfl (by decide) rfl ?_
            refine j_goto (tgt := 4) (pc := 43) C dX6_owedBy_43 (by decide) ?_
            refine j_ls [2, 3, 1, 0] rfl ?_
            exact ih _ _ _ hm
          · refine j_iinc (v := (x3 + (1 : Int32))) (ls' := [(3, .int (x3 + (1 : Int32))), (0, .ref (vad (gV G) c)), (1, .int x1), (2, .int x2)]) (pc := 40) C 3 dX6_owedBy_40 rfl rfl (by decide) rfl ?_
            refine j_goto (tgt := 4) (pc := 43) C dX6_owedBy_43 (by decide) ?_
            refine j_ls [1, 2, 3, 0] rfl ?_
            exact ih _ _ _ hm
        · refine j_iinc (v := (x3 + (1 : Int32))) (ls' := [(3, .int (x3 + (1 : Int32))), (0, .ref (vad (gV G) c)), (1, .int x1), (2, .int x2)]) (pc := 40) C 3 dX6_owedBy_40 rfl rfl (by decide) rfl ?_
          refine j_goto (tgt := 4) (pc := 43) C dX6_owedBy_43 (by decide) ?_
          refine j_ls [1, 2, 3, 0] rfl ?_
          exact ih _ _ _ hm
      · refine j_iloadn (pc := 46) C 2 dX6_owedBy_46 rfl rfl ?_
        exact j_iret (pc := 47) C rfl dX6_owedBy_47 hm
    · refine j_iloadn (pc := 46) C 2 dX6_owedBy_46 rfl rfl ?_
      exact j_iret (pc := 47) C rfl dX6_owedBy_47 hm

def mX6_owedBy (F : Nat) (c : Nat) (x1 : Int32) (σ : jS) : Option Int32 := (lp_X6_owedBy_4 F c σ F x1 (0 : Int32) (0 : Int32))
set_option maxHeartbeats 4000000 in
set_option maxRecDepth 100000 in
theorem kX6_owedBy {V : jV} {F : Nat} {c : Nat} (hc : kX c = 6) {x1 : Int32} {σ : jS} {v : Int32} (hm : mX6_owedBy F c x1 σ = some v) : Ct cfX 70 V yX6_owedBy cX6_owedBy 4 (some .int) 0 [.ref (vad V c), .int x1] σ (v, σ) := by
  refine j_start (own := RX6) (by decide) rfl (Nat.le_of_ble_eq_true rfl) ?_
  intro G hV C
  subst hV
  unfold mX6_owedBy at hm
  show JX G 0 [(0, .ref (vad (gV G) c)), (1, .int x1)] [] σ (v, σ)
  refine j_iconst (v := 0) (pc := 0) C dX6_owedBy_0 (by decide) ?_
  refine j_istoren (ls' := [(2, .int (0 : Int32)), (0, .ref (vad (gV G) c)), (1, .int x1)]) (pc := 1) C dX6_owedBy_1 rfl (by decide) rfl ?_
  refine j_iconst (v := 0) (pc := 2) C dX6_owedBy_2 (by decide) ?_
  refine j_istoren (ls' := [(3, .int (0 : Int32)), (2, .int (0 : Int32)), (0, .ref (vad (gV G) c)), (1, .int x1)]) (pc := 3) C dX6_owedBy_3 rfl (by decide) rfl ?_
  refine j_ls [2, 3, 1, 0] rfl ?_
  exact lp_X6_owedBy_4_ok C F c hc σ  F _ _ _ hm

