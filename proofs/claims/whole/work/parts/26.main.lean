theorem dX11_isWithin_0 : decode cX11_isWithin 0 = .ok (.iload_n 0, 1) := by decide +kernel
theorem dX11_isWithin_1 : decode cX11_isWithin 1 = .ok (.iload_n 1, 1) := by decide +kernel
theorem dX11_isWithin_2 : decode cX11_isWithin 2 = .ok (.if_icmp .lt 12, 3) := by decide +kernel
theorem dX11_isWithin_5 : decode cX11_isWithin 5 = .ok (.iload_n 0, 1) := by decide +kernel
theorem dX11_isWithin_6 : decode cX11_isWithin 6 = .ok (.iload_n 2, 1) := by decide +kernel
theorem dX11_isWithin_7 : decode cX11_isWithin 7 = .ok (.if_icmp .gt 7, 3) := by decide +kernel
theorem dX11_isWithin_10 : decode cX11_isWithin 10 = .ok (.iconst 1, 1) := by decide +kernel
theorem dX11_isWithin_11 : decode cX11_isWithin 11 = .ok (.goto 4, 3) := by decide +kernel
theorem dX11_isWithin_14 : decode cX11_isWithin 14 = .ok (.iconst 0, 1) := by decide +kernel
theorem dX11_isWithin_15 : decode cX11_isWithin 15 = .ok (.ireturn, 1) := by decide +kernel
theorem dX11_person_0 : decode cX11_person 0 = .ok (.iload_n 1, 1) := by decide +kernel
theorem dX11_person_1 : decode cX11_person 1 = .ok (.iconst 0, 1) := by decide +kernel
theorem dX11_person_2 : decode cX11_person 2 = .ok (.bipush 15, 2) := by decide +kernel
theorem dX11_person_4 : decode cX11_person 4 = .ok (.invokestatic 96, 3) := by decide +kernel
theorem dX11_person_7 : decode cX11_person 7 = .ok (.ifCond .eq 23, 3) := by decide +kernel
theorem dX11_person_10 : decode cX11_person 10 = .ok (.iload_n 2, 1) := by decide +kernel
theorem dX11_person_11 : decode cX11_person 11 = .ok (.iconst 1, 1) := by decide +kernel
theorem dX11_person_12 : decode cX11_person 12 = .ok (.ldc 100, 2) := by decide +kernel
theorem dX11_person_14 : decode cX11_person 14 = .ok (.invokestatic 96, 3) := by decide +kernel
theorem dX11_person_17 : decode cX11_person 17 = .ok (.ifCond .eq 13, 3) := by decide +kernel
theorem dX11_person_20 : decode cX11_person 20 = .ok (.iload_n 3, 1) := by decide +kernel
theorem dX11_person_21 : decode cX11_person 21 = .ok (.iconst 0, 1) := by decide +kernel
theorem dX11_person_22 : decode cX11_person 22 = .ok (.ldc 101, 2) := by decide +kernel
theorem dX11_person_24 : decode cX11_person 24 = .ok (.invokestatic 96, 3) := by decide +kernel
theorem dX11_person_27 : decode cX11_person 27 = .ok (.ifCond .ne 5, 3) := by decide +kernel
theorem dX11_person_30 : decode cX11_person 30 = .ok (.iconst 0, 1) := by decide +kernel
theorem dX11_person_31 : decode cX11_person 31 = .ok (.ireturn, 1) := by decide +kernel
theorem dX11_person_32 : decode cX11_person 32 = .ok (.aload_n 0, 1) := by decide +kernel
theorem dX11_person_33 : decode cX11_person 33 = .ok (.getfield 19, 3) := by decide +kernel
theorem dX11_person_36 : decode cX11_person 36 = .ok (.getfield 102, 3) := by decide +kernel
theorem dX11_person_39 : decode cX11_person 39 = .ok (.iload_n 1, 1) := by decide +kernel
theorem dX11_person_40 : decode cX11_person 40 = .ok (.iload_n 2, 1) := by decide +kernel
theorem dX11_person_41 : decode cX11_person 41 = .ok (.iastore, 1) := by decide +kernel
theorem dX11_person_42 : decode cX11_person 42 = .ok (.aload_n 0, 1) := by decide +kernel
theorem dX11_person_43 : decode cX11_person 43 = .ok (.getfield 19, 3) := by decide +kernel
theorem dX11_person_46 : decode cX11_person 46 = .ok (.getfield 106, 3) := by decide +kernel
theorem dX11_person_49 : decode cX11_person 49 = .ok (.iload_n 1, 1) := by decide +kernel
theorem dX11_person_50 : decode cX11_person 50 = .ok (.iload_n 3, 1) := by decide +kernel
theorem dX11_person_51 : decode cX11_person 51 = .ok (.iastore, 1) := by decide +kernel
theorem dX11_person_52 : decode cX11_person 52 = .ok (.aload_n 0, 1) := by decide +kernel
theorem dX11_person_53 : decode cX11_person 53 = .ok (.getfield 19, 3) := by decide +kernel
theorem dX11_person_56 : decode cX11_person 56 = .ok (.dup, 1) := by decide +kernel
theorem dX11_person_57 : decode cX11_person 57 = .ok (.getfield 109, 3) := by decide +kernel
theorem dX11_person_60 : decode cX11_person 60 = .ok (.iconst 1, 1) := by decide +kernel
theorem dX11_person_61 : decode cX11_person 61 = .ok (.iload_n 1, 1) := by decide +kernel
theorem dX11_person_62 : decode cX11_person 62 = .ok (.ishl, 1) := by decide +kernel
theorem dX11_person_63 : decode cX11_person 63 = .ok (.ior, 1) := by decide +kernel
theorem dX11_person_64 : decode cX11_person 64 = .ok (.putfield 109, 3) := by decide +kernel
theorem dX11_person_67 : decode cX11_person 67 = .ok (.aload_n 0, 1) := by decide +kernel
theorem dX11_person_68 : decode cX11_person 68 = .ok (.getfield 19, 3) := by decide +kernel
theorem dX11_person_71 : decode cX11_person 71 = .ok (.dup, 1) := by decide +kernel
theorem dX11_person_72 : decode cX11_person 72 = .ok (.getfield 113, 3) := by decide +kernel
theorem dX11_person_75 : decode cX11_person 75 = .ok (.iconst 1, 1) := by decide +kernel
theorem dX11_person_76 : decode cX11_person 76 = .ok (.iload_n 1, 1) := by decide +kernel
theorem dX11_person_77 : decode cX11_person 77 = .ok (.ishl, 1) := by decide +kernel
theorem dX11_person_78 : decode cX11_person 78 = .ok (.ior, 1) := by decide +kernel
theorem dX11_person_79 : decode cX11_person 79 = .ok (.putfield 113, 3) := by decide +kernel
theorem dX11_person_82 : decode cX11_person 82 = .ok (.iconst 1, 1) := by decide +kernel
theorem dX11_person_83 : decode cX11_person 83 = .ok (.ireturn, 1) := by decide +kernel
theorem dX11_feed_0 : decode cX11_feed 0 = .ok (.aload_n 0, 1) := by decide +kernel
theorem dX11_feed_1 : decode cX11_feed 1 = .ok (.getfield 10, 3) := by decide +kernel
theorem dX11_feed_4 : decode cX11_feed 4 = .ok (.getfield 116, 3) := by decide +kernel
theorem dX11_feed_7 : decode cX11_feed 7 = .ok (.sipush 240, 3) := by decide +kernel
theorem dX11_feed_10 : decode cX11_feed 10 = .ok (.if_icmp .le 5, 3) := by decide +kernel
theorem dX11_feed_13 : decode cX11_feed 13 = .ok (.iconst (-1), 1) := by decide +kernel
theorem dX11_feed_14 : decode cX11_feed 14 = .ok (.ireturn, 1) := by decide +kernel
theorem dX11_feed_15 : decode cX11_feed 15 = .ok (.aload_n 0, 1) := by decide +kernel
theorem dX11_feed_16 : decode cX11_feed 16 = .ok (.getfield 10, 3) := by decide +kernel
theorem dX11_feed_19 : decode cX11_feed 19 = .ok (.iload_n 1, 1) := by decide +kernel
theorem dX11_feed_20 : decode cX11_feed 20 = .ok (.invokevirtual 119, 3) := by decide +kernel
theorem dX11_feed_23 : decode cX11_feed 23 = .ok (.aload_n 0, 1) := by decide +kernel
theorem dX11_feed_24 : decode cX11_feed 24 = .ok (.getfield 10, 3) := by decide +kernel
theorem dX11_feed_27 : decode cX11_feed 27 = .ok (.iload_n 2, 1) := by decide +kernel
theorem dX11_feed_28 : decode cX11_feed 28 = .ok (.invokevirtual 119, 3) := by decide +kernel
theorem dX11_feed_31 : decode cX11_feed 31 = .ok (.aload_n 0, 1) := by decide +kernel
theorem dX11_feed_32 : decode cX11_feed 32 = .ok (.getfield 10, 3) := by decide +kernel
theorem dX11_feed_35 : decode cX11_feed 35 = .ok (.iload_n 3, 1) := by decide +kernel
theorem dX11_feed_36 : decode cX11_feed 36 = .ok (.invokevirtual 119, 3) := by decide +kernel
theorem dX11_feed_39 : decode cX11_feed 39 = .ok (.aload_n 0, 1) := by decide +kernel
theorem dX11_feed_40 : decode cX11_feed 40 = .ok (.getfield 10, 3) := by decide +kernel
theorem dX11_feed_43 : decode cX11_feed 43 = .ok (.iload 4, 2) := by decide +kernel
theorem dX11_feed_45 : decode cX11_feed 45 = .ok (.invokevirtual 119, 3) := by decide +kernel
theorem dX11_feed_48 : decode cX11_feed 48 = .ok (.aload_n 0, 1) := by decide +kernel
theorem dX11_feed_49 : decode cX11_feed 49 = .ok (.getfield 10, 3) := by decide +kernel
theorem dX11_feed_52 : decode cX11_feed 52 = .ok (.iload 5, 2) := by decide +kernel
theorem dX11_feed_54 : decode cX11_feed 54 = .ok (.invokevirtual 119, 3) := by decide +kernel
theorem dX11_feed_57 : decode cX11_feed 57 = .ok (.aload_n 0, 1) := by decide +kernel
theorem dX11_feed_58 : decode cX11_feed 58 = .ok (.getfield 10, 3) := by decide +kernel
theorem dX11_feed_61 : decode cX11_feed 61 = .ok (.getfield 116, 3) := by decide +kernel
theorem dX11_feed_64 : decode cX11_feed 64 = .ok (.ireturn, 1) := by decide +kernel
theorem dX11_law_0 : decode cX11_law 0 = .ok (.iload_n 1, 1) := by decide +kernel
theorem dX11_law_1 : decode cX11_law 1 = .ok (.iconst 1, 1) := by decide +kernel
theorem dX11_law_2 : decode cX11_law 2 = .ok (.sipush 240, 3) := by decide +kernel
theorem dX11_law_5 : decode cX11_law 5 = .ok (.invokestatic 96, 3) := by decide +kernel
theorem dX11_law_8 : decode cX11_law 8 = .ok (.ifCond .eq 14, 3) := by decide +kernel
theorem dX11_law_11 : decode cX11_law 11 = .ok (.aload_n 0, 1) := by decide +kernel
theorem dX11_law_12 : decode cX11_law 12 = .ok (.getfield 10, 3) := by decide +kernel
theorem dX11_law_15 : decode cX11_law 15 = .ok (.iload_n 1, 1) := by decide +kernel
theorem dX11_law_16 : decode cX11_law 16 = .ok (.invokevirtual 123, 3) := by decide +kernel
theorem dX11_law_19 : decode cX11_law 19 = .ok (.ifCond .ne 5, 3) := by decide +kernel
theorem dX11_law_22 : decode cX11_law 22 = .ok (.iconst (-1), 1) := by decide +kernel
theorem dX11_law_23 : decode cX11_law 23 = .ok (.ireturn, 1) := by decide +kernel
theorem dX11_law_24 : decode cX11_law 24 = .ok (.aload_n 0, 1) := by decide +kernel
theorem dX11_law_25 : decode cX11_law 25 = .ok (.getfield 10, 3) := by decide +kernel
theorem dX11_law_28 : decode cX11_law 28 = .ok (.iload_n 1, 1) := by decide +kernel
theorem dX11_law_29 : decode cX11_law 29 = .ok (.invokevirtual 127, 3) := by decide +kernel
theorem dX11_law_32 : decode cX11_law 32 = .ok (.aload_n 0, 1) := by decide +kernel
theorem dX11_law_33 : decode cX11_law 33 = .ok (.getfield 48, 3) := by decide +kernel
theorem dX11_law_36 : decode cX11_law 36 = .ok (.aload_n 0, 1) := by decide +kernel
theorem dX11_law_37 : decode cX11_law 37 = .ok (.getfield 59, 3) := by decide +kernel
theorem dX11_law_40 : decode cX11_law 40 = .ok (.invokevirtual 130, 3) := by decide +kernel
theorem dX11_law_43 : decode cX11_law 43 = .ok (.aload_n 0, 1) := by decide +kernel
theorem dX11_law_44 : decode cX11_law 44 = .ok (.getfield 10, 3) := by decide +kernel
theorem dX11_law_47 : decode cX11_law 47 = .ok (.getfield 134, 3) := by decide +kernel
theorem dX11_law_50 : decode cX11_law 50 = .ok (.ifCond .eq 11, 3) := by decide +kernel
theorem dX11_law_53 : decode cX11_law 53 = .ok (.aload_n 0, 1) := by decide +kernel
theorem dX11_law_54 : decode cX11_law 54 = .ok (.getfield 10, 3) := by decide +kernel
theorem dX11_law_57 : decode cX11_law 57 = .ok (.getfield 134, 3) := by decide +kernel
theorem dX11_law_60 : decode cX11_law 60 = .ok (.ireturn, 1) := by decide +kernel
theorem dX11_law_61 : decode cX11_law 61 = .ok (.aload_n 0, 1) := by decide +kernel
theorem dX11_law_62 : decode cX11_law 62 = .ok (.getfield 55, 3) := by decide +kernel
theorem dX11_law_65 : decode cX11_law 65 = .ok (.astore_n 2, 1) := by decide +kernel
theorem dX11_law_66 : decode cX11_law 66 = .ok (.aload_n 0, 1) := by decide +kernel
theorem dX11_law_67 : decode cX11_law 67 = .ok (.aload_n 0, 1) := by decide +kernel
theorem dX11_law_68 : decode cX11_law 68 = .ok (.getfield 59, 3) := by decide +kernel
theorem dX11_law_71 : decode cX11_law 71 = .ok (.putfield 55, 3) := by decide +kernel
theorem dX11_law_74 : decode cX11_law 74 = .ok (.aload_n 0, 1) := by decide +kernel
theorem dX11_law_75 : decode cX11_law 75 = .ok (.aload_n 2, 1) := by decide +kernel
theorem dX11_law_76 : decode cX11_law 76 = .ok (.putfield 59, 3) := by decide +kernel
theorem dX11_law_79 : decode cX11_law 79 = .ok (.aload_n 0, 1) := by decide +kernel
theorem dX11_law_80 : decode cX11_law 80 = .ok (.getfield 55, 3) := by decide +kernel
theorem dX11_law_83 : decode cX11_law 83 = .ok (.getfield 137, 3) := by decide +kernel
theorem dX11_law_86 : decode cX11_law 86 = .ok (.ireturn, 1) := by decide +kernel
theorem dX11_routine_0 : decode cX11_routine 0 = .ok (.iload_n 1, 1) := by decide +kernel
theorem dX11_routine_1 : decode cX11_routine 1 = .ok (.iconst 0, 1) := by decide +kernel
theorem dX11_routine_2 : decode cX11_routine 2 = .ok (.bipush 15, 2) := by decide +kernel
theorem dX11_routine_4 : decode cX11_routine 4 = .ok (.invokestatic 96, 3) := by decide +kernel
theorem dX11_routine_7 : decode cX11_routine 7 = .ok (.ifCond .eq 24, 3) := by decide +kernel
theorem dX11_routine_10 : decode cX11_routine 10 = .ok (.iload_n 2, 1) := by decide +kernel
theorem dX11_routine_11 : decode cX11_routine 11 = .ok (.iconst 1, 1) := by decide +kernel
theorem dX11_routine_12 : decode cX11_routine 12 = .ok (.bipush 60, 2) := by decide +kernel
theorem dX11_routine_14 : decode cX11_routine 14 = .ok (.invokestatic 96, 3) := by decide +kernel
theorem dX11_routine_17 : decode cX11_routine 17 = .ok (.ifCond .eq 14, 3) := by decide +kernel
theorem dX11_routine_20 : decode cX11_routine 20 = .ok (.aload_n 0, 1) := by decide +kernel
theorem dX11_routine_21 : decode cX11_routine 21 = .ok (.getfield 10, 3) := by decide +kernel
theorem dX11_routine_24 : decode cX11_routine 24 = .ok (.iload_n 2, 1) := by decide +kernel
theorem dX11_routine_25 : decode cX11_routine 25 = .ok (.invokevirtual 123, 3) := by decide +kernel
theorem dX11_routine_28 : decode cX11_routine 28 = .ok (.ifCond .ne 5, 3) := by decide +kernel
theorem dX11_routine_31 : decode cX11_routine 31 = .ok (.iconst (-1), 1) := by decide +kernel
theorem dX11_routine_32 : decode cX11_routine 32 = .ok (.ireturn, 1) := by decide +kernel
theorem dX11_routine_33 : decode cX11_routine 33 = .ok (.aload_n 0, 1) := by decide +kernel
theorem dX11_routine_34 : decode cX11_routine 34 = .ok (.getfield 10, 3) := by decide +kernel
theorem dX11_routine_37 : decode cX11_routine 37 = .ok (.iload_n 2, 1) := by decide +kernel
theorem dX11_routine_38 : decode cX11_routine 38 = .ok (.invokevirtual 127, 3) := by decide +kernel
theorem dX11_routine_41 : decode cX11_routine 41 = .ok (.aload_n 0, 1) := by decide +kernel
theorem dX11_routine_42 : decode cX11_routine 42 = .ok (.getfield 34, 3) := by decide +kernel
theorem dX11_routine_45 : decode cX11_routine 45 = .ok (.iload_n 1, 1) := by decide +kernel
theorem dX11_routine_46 : decode cX11_routine 46 = .ok (.invokevirtual 138, 3) := by decide +kernel
theorem dX11_routine_49 : decode cX11_routine 49 = .ok (.ireturn, 1) := by decide +kernel
theorem dX11_ledger_0 : decode cX11_ledger 0 = .ok (.iload_n 1, 1) := by decide +kernel
theorem dX11_ledger_1 : decode cX11_ledger 1 = .ok (.iconst 1, 1) := by decide +kernel
theorem dX11_ledger_2 : decode cX11_ledger 2 = .ok (.sipush 200, 3) := by decide +kernel
theorem dX11_ledger_5 : decode cX11_ledger 5 = .ok (.invokestatic 96, 3) := by decide +kernel
theorem dX11_ledger_8 : decode cX11_ledger 8 = .ok (.ifCond .eq 14, 3) := by decide +kernel
theorem dX11_ledger_11 : decode cX11_ledger 11 = .ok (.aload_n 0, 1) := by decide +kernel
theorem dX11_ledger_12 : decode cX11_ledger 12 = .ok (.getfield 10, 3) := by decide +kernel
theorem dX11_ledger_15 : decode cX11_ledger 15 = .ok (.iload_n 1, 1) := by decide +kernel
theorem dX11_ledger_16 : decode cX11_ledger 16 = .ok (.invokevirtual 123, 3) := by decide +kernel
theorem dX11_ledger_19 : decode cX11_ledger 19 = .ok (.ifCond .ne 5, 3) := by decide +kernel
theorem dX11_ledger_22 : decode cX11_ledger 22 = .ok (.iconst (-1), 1) := by decide +kernel
theorem dX11_ledger_23 : decode cX11_ledger 23 = .ok (.ireturn, 1) := by decide +kernel
theorem dX11_ledger_24 : decode cX11_ledger 24 = .ok (.aload_n 0, 1) := by decide +kernel
theorem dX11_ledger_25 : decode cX11_ledger 25 = .ok (.getfield 10, 3) := by decide +kernel
theorem dX11_ledger_28 : decode cX11_ledger 28 = .ok (.iload_n 1, 1) := by decide +kernel
theorem dX11_ledger_29 : decode cX11_ledger 29 = .ok (.invokevirtual 127, 3) := by decide +kernel
theorem dX11_ledger_32 : decode cX11_ledger 32 = .ok (.aload_n 0, 1) := by decide +kernel
theorem dX11_ledger_33 : decode cX11_ledger 33 = .ok (.getfield 41, 3) := by decide +kernel
theorem dX11_ledger_36 : decode cX11_ledger 36 = .ok (.aload_n 0, 1) := by decide +kernel
theorem dX11_ledger_37 : decode cX11_ledger 37 = .ok (.getfield 19, 3) := by decide +kernel
theorem dX11_ledger_40 : decode cX11_ledger 40 = .ok (.getfield 109, 3) := by decide +kernel
theorem dX11_ledger_43 : decode cX11_ledger 43 = .ok (.invokevirtual 141, 3) := by decide +kernel
theorem dX11_ledger_46 : decode cX11_ledger 46 = .ok (.aload_n 0, 1) := by decide +kernel
theorem dX11_ledger_47 : decode cX11_ledger 47 = .ok (.getfield 10, 3) := by decide +kernel
theorem dX11_ledger_50 : decode cX11_ledger 50 = .ok (.getfield 134, 3) := by decide +kernel
theorem dX11_ledger_53 : decode cX11_ledger 53 = .ok (.ifCond .eq 11, 3) := by decide +kernel
theorem dX11_ledger_56 : decode cX11_ledger 56 = .ok (.aload_n 0, 1) := by decide +kernel
theorem dX11_ledger_57 : decode cX11_ledger 57 = .ok (.getfield 10, 3) := by decide +kernel
theorem dX11_ledger_60 : decode cX11_ledger 60 = .ok (.getfield 134, 3) := by decide +kernel
theorem dX11_ledger_63 : decode cX11_ledger 63 = .ok (.ireturn, 1) := by decide +kernel
theorem dX11_ledger_64 : decode cX11_ledger 64 = .ok (.aload_n 0, 1) := by decide +kernel
theorem dX11_ledger_65 : decode cX11_ledger 65 = .ok (.getfield 19, 3) := by decide +kernel
theorem dX11_ledger_68 : decode cX11_ledger 68 = .ok (.getfield 143, 3) := by decide +kernel
theorem dX11_ledger_71 : decode cX11_ledger 71 = .ok (.aload_n 0, 1) := by decide +kernel
theorem dX11_ledger_72 : decode cX11_ledger 72 = .ok (.getfield 41, 3) := by decide +kernel
theorem dX11_ledger_75 : decode cX11_ledger 75 = .ok (.getfield 147, 3) := by decide +kernel
theorem dX11_ledger_78 : decode cX11_ledger 78 = .ok (.invokevirtual 148, 3) := by decide +kernel
theorem dX11_ledger_81 : decode cX11_ledger 81 = .ok (.aload_n 0, 1) := by decide +kernel
theorem dX11_ledger_82 : decode cX11_ledger 82 = .ok (.getfield 19, 3) := by decide +kernel
theorem dX11_ledger_85 : decode cX11_ledger 85 = .ok (.getfield 143, 3) := by decide +kernel
theorem dX11_ledger_88 : decode cX11_ledger 88 = .ok (.getfield 154, 3) := by decide +kernel
theorem dX11_ledger_91 : decode cX11_ledger 91 = .ok (.ireturn, 1) := by decide +kernel
theorem dX11_passHour_0 : decode cX11_passHour 0 = .ok (.iconst 0, 1) := by decide +kernel
theorem dX11_passHour_1 : decode cX11_passHour 1 = .ok (.istore_n 3, 1) := by decide +kernel
theorem dX11_passHour_2 : decode cX11_passHour 2 = .ok (.iload_n 3, 1) := by decide +kernel
theorem dX11_passHour_3 : decode cX11_passHour 3 = .ok (.bipush 16, 2) := by decide +kernel
theorem dX11_passHour_5 : decode cX11_passHour 5 = .ok (.if_icmp .ge 78, 3) := by decide +kernel
theorem dX11_passHour_8 : decode cX11_passHour 8 = .ok (.aload_n 1, 1) := by decide +kernel
theorem dX11_passHour_9 : decode cX11_passHour 9 = .ok (.iload_n 3, 1) := by decide +kernel
theorem dX11_passHour_10 : decode cX11_passHour 10 = .ok (.invokevirtual 179, 3) := by decide +kernel
theorem dX11_passHour_13 : decode cX11_passHour 13 = .ok (.ifCond .eq 64, 3) := by decide +kernel
theorem dX11_passHour_16 : decode cX11_passHour 16 = .ok (.aload_n 0, 1) := by decide +kernel
theorem dX11_passHour_17 : decode cX11_passHour 17 = .ok (.getfield 67, 3) := by decide +kernel
theorem dX11_passHour_20 : decode cX11_passHour 20 = .ok (.iload_n 3, 1) := by decide +kernel
theorem dX11_passHour_21 : decode cX11_passHour 21 = .ok (.iload_n 2, 1) := by decide +kernel
theorem dX11_passHour_22 : decode cX11_passHour 22 = .ok (.aload_n 1, 1) := by decide +kernel
theorem dX11_passHour_23 : decode cX11_passHour 23 = .ok (.invokevirtual 301, 3) := by decide +kernel
theorem dX11_passHour_26 : decode cX11_passHour 26 = .ok (.iconst 1, 1) := by decide +kernel
theorem dX11_passHour_27 : decode cX11_passHour 27 = .ok (.invokevirtual 304, 3) := by decide +kernel
theorem dX11_passHour_30 : decode cX11_passHour 30 = .ok (.aload_n 0, 1) := by decide +kernel
theorem dX11_passHour_31 : decode cX11_passHour 31 = .ok (.getfield 67, 3) := by decide +kernel
theorem dX11_passHour_34 : decode cX11_passHour 34 = .ok (.bipush 120, 2) := by decide +kernel
theorem dX11_passHour_36 : decode cX11_passHour 36 = .ok (.iconst 0, 1) := by decide +kernel
theorem dX11_passHour_37 : decode cX11_passHour 37 = .ok (.iconst 1, 1) := by decide +kernel
theorem dX11_passHour_38 : decode cX11_passHour 38 = .ok (.iconst 1, 1) := by decide +kernel
theorem dX11_passHour_39 : decode cX11_passHour 39 = .ok (.invokevirtual 308, 3) := by decide +kernel
theorem dX11_passHour_42 : decode cX11_passHour 42 = .ok (.iconst 1, 1) := by decide +kernel
theorem dX11_passHour_43 : decode cX11_passHour 43 = .ok (.if_icmp .ne 11, 3) := by decide +kernel
theorem dX11_passHour_46 : decode cX11_passHour 46 = .ok (.aload_n 1, 1) := by decide +kernel
theorem dX11_passHour_47 : decode cX11_passHour 47 = .ok (.iload_n 3, 1) := by decide +kernel
theorem dX11_passHour_48 : decode cX11_passHour 48 = .ok (.invokevirtual 312, 3) := by decide +kernel
theorem dX11_passHour_51 : decode cX11_passHour 51 = .ok (.goto 26, 3) := by decide +kernel
theorem dX11_passHour_54 : decode cX11_passHour 54 = .ok (.aload_n 1, 1) := by decide +kernel
theorem dX11_passHour_55 : decode cX11_passHour 55 = .ok (.iload_n 3, 1) := by decide +kernel
theorem dX11_passHour_56 : decode cX11_passHour 56 = .ok (.bipush 60, 2) := by decide +kernel
theorem dX11_passHour_58 : decode cX11_passHour 58 = .ok (.aload_n 0, 1) := by decide +kernel
theorem dX11_passHour_59 : decode cX11_passHour 59 = .ok (.getfield 67, 3) := by decide +kernel
theorem dX11_passHour_62 : decode cX11_passHour 62 = .ok (.bipush 112, 2) := by decide +kernel
theorem dX11_passHour_64 : decode cX11_passHour 64 = .ok (.bipush 60, 2) := by decide +kernel
theorem dX11_passHour_66 : decode cX11_passHour 66 = .ok (.iconst 1, 1) := by decide +kernel
theorem dX11_passHour_67 : decode cX11_passHour 67 = .ok (.sipush 255, 3) := by decide +kernel
theorem dX11_passHour_70 : decode cX11_passHour 70 = .ok (.invokevirtual 308, 3) := by decide +kernel
theorem dX11_passHour_73 : decode cX11_passHour 73 = .ok (.imul, 1) := by decide +kernel
theorem dX11_passHour_74 : decode cX11_passHour 74 = .ok (.invokevirtual 315, 3) := by decide +kernel
theorem dX11_passHour_77 : decode cX11_passHour 77 = .ok (.iinc 3 1, 3) := by decide +kernel
theorem dX11_passHour_80 : decode cX11_passHour 80 = .ok (.goto (-78), 3) := by decide +kernel
theorem dX11_passHour_83 : decode cX11_passHour 83 = .ok (.return_, 1) := by decide +kernel
theorem dX11_giveFromParish_0 : decode cX11_giveFromParish 0 = .ok (.iconst 0, 1) := by decide +kernel
theorem dX11_giveFromParish_1 : decode cX11_giveFromParish 1 = .ok (.istore_n 2, 1) := by decide +kernel
theorem dX11_giveFromParish_2 : decode cX11_giveFromParish 2 = .ok (.iload_n 2, 1) := by decide +kernel
theorem dX11_giveFromParish_3 : decode cX11_giveFromParish 3 = .ok (.bipush 16, 2) := by decide +kernel
theorem dX11_giveFromParish_5 : decode cX11_giveFromParish 5 = .ok (.if_icmp .ge 48, 3) := by decide +kernel
theorem dX11_giveFromParish_8 : decode cX11_giveFromParish 8 = .ok (.aload_n 1, 1) := by decide +kernel
theorem dX11_giveFromParish_9 : decode cX11_giveFromParish 9 = .ok (.iload_n 2, 1) := by decide +kernel
theorem dX11_giveFromParish_10 : decode cX11_giveFromParish 10 = .ok (.invokevirtual 179, 3) := by decide +kernel
theorem dX11_giveFromParish_13 : decode cX11_giveFromParish 13 = .ok (.ifCond .eq 34, 3) := by decide +kernel
theorem dX11_giveFromParish_16 : decode cX11_giveFromParish 16 = .ok (.aload_n 0, 1) := by decide +kernel
theorem dX11_giveFromParish_17 : decode cX11_giveFromParish 17 = .ok (.getfield 67, 3) := by decide +kernel
theorem dX11_giveFromParish_20 : decode cX11_giveFromParish 20 = .ok (.iload_n 2, 1) := by decide +kernel
theorem dX11_giveFromParish_21 : decode cX11_giveFromParish 21 = .ok (.bipush 24, 2) := by decide +kernel
theorem dX11_giveFromParish_23 : decode cX11_giveFromParish 23 = .ok (.iconst 0, 1) := by decide +kernel
theorem dX11_giveFromParish_24 : decode cX11_giveFromParish 24 = .ok (.iconst 0, 1) := by decide +kernel
theorem dX11_giveFromParish_25 : decode cX11_giveFromParish 25 = .ok (.invokevirtual 304, 3) := by decide +kernel
theorem dX11_giveFromParish_28 : decode cX11_giveFromParish 28 = .ok (.aload_n 1, 1) := by decide +kernel
theorem dX11_giveFromParish_29 : decode cX11_giveFromParish 29 = .ok (.iload_n 2, 1) := by decide +kernel
theorem dX11_giveFromParish_30 : decode cX11_giveFromParish 30 = .ok (.aload_n 0, 1) := by decide +kernel
theorem dX11_giveFromParish_31 : decode cX11_giveFromParish 31 = .ok (.getfield 67, 3) := by decide +kernel
theorem dX11_giveFromParish_34 : decode cX11_giveFromParish 34 = .ok (.bipush 105, 2) := by decide +kernel
theorem dX11_giveFromParish_36 : decode cX11_giveFromParish 36 = .ok (.iconst 0, 1) := by decide +kernel
theorem dX11_giveFromParish_37 : decode cX11_giveFromParish 37 = .ok (.iconst 0, 1) := by decide +kernel
theorem dX11_giveFromParish_38 : decode cX11_giveFromParish 38 = .ok (.sipush 9999, 3) := by decide +kernel
theorem dX11_giveFromParish_41 : decode cX11_giveFromParish 41 = .ok (.invokevirtual 308, 3) := by decide +kernel
theorem dX11_giveFromParish_44 : decode cX11_giveFromParish 44 = .ok (.invokevirtual 319, 3) := by decide +kernel
theorem dX11_giveFromParish_47 : decode cX11_giveFromParish 47 = .ok (.iinc 2 1, 3) := by decide +kernel
theorem dX11_giveFromParish_50 : decode cX11_giveFromParish 50 = .ok (.goto (-48), 3) := by decide +kernel
theorem dX11_giveFromParish_53 : decode cX11_giveFromParish 53 = .ok (.return_, 1) := by decide +kernel
theorem dX11_passDays_0 : decode cX11_passDays 0 = .ok (.aload_n 1, 1) := by decide +kernel
theorem dX11_passDays_1 : decode cX11_passDays 1 = .ok (.getfield 113, 3) := by decide +kernel
theorem dX11_passDays_4 : decode cX11_passDays 4 = .ok (.invokestatic 279, 3) := by decide +kernel
theorem dX11_passDays_7 : decode cX11_passDays 7 = .ok (.istore_n 3, 1) := by decide +kernel
theorem dX11_passDays_8 : decode cX11_passDays 8 = .ok (.iconst 0, 1) := by decide +kernel
theorem dX11_passDays_9 : decode cX11_passDays 9 = .ok (.istore 4, 2) := by decide +kernel
theorem dX11_passDays_11 : decode cX11_passDays 11 = .ok (.iload 4, 2) := by decide +kernel
theorem dX11_passDays_13 : decode cX11_passDays 13 = .ok (.iload_n 2, 1) := by decide +kernel
theorem dX11_passDays_14 : decode cX11_passDays 14 = .ok (.if_icmp .ge 67, 3) := by decide +kernel
theorem dX11_passDays_17 : decode cX11_passDays 17 = .ok (.aload_n 1, 1) := by decide +kernel
theorem dX11_passDays_18 : decode cX11_passDays 18 = .ok (.getfield 273, 3) := by decide +kernel
theorem dX11_passDays_21 : decode cX11_passDays 21 = .ok (.sipush 9999, 3) := by decide +kernel
theorem dX11_passDays_24 : decode cX11_passDays 24 = .ok (.if_icmp .ge 57, 3) := by decide +kernel
theorem dX11_passDays_27 : decode cX11_passDays 27 = .ok (.aload_n 0, 1) := by decide +kernel
theorem dX11_passDays_28 : decode cX11_passDays 28 = .ok (.getfield 67, 3) := by decide +kernel
theorem dX11_passDays_31 : decode cX11_passDays 31 = .ok (.aload_n 1, 1) := by decide +kernel
theorem dX11_passDays_32 : decode cX11_passDays 32 = .ok (.aload_n 0, 1) := by decide +kernel
theorem dX11_passDays_33 : decode cX11_passDays 33 = .ok (.getfield 55, 3) := by decide +kernel
theorem dX11_passDays_36 : decode cX11_passDays 36 = .ok (.invokevirtual 284, 3) := by decide +kernel
theorem dX11_passDays_39 : decode cX11_passDays 39 = .ok (.iconst 0, 1) := by decide +kernel
theorem dX11_passDays_40 : decode cX11_passDays 40 = .ok (.istore 5, 2) := by decide +kernel
theorem dX11_passDays_42 : decode cX11_passDays 42 = .ok (.iload 5, 2) := by decide +kernel
theorem dX11_passDays_44 : decode cX11_passDays 44 = .ok (.bipush 24, 2) := by decide +kernel
theorem dX11_passDays_46 : decode cX11_passDays 46 = .ok (.if_icmp .ge 16, 3) := by decide +kernel
theorem dX11_passDays_49 : decode cX11_passDays 49 = .ok (.aload_n 0, 1) := by decide +kernel
theorem dX11_passDays_50 : decode cX11_passDays 50 = .ok (.aload_n 1, 1) := by decide +kernel
theorem dX11_passDays_51 : decode cX11_passDays 51 = .ok (.iload 5, 2) := by decide +kernel
theorem dX11_passDays_53 : decode cX11_passDays 53 = .ok (.invokevirtual 288, 3) := by decide +kernel
theorem dX11_passDays_56 : decode cX11_passDays 56 = .ok (.iinc 5 1, 3) := by decide +kernel
theorem dX11_passDays_59 : decode cX11_passDays 59 = .ok (.goto (-17), 3) := by decide +kernel
theorem dX11_passDays_62 : decode cX11_passDays 62 = .ok (.aload_n 1, 1) := by decide +kernel
theorem dX11_passDays_63 : decode cX11_passDays 63 = .ok (.invokevirtual 292, 3) := by decide +kernel
theorem dX11_passDays_66 : decode cX11_passDays 66 = .ok (.aload_n 0, 1) := by decide +kernel
theorem dX11_passDays_67 : decode cX11_passDays 67 = .ok (.aload_n 1, 1) := by decide +kernel
theorem dX11_passDays_68 : decode cX11_passDays 68 = .ok (.invokevirtual 295, 3) := by decide +kernel
theorem dX11_passDays_71 : decode cX11_passDays 71 = .ok (.aload_n 1, 1) := by decide +kernel
theorem dX11_passDays_72 : decode cX11_passDays 72 = .ok (.invokevirtual 298, 3) := by decide +kernel
theorem dX11_passDays_75 : decode cX11_passDays 75 = .ok (.iinc 4 1, 3) := by decide +kernel
theorem dX11_passDays_78 : decode cX11_passDays 78 = .ok (.goto (-67), 3) := by decide +kernel
theorem dX11_passDays_81 : decode cX11_passDays 81 = .ok (.iload_n 3, 1) := by decide +kernel
theorem dX11_passDays_82 : decode cX11_passDays 82 = .ok (.aload_n 1, 1) := by decide +kernel
theorem dX11_passDays_83 : decode cX11_passDays 83 = .ok (.getfield 113, 3) := by decide +kernel
theorem dX11_passDays_86 : decode cX11_passDays 86 = .ok (.invokestatic 279, 3) := by decide +kernel
theorem dX11_passDays_89 : decode cX11_passDays 89 = .ok (.isub, 1) := by decide +kernel
theorem dX11_passDays_90 : decode cX11_passDays 90 = .ok (.ireturn, 1) := by decide +kernel
theorem dX11_days_0 : decode cX11_days 0 = .ok (.iload_n 1, 1) := by decide +kernel
theorem dX11_days_1 : decode cX11_days 1 = .ok (.iconst 1, 1) := by decide +kernel
theorem dX11_days_2 : decode cX11_days 2 = .ok (.bipush 60, 2) := by decide +kernel
theorem dX11_days_4 : decode cX11_days 4 = .ok (.invokestatic 96, 3) := by decide +kernel
theorem dX11_days_7 : decode cX11_days 7 = .ok (.ifCond .ne 5, 3) := by decide +kernel
theorem dX11_days_10 : decode cX11_days 10 = .ok (.iconst (-1), 1) := by decide +kernel
theorem dX11_days_11 : decode cX11_days 11 = .ok (.ireturn, 1) := by decide +kernel
theorem dX11_days_12 : decode cX11_days 12 = .ok (.aload_n 0, 1) := by decide +kernel
theorem dX11_days_13 : decode cX11_days 13 = .ok (.aload_n 0, 1) := by decide +kernel
theorem dX11_days_14 : decode cX11_days 14 = .ok (.getfield 19, 3) := by decide +kernel
theorem dX11_days_17 : decode cX11_days 17 = .ok (.iload_n 1, 1) := by decide +kernel
theorem dX11_days_18 : decode cX11_days 18 = .ok (.invokevirtual 155, 3) := by decide +kernel
theorem dX11_days_21 : decode cX11_days 21 = .ok (.ireturn, 1) := by decide +kernel
theorem dX11_tried_0 : decode cX11_tried 0 = .ok (.iload_n 2, 1) := by decide +kernel
theorem dX11_tried_1 : decode cX11_tried 1 = .ok (.bipush 100, 2) := by decide +kernel
theorem dX11_tried_3 : decode cX11_tried 3 = .ok (.if_icmp .lt 21, 3) := by decide +kernel
theorem dX11_tried_6 : decode cX11_tried 6 = .ok (.aload_n 0, 1) := by decide +kernel
theorem dX11_tried_7 : decode cX11_tried 7 = .ok (.getfield 19, 3) := by decide +kernel
theorem dX11_tried_10 : decode cX11_tried 10 = .ok (.iload_n 2, 1) := by decide +kernel
theorem dX11_tried_11 : decode cX11_tried 11 = .ok (.bipush 100, 2) := by decide +kernel
theorem dX11_tried_13 : decode cX11_tried 13 = .ok (.isub, 1) := by decide +kernel
theorem dX11_tried_14 : decode cX11_tried 14 = .ok (.invokevirtual 159, 3) := by decide +kernel
theorem dX11_tried_17 : decode cX11_tried 17 = .ok (.ifCond .eq 7, 3) := by decide +kernel
theorem dX11_tried_20 : decode cX11_tried 20 = .ok (.iconst 1, 1) := by decide +kernel
theorem dX11_tried_21 : decode cX11_tried 21 = .ok (.goto 4, 3) := by decide +kernel
theorem dX11_tried_24 : decode cX11_tried 24 = .ok (.iconst 0, 1) := by decide +kernel
theorem dX11_tried_25 : decode cX11_tried 25 = .ok (.istore_n 3, 1) := by decide +kernel
theorem dX11_tried_26 : decode cX11_tried 26 = .ok (.iload_n 2, 1) := by decide +kernel
theorem dX11_tried_27 : decode cX11_tried 27 = .ok (.sipush 200, 3) := by decide +kernel
theorem dX11_tried_30 : decode cX11_tried 30 = .ok (.if_icmp .lt 25, 3) := by decide +kernel
theorem dX11_tried_33 : decode cX11_tried 33 = .ok (.aload_n 0, 1) := by decide +kernel
theorem dX11_tried_34 : decode cX11_tried 34 = .ok (.getfield 19, 3) := by decide +kernel
theorem dX11_tried_37 : decode cX11_tried 37 = .ok (.getfield 143, 3) := by decide +kernel
theorem dX11_tried_40 : decode cX11_tried 40 = .ok (.iload_n 2, 1) := by decide +kernel
theorem dX11_tried_41 : decode cX11_tried 41 = .ok (.sipush 200, 3) := by decide +kernel
theorem dX11_tried_44 : decode cX11_tried 44 = .ok (.isub, 1) := by decide +kernel
theorem dX11_tried_45 : decode cX11_tried 45 = .ok (.invokevirtual 162, 3) := by decide +kernel
theorem dX11_tried_48 : decode cX11_tried 48 = .ok (.ifCond .eq 7, 3) := by decide +kernel
theorem dX11_tried_51 : decode cX11_tried 51 = .ok (.iconst 1, 1) := by decide +kernel
theorem dX11_tried_52 : decode cX11_tried 52 = .ok (.goto 4, 3) := by decide +kernel
theorem dX11_tried_55 : decode cX11_tried 55 = .ok (.iconst 0, 1) := by decide +kernel
theorem dX11_tried_56 : decode cX11_tried 56 = .ok (.istore 4, 2) := by decide +kernel
theorem dX11_tried_58 : decode cX11_tried 58 = .ok (.iload_n 1, 1) := by decide +kernel
theorem dX11_tried_59 : decode cX11_tried 59 = .ok (.iconst 1, 1) := by decide +kernel
theorem dX11_tried_60 : decode cX11_tried 60 = .ok (.bipush 60, 2) := by decide +kernel
theorem dX11_tried_62 : decode cX11_tried 62 = .ok (.invokestatic 96, 3) := by decide +kernel
theorem dX11_tried_65 : decode cX11_tried 65 = .ok (.ifCond .eq 21, 3) := by decide +kernel
theorem dX11_tried_68 : decode cX11_tried 68 = .ok (.iload_n 2, 1) := by decide +kernel
theorem dX11_tried_69 : decode cX11_tried 69 = .ok (.iconst 0, 1) := by decide +kernel
theorem dX11_tried_70 : decode cX11_tried 70 = .ok (.iconst 2, 1) := by decide +kernel
theorem dX11_tried_71 : decode cX11_tried 71 = .ok (.invokestatic 96, 3) := by decide +kernel
theorem dX11_tried_74 : decode cX11_tried 74 = .ok (.ifCond .ne 14, 3) := by decide +kernel
theorem dX11_tried_77 : decode cX11_tried 77 = .ok (.iload_n 3, 1) := by decide +kernel
theorem dX11_tried_78 : decode cX11_tried 78 = .ok (.ifCond .ne 10, 3) := by decide +kernel
theorem dX11_tried_81 : decode cX11_tried 81 = .ok (.iload 4, 2) := by decide +kernel
theorem dX11_tried_83 : decode cX11_tried 83 = .ok (.ifCond .ne 5, 3) := by decide +kernel
theorem dX11_tried_86 : decode cX11_tried 86 = .ok (.iconst (-1), 1) := by decide +kernel
theorem dX11_tried_87 : decode cX11_tried 87 = .ok (.ireturn, 1) := by decide +kernel
theorem dX11_tried_88 : decode cX11_tried 88 = .ok (.aload_n 0, 1) := by decide +kernel
theorem dX11_tried_89 : decode cX11_tried 89 = .ok (.getfield 26, 3) := by decide +kernel
theorem dX11_tried_92 : decode cX11_tried 92 = .ok (.aload_n 0, 1) := by decide +kernel
theorem dX11_tried_93 : decode cX11_tried 93 = .ok (.getfield 19, 3) := by decide +kernel
theorem dX11_tried_96 : decode cX11_tried 96 = .ok (.invokevirtual 163, 3) := by decide +kernel
theorem dX11_tried_99 : decode cX11_tried 99 = .ok (.aload_n 0, 1) := by decide +kernel
theorem dX11_tried_100 : decode cX11_tried 100 = .ok (.aload_n 0, 1) := by decide +kernel
theorem dX11_tried_101 : decode cX11_tried 101 = .ok (.getfield 26, 3) := by decide +kernel
theorem dX11_tried_104 : decode cX11_tried 104 = .ok (.iload_n 1, 1) := by decide +kernel
theorem dX11_tried_105 : decode cX11_tried 105 = .ok (.invokevirtual 155, 3) := by decide +kernel
theorem dX11_tried_108 : decode cX11_tried 108 = .ok (.istore 5, 2) := by decide +kernel
theorem dX11_tried_110 : decode cX11_tried 110 = .ok (.iload 4, 2) := by decide +kernel
theorem dX11_tried_112 : decode cX11_tried 112 = .ok (.ifCond .eq 19, 3) := by decide +kernel
theorem dX11_tried_115 : decode cX11_tried 115 = .ok (.aload_n 0, 1) := by decide +kernel
theorem dX11_tried_116 : decode cX11_tried 116 = .ok (.getfield 26, 3) := by decide +kernel
theorem dX11_tried_119 : decode cX11_tried 119 = .ok (.getfield 143, 3) := by decide +kernel
theorem dX11_tried_122 : decode cX11_tried 122 = .ok (.iload_n 2, 1) := by decide +kernel
theorem dX11_tried_123 : decode cX11_tried 123 = .ok (.sipush 200, 3) := by decide +kernel
theorem dX11_tried_126 : decode cX11_tried 126 = .ok (.isub, 1) := by decide +kernel
theorem dX11_tried_127 : decode cX11_tried 127 = .ok (.invokevirtual 166, 3) := by decide +kernel
theorem dX11_tried_130 : decode cX11_tried 130 = .ok (.ireturn, 1) := by decide +kernel
theorem dX11_tried_131 : decode cX11_tried 131 = .ok (.iload_n 3, 1) := by decide +kernel
theorem dX11_tried_132 : decode cX11_tried 132 = .ok (.ifCond .eq 15, 3) := by decide +kernel
theorem dX11_tried_135 : decode cX11_tried 135 = .ok (.aload_n 0, 1) := by decide +kernel
theorem dX11_tried_136 : decode cX11_tried 136 = .ok (.getfield 26, 3) := by decide +kernel
theorem dX11_tried_139 : decode cX11_tried 139 = .ok (.iload_n 2, 1) := by decide +kernel
theorem dX11_tried_140 : decode cX11_tried 140 = .ok (.bipush 100, 2) := by decide +kernel
theorem dX11_tried_142 : decode cX11_tried 142 = .ok (.isub, 1) := by decide +kernel
theorem dX11_tried_143 : decode cX11_tried 143 = .ok (.invokevirtual 169, 3) := by decide +kernel
theorem dX11_tried_146 : decode cX11_tried 146 = .ok (.ireturn, 1) := by decide +kernel
theorem dX11_tried_147 : decode cX11_tried 147 = .ok (.iload_n 2, 1) := by decide +kernel
theorem dX11_tried_148 : decode cX11_tried 148 = .ok (.ifCond .ne 6, 3) := by decide +kernel
theorem dX11_tried_151 : decode cX11_tried 151 = .ok (.iload 5, 2) := by decide +kernel
theorem dX11_tried_153 : decode cX11_tried 153 = .ok (.ireturn, 1) := by decide +kernel
theorem dX11_tried_154 : decode cX11_tried 154 = .ok (.iload_n 2, 1) := by decide +kernel
theorem dX11_tried_155 : decode cX11_tried 155 = .ok (.iconst 1, 1) := by decide +kernel
theorem dX11_tried_156 : decode cX11_tried 156 = .ok (.if_icmp .ne 13, 3) := by decide +kernel
theorem dX11_tried_159 : decode cX11_tried 159 = .ok (.aload_n 0, 1) := by decide +kernel
theorem dX11_tried_160 : decode cX11_tried 160 = .ok (.getfield 26, 3) := by decide +kernel
theorem dX11_tried_163 : decode cX11_tried 163 = .ok (.getfield 172, 3) := by decide +kernel
theorem dX11_tried_166 : decode cX11_tried 166 = .ok (.goto 10, 3) := by decide +kernel
theorem dX11_tried_169 : decode cX11_tried 169 = .ok (.aload_n 0, 1) := by decide +kernel
theorem dX11_tried_170 : decode cX11_tried 170 = .ok (.getfield 26, 3) := by decide +kernel
theorem dX11_tried_173 : decode cX11_tried 173 = .ok (.getfield 113, 3) := by decide +kernel
theorem dX11_tried_176 : decode cX11_tried 176 = .ok (.ireturn, 1) := by decide +kernel
theorem dX11_personIs_0 : decode cX11_personIs 0 = .ok (.aload_n 0, 1) := by decide +kernel
theorem dX11_personIs_1 : decode cX11_personIs 1 = .ok (.getfield 19, 3) := by decide +kernel
theorem dX11_personIs_4 : decode cX11_personIs 4 = .ok (.iload_n 1, 1) := by decide +kernel
theorem dX11_personIs_5 : decode cX11_personIs 5 = .ok (.invokevirtual 159, 3) := by decide +kernel
theorem dX11_personIs_8 : decode cX11_personIs 8 = .ok (.ifCond .ne 6, 3) := by decide +kernel
theorem dX11_personIs_11 : decode cX11_personIs 11 = .ok (.ldc 175, 2) := by decide +kernel
theorem dX11_personIs_13 : decode cX11_personIs 13 = .ok (.ireturn, 1) := by decide +kernel
theorem dX11_personIs_14 : decode cX11_personIs 14 = .ok (.iload_n 2, 1) := by decide +kernel
theorem dX11_personIs_15 : decode cX11_personIs 15 = .ok (.tableswitch 89 0 4 #[33, 42, 51, 68, 77], 33) := by decide +kernel
theorem dX11_personIs_48 : decode cX11_personIs 48 = .ok (.aload_n 0, 1) := by decide +kernel
theorem dX11_personIs_49 : decode cX11_personIs 49 = .ok (.getfield 19, 3) := by decide +kernel
theorem dX11_personIs_52 : decode cX11_personIs 52 = .ok (.iload_n 1, 1) := by decide +kernel
theorem dX11_personIs_53 : decode cX11_personIs 53 = .ok (.invokevirtual 169, 3) := by decide +kernel
theorem dX11_personIs_56 : decode cX11_personIs 56 = .ok (.ireturn, 1) := by decide +kernel
theorem dX11_personIs_57 : decode cX11_personIs 57 = .ok (.aload_n 0, 1) := by decide +kernel
theorem dX11_personIs_58 : decode cX11_personIs 58 = .ok (.getfield 19, 3) := by decide +kernel
theorem dX11_personIs_61 : decode cX11_personIs 61 = .ok (.iload_n 1, 1) := by decide +kernel
theorem dX11_personIs_62 : decode cX11_personIs 62 = .ok (.invokevirtual 176, 3) := by decide +kernel
theorem dX11_personIs_65 : decode cX11_personIs 65 = .ok (.ireturn, 1) := by decide +kernel
theorem dX11_personIs_66 : decode cX11_personIs 66 = .ok (.aload_n 0, 1) := by decide +kernel
theorem dX11_personIs_67 : decode cX11_personIs 67 = .ok (.getfield 19, 3) := by decide +kernel
theorem dX11_personIs_70 : decode cX11_personIs 70 = .ok (.iload_n 1, 1) := by decide +kernel
theorem dX11_personIs_71 : decode cX11_personIs 71 = .ok (.invokevirtual 179, 3) := by decide +kernel
theorem dX11_personIs_74 : decode cX11_personIs 74 = .ok (.ifCond .eq 7, 3) := by decide +kernel
theorem dX11_personIs_77 : decode cX11_personIs 77 = .ok (.iconst 1, 1) := by decide +kernel
theorem dX11_personIs_78 : decode cX11_personIs 78 = .ok (.goto 4, 3) := by decide +kernel
theorem dX11_personIs_81 : decode cX11_personIs 81 = .ok (.iconst 0, 1) := by decide +kernel
theorem dX11_personIs_82 : decode cX11_personIs 82 = .ok (.ireturn, 1) := by decide +kernel
theorem dX11_personIs_83 : decode cX11_personIs 83 = .ok (.aload_n 0, 1) := by decide +kernel
theorem dX11_personIs_84 : decode cX11_personIs 84 = .ok (.getfield 34, 3) := by decide +kernel
theorem dX11_personIs_87 : decode cX11_personIs 87 = .ok (.iload_n 1, 1) := by decide +kernel
theorem dX11_personIs_88 : decode cX11_personIs 88 = .ok (.invokevirtual 182, 3) := by decide +kernel
theorem dX11_personIs_91 : decode cX11_personIs 91 = .ok (.ireturn, 1) := by decide +kernel
theorem dX11_personIs_92 : decode cX11_personIs 92 = .ok (.aload_n 0, 1) := by decide +kernel
theorem dX11_personIs_93 : decode cX11_personIs 93 = .ok (.getfield 19, 3) := by decide +kernel
theorem dX11_personIs_96 : decode cX11_personIs 96 = .ok (.getfield 143, 3) := by decide +kernel
theorem dX11_personIs_99 : decode cX11_personIs 99 = .ok (.iload_n 1, 1) := by decide +kernel
theorem dX11_personIs_100 : decode cX11_personIs 100 = .ok (.invokevirtual 185, 3) := by decide +kernel
theorem dX11_personIs_103 : decode cX11_personIs 103 = .ok (.ireturn, 1) := by decide +kernel
theorem dX11_personIs_104 : decode cX11_personIs 104 = .ok (.ldc 175, 2) := by decide +kernel
theorem dX11_personIs_106 : decode cX11_personIs 106 = .ok (.ireturn, 1) := by decide +kernel
theorem dX11_loanIs_0 : decode cX11_loanIs 0 = .ok (.aload_n 0, 1) := by decide +kernel
theorem dX11_loanIs_1 : decode cX11_loanIs 1 = .ok (.getfield 19, 3) := by decide +kernel
theorem dX11_loanIs_4 : decode cX11_loanIs 4 = .ok (.getfield 143, 3) := by decide +kernel
theorem dX11_loanIs_7 : decode cX11_loanIs 7 = .ok (.iload_n 1, 1) := by decide +kernel
theorem dX11_loanIs_8 : decode cX11_loanIs 8 = .ok (.iload_n 2, 1) := by decide +kernel
theorem dX11_loanIs_9 : decode cX11_loanIs 9 = .ok (.invokevirtual 188, 3) := by decide +kernel
theorem dX11_loanIs_12 : decode cX11_loanIs 12 = .ok (.ireturn, 1) := by decide +kernel
theorem dX11_dies_0 : decode cX11_dies 0 = .ok (.aload_n 0, 1) := by decide +kernel
theorem dX11_dies_1 : decode cX11_dies 1 = .ok (.getfield 19, 3) := by decide +kernel
theorem dX11_dies_4 : decode cX11_dies 4 = .ok (.iload_n 1, 1) := by decide +kernel
theorem dX11_dies_5 : decode cX11_dies 5 = .ok (.invokevirtual 159, 3) := by decide +kernel
theorem dX11_dies_8 : decode cX11_dies 8 = .ok (.ifCond .eq 13, 3) := by decide +kernel
theorem dX11_dies_11 : decode cX11_dies 11 = .ok (.iload_n 2, 1) := by decide +kernel
theorem dX11_dies_12 : decode cX11_dies 12 = .ok (.iconst 1, 1) := by decide +kernel
theorem dX11_dies_13 : decode cX11_dies 13 = .ok (.bipush 60, 2) := by decide +kernel
theorem dX11_dies_15 : decode cX11_dies 15 = .ok (.invokestatic 96, 3) := by decide +kernel
theorem dX11_dies_18 : decode cX11_dies 18 = .ok (.ifCond .ne 5, 3) := by decide +kernel
theorem dX11_dies_21 : decode cX11_dies 21 = .ok (.iconst (-1), 1) := by decide +kernel
theorem dX11_dies_22 : decode cX11_dies 22 = .ok (.ireturn, 1) := by decide +kernel
theorem dX11_dies_23 : decode cX11_dies 23 = .ok (.aload_n 0, 1) := by decide +kernel
theorem dX11_dies_24 : decode cX11_dies 24 = .ok (.getfield 19, 3) := by decide +kernel
theorem dX11_dies_27 : decode cX11_dies 27 = .ok (.iload_n 1, 1) := by decide +kernel
theorem dX11_dies_28 : decode cX11_dies 28 = .ok (.invokevirtual 179, 3) := by decide +kernel
theorem dX11_dies_31 : decode cX11_dies 31 = .ok (.ifCond .ne 5, 3) := by decide +kernel
theorem dX11_dies_34 : decode cX11_dies 34 = .ok (.iconst 0, 1) := by decide +kernel
theorem dX11_dies_35 : decode cX11_dies 35 = .ok (.ireturn, 1) := by decide +kernel
theorem dX11_dies_36 : decode cX11_dies 36 = .ok (.aload_n 0, 1) := by decide +kernel
theorem dX11_dies_37 : decode cX11_dies 37 = .ok (.getfield 26, 3) := by decide +kernel
theorem dX11_dies_40 : decode cX11_dies 40 = .ok (.aload_n 0, 1) := by decide +kernel
theorem dX11_dies_41 : decode cX11_dies 41 = .ok (.getfield 19, 3) := by decide +kernel
theorem dX11_dies_44 : decode cX11_dies 44 = .ok (.invokevirtual 163, 3) := by decide +kernel
theorem dX11_dies_47 : decode cX11_dies 47 = .ok (.iconst 1, 1) := by decide +kernel
theorem dX11_dies_48 : decode cX11_dies 48 = .ok (.istore_n 3, 1) := by decide +kernel
theorem dX11_dies_49 : decode cX11_dies 49 = .ok (.iload_n 3, 1) := by decide +kernel
theorem dX11_dies_50 : decode cX11_dies 50 = .ok (.iload_n 2, 1) := by decide +kernel
theorem dX11_dies_51 : decode cX11_dies 51 = .ok (.if_icmp .gt 32, 3) := by decide +kernel
theorem dX11_dies_54 : decode cX11_dies 54 = .ok (.aload_n 0, 1) := by decide +kernel
theorem dX11_dies_55 : decode cX11_dies 55 = .ok (.aload_n 0, 1) := by decide +kernel
theorem dX11_dies_56 : decode cX11_dies 56 = .ok (.getfield 26, 3) := by decide +kernel
theorem dX11_dies_59 : decode cX11_dies 59 = .ok (.iconst 1, 1) := by decide +kernel
theorem dX11_dies_60 : decode cX11_dies 60 = .ok (.invokevirtual 155, 3) := by decide +kernel
theorem dX11_dies_63 : decode cX11_dies 63 = .ok (.pop, 1) := by decide +kernel
theorem dX11_dies_64 : decode cX11_dies 64 = .ok (.aload_n 0, 1) := by decide +kernel
theorem dX11_dies_65 : decode cX11_dies 65 = .ok (.getfield 26, 3) := by decide +kernel
theorem dX11_dies_68 : decode cX11_dies 68 = .ok (.iload_n 1, 1) := by decide +kernel
theorem dX11_dies_69 : decode cX11_dies 69 = .ok (.invokevirtual 179, 3) := by decide +kernel
theorem dX11_dies_72 : decode cX11_dies 72 = .ok (.ifCond .ne 5, 3) := by decide +kernel
theorem dX11_dies_75 : decode cX11_dies 75 = .ok (.iload_n 3, 1) := by decide +kernel
theorem dX11_dies_76 : decode cX11_dies 76 = .ok (.ireturn, 1) := by decide +kernel
theorem dX11_dies_77 : decode cX11_dies 77 = .ok (.iinc 3 1, 3) := by decide +kernel
theorem dX11_dies_80 : decode cX11_dies 80 = .ok (.goto (-31), 3) := by decide +kernel
theorem dX11_dies_83 : decode cX11_dies 83 = .ok (.bipush (-2), 2) := by decide +kernel
theorem dX11_dies_85 : decode cX11_dies 85 = .ok (.ireturn, 1) := by decide +kernel
theorem dX11_costOf_0 : decode cX11_costOf 0 = .ok (.iconst 0, 1) := by decide +kernel
theorem dX11_costOf_1 : decode cX11_costOf 1 = .ok (.istore 4, 2) := by decide +kernel
theorem dX11_costOf_3 : decode cX11_costOf 3 = .ok (.aload_n 0, 1) := by decide +kernel
theorem dX11_costOf_4 : decode cX11_costOf 4 = .ok (.getfield 67, 3) := by decide +kernel
theorem dX11_costOf_7 : decode cX11_costOf 7 = .ok (.aload_n 0, 1) := by decide +kernel
theorem dX11_costOf_8 : decode cX11_costOf 8 = .ok (.getfield 19, 3) := by decide +kernel
theorem dX11_costOf_11 : decode cX11_costOf 11 = .ok (.aload_n 0, 1) := by decide +kernel
theorem dX11_costOf_12 : decode cX11_costOf 12 = .ok (.getfield 55, 3) := by decide +kernel
theorem dX11_costOf_15 : decode cX11_costOf 15 = .ok (.invokevirtual 284, 3) := by decide +kernel
theorem dX11_costOf_18 : decode cX11_costOf 18 = .ok (.iload_n 2, 1) := by decide +kernel
theorem dX11_costOf_19 : decode cX11_costOf 19 = .ok (.istore 5, 2) := by decide +kernel
theorem dX11_costOf_21 : decode cX11_costOf 21 = .ok (.iload 5, 2) := by decide +kernel
theorem dX11_costOf_23 : decode cX11_costOf 23 = .ok (.iload_n 3, 1) := by decide +kernel
theorem dX11_costOf_24 : decode cX11_costOf 24 = .ok (.if_icmp .ge 44, 3) := by decide +kernel
theorem dX11_costOf_27 : decode cX11_costOf 27 = .ok (.aload_n 0, 1) := by decide +kernel
theorem dX11_costOf_28 : decode cX11_costOf 28 = .ok (.getfield 67, 3) := by decide +kernel
theorem dX11_costOf_31 : decode cX11_costOf 31 = .ok (.iload_n 1, 1) := by decide +kernel
theorem dX11_costOf_32 : decode cX11_costOf 32 = .ok (.iload 5, 2) := by decide +kernel
theorem dX11_costOf_34 : decode cX11_costOf 34 = .ok (.iconst 0, 1) := by decide +kernel
theorem dX11_costOf_35 : decode cX11_costOf 35 = .ok (.iconst 0, 1) := by decide +kernel
theorem dX11_costOf_36 : decode cX11_costOf 36 = .ok (.invokevirtual 304, 3) := by decide +kernel
theorem dX11_costOf_39 : decode cX11_costOf 39 = .ok (.iload 4, 2) := by decide +kernel
theorem dX11_costOf_41 : decode cX11_costOf 41 = .ok (.bipush 60, 2) := by decide +kernel
theorem dX11_costOf_43 : decode cX11_costOf 43 = .ok (.aload_n 0, 1) := by decide +kernel
theorem dX11_costOf_44 : decode cX11_costOf 44 = .ok (.getfield 67, 3) := by decide +kernel
theorem dX11_costOf_47 : decode cX11_costOf 47 = .ok (.bipush 112, 2) := by decide +kernel
theorem dX11_costOf_49 : decode cX11_costOf 49 = .ok (.bipush 60, 2) := by decide +kernel
theorem dX11_costOf_51 : decode cX11_costOf 51 = .ok (.iconst 1, 1) := by decide +kernel
theorem dX11_costOf_52 : decode cX11_costOf 52 = .ok (.sipush 255, 3) := by decide +kernel
theorem dX11_costOf_55 : decode cX11_costOf 55 = .ok (.invokevirtual 308, 3) := by decide +kernel
theorem dX11_costOf_58 : decode cX11_costOf 58 = .ok (.imul, 1) := by decide +kernel
theorem dX11_costOf_59 : decode cX11_costOf 59 = .ok (.iadd, 1) := by decide +kernel
theorem dX11_costOf_60 : decode cX11_costOf 60 = .ok (.istore 4, 2) := by decide +kernel
theorem dX11_costOf_62 : decode cX11_costOf 62 = .ok (.iinc 5 1, 3) := by decide +kernel
theorem dX11_costOf_65 : decode cX11_costOf 65 = .ok (.goto (-44), 3) := by decide +kernel
theorem dX11_costOf_68 : decode cX11_costOf 68 = .ok (.iload 4, 2) := by decide +kernel
theorem dX11_costOf_70 : decode cX11_costOf 70 = .ok (.ireturn, 1) := by decide +kernel
theorem dX11_costs_0 : decode cX11_costs 0 = .ok (.aload_n 0, 1) := by decide +kernel
theorem dX11_costs_1 : decode cX11_costs 1 = .ok (.getfield 19, 3) := by decide +kernel
theorem dX11_costs_4 : decode cX11_costs 4 = .ok (.iload_n 1, 1) := by decide +kernel
theorem dX11_costs_5 : decode cX11_costs 5 = .ok (.invokevirtual 179, 3) := by decide +kernel
theorem dX11_costs_8 : decode cX11_costs 8 = .ok (.ifCond .eq 13, 3) := by decide +kernel
theorem dX11_costs_11 : decode cX11_costs 11 = .ok (.iload_n 2, 1) := by decide +kernel
theorem dX11_costs_12 : decode cX11_costs 12 = .ok (.iconst 0, 1) := by decide +kernel
theorem dX11_costs_13 : decode cX11_costs 13 = .ok (.bipush 24, 2) := by decide +kernel
theorem dX11_costs_15 : decode cX11_costs 15 = .ok (.invokestatic 96, 3) := by decide +kernel
theorem dX11_costs_18 : decode cX11_costs 18 = .ok (.ifCond .ne 5, 3) := by decide +kernel
theorem dX11_costs_21 : decode cX11_costs 21 = .ok (.iconst (-1), 1) := by decide +kernel
theorem dX11_costs_22 : decode cX11_costs 22 = .ok (.ireturn, 1) := by decide +kernel
theorem dX11_costs_23 : decode cX11_costs 23 = .ok (.iload_n 2, 1) := by decide +kernel
theorem dX11_costs_24 : decode cX11_costs 24 = .ok (.bipush 24, 2) := by decide +kernel
theorem dX11_costs_26 : decode cX11_costs 26 = .ok (.if_icmp .ne 14, 3) := by decide +kernel
theorem dX11_costs_29 : decode cX11_costs 29 = .ok (.aload_n 0, 1) := by decide +kernel
theorem dX11_costs_30 : decode cX11_costs 30 = .ok (.iload_n 1, 1) := by decide +kernel
theorem dX11_costs_31 : decode cX11_costs 31 = .ok (.iconst 0, 1) := by decide +kernel
theorem dX11_costs_32 : decode cX11_costs 32 = .ok (.bipush 24, 2) := by decide +kernel
theorem dX11_costs_34 : decode cX11_costs 34 = .ok (.invokevirtual 192, 3) := by decide +kernel
theorem dX11_costs_37 : decode cX11_costs 37 = .ok (.goto 12, 3) := by decide +kernel
theorem dX11_costs_40 : decode cX11_costs 40 = .ok (.aload_n 0, 1) := by decide +kernel
theorem dX11_costs_41 : decode cX11_costs 41 = .ok (.iload_n 1, 1) := by decide +kernel
theorem dX11_costs_42 : decode cX11_costs 42 = .ok (.iload_n 2, 1) := by decide +kernel
theorem dX11_costs_43 : decode cX11_costs 43 = .ok (.iload_n 2, 1) := by decide +kernel
theorem dX11_costs_44 : decode cX11_costs 44 = .ok (.iconst 1, 1) := by decide +kernel
theorem dX11_costs_45 : decode cX11_costs 45 = .ok (.iadd, 1) := by decide +kernel
theorem dX11_costs_46 : decode cX11_costs 46 = .ok (.invokevirtual 192, 3) := by decide +kernel
theorem dX11_costs_49 : decode cX11_costs 49 = .ok (.ireturn, 1) := by decide +kernel
theorem dX11_paidOff_0 : decode cX11_paidOff 0 = .ok (.aload_n 0, 1) := by decide +kernel
theorem dX11_paidOff_1 : decode cX11_paidOff 1 = .ok (.getfield 19, 3) := by decide +kernel
theorem dX11_paidOff_4 : decode cX11_paidOff 4 = .ok (.getfield 143, 3) := by decide +kernel
theorem dX11_paidOff_7 : decode cX11_paidOff 7 = .ok (.iload_n 1, 1) := by decide +kernel
theorem dX11_paidOff_8 : decode cX11_paidOff 8 = .ok (.invokevirtual 162, 3) := by decide +kernel
theorem dX11_paidOff_11 : decode cX11_paidOff 11 = .ok (.ifCond .ne 5, 3) := by decide +kernel
theorem dX11_paidOff_14 : decode cX11_paidOff 14 = .ok (.iconst (-1), 1) := by decide +kernel
theorem dX11_paidOff_15 : decode cX11_paidOff 15 = .ok (.ireturn, 1) := by decide +kernel
theorem dX11_paidOff_16 : decode cX11_paidOff 16 = .ok (.aload_n 0, 1) := by decide +kernel
theorem dX11_paidOff_17 : decode cX11_paidOff 17 = .ok (.getfield 19, 3) := by decide +kernel
theorem dX11_paidOff_20 : decode cX11_paidOff 20 = .ok (.getfield 143, 3) := by decide +kernel
theorem dX11_paidOff_23 : decode cX11_paidOff 23 = .ok (.iload_n 1, 1) := by decide +kernel
theorem dX11_paidOff_24 : decode cX11_paidOff 24 = .ok (.invokevirtual 166, 3) := by decide +kernel
theorem dX11_paidOff_27 : decode cX11_paidOff 27 = .ok (.istore_n 2, 1) := by decide +kernel
theorem dX11_paidOff_28 : decode cX11_paidOff 28 = .ok (.iconst 0, 1) := by decide +kernel
theorem dX11_paidOff_29 : decode cX11_paidOff 29 = .ok (.istore_n 3, 1) := by decide +kernel
theorem dX11_paidOff_30 : decode cX11_paidOff 30 = .ok (.iload_n 3, 1) := by decide +kernel
theorem dX11_paidOff_31 : decode cX11_paidOff 31 = .ok (.sipush 3650, 3) := by decide +kernel
theorem dX11_paidOff_34 : decode cX11_paidOff 34 = .ok (.if_icmp .gt 28, 3) := by decide +kernel
theorem dX11_paidOff_37 : decode cX11_paidOff 37 = .ok (.iload_n 2, 1) := by decide +kernel
theorem dX11_paidOff_38 : decode cX11_paidOff 38 = .ok (.ifCond .ne 5, 3) := by decide +kernel
theorem dX11_paidOff_41 : decode cX11_paidOff 41 = .ok (.iload_n 3, 1) := by decide +kernel
theorem dX11_paidOff_42 : decode cX11_paidOff 42 = .ok (.ireturn, 1) := by decide +kernel
theorem dX11_paidOff_43 : decode cX11_paidOff 43 = .ok (.aload_n 0, 1) := by decide +kernel
theorem dX11_paidOff_44 : decode cX11_paidOff 44 = .ok (.getfield 19, 3) := by decide +kernel
theorem dX11_paidOff_47 : decode cX11_paidOff 47 = .ok (.getfield 143, 3) := by decide +kernel
theorem dX11_paidOff_50 : decode cX11_paidOff 50 = .ok (.iload_n 1, 1) := by decide +kernel
theorem dX11_paidOff_51 : decode cX11_paidOff 51 = .ok (.iload_n 2, 1) := by decide +kernel
theorem dX11_paidOff_52 : decode cX11_paidOff 52 = .ok (.invokevirtual 196, 3) := by decide +kernel
theorem dX11_paidOff_55 : decode cX11_paidOff 55 = .ok (.istore_n 2, 1) := by decide +kernel
theorem dX11_paidOff_56 : decode cX11_paidOff 56 = .ok (.iinc 3 1, 3) := by decide +kernel
theorem dX11_paidOff_59 : decode cX11_paidOff 59 = .ok (.goto (-29), 3) := by decide +kernel
theorem dX11_paidOff_62 : decode cX11_paidOff 62 = .ok (.bipush (-2), 2) := by decide +kernel
theorem dX11_paidOff_64 : decode cX11_paidOff 64 = .ok (.ireturn, 1) := by decide +kernel
theorem dX11_dueAfter_0 : decode cX11_dueAfter 0 = .ok (.aload_n 0, 1) := by decide +kernel
theorem dX11_dueAfter_1 : decode cX11_dueAfter 1 = .ok (.getfield 19, 3) := by decide +kernel
theorem dX11_dueAfter_4 : decode cX11_dueAfter 4 = .ok (.getfield 143, 3) := by decide +kernel
theorem dX11_dueAfter_7 : decode cX11_dueAfter 7 = .ok (.iload_n 1, 1) := by decide +kernel
theorem dX11_dueAfter_8 : decode cX11_dueAfter 8 = .ok (.invokevirtual 162, 3) := by decide +kernel
theorem dX11_dueAfter_11 : decode cX11_dueAfter 11 = .ok (.ifCond .eq 14, 3) := by decide +kernel
theorem dX11_dueAfter_14 : decode cX11_dueAfter 14 = .ok (.iload_n 2, 1) := by decide +kernel
theorem dX11_dueAfter_15 : decode cX11_dueAfter 15 = .ok (.iconst 0, 1) := by decide +kernel
theorem dX11_dueAfter_16 : decode cX11_dueAfter 16 = .ok (.sipush 3650, 3) := by decide +kernel
theorem dX11_dueAfter_19 : decode cX11_dueAfter 19 = .ok (.invokestatic 96, 3) := by decide +kernel
theorem dX11_dueAfter_22 : decode cX11_dueAfter 22 = .ok (.ifCond .ne 5, 3) := by decide +kernel
theorem dX11_dueAfter_25 : decode cX11_dueAfter 25 = .ok (.iconst (-1), 1) := by decide +kernel
theorem dX11_dueAfter_26 : decode cX11_dueAfter 26 = .ok (.ireturn, 1) := by decide +kernel
theorem dX11_dueAfter_27 : decode cX11_dueAfter 27 = .ok (.aload_n 0, 1) := by decide +kernel
theorem dX11_dueAfter_28 : decode cX11_dueAfter 28 = .ok (.getfield 19, 3) := by decide +kernel
theorem dX11_dueAfter_31 : decode cX11_dueAfter 31 = .ok (.getfield 143, 3) := by decide +kernel
theorem dX11_dueAfter_34 : decode cX11_dueAfter 34 = .ok (.iload_n 1, 1) := by decide +kernel
theorem dX11_dueAfter_35 : decode cX11_dueAfter 35 = .ok (.invokevirtual 166, 3) := by decide +kernel
theorem dX11_dueAfter_38 : decode cX11_dueAfter 38 = .ok (.istore_n 3, 1) := by decide +kernel
theorem dX11_dueAfter_39 : decode cX11_dueAfter 39 = .ok (.iconst 0, 1) := by decide +kernel
theorem dX11_dueAfter_40 : decode cX11_dueAfter 40 = .ok (.istore 4, 2) := by decide +kernel
theorem dX11_dueAfter_42 : decode cX11_dueAfter 42 = .ok (.iload 4, 2) := by decide +kernel
theorem dX11_dueAfter_44 : decode cX11_dueAfter 44 = .ok (.iload_n 2, 1) := by decide +kernel
theorem dX11_dueAfter_45 : decode cX11_dueAfter 45 = .ok (.if_icmp .ge 22, 3) := by decide +kernel
theorem dX11_dueAfter_48 : decode cX11_dueAfter 48 = .ok (.aload_n 0, 1) := by decide +kernel
theorem dX11_dueAfter_49 : decode cX11_dueAfter 49 = .ok (.getfield 19, 3) := by decide +kernel
theorem dX11_dueAfter_52 : decode cX11_dueAfter 52 = .ok (.getfield 143, 3) := by decide +kernel
theorem dX11_dueAfter_55 : decode cX11_dueAfter 55 = .ok (.iload_n 1, 1) := by decide +kernel
theorem dX11_dueAfter_56 : decode cX11_dueAfter 56 = .ok (.iload_n 3, 1) := by decide +kernel
theorem dX11_dueAfter_57 : decode cX11_dueAfter 57 = .ok (.invokevirtual 196, 3) := by decide +kernel
theorem dX11_dueAfter_60 : decode cX11_dueAfter 60 = .ok (.istore_n 3, 1) := by decide +kernel
theorem dX11_dueAfter_61 : decode cX11_dueAfter 61 = .ok (.iinc 4 1, 3) := by decide +kernel
theorem dX11_dueAfter_64 : decode cX11_dueAfter 64 = .ok (.goto (-22), 3) := by decide +kernel
theorem dX11_dueAfter_67 : decode cX11_dueAfter 67 = .ok (.iload_n 3, 1) := by decide +kernel
theorem dX11_dueAfter_68 : decode cX11_dueAfter 68 = .ok (.ireturn, 1) := by decide +kernel
theorem dX11_hiccups_0 : decode cX11_hiccups 0 = .ok (.iload_n 1, 1) := by decide +kernel
theorem dX11_hiccups_1 : decode cX11_hiccups 1 = .ok (.aload_n 0, 1) := by decide +kernel
theorem dX11_hiccups_2 : decode cX11_hiccups 2 = .ok (.getfield 19, 3) := by decide +kernel
theorem dX11_hiccups_5 : decode cX11_hiccups 5 = .ok (.getfield 109, 3) := by decide +kernel
theorem dX11_hiccups_8 : decode cX11_hiccups 8 = .ok (.iconst (-1), 1) := by decide +kernel
theorem dX11_hiccups_9 : decode cX11_hiccups 9 = .ok (.ixor, 1) := by decide +kernel
theorem dX11_hiccups_10 : decode cX11_hiccups 10 = .ok (.iand, 1) := by decide +kernel
theorem dX11_hiccups_11 : decode cX11_hiccups 11 = .ok (.ifCond .ne 12, 3) := by decide +kernel
theorem dX11_hiccups_14 : decode cX11_hiccups 14 = .ok (.iload_n 2, 1) := by decide +kernel
theorem dX11_hiccups_15 : decode cX11_hiccups 15 = .ok (.iconst 0, 1) := by decide +kernel
theorem dX11_hiccups_16 : decode cX11_hiccups 16 = .ok (.iconst 1, 1) := by decide +kernel
theorem dX11_hiccups_17 : decode cX11_hiccups 17 = .ok (.invokestatic 96, 3) := by decide +kernel
theorem dX11_hiccups_20 : decode cX11_hiccups 20 = .ok (.ifCond .ne 5, 3) := by decide +kernel
theorem dX11_hiccups_23 : decode cX11_hiccups 23 = .ok (.iconst (-1), 1) := by decide +kernel
theorem dX11_hiccups_24 : decode cX11_hiccups 24 = .ok (.ireturn, 1) := by decide +kernel
theorem dX11_hiccups_25 : decode cX11_hiccups 25 = .ok (.iload_n 1, 1) := by decide +kernel
theorem dX11_hiccups_26 : decode cX11_hiccups 26 = .ok (.aload_n 0, 1) := by decide +kernel
theorem dX11_hiccups_27 : decode cX11_hiccups 27 = .ok (.getfield 19, 3) := by decide +kernel
theorem dX11_hiccups_30 : decode cX11_hiccups 30 = .ok (.getfield 113, 3) := by decide +kernel
theorem dX11_hiccups_33 : decode cX11_hiccups 33 = .ok (.iand, 1) := by decide +kernel
theorem dX11_hiccups_34 : decode cX11_hiccups 34 = .ok (.istore_n 3, 1) := by decide +kernel
theorem dX11_hiccups_35 : decode cX11_hiccups 35 = .ok (.iconst 0, 1) := by decide +kernel
theorem dX11_hiccups_36 : decode cX11_hiccups 36 = .ok (.istore 4, 2) := by decide +kernel
theorem dX11_hiccups_38 : decode cX11_hiccups 38 = .ok (.iconst 0, 1) := by decide +kernel
theorem dX11_hiccups_39 : decode cX11_hiccups 39 = .ok (.istore 5, 2) := by decide +kernel
theorem dX11_hiccups_41 : decode cX11_hiccups 41 = .ok (.iload 5, 2) := by decide +kernel
theorem dX11_hiccups_43 : decode cX11_hiccups 43 = .ok (.sipush 384, 3) := by decide +kernel
theorem dX11_hiccups_46 : decode cX11_hiccups 46 = .ok (.if_icmp .ge 56, 3) := by decide +kernel
theorem dX11_hiccups_49 : decode cX11_hiccups 49 = .ok (.iload 5, 2) := by decide +kernel
theorem dX11_hiccups_51 : decode cX11_hiccups 51 = .ok (.iload 4, 2) := by decide +kernel
theorem dX11_hiccups_53 : decode cX11_hiccups 53 = .ok (.bipush 24, 2) := by decide +kernel
theorem dX11_hiccups_55 : decode cX11_hiccups 55 = .ok (.iadd, 1) := by decide +kernel
theorem dX11_hiccups_56 : decode cX11_hiccups 56 = .ok (.if_icmp .ge 46, 3) := by decide +kernel
theorem dX11_hiccups_59 : decode cX11_hiccups 59 = .ok (.aload_n 0, 1) := by decide +kernel
theorem dX11_hiccups_60 : decode cX11_hiccups 60 = .ok (.getfield 34, 3) := by decide +kernel
theorem dX11_hiccups_63 : decode cX11_hiccups 63 = .ok (.iload_n 3, 1) := by decide +kernel
theorem dX11_hiccups_64 : decode cX11_hiccups 64 = .ok (.aload_n 0, 1) := by decide +kernel
theorem dX11_hiccups_65 : decode cX11_hiccups 65 = .ok (.getfield 19, 3) := by decide +kernel
theorem dX11_hiccups_68 : decode cX11_hiccups 68 = .ok (.getfield 113, 3) := by decide +kernel
theorem dX11_hiccups_71 : decode cX11_hiccups 71 = .ok (.iload 5, 2) := by decide +kernel
theorem dX11_hiccups_73 : decode cX11_hiccups 73 = .ok (.bipush 24, 2) := by decide +kernel
theorem dX11_hiccups_75 : decode cX11_hiccups 75 = .ok (.irem, 1) := by decide +kernel
theorem dX11_hiccups_76 : decode cX11_hiccups 76 = .ok (.invokevirtual 199, 3) := by decide +kernel
theorem dX11_hiccups_79 : decode cX11_hiccups 79 = .ok (.istore 6, 2) := by decide +kernel
theorem dX11_hiccups_81 : decode cX11_hiccups 81 = .ok (.iload 6, 2) := by decide +kernel
theorem dX11_hiccups_83 : decode cX11_hiccups 83 = .ok (.iload_n 3, 1) := by decide +kernel
theorem dX11_hiccups_84 : decode cX11_hiccups 84 = .ok (.if_icmp .eq 12, 3) := by decide +kernel
theorem dX11_hiccups_87 : decode cX11_hiccups 87 = .ok (.iload 6, 2) := by decide +kernel
theorem dX11_hiccups_89 : decode cX11_hiccups 89 = .ok (.istore_n 3, 1) := by decide +kernel
theorem dX11_hiccups_90 : decode cX11_hiccups 90 = .ok (.iload 5, 2) := by decide +kernel
theorem dX11_hiccups_92 : decode cX11_hiccups 92 = .ok (.iconst 1, 1) := by decide +kernel
theorem dX11_hiccups_93 : decode cX11_hiccups 93 = .ok (.iadd, 1) := by decide +kernel
theorem dX11_hiccups_94 : decode cX11_hiccups 94 = .ok (.istore 4, 2) := by decide +kernel
theorem dX11_hiccups_96 : decode cX11_hiccups 96 = .ok (.iinc 5 1, 3) := by decide +kernel
theorem dX11_hiccups_99 : decode cX11_hiccups 99 = .ok (.goto (-58), 3) := by decide +kernel
theorem dX11_hiccups_102 : decode cX11_hiccups 102 = .ok (.iload_n 2, 1) := by decide +kernel
theorem dX11_hiccups_103 : decode cX11_hiccups 103 = .ok (.ifCond .ne 7, 3) := by decide +kernel
theorem dX11_hiccups_106 : decode cX11_hiccups 106 = .ok (.iload_n 3, 1) := by decide +kernel
theorem dX11_hiccups_107 : decode cX11_hiccups 107 = .ok (.goto 5, 3) := by decide +kernel
theorem dX11_hiccups_110 : decode cX11_hiccups 110 = .ok (.iload 4, 2) := by decide +kernel
theorem dX11_hiccups_112 : decode cX11_hiccups 112 = .ok (.ireturn, 1) := by decide +kernel
theorem dX11_daysLeft_0 : decode cX11_daysLeft 0 = .ok (.aload_n 0, 1) := by decide +kernel
theorem dX11_daysLeft_1 : decode cX11_daysLeft 1 = .ok (.iload_n 1, 1) := by decide +kernel
theorem dX11_daysLeft_2 : decode cX11_daysLeft 2 = .ok (.iconst 0, 1) := by decide +kernel
theorem dX11_daysLeft_3 : decode cX11_daysLeft 3 = .ok (.bipush 24, 2) := by decide +kernel
theorem dX11_daysLeft_5 : decode cX11_daysLeft 5 = .ok (.invokevirtual 192, 3) := by decide +kernel
theorem dX11_daysLeft_8 : decode cX11_daysLeft 8 = .ok (.istore_n 2, 1) := by decide +kernel
theorem dX11_daysLeft_9 : decode cX11_daysLeft 9 = .ok (.iload_n 2, 1) := by decide +kernel
theorem dX11_daysLeft_10 : decode cX11_daysLeft 10 = .ok (.ifCond .le 16, 3) := by decide +kernel
theorem dX11_daysLeft_13 : decode cX11_daysLeft 13 = .ok (.aload_n 0, 1) := by decide +kernel
theorem dX11_daysLeft_14 : decode cX11_daysLeft 14 = .ok (.getfield 19, 3) := by decide +kernel
theorem dX11_daysLeft_17 : decode cX11_daysLeft 17 = .ok (.iload_n 1, 1) := by decide +kernel
theorem dX11_daysLeft_18 : decode cX11_daysLeft 18 = .ok (.invokevirtual 169, 3) := by decide +kernel
theorem dX11_daysLeft_21 : decode cX11_daysLeft 21 = .ok (.iload_n 2, 1) := by decide +kernel
theorem dX11_daysLeft_22 : decode cX11_daysLeft 22 = .ok (.idiv, 1) := by decide +kernel
theorem dX11_daysLeft_23 : decode cX11_daysLeft 23 = .ok (.goto 4, 3) := by decide +kernel
theorem dX11_daysLeft_26 : decode cX11_daysLeft 26 = .ok (.iconst 0, 1) := by decide +kernel
theorem dX11_daysLeft_27 : decode cX11_daysLeft 27 = .ok (.ireturn, 1) := by decide +kernel
theorem dX11_left_0 : decode cX11_left 0 = .ok (.aload_n 0, 1) := by decide +kernel
theorem dX11_left_1 : decode cX11_left 1 = .ok (.getfield 19, 3) := by decide +kernel
theorem dX11_left_4 : decode cX11_left 4 = .ok (.iload_n 1, 1) := by decide +kernel
theorem dX11_left_5 : decode cX11_left 5 = .ok (.invokevirtual 179, 3) := by decide +kernel
theorem dX11_left_8 : decode cX11_left 8 = .ok (.ifCond .eq 11, 3) := by decide +kernel
theorem dX11_left_11 : decode cX11_left 11 = .ok (.aload_n 0, 1) := by decide +kernel
theorem dX11_left_12 : decode cX11_left 12 = .ok (.iload_n 1, 1) := by decide +kernel
theorem dX11_left_13 : decode cX11_left 13 = .ok (.invokevirtual 202, 3) := by decide +kernel
theorem dX11_left_16 : decode cX11_left 16 = .ok (.goto 4, 3) := by decide +kernel
theorem dX11_left_19 : decode cX11_left 19 = .ok (.iconst (-1), 1) := by decide +kernel
theorem dX11_left_20 : decode cX11_left 20 = .ok (.ireturn, 1) := by decide +kernel
theorem dX11_longest_0 : decode cX11_longest 0 = .ok (.bipush (-2), 2) := by decide +kernel
theorem dX11_longest_2 : decode cX11_longest 2 = .ok (.istore_n 1, 1) := by decide +kernel
theorem dX11_longest_3 : decode cX11_longest 3 = .ok (.iconst (-1), 1) := by decide +kernel
theorem dX11_longest_4 : decode cX11_longest 4 = .ok (.istore_n 2, 1) := by decide +kernel
theorem dX11_longest_5 : decode cX11_longest 5 = .ok (.iconst 0, 1) := by decide +kernel
theorem dX11_longest_6 : decode cX11_longest 6 = .ok (.istore_n 3, 1) := by decide +kernel
theorem dX11_longest_7 : decode cX11_longest 7 = .ok (.iload_n 3, 1) := by decide +kernel
theorem dX11_longest_8 : decode cX11_longest 8 = .ok (.bipush 16, 2) := by decide +kernel
theorem dX11_longest_10 : decode cX11_longest 10 = .ok (.if_icmp .ge 38, 3) := by decide +kernel
theorem dX11_longest_13 : decode cX11_longest 13 = .ok (.aload_n 0, 1) := by decide +kernel
theorem dX11_longest_14 : decode cX11_longest 14 = .ok (.getfield 19, 3) := by decide +kernel
theorem dX11_longest_17 : decode cX11_longest 17 = .ok (.iload_n 3, 1) := by decide +kernel
theorem dX11_longest_18 : decode cX11_longest 18 = .ok (.invokevirtual 179, 3) := by decide +kernel
theorem dX11_longest_21 : decode cX11_longest 21 = .ok (.ifCond .eq 21, 3) := by decide +kernel
theorem dX11_longest_24 : decode cX11_longest 24 = .ok (.aload_n 0, 1) := by decide +kernel
theorem dX11_longest_25 : decode cX11_longest 25 = .ok (.iload_n 3, 1) := by decide +kernel
theorem dX11_longest_26 : decode cX11_longest 26 = .ok (.invokevirtual 202, 3) := by decide +kernel
theorem dX11_longest_29 : decode cX11_longest 29 = .ok (.istore 4, 2) := by decide +kernel
theorem dX11_longest_31 : decode cX11_longest 31 = .ok (.iload 4, 2) := by decide +kernel
theorem dX11_longest_33 : decode cX11_longest 33 = .ok (.iload_n 2, 1) := by decide +kernel
theorem dX11_longest_34 : decode cX11_longest 34 = .ok (.if_icmp .le 8, 3) := by decide +kernel
theorem dX11_longest_37 : decode cX11_longest 37 = .ok (.iload 4, 2) := by decide +kernel
theorem dX11_longest_39 : decode cX11_longest 39 = .ok (.istore_n 2, 1) := by decide +kernel
theorem dX11_longest_40 : decode cX11_longest 40 = .ok (.iload_n 3, 1) := by decide +kernel
theorem dX11_longest_41 : decode cX11_longest 41 = .ok (.istore_n 1, 1) := by decide +kernel
theorem dX11_longest_42 : decode cX11_longest 42 = .ok (.iinc 3 1, 3) := by decide +kernel
theorem dX11_longest_45 : decode cX11_longest 45 = .ok (.goto (-38), 3) := by decide +kernel
theorem dX11_longest_48 : decode cX11_longest 48 = .ok (.iload_n 1, 1) := by decide +kernel
theorem dX11_longest_49 : decode cX11_longest 49 = .ok (.ireturn, 1) := by decide +kernel
theorem dX11_costOfAll_0 : decode cX11_costOfAll 0 = .ok (.iconst 0, 1) := by decide +kernel
theorem dX11_costOfAll_1 : decode cX11_costOfAll 1 = .ok (.istore_n 2, 1) := by decide +kernel
theorem dX11_costOfAll_2 : decode cX11_costOfAll 2 = .ok (.iconst 0, 1) := by decide +kernel
theorem dX11_costOfAll_3 : decode cX11_costOfAll 3 = .ok (.istore_n 3, 1) := by decide +kernel
theorem dX11_costOfAll_4 : decode cX11_costOfAll 4 = .ok (.iload_n 3, 1) := by decide +kernel
theorem dX11_costOfAll_5 : decode cX11_costOfAll 5 = .ok (.bipush 16, 2) := by decide +kernel
theorem dX11_costOfAll_7 : decode cX11_costOfAll 7 = .ok (.if_icmp .ge 32, 3) := by decide +kernel
theorem dX11_costOfAll_10 : decode cX11_costOfAll 10 = .ok (.aload_n 0, 1) := by decide +kernel
theorem dX11_costOfAll_11 : decode cX11_costOfAll 11 = .ok (.getfield 19, 3) := by decide +kernel
theorem dX11_costOfAll_14 : decode cX11_costOfAll 14 = .ok (.iload_n 3, 1) := by decide +kernel
theorem dX11_costOfAll_15 : decode cX11_costOfAll 15 = .ok (.invokevirtual 179, 3) := by decide +kernel
theorem dX11_costOfAll_18 : decode cX11_costOfAll 18 = .ok (.ifCond .eq 15, 3) := by decide +kernel
theorem dX11_costOfAll_21 : decode cX11_costOfAll 21 = .ok (.iload_n 2, 1) := by decide +kernel
theorem dX11_costOfAll_22 : decode cX11_costOfAll 22 = .ok (.aload_n 0, 1) := by decide +kernel
theorem dX11_costOfAll_23 : decode cX11_costOfAll 23 = .ok (.iload_n 3, 1) := by decide +kernel
theorem dX11_costOfAll_24 : decode cX11_costOfAll 24 = .ok (.iload_n 1, 1) := by decide +kernel
theorem dX11_costOfAll_25 : decode cX11_costOfAll 25 = .ok (.iload_n 1, 1) := by decide +kernel
theorem dX11_costOfAll_26 : decode cX11_costOfAll 26 = .ok (.iconst 1, 1) := by decide +kernel
theorem dX11_costOfAll_27 : decode cX11_costOfAll 27 = .ok (.iadd, 1) := by decide +kernel
theorem dX11_costOfAll_28 : decode cX11_costOfAll 28 = .ok (.invokevirtual 192, 3) := by decide +kernel
theorem dX11_costOfAll_31 : decode cX11_costOfAll 31 = .ok (.iadd, 1) := by decide +kernel
theorem dX11_costOfAll_32 : decode cX11_costOfAll 32 = .ok (.istore_n 2, 1) := by decide +kernel
theorem dX11_costOfAll_33 : decode cX11_costOfAll 33 = .ok (.iinc 3 1, 3) := by decide +kernel
theorem dX11_costOfAll_36 : decode cX11_costOfAll 36 = .ok (.goto (-32), 3) := by decide +kernel
theorem dX11_costOfAll_39 : decode cX11_costOfAll 39 = .ok (.iload_n 2, 1) := by decide +kernel
theorem dX11_costOfAll_40 : decode cX11_costOfAll 40 = .ok (.ireturn, 1) := by decide +kernel
theorem dX11_stillest_0 : decode cX11_stillest 0 = .ok (.iload_n 1, 1) := by decide +kernel
theorem dX11_stillest_1 : decode cX11_stillest 1 = .ok (.iconst 0, 1) := by decide +kernel
theorem dX11_stillest_2 : decode cX11_stillest 2 = .ok (.iconst 1, 1) := by decide +kernel
theorem dX11_stillest_3 : decode cX11_stillest 3 = .ok (.invokestatic 96, 3) := by decide +kernel
theorem dX11_stillest_6 : decode cX11_stillest 6 = .ok (.ifCond .ne 5, 3) := by decide +kernel
theorem dX11_stillest_9 : decode cX11_stillest 9 = .ok (.iconst (-1), 1) := by decide +kernel
theorem dX11_stillest_10 : decode cX11_stillest 10 = .ok (.ireturn, 1) := by decide +kernel
theorem dX11_stillest_11 : decode cX11_stillest 11 = .ok (.iconst 0, 1) := by decide +kernel
theorem dX11_stillest_12 : decode cX11_stillest 12 = .ok (.istore_n 2, 1) := by decide +kernel
theorem dX11_stillest_13 : decode cX11_stillest 13 = .ok (.aload_n 0, 1) := by decide +kernel
theorem dX11_stillest_14 : decode cX11_stillest 14 = .ok (.iconst 0, 1) := by decide +kernel
theorem dX11_stillest_15 : decode cX11_stillest 15 = .ok (.invokevirtual 205, 3) := by decide +kernel
theorem dX11_stillest_18 : decode cX11_stillest 18 = .ok (.istore_n 3, 1) := by decide +kernel
theorem dX11_stillest_19 : decode cX11_stillest 19 = .ok (.iconst 1, 1) := by decide +kernel
theorem dX11_stillest_20 : decode cX11_stillest 20 = .ok (.istore 4, 2) := by decide +kernel
theorem dX11_stillest_22 : decode cX11_stillest 22 = .ok (.iload 4, 2) := by decide +kernel
theorem dX11_stillest_24 : decode cX11_stillest 24 = .ok (.bipush 24, 2) := by decide +kernel
theorem dX11_stillest_26 : decode cX11_stillest 26 = .ok (.if_icmp .ge 29, 3) := by decide +kernel
theorem dX11_stillest_29 : decode cX11_stillest 29 = .ok (.aload_n 0, 1) := by decide +kernel
theorem dX11_stillest_30 : decode cX11_stillest 30 = .ok (.iload 4, 2) := by decide +kernel
theorem dX11_stillest_32 : decode cX11_stillest 32 = .ok (.invokevirtual 205, 3) := by decide +kernel
theorem dX11_stillest_35 : decode cX11_stillest 35 = .ok (.istore 5, 2) := by decide +kernel
theorem dX11_stillest_37 : decode cX11_stillest 37 = .ok (.iload 5, 2) := by decide +kernel
theorem dX11_stillest_39 : decode cX11_stillest 39 = .ok (.iload_n 3, 1) := by decide +kernel
theorem dX11_stillest_40 : decode cX11_stillest 40 = .ok (.if_icmp .ge 9, 3) := by decide +kernel
theorem dX11_stillest_43 : decode cX11_stillest 43 = .ok (.iload 5, 2) := by decide +kernel
theorem dX11_stillest_45 : decode cX11_stillest 45 = .ok (.istore_n 3, 1) := by decide +kernel
theorem dX11_stillest_46 : decode cX11_stillest 46 = .ok (.iload 4, 2) := by decide +kernel
theorem dX11_stillest_48 : decode cX11_stillest 48 = .ok (.istore_n 2, 1) := by decide +kernel
theorem dX11_stillest_49 : decode cX11_stillest 49 = .ok (.iinc 4 1, 3) := by decide +kernel
theorem dX11_stillest_52 : decode cX11_stillest 52 = .ok (.goto (-30), 3) := by decide +kernel
theorem dX11_stillest_55 : decode cX11_stillest 55 = .ok (.iload_n 1, 1) := by decide +kernel
theorem dX11_stillest_56 : decode cX11_stillest 56 = .ok (.ifCond .ne 7, 3) := by decide +kernel
theorem dX11_stillest_59 : decode cX11_stillest 59 = .ok (.iload_n 2, 1) := by decide +kernel
theorem dX11_stillest_60 : decode cX11_stillest 60 = .ok (.goto 4, 3) := by decide +kernel
theorem dX11_stillest_63 : decode cX11_stillest 63 = .ok (.iload_n 3, 1) := by decide +kernel
theorem dX11_stillest_64 : decode cX11_stillest 64 = .ok (.ireturn, 1) := by decide +kernel
theorem dX11_alike_0 : decode cX11_alike 0 = .ok (.aload_n 0, 1) := by decide +kernel
theorem dX11_alike_1 : decode cX11_alike 1 = .ok (.getfield 19, 3) := by decide +kernel
theorem dX11_alike_4 : decode cX11_alike 4 = .ok (.iload_n 1, 1) := by decide +kernel
theorem dX11_alike_5 : decode cX11_alike 5 = .ok (.invokevirtual 159, 3) := by decide +kernel
theorem dX11_alike_8 : decode cX11_alike 8 = .ok (.ifCond .eq 28, 3) := by decide +kernel
theorem dX11_alike_11 : decode cX11_alike 11 = .ok (.aload_n 0, 1) := by decide +kernel
theorem dX11_alike_12 : decode cX11_alike 12 = .ok (.getfield 19, 3) := by decide +kernel
theorem dX11_alike_15 : decode cX11_alike 15 = .ok (.iload_n 2, 1) := by decide +kernel
theorem dX11_alike_16 : decode cX11_alike 16 = .ok (.invokevirtual 159, 3) := by decide +kernel
theorem dX11_alike_19 : decode cX11_alike 19 = .ok (.ifCond .eq 17, 3) := by decide +kernel
theorem dX11_alike_22 : decode cX11_alike 22 = .ok (.iload_n 1, 1) := by decide +kernel
theorem dX11_alike_23 : decode cX11_alike 23 = .ok (.iload_n 2, 1) := by decide +kernel
theorem dX11_alike_24 : decode cX11_alike 24 = .ok (.if_icmp .eq 12, 3) := by decide +kernel
theorem dX11_alike_27 : decode cX11_alike 27 = .ok (.iload_n 3, 1) := by decide +kernel
theorem dX11_alike_28 : decode cX11_alike 28 = .ok (.iconst 0, 1) := by decide +kernel
theorem dX11_alike_29 : decode cX11_alike 29 = .ok (.iconst 2, 1) := by decide +kernel
theorem dX11_alike_30 : decode cX11_alike 30 = .ok (.invokestatic 96, 3) := by decide +kernel
theorem dX11_alike_33 : decode cX11_alike 33 = .ok (.ifCond .ne 5, 3) := by decide +kernel
theorem dX11_alike_36 : decode cX11_alike 36 = .ok (.iconst (-1), 1) := by decide +kernel
theorem dX11_alike_37 : decode cX11_alike 37 = .ok (.ireturn, 1) := by decide +kernel
theorem dX11_alike_38 : decode cX11_alike 38 = .ok (.aload_n 0, 1) := by decide +kernel
theorem dX11_alike_39 : decode cX11_alike 39 = .ok (.getfield 34, 3) := by decide +kernel
theorem dX11_alike_42 : decode cX11_alike 42 = .ok (.iload_n 1, 1) := by decide +kernel
theorem dX11_alike_43 : decode cX11_alike 43 = .ok (.iload_n 2, 1) := by decide +kernel
theorem dX11_alike_44 : decode cX11_alike 44 = .ok (.iconst 0, 1) := by decide +kernel
theorem dX11_alike_45 : decode cX11_alike 45 = .ok (.invokevirtual 208, 3) := by decide +kernel
theorem dX11_alike_48 : decode cX11_alike 48 = .ok (.istore 4, 2) := by decide +kernel
theorem dX11_alike_50 : decode cX11_alike 50 = .ok (.iload_n 3, 1) := by decide +kernel
theorem dX11_alike_51 : decode cX11_alike 51 = .ok (.ifCond .ne 6, 3) := by decide +kernel
theorem dX11_alike_54 : decode cX11_alike 54 = .ok (.iload 4, 2) := by decide +kernel
theorem dX11_alike_56 : decode cX11_alike 56 = .ok (.ireturn, 1) := by decide +kernel
theorem dX11_alike_57 : decode cX11_alike 57 = .ok (.iconst 0, 1) := by decide +kernel
theorem dX11_alike_58 : decode cX11_alike 58 = .ok (.istore 5, 2) := by decide +kernel
theorem dX11_alike_60 : decode cX11_alike 60 = .ok (.iconst 1, 1) := by decide +kernel
theorem dX11_alike_61 : decode cX11_alike 61 = .ok (.istore 6, 2) := by decide +kernel
theorem dX11_alike_63 : decode cX11_alike 63 = .ok (.iload 6, 2) := by decide +kernel
theorem dX11_alike_65 : decode cX11_alike 65 = .ok (.bipush 24, 2) := by decide +kernel
theorem dX11_alike_67 : decode cX11_alike 67 = .ok (.if_icmp .ge 37, 3) := by decide +kernel
theorem dX11_alike_70 : decode cX11_alike 70 = .ok (.aload_n 0, 1) := by decide +kernel
theorem dX11_alike_71 : decode cX11_alike 71 = .ok (.getfield 34, 3) := by decide +kernel
theorem dX11_alike_74 : decode cX11_alike 74 = .ok (.iload_n 1, 1) := by decide +kernel
theorem dX11_alike_75 : decode cX11_alike 75 = .ok (.iload_n 2, 1) := by decide +kernel
theorem dX11_alike_76 : decode cX11_alike 76 = .ok (.iload 6, 2) := by decide +kernel
theorem dX11_alike_78 : decode cX11_alike 78 = .ok (.invokevirtual 208, 3) := by decide +kernel
theorem dX11_alike_81 : decode cX11_alike 81 = .ok (.istore 7, 2) := by decide +kernel
theorem dX11_alike_83 : decode cX11_alike 83 = .ok (.iload 7, 2) := by decide +kernel
theorem dX11_alike_85 : decode cX11_alike 85 = .ok (.iload 4, 2) := by decide +kernel
theorem dX11_alike_87 : decode cX11_alike 87 = .ok (.if_icmp .le 11, 3) := by decide +kernel
theorem dX11_alike_90 : decode cX11_alike 90 = .ok (.iload 7, 2) := by decide +kernel
theorem dX11_alike_92 : decode cX11_alike 92 = .ok (.istore 4, 2) := by decide +kernel
theorem dX11_alike_94 : decode cX11_alike 94 = .ok (.iload 6, 2) := by decide +kernel
theorem dX11_alike_96 : decode cX11_alike 96 = .ok (.istore 5, 2) := by decide +kernel
theorem dX11_alike_98 : decode cX11_alike 98 = .ok (.iinc 6 1, 3) := by decide +kernel
theorem dX11_alike_101 : decode cX11_alike 101 = .ok (.goto (-38), 3) := by decide +kernel
theorem dX11_alike_104 : decode cX11_alike 104 = .ok (.iload_n 3, 1) := by decide +kernel
theorem dX11_alike_105 : decode cX11_alike 105 = .ok (.iconst 1, 1) := by decide +kernel
theorem dX11_alike_106 : decode cX11_alike 106 = .ok (.if_icmp .ne 8, 3) := by decide +kernel
theorem dX11_alike_109 : decode cX11_alike 109 = .ok (.iload 5, 2) := by decide +kernel
theorem dX11_alike_111 : decode cX11_alike 111 = .ok (.goto 5, 3) := by decide +kernel
theorem dX11_alike_114 : decode cX11_alike 114 = .ok (.iload 4, 2) := by decide +kernel
theorem dX11_alike_116 : decode cX11_alike 116 = .ok (.ireturn, 1) := by decide +kernel
theorem dX11_rings_0 : decode cX11_rings 0 = .ok (.iload_n 1, 1) := by decide +kernel
theorem dX11_rings_1 : decode cX11_rings 1 = .ok (.iconst 0, 1) := by decide +kernel
theorem dX11_rings_2 : decode cX11_rings 2 = .ok (.iconst 1, 1) := by decide +kernel
theorem dX11_rings_3 : decode cX11_rings 3 = .ok (.invokestatic 96, 3) := by decide +kernel
theorem dX11_rings_6 : decode cX11_rings 6 = .ok (.ifCond .ne 5, 3) := by decide +kernel
theorem dX11_rings_9 : decode cX11_rings 9 = .ok (.iconst (-1), 1) := by decide +kernel
theorem dX11_rings_10 : decode cX11_rings 10 = .ok (.ireturn, 1) := by decide +kernel
theorem dX11_rings_11 : decode cX11_rings 11 = .ok (.aload_n 0, 1) := by decide +kernel
theorem dX11_rings_12 : decode cX11_rings 12 = .ok (.getfield 74, 3) := by decide +kernel
theorem dX11_rings_15 : decode cX11_rings 15 = .ok (.aload_n 0, 1) := by decide +kernel
theorem dX11_rings_16 : decode cX11_rings 16 = .ok (.getfield 19, 3) := by decide +kernel
theorem dX11_rings_19 : decode cX11_rings 19 = .ok (.getfield 143, 3) := by decide +kernel
theorem dX11_rings_22 : decode cX11_rings 22 = .ok (.invokevirtual 211, 3) := by decide +kernel
theorem dX11_rings_25 : decode cX11_rings 25 = .ok (.aload_n 0, 1) := by decide +kernel
theorem dX11_rings_26 : decode cX11_rings 26 = .ok (.getfield 74, 3) := by decide +kernel
theorem dX11_rings_29 : decode cX11_rings 29 = .ok (.getfield 214, 3) := by decide +kernel
theorem dX11_rings_32 : decode cX11_rings 32 = .ok (.ifCond .ne 6, 3) := by decide +kernel
theorem dX11_rings_35 : decode cX11_rings 35 = .ok (.bipush (-2), 2) := by decide +kernel
theorem dX11_rings_37 : decode cX11_rings 37 = .ok (.ireturn, 1) := by decide +kernel
theorem dX11_rings_38 : decode cX11_rings 38 = .ok (.iload_n 1, 1) := by decide +kernel
theorem dX11_rings_39 : decode cX11_rings 39 = .ok (.ifCond .ne 13, 3) := by decide +kernel
theorem dX11_rings_42 : decode cX11_rings 42 = .ok (.aload_n 0, 1) := by decide +kernel
theorem dX11_rings_43 : decode cX11_rings 43 = .ok (.getfield 74, 3) := by decide +kernel
theorem dX11_rings_46 : decode cX11_rings 46 = .ok (.getfield 217, 3) := by decide +kernel
theorem dX11_rings_49 : decode cX11_rings 49 = .ok (.goto 10, 3) := by decide +kernel
theorem dX11_rings_52 : decode cX11_rings 52 = .ok (.aload_n 0, 1) := by decide +kernel
theorem dX11_rings_53 : decode cX11_rings 53 = .ok (.getfield 74, 3) := by decide +kernel
theorem dX11_rings_56 : decode cX11_rings 56 = .ok (.getfield 214, 3) := by decide +kernel
theorem dX11_rings_59 : decode cX11_rings 59 = .ok (.ireturn, 1) := by decide +kernel
theorem dX11_settled_0 : decode cX11_settled 0 = .ok (.iload_n 1, 1) := by decide +kernel
theorem dX11_settled_1 : decode cX11_settled 1 = .ok (.iconst 2, 1) := by decide +kernel
theorem dX11_settled_2 : decode cX11_settled 2 = .ok (.bipush 8, 2) := by decide +kernel
theorem dX11_settled_4 : decode cX11_settled 4 = .ok (.invokestatic 96, 3) := by decide +kernel
theorem dX11_settled_7 : decode cX11_settled 7 = .ok (.ifCond .eq 25, 3) := by decide +kernel
theorem dX11_settled_10 : decode cX11_settled 10 = .ok (.iload_n 2, 1) := by decide +kernel
theorem dX11_settled_11 : decode cX11_settled 11 = .ok (.iconst 0, 1) := by decide +kernel
theorem dX11_settled_12 : decode cX11_settled 12 = .ok (.iconst 1, 1) := by decide +kernel
theorem dX11_settled_13 : decode cX11_settled 13 = .ok (.invokestatic 96, 3) := by decide +kernel
theorem dX11_settled_16 : decode cX11_settled 16 = .ok (.ifCond .eq 16, 3) := by decide +kernel
theorem dX11_settled_19 : decode cX11_settled 19 = .ok (.aload_n 0, 1) := by decide +kernel
theorem dX11_settled_20 : decode cX11_settled 20 = .ok (.getfield 10, 3) := by decide +kernel
theorem dX11_settled_23 : decode cX11_settled 23 = .ok (.iconst 2, 1) := by decide +kernel
theorem dX11_settled_24 : decode cX11_settled 24 = .ok (.iload_n 1, 1) := by decide +kernel
theorem dX11_settled_25 : decode cX11_settled 25 = .ok (.imul, 1) := by decide +kernel
theorem dX11_settled_26 : decode cX11_settled 26 = .ok (.invokevirtual 123, 3) := by decide +kernel
theorem dX11_settled_29 : decode cX11_settled 29 = .ok (.ifCond .ne 5, 3) := by decide +kernel
theorem dX11_settled_32 : decode cX11_settled 32 = .ok (.iconst (-1), 1) := by decide +kernel
theorem dX11_settled_33 : decode cX11_settled 33 = .ok (.ireturn, 1) := by decide +kernel
theorem dX11_settled_34 : decode cX11_settled 34 = .ok (.aload_n 0, 1) := by decide +kernel
theorem dX11_settled_35 : decode cX11_settled 35 = .ok (.getfield 10, 3) := by decide +kernel
theorem dX11_settled_38 : decode cX11_settled 38 = .ok (.iconst 2, 1) := by decide +kernel
theorem dX11_settled_39 : decode cX11_settled 39 = .ok (.iload_n 1, 1) := by decide +kernel
theorem dX11_settled_40 : decode cX11_settled 40 = .ok (.imul, 1) := by decide +kernel
theorem dX11_settled_41 : decode cX11_settled 41 = .ok (.invokevirtual 127, 3) := by decide +kernel
theorem dX11_settled_44 : decode cX11_settled 44 = .ok (.iload_n 2, 1) := by decide +kernel
theorem dX11_settled_45 : decode cX11_settled 45 = .ok (.ifCond .ne 14, 3) := by decide +kernel
theorem dX11_settled_48 : decode cX11_settled 48 = .ok (.aload_n 0, 1) := by decide +kernel
theorem dX11_settled_49 : decode cX11_settled 49 = .ok (.getfield 88, 3) := by decide +kernel
theorem dX11_settled_52 : decode cX11_settled 52 = .ok (.iload_n 1, 1) := by decide +kernel
theorem dX11_settled_53 : decode cX11_settled 53 = .ok (.invokevirtual 220, 3) := by decide +kernel
theorem dX11_settled_56 : decode cX11_settled 56 = .ok (.goto 11, 3) := by decide +kernel
theorem dX11_settled_59 : decode cX11_settled 59 = .ok (.aload_n 0, 1) := by decide +kernel
theorem dX11_settled_60 : decode cX11_settled 60 = .ok (.getfield 88, 3) := by decide +kernel
theorem dX11_settled_63 : decode cX11_settled 63 = .ok (.iload_n 1, 1) := by decide +kernel
theorem dX11_settled_64 : decode cX11_settled 64 = .ok (.invokevirtual 223, 3) := by decide +kernel
theorem dX11_settled_67 : decode cX11_settled 67 = .ok (.ireturn, 1) := by decide +kernel
theorem dX11_joy_0 : decode cX11_joy 0 = .ok (.iload_n 3, 1) := by decide +kernel
theorem dX11_joy_1 : decode cX11_joy 1 = .ok (.bipush 100, 2) := by decide +kernel
theorem dX11_joy_3 : decode cX11_joy 3 = .ok (.if_icmp .eq 14, 3) := by decide +kernel
theorem dX11_joy_6 : decode cX11_joy 6 = .ok (.iload_n 3, 1) := by decide +kernel
theorem dX11_joy_7 : decode cX11_joy 7 = .ok (.iconst 0, 1) := by decide +kernel
theorem dX11_joy_8 : decode cX11_joy 8 = .ok (.iload_n 1, 1) := by decide +kernel
theorem dX11_joy_9 : decode cX11_joy 9 = .ok (.iconst 1, 1) := by decide +kernel
theorem dX11_joy_10 : decode cX11_joy 10 = .ok (.isub, 1) := by decide +kernel
theorem dX11_joy_11 : decode cX11_joy 11 = .ok (.invokestatic 96, 3) := by decide +kernel
theorem dX11_joy_14 : decode cX11_joy 14 = .ok (.ifCond .eq 7, 3) := by decide +kernel
theorem dX11_joy_17 : decode cX11_joy 17 = .ok (.iconst 1, 1) := by decide +kernel
theorem dX11_joy_18 : decode cX11_joy 18 = .ok (.goto 4, 3) := by decide +kernel
theorem dX11_joy_21 : decode cX11_joy 21 = .ok (.iconst 0, 1) := by decide +kernel
theorem dX11_joy_22 : decode cX11_joy 22 = .ok (.istore 4, 2) := by decide +kernel
theorem dX11_joy_24 : decode cX11_joy 24 = .ok (.iload_n 1, 1) := by decide +kernel
theorem dX11_joy_25 : decode cX11_joy 25 = .ok (.iconst 1, 1) := by decide +kernel
theorem dX11_joy_26 : decode cX11_joy 26 = .ok (.iconst 5, 1) := by decide +kernel
theorem dX11_joy_27 : decode cX11_joy 27 = .ok (.invokestatic 96, 3) := by decide +kernel
theorem dX11_joy_30 : decode cX11_joy 30 = .ok (.ifCond .eq 32, 3) := by decide +kernel
theorem dX11_joy_33 : decode cX11_joy 33 = .ok (.iload_n 2, 1) := by decide +kernel
theorem dX11_joy_34 : decode cX11_joy 34 = .ok (.iconst 0, 1) := by decide +kernel
theorem dX11_joy_35 : decode cX11_joy 35 = .ok (.sipush 6120, 3) := by decide +kernel
theorem dX11_joy_38 : decode cX11_joy 38 = .ok (.invokestatic 96, 3) := by decide +kernel
theorem dX11_joy_41 : decode cX11_joy 41 = .ok (.ifCond .eq 21, 3) := by decide +kernel
theorem dX11_joy_44 : decode cX11_joy 44 = .ok (.iload 4, 2) := by decide +kernel
theorem dX11_joy_46 : decode cX11_joy 46 = .ok (.ifCond .eq 16, 3) := by decide +kernel
theorem dX11_joy_49 : decode cX11_joy 49 = .ok (.aload_n 0, 1) := by decide +kernel
theorem dX11_joy_50 : decode cX11_joy 50 = .ok (.getfield 10, 3) := by decide +kernel
theorem dX11_joy_53 : decode cX11_joy 53 = .ok (.iconst 2, 1) := by decide +kernel
theorem dX11_joy_54 : decode cX11_joy 54 = .ok (.iload_n 1, 1) := by decide +kernel
theorem dX11_joy_55 : decode cX11_joy 55 = .ok (.imul, 1) := by decide +kernel
theorem dX11_joy_56 : decode cX11_joy 56 = .ok (.invokevirtual 123, 3) := by decide +kernel
theorem dX11_joy_59 : decode cX11_joy 59 = .ok (.ifCond .ne 5, 3) := by decide +kernel
theorem dX11_joy_62 : decode cX11_joy 62 = .ok (.iconst (-1), 1) := by decide +kernel
theorem dX11_joy_63 : decode cX11_joy 63 = .ok (.ireturn, 1) := by decide +kernel
theorem dX11_joy_64 : decode cX11_joy 64 = .ok (.aload_n 0, 1) := by decide +kernel
theorem dX11_joy_65 : decode cX11_joy 65 = .ok (.getfield 10, 3) := by decide +kernel
theorem dX11_joy_68 : decode cX11_joy 68 = .ok (.iconst 2, 1) := by decide +kernel
theorem dX11_joy_69 : decode cX11_joy 69 = .ok (.iload_n 1, 1) := by decide +kernel
theorem dX11_joy_70 : decode cX11_joy 70 = .ok (.imul, 1) := by decide +kernel
theorem dX11_joy_71 : decode cX11_joy 71 = .ok (.invokevirtual 127, 3) := by decide +kernel
theorem dX11_joy_74 : decode cX11_joy 74 = .ok (.aload_n 0, 1) := by decide +kernel
theorem dX11_joy_75 : decode cX11_joy 75 = .ok (.getfield 81, 3) := by decide +kernel
theorem dX11_joy_78 : decode cX11_joy 78 = .ok (.aload_n 0, 1) := by decide +kernel
theorem dX11_joy_79 : decode cX11_joy 79 = .ok (.getfield 10, 3) := by decide +kernel
theorem dX11_joy_82 : decode cX11_joy 82 = .ok (.iload_n 1, 1) := by decide +kernel
theorem dX11_joy_83 : decode cX11_joy 83 = .ok (.iload_n 2, 1) := by decide +kernel
theorem dX11_joy_84 : decode cX11_joy 84 = .ok (.invokevirtual 226, 3) := by decide +kernel
theorem dX11_joy_87 : decode cX11_joy 87 = .ok (.aload_n 0, 1) := by decide +kernel
theorem dX11_joy_88 : decode cX11_joy 88 = .ok (.getfield 81, 3) := by decide +kernel
theorem dX11_joy_91 : decode cX11_joy 91 = .ok (.getfield 230, 3) := by decide +kernel
theorem dX11_joy_94 : decode cX11_joy 94 = .ok (.ifCond .ge 6, 3) := by decide +kernel
theorem dX11_joy_97 : decode cX11_joy 97 = .ok (.bipush (-2), 2) := by decide +kernel
theorem dX11_joy_99 : decode cX11_joy 99 = .ok (.ireturn, 1) := by decide +kernel
theorem dX11_joy_100 : decode cX11_joy 100 = .ok (.iload_n 3, 1) := by decide +kernel
theorem dX11_joy_101 : decode cX11_joy 101 = .ok (.bipush 100, 2) := by decide +kernel
theorem dX11_joy_103 : decode cX11_joy 103 = .ok (.if_icmp .ne 13, 3) := by decide +kernel
theorem dX11_joy_106 : decode cX11_joy 106 = .ok (.aload_n 0, 1) := by decide +kernel
theorem dX11_joy_107 : decode cX11_joy 107 = .ok (.getfield 81, 3) := by decide +kernel
theorem dX11_joy_110 : decode cX11_joy 110 = .ok (.getfield 230, 3) := by decide +kernel
theorem dX11_joy_113 : decode cX11_joy 113 = .ok (.goto 11, 3) := by decide +kernel
theorem dX11_joy_116 : decode cX11_joy 116 = .ok (.aload_n 0, 1) := by decide +kernel
theorem dX11_joy_117 : decode cX11_joy 117 = .ok (.getfield 81, 3) := by decide +kernel
theorem dX11_joy_120 : decode cX11_joy 120 = .ok (.iload_n 3, 1) := by decide +kernel
theorem dX11_joy_121 : decode cX11_joy 121 = .ok (.invokevirtual 233, 3) := by decide +kernel
theorem dX11_joy_124 : decode cX11_joy 124 = .ok (.ireturn, 1) := by decide +kernel
theorem dX11_run_0 : decode cX11_run 0 = .ok (.iload_n 1, 1) := by decide +kernel
theorem dX11_run_1 : decode cX11_run 1 = .ok (.iconst 2, 1) := by decide +kernel
theorem dX11_run_2 : decode cX11_run 2 = .ok (.bipush 16, 2) := by decide +kernel
theorem dX11_run_4 : decode cX11_run 4 = .ok (.invokestatic 96, 3) := by decide +kernel
theorem dX11_run_7 : decode cX11_run 7 = .ok (.ifCond .eq 23, 3) := by decide +kernel
theorem dX11_run_10 : decode cX11_run 10 = .ok (.iload_n 2, 1) := by decide +kernel
theorem dX11_run_11 : decode cX11_run 11 = .ok (.iconst 0, 1) := by decide +kernel
theorem dX11_run_12 : decode cX11_run 12 = .ok (.iconst 1, 1) := by decide +kernel
theorem dX11_run_13 : decode cX11_run 13 = .ok (.invokestatic 96, 3) := by decide +kernel
theorem dX11_run_16 : decode cX11_run 16 = .ok (.ifCond .eq 14, 3) := by decide +kernel
theorem dX11_run_19 : decode cX11_run 19 = .ok (.aload_n 0, 1) := by decide +kernel
theorem dX11_run_20 : decode cX11_run 20 = .ok (.getfield 10, 3) := by decide +kernel
theorem dX11_run_23 : decode cX11_run 23 = .ok (.iload_n 1, 1) := by decide +kernel
theorem dX11_run_24 : decode cX11_run 24 = .ok (.invokevirtual 123, 3) := by decide +kernel
theorem dX11_run_27 : decode cX11_run 27 = .ok (.ifCond .ne 5, 3) := by decide +kernel
theorem dX11_run_30 : decode cX11_run 30 = .ok (.iconst (-1), 1) := by decide +kernel
theorem dX11_run_31 : decode cX11_run 31 = .ok (.ireturn, 1) := by decide +kernel
theorem dX11_run_32 : decode cX11_run 32 = .ok (.aload_n 0, 1) := by decide +kernel
theorem dX11_run_33 : decode cX11_run 33 = .ok (.getfield 10, 3) := by decide +kernel
theorem dX11_run_36 : decode cX11_run 36 = .ok (.iload_n 1, 1) := by decide +kernel
theorem dX11_run_37 : decode cX11_run 37 = .ok (.invokevirtual 127, 3) := by decide +kernel
theorem dX11_run_40 : decode cX11_run 40 = .ok (.aload_n 0, 1) := by decide +kernel
theorem dX11_run_41 : decode cX11_run 41 = .ok (.getfield 88, 3) := by decide +kernel
theorem dX11_run_44 : decode cX11_run 44 = .ok (.iload_n 1, 1) := by decide +kernel
theorem dX11_run_45 : decode cX11_run 45 = .ok (.iload_n 2, 1) := by decide +kernel
theorem dX11_run_46 : decode cX11_run 46 = .ok (.invokevirtual 234, 3) := by decide +kernel
theorem dX11_run_49 : decode cX11_run 49 = .ok (.ireturn, 1) := by decide +kernel
theorem dX11_table_0 : decode cX11_table 0 = .ok (.iload_n 2, 1) := by decide +kernel
theorem dX11_table_1 : decode cX11_table 1 = .ok (.sipush 300, 3) := by decide +kernel
theorem dX11_table_4 : decode cX11_table 4 = .ok (.if_icmp .eq 31, 3) := by decide +kernel
theorem dX11_table_7 : decode cX11_table 7 = .ok (.iload_n 2, 1) := by decide +kernel
theorem dX11_table_8 : decode cX11_table 8 = .ok (.bipush 100, 2) := by decide +kernel
theorem dX11_table_10 : decode cX11_table 10 = .ok (.bipush 99, 2) := by decide +kernel
theorem dX11_table_12 : decode cX11_table 12 = .ok (.iload_n 1, 1) := by decide +kernel
theorem dX11_table_13 : decode cX11_table 13 = .ok (.iadd, 1) := by decide +kernel
theorem dX11_table_14 : decode cX11_table 14 = .ok (.invokestatic 96, 3) := by decide +kernel
theorem dX11_table_17 : decode cX11_table 17 = .ok (.ifCond .ne 18, 3) := by decide +kernel
theorem dX11_table_20 : decode cX11_table 20 = .ok (.iload_n 2, 1) := by decide +kernel
theorem dX11_table_21 : decode cX11_table 21 = .ok (.sipush 200, 3) := by decide +kernel
theorem dX11_table_24 : decode cX11_table 24 = .ok (.sipush 199, 3) := by decide +kernel
theorem dX11_table_27 : decode cX11_table 27 = .ok (.iload_n 1, 1) := by decide +kernel
theorem dX11_table_28 : decode cX11_table 28 = .ok (.iadd, 1) := by decide +kernel
theorem dX11_table_29 : decode cX11_table 29 = .ok (.invokestatic 96, 3) := by decide +kernel
theorem dX11_table_32 : decode cX11_table 32 = .ok (.ifCond .eq 7, 3) := by decide +kernel
theorem dX11_table_35 : decode cX11_table 35 = .ok (.iconst 1, 1) := by decide +kernel
theorem dX11_table_36 : decode cX11_table 36 = .ok (.goto 4, 3) := by decide +kernel
theorem dX11_table_39 : decode cX11_table 39 = .ok (.iconst 0, 1) := by decide +kernel
theorem dX11_table_40 : decode cX11_table 40 = .ok (.istore_n 3, 1) := by decide +kernel
theorem dX11_table_41 : decode cX11_table 41 = .ok (.iload_n 1, 1) := by decide +kernel
theorem dX11_table_42 : decode cX11_table 42 = .ok (.iconst 2, 1) := by decide +kernel
theorem dX11_table_43 : decode cX11_table 43 = .ok (.bipush 30, 2) := by decide +kernel
theorem dX11_table_45 : decode cX11_table 45 = .ok (.invokestatic 96, 3) := by decide +kernel
theorem dX11_table_48 : decode cX11_table 48 = .ok (.ifCond .eq 18, 3) := by decide +kernel
theorem dX11_table_51 : decode cX11_table 51 = .ok (.iload_n 3, 1) := by decide +kernel
theorem dX11_table_52 : decode cX11_table 52 = .ok (.ifCond .eq 14, 3) := by decide +kernel
theorem dX11_table_55 : decode cX11_table 55 = .ok (.aload_n 0, 1) := by decide +kernel
theorem dX11_table_56 : decode cX11_table 56 = .ok (.getfield 10, 3) := by decide +kernel
theorem dX11_table_59 : decode cX11_table 59 = .ok (.iload_n 1, 1) := by decide +kernel
theorem dX11_table_60 : decode cX11_table 60 = .ok (.invokevirtual 123, 3) := by decide +kernel
theorem dX11_table_63 : decode cX11_table 63 = .ok (.ifCond .ne 5, 3) := by decide +kernel
theorem dX11_table_66 : decode cX11_table 66 = .ok (.iconst (-1), 1) := by decide +kernel
theorem dX11_table_67 : decode cX11_table 67 = .ok (.ireturn, 1) := by decide +kernel
theorem dX11_table_68 : decode cX11_table 68 = .ok (.aload_n 0, 1) := by decide +kernel
theorem dX11_table_69 : decode cX11_table 69 = .ok (.getfield 10, 3) := by decide +kernel
theorem dX11_table_72 : decode cX11_table 72 = .ok (.iload_n 1, 1) := by decide +kernel
theorem dX11_table_73 : decode cX11_table 73 = .ok (.invokevirtual 127, 3) := by decide +kernel
theorem dX11_table_76 : decode cX11_table 76 = .ok (.aload_n 0, 1) := by decide +kernel
theorem dX11_table_77 : decode cX11_table 77 = .ok (.getfield 88, 3) := by decide +kernel
theorem dX11_table_80 : decode cX11_table 80 = .ok (.iload_n 1, 1) := by decide +kernel
theorem dX11_table_81 : decode cX11_table 81 = .ok (.invokevirtual 237, 3) := by decide +kernel
theorem dX11_table_84 : decode cX11_table 84 = .ok (.ifCond .ne 6, 3) := by decide +kernel
theorem dX11_table_87 : decode cX11_table 87 = .ok (.bipush (-3), 2) := by decide +kernel
theorem dX11_table_89 : decode cX11_table 89 = .ok (.ireturn, 1) := by decide +kernel
theorem dX11_table_90 : decode cX11_table 90 = .ok (.iload_n 2, 1) := by decide +kernel
theorem dX11_table_91 : decode cX11_table 91 = .ok (.sipush 300, 3) := by decide +kernel
theorem dX11_table_94 : decode cX11_table 94 = .ok (.if_icmp .ne 12, 3) := by decide +kernel
theorem dX11_table_97 : decode cX11_table 97 = .ok (.aload_n 0, 1) := by decide +kernel
theorem dX11_table_98 : decode cX11_table 98 = .ok (.getfield 88, 3) := by decide +kernel
theorem dX11_table_101 : decode cX11_table 101 = .ok (.iload_n 1, 1) := by decide +kernel
theorem dX11_table_102 : decode cX11_table 102 = .ok (.invokevirtual 240, 3) := by decide +kernel
theorem dX11_table_105 : decode cX11_table 105 = .ok (.ireturn, 1) := by decide +kernel
theorem dX11_table_106 : decode cX11_table 106 = .ok (.aload_n 0, 1) := by decide +kernel
theorem dX11_table_107 : decode cX11_table 107 = .ok (.getfield 88, 3) := by decide +kernel
theorem dX11_table_110 : decode cX11_table 110 = .ok (.iload_n 1, 1) := by decide +kernel
theorem dX11_table_111 : decode cX11_table 111 = .ok (.iload_n 2, 1) := by decide +kernel
theorem dX11_table_112 : decode cX11_table 112 = .ok (.bipush 100, 2) := by decide +kernel
theorem dX11_table_114 : decode cX11_table 114 = .ok (.irem, 1) := by decide +kernel
theorem dX11_table_115 : decode cX11_table 115 = .ok (.iload_n 2, 1) := by decide +kernel
theorem dX11_table_116 : decode cX11_table 116 = .ok (.sipush 200, 3) := by decide +kernel
theorem dX11_table_119 : decode cX11_table 119 = .ok (.if_icmp .ge 7, 3) := by decide +kernel
theorem dX11_table_122 : decode cX11_table 122 = .ok (.iconst 1, 1) := by decide +kernel
theorem dX11_table_123 : decode cX11_table 123 = .ok (.goto 4, 3) := by decide +kernel
theorem dX11_table_126 : decode cX11_table 126 = .ok (.iconst 0, 1) := by decide +kernel
theorem dX11_table_127 : decode cX11_table 127 = .ok (.invokevirtual 243, 3) := by decide +kernel
theorem dX11_table_130 : decode cX11_table 130 = .ok (.ireturn, 1) := by decide +kernel
theorem dX11_atOnce_0 : decode cX11_atOnce 0 = .ok (.iload_n 1, 1) := by decide +kernel
theorem dX11_atOnce_1 : decode cX11_atOnce 1 = .ok (.iconst 0, 1) := by decide +kernel
theorem dX11_atOnce_2 : decode cX11_atOnce 2 = .ok (.ldc 247, 2) := by decide +kernel
theorem dX11_atOnce_4 : decode cX11_atOnce 4 = .ok (.invokestatic 96, 3) := by decide +kernel
theorem dX11_atOnce_7 : decode cX11_atOnce 7 = .ok (.ifCond .eq 23, 3) := by decide +kernel
theorem dX11_atOnce_10 : decode cX11_atOnce 10 = .ok (.iload_n 2, 1) := by decide +kernel
theorem dX11_atOnce_11 : decode cX11_atOnce 11 = .ok (.iconst 0, 1) := by decide +kernel
theorem dX11_atOnce_12 : decode cX11_atOnce 12 = .ok (.iconst 1, 1) := by decide +kernel
theorem dX11_atOnce_13 : decode cX11_atOnce 13 = .ok (.invokestatic 96, 3) := by decide +kernel
theorem dX11_atOnce_16 : decode cX11_atOnce 16 = .ok (.ifCond .eq 14, 3) := by decide +kernel
theorem dX11_atOnce_19 : decode cX11_atOnce 19 = .ok (.aload_n 0, 1) := by decide +kernel
theorem dX11_atOnce_20 : decode cX11_atOnce 20 = .ok (.getfield 10, 3) := by decide +kernel
theorem dX11_atOnce_23 : decode cX11_atOnce 23 = .ok (.iconst 4, 1) := by decide +kernel
theorem dX11_atOnce_24 : decode cX11_atOnce 24 = .ok (.invokevirtual 123, 3) := by decide +kernel
theorem dX11_atOnce_27 : decode cX11_atOnce 27 = .ok (.ifCond .ne 5, 3) := by decide +kernel
theorem dX11_atOnce_30 : decode cX11_atOnce 30 = .ok (.iconst (-1), 1) := by decide +kernel
theorem dX11_atOnce_31 : decode cX11_atOnce 31 = .ok (.ireturn, 1) := by decide +kernel
theorem dX11_atOnce_32 : decode cX11_atOnce 32 = .ok (.aload_n 0, 1) := by decide +kernel
theorem dX11_atOnce_33 : decode cX11_atOnce 33 = .ok (.getfield 10, 3) := by decide +kernel
theorem dX11_atOnce_36 : decode cX11_atOnce 36 = .ok (.iconst 4, 1) := by decide +kernel
theorem dX11_atOnce_37 : decode cX11_atOnce 37 = .ok (.invokevirtual 127, 3) := by decide +kernel
theorem dX11_atOnce_40 : decode cX11_atOnce 40 = .ok (.aload_n 0, 1) := by decide +kernel
theorem dX11_atOnce_41 : decode cX11_atOnce 41 = .ok (.getfield 10, 3) := by decide +kernel
theorem dX11_atOnce_44 : decode cX11_atOnce 44 = .ok (.iconst 1, 1) := by decide +kernel
theorem dX11_atOnce_45 : decode cX11_atOnce 45 = .ok (.invokevirtual 248, 3) := by decide +kernel
theorem dX11_atOnce_48 : decode cX11_atOnce 48 = .ok (.ifCond .eq 14, 3) := by decide +kernel
theorem dX11_atOnce_51 : decode cX11_atOnce 51 = .ok (.aload_n 0, 1) := by decide +kernel
theorem dX11_atOnce_52 : decode cX11_atOnce 52 = .ok (.getfield 10, 3) := by decide +kernel
theorem dX11_atOnce_55 : decode cX11_atOnce 55 = .ok (.iconst 3, 1) := by decide +kernel
theorem dX11_atOnce_56 : decode cX11_atOnce 56 = .ok (.invokevirtual 248, 3) := by decide +kernel
theorem dX11_atOnce_59 : decode cX11_atOnce 59 = .ok (.ifCond .ne 6, 3) := by decide +kernel
theorem dX11_atOnce_62 : decode cX11_atOnce 62 = .ok (.bipush (-3), 2) := by decide +kernel
theorem dX11_atOnce_64 : decode cX11_atOnce 64 = .ok (.ireturn, 1) := by decide +kernel
theorem dX11_atOnce_65 : decode cX11_atOnce 65 = .ok (.aload_n 0, 1) := by decide +kernel
theorem dX11_atOnce_66 : decode cX11_atOnce 66 = .ok (.getfield 88, 3) := by decide +kernel
theorem dX11_atOnce_69 : decode cX11_atOnce 69 = .ok (.invokevirtual 251, 3) := by decide +kernel
theorem dX11_atOnce_72 : decode cX11_atOnce 72 = .ok (.istore_n 3, 1) := by decide +kernel
theorem dX11_atOnce_73 : decode cX11_atOnce 73 = .ok (.iload_n 2, 1) := by decide +kernel
theorem dX11_atOnce_74 : decode cX11_atOnce 74 = .ok (.ifCond .ne 7, 3) := by decide +kernel
theorem dX11_atOnce_77 : decode cX11_atOnce 77 = .ok (.iload_n 3, 1) := by decide +kernel
theorem dX11_atOnce_78 : decode cX11_atOnce 78 = .ok (.goto 12, 3) := by decide +kernel
theorem dX11_atOnce_81 : decode cX11_atOnce 81 = .ok (.aload_n 0, 1) := by decide +kernel
theorem dX11_atOnce_82 : decode cX11_atOnce 82 = .ok (.getfield 88, 3) := by decide +kernel
theorem dX11_atOnce_85 : decode cX11_atOnce 85 = .ok (.iload_n 3, 1) := by decide +kernel
theorem dX11_atOnce_86 : decode cX11_atOnce 86 = .ok (.iload_n 1, 1) := by decide +kernel
theorem dX11_atOnce_87 : decode cX11_atOnce 87 = .ok (.invokevirtual 255, 3) := by decide +kernel
theorem dX11_atOnce_90 : decode cX11_atOnce 90 = .ok (.ireturn, 1) := by decide +kernel
theorem dX11_pulse_0 : decode cX11_pulse 0 = .ok (.iload_n 1, 1) := by decide +kernel
theorem dX11_pulse_1 : decode cX11_pulse 1 = .ok (.iconst 2, 1) := by decide +kernel
theorem dX11_pulse_2 : decode cX11_pulse 2 = .ok (.bipush 20, 2) := by decide +kernel
theorem dX11_pulse_4 : decode cX11_pulse 4 = .ok (.invokestatic 96, 3) := by decide +kernel
theorem dX11_pulse_7 : decode cX11_pulse 7 = .ok (.ifCond .eq 25, 3) := by decide +kernel
theorem dX11_pulse_10 : decode cX11_pulse 10 = .ok (.iload_n 2, 1) := by decide +kernel
theorem dX11_pulse_11 : decode cX11_pulse 11 = .ok (.iconst 0, 1) := by decide +kernel
theorem dX11_pulse_12 : decode cX11_pulse 12 = .ok (.iconst 1, 1) := by decide +kernel
theorem dX11_pulse_13 : decode cX11_pulse 13 = .ok (.invokestatic 96, 3) := by decide +kernel
theorem dX11_pulse_16 : decode cX11_pulse 16 = .ok (.ifCond .eq 16, 3) := by decide +kernel
theorem dX11_pulse_19 : decode cX11_pulse 19 = .ok (.aload_n 0, 1) := by decide +kernel
theorem dX11_pulse_20 : decode cX11_pulse 20 = .ok (.getfield 10, 3) := by decide +kernel
theorem dX11_pulse_23 : decode cX11_pulse 23 = .ok (.iconst 2, 1) := by decide +kernel
theorem dX11_pulse_24 : decode cX11_pulse 24 = .ok (.iload_n 1, 1) := by decide +kernel
theorem dX11_pulse_25 : decode cX11_pulse 25 = .ok (.imul, 1) := by decide +kernel
theorem dX11_pulse_26 : decode cX11_pulse 26 = .ok (.invokevirtual 123, 3) := by decide +kernel
theorem dX11_pulse_29 : decode cX11_pulse 29 = .ok (.ifCond .ne 5, 3) := by decide +kernel
theorem dX11_pulse_32 : decode cX11_pulse 32 = .ok (.iconst (-1), 1) := by decide +kernel
theorem dX11_pulse_33 : decode cX11_pulse 33 = .ok (.ireturn, 1) := by decide +kernel
theorem dX11_pulse_34 : decode cX11_pulse 34 = .ok (.aload_n 0, 1) := by decide +kernel
theorem dX11_pulse_35 : decode cX11_pulse 35 = .ok (.getfield 10, 3) := by decide +kernel
theorem dX11_pulse_38 : decode cX11_pulse 38 = .ok (.iconst 2, 1) := by decide +kernel
theorem dX11_pulse_39 : decode cX11_pulse 39 = .ok (.iload_n 1, 1) := by decide +kernel
theorem dX11_pulse_40 : decode cX11_pulse 40 = .ok (.imul, 1) := by decide +kernel
theorem dX11_pulse_41 : decode cX11_pulse 41 = .ok (.invokevirtual 127, 3) := by decide +kernel
theorem dX11_pulse_44 : decode cX11_pulse 44 = .ok (.aload_n 0, 1) := by decide +kernel
theorem dX11_pulse_45 : decode cX11_pulse 45 = .ok (.getfield 88, 3) := by decide +kernel
theorem dX11_pulse_48 : decode cX11_pulse 48 = .ok (.iload_n 1, 1) := by decide +kernel
theorem dX11_pulse_49 : decode cX11_pulse 49 = .ok (.iload_n 2, 1) := by decide +kernel
theorem dX11_pulse_50 : decode cX11_pulse 50 = .ok (.invokevirtual 258, 3) := by decide +kernel
theorem dX11_pulse_53 : decode cX11_pulse 53 = .ok (.ireturn, 1) := by decide +kernel
theorem dX11_stairs_0 : decode cX11_stairs 0 = .ok (.iload_n 1, 1) := by decide +kernel
theorem dX11_stairs_1 : decode cX11_stairs 1 = .ok (.iconst 2, 1) := by decide +kernel
theorem dX11_stairs_2 : decode cX11_stairs 2 = .ok (.bipush 20, 2) := by decide +kernel
theorem dX11_stairs_4 : decode cX11_stairs 4 = .ok (.invokestatic 96, 3) := by decide +kernel
theorem dX11_stairs_7 : decode cX11_stairs 7 = .ok (.ifCond .eq 23, 3) := by decide +kernel
theorem dX11_stairs_10 : decode cX11_stairs 10 = .ok (.iload_n 2, 1) := by decide +kernel
theorem dX11_stairs_11 : decode cX11_stairs 11 = .ok (.iconst 0, 1) := by decide +kernel
theorem dX11_stairs_12 : decode cX11_stairs 12 = .ok (.iconst 1, 1) := by decide +kernel
theorem dX11_stairs_13 : decode cX11_stairs 13 = .ok (.invokestatic 96, 3) := by decide +kernel
theorem dX11_stairs_16 : decode cX11_stairs 16 = .ok (.ifCond .eq 14, 3) := by decide +kernel
theorem dX11_stairs_19 : decode cX11_stairs 19 = .ok (.aload_n 0, 1) := by decide +kernel
theorem dX11_stairs_20 : decode cX11_stairs 20 = .ok (.getfield 10, 3) := by decide +kernel
theorem dX11_stairs_23 : decode cX11_stairs 23 = .ok (.iload_n 1, 1) := by decide +kernel
theorem dX11_stairs_24 : decode cX11_stairs 24 = .ok (.invokevirtual 123, 3) := by decide +kernel
theorem dX11_stairs_27 : decode cX11_stairs 27 = .ok (.ifCond .ne 5, 3) := by decide +kernel
theorem dX11_stairs_30 : decode cX11_stairs 30 = .ok (.iconst (-1), 1) := by decide +kernel
theorem dX11_stairs_31 : decode cX11_stairs 31 = .ok (.ireturn, 1) := by decide +kernel
theorem dX11_stairs_32 : decode cX11_stairs 32 = .ok (.aload_n 0, 1) := by decide +kernel
theorem dX11_stairs_33 : decode cX11_stairs 33 = .ok (.getfield 10, 3) := by decide +kernel
theorem dX11_stairs_36 : decode cX11_stairs 36 = .ok (.iload_n 1, 1) := by decide +kernel
theorem dX11_stairs_37 : decode cX11_stairs 37 = .ok (.invokevirtual 127, 3) := by decide +kernel
theorem dX11_stairs_40 : decode cX11_stairs 40 = .ok (.aload_n 0, 1) := by decide +kernel
theorem dX11_stairs_41 : decode cX11_stairs 41 = .ok (.getfield 88, 3) := by decide +kernel
theorem dX11_stairs_44 : decode cX11_stairs 44 = .ok (.iload_n 1, 1) := by decide +kernel
theorem dX11_stairs_45 : decode cX11_stairs 45 = .ok (.iload_n 2, 1) := by decide +kernel
theorem dX11_stairs_46 : decode cX11_stairs 46 = .ok (.invokevirtual 261, 3) := by decide +kernel
theorem dX11_stairs_49 : decode cX11_stairs 49 = .ok (.ireturn, 1) := by decide +kernel
theorem dX11_bells_0 : decode cX11_bells 0 = .ok (.iload_n 1, 1) := by decide +kernel
theorem dX11_bells_1 : decode cX11_bells 1 = .ok (.iconst 1, 1) := by decide +kernel
theorem dX11_bells_2 : decode cX11_bells 2 = .ok (.iconst 5, 1) := by decide +kernel
theorem dX11_bells_3 : decode cX11_bells 3 = .ok (.invokestatic 96, 3) := by decide +kernel
theorem dX11_bells_6 : decode cX11_bells 6 = .ok (.ifCond .eq 25, 3) := by decide +kernel
theorem dX11_bells_9 : decode cX11_bells 9 = .ok (.iload_n 2, 1) := by decide +kernel
theorem dX11_bells_10 : decode cX11_bells 10 = .ok (.iconst 1, 1) := by decide +kernel
theorem dX11_bells_11 : decode cX11_bells 11 = .ok (.sipush 9999, 3) := by decide +kernel
theorem dX11_bells_14 : decode cX11_bells 14 = .ok (.invokestatic 96, 3) := by decide +kernel
theorem dX11_bells_17 : decode cX11_bells 17 = .ok (.ifCond .eq 14, 3) := by decide +kernel
theorem dX11_bells_20 : decode cX11_bells 20 = .ok (.aload_n 0, 1) := by decide +kernel
theorem dX11_bells_21 : decode cX11_bells 21 = .ok (.getfield 10, 3) := by decide +kernel
theorem dX11_bells_24 : decode cX11_bells 24 = .ok (.iload_n 1, 1) := by decide +kernel
theorem dX11_bells_25 : decode cX11_bells 25 = .ok (.invokevirtual 123, 3) := by decide +kernel
theorem dX11_bells_28 : decode cX11_bells 28 = .ok (.ifCond .ne 5, 3) := by decide +kernel
theorem dX11_bells_31 : decode cX11_bells 31 = .ok (.iconst (-1), 1) := by decide +kernel
theorem dX11_bells_32 : decode cX11_bells 32 = .ok (.ireturn, 1) := by decide +kernel
theorem dX11_bells_33 : decode cX11_bells 33 = .ok (.aload_n 0, 1) := by decide +kernel
theorem dX11_bells_34 : decode cX11_bells 34 = .ok (.getfield 10, 3) := by decide +kernel
theorem dX11_bells_37 : decode cX11_bells 37 = .ok (.iload_n 1, 1) := by decide +kernel
theorem dX11_bells_38 : decode cX11_bells 38 = .ok (.invokevirtual 127, 3) := by decide +kernel
theorem dX11_bells_41 : decode cX11_bells 41 = .ok (.aload_n 0, 1) := by decide +kernel
theorem dX11_bells_42 : decode cX11_bells 42 = .ok (.getfield 88, 3) := by decide +kernel
theorem dX11_bells_45 : decode cX11_bells 45 = .ok (.iload_n 1, 1) := by decide +kernel
theorem dX11_bells_46 : decode cX11_bells 46 = .ok (.invokevirtual 264, 3) := by decide +kernel
theorem dX11_bells_49 : decode cX11_bells 49 = .ok (.ifCond .eq 15, 3) := by decide +kernel
theorem dX11_bells_52 : decode cX11_bells 52 = .ok (.aload_n 0, 1) := by decide +kernel
theorem dX11_bells_53 : decode cX11_bells 53 = .ok (.getfield 88, 3) := by decide +kernel
theorem dX11_bells_56 : decode cX11_bells 56 = .ok (.iload_n 1, 1) := by decide +kernel
theorem dX11_bells_57 : decode cX11_bells 57 = .ok (.iload_n 2, 1) := by decide +kernel
theorem dX11_bells_58 : decode cX11_bells 58 = .ok (.invokevirtual 267, 3) := by decide +kernel
theorem dX11_bells_61 : decode cX11_bells 61 = .ok (.goto 5, 3) := by decide +kernel
theorem dX11_bells_64 : decode cX11_bells 64 = .ok (.bipush (-3), 2) := by decide +kernel
theorem dX11_bells_66 : decode cX11_bells 66 = .ok (.ireturn, 1) := by decide +kernel
theorem dX11_seed_0 : decode cX11_seed 0 = .ok (.iload_n 1, 1) := by decide +kernel
theorem dX11_seed_1 : decode cX11_seed 1 = .ok (.iconst 0, 1) := by decide +kernel
theorem dX11_seed_2 : decode cX11_seed 2 = .ok (.ldc 247, 2) := by decide +kernel
theorem dX11_seed_4 : decode cX11_seed 4 = .ok (.invokestatic 96, 3) := by decide +kernel
theorem dX11_seed_7 : decode cX11_seed 7 = .ok (.ifCond .ne 5, 3) := by decide +kernel
theorem dX11_seed_10 : decode cX11_seed 10 = .ok (.iconst 0, 1) := by decide +kernel
theorem dX11_seed_11 : decode cX11_seed 11 = .ok (.ireturn, 1) := by decide +kernel
theorem dX11_seed_12 : decode cX11_seed 12 = .ok (.aload_n 0, 1) := by decide +kernel
theorem dX11_seed_13 : decode cX11_seed 13 = .ok (.getfield 19, 3) := by decide +kernel
theorem dX11_seed_16 : decode cX11_seed 16 = .ok (.iload_n 1, 1) := by decide +kernel
theorem dX11_seed_17 : decode cX11_seed 17 = .ok (.putfield 270, 3) := by decide +kernel
theorem dX11_seed_20 : decode cX11_seed 20 = .ok (.iconst 1, 1) := by decide +kernel
theorem dX11_seed_21 : decode cX11_seed 21 = .ok (.ireturn, 1) := by decide +kernel
theorem dX11_keep_0 : decode cX11_keep 0 = .ok (.aload_n 0, 1) := by decide +kernel
theorem dX11_keep_1 : decode cX11_keep 1 = .ok (.getfield 23, 3) := by decide +kernel
theorem dX11_keep_4 : decode cX11_keep 4 = .ok (.aload_n 0, 1) := by decide +kernel
theorem dX11_keep_5 : decode cX11_keep 5 = .ok (.getfield 19, 3) := by decide +kernel
theorem dX11_keep_8 : decode cX11_keep 8 = .ok (.invokevirtual 163, 3) := by decide +kernel
theorem dX11_keep_11 : decode cX11_keep 11 = .ok (.aload_n 0, 1) := by decide +kernel
theorem dX11_keep_12 : decode cX11_keep 12 = .ok (.iconst 1, 1) := by decide +kernel
theorem dX11_keep_13 : decode cX11_keep 13 = .ok (.putfield 92, 3) := by decide +kernel
theorem dX11_keep_16 : decode cX11_keep 16 = .ok (.aload_n 0, 1) := by decide +kernel
theorem dX11_keep_17 : decode cX11_keep 17 = .ok (.getfield 19, 3) := by decide +kernel
theorem dX11_keep_20 : decode cX11_keep 20 = .ok (.getfield 273, 3) := by decide +kernel
theorem dX11_keep_23 : decode cX11_keep 23 = .ok (.ireturn, 1) := by decide +kernel
theorem dX11_undo_0 : decode cX11_undo 0 = .ok (.aload_n 0, 1) := by decide +kernel
theorem dX11_undo_1 : decode cX11_undo 1 = .ok (.getfield 92, 3) := by decide +kernel
theorem dX11_undo_4 : decode cX11_undo 4 = .ok (.ifCond .eq 14, 3) := by decide +kernel
theorem dX11_undo_7 : decode cX11_undo 7 = .ok (.aload_n 0, 1) := by decide +kernel
theorem dX11_undo_8 : decode cX11_undo 8 = .ok (.getfield 19, 3) := by decide +kernel
theorem dX11_undo_11 : decode cX11_undo 11 = .ok (.aload_n 0, 1) := by decide +kernel
theorem dX11_undo_12 : decode cX11_undo 12 = .ok (.getfield 23, 3) := by decide +kernel
theorem dX11_undo_15 : decode cX11_undo 15 = .ok (.invokevirtual 163, 3) := by decide +kernel
theorem dX11_undo_18 : decode cX11_undo 18 = .ok (.aload_n 0, 1) := by decide +kernel
theorem dX11_undo_19 : decode cX11_undo 19 = .ok (.getfield 92, 3) := by decide +kernel
theorem dX11_undo_22 : decode cX11_undo 22 = .ok (.ireturn, 1) := by decide +kernel
theorem dX11_check_0 : decode cX11_check 0 = .ok (.iload_n 1, 1) := by decide +kernel
theorem dX11_check_1 : decode cX11_check 1 = .ok (.iconst 0, 1) := by decide +kernel
theorem dX11_check_2 : decode cX11_check 2 = .ok (.bipush 16, 2) := by decide +kernel
theorem dX11_check_4 : decode cX11_check 4 = .ok (.invokestatic 96, 3) := by decide +kernel
theorem dX11_check_7 : decode cX11_check 7 = .ok (.ifCond .eq 14, 3) := by decide +kernel
theorem dX11_check_10 : decode cX11_check 10 = .ok (.aload_n 0, 1) := by decide +kernel
theorem dX11_check_11 : decode cX11_check 11 = .ok (.getfield 10, 3) := by decide +kernel
theorem dX11_check_14 : decode cX11_check 14 = .ok (.iload_n 1, 1) := by decide +kernel
theorem dX11_check_15 : decode cX11_check 15 = .ok (.invokevirtual 123, 3) := by decide +kernel
theorem dX11_check_18 : decode cX11_check 18 = .ok (.ifCond .ne 6, 3) := by decide +kernel
theorem dX11_check_21 : decode cX11_check 21 = .ok (.bipush (-2), 2) := by decide +kernel
theorem dX11_check_23 : decode cX11_check 23 = .ok (.ireturn, 1) := by decide +kernel
theorem dX11_check_24 : decode cX11_check 24 = .ok (.aload_n 0, 1) := by decide +kernel
theorem dX11_check_25 : decode cX11_check 25 = .ok (.getfield 10, 3) := by decide +kernel
theorem dX11_check_28 : decode cX11_check 28 = .ok (.iload_n 1, 1) := by decide +kernel
theorem dX11_check_29 : decode cX11_check 29 = .ok (.invokevirtual 127, 3) := by decide +kernel
theorem dX11_check_32 : decode cX11_check 32 = .ok (.iconst 0, 1) := by decide +kernel
theorem dX11_check_33 : decode cX11_check 33 = .ok (.istore_n 2, 1) := by decide +kernel
theorem dX11_check_34 : decode cX11_check 34 = .ok (.iload_n 2, 1) := by decide +kernel
theorem dX11_check_35 : decode cX11_check 35 = .ok (.iload_n 1, 1) := by decide +kernel
theorem dX11_check_36 : decode cX11_check 36 = .ok (.if_icmp .ge 55, 3) := by decide +kernel
theorem dX11_check_39 : decode cX11_check 39 = .ok (.aload_n 0, 1) := by decide +kernel
theorem dX11_check_40 : decode cX11_check 40 = .ok (.getfield 19, 3) := by decide +kernel
theorem dX11_check_43 : decode cX11_check 43 = .ok (.iload_n 2, 1) := by decide +kernel
theorem dX11_check_44 : decode cX11_check 44 = .ok (.invokevirtual 179, 3) := by decide +kernel
theorem dX11_check_47 : decode cX11_check 47 = .ok (.ifCond .eq 7, 3) := by decide +kernel
theorem dX11_check_50 : decode cX11_check 50 = .ok (.iconst 1, 1) := by decide +kernel
theorem dX11_check_51 : decode cX11_check 51 = .ok (.goto 4, 3) := by decide +kernel
theorem dX11_check_54 : decode cX11_check 54 = .ok (.iconst 0, 1) := by decide +kernel
theorem dX11_check_55 : decode cX11_check 55 = .ok (.istore_n 3, 1) := by decide +kernel
theorem dX11_check_56 : decode cX11_check 56 = .ok (.aload_n 0, 1) := by decide +kernel
theorem dX11_check_57 : decode cX11_check 57 = .ok (.getfield 19, 3) := by decide +kernel
theorem dX11_check_60 : decode cX11_check 60 = .ok (.iload_n 2, 1) := by decide +kernel
theorem dX11_check_61 : decode cX11_check 61 = .ok (.invokevirtual 159, 3) := by decide +kernel
theorem dX11_check_64 : decode cX11_check 64 = .ok (.ifCond .ne 7, 3) := by decide +kernel
theorem dX11_check_67 : decode cX11_check 67 = .ok (.sipush 255, 3) := by decide +kernel
theorem dX11_check_70 : decode cX11_check 70 = .ok (.istore_n 3, 1) := by decide +kernel
theorem dX11_check_71 : decode cX11_check 71 = .ok (.aload_n 0, 1) := by decide +kernel
theorem dX11_check_72 : decode cX11_check 72 = .ok (.getfield 10, 3) := by decide +kernel
theorem dX11_check_75 : decode cX11_check 75 = .ok (.iload_n 2, 1) := by decide +kernel
theorem dX11_check_76 : decode cX11_check 76 = .ok (.invokevirtual 248, 3) := by decide +kernel
theorem dX11_check_79 : decode cX11_check 79 = .ok (.iload_n 3, 1) := by decide +kernel
theorem dX11_check_80 : decode cX11_check 80 = .ok (.if_icmp .eq 5, 3) := by decide +kernel
theorem dX11_check_83 : decode cX11_check 83 = .ok (.iload_n 2, 1) := by decide +kernel
theorem dX11_check_84 : decode cX11_check 84 = .ok (.ireturn, 1) := by decide +kernel
theorem dX11_check_85 : decode cX11_check 85 = .ok (.iinc 2 1, 3) := by decide +kernel
theorem dX11_check_88 : decode cX11_check 88 = .ok (.goto (-54), 3) := by decide +kernel
theorem dX11_check_91 : decode cX11_check 91 = .ok (.iconst (-1), 1) := by decide +kernel
theorem dX11_check_92 : decode cX11_check 92 = .ok (.ireturn, 1) := by decide +kernel
theorem dX11_count_0 : decode cX11_count 0 = .ok (.iload_n 1, 1) := by decide +kernel
theorem dX11_count_1 : decode cX11_count 1 = .ok (.tableswitch 126 0 8 #[51, 59, 67, 75, 83, 94, 102, 110, 118], 51) := by decide +kernel
theorem dX11_count_52 : decode cX11_count 52 = .ok (.aload_n 0, 1) := by decide +kernel
theorem dX11_count_53 : decode cX11_count 53 = .ok (.getfield 19, 3) := by decide +kernel
theorem dX11_count_56 : decode cX11_count 56 = .ok (.getfield 273, 3) := by decide +kernel
theorem dX11_count_59 : decode cX11_count 59 = .ok (.ireturn, 1) := by decide +kernel
theorem dX11_count_60 : decode cX11_count 60 = .ok (.aload_n 0, 1) := by decide +kernel
theorem dX11_count_61 : decode cX11_count 61 = .ok (.getfield 19, 3) := by decide +kernel
theorem dX11_count_64 : decode cX11_count 64 = .ok (.getfield 109, 3) := by decide +kernel
theorem dX11_count_67 : decode cX11_count 67 = .ok (.ireturn, 1) := by decide +kernel
theorem dX11_count_68 : decode cX11_count 68 = .ok (.aload_n 0, 1) := by decide +kernel
theorem dX11_count_69 : decode cX11_count 69 = .ok (.getfield 19, 3) := by decide +kernel
theorem dX11_count_72 : decode cX11_count 72 = .ok (.getfield 113, 3) := by decide +kernel
theorem dX11_count_75 : decode cX11_count 75 = .ok (.ireturn, 1) := by decide +kernel
theorem dX11_count_76 : decode cX11_count 76 = .ok (.aload_n 0, 1) := by decide +kernel
theorem dX11_count_77 : decode cX11_count 77 = .ok (.getfield 19, 3) := by decide +kernel
theorem dX11_count_80 : decode cX11_count 80 = .ok (.getfield 172, 3) := by decide +kernel
theorem dX11_count_83 : decode cX11_count 83 = .ok (.ireturn, 1) := by decide +kernel
theorem dX11_count_84 : decode cX11_count 84 = .ok (.aload_n 0, 1) := by decide +kernel
theorem dX11_count_85 : decode cX11_count 85 = .ok (.getfield 19, 3) := by decide +kernel
theorem dX11_count_88 : decode cX11_count 88 = .ok (.getfield 143, 3) := by decide +kernel
theorem dX11_count_91 : decode cX11_count 91 = .ok (.getfield 154, 3) := by decide +kernel
theorem dX11_count_94 : decode cX11_count 94 = .ok (.ireturn, 1) := by decide +kernel
theorem dX11_count_95 : decode cX11_count 95 = .ok (.aload_n 0, 1) := by decide +kernel
theorem dX11_count_96 : decode cX11_count 96 = .ok (.getfield 55, 3) := by decide +kernel
theorem dX11_count_99 : decode cX11_count 99 = .ok (.getfield 137, 3) := by decide +kernel
theorem dX11_count_102 : decode cX11_count 102 = .ok (.ireturn, 1) := by decide +kernel
theorem dX11_count_103 : decode cX11_count 103 = .ok (.aload_n 0, 1) := by decide +kernel
theorem dX11_count_104 : decode cX11_count 104 = .ok (.getfield 10, 3) := by decide +kernel
theorem dX11_count_107 : decode cX11_count 107 = .ok (.getfield 116, 3) := by decide +kernel
theorem dX11_count_110 : decode cX11_count 110 = .ok (.ireturn, 1) := by decide +kernel
theorem dX11_count_111 : decode cX11_count 111 = .ok (.aload_n 0, 1) := by decide +kernel
theorem dX11_count_112 : decode cX11_count 112 = .ok (.getfield 19, 3) := by decide +kernel
theorem dX11_count_115 : decode cX11_count 115 = .ok (.getfield 270, 3) := by decide +kernel
theorem dX11_count_118 : decode cX11_count 118 = .ok (.ireturn, 1) := by decide +kernel
theorem dX11_count_119 : decode cX11_count 119 = .ok (.aload_n 0, 1) := by decide +kernel
theorem dX11_count_120 : decode cX11_count 120 = .ok (.getfield 19, 3) := by decide +kernel
theorem dX11_count_123 : decode cX11_count 123 = .ok (.invokevirtual 276, 3) := by decide +kernel
theorem dX11_count_126 : decode cX11_count 126 = .ok (.ireturn, 1) := by decide +kernel
theorem dX11_count_127 : decode cX11_count 127 = .ok (.iconst (-1), 1) := by decide +kernel
theorem dX11_count_128 : decode cX11_count 128 = .ok (.ireturn, 1) := by decide +kernel
def mX11_isWithin (F : Nat) (x0 : Int32) (x1 : Int32) (x2 : Int32) (σ : jS) : Option Int32 := (if x0 < x1 then some (0 : Int32) else (if x2 < x0 then some (0 : Int32) else some (1 : Int32)))
set_option maxHeartbeats 4000000 in
set_option maxRecDepth 100000 in
theorem kX11_isWithin {V : jV} {F : Nat} {x0 : Int32} {x1 : Int32} {x2 : Int32} {σ : jS} {v : Int32} (hm : mX11_isWithin F x0 x1 x2 σ = some v) : Ct cfX 70 V yX11_isWithin cX11_isWithin 3 (some .boolean) 0 [.int x0, .int x1, .int x2] σ (v, σ) := by
  refine j_start (own := RX11) (by decide) rfl (Nat.le_of_ble_eq_true rfl) ?_
  intro G hV C
  subst hV
  unfold mX11_isWithin at hm
  show JX G 0 [(0, .int x0), (1, .int x1), (2, .int x2)] [] σ (v, σ)
  refine j_iloadn (pc := 0) C 0 dX11_isWithin_0 rfl rfl ?_
  refine j_iloadn (pc := 1) C 1 dX11_isWithin_1 rfl rfl ?_
  refine j_icmp_lt (tgt := 14) (pc := 2) C dX11_isWithin_2 (by decide) hm (fun _ hm => ?_) (fun _ hm => ?_)
  · refine j_iconst (v := 0) (pc := 14) C dX11_isWithin_14 (by decide) ?_
    exact j_zret (pc := 15) C rfl rfl dX11_isWithin_15 hm
  · refine j_iloadn (pc := 5) C 0 dX11_isWithin_5 rfl rfl ?_
    refine j_iloadn (pc := 6) C 2 dX11_isWithin_6 rfl rfl ?_
    refine j_icmp_gt (tgt := 14) (pc := 7) C dX11_isWithin_7 (by decide) hm (fun _ hm => ?_) (fun _ hm => ?_)
    · refine j_iconst (v := 0) (pc := 14) C dX11_isWithin_14 (by decide) ?_
      exact j_zret (pc := 15) C rfl rfl dX11_isWithin_15 hm
    · refine j_iconst (v := 1) (pc := 10) C dX11_isWithin_10 (by decide) ?_
      refine j_goto (tgt := 15) (pc := 11) C dX11_isWithin_11 (by decide) ?_
      exact j_zret (pc := 15) C rfl rfl dX11_isWithin_15 hm

def mX11_person (F : Nat) (x1 : Int32) (x2 : Int32) (x3 : Int32) (σ : jS) : Option (Int32 × jS) := (Option.bind (mX11_isWithin F x1 (0 : Int32) (15 : Int32) σ) fun q1 => (if q1 = 0 then some ((0 : Int32), σ) else (Option.bind (mX11_isWithin F x2 (1 : Int32) (999999999 : Int32) σ) fun q2 => (if q2 = 0 then some ((0 : Int32), σ) else (Option.bind (mX11_isWithin F x3 (0 : Int32) (99999 : Int32) σ) fun q3 => (if q3 = 0 then some ((0 : Int32), σ) else (if jin x1 16 = true then (lt (js σ 4 x1.toNatClampNeg x2) fun σ4 => (if jin x1 16 = true then (lt (js σ4 5 x1.toNatClampNeg x3) fun σ6 => (lt (js σ6 3 3 ((σ6 3 3) ||| ((1 : Int32) <<< (x1 &&& 31)))) fun σ8 => (lt (js σ8 3 4 ((σ8 3 4) ||| ((1 : Int32) <<< (x1 &&& 31)))) fun σ9 => some ((1 : Int32), σ9)))) else none)) else none)))))))
set_option maxHeartbeats 4000000 in
set_option maxRecDepth 100000 in
theorem kX11_person {V : jV} {F : Nat} {x1 : Int32} {x2 : Int32} {x3 : Int32} {σ : jS} {v : (Int32 × jS)} (hm : mX11_person F x1 x2 x3 σ = some v) : Ct cfX 70 V yX11_person cX11_person 4 (some .boolean) 1 [.ref (vad V 0), .int x1, .int x2, .int x3] σ v := by
  refine j_start (own := RX11) (by decide) rfl (Nat.le_of_ble_eq_true rfl) ?_
  intro G hV C
  subst hV
  unfold mX11_person at hm
  show JX G 0 [(0, .ref (vad (gV G) 0)), (1, .int x1), (2, .int x2), (3, .int x3)] [] σ v
  refine j_iloadn (pc := 0) C 1 dX11_person_0 rfl rfl ?_
  refine j_iconst (v := 0) (pc := 1) C dX11_person_1 (by decide) ?_
  refine j_bipush (v := 15) (pc := 2) C dX11_person_2 (by decide) ?_
  obtain ⟨q1, hq1, hm⟩ := Option.bind_eq_some_iff.mp hm
  refine cl_X11_96 (pc := 4) C (kX11_isWithin hq1) (by decide) (Nat.le_of_ble_eq_true rfl) dX11_person_4 ?_
  refine j_if_eq (tgt := 30) (pc := 7) C dX11_person_7 (by decide) hm (fun _ hm => ?_) (fun _ hm => ?_)
  · refine j_iconst (v := 0) (pc := 30) C dX11_person_30 (by decide) ?_
    exact j_zretS (pc := 31) C rfl rfl dX11_person_31 hm
  · refine j_iloadn (pc := 10) C 2 dX11_person_10 rfl rfl ?_
    refine j_iconst (v := 1) (pc := 11) C dX11_person_11 (by decide) ?_
    refine j_ldc (v := 999999999) (pc := 12) C dX11_person_12 tw_2_139 ?_
    obtain ⟨q2, hq2, hm⟩ := Option.bind_eq_some_iff.mp hm
    refine cl_X11_96 (pc := 14) C (kX11_isWithin hq2) (by decide) (Nat.le_of_ble_eq_true rfl) dX11_person_14 ?_
    refine j_if_eq (tgt := 30) (pc := 17) C dX11_person_17 (by decide) hm (fun _ hm => ?_) (fun _ hm => ?_)
    · refine j_iconst (v := 0) (pc := 30) C dX11_person_30 (by decide) ?_
      exact j_zretS (pc := 31) C rfl rfl dX11_person_31 hm
    · refine j_iloadn (pc := 20) C 3 dX11_person_20 rfl rfl ?_
      refine j_iconst (v := 0) (pc := 21) C dX11_person_21 (by decide) ?_
      refine j_ldc (v := 99999) (pc := 22) C dX11_person_22 tw_2_140 ?_
      obtain ⟨q3, hq3, hm⟩ := Option.bind_eq_some_iff.mp hm
      refine cl_X11_96 (pc := 24) C (kX11_isWithin hq3) (by decide) (Nat.le_of_ble_eq_true rfl) dX11_person_24 ?_
      refine j_if_ne (tgt := 32) (pc := 27) C dX11_person_27 (by decide) hm (fun _ hm => ?_) (fun _ hm => ?_)
      · refine j_iconst (v := 0) (pc := 30) C dX11_person_30 (by decide) ?_
        exact j_zretS (pc := 31) C rfl rfl dX11_person_31 hm
      · refine j_aloadn (pc := 32) C 0 dX11_person_32 rfl rfl ?_
        refine gf_X11_19 (c := 0) (pc := 33) C kx_0 dX11_person_33 ?_
        refine gf_X11_102 (c := 3) (pc := 36) C kx_3 dX11_person_36 ?_
        refine j_iloadn (pc := 39) C 1 dX11_person_39 rfl rfl ?_
        refine j_iloadn (pc := 40) C 2 dX11_person_40 rfl rfl ?_
        refine j_guard hm (fun hg5 hm => ?_)
        refine j_iastL (c := 4) (n := 16) (pc := 41) C (kX_lt kx_4 (by decide)) (cx_a kx_4 lx_4) hg5 dX11_person_41 hm (fun σ4 hm => ?_)
        refine j_aloadn (pc := 42) C 0 dX11_person_42 rfl rfl ?_
        refine gf_X11_19 (c := 0) (pc := 43) C kx_0 dX11_person_43 ?_
        refine gf_X11_106 (c := 3) (pc := 46) C kx_3 dX11_person_46 ?_
        refine j_iloadn (pc := 49) C 1 dX11_person_49 rfl rfl ?_
        refine j_iloadn (pc := 50) C 3 dX11_person_50 rfl rfl ?_
        refine j_guard hm (fun hg7 hm => ?_)
        refine j_iastL (c := 5) (n := 16) (pc := 51) C (kX_lt kx_5 (by decide)) (cx_a kx_5 lx_5) hg7 dX11_person_51 hm (fun σ6 hm => ?_)
        refine j_aloadn (pc := 52) C 0 dX11_person_52 rfl rfl ?_
        refine gf_X11_19 (c := 0) (pc := 53) C kx_0 dX11_person_53 ?_
        refine j_dup (pc := 56) C dX11_person_56 rfl ?_
        refine gf_X11_109 (c := 3) (pc := 57) C kx_3 dX11_person_57 ?_
        refine j_iconst (v := 1) (pc := 60) C dX11_person_60 (by decide) ?_
        refine j_iloadn (pc := 61) C 1 dX11_person_61 rfl rfl ?_
        refine j_ishl (pc := 62) C dX11_person_62 ?_
        refine j_ior (pc := 63) C dX11_person_63 ?_
        refine pf_X11_109 (c := 3) (pc := 64) C kx_3 dX11_person_64 hm (fun σ8 hm => ?_)
        refine j_aloadn (pc := 67) C 0 dX11_person_67 rfl rfl ?_
        refine gf_X11_19 (c := 0) (pc := 68) C kx_0 dX11_person_68 ?_
        refine j_dup (pc := 71) C dX11_person_71 rfl ?_
        refine gf_X11_113 (c := 3) (pc := 72) C kx_3 dX11_person_72 ?_
        refine j_iconst (v := 1) (pc := 75) C dX11_person_75 (by decide) ?_
        refine j_iloadn (pc := 76) C 1 dX11_person_76 rfl rfl ?_
        refine j_ishl (pc := 77) C dX11_person_77 ?_
        refine j_ior (pc := 78) C dX11_person_78 ?_
        refine pf_X11_113 (c := 3) (pc := 79) C kx_3 dX11_person_79 hm (fun σ9 hm => ?_)
        refine j_iconst (v := 1) (pc := 82) C dX11_person_82 (by decide) ?_
        exact j_zretS (pc := 83) C rfl rfl dX11_person_83 hm

def mX11_feed (F : Nat) (x1 : Int32) (x2 : Int32) (x3 : Int32) (x4 : Int32) (x5 : Int32) (σ : jS) : Option (Int32 × jS) := (if (240 : Int32) < (σ 1 1) then some ((-1 : Int32), σ) else (Option.bind (mX10_add F x1 σ) fun q1 => (Option.bind (mX10_add F x2 q1) fun q2 => (Option.bind (mX10_add F x3 q2) fun q3 => (Option.bind (mX10_add F x4 q3) fun q4 => (Option.bind (mX10_add F x5 q4) fun q5 => some ((q5 1 1), q5)))))))
set_option maxHeartbeats 4000000 in
set_option maxRecDepth 100000 in
theorem kX11_feed {V : jV} {F : Nat} {x1 : Int32} {x2 : Int32} {x3 : Int32} {x4 : Int32} {x5 : Int32} {σ : jS} {v : (Int32 × jS)} (hm : mX11_feed F x1 x2 x3 x4 x5 σ = some v) : Ct cfX 70 V yX11_feed cX11_feed 6 (some .int) 1 [.ref (vad V 0), .int x1, .int x2, .int x3, .int x4, .int x5] σ v := by
  refine j_start (own := RX11) (by decide) rfl (Nat.le_of_ble_eq_true rfl) ?_
  intro G hV C
  subst hV
  unfold mX11_feed at hm
  show JX G 0 [(0, .ref (vad (gV G) 0)), (1, .int x1), (2, .int x2), (3, .int x3), (4, .int x4), (5, .int x5)] [] σ v
  refine j_aloadn (pc := 0) C 0 dX11_feed_0 rfl rfl ?_
  refine gf_X11_10 (c := 0) (pc := 1) C kx_0 dX11_feed_1 ?_
  refine gf_X11_116 (c := 1) (pc := 4) C kx_1 dX11_feed_4 ?_
  refine j_sipush (v := 240) (pc := 7) C dX11_feed_7 (by decide) ?_
  refine j_icmp_le (tgt := 15) (pc := 10) C dX11_feed_10 (by decide) hm (fun _ hm => ?_) (fun _ hm => ?_)
  · refine j_iconst (v := -1) (pc := 13) C dX11_feed_13 (by decide) ?_
    exact j_iretS (pc := 14) C rfl dX11_feed_14 hm
  · refine j_aloadn (pc := 15) C 0 dX11_feed_15 rfl rfl ?_
    refine gf_X11_10 (c := 0) (pc := 16) C kx_0 dX11_feed_16 ?_
    refine j_iloadn (pc := 19) C 1 dX11_feed_19 rfl rfl ?_
    obtain ⟨q1, hq1, hm⟩ := Option.bind_eq_some_iff.mp hm
    refine cl_X11_119 (c := 1) (pc := 20) C kx_1 (kX10_add hq1) (by decide) (Nat.le_of_ble_eq_true rfl) dX11_feed_20 ?_
    refine j_aloadn (pc := 23) C 0 dX11_feed_23 rfl rfl ?_
    refine gf_X11_10 (c := 0) (pc := 24) C kx_0 dX11_feed_24 ?_
    refine j_iloadn (pc := 27) C 2 dX11_feed_27 rfl rfl ?_
    obtain ⟨q2, hq2, hm⟩ := Option.bind_eq_some_iff.mp hm
    refine cl_X11_119 (c := 1) (pc := 28) C kx_1 (kX10_add hq2) (by decide) (Nat.le_of_ble_eq_true rfl) dX11_feed_28 ?_
    refine j_aloadn (pc := 31) C 0 dX11_feed_31 rfl rfl ?_
    refine gf_X11_10 (c := 0) (pc := 32) C kx_0 dX11_feed_32 ?_
    refine j_iloadn (pc := 35) C 3 dX11_feed_35 rfl rfl ?_
    obtain ⟨q3, hq3, hm⟩ := Option.bind_eq_some_iff.mp hm
    refine cl_X11_119 (c := 1) (pc := 36) C kx_1 (kX10_add hq3) (by decide) (Nat.le_of_ble_eq_true rfl) dX11_feed_36 ?_
    refine j_aloadn (pc := 39) C 0 dX11_feed_39 rfl rfl ?_
    refine gf_X11_10 (c := 0) (pc := 40) C kx_0 dX11_feed_40 ?_
    refine j_iload (pc := 43) C 4 dX11_feed_43 rfl ?_
    obtain ⟨q4, hq4, hm⟩ := Option.bind_eq_some_iff.mp hm
    refine cl_X11_119 (c := 1) (pc := 45) C kx_1 (kX10_add hq4) (by decide) (Nat.le_of_ble_eq_true rfl) dX11_feed_45 ?_
    refine j_aloadn (pc := 48) C 0 dX11_feed_48 rfl rfl ?_
    refine gf_X11_10 (c := 0) (pc := 49) C kx_0 dX11_feed_49 ?_
    refine j_iload (pc := 52) C 5 dX11_feed_52 rfl ?_
    obtain ⟨q5, hq5, hm⟩ := Option.bind_eq_some_iff.mp hm
    refine cl_X11_119 (c := 1) (pc := 54) C kx_1 (kX10_add hq5) (by decide) (Nat.le_of_ble_eq_true rfl) dX11_feed_54 ?_
    refine j_aloadn (pc := 57) C 0 dX11_feed_57 rfl rfl ?_
    refine gf_X11_10 (c := 0) (pc := 58) C kx_0 dX11_feed_58 ?_
    refine gf_X11_116 (c := 1) (pc := 61) C kx_1 dX11_feed_61 ?_
    exact j_iretS (pc := 64) C rfl dX11_feed_64 hm

def mX11_law (F : Nat) (x1 : Int32) (σ : jS) : Option (Int32 × jS) := (Option.bind (mX11_isWithin F x1 (1 : Int32) (240 : Int32) σ) fun q1 => (if q1 = 0 then some ((-1 : Int32), σ) else (Option.bind (mX10_has F x1 σ) fun q2 => (if q2 = 0 then some ((-1 : Int32), σ) else (Option.bind (mX10_open F x1 σ) fun q3 => (lt (q3 0 12).toNatClampNeg fun e4 => if kX e4 = 3 then (Option.bind (mX4_read F e4 q3) fun q5 => (if (q5 1 5) = 0 then (lt (q5 0 11).toNatClampNeg fun e6 => if kX e6 = 3 then (lt (q5 0 12).toNatClampNeg fun e7 => if kX e7 = 3 then (lt (js q5 0 11 (nI e7)) fun σ8 => (lt (js σ8 0 12 (nI e6)) fun σ9 => (lt (σ9 0 11).toNatClampNeg fun e10 => if kX e10 = 3 then some ((σ9 e10 6), σ9) else none))) else none) else none) else some ((q5 1 5), q5))) else none))))))
set_option maxHeartbeats 4000000 in
set_option maxRecDepth 100000 in
theorem kX11_law {V : jV} {F : Nat} {x1 : Int32} {σ : jS} {v : (Int32 × jS)} (hm : mX11_law F x1 σ = some v) : Ct cfX 70 V yX11_law cX11_law 3 (some .int) 52 [.ref (vad V 0), .int x1] σ v := by
  refine j_start (own := RX11) (by decide) rfl (Nat.le_of_ble_eq_true rfl) ?_
  intro G hV C
  subst hV
  unfold mX11_law at hm
  show JX G 0 [(0, .ref (vad (gV G) 0)), (1, .int x1)] [] σ v
  refine j_iloadn (pc := 0) C 1 dX11_law_0 rfl rfl ?_
  refine j_iconst (v := 1) (pc := 1) C dX11_law_1 (by decide) ?_
  refine j_sipush (v := 240) (pc := 2) C dX11_law_2 (by decide) ?_
  obtain ⟨q1, hq1, hm⟩ := Option.bind_eq_some_iff.mp hm
  refine cl_X11_96 (pc := 5) C (kX11_isWithin hq1) (by decide) (Nat.le_of_ble_eq_true rfl) dX11_law_5 ?_
  refine j_if_eq (tgt := 22) (pc := 8) C dX11_law_8 (by decide) hm (fun _ hm => ?_) (fun _ hm => ?_)
  · refine j_iconst (v := -1) (pc := 22) C dX11_law_22 (by decide) ?_
    exact j_iretS (pc := 23) C rfl dX11_law_23 hm
  · refine j_aloadn (pc := 11) C 0 dX11_law_11 rfl rfl ?_
    refine gf_X11_10 (c := 0) (pc := 12) C kx_0 dX11_law_12 ?_
    refine j_iloadn (pc := 15) C 1 dX11_law_15 rfl rfl ?_
    obtain ⟨q2, hq2, hm⟩ := Option.bind_eq_some_iff.mp hm
    refine cl_X11_123 (c := 1) (pc := 16) C kx_1 (kX10_has hq2) (by decide) (Nat.le_of_ble_eq_true rfl) dX11_law_16 ?_
    refine j_if_ne (tgt := 24) (pc := 19) C dX11_law_19 (by decide) hm (fun _ hm => ?_) (fun _ hm => ?_)
    · refine j_iconst (v := -1) (pc := 22) C dX11_law_22 (by decide) ?_
      exact j_iretS (pc := 23) C rfl dX11_law_23 hm
    · refine j_aloadn (pc := 24) C 0 dX11_law_24 rfl rfl ?_
      refine gf_X11_10 (c := 0) (pc := 25) C kx_0 dX11_law_25 ?_
      refine j_iloadn (pc := 28) C 1 dX11_law_28 rfl rfl ?_
      obtain ⟨q3, hq3, hm⟩ := Option.bind_eq_some_iff.mp hm
      refine cl_X11_127 (c := 1) (pc := 29) C kx_1 (kX10_open hq3) (by decide) (Nat.le_of_ble_eq_true rfl) dX11_law_29 ?_
      refine j_aloadn (pc := 32) C 0 dX11_law_32 rfl rfl ?_
      refine gf_X11_48 (c := 0) (pc := 33) C kx_0 dX11_law_33 ?_
      refine j_aloadn (pc := 36) C 0 dX11_law_36 rfl rfl ?_
      refine gf_X11_59 (c := 0) (pc := 37) C kx_0 dX11_law_37 ?_
      refine j_ltn hm (fun e4 hm => ?_)
      refine j_guardN hm (fun he4 hm => ?_)
      obtain ⟨q5, hq5, hm⟩ := Option.bind_eq_some_iff.mp hm
      refine cl_X11_130 (c := 45) (pc := 40) C kx_45 (kX4_read he4 hq5) (by decide) (Nat.le_of_ble_eq_true rfl) dX11_law_40 ?_
      refine j_aloadn (pc := 43) C 0 dX11_law_43 rfl rfl ?_
      refine gf_X11_10 (c := 0) (pc := 44) C kx_0 dX11_law_44 ?_
      refine gf_X11_134 (c := 1) (pc := 47) C kx_1 dX11_law_47 ?_
      refine j_if_eq (tgt := 61) (pc := 50) C dX11_law_50 (by decide) hm (fun _ hm => ?_) (fun _ hm => ?_)
      · refine j_aloadn (pc := 61) C 0 dX11_law_61 rfl rfl ?_
        refine gf_X11_55 (c := 0) (pc := 62) C kx_0 dX11_law_62 ?_
        refine j_ltn hm (fun e6 hm => ?_)
        refine j_guardN hm (fun he6 hm => ?_)
        refine j_astoren (ls' := [(2, .ref (vad (gV G) e6)), (0, .ref (vad (gV G) 0)), (1, .int x1)]) (pc := 65) C dX11_law_65 rfl (by decide) rfl ?_
        refine j_aloadn (pc := 66) C 1 dX11_law_66 rfl rfl ?_
        refine j_aloadn (pc := 67) C 1 dX11_law_67 rfl rfl ?_
        refine gf_X11_59 (c := 0) (pc := 68) C kx_0 dX11_law_68 ?_
        refine j_ltn hm (fun e7 hm => ?_)
        refine j_guardN hm (fun he7 hm => ?_)
        refine pf_X11_55 (c := 0) (pc := 71) C kx_0 (Nat.lt_trans (kX_lt he7 (by decide)) (by decide)) dX11_law_71 hm (fun σ8 hm => ?_)
        refine j_aloadn (pc := 74) C 1 dX11_law_74 rfl rfl ?_
        refine j_aloadn (pc := 75) C 0 dX11_law_75 rfl rfl ?_
        refine pf_X11_59 (c := 0) (pc := 76) C kx_0 (Nat.lt_trans (kX_lt he6 (by decide)) (by decide)) dX11_law_76 hm (fun σ9 hm => ?_)
        refine j_aloadn (pc := 79) C 1 dX11_law_79 rfl rfl ?_
        refine gf_X11_55 (c := 0) (pc := 80) C kx_0 dX11_law_80 ?_
        refine j_ltn hm (fun e10 hm => ?_)
        refine j_guardN hm (fun he10 hm => ?_)
        refine gf_X11_137 (c := e10) (pc := 83) C he10 dX11_law_83 ?_
        exact j_iretS (pc := 86) C rfl dX11_law_86 hm
      · refine j_aloadn (pc := 53) C 0 dX11_law_53 rfl rfl ?_
        refine gf_X11_10 (c := 0) (pc := 54) C kx_0 dX11_law_54 ?_
        refine gf_X11_134 (c := 1) (pc := 57) C kx_1 dX11_law_57 ?_
        exact j_iretS (pc := 60) C rfl dX11_law_60 hm

def mX11_routine (F : Nat) (x1 : Int32) (x2 : Int32) (σ : jS) : Option (Int32 × jS) := (Option.bind (mX11_isWithin F x1 (0 : Int32) (15 : Int32) σ) fun q1 => (if q1 = 0 then some ((-1 : Int32), σ) else (Option.bind (mX11_isWithin F x2 (1 : Int32) (60 : Int32) σ) fun q2 => (if q2 = 0 then some ((-1 : Int32), σ) else (Option.bind (mX10_has F x2 σ) fun q3 => (if q3 = 0 then some ((-1 : Int32), σ) else (Option.bind (mX10_open F x2 σ) fun q4 => (Option.bind (mX8_read F x1 q4) fun q5 => some (q5.1, q5.2)))))))))
set_option maxHeartbeats 4000000 in
set_option maxRecDepth 100000 in
theorem kX11_routine {V : jV} {F : Nat} {x1 : Int32} {x2 : Int32} {σ : jS} {v : (Int32 × jS)} (hm : mX11_routine F x1 x2 σ = some v) : Ct cfX 70 V yX11_routine cX11_routine 3 (some .int) 20 [.ref (vad V 0), .int x1, .int x2] σ v := by
  refine j_start (own := RX11) (by decide) rfl (Nat.le_of_ble_eq_true rfl) ?_
  intro G hV C
  subst hV
  unfold mX11_routine at hm
  show JX G 0 [(0, .ref (vad (gV G) 0)), (1, .int x1), (2, .int x2)] [] σ v
  refine j_iloadn (pc := 0) C 1 dX11_routine_0 rfl rfl ?_
  refine j_iconst (v := 0) (pc := 1) C dX11_routine_1 (by decide) ?_
  refine j_bipush (v := 15) (pc := 2) C dX11_routine_2 (by decide) ?_
  obtain ⟨q1, hq1, hm⟩ := Option.bind_eq_some_iff.mp hm
  refine cl_X11_96 (pc := 4) C (kX11_isWithin hq1) (by decide) (Nat.le_of_ble_eq_true rfl) dX11_routine_4 ?_
  refine j_if_eq (tgt := 31) (pc := 7) C dX11_routine_7 (by decide) hm (fun _ hm => ?_) (fun _ hm => ?_)
  · refine j_iconst (v := -1) (pc := 31) C dX11_routine_31 (by decide) ?_
    exact j_iretS (pc := 32) C rfl dX11_routine_32 hm
  · refine j_iloadn (pc := 10) C 2 dX11_routine_10 rfl rfl ?_
    refine j_iconst (v := 1) (pc := 11) C dX11_routine_11 (by decide) ?_
    refine j_bipush (v := 60) (pc := 12) C dX11_routine_12 (by decide) ?_
    obtain ⟨q2, hq2, hm⟩ := Option.bind_eq_some_iff.mp hm
    refine cl_X11_96 (pc := 14) C (kX11_isWithin hq2) (by decide) (Nat.le_of_ble_eq_true rfl) dX11_routine_14 ?_
    refine j_if_eq (tgt := 31) (pc := 17) C dX11_routine_17 (by decide) hm (fun _ hm => ?_) (fun _ hm => ?_)
    · refine j_iconst (v := -1) (pc := 31) C dX11_routine_31 (by decide) ?_
      exact j_iretS (pc := 32) C rfl dX11_routine_32 hm
    · refine j_aloadn (pc := 20) C 0 dX11_routine_20 rfl rfl ?_
      refine gf_X11_10 (c := 0) (pc := 21) C kx_0 dX11_routine_21 ?_
      refine j_iloadn (pc := 24) C 2 dX11_routine_24 rfl rfl ?_
      obtain ⟨q3, hq3, hm⟩ := Option.bind_eq_some_iff.mp hm
      refine cl_X11_123 (c := 1) (pc := 25) C kx_1 (kX10_has hq3) (by decide) (Nat.le_of_ble_eq_true rfl) dX11_routine_25 ?_
      refine j_if_ne (tgt := 33) (pc := 28) C dX11_routine_28 (by decide) hm (fun _ hm => ?_) (fun _ hm => ?_)
      · refine j_iconst (v := -1) (pc := 31) C dX11_routine_31 (by decide) ?_
        exact j_iretS (pc := 32) C rfl dX11_routine_32 hm
      · refine j_aloadn (pc := 33) C 0 dX11_routine_33 rfl rfl ?_
        refine gf_X11_10 (c := 0) (pc := 34) C kx_0 dX11_routine_34 ?_
        refine j_iloadn (pc := 37) C 2 dX11_routine_37 rfl rfl ?_
        obtain ⟨q4, hq4, hm⟩ := Option.bind_eq_some_iff.mp hm
        refine cl_X11_127 (c := 1) (pc := 38) C kx_1 (kX10_open hq4) (by decide) (Nat.le_of_ble_eq_true rfl) dX11_routine_38 ?_
        refine j_aloadn (pc := 41) C 0 dX11_routine_41 rfl rfl ?_
        refine gf_X11_34 (c := 0) (pc := 42) C kx_0 dX11_routine_42 ?_
        refine j_iloadn (pc := 45) C 1 dX11_routine_45 rfl rfl ?_
        obtain ⟨q5, hq5, hm⟩ := Option.bind_eq_some_iff.mp hm
        refine cl_X11_138 (c := 33) (pc := 46) C kx_33 (kX8_read hq5) (by decide) (Nat.le_of_ble_eq_true rfl) dX11_routine_46 ?_
        exact j_iretS (pc := 49) C rfl dX11_routine_49 hm

def mX11_ledger (F : Nat) (x1 : Int32) (σ : jS) : Option (Int32 × jS) := (Option.bind (mX11_isWithin F x1 (1 : Int32) (200 : Int32) σ) fun q1 => (if q1 = 0 then some ((-1 : Int32), σ) else (Option.bind (mX10_has F x1 σ) fun q2 => (if q2 = 0 then some ((-1 : Int32), σ) else (Option.bind (mX10_open F x1 σ) fun q3 => (Option.bind (mX5_read F ((q3 3 3)) q3) fun q4 => (if (q4 1 5) = 0 then (Option.bind (mX6_copy F 6 38 q4) fun q5 => some ((q5 6 6), q5)) else some ((q4 1 5), q4))))))))
set_option maxHeartbeats 4000000 in
set_option maxRecDepth 100000 in
theorem kX11_ledger {V : jV} {F : Nat} {x1 : Int32} {σ : jS} {v : (Int32 × jS)} (hm : mX11_ledger F x1 σ = some v) : Ct cfX 70 V yX11_ledger cX11_ledger 2 (some .int) 5 [.ref (vad V 0), .int x1] σ v := by
  refine j_start (own := RX11) (by decide) rfl (Nat.le_of_ble_eq_true rfl) ?_
  intro G hV C
  subst hV
  unfold mX11_ledger at hm
  show JX G 0 [(0, .ref (vad (gV G) 0)), (1, .int x1)] [] σ v
  refine j_iloadn (pc := 0) C 1 dX11_ledger_0 rfl rfl ?_
  refine j_iconst (v := 1) (pc := 1) C dX11_ledger_1 (by decide) ?_
  refine j_sipush (v := 200) (pc := 2) C dX11_ledger_2 (by decide) ?_
  obtain ⟨q1, hq1, hm⟩ := Option.bind_eq_some_iff.mp hm
  refine cl_X11_96 (pc := 5) C (kX11_isWithin hq1) (by decide) (Nat.le_of_ble_eq_true rfl) dX11_ledger_5 ?_
  refine j_if_eq (tgt := 22) (pc := 8) C dX11_ledger_8 (by decide) hm (fun _ hm => ?_) (fun _ hm => ?_)
  · refine j_iconst (v := -1) (pc := 22) C dX11_ledger_22 (by decide) ?_
    exact j_iretS (pc := 23) C rfl dX11_ledger_23 hm
  · refine j_aloadn (pc := 11) C 0 dX11_ledger_11 rfl rfl ?_
    refine gf_X11_10 (c := 0) (pc := 12) C kx_0 dX11_ledger_12 ?_
    refine j_iloadn (pc := 15) C 1 dX11_ledger_15 rfl rfl ?_
    obtain ⟨q2, hq2, hm⟩ := Option.bind_eq_some_iff.mp hm
    refine cl_X11_123 (c := 1) (pc := 16) C kx_1 (kX10_has hq2) (by decide) (Nat.le_of_ble_eq_true rfl) dX11_ledger_16 ?_
    refine j_if_ne (tgt := 24) (pc := 19) C dX11_ledger_19 (by decide) hm (fun _ hm => ?_) (fun _ hm => ?_)
    · refine j_iconst (v := -1) (pc := 22) C dX11_ledger_22 (by decide) ?_
      exact j_iretS (pc := 23) C rfl dX11_ledger_23 hm
    · refine j_aloadn (pc := 24) C 0 dX11_ledger_24 rfl rfl ?_
      refine gf_X11_10 (c := 0) (pc := 25) C kx_0 dX11_ledger_25 ?_
      refine j_iloadn (pc := 28) C 1 dX11_ledger_28 rfl rfl ?_
      obtain ⟨q3, hq3, hm⟩ := Option.bind_eq_some_iff.mp hm
      refine cl_X11_127 (c := 1) (pc := 29) C kx_1 (kX10_open hq3) (by decide) (Nat.le_of_ble_eq_true rfl) dX11_ledger_29 ?_
      refine j_aloadn (pc := 32) C 0 dX11_ledger_32 rfl rfl ?_
      refine gf_X11_41 (c := 0) (pc := 33) C kx_0 dX11_ledger_33 ?_
      refine j_aloadn (pc := 36) C 0 dX11_ledger_36 rfl rfl ?_
      refine gf_X11_19 (c := 0) (pc := 37) C kx_0 dX11_ledger_37 ?_
      refine gf_X11_109 (c := 3) (pc := 40) C kx_3 dX11_ledger_40 ?_
      obtain ⟨q4, hq4, hm⟩ := Option.bind_eq_some_iff.mp hm
      refine cl_X11_141 (c := 37) (pc := 43) C kx_37 (kX5_read hq4) (by decide) (Nat.le_of_ble_eq_true rfl) dX11_ledger_43 ?_
      refine j_aloadn (pc := 46) C 0 dX11_ledger_46 rfl rfl ?_
      refine gf_X11_10 (c := 0) (pc := 47) C kx_0 dX11_ledger_47 ?_
      refine gf_X11_134 (c := 1) (pc := 50) C kx_1 dX11_ledger_50 ?_
      refine j_if_eq (tgt := 64) (pc := 53) C dX11_ledger_53 (by decide) hm (fun _ hm => ?_) (fun _ hm => ?_)
      · refine j_aloadn (pc := 64) C 0 dX11_ledger_64 rfl rfl ?_
        refine gf_X11_19 (c := 0) (pc := 65) C kx_0 dX11_ledger_65 ?_
        refine gf_X11_143 (c := 3) (pc := 68) C kx_3 dX11_ledger_68 ?_
        refine j_aloadn (pc := 71) C 0 dX11_ledger_71 rfl rfl ?_
        refine gf_X11_41 (c := 0) (pc := 72) C kx_0 dX11_ledger_72 ?_
        refine gf_X11_147 (c := 37) (pc := 75) C kx_37 dX11_ledger_75 ?_
        obtain ⟨q5, hq5, hm⟩ := Option.bind_eq_some_iff.mp hm
        refine cl_X11_148 (c := 6) (pc := 78) C kx_6 (kX6_copy kx_6 kx_38 hq5) (by decide) (Nat.le_of_ble_eq_true rfl) dX11_ledger_78 ?_
        refine j_aloadn (pc := 81) C 0 dX11_ledger_81 rfl rfl ?_
        refine gf_X11_19 (c := 0) (pc := 82) C kx_0 dX11_ledger_82 ?_
        refine gf_X11_143 (c := 3) (pc := 85) C kx_3 dX11_ledger_85 ?_
        refine gf_X11_154 (c := 6) (pc := 88) C kx_6 dX11_ledger_88 ?_
        exact j_iretS (pc := 91) C rfl dX11_ledger_91 hm
      · refine j_aloadn (pc := 56) C 0 dX11_ledger_56 rfl rfl ?_
        refine gf_X11_10 (c := 0) (pc := 57) C kx_0 dX11_ledger_57 ?_
        refine gf_X11_134 (c := 1) (pc := 60) C kx_1 dX11_ledger_60 ?_
        exact j_iretS (pc := 63) C rfl dX11_ledger_63 hm

def lp_X11_passHour_2 (F : Nat) (e1 : Nat) : Nat → Int32 → Int32 → jS → Option jS
  | 0, _, _, _ => none
  | n + 1, x2, x3, σ => (if x3 < (16 : Int32) then (Option.bind (mX0_isLiving F e1 x3 σ) fun q1 => (if q1 = 0 then (lp_X11_passHour_2 F e1 n x2 ((x3 + (1 : Int32))) σ) else (Option.bind (mX0_draw F e1 σ) fun q2 => (Option.bind (mX2_turnTo F x3 x2 q2.1 (1 : Int32) q2.2) fun q3 => (Option.bind (mX2_worth F (120 : Int32) (0 : Int32) (1 : Int32) (1 : Int32) q3) fun q4 => (if q4.1 = (1 : Int32) then (Option.bind (mX0_bury F e1 x3 q4.2) fun q5 => (lp_X11_passHour_2 F e1 n x2 ((x3 + (1 : Int32))) q5)) else (Option.bind (mX2_worth F (112 : Int32) (60 : Int32) (1 : Int32) (255 : Int32) q4.2) fun q6 => (Option.bind (mX0_spend F e1 x3 (((60 : Int32) * q6.1)) q6.2) fun q7 => (lp_X11_passHour_2 F e1 n x2 ((x3 + (1 : Int32))) q7))))))))) else some σ)
set_option maxHeartbeats 4000000 in
set_option maxRecDepth 100000 in
theorem lp_X11_passHour_2_ok {G : jG} (C : jc cfX 70 G cX11_passHour RX11 4 none 4) (F : Nat) (e1 : Nat) (he1 : kX e1 = 0) {v : jS} : ∀ (n : Nat) (x2 : Int32) (x3 : Int32) (σ : jS), lp_X11_passHour_2 F e1 n x2 x3 σ = some v → JX G 2 [(0, .ref (vad (gV G) 0)), (1, .ref (vad (gV G) e1)), (2, .int x2), (3, .int x3)] [] σ (0, v) := by
  intro n
  induction n with
  | zero =>
    intro x2 x3 σ hm
    rw [lp_X11_passHour_2] at hm
    cases hm
  | succ n ih =>
    intro x2 x3 σ hm
    rw [lp_X11_passHour_2] at hm
    refine j_iloadn (pc := 2) C 3 dX11_passHour_2 rfl rfl ?_
    refine j_bipush (v := 16) (pc := 3) C dX11_passHour_3 (by decide) ?_
    refine j_icmp_ge (tgt := 83) (pc := 5) C dX11_passHour_5 (by decide) hm (fun _ hm => ?_) (fun _ hm => ?_)
    · refine j_aloadn (pc := 8) C 1 dX11_passHour_8 rfl rfl ?_
      refine j_iloadn (pc := 9) C 3 dX11_passHour_9 rfl rfl ?_
      obtain ⟨q1, hq1, hm⟩ := Option.bind_eq_some_iff.mp hm
      refine cl_X11_179 (c := e1) (pc := 10) C he1 (kX0_isLiving he1 hq1) (by decide) (Nat.le_of_ble_eq_true rfl) dX11_passHour_10 ?_
      refine j_if_eq (tgt := 77) (pc := 13) C dX11_passHour_13 (by decide) hm (fun _ hm => ?_) (fun _ hm => ?_)
      · refine j_iinc (v := (x3 + (1 : Int32))) (ls' := [(3, .int (x3 + (1 : Int32))), (0, .ref (vad (gV G) 0)), (1, .ref (vad (gV G) e1)), (2, .int x2)]) (pc := 77) C 3 dX11_passHour_77 rfl rfl (by decide) rfl ?_
        refine j_goto (tgt := 2) (pc := 80) C dX11_passHour_80 (by decide) ?_
        refine j_ls [1, 2, 3, 0] rfl ?_
        exact ih _ _ _ hm
      · refine j_aloadn (pc := 16) C 0 dX11_passHour_16 rfl rfl ?_
        refine gf_X11_67 (c := 0) (pc := 17) C kx_0 dX11_passHour_17 ?_
        refine j_iloadn (pc := 20) C 3 dX11_passHour_20 rfl rfl ?_
        refine j_iloadn (pc := 21) C 2 dX11_passHour_21 rfl rfl ?_
        refine j_aloadn (pc := 22) C 1 dX11_passHour_22 rfl rfl ?_
        obtain ⟨q2, hq2, hm⟩ := Option.bind_eq_some_iff.mp hm
        refine cl_X11_301 (c := e1) (pc := 23) C he1 (kX0_draw he1 hq2) (by decide) (Nat.le_of_ble_eq_true rfl) dX11_passHour_23 ?_
        refine j_iconst (v := 1) (pc := 26) C dX11_passHour_26 (by decide) ?_
        obtain ⟨q3, hq3, hm⟩ := Option.bind_eq_some_iff.mp hm
        refine cl_X11_304 (c := 58) (pc := 27) C kx_58 (kX2_turnTo hq3) (by decide) (Nat.le_of_ble_eq_true rfl) dX11_passHour_27 ?_
        refine j_aloadn (pc := 30) C 0 dX11_passHour_30 rfl rfl ?_
        refine gf_X11_67 (c := 0) (pc := 31) C kx_0 dX11_passHour_31 ?_
        refine j_bipush (v := 120) (pc := 34) C dX11_passHour_34 (by decide) ?_
        refine j_iconst (v := 0) (pc := 36) C dX11_passHour_36 (by decide) ?_
        refine j_iconst (v := 1) (pc := 37) C dX11_passHour_37 (by decide) ?_
        refine j_iconst (v := 1) (pc := 38) C dX11_passHour_38 (by decide) ?_
        obtain ⟨q4, hq4, hm⟩ := Option.bind_eq_some_iff.mp hm
        refine cl_X11_308 (c := 58) (pc := 39) C kx_58 (kX2_worth hq4) (by decide) (Nat.le_of_ble_eq_true rfl) dX11_passHour_39 ?_
        refine j_iconst (v := 1) (pc := 42) C dX11_passHour_42 (by decide) ?_
        refine j_icmp_ne (tgt := 54) (pc := 43) C dX11_passHour_43 (by decide) hm (fun _ hm => ?_) (fun _ hm => ?_)
        · refine j_aloadn (pc := 46) C 1 dX11_passHour_46 rfl rfl ?_
          refine j_iloadn (pc := 47) C 3 dX11_passHour_47 rfl rfl ?_
          obtain ⟨q5, hq5, hm⟩ := Option.bind_eq_some_iff.mp hm
          refine cl_X11_312 (c := e1) (pc := 48) C he1 (kX0_bury he1 hq5) (by decide) (Nat.le_of_ble_eq_true rfl) dX11_passHour_48 ?_
          refine j_goto (tgt := 77) (pc := 51) C dX11_passHour_51 (by decide) ?_
          refine j_iinc (v := (x3 + (1 : Int32))) (ls' := [(3, .int (x3 + (1 : Int32))), (0, .ref (vad (gV G) 0)), (1, .ref (vad (gV G) e1)), (2, .int x2)]) (pc := 77) C 3 dX11_passHour_77 rfl rfl (by decide) rfl ?_
          refine j_goto (tgt := 2) (pc := 80) C dX11_passHour_80 (by decide) ?_
          refine j_ls [1, 2, 3, 0] rfl ?_
          exact ih _ _ _ hm
        · refine j_aloadn (pc := 54) C 1 dX11_passHour_54 rfl rfl ?_
          refine j_iloadn (pc := 55) C 3 dX11_passHour_55 rfl rfl ?_
          refine j_bipush (v := 60) (pc := 56) C dX11_passHour_56 (by decide) ?_
          refine j_aloadn (pc := 58) C 0 dX11_passHour_58 rfl rfl ?_
          refine gf_X11_67 (c := 0) (pc := 59) C kx_0 dX11_passHour_59 ?_
          refine j_bipush (v := 112) (pc := 62) C dX11_passHour_62 (by decide) ?_
          refine j_bipush (v := 60) (pc := 64) C dX11_passHour_64 (by decide) ?_
          refine j_iconst (v := 1) (pc := 66) C dX11_passHour_66 (by decide) ?_
          refine j_sipush (v := 255) (pc := 67) C dX11_passHour_67 (by decide) ?_
          obtain ⟨q6, hq6, hm⟩ := Option.bind_eq_some_iff.mp hm
          refine cl_X11_308 (c := 58) (pc := 70) C kx_58 (kX2_worth hq6) (by decide) (Nat.le_of_ble_eq_true rfl) dX11_passHour_70 ?_
          refine j_imul (pc := 73) C dX11_passHour_73 ?_
          obtain ⟨q7, hq7, hm⟩ := Option.bind_eq_some_iff.mp hm
          refine cl_X11_315 (c := e1) (pc := 74) C he1 (kX0_spend he1 hq7) (by decide) (Nat.le_of_ble_eq_true rfl) dX11_passHour_74 ?_
          refine j_iinc (v := (x3 + (1 : Int32))) (ls' := [(3, .int (x3 + (1 : Int32))), (0, .ref (vad (gV G) 0)), (1, .ref (vad (gV G) e1)), (2, .int x2)]) (pc := 77) C 3 dX11_passHour_77 rfl rfl (by decide) rfl ?_
          refine j_goto (tgt := 2) (pc := 80) C dX11_passHour_80 (by decide) ?_
          refine j_ls [1, 2, 3, 0] rfl ?_
          exact ih _ _ _ hm
    · exact j_vret (pc := 83) C rfl dX11_passHour_83 hm

def mX11_passHour (F : Nat) (e1 : Nat) (x2 : Int32) (σ : jS) : Option jS := (lp_X11_passHour_2 F e1 F x2 (0 : Int32) σ)
set_option maxHeartbeats 4000000 in
set_option maxRecDepth 100000 in
theorem kX11_passHour {V : jV} {F : Nat} {e1 : Nat} (he1 : kX e1 = 0) {x2 : Int32} {σ : jS} {v : jS} (hm : mX11_passHour F e1 x2 σ = some v) : Ct cfX 70 V yX11_passHour cX11_passHour 4 none 4 [.ref (vad V 0), .ref (vad V e1), .int x2] σ (0, v) := by
  refine j_start (own := RX11) (by decide) rfl (Nat.le_of_ble_eq_true rfl) ?_
  intro G hV C
  subst hV
  unfold mX11_passHour at hm
  show JX G 0 [(0, .ref (vad (gV G) 0)), (1, .ref (vad (gV G) e1)), (2, .int x2)] [] σ (0, v)
  refine j_iconst (v := 0) (pc := 0) C dX11_passHour_0 (by decide) ?_
  refine j_istoren (ls' := [(3, .int (0 : Int32)), (0, .ref (vad (gV G) 0)), (1, .ref (vad (gV G) e1)), (2, .int x2)]) (pc := 1) C dX11_passHour_1 rfl (by decide) rfl ?_
  refine j_ls [1, 2, 3, 0] rfl ?_
  exact lp_X11_passHour_2_ok C F e1 he1  F _ _ _ hm

def lp_X11_giveFromParish_2 (F : Nat) (e1 : Nat) : Nat → Int32 → jS → Option jS
  | 0, _, _ => none
  | n + 1, x2, σ => (if x2 < (16 : Int32) then (Option.bind (mX0_isLiving F e1 x2 σ) fun q1 => (if q1 = 0 then (lp_X11_giveFromParish_2 F e1 n ((x2 + (1 : Int32))) σ) else (Option.bind (mX2_turnTo F x2 (24 : Int32) (0 : Int32) (0 : Int32) σ) fun q2 => (Option.bind (mX2_worth F (105 : Int32) (0 : Int32) (0 : Int32) (9999 : Int32) q2) fun q3 => (Option.bind (mX0_give F e1 x2 q3.1 q3.2) fun q4 => (lp_X11_giveFromParish_2 F e1 n ((x2 + (1 : Int32))) q4)))))) else some σ)
set_option maxHeartbeats 4000000 in
set_option maxRecDepth 100000 in
theorem lp_X11_giveFromParish_2_ok {G : jG} (C : jc cfX 70 G cX11_giveFromParish RX11 3 none 4) (F : Nat) (e1 : Nat) (he1 : kX e1 = 0) {v : jS} : ∀ (n : Nat) (x2 : Int32) (σ : jS), lp_X11_giveFromParish_2 F e1 n x2 σ = some v → JX G 2 [(0, .ref (vad (gV G) 0)), (1, .ref (vad (gV G) e1)), (2, .int x2)] [] σ (0, v) := by
  intro n
  induction n with
  | zero =>
    intro x2 σ hm
    rw [lp_X11_giveFromParish_2] at hm
    cases hm
  | succ n ih =>
    intro x2 σ hm
    rw [lp_X11_giveFromParish_2] at hm
    refine j_iloadn (pc := 2) C 2 dX11_giveFromParish_2 rfl rfl ?_
    refine j_bipush (v := 16) (pc := 3) C dX11_giveFromParish_3 (by decide) ?_
    refine j_icmp_ge (tgt := 53) (pc := 5) C dX11_giveFromParish_5 (by decide) hm (fun _ hm => ?_) (fun _ hm => ?_)
    · refine j_aloadn (pc := 8) C 1 dX11_giveFromParish_8 rfl rfl ?_
      refine j_iloadn (pc := 9) C 2 dX11_giveFromParish_9 rfl rfl ?_
      obtain ⟨q1, hq1, hm⟩ := Option.bind_eq_some_iff.mp hm
      refine cl_X11_179 (c := e1) (pc := 10) C he1 (kX0_isLiving he1 hq1) (by decide) (Nat.le_of_ble_eq_true rfl) dX11_giveFromParish_10 ?_
      refine j_if_eq (tgt := 47) (pc := 13) C dX11_giveFromParish_13 (by decide) hm (fun _ hm => ?_) (fun _ hm => ?_)
      · refine j_iinc (v := (x2 + (1 : Int32))) (ls' := [(2, .int (x2 + (1 : Int32))), (0, .ref (vad (gV G) 0)), (1, .ref (vad (gV G) e1))]) (pc := 47) C 2 dX11_giveFromParish_47 rfl rfl (by decide) rfl ?_
        refine j_goto (tgt := 2) (pc := 50) C dX11_giveFromParish_50 (by decide) ?_
        refine j_ls [1, 2, 0] rfl ?_
        exact ih _ _ hm
      · refine j_aloadn (pc := 16) C 0 dX11_giveFromParish_16 rfl rfl ?_
        refine gf_X11_67 (c := 0) (pc := 17) C kx_0 dX11_giveFromParish_17 ?_
        refine j_iloadn (pc := 20) C 2 dX11_giveFromParish_20 rfl rfl ?_
        refine j_bipush (v := 24) (pc := 21) C dX11_giveFromParish_21 (by decide) ?_
        refine j_iconst (v := 0) (pc := 23) C dX11_giveFromParish_23 (by decide) ?_
        refine j_iconst (v := 0) (pc := 24) C dX11_giveFromParish_24 (by decide) ?_
        obtain ⟨q2, hq2, hm⟩ := Option.bind_eq_some_iff.mp hm
        refine cl_X11_304 (c := 58) (pc := 25) C kx_58 (kX2_turnTo hq2) (by decide) (Nat.le_of_ble_eq_true rfl) dX11_giveFromParish_25 ?_
        refine j_aloadn (pc := 28) C 1 dX11_giveFromParish_28 rfl rfl ?_
        refine j_iloadn (pc := 29) C 2 dX11_giveFromParish_29 rfl rfl ?_
        refine j_aloadn (pc := 30) C 0 dX11_giveFromParish_30 rfl rfl ?_
        refine gf_X11_67 (c := 0) (pc := 31) C kx_0 dX11_giveFromParish_31 ?_
        refine j_bipush (v := 105) (pc := 34) C dX11_giveFromParish_34 (by decide) ?_
        refine j_iconst (v := 0) (pc := 36) C dX11_giveFromParish_36 (by decide) ?_
        refine j_iconst (v := 0) (pc := 37) C dX11_giveFromParish_37 (by decide) ?_
        refine j_sipush (v := 9999) (pc := 38) C dX11_giveFromParish_38 (by decide) ?_
        obtain ⟨q3, hq3, hm⟩ := Option.bind_eq_some_iff.mp hm
        refine cl_X11_308 (c := 58) (pc := 41) C kx_58 (kX2_worth hq3) (by decide) (Nat.le_of_ble_eq_true rfl) dX11_giveFromParish_41 ?_
        obtain ⟨q4, hq4, hm⟩ := Option.bind_eq_some_iff.mp hm
        refine cl_X11_319 (c := e1) (pc := 44) C he1 (kX0_give he1 hq4) (by decide) (Nat.le_of_ble_eq_true rfl) dX11_giveFromParish_44 ?_
        refine j_iinc (v := (x2 + (1 : Int32))) (ls' := [(2, .int (x2 + (1 : Int32))), (0, .ref (vad (gV G) 0)), (1, .ref (vad (gV G) e1))]) (pc := 47) C 2 dX11_giveFromParish_47 rfl rfl (by decide) rfl ?_
        refine j_goto (tgt := 2) (pc := 50) C dX11_giveFromParish_50 (by decide) ?_
        refine j_ls [1, 2, 0] rfl ?_
        exact ih _ _ hm
    · exact j_vret (pc := 53) C rfl dX11_giveFromParish_53 hm

def mX11_giveFromParish (F : Nat) (e1 : Nat) (σ : jS) : Option jS := (lp_X11_giveFromParish_2 F e1 F (0 : Int32) σ)
set_option maxHeartbeats 4000000 in
set_option maxRecDepth 100000 in
theorem kX11_giveFromParish {V : jV} {F : Nat} {e1 : Nat} (he1 : kX e1 = 0) {σ : jS} {v : jS} (hm : mX11_giveFromParish F e1 σ = some v) : Ct cfX 70 V yX11_giveFromParish cX11_giveFromParish 3 none 4 [.ref (vad V 0), .ref (vad V e1)] σ (0, v) := by
  refine j_start (own := RX11) (by decide) rfl (Nat.le_of_ble_eq_true rfl) ?_
  intro G hV C
  subst hV
  unfold mX11_giveFromParish at hm
  show JX G 0 [(0, .ref (vad (gV G) 0)), (1, .ref (vad (gV G) e1))] [] σ (0, v)
  refine j_iconst (v := 0) (pc := 0) C dX11_giveFromParish_0 (by decide) ?_
  refine j_istoren (ls' := [(2, .int (0 : Int32)), (0, .ref (vad (gV G) 0)), (1, .ref (vad (gV G) e1))]) (pc := 1) C dX11_giveFromParish_1 rfl (by decide) rfl ?_
  refine j_ls [1, 2, 0] rfl ?_
  exact lp_X11_giveFromParish_2_ok C F e1 he1  F _ _ hm

def lp_X11_passDays_42 (F : Nat) (e1 : Nat) (k62 : Int32 → Int32 → Int32 → jS → Option (Int32 × jS)) : Nat → Int32 → Int32 → Int32 → Int32 → jS → Option (Int32 × jS)
  | 0, _, _, _, _, _ => none
  | n + 1, x2, x3, x4, x5, σ => (if x5 < (24 : Int32) then (Option.bind (mX11_passHour F e1 x5 σ) fun q4 => (lp_X11_passDays_42 F e1 k62 n x2 x3 x4 ((x5 + (1 : Int32))) q4)) else (k62 x2 x3 x4 σ))
set_option maxHeartbeats 4000000 in
set_option maxRecDepth 100000 in
theorem lp_X11_passDays_42_ok {G : jG} (C : jc cfX 70 G cX11_passDays RX11 6 (some .int) 5) (F : Nat) (e1 : Nat) (he1 : kX e1 = 0) {v : (Int32 × jS)} (k62 : Int32 → Int32 → Int32 → jS → Option (Int32 × jS)) (hk62 : ∀ (x2 : Int32) (x3 : Int32) (x4 : Int32) (σ : jS), k62 x2 x3 x4 σ = some v → JX G 62 [(0, .ref (vad (gV G) 0)), (1, .ref (vad (gV G) e1)), (2, .int x2), (3, .int x3), (4, .int x4)] [] σ v) : ∀ (n : Nat) (x2 : Int32) (x3 : Int32) (x4 : Int32) (x5 : Int32) (σ : jS), lp_X11_passDays_42 F e1 k62 n x2 x3 x4 x5 σ = some v → JX G 42 [(0, .ref (vad (gV G) 0)), (1, .ref (vad (gV G) e1)), (2, .int x2), (3, .int x3), (4, .int x4), (5, .int x5)] [] σ v := by
  intro n
  induction n with
  | zero =>
    intro x2 x3 x4 x5 σ hm
    rw [lp_X11_passDays_42] at hm
    cases hm
  | succ n ih =>
    intro x2 x3 x4 x5 σ hm
    rw [lp_X11_passDays_42] at hm
    refine j_iload (pc := 42) C 5 dX11_passDays_42 rfl ?_
    refine j_bipush (v := 24) (pc := 44) C dX11_passDays_44 (by decide) ?_
    refine j_icmp_ge (tgt := 62) (pc := 46) C dX11_passDays_46 (by decide) hm (fun _ hm => ?_) (fun _ hm => ?_)
    · refine j_aloadn (pc := 49) C 0 dX11_passDays_49 rfl rfl ?_
      refine j_aloadn (pc := 50) C 1 dX11_passDays_50 rfl rfl ?_
      refine j_iload (pc := 51) C 5 dX11_passDays_51 rfl ?_
      obtain ⟨q4, hq4, hm⟩ := Option.bind_eq_some_iff.mp hm
      refine cl_X11_288 (c := 0) (pc := 53) C kx_0 (kX11_passHour he1 hq4) (by decide) (Nat.le_of_ble_eq_true rfl) dX11_passDays_53 ?_
      refine j_iinc (v := (x5 + (1 : Int32))) (ls' := [(5, .int (x5 + (1 : Int32))), (0, .ref (vad (gV G) 0)), (1, .ref (vad (gV G) e1)), (2, .int x2), (3, .int x3), (4, .int x4)]) (pc := 56) C 5 dX11_passDays_56 rfl rfl (by decide) rfl ?_
      refine j_goto (tgt := 42) (pc := 59) C dX11_passDays_59 (by decide) ?_
      refine j_ls [1, 2, 3, 4, 5, 0] rfl ?_
      exact ih _ _ _ _ _ hm
    · refine j_ls [0, 1, 2, 3, 4] rfl ?_
      exact hk62 _ _ _ _ hm

def lp_X11_passDays_11 (F : Nat) (e1 : Nat) : Nat → Int32 → Int32 → Int32 → jS → Option (Int32 × jS)
  | 0, _, _, _, _ => none
  | n + 1, x2, x3, x4, σ => (if x4 < x2 then (if (σ e1 6) < (9999 : Int32) then (lt (σ 0 11).toNatClampNeg fun e2 => if kX e2 = 3 then (Option.bind (mX2_sit F e1 e2 σ) fun q3 => (lp_X11_passDays_42 F e1 (fun x2_5 x3_5 x4_5 σ5 => (Option.bind (mX0_payLoans F e1 σ5) fun q6 => (Option.bind (mX11_giveFromParish F e1 q6) fun q7 => (Option.bind (mX0_growOlder F e1 q7) fun q8 => (lp_X11_passDays_11 F e1 n x2_5 x3_5 ((x4_5 + (1 : Int32))) q8))))) F x2 x3 x4 (0 : Int32) q3)) else none) else (Option.bind (mJ6_bitCount_0f7a4 F ((σ e1 4)) σ) fun q9 => some ((x3 - q9), σ))) else (Option.bind (mJ6_bitCount_0f7a4 F ((σ e1 4)) σ) fun q10 => some ((x3 - q10), σ)))
set_option maxHeartbeats 4000000 in
set_option maxRecDepth 100000 in
theorem lp_X11_passDays_11_ok {G : jG} (C : jc cfX 70 G cX11_passDays RX11 6 (some .int) 5) (F : Nat) (e1 : Nat) (he1 : kX e1 = 0) {v : (Int32 × jS)} : ∀ (n : Nat) (x2 : Int32) (x3 : Int32) (x4 : Int32) (σ : jS), lp_X11_passDays_11 F e1 n x2 x3 x4 σ = some v → JX G 11 [(0, .ref (vad (gV G) 0)), (1, .ref (vad (gV G) e1)), (2, .int x2), (3, .int x3), (4, .int x4)] [] σ v := by
  intro n
  induction n with
  | zero =>
    intro x2 x3 x4 σ hm
    rw [lp_X11_passDays_11] at hm
    cases hm
  | succ n ih =>
    intro x2 x3 x4 σ hm
    rw [lp_X11_passDays_11] at hm
    refine j_iload (pc := 11) C 4 dX11_passDays_11 rfl ?_
    refine j_iloadn (pc := 13) C 2 dX11_passDays_13 rfl rfl ?_
    refine j_icmp_ge (tgt := 81) (pc := 14) C dX11_passDays_14 (by decide) hm (fun _ hm => ?_) (fun _ hm => ?_)
    · refine j_aloadn (pc := 17) C 1 dX11_passDays_17 rfl rfl ?_
      refine gf_X11_273 (c := e1) (pc := 18) C he1 dX11_passDays_18 ?_
      refine j_sipush (v := 9999) (pc := 21) C dX11_passDays_21 (by decide) ?_
      refine j_icmp_ge (tgt := 81) (pc := 24) C dX11_passDays_24 (by decide) hm (fun _ hm => ?_) (fun _ hm => ?_)
      · refine j_aloadn (pc := 27) C 0 dX11_passDays_27 rfl rfl ?_
        refine gf_X11_67 (c := 0) (pc := 28) C kx_0 dX11_passDays_28 ?_
        refine j_aloadn (pc := 31) C 1 dX11_passDays_31 rfl rfl ?_
        refine j_aloadn (pc := 32) C 0 dX11_passDays_32 rfl rfl ?_
        refine gf_X11_55 (c := 0) (pc := 33) C kx_0 dX11_passDays_33 ?_
        refine j_ltn hm (fun e2 hm => ?_)
        refine j_guardN hm (fun he2 hm => ?_)
        obtain ⟨q3, hq3, hm⟩ := Option.bind_eq_some_iff.mp hm
        refine cl_X11_284 (c := 58) (pc := 36) C kx_58 (kX2_sit he1 he2 hq3) (by decide) (Nat.le_of_ble_eq_true rfl) dX11_passDays_36 ?_
        refine j_iconst (v := 0) (pc := 39) C dX11_passDays_39 (by decide) ?_
        refine j_istore (ls' := [(5, .int (0 : Int32)), (0, .ref (vad (gV G) 0)), (1, .ref (vad (gV G) e1)), (2, .int x2), (3, .int x3), (4, .int x4)]) (pc := 40) C dX11_passDays_40 (by decide) rfl ?_
        refine j_ls [1, 2, 3, 4, 5, 0] rfl ?_
        refine lp_X11_passDays_42_ok C F e1 he1 _ (fun x2_5 x3_5 x4_5 σ5 hm => ?_) F _ _ _ _ _ hm
        refine j_aloadn (pc := 62) C 1 dX11_passDays_62 rfl rfl ?_
        obtain ⟨q6, hq6, hm⟩ := Option.bind_eq_some_iff.mp hm
        refine cl_X11_292 (c := e1) (pc := 63) C he1 (kX0_payLoans he1 hq6) (by decide) (Nat.le_of_ble_eq_true rfl) dX11_passDays_63 ?_
        refine j_aloadn (pc := 66) C 0 dX11_passDays_66 rfl rfl ?_
        refine j_aloadn (pc := 67) C 1 dX11_passDays_67 rfl rfl ?_
        obtain ⟨q7, hq7, hm⟩ := Option.bind_eq_some_iff.mp hm
        refine cl_X11_295 (c := 0) (pc := 68) C kx_0 (kX11_giveFromParish he1 hq7) (by decide) (Nat.le_of_ble_eq_true rfl) dX11_passDays_68 ?_
        refine j_aloadn (pc := 71) C 1 dX11_passDays_71 rfl rfl ?_
        obtain ⟨q8, hq8, hm⟩ := Option.bind_eq_some_iff.mp hm
        refine cl_X11_298 (c := e1) (pc := 72) C he1 (kX0_growOlder he1 hq8) (by decide) (Nat.le_of_ble_eq_true rfl) dX11_passDays_72 ?_
        refine j_iinc (v := (x4_5 + (1 : Int32))) (ls' := [(4, .int (x4_5 + (1 : Int32))), (0, .ref (vad (gV G) 0)), (1, .ref (vad (gV G) e1)), (2, .int x2_5), (3, .int x3_5)]) (pc := 75) C 4 dX11_passDays_75 rfl rfl (by decide) rfl ?_
        refine j_goto (tgt := 11) (pc := 78) C dX11_passDays_78 (by decide) ?_
        refine j_ls [1, 2, 3, 4, 0] rfl ?_
        exact ih _ _ _ _ hm
      · refine j_iloadn (pc := 81) C 3 dX11_passDays_81 rfl rfl ?_
        refine j_aloadn (pc := 82) C 1 dX11_passDays_82 rfl rfl ?_
        refine gf_X11_113 (c := e1) (pc := 83) C he1 dX11_passDays_83 ?_
        obtain ⟨q9, hq9, hm⟩ := Option.bind_eq_some_iff.mp hm
        refine cl_X11_279 (pc := 86) C (kJ6_bitCount_0f7a4 hq9) (by decide) (Nat.le_of_ble_eq_true rfl) dX11_passDays_86 ?_
        refine j_isub (pc := 89) C dX11_passDays_89 ?_
        exact j_iretS (pc := 90) C rfl dX11_passDays_90 hm
    · refine j_iloadn (pc := 81) C 3 dX11_passDays_81 rfl rfl ?_
      refine j_aloadn (pc := 82) C 1 dX11_passDays_82 rfl rfl ?_
      refine gf_X11_113 (c := e1) (pc := 83) C he1 dX11_passDays_83 ?_
      obtain ⟨q10, hq10, hm⟩ := Option.bind_eq_some_iff.mp hm
      refine cl_X11_279 (pc := 86) C (kJ6_bitCount_0f7a4 hq10) (by decide) (Nat.le_of_ble_eq_true rfl) dX11_passDays_86 ?_
      refine j_isub (pc := 89) C dX11_passDays_89 ?_
      exact j_iretS (pc := 90) C rfl dX11_passDays_90 hm

def mX11_passDays (F : Nat) (e1 : Nat) (x2 : Int32) (σ : jS) : Option (Int32 × jS) := (Option.bind (mJ6_bitCount_0f7a4 F ((σ e1 4)) σ) fun q1 => (lp_X11_passDays_11 F e1 F x2 q1 (0 : Int32) σ))
set_option maxHeartbeats 4000000 in
set_option maxRecDepth 100000 in
theorem kX11_passDays {V : jV} {F : Nat} {e1 : Nat} (he1 : kX e1 = 0) {x2 : Int32} {σ : jS} {v : (Int32 × jS)} (hm : mX11_passDays F e1 x2 σ = some v) : Ct cfX 70 V yX11_passDays cX11_passDays 6 (some .int) 5 [.ref (vad V 0), .ref (vad V e1), .int x2] σ v := by
  refine j_start (own := RX11) (by decide) rfl (Nat.le_of_ble_eq_true rfl) ?_
  intro G hV C
  subst hV
  unfold mX11_passDays at hm
  show JX G 0 [(0, .ref (vad (gV G) 0)), (1, .ref (vad (gV G) e1)), (2, .int x2)] [] σ v
  refine j_aloadn (pc := 0) C 1 dX11_passDays_0 rfl rfl ?_
  refine gf_X11_113 (c := e1) (pc := 1) C he1 dX11_passDays_1 ?_
  obtain ⟨q1, hq1, hm⟩ := Option.bind_eq_some_iff.mp hm
  refine cl_X11_279 (pc := 4) C (kJ6_bitCount_0f7a4 hq1) (by decide) (Nat.le_of_ble_eq_true rfl) dX11_passDays_4 ?_
  refine j_istoren (ls' := [(3, .int q1), (0, .ref (vad (gV G) 0)), (1, .ref (vad (gV G) e1)), (2, .int x2)]) (pc := 7) C dX11_passDays_7 rfl (by decide) rfl ?_
  refine j_iconst (v := 0) (pc := 8) C dX11_passDays_8 (by decide) ?_
  refine j_istore (ls' := [(4, .int (0 : Int32)), (3, .int q1), (0, .ref (vad (gV G) 0)), (1, .ref (vad (gV G) e1)), (2, .int x2)]) (pc := 9) C dX11_passDays_9 (by decide) rfl ?_
  refine j_ls [2, 3, 4, 1, 0] rfl ?_
  exact lp_X11_passDays_11_ok C F e1 he1  F _ _ _ _ hm

def mX11_days (F : Nat) (x1 : Int32) (σ : jS) : Option (Int32 × jS) := (Option.bind (mX11_isWithin F x1 (1 : Int32) (60 : Int32) σ) fun q1 => (if q1 = 0 then some ((-1 : Int32), σ) else (Option.bind (mX11_passDays F 3 x1 σ) fun q2 => some (q2.1, q2.2))))
set_option maxHeartbeats 4000000 in
set_option maxRecDepth 100000 in
theorem kX11_days {V : jV} {F : Nat} {x1 : Int32} {σ : jS} {v : (Int32 × jS)} (hm : mX11_days F x1 σ = some v) : Ct cfX 70 V yX11_days cX11_days 2 (some .int) 6 [.ref (vad V 0), .int x1] σ v := by
  refine j_start (own := RX11) (by decide) rfl (Nat.le_of_ble_eq_true rfl) ?_
  intro G hV C
  subst hV
  unfold mX11_days at hm
  show JX G 0 [(0, .ref (vad (gV G) 0)), (1, .int x1)] [] σ v
  refine j_iloadn (pc := 0) C 1 dX11_days_0 rfl rfl ?_
  refine j_iconst (v := 1) (pc := 1) C dX11_days_1 (by decide) ?_
  refine j_bipush (v := 60) (pc := 2) C dX11_days_2 (by decide) ?_
  obtain ⟨q1, hq1, hm⟩ := Option.bind_eq_some_iff.mp hm
  refine cl_X11_96 (pc := 4) C (kX11_isWithin hq1) (by decide) (Nat.le_of_ble_eq_true rfl) dX11_days_4 ?_
  refine j_if_ne (tgt := 12) (pc := 7) C dX11_days_7 (by decide) hm (fun _ hm => ?_) (fun _ hm => ?_)
  · refine j_iconst (v := -1) (pc := 10) C dX11_days_10 (by decide) ?_
    exact j_iretS (pc := 11) C rfl dX11_days_11 hm
  · refine j_aloadn (pc := 12) C 0 dX11_days_12 rfl rfl ?_
    refine j_aloadn (pc := 13) C 0 dX11_days_13 rfl rfl ?_
    refine gf_X11_19 (c := 0) (pc := 14) C kx_0 dX11_days_14 ?_
    refine j_iloadn (pc := 17) C 1 dX11_days_17 rfl rfl ?_
    obtain ⟨q2, hq2, hm⟩ := Option.bind_eq_some_iff.mp hm
    refine cl_X11_155 (c := 0) (pc := 18) C kx_0 (kX11_passDays kx_3 hq2) (by decide) (Nat.le_of_ble_eq_true rfl) dX11_days_18 ?_
    exact j_iretS (pc := 21) C rfl dX11_days_21 hm

def jn_X11_tried_88 (F : Nat) (x1 : Int32) (x2 : Int32) (x3 : Int32) (x4 : Int32) (σ : jS) : Option (Int32 × jS) := (Option.bind (mX0_copy F 23 3 σ) fun q3 => (Option.bind (mX11_passDays F 23 x1 q3) fun q4 => (if x4 = 0 then (if x3 = 0 then (if x2 = 0 then some (q4.1, q4.2) else (if x2 = (1 : Int32) then some ((q4.2 23 5), q4.2) else some ((q4.2 23 4), q4.2))) else (Option.bind (mX0_beatsOf F 23 ((x2 - (100 : Int32))) q4.2) fun q5 => some (q5, q4.2))) else (Option.bind (mX6_dueOf F 26 ((x2 - (200 : Int32))) q4.2) fun q6 => some (q6, q4.2)))))
set_option maxHeartbeats 4000000 in
set_option maxRecDepth 100000 in
theorem jn_X11_tried_88_ok {G : jG} (C : jc cfX 70 G cX11_tried RX11 6 (some .int) 6) (F : Nat) {v : (Int32 × jS)} : ∀ (x1 : Int32) (x2 : Int32) (x3 : Int32) (x4 : Int32) (σ : jS), jn_X11_tried_88 F x1 x2 x3 x4 σ = some v → JX G 88 [(0, .ref (vad (gV G) 0)), (1, .int x1), (2, .int x2), (3, .int x3), (4, .int x4)] [] σ v := by
  intro x1 x2 x3 x4 σ hm
  unfold jn_X11_tried_88 at hm
  refine j_aloadn (pc := 88) C 0 dX11_tried_88 rfl rfl ?_
  refine gf_X11_26 (c := 0) (pc := 89) C kx_0 dX11_tried_89 ?_
  refine j_aloadn (pc := 92) C 0 dX11_tried_92 rfl rfl ?_
  refine gf_X11_19 (c := 0) (pc := 93) C kx_0 dX11_tried_93 ?_
  obtain ⟨q3, hq3, hm⟩ := Option.bind_eq_some_iff.mp hm
  refine cl_X11_163 (c := 23) (pc := 96) C kx_23 (kX0_copy kx_23 kx_3 hq3) (by decide) (Nat.le_of_ble_eq_true rfl) dX11_tried_96 ?_
  refine j_aloadn (pc := 99) C 0 dX11_tried_99 rfl rfl ?_
  refine j_aloadn (pc := 100) C 0 dX11_tried_100 rfl rfl ?_
  refine gf_X11_26 (c := 0) (pc := 101) C kx_0 dX11_tried_101 ?_
  refine j_iloadn (pc := 104) C 1 dX11_tried_104 rfl rfl ?_
  obtain ⟨q4, hq4, hm⟩ := Option.bind_eq_some_iff.mp hm
  refine cl_X11_155 (c := 0) (pc := 105) C kx_0 (kX11_passDays kx_23 hq4) (by decide) (Nat.le_of_ble_eq_true rfl) dX11_tried_105 ?_
  refine j_istore (ls' := [(5, .int q4.1), (0, .ref (vad (gV G) 0)), (1, .int x1), (2, .int x2), (3, .int x3), (4, .int x4)]) (pc := 108) C dX11_tried_108 (by decide) rfl ?_
  refine j_iload (pc := 110) C 5 dX11_tried_110 rfl ?_
  refine j_if_eq (tgt := 131) (pc := 112) C dX11_tried_112 (by decide) hm (fun _ hm => ?_) (fun _ hm => ?_)
  · refine j_iloadn (pc := 131) C 4 dX11_tried_131 rfl rfl ?_
    refine j_if_eq (tgt := 147) (pc := 132) C dX11_tried_132 (by decide) hm (fun _ hm => ?_) (fun _ hm => ?_)
    · refine j_iloadn (pc := 147) C 3 dX11_tried_147 rfl rfl ?_
      refine j_if_ne (tgt := 154) (pc := 148) C dX11_tried_148 (by decide) hm (fun _ hm => ?_) (fun _ hm => ?_)
      · refine j_iload (pc := 151) C 0 dX11_tried_151 rfl ?_
        exact j_iretS (pc := 153) C rfl dX11_tried_153 hm
      · refine j_iloadn (pc := 154) C 3 dX11_tried_154 rfl rfl ?_
        refine j_iconst (v := 1) (pc := 155) C dX11_tried_155 (by decide) ?_
        refine j_icmp_ne (tgt := 169) (pc := 156) C dX11_tried_156 (by decide) hm (fun _ hm => ?_) (fun _ hm => ?_)
        · refine j_aloadn (pc := 159) C 1 dX11_tried_159 rfl rfl ?_
          refine gf_X11_26 (c := 0) (pc := 160) C kx_0 dX11_tried_160 ?_
          refine gf_X11_172 (c := 23) (pc := 163) C kx_23 dX11_tried_163 ?_
          refine j_goto (tgt := 176) (pc := 166) C dX11_tried_166 (by decide) ?_
          exact j_iretS (pc := 176) C rfl dX11_tried_176 hm
        · refine j_aloadn (pc := 169) C 1 dX11_tried_169 rfl rfl ?_
          refine gf_X11_26 (c := 0) (pc := 170) C kx_0 dX11_tried_170 ?_
          refine gf_X11_113 (c := 23) (pc := 173) C kx_23 dX11_tried_173 ?_
          exact j_iretS (pc := 176) C rfl dX11_tried_176 hm
    · refine j_aloadn (pc := 135) C 1 dX11_tried_135 rfl rfl ?_
      refine gf_X11_26 (c := 0) (pc := 136) C kx_0 dX11_tried_136 ?_
      refine j_iloadn (pc := 139) C 3 dX11_tried_139 rfl rfl ?_
      refine j_bipush (v := 100) (pc := 140) C dX11_tried_140 (by decide) ?_
      refine j_isub (pc := 142) C dX11_tried_142 ?_
      obtain ⟨q5, hq5, hm⟩ := Option.bind_eq_some_iff.mp hm
      refine cl_X11_169 (c := 23) (pc := 143) C kx_23 (kX0_beatsOf kx_23 hq5) (by decide) (Nat.le_of_ble_eq_true rfl) dX11_tried_143 ?_
      exact j_iretS (pc := 146) C rfl dX11_tried_146 hm
  · refine j_aloadn (pc := 115) C 1 dX11_tried_115 rfl rfl ?_
    refine gf_X11_26 (c := 0) (pc := 116) C kx_0 dX11_tried_116 ?_
    refine gf_X11_143 (c := 23) (pc := 119) C kx_23 dX11_tried_119 ?_
    refine j_iloadn (pc := 122) C 3 dX11_tried_122 rfl rfl ?_
    refine j_sipush (v := 200) (pc := 123) C dX11_tried_123 (by decide) ?_
    refine j_isub (pc := 126) C dX11_tried_126 ?_
    obtain ⟨q6, hq6, hm⟩ := Option.bind_eq_some_iff.mp hm
    refine cl_X11_166 (c := 26) (pc := 127) C kx_26 (kX6_dueOf kx_26 hq6) (by decide) (Nat.le_of_ble_eq_true rfl) dX11_tried_127 ?_
    exact j_iretS (pc := 130) C rfl dX11_tried_130 hm

def jn_X11_tried_56 (F : Nat) (x1 : Int32) (x2 : Int32) (x3 : Int32) (s0 : Int32) (σ : jS) : Option (Int32 × jS) := (Option.bind (mX11_isWithin F x1 (1 : Int32) (60 : Int32) σ) fun q1 => (if q1 = 0 then some ((-1 : Int32), σ) else (Option.bind (mX11_isWithin F x2 (0 : Int32) (2 : Int32) σ) fun q2 => (if q2 = 0 then (if x3 = 0 then (if s0 = 0 then some ((-1 : Int32), σ) else (jn_X11_tried_88 F x1 x2 x3 s0 σ)) else (jn_X11_tried_88 F x1 x2 x3 s0 σ)) else (jn_X11_tried_88 F x1 x2 x3 s0 σ)))))
set_option maxHeartbeats 4000000 in
set_option maxRecDepth 100000 in
theorem jn_X11_tried_56_ok {G : jG} (C : jc cfX 70 G cX11_tried RX11 6 (some .int) 6) (F : Nat) {v : (Int32 × jS)} : ∀ (x1 : Int32) (x2 : Int32) (x3 : Int32) (s0 : Int32) (σ : jS), jn_X11_tried_56 F x1 x2 x3 s0 σ = some v → JX G 56 [(0, .ref (vad (gV G) 0)), (1, .int x1), (2, .int x2), (3, .int x3)] [.int s0] σ v := by
  intro x1 x2 x3 s0 σ hm
  unfold jn_X11_tried_56 at hm
  refine j_istore (ls' := [(4, .int s0), (0, .ref (vad (gV G) 0)), (1, .int x1), (2, .int x2), (3, .int x3)]) (pc := 56) C dX11_tried_56 (by decide) rfl ?_
  refine j_iloadn (pc := 58) C 2 dX11_tried_58 rfl rfl ?_
  refine j_iconst (v := 1) (pc := 59) C dX11_tried_59 (by decide) ?_
  refine j_bipush (v := 60) (pc := 60) C dX11_tried_60 (by decide) ?_
  obtain ⟨q1, hq1, hm⟩ := Option.bind_eq_some_iff.mp hm
  refine cl_X11_96 (pc := 62) C (kX11_isWithin hq1) (by decide) (Nat.le_of_ble_eq_true rfl) dX11_tried_62 ?_
  refine j_if_eq (tgt := 86) (pc := 65) C dX11_tried_65 (by decide) hm (fun _ hm => ?_) (fun _ hm => ?_)
  · refine j_iconst (v := -1) (pc := 86) C dX11_tried_86 (by decide) ?_
    exact j_iretS (pc := 87) C rfl dX11_tried_87 hm
  · refine j_iloadn (pc := 68) C 3 dX11_tried_68 rfl rfl ?_
    refine j_iconst (v := 0) (pc := 69) C dX11_tried_69 (by decide) ?_
    refine j_iconst (v := 2) (pc := 70) C dX11_tried_70 (by decide) ?_
    obtain ⟨q2, hq2, hm⟩ := Option.bind_eq_some_iff.mp hm
    refine cl_X11_96 (pc := 71) C (kX11_isWithin hq2) (by decide) (Nat.le_of_ble_eq_true rfl) dX11_tried_71 ?_
    refine j_if_ne (tgt := 88) (pc := 74) C dX11_tried_74 (by decide) hm (fun _ hm => ?_) (fun _ hm => ?_)
    · refine j_iloadn (pc := 77) C 4 dX11_tried_77 rfl rfl ?_
      refine j_if_ne (tgt := 88) (pc := 78) C dX11_tried_78 (by decide) hm (fun _ hm => ?_) (fun _ hm => ?_)
      · refine j_iload (pc := 81) C 0 dX11_tried_81 rfl ?_
        refine j_if_ne (tgt := 88) (pc := 83) C dX11_tried_83 (by decide) hm (fun _ hm => ?_) (fun _ hm => ?_)
        · refine j_iconst (v := -1) (pc := 86) C dX11_tried_86 (by decide) ?_
          exact j_iretS (pc := 87) C rfl dX11_tried_87 hm
        · refine j_ls [1, 2, 3, 4, 0] rfl ?_
          exact jn_X11_tried_88_ok C F  _ _ _ _ _ hm
      · refine j_ls [1, 2, 3, 4, 0] rfl ?_
        exact jn_X11_tried_88_ok C F  _ _ _ _ _ hm
    · refine j_ls [1, 2, 3, 4, 0] rfl ?_
      exact jn_X11_tried_88_ok C F  _ _ _ _ _ hm

def jn_X11_tried_55 (F : Nat) (x1 : Int32) (x2 : Int32) (x3 : Int32) (σ : jS) : Option (Int32 × jS) := (jn_X11_tried_56 F x1 x2 x3 (0 : Int32) σ)
set_option maxHeartbeats 4000000 in
set_option maxRecDepth 100000 in
theorem jn_X11_tried_55_ok {G : jG} (C : jc cfX 70 G cX11_tried RX11 6 (some .int) 6) (F : Nat) {v : (Int32 × jS)} : ∀ (x1 : Int32) (x2 : Int32) (x3 : Int32) (σ : jS), jn_X11_tried_55 F x1 x2 x3 σ = some v → JX G 55 [(0, .ref (vad (gV G) 0)), (1, .int x1), (2, .int x2), (3, .int x3)] [] σ v := by
  intro x1 x2 x3 σ hm
  unfold jn_X11_tried_55 at hm
  refine j_iconst (v := 0) (pc := 55) C dX11_tried_55 (by decide) ?_
  exact jn_X11_tried_56_ok C F  _ _ _ _ _ hm

def jn_X11_tried_25 (F : Nat) (x1 : Int32) (x2 : Int32) (s0 : Int32) (σ : jS) : Option (Int32 × jS) := (if x2 < (200 : Int32) then (jn_X11_tried_55 F x1 x2 s0 σ) else (Option.bind (mX6_has F 6 ((x2 - (200 : Int32))) σ) fun q7 => (if q7 = 0 then (jn_X11_tried_55 F x1 x2 s0 σ) else (jn_X11_tried_56 F x1 x2 s0 (1 : Int32) σ))))
set_option maxHeartbeats 4000000 in
set_option maxRecDepth 100000 in
theorem jn_X11_tried_25_ok {G : jG} (C : jc cfX 70 G cX11_tried RX11 6 (some .int) 6) (F : Nat) {v : (Int32 × jS)} : ∀ (x1 : Int32) (x2 : Int32) (s0 : Int32) (σ : jS), jn_X11_tried_25 F x1 x2 s0 σ = some v → JX G 25 [(0, .ref (vad (gV G) 0)), (1, .int x1), (2, .int x2)] [.int s0] σ v := by
  intro x1 x2 s0 σ hm
  unfold jn_X11_tried_25 at hm
  refine j_istoren (ls' := [(3, .int s0), (0, .ref (vad (gV G) 0)), (1, .int x1), (2, .int x2)]) (pc := 25) C dX11_tried_25 rfl (by decide) rfl ?_
  refine j_iloadn (pc := 26) C 3 dX11_tried_26 rfl rfl ?_
  refine j_sipush (v := 200) (pc := 27) C dX11_tried_27 (by decide) ?_
  refine j_icmp_lt (tgt := 55) (pc := 30) C dX11_tried_30 (by decide) hm (fun _ hm => ?_) (fun _ hm => ?_)
  · refine j_ls [1, 2, 3, 0] rfl ?_
    exact jn_X11_tried_55_ok C F  _ _ _ _ hm
  · refine j_aloadn (pc := 33) C 1 dX11_tried_33 rfl rfl ?_
    refine gf_X11_19 (c := 0) (pc := 34) C kx_0 dX11_tried_34 ?_
    refine gf_X11_143 (c := 3) (pc := 37) C kx_3 dX11_tried_37 ?_
    refine j_iloadn (pc := 40) C 3 dX11_tried_40 rfl rfl ?_
    refine j_sipush (v := 200) (pc := 41) C dX11_tried_41 (by decide) ?_
    refine j_isub (pc := 44) C dX11_tried_44 ?_
    obtain ⟨q7, hq7, hm⟩ := Option.bind_eq_some_iff.mp hm
    refine cl_X11_162 (c := 6) (pc := 45) C kx_6 (kX6_has kx_6 hq7) (by decide) (Nat.le_of_ble_eq_true rfl) dX11_tried_45 ?_
    refine j_if_eq (tgt := 55) (pc := 48) C dX11_tried_48 (by decide) hm (fun _ hm => ?_) (fun _ hm => ?_)
    · refine j_ls [1, 2, 3, 0] rfl ?_
      exact jn_X11_tried_55_ok C F  _ _ _ _ hm
    · refine j_iconst (v := 1) (pc := 51) C dX11_tried_51 (by decide) ?_
      refine j_goto (tgt := 56) (pc := 52) C dX11_tried_52 (by decide) ?_
      refine j_ls [1, 2, 3, 0] rfl ?_
      exact jn_X11_tried_56_ok C F  _ _ _ _ _ hm

def jn_X11_tried_24 (F : Nat) (x1 : Int32) (x2 : Int32) (σ : jS) : Option (Int32 × jS) := (jn_X11_tried_25 F x1 x2 (0 : Int32) σ)
set_option maxHeartbeats 4000000 in
set_option maxRecDepth 100000 in
theorem jn_X11_tried_24_ok {G : jG} (C : jc cfX 70 G cX11_tried RX11 6 (some .int) 6) (F : Nat) {v : (Int32 × jS)} : ∀ (x1 : Int32) (x2 : Int32) (σ : jS), jn_X11_tried_24 F x1 x2 σ = some v → JX G 24 [(0, .ref (vad (gV G) 0)), (1, .int x1), (2, .int x2)] [] σ v := by
  intro x1 x2 σ hm
  unfold jn_X11_tried_24 at hm
  refine j_iconst (v := 0) (pc := 24) C dX11_tried_24 (by decide) ?_
  exact jn_X11_tried_25_ok C F  _ _ _ _ hm

def mX11_tried (F : Nat) (x1 : Int32) (x2 : Int32) (σ : jS) : Option (Int32 × jS) := (if x2 < (100 : Int32) then (jn_X11_tried_24 F x1 x2 σ) else (Option.bind (mX0_isTold F 3 ((x2 - (100 : Int32))) σ) fun q8 => (if q8 = 0 then (jn_X11_tried_24 F x1 x2 σ) else (jn_X11_tried_25 F x1 x2 (1 : Int32) σ))))
set_option maxHeartbeats 4000000 in
set_option maxRecDepth 100000 in
theorem kX11_tried {V : jV} {F : Nat} {x1 : Int32} {x2 : Int32} {σ : jS} {v : (Int32 × jS)} (hm : mX11_tried F x1 x2 σ = some v) : Ct cfX 70 V yX11_tried cX11_tried 6 (some .int) 6 [.ref (vad V 0), .int x1, .int x2] σ v := by
  refine j_start (own := RX11) (by decide) rfl (Nat.le_of_ble_eq_true rfl) ?_
  intro G hV C
  subst hV
  unfold mX11_tried at hm
  show JX G 0 [(0, .ref (vad (gV G) 0)), (1, .int x1), (2, .int x2)] [] σ v
  refine j_iloadn (pc := 0) C 2 dX11_tried_0 rfl rfl ?_
  refine j_bipush (v := 100) (pc := 1) C dX11_tried_1 (by decide) ?_
  refine j_icmp_lt (tgt := 24) (pc := 3) C dX11_tried_3 (by decide) hm (fun _ hm => ?_) (fun _ hm => ?_)
  · exact jn_X11_tried_24_ok C F  _ _ _ hm
  · refine j_aloadn (pc := 6) C 0 dX11_tried_6 rfl rfl ?_
    refine gf_X11_19 (c := 0) (pc := 7) C kx_0 dX11_tried_7 ?_
    refine j_iloadn (pc := 10) C 2 dX11_tried_10 rfl rfl ?_
    refine j_bipush (v := 100) (pc := 11) C dX11_tried_11 (by decide) ?_
    refine j_isub (pc := 13) C dX11_tried_13 ?_
    obtain ⟨q8, hq8, hm⟩ := Option.bind_eq_some_iff.mp hm
    refine cl_X11_159 (c := 3) (pc := 14) C kx_3 (kX0_isTold kx_3 hq8) (by decide) (Nat.le_of_ble_eq_true rfl) dX11_tried_14 ?_
    refine j_if_eq (tgt := 24) (pc := 17) C dX11_tried_17 (by decide) hm (fun _ hm => ?_) (fun _ hm => ?_)
    · exact jn_X11_tried_24_ok C F  _ _ _ hm
    · refine j_iconst (v := 1) (pc := 20) C dX11_tried_20 (by decide) ?_
      refine j_goto (tgt := 25) (pc := 21) C dX11_tried_21 (by decide) ?_
      exact jn_X11_tried_25_ok C F  _ _ _ _ hm

def mX11_personIs (F : Nat) (x1 : Int32) (x2 : Int32) (σ : jS) : Option Int32 := (Option.bind (mX0_isTold F 3 x1 σ) fun q1 => (if q1 = 0 then some (-1000000000 : Int32) else (if x2 = (0 : Int32) then (Option.bind (mX0_beatsOf F 3 x1 σ) fun q2 => some q2) else (if x2 = (1 : Int32) then (Option.bind (mX0_ageOf F 3 x1 σ) fun q3 => some q3) else (if x2 = (2 : Int32) then (Option.bind (mX0_isLiving F 3 x1 σ) fun q4 => (if q4 = 0 then some (0 : Int32) else some (1 : Int32))) else (if x2 = (3 : Int32) then (Option.bind (mX8_hoursOf F x1 σ) fun q5 => some q5) else (if x2 = (4 : Int32) then (Option.bind (mX6_netOf F 6 x1 σ) fun q6 => some q6) else some (-1000000000 : Int32))))))))
set_option maxHeartbeats 4000000 in
set_option maxRecDepth 100000 in
theorem kX11_personIs {V : jV} {F : Nat} {x1 : Int32} {x2 : Int32} {σ : jS} {v : Int32} (hm : mX11_personIs F x1 x2 σ = some v) : Ct cfX 70 V yX11_personIs cX11_personIs 3 (some .int) 1 [.ref (vad V 0), .int x1, .int x2] σ (v, σ) := by
  refine j_start (own := RX11) (by decide) rfl (Nat.le_of_ble_eq_true rfl) ?_
  intro G hV C
  subst hV
  unfold mX11_personIs at hm
  show JX G 0 [(0, .ref (vad (gV G) 0)), (1, .int x1), (2, .int x2)] [] σ (v, σ)
  refine j_aloadn (pc := 0) C 0 dX11_personIs_0 rfl rfl ?_
  refine gf_X11_19 (c := 0) (pc := 1) C kx_0 dX11_personIs_1 ?_
  refine j_iloadn (pc := 4) C 1 dX11_personIs_4 rfl rfl ?_
  obtain ⟨q1, hq1, hm⟩ := Option.bind_eq_some_iff.mp hm
  refine cl_X11_159 (c := 3) (pc := 5) C kx_3 (kX0_isTold kx_3 hq1) (by decide) (Nat.le_of_ble_eq_true rfl) dX11_personIs_5 ?_
  refine j_if_ne (tgt := 14) (pc := 8) C dX11_personIs_8 (by decide) hm (fun _ hm => ?_) (fun _ hm => ?_)
  · refine j_ldc (v := -1000000000) (pc := 11) C dX11_personIs_11 tw_4_75 ?_
    exact j_iret (pc := 13) C rfl dX11_personIs_13 hm
  · refine j_iloadn (pc := 14) C 2 dX11_personIs_14 rfl rfl ?_
    refine j_sw (b := 0) hm (fun hs hm => ?_) (fun hs0 hm => ?_)
    · refine j_swIn (tgt := 48) (b := 0) (pc := 15) C dX11_personIs_15 hs (by decide) (by decide) rfl (by decide) ?_
      refine j_aloadn (pc := 48) C 0 dX11_personIs_48 rfl rfl ?_
      refine gf_X11_19 (c := 0) (pc := 49) C kx_0 dX11_personIs_49 ?_
      refine j_iloadn (pc := 52) C 1 dX11_personIs_52 rfl rfl ?_
      obtain ⟨q2, hq2, hm⟩ := Option.bind_eq_some_iff.mp hm
      refine cl_X11_169 (c := 3) (pc := 53) C kx_3 (kX0_beatsOf kx_3 hq2) (by decide) (Nat.le_of_ble_eq_true rfl) dX11_personIs_53 ?_
      exact j_iret (pc := 56) C rfl dX11_personIs_56 hm
    · refine j_sw (b := 1) hm (fun hs hm => ?_) (fun hs1 hm => ?_)
      · refine j_swIn (tgt := 57) (b := 1) (pc := 15) C dX11_personIs_15 hs (by decide) (by decide) rfl (by decide) ?_
        refine j_aloadn (pc := 57) C 0 dX11_personIs_57 rfl rfl ?_
        refine gf_X11_19 (c := 0) (pc := 58) C kx_0 dX11_personIs_58 ?_
        refine j_iloadn (pc := 61) C 1 dX11_personIs_61 rfl rfl ?_
        obtain ⟨q3, hq3, hm⟩ := Option.bind_eq_some_iff.mp hm
        refine cl_X11_176 (c := 3) (pc := 62) C kx_3 (kX0_ageOf kx_3 hq3) (by decide) (Nat.le_of_ble_eq_true rfl) dX11_personIs_62 ?_
        exact j_iret (pc := 65) C rfl dX11_personIs_65 hm
      · refine j_sw (b := 2) hm (fun hs hm => ?_) (fun hs2 hm => ?_)
        · refine j_swIn (tgt := 66) (b := 2) (pc := 15) C dX11_personIs_15 hs (by decide) (by decide) rfl (by decide) ?_
          refine j_aloadn (pc := 66) C 0 dX11_personIs_66 rfl rfl ?_
          refine gf_X11_19 (c := 0) (pc := 67) C kx_0 dX11_personIs_67 ?_
          refine j_iloadn (pc := 70) C 1 dX11_personIs_70 rfl rfl ?_
          obtain ⟨q4, hq4, hm⟩ := Option.bind_eq_some_iff.mp hm
          refine cl_X11_179 (c := 3) (pc := 71) C kx_3 (kX0_isLiving kx_3 hq4) (by decide) (Nat.le_of_ble_eq_true rfl) dX11_personIs_71 ?_
          refine j_if_eq (tgt := 81) (pc := 74) C dX11_personIs_74 (by decide) hm (fun _ hm => ?_) (fun _ hm => ?_)
          · refine j_iconst (v := 0) (pc := 81) C dX11_personIs_81 (by decide) ?_
            exact j_iret (pc := 82) C rfl dX11_personIs_82 hm
          · refine j_iconst (v := 1) (pc := 77) C dX11_personIs_77 (by decide) ?_
            refine j_goto (tgt := 82) (pc := 78) C dX11_personIs_78 (by decide) ?_
            exact j_iret (pc := 82) C rfl dX11_personIs_82 hm
        · refine j_sw (b := 3) hm (fun hs hm => ?_) (fun hs3 hm => ?_)
          · refine j_swIn (tgt := 83) (b := 3) (pc := 15) C dX11_personIs_15 hs (by decide) (by decide) rfl (by decide) ?_
            refine j_aloadn (pc := 83) C 0 dX11_personIs_83 rfl rfl ?_
            refine gf_X11_34 (c := 0) (pc := 84) C kx_0 dX11_personIs_84 ?_
            refine j_iloadn (pc := 87) C 1 dX11_personIs_87 rfl rfl ?_
            obtain ⟨q5, hq5, hm⟩ := Option.bind_eq_some_iff.mp hm
            refine cl_X11_182 (c := 33) (pc := 88) C kx_33 (kX8_hoursOf hq5) (by decide) (Nat.le_of_ble_eq_true rfl) dX11_personIs_88 ?_
            exact j_iret (pc := 91) C rfl dX11_personIs_91 hm
          · refine j_sw (b := 4) hm (fun hs hm => ?_) (fun hs4 hm => ?_)
            · refine j_swIn (tgt := 92) (b := 4) (pc := 15) C dX11_personIs_15 hs (by decide) (by decide) rfl (by decide) ?_
              refine j_aloadn (pc := 92) C 0 dX11_personIs_92 rfl rfl ?_
              refine gf_X11_19 (c := 0) (pc := 93) C kx_0 dX11_personIs_93 ?_
              refine gf_X11_143 (c := 3) (pc := 96) C kx_3 dX11_personIs_96 ?_
              refine j_iloadn (pc := 99) C 1 dX11_personIs_99 rfl rfl ?_
              obtain ⟨q6, hq6, hm⟩ := Option.bind_eq_some_iff.mp hm
              refine cl_X11_185 (c := 6) (pc := 100) C kx_6 (kX6_netOf kx_6 hq6) (by decide) (Nat.le_of_ble_eq_true rfl) dX11_personIs_100 ?_
              exact j_iret (pc := 103) C rfl dX11_personIs_103 hm
            · refine j_swOut (tgt := 104) (pc := 15) C dX11_personIs_15 (by have hx := jsw_out (lo := 0) (n := 5) (by decide) (by decide) (fun i hi => by rcases i with _ | _ | _ | _ | _ | i <;> first | assumption | (exact absurd hi (by omega))); exact hx) (by decide) ?_
              refine j_ldc (v := -1000000000) (pc := 104) C dX11_personIs_104 tw_4_75 ?_
              exact j_iret (pc := 106) C rfl dX11_personIs_106 hm

def mX11_loanIs (F : Nat) (x1 : Int32) (x2 : Int32) (σ : jS) : Option Int32 := (Option.bind (mX6_partOf F 6 x1 x2 σ) fun q1 => some q1)
set_option maxHeartbeats 4000000 in
set_option maxRecDepth 100000 in
theorem kX11_loanIs {V : jV} {F : Nat} {x1 : Int32} {x2 : Int32} {σ : jS} {v : Int32} (hm : mX11_loanIs F x1 x2 σ = some v) : Ct cfX 70 V yX11_loanIs cX11_loanIs 3 (some .int) 2 [.ref (vad V 0), .int x1, .int x2] σ (v, σ) := by
  refine j_start (own := RX11) (by decide) rfl (Nat.le_of_ble_eq_true rfl) ?_
  intro G hV C
  subst hV
  unfold mX11_loanIs at hm
  show JX G 0 [(0, .ref (vad (gV G) 0)), (1, .int x1), (2, .int x2)] [] σ (v, σ)
  refine j_aloadn (pc := 0) C 0 dX11_loanIs_0 rfl rfl ?_
  refine gf_X11_19 (c := 0) (pc := 1) C kx_0 dX11_loanIs_1 ?_
  refine gf_X11_143 (c := 3) (pc := 4) C kx_3 dX11_loanIs_4 ?_
  refine j_iloadn (pc := 7) C 1 dX11_loanIs_7 rfl rfl ?_
  refine j_iloadn (pc := 8) C 2 dX11_loanIs_8 rfl rfl ?_
  obtain ⟨q1, hq1, hm⟩ := Option.bind_eq_some_iff.mp hm
  refine cl_X11_188 (c := 6) (pc := 9) C kx_6 (kX6_partOf kx_6 hq1) (by decide) (Nat.le_of_ble_eq_true rfl) dX11_loanIs_9 ?_
  exact j_iret (pc := 12) C rfl dX11_loanIs_12 hm

def lp_X11_dies_49 (F : Nat) : Nat → Int32 → Int32 → Int32 → jS → Option (Int32 × jS)
  | 0, _, _, _, _ => none
  | n + 1, x1, x2, x3, σ => (if x2 < x3 then some ((-2 : Int32), σ) else (Option.bind (mX11_passDays F 23 (1 : Int32) σ) fun q5 => (Option.bind (mX0_isLiving F 23 x1 q5.2) fun q6 => (if q6 = 0 then some (x3, q5.2) else (lp_X11_dies_49 F n x1 x2 ((x3 + (1 : Int32))) q5.2)))))
set_option maxHeartbeats 4000000 in
set_option maxRecDepth 100000 in
theorem lp_X11_dies_49_ok {G : jG} (C : jc cfX 70 G cX11_dies RX11 4 (some .int) 6) (F : Nat) {v : (Int32 × jS)} : ∀ (n : Nat) (x1 : Int32) (x2 : Int32) (x3 : Int32) (σ : jS), lp_X11_dies_49 F n x1 x2 x3 σ = some v → JX G 49 [(0, .ref (vad (gV G) 0)), (1, .int x1), (2, .int x2), (3, .int x3)] [] σ v := by
  intro n
  induction n with
  | zero =>
    intro x1 x2 x3 σ hm
    rw [lp_X11_dies_49] at hm
    cases hm
  | succ n ih =>
    intro x1 x2 x3 σ hm
    rw [lp_X11_dies_49] at hm
    refine j_iloadn (pc := 49) C 3 dX11_dies_49 rfl rfl ?_
    refine j_iloadn (pc := 50) C 2 dX11_dies_50 rfl rfl ?_
    refine j_icmp_gt (tgt := 83) (pc := 51) C dX11_dies_51 (by decide) hm (fun _ hm => ?_) (fun _ hm => ?_)
    · refine j_bipush (v := -2) (pc := 83) C dX11_dies_83 (by decide) ?_
      exact j_iretS (pc := 85) C rfl dX11_dies_85 hm
    · refine j_aloadn (pc := 54) C 0 dX11_dies_54 rfl rfl ?_
      refine j_aloadn (pc := 55) C 0 dX11_dies_55 rfl rfl ?_
      refine gf_X11_26 (c := 0) (pc := 56) C kx_0 dX11_dies_56 ?_
      refine j_iconst (v := 1) (pc := 59) C dX11_dies_59 (by decide) ?_
      obtain ⟨q5, hq5, hm⟩ := Option.bind_eq_some_iff.mp hm
      refine cl_X11_155 (c := 0) (pc := 60) C kx_0 (kX11_passDays kx_23 hq5) (by decide) (Nat.le_of_ble_eq_true rfl) dX11_dies_60 ?_
      refine j_pop (pc := 63) C dX11_dies_63 rfl ?_
      refine j_aloadn (pc := 64) C 0 dX11_dies_64 rfl rfl ?_
      refine gf_X11_26 (c := 0) (pc := 65) C kx_0 dX11_dies_65 ?_
      refine j_iloadn (pc := 68) C 1 dX11_dies_68 rfl rfl ?_
      obtain ⟨q6, hq6, hm⟩ := Option.bind_eq_some_iff.mp hm
      refine cl_X11_179 (c := 23) (pc := 69) C kx_23 (kX0_isLiving kx_23 hq6) (by decide) (Nat.le_of_ble_eq_true rfl) dX11_dies_69 ?_
      refine j_if_ne (tgt := 77) (pc := 72) C dX11_dies_72 (by decide) hm (fun _ hm => ?_) (fun _ hm => ?_)
      · refine j_iloadn (pc := 75) C 3 dX11_dies_75 rfl rfl ?_
        exact j_iretS (pc := 76) C rfl dX11_dies_76 hm
      · refine j_iinc (v := (x3 + (1 : Int32))) (ls' := [(3, .int (x3 + (1 : Int32))), (0, .ref (vad (gV G) 0)), (1, .int x1), (2, .int x2)]) (pc := 77) C 3 dX11_dies_77 rfl rfl (by decide) rfl ?_
        refine j_goto (tgt := 49) (pc := 80) C dX11_dies_80 (by decide) ?_
        refine j_ls [1, 2, 3, 0] rfl ?_
        exact ih _ _ _ _ hm

def mX11_dies (F : Nat) (x1 : Int32) (x2 : Int32) (σ : jS) : Option (Int32 × jS) := (Option.bind (mX0_isTold F 3 x1 σ) fun q1 => (if q1 = 0 then some ((-1 : Int32), σ) else (Option.bind (mX11_isWithin F x2 (1 : Int32) (60 : Int32) σ) fun q2 => (if q2 = 0 then some ((-1 : Int32), σ) else (Option.bind (mX0_isLiving F 3 x1 σ) fun q3 => (if q3 = 0 then some ((0 : Int32), σ) else (Option.bind (mX0_copy F 23 3 σ) fun q4 => (lp_X11_dies_49 F F x1 x2 (1 : Int32) q4))))))))
set_option maxHeartbeats 4000000 in
set_option maxRecDepth 100000 in
theorem kX11_dies {V : jV} {F : Nat} {x1 : Int32} {x2 : Int32} {σ : jS} {v : (Int32 × jS)} (hm : mX11_dies F x1 x2 σ = some v) : Ct cfX 70 V yX11_dies cX11_dies 4 (some .int) 6 [.ref (vad V 0), .int x1, .int x2] σ v := by
  refine j_start (own := RX11) (by decide) rfl (Nat.le_of_ble_eq_true rfl) ?_
  intro G hV C
  subst hV
  unfold mX11_dies at hm
  show JX G 0 [(0, .ref (vad (gV G) 0)), (1, .int x1), (2, .int x2)] [] σ v
  refine j_aloadn (pc := 0) C 0 dX11_dies_0 rfl rfl ?_
  refine gf_X11_19 (c := 0) (pc := 1) C kx_0 dX11_dies_1 ?_
  refine j_iloadn (pc := 4) C 1 dX11_dies_4 rfl rfl ?_
  obtain ⟨q1, hq1, hm⟩ := Option.bind_eq_some_iff.mp hm
  refine cl_X11_159 (c := 3) (pc := 5) C kx_3 (kX0_isTold kx_3 hq1) (by decide) (Nat.le_of_ble_eq_true rfl) dX11_dies_5 ?_
  refine j_if_eq (tgt := 21) (pc := 8) C dX11_dies_8 (by decide) hm (fun _ hm => ?_) (fun _ hm => ?_)
  · refine j_iconst (v := -1) (pc := 21) C dX11_dies_21 (by decide) ?_
    exact j_iretS (pc := 22) C rfl dX11_dies_22 hm
  · refine j_iloadn (pc := 11) C 2 dX11_dies_11 rfl rfl ?_
    refine j_iconst (v := 1) (pc := 12) C dX11_dies_12 (by decide) ?_
    refine j_bipush (v := 60) (pc := 13) C dX11_dies_13 (by decide) ?_
    obtain ⟨q2, hq2, hm⟩ := Option.bind_eq_some_iff.mp hm
    refine cl_X11_96 (pc := 15) C (kX11_isWithin hq2) (by decide) (Nat.le_of_ble_eq_true rfl) dX11_dies_15 ?_
    refine j_if_ne (tgt := 23) (pc := 18) C dX11_dies_18 (by decide) hm (fun _ hm => ?_) (fun _ hm => ?_)
    · refine j_iconst (v := -1) (pc := 21) C dX11_dies_21 (by decide) ?_
      exact j_iretS (pc := 22) C rfl dX11_dies_22 hm
    · refine j_aloadn (pc := 23) C 0 dX11_dies_23 rfl rfl ?_
      refine gf_X11_19 (c := 0) (pc := 24) C kx_0 dX11_dies_24 ?_
      refine j_iloadn (pc := 27) C 1 dX11_dies_27 rfl rfl ?_
      obtain ⟨q3, hq3, hm⟩ := Option.bind_eq_some_iff.mp hm
      refine cl_X11_179 (c := 3) (pc := 28) C kx_3 (kX0_isLiving kx_3 hq3) (by decide) (Nat.le_of_ble_eq_true rfl) dX11_dies_28 ?_
      refine j_if_ne (tgt := 36) (pc := 31) C dX11_dies_31 (by decide) hm (fun _ hm => ?_) (fun _ hm => ?_)
      · refine j_iconst (v := 0) (pc := 34) C dX11_dies_34 (by decide) ?_
        exact j_iretS (pc := 35) C rfl dX11_dies_35 hm
      · refine j_aloadn (pc := 36) C 0 dX11_dies_36 rfl rfl ?_
        refine gf_X11_26 (c := 0) (pc := 37) C kx_0 dX11_dies_37 ?_
        refine j_aloadn (pc := 40) C 0 dX11_dies_40 rfl rfl ?_
        refine gf_X11_19 (c := 0) (pc := 41) C kx_0 dX11_dies_41 ?_
        obtain ⟨q4, hq4, hm⟩ := Option.bind_eq_some_iff.mp hm
        refine cl_X11_163 (c := 23) (pc := 44) C kx_23 (kX0_copy kx_23 kx_3 hq4) (by decide) (Nat.le_of_ble_eq_true rfl) dX11_dies_44 ?_
        refine j_iconst (v := 1) (pc := 47) C dX11_dies_47 (by decide) ?_
        refine j_istoren (ls' := [(3, .int (1 : Int32)), (0, .ref (vad (gV G) 0)), (1, .int x1), (2, .int x2)]) (pc := 48) C dX11_dies_48 rfl (by decide) rfl ?_
        refine j_ls [1, 2, 3, 0] rfl ?_
        exact lp_X11_dies_49_ok C F  F _ _ _ _ hm

def lp_X11_costOf_21 (F : Nat) : Nat → Int32 → Int32 → Int32 → Int32 → jS → Option (Int32 × jS)
  | 0, _, _, _, _, _ => none
  | n + 1, x1, x3, x4, x5, σ => (if x5 < x3 then (Option.bind (mX2_turnTo F x1 x5 (0 : Int32) (0 : Int32) σ) fun q3 => (Option.bind (mX2_worth F (112 : Int32) (60 : Int32) (1 : Int32) (255 : Int32) q3) fun q4 => (lt (x4 + ((60 : Int32) * q4.1)) fun y5 => (lp_X11_costOf_21 F n x1 x3 y5 ((x5 + (1 : Int32))) q4.2)))) else some (x4, σ))
set_option maxHeartbeats 4000000 in
set_option maxRecDepth 100000 in
theorem lp_X11_costOf_21_ok {G : jG} (C : jc cfX 70 G cX11_costOf RX11 6 (some .int) 4) (F : Nat) {v : (Int32 × jS)} : ∀ (n : Nat) (x1 : Int32) (x3 : Int32) (x4 : Int32) (x5 : Int32) (σ : jS), lp_X11_costOf_21 F n x1 x3 x4 x5 σ = some v → JX G 21 [(0, .ref (vad (gV G) 0)), (1, .int x1), (3, .int x3), (4, .int x4), (5, .int x5)] [] σ v := by
  intro n
  induction n with
  | zero =>
    intro x1 x3 x4 x5 σ hm
    rw [lp_X11_costOf_21] at hm
    cases hm
  | succ n ih =>
    intro x1 x3 x4 x5 σ hm
    rw [lp_X11_costOf_21] at hm
    refine j_iload (pc := 21) C 4 dX11_costOf_21 rfl ?_
    refine j_iloadn (pc := 23) C 2 dX11_costOf_23 rfl rfl ?_
    refine j_icmp_ge (tgt := 68) (pc := 24) C dX11_costOf_24 (by decide) hm (fun _ hm => ?_) (fun _ hm => ?_)
    · refine j_aloadn (pc := 27) C 0 dX11_costOf_27 rfl rfl ?_
      refine gf_X11_67 (c := 0) (pc := 28) C kx_0 dX11_costOf_28 ?_
      refine j_iloadn (pc := 31) C 1 dX11_costOf_31 rfl rfl ?_
      refine j_iload (pc := 32) C 4 dX11_costOf_32 rfl ?_
      refine j_iconst (v := 0) (pc := 34) C dX11_costOf_34 (by decide) ?_
      refine j_iconst (v := 0) (pc := 35) C dX11_costOf_35 (by decide) ?_
      obtain ⟨q3, hq3, hm⟩ := Option.bind_eq_some_iff.mp hm
      refine cl_X11_304 (c := 58) (pc := 36) C kx_58 (kX2_turnTo hq3) (by decide) (Nat.le_of_ble_eq_true rfl) dX11_costOf_36 ?_
      refine j_iload (pc := 39) C 3 dX11_costOf_39 rfl ?_
      refine j_bipush (v := 60) (pc := 41) C dX11_costOf_41 (by decide) ?_
      refine j_aloadn (pc := 43) C 0 dX11_costOf_43 rfl rfl ?_
      refine gf_X11_67 (c := 0) (pc := 44) C kx_0 dX11_costOf_44 ?_
      refine j_bipush (v := 112) (pc := 47) C dX11_costOf_47 (by decide) ?_
      refine j_bipush (v := 60) (pc := 49) C dX11_costOf_49 (by decide) ?_
      refine j_iconst (v := 1) (pc := 51) C dX11_costOf_51 (by decide) ?_
      refine j_sipush (v := 255) (pc := 52) C dX11_costOf_52 (by decide) ?_
      obtain ⟨q4, hq4, hm⟩ := Option.bind_eq_some_iff.mp hm
      refine cl_X11_308 (c := 58) (pc := 55) C kx_58 (kX2_worth hq4) (by decide) (Nat.le_of_ble_eq_true rfl) dX11_costOf_55 ?_
      refine j_imul (pc := 58) C dX11_costOf_58 ?_
      refine j_iadd (pc := 59) C dX11_costOf_59 ?_
      refine j_lti hm (fun y5 hm => ?_)
      refine j_istore (ls' := [(4, .int y5), (0, .ref (vad (gV G) 0)), (1, .int x1), (3, .int x3), (5, .int x5)]) (pc := 60) C dX11_costOf_60 (by decide) rfl ?_
      refine j_iinc (v := (x5 + (1 : Int32))) (ls' := [(5, .int (x5 + (1 : Int32))), (4, .int y5), (0, .ref (vad (gV G) 0)), (1, .int x1), (3, .int x3)]) (pc := 62) C 4 dX11_costOf_62 rfl rfl (by decide) rfl ?_
      refine j_goto (tgt := 21) (pc := 65) C dX11_costOf_65 (by decide) ?_
      refine j_ls [2, 3, 4, 1, 0] rfl ?_
      exact ih _ _ _ _ _ hm
    · refine j_iload (pc := 68) C 3 dX11_costOf_68 rfl ?_
      exact j_iretS (pc := 70) C rfl dX11_costOf_70 hm

def mX11_costOf (F : Nat) (x1 : Int32) (x2 : Int32) (x3 : Int32) (σ : jS) : Option (Int32 × jS) := (lt (σ 0 11).toNatClampNeg fun e1 => if kX e1 = 3 then (Option.bind (mX2_sit F 3 e1 σ) fun q2 => (lp_X11_costOf_21 F F x1 x3 (0 : Int32) x2 q2)) else none)
set_option maxHeartbeats 4000000 in
set_option maxRecDepth 100000 in
theorem kX11_costOf {V : jV} {F : Nat} {x1 : Int32} {x2 : Int32} {x3 : Int32} {σ : jS} {v : (Int32 × jS)} (hm : mX11_costOf F x1 x2 x3 σ = some v) : Ct cfX 70 V yX11_costOf cX11_costOf 6 (some .int) 4 [.ref (vad V 0), .int x1, .int x2, .int x3] σ v := by
  refine j_start (own := RX11) (by decide) rfl (Nat.le_of_ble_eq_true rfl) ?_
  intro G hV C
  subst hV
  unfold mX11_costOf at hm
  show JX G 0 [(0, .ref (vad (gV G) 0)), (1, .int x1), (2, .int x2), (3, .int x3)] [] σ v
  refine j_iconst (v := 0) (pc := 0) C dX11_costOf_0 (by decide) ?_
  refine j_istore (ls' := [(4, .int (0 : Int32)), (0, .ref (vad (gV G) 0)), (1, .int x1), (2, .int x2), (3, .int x3)]) (pc := 1) C dX11_costOf_1 (by decide) rfl ?_
  refine j_aloadn (pc := 3) C 1 dX11_costOf_3 rfl rfl ?_
  refine gf_X11_67 (c := 0) (pc := 4) C kx_0 dX11_costOf_4 ?_
  refine j_aloadn (pc := 7) C 1 dX11_costOf_7 rfl rfl ?_
  refine gf_X11_19 (c := 0) (pc := 8) C kx_0 dX11_costOf_8 ?_
  refine j_aloadn (pc := 11) C 1 dX11_costOf_11 rfl rfl ?_
  refine gf_X11_55 (c := 0) (pc := 12) C kx_0 dX11_costOf_12 ?_
  refine j_ltn hm (fun e1 hm => ?_)
  refine j_guardN hm (fun he1 hm => ?_)
  obtain ⟨q2, hq2, hm⟩ := Option.bind_eq_some_iff.mp hm
  refine cl_X11_284 (c := 58) (pc := 15) C kx_58 (kX2_sit kx_3 he1 hq2) (by decide) (Nat.le_of_ble_eq_true rfl) dX11_costOf_15 ?_
  refine j_iloadn (pc := 18) C 3 dX11_costOf_18 rfl rfl ?_
  refine j_istore (ls' := [(5, .int x2), (4, .int (0 : Int32)), (0, .ref (vad (gV G) 0)), (1, .int x1), (2, .int x2), (3, .int x3)]) (pc := 19) C dX11_costOf_19 (by decide) rfl ?_
  refine j_ls [2, 3, 5, 1, 0] rfl ?_
  exact lp_X11_costOf_21_ok C F  F _ _ _ _ _ hm

def mX11_costs (F : Nat) (x1 : Int32) (x2 : Int32) (σ : jS) : Option (Int32 × jS) := (Option.bind (mX0_isLiving F 3 x1 σ) fun q1 => (if q1 = 0 then some ((-1 : Int32), σ) else (Option.bind (mX11_isWithin F x2 (0 : Int32) (24 : Int32) σ) fun q2 => (if q2 = 0 then some ((-1 : Int32), σ) else (if x2 = (24 : Int32) then (Option.bind (mX11_costOf F x1 (0 : Int32) (24 : Int32) σ) fun q3 => some (q3.1, q3.2)) else (Option.bind (mX11_costOf F x1 x2 ((x2 + (1 : Int32))) σ) fun q4 => some (q4.1, q4.2)))))))
set_option maxHeartbeats 4000000 in
set_option maxRecDepth 100000 in
theorem kX11_costs {V : jV} {F : Nat} {x1 : Int32} {x2 : Int32} {σ : jS} {v : (Int32 × jS)} (hm : mX11_costs F x1 x2 σ = some v) : Ct cfX 70 V yX11_costs cX11_costs 3 (some .int) 5 [.ref (vad V 0), .int x1, .int x2] σ v := by
  refine j_start (own := RX11) (by decide) rfl (Nat.le_of_ble_eq_true rfl) ?_
  intro G hV C
  subst hV
  unfold mX11_costs at hm
  show JX G 0 [(0, .ref (vad (gV G) 0)), (1, .int x1), (2, .int x2)] [] σ v
  refine j_aloadn (pc := 0) C 0 dX11_costs_0 rfl rfl ?_
  refine gf_X11_19 (c := 0) (pc := 1) C kx_0 dX11_costs_1 ?_
  refine j_iloadn (pc := 4) C 1 dX11_costs_4 rfl rfl ?_
  obtain ⟨q1, hq1, hm⟩ := Option.bind_eq_some_iff.mp hm
  refine cl_X11_179 (c := 3) (pc := 5) C kx_3 (kX0_isLiving kx_3 hq1) (by decide) (Nat.le_of_ble_eq_true rfl) dX11_costs_5 ?_
  refine j_if_eq (tgt := 21) (pc := 8) C dX11_costs_8 (by decide) hm (fun _ hm => ?_) (fun _ hm => ?_)
  · refine j_iconst (v := -1) (pc := 21) C dX11_costs_21 (by decide) ?_
    exact j_iretS (pc := 22) C rfl dX11_costs_22 hm
  · refine j_iloadn (pc := 11) C 2 dX11_costs_11 rfl rfl ?_
    refine j_iconst (v := 0) (pc := 12) C dX11_costs_12 (by decide) ?_
    refine j_bipush (v := 24) (pc := 13) C dX11_costs_13 (by decide) ?_
    obtain ⟨q2, hq2, hm⟩ := Option.bind_eq_some_iff.mp hm
    refine cl_X11_96 (pc := 15) C (kX11_isWithin hq2) (by decide) (Nat.le_of_ble_eq_true rfl) dX11_costs_15 ?_
    refine j_if_ne (tgt := 23) (pc := 18) C dX11_costs_18 (by decide) hm (fun _ hm => ?_) (fun _ hm => ?_)
    · refine j_iconst (v := -1) (pc := 21) C dX11_costs_21 (by decide) ?_
      exact j_iretS (pc := 22) C rfl dX11_costs_22 hm
    · refine j_iloadn (pc := 23) C 2 dX11_costs_23 rfl rfl ?_
      refine j_bipush (v := 24) (pc := 24) C dX11_costs_24 (by decide) ?_
      refine j_icmp_ne (tgt := 40) (pc := 26) C dX11_costs_26 (by decide) hm (fun _ hm => ?_) (fun _ hm => ?_)
      · refine j_aloadn (pc := 29) C 0 dX11_costs_29 rfl rfl ?_
        refine j_iloadn (pc := 30) C 1 dX11_costs_30 rfl rfl ?_
        refine j_iconst (v := 0) (pc := 31) C dX11_costs_31 (by decide) ?_
        refine j_bipush (v := 24) (pc := 32) C dX11_costs_32 (by decide) ?_
        obtain ⟨q3, hq3, hm⟩ := Option.bind_eq_some_iff.mp hm
        refine cl_X11_192 (c := 0) (pc := 34) C kx_0 (kX11_costOf hq3) (by decide) (Nat.le_of_ble_eq_true rfl) dX11_costs_34 ?_
        refine j_goto (tgt := 49) (pc := 37) C dX11_costs_37 (by decide) ?_
        exact j_iretS (pc := 49) C rfl dX11_costs_49 hm
      · refine j_aloadn (pc := 40) C 0 dX11_costs_40 rfl rfl ?_
        refine j_iloadn (pc := 41) C 1 dX11_costs_41 rfl rfl ?_
        refine j_iloadn (pc := 42) C 2 dX11_costs_42 rfl rfl ?_
        refine j_iloadn (pc := 43) C 2 dX11_costs_43 rfl rfl ?_
        refine j_iconst (v := 1) (pc := 44) C dX11_costs_44 (by decide) ?_
        refine j_iadd (pc := 45) C dX11_costs_45 ?_
        obtain ⟨q4, hq4, hm⟩ := Option.bind_eq_some_iff.mp hm
        refine cl_X11_192 (c := 0) (pc := 46) C kx_0 (kX11_costOf hq4) (by decide) (Nat.le_of_ble_eq_true rfl) dX11_costs_46 ?_
        exact j_iretS (pc := 49) C rfl dX11_costs_49 hm

def lp_X11_paidOff_30 (F : Nat) (σ : jS) : Nat → Int32 → Int32 → Int32 → Option Int32
  | 0, _, _, _ => none
  | n + 1, x1, x2, x3 => (if (3650 : Int32) < x3 then some (-2 : Int32) else (if x2 = 0 then some x3 else (Option.bind (mX6_dueNextDay F 6 x1 x2 σ) fun q3 => (lp_X11_paidOff_30 F σ n x1 q3 ((x3 + (1 : Int32)))))))
set_option maxHeartbeats 4000000 in
set_option maxRecDepth 100000 in
theorem lp_X11_paidOff_30_ok {G : jG} (C : jc cfX 70 G cX11_paidOff RX11 4 (some .int) 3) (F : Nat) (σ : jS) {v : Int32} : ∀ (n : Nat) (x1 : Int32) (x2 : Int32) (x3 : Int32), lp_X11_paidOff_30 F σ n x1 x2 x3 = some v → JX G 30 [(0, .ref (vad (gV G) 0)), (1, .int x1), (2, .int x2), (3, .int x3)] [] σ (v, σ) := by
  intro n
  induction n with
  | zero =>
    intro x1 x2 x3 hm
    rw [lp_X11_paidOff_30] at hm
    cases hm
  | succ n ih =>
    intro x1 x2 x3 hm
    rw [lp_X11_paidOff_30] at hm
    refine j_iloadn (pc := 30) C 3 dX11_paidOff_30 rfl rfl ?_
    refine j_sipush (v := 3650) (pc := 31) C dX11_paidOff_31 (by decide) ?_
    refine j_icmp_gt (tgt := 62) (pc := 34) C dX11_paidOff_34 (by decide) hm (fun _ hm => ?_) (fun _ hm => ?_)
    · refine j_bipush (v := -2) (pc := 62) C dX11_paidOff_62 (by decide) ?_
      exact j_iret (pc := 64) C rfl dX11_paidOff_64 hm
    · refine j_iloadn (pc := 37) C 2 dX11_paidOff_37 rfl rfl ?_
      refine j_if_ne (tgt := 43) (pc := 38) C dX11_paidOff_38 (by decide) hm (fun _ hm => ?_) (fun _ hm => ?_)
      · refine j_iloadn (pc := 41) C 3 dX11_paidOff_41 rfl rfl ?_
        exact j_iret (pc := 42) C rfl dX11_paidOff_42 hm
      · refine j_aloadn (pc := 43) C 0 dX11_paidOff_43 rfl rfl ?_
        refine gf_X11_19 (c := 0) (pc := 44) C kx_0 dX11_paidOff_44 ?_
        refine gf_X11_143 (c := 3) (pc := 47) C kx_3 dX11_paidOff_47 ?_
        refine j_iloadn (pc := 50) C 1 dX11_paidOff_50 rfl rfl ?_
        refine j_iloadn (pc := 51) C 2 dX11_paidOff_51 rfl rfl ?_
        obtain ⟨q3, hq3, hm⟩ := Option.bind_eq_some_iff.mp hm
        refine cl_X11_196 (c := 6) (pc := 52) C kx_6 (kX6_dueNextDay kx_6 hq3) (by decide) (Nat.le_of_ble_eq_true rfl) dX11_paidOff_52 ?_
        refine j_istoren (ls' := [(2, .int q3), (0, .ref (vad (gV G) 0)), (1, .int x1), (3, .int x3)]) (pc := 55) C dX11_paidOff_55 rfl (by decide) rfl ?_
        refine j_iinc (v := (x3 + (1 : Int32))) (ls' := [(3, .int (x3 + (1 : Int32))), (2, .int q3), (0, .ref (vad (gV G) 0)), (1, .int x1)]) (pc := 56) C 3 dX11_paidOff_56 rfl rfl (by decide) rfl ?_
        refine j_goto (tgt := 30) (pc := 59) C dX11_paidOff_59 (by decide) ?_
        refine j_ls [2, 3, 1, 0] rfl ?_
        exact ih _ _ _ hm

def mX11_paidOff (F : Nat) (x1 : Int32) (σ : jS) : Option Int32 := (Option.bind (mX6_has F 6 x1 σ) fun q1 => (if q1 = 0 then some (-1 : Int32) else (Option.bind (mX6_dueOf F 6 x1 σ) fun q2 => (lp_X11_paidOff_30 F σ F x1 q2 (0 : Int32)))))
set_option maxHeartbeats 4000000 in
set_option maxRecDepth 100000 in
theorem kX11_paidOff {V : jV} {F : Nat} {x1 : Int32} {σ : jS} {v : Int32} (hm : mX11_paidOff F x1 σ = some v) : Ct cfX 70 V yX11_paidOff cX11_paidOff 4 (some .int) 3 [.ref (vad V 0), .int x1] σ (v, σ) := by
  refine j_start (own := RX11) (by decide) rfl (Nat.le_of_ble_eq_true rfl) ?_
  intro G hV C
  subst hV
  unfold mX11_paidOff at hm
  show JX G 0 [(0, .ref (vad (gV G) 0)), (1, .int x1)] [] σ (v, σ)
  refine j_aloadn (pc := 0) C 0 dX11_paidOff_0 rfl rfl ?_
  refine gf_X11_19 (c := 0) (pc := 1) C kx_0 dX11_paidOff_1 ?_
  refine gf_X11_143 (c := 3) (pc := 4) C kx_3 dX11_paidOff_4 ?_
  refine j_iloadn (pc := 7) C 1 dX11_paidOff_7 rfl rfl ?_
  obtain ⟨q1, hq1, hm⟩ := Option.bind_eq_some_iff.mp hm
  refine cl_X11_162 (c := 6) (pc := 8) C kx_6 (kX6_has kx_6 hq1) (by decide) (Nat.le_of_ble_eq_true rfl) dX11_paidOff_8 ?_
  refine j_if_ne (tgt := 16) (pc := 11) C dX11_paidOff_11 (by decide) hm (fun _ hm => ?_) (fun _ hm => ?_)
  · refine j_iconst (v := -1) (pc := 14) C dX11_paidOff_14 (by decide) ?_
    exact j_iret (pc := 15) C rfl dX11_paidOff_15 hm
  · refine j_aloadn (pc := 16) C 0 dX11_paidOff_16 rfl rfl ?_
    refine gf_X11_19 (c := 0) (pc := 17) C kx_0 dX11_paidOff_17 ?_
    refine gf_X11_143 (c := 3) (pc := 20) C kx_3 dX11_paidOff_20 ?_
    refine j_iloadn (pc := 23) C 1 dX11_paidOff_23 rfl rfl ?_
    obtain ⟨q2, hq2, hm⟩ := Option.bind_eq_some_iff.mp hm
    refine cl_X11_166 (c := 6) (pc := 24) C kx_6 (kX6_dueOf kx_6 hq2) (by decide) (Nat.le_of_ble_eq_true rfl) dX11_paidOff_24 ?_
    refine j_istoren (ls' := [(2, .int q2), (0, .ref (vad (gV G) 0)), (1, .int x1)]) (pc := 27) C dX11_paidOff_27 rfl (by decide) rfl ?_
    refine j_iconst (v := 0) (pc := 28) C dX11_paidOff_28 (by decide) ?_
    refine j_istoren (ls' := [(3, .int (0 : Int32)), (2, .int q2), (0, .ref (vad (gV G) 0)), (1, .int x1)]) (pc := 29) C dX11_paidOff_29 rfl (by decide) rfl ?_
    refine j_ls [2, 3, 1, 0] rfl ?_
    exact lp_X11_paidOff_30_ok C F σ  F _ _ _ hm

def lp_X11_dueAfter_42 (F : Nat) (σ : jS) : Nat → Int32 → Int32 → Int32 → Int32 → Option Int32
  | 0, _, _, _, _ => none
  | n + 1, x1, x2, x3, x4 => (if x4 < x2 then (Option.bind (mX6_dueNextDay F 6 x1 x3 σ) fun q4 => (lp_X11_dueAfter_42 F σ n x1 x2 q4 ((x4 + (1 : Int32))))) else some x3)
set_option maxHeartbeats 4000000 in
set_option maxRecDepth 100000 in
theorem lp_X11_dueAfter_42_ok {G : jG} (C : jc cfX 70 G cX11_dueAfter RX11 5 (some .int) 3) (F : Nat) (σ : jS) {v : Int32} : ∀ (n : Nat) (x1 : Int32) (x2 : Int32) (x3 : Int32) (x4 : Int32), lp_X11_dueAfter_42 F σ n x1 x2 x3 x4 = some v → JX G 42 [(0, .ref (vad (gV G) 0)), (1, .int x1), (2, .int x2), (3, .int x3), (4, .int x4)] [] σ (v, σ) := by
  intro n
  induction n with
  | zero =>
    intro x1 x2 x3 x4 hm
    rw [lp_X11_dueAfter_42] at hm
    cases hm
  | succ n ih =>
    intro x1 x2 x3 x4 hm
    rw [lp_X11_dueAfter_42] at hm
    refine j_iload (pc := 42) C 4 dX11_dueAfter_42 rfl ?_
    refine j_iloadn (pc := 44) C 2 dX11_dueAfter_44 rfl rfl ?_
    refine j_icmp_ge (tgt := 67) (pc := 45) C dX11_dueAfter_45 (by decide) hm (fun _ hm => ?_) (fun _ hm => ?_)
    · refine j_aloadn (pc := 48) C 0 dX11_dueAfter_48 rfl rfl ?_
      refine gf_X11_19 (c := 0) (pc := 49) C kx_0 dX11_dueAfter_49 ?_
      refine gf_X11_143 (c := 3) (pc := 52) C kx_3 dX11_dueAfter_52 ?_
      refine j_iloadn (pc := 55) C 1 dX11_dueAfter_55 rfl rfl ?_
      refine j_iloadn (pc := 56) C 3 dX11_dueAfter_56 rfl rfl ?_
      obtain ⟨q4, hq4, hm⟩ := Option.bind_eq_some_iff.mp hm
      refine cl_X11_196 (c := 6) (pc := 57) C kx_6 (kX6_dueNextDay kx_6 hq4) (by decide) (Nat.le_of_ble_eq_true rfl) dX11_dueAfter_57 ?_
      refine j_istoren (ls' := [(3, .int q4), (0, .ref (vad (gV G) 0)), (1, .int x1), (2, .int x2), (4, .int x4)]) (pc := 60) C dX11_dueAfter_60 rfl (by decide) rfl ?_
      refine j_iinc (v := (x4 + (1 : Int32))) (ls' := [(4, .int (x4 + (1 : Int32))), (3, .int q4), (0, .ref (vad (gV G) 0)), (1, .int x1), (2, .int x2)]) (pc := 61) C 4 dX11_dueAfter_61 rfl rfl (by decide) rfl ?_
      refine j_goto (tgt := 42) (pc := 64) C dX11_dueAfter_64 (by decide) ?_
      refine j_ls [2, 3, 4, 1, 0] rfl ?_
      exact ih _ _ _ _ hm
    · refine j_iloadn (pc := 67) C 3 dX11_dueAfter_67 rfl rfl ?_
      exact j_iret (pc := 68) C rfl dX11_dueAfter_68 hm

def mX11_dueAfter (F : Nat) (x1 : Int32) (x2 : Int32) (σ : jS) : Option Int32 := (Option.bind (mX6_has F 6 x1 σ) fun q1 => (if q1 = 0 then some (-1 : Int32) else (Option.bind (mX11_isWithin F x2 (0 : Int32) (3650 : Int32) σ) fun q2 => (if q2 = 0 then some (-1 : Int32) else (Option.bind (mX6_dueOf F 6 x1 σ) fun q3 => (lp_X11_dueAfter_42 F σ F x1 x2 q3 (0 : Int32)))))))
set_option maxHeartbeats 4000000 in
set_option maxRecDepth 100000 in
theorem kX11_dueAfter {V : jV} {F : Nat} {x1 : Int32} {x2 : Int32} {σ : jS} {v : Int32} (hm : mX11_dueAfter F x1 x2 σ = some v) : Ct cfX 70 V yX11_dueAfter cX11_dueAfter 5 (some .int) 3 [.ref (vad V 0), .int x1, .int x2] σ (v, σ) := by
  refine j_start (own := RX11) (by decide) rfl (Nat.le_of_ble_eq_true rfl) ?_
  intro G hV C
  subst hV
  unfold mX11_dueAfter at hm
  show JX G 0 [(0, .ref (vad (gV G) 0)), (1, .int x1), (2, .int x2)] [] σ (v, σ)
  refine j_aloadn (pc := 0) C 0 dX11_dueAfter_0 rfl rfl ?_
  refine gf_X11_19 (c := 0) (pc := 1) C kx_0 dX11_dueAfter_1 ?_
  refine gf_X11_143 (c := 3) (pc := 4) C kx_3 dX11_dueAfter_4 ?_
  refine j_iloadn (pc := 7) C 1 dX11_dueAfter_7 rfl rfl ?_
  obtain ⟨q1, hq1, hm⟩ := Option.bind_eq_some_iff.mp hm
  refine cl_X11_162 (c := 6) (pc := 8) C kx_6 (kX6_has kx_6 hq1) (by decide) (Nat.le_of_ble_eq_true rfl) dX11_dueAfter_8 ?_
  refine j_if_eq (tgt := 25) (pc := 11) C dX11_dueAfter_11 (by decide) hm (fun _ hm => ?_) (fun _ hm => ?_)
  · refine j_iconst (v := -1) (pc := 25) C dX11_dueAfter_25 (by decide) ?_
    exact j_iret (pc := 26) C rfl dX11_dueAfter_26 hm
  · refine j_iloadn (pc := 14) C 2 dX11_dueAfter_14 rfl rfl ?_
    refine j_iconst (v := 0) (pc := 15) C dX11_dueAfter_15 (by decide) ?_
    refine j_sipush (v := 3650) (pc := 16) C dX11_dueAfter_16 (by decide) ?_
    obtain ⟨q2, hq2, hm⟩ := Option.bind_eq_some_iff.mp hm
    refine cl_X11_96 (pc := 19) C (kX11_isWithin hq2) (by decide) (Nat.le_of_ble_eq_true rfl) dX11_dueAfter_19 ?_
    refine j_if_ne (tgt := 27) (pc := 22) C dX11_dueAfter_22 (by decide) hm (fun _ hm => ?_) (fun _ hm => ?_)
    · refine j_iconst (v := -1) (pc := 25) C dX11_dueAfter_25 (by decide) ?_
      exact j_iret (pc := 26) C rfl dX11_dueAfter_26 hm
    · refine j_aloadn (pc := 27) C 0 dX11_dueAfter_27 rfl rfl ?_
      refine gf_X11_19 (c := 0) (pc := 28) C kx_0 dX11_dueAfter_28 ?_
      refine gf_X11_143 (c := 3) (pc := 31) C kx_3 dX11_dueAfter_31 ?_
      refine j_iloadn (pc := 34) C 1 dX11_dueAfter_34 rfl rfl ?_
      obtain ⟨q3, hq3, hm⟩ := Option.bind_eq_some_iff.mp hm
      refine cl_X11_166 (c := 6) (pc := 35) C kx_6 (kX6_dueOf kx_6 hq3) (by decide) (Nat.le_of_ble_eq_true rfl) dX11_dueAfter_35 ?_
      refine j_istoren (ls' := [(3, .int q3), (0, .ref (vad (gV G) 0)), (1, .int x1), (2, .int x2)]) (pc := 38) C dX11_dueAfter_38 rfl (by decide) rfl ?_
      refine j_iconst (v := 0) (pc := 39) C dX11_dueAfter_39 (by decide) ?_
      refine j_istore (ls' := [(4, .int (0 : Int32)), (3, .int q3), (0, .ref (vad (gV G) 0)), (1, .int x1), (2, .int x2)]) (pc := 40) C dX11_dueAfter_40 (by decide) rfl ?_
      refine j_ls [2, 3, 4, 1, 0] rfl ?_
      exact lp_X11_dueAfter_42_ok C F σ  F _ _ _ _ hm

def lp_X11_hiccups_41 (F : Nat) (σ : jS) : Nat → Int32 → Int32 → Int32 → Int32 → Option Int32
  | 0, _, _, _, _ => none
  | n + 1, x2, x3, x4, x5 => (if x5 < (384 : Int32) then (if x5 < (x4 + (24 : Int32)) then (Option.bind (mX8_joined F x3 ((σ 3 4)) ((irm x5 (24 : Int32))) σ) fun q3 => (if q3 = x3 then (lp_X11_hiccups_41 F σ n x2 x3 x4 ((x5 + (1 : Int32)))) else (lt (x5 + (1 : Int32)) fun y4 => (lp_X11_hiccups_41 F σ n x2 q3 y4 ((x5 + (1 : Int32))))))) else (if x2 = 0 then some x3 else some x4)) else (if x2 = 0 then some x3 else some x4))
set_option maxHeartbeats 4000000 in
set_option maxRecDepth 100000 in
theorem lp_X11_hiccups_41_ok {G : jG} (C : jc cfX 70 G cX11_hiccups RX11 7 (some .int) 2) (F : Nat) (σ : jS) {v : Int32} : ∀ (n : Nat) (x2 : Int32) (x3 : Int32) (x4 : Int32) (x5 : Int32), lp_X11_hiccups_41 F σ n x2 x3 x4 x5 = some v → JX G 41 [(0, .ref (vad (gV G) 0)), (2, .int x2), (3, .int x3), (4, .int x4), (5, .int x5)] [] σ (v, σ) := by
  intro n
  induction n with
  | zero =>
    intro x2 x3 x4 x5 hm
    rw [lp_X11_hiccups_41] at hm
    cases hm
  | succ n ih =>
    intro x2 x3 x4 x5 hm
    rw [lp_X11_hiccups_41] at hm
    refine j_iload (pc := 41) C 4 dX11_hiccups_41 rfl ?_
    refine j_sipush (v := 384) (pc := 43) C dX11_hiccups_43 (by decide) ?_
    refine j_icmp_ge (tgt := 102) (pc := 46) C dX11_hiccups_46 (by decide) hm (fun _ hm => ?_) (fun _ hm => ?_)
    · refine j_iload (pc := 49) C 4 dX11_hiccups_49 rfl ?_
      refine j_iload (pc := 51) C 3 dX11_hiccups_51 rfl ?_
      refine j_bipush (v := 24) (pc := 53) C dX11_hiccups_53 (by decide) ?_
      refine j_iadd (pc := 55) C dX11_hiccups_55 ?_
      refine j_icmp_ge (tgt := 102) (pc := 56) C dX11_hiccups_56 (by decide) hm (fun _ hm => ?_) (fun _ hm => ?_)
      · refine j_aloadn (pc := 59) C 0 dX11_hiccups_59 rfl rfl ?_
        refine gf_X11_34 (c := 0) (pc := 60) C kx_0 dX11_hiccups_60 ?_
        refine j_iloadn (pc := 63) C 2 dX11_hiccups_63 rfl rfl ?_
        refine j_aloadn (pc := 64) C 0 dX11_hiccups_64 rfl rfl ?_
        refine gf_X11_19 (c := 0) (pc := 65) C kx_0 dX11_hiccups_65 ?_
        refine gf_X11_113 (c := 3) (pc := 68) C kx_3 dX11_hiccups_68 ?_
        refine j_iload (pc := 71) C 4 dX11_hiccups_71 rfl ?_
        refine j_bipush (v := 24) (pc := 73) C dX11_hiccups_73 (by decide) ?_
        refine j_iremK (pc := 75) C dX11_hiccups_75 (by decide) ?_
        obtain ⟨q3, hq3, hm⟩ := Option.bind_eq_some_iff.mp hm
        refine cl_X11_199 (c := 33) (pc := 76) C kx_33 (kX8_joined hq3) (by decide) (Nat.le_of_ble_eq_true rfl) dX11_hiccups_76 ?_
        refine j_istore (ls' := [(6, .int q3), (0, .ref (vad (gV G) 0)), (2, .int x2), (3, .int x3), (4, .int x4), (5, .int x5)]) (pc := 79) C dX11_hiccups_79 (by decide) rfl ?_
        refine j_iload (pc := 81) C 0 dX11_hiccups_81 rfl ?_
        refine j_iloadn (pc := 83) C 3 dX11_hiccups_83 rfl rfl ?_
        refine j_icmp_eq (tgt := 96) (pc := 84) C dX11_hiccups_84 (by decide) hm (fun _ hm => ?_) (fun _ hm => ?_)
        · refine j_iinc (v := (x5 + (1 : Int32))) (ls' := [(5, .int (x5 + (1 : Int32))), (6, .int q3), (0, .ref (vad (gV G) 0)), (2, .int x2), (3, .int x3), (4, .int x4)]) (pc := 96) C 5 dX11_hiccups_96 rfl rfl (by decide) rfl ?_
          refine j_goto (tgt := 41) (pc := 99) C dX11_hiccups_99 (by decide) ?_
          refine j_ls [2, 3, 4, 5, 0] rfl ?_
          exact ih _ _ _ _ hm
        · refine j_iload (pc := 87) C 0 dX11_hiccups_87 rfl ?_
          refine j_istoren (ls' := [(3, .int q3), (6, .int q3), (0, .ref (vad (gV G) 0)), (2, .int x2), (4, .int x4), (5, .int x5)]) (pc := 89) C dX11_hiccups_89 rfl (by decide) rfl ?_
          refine j_iload (pc := 90) C 5 dX11_hiccups_90 rfl ?_
          refine j_iconst (v := 1) (pc := 92) C dX11_hiccups_92 (by decide) ?_
          refine j_iadd (pc := 93) C dX11_hiccups_93 ?_
          refine j_lti hm (fun y4 hm => ?_)
          refine j_istore (ls' := [(4, .int y4), (3, .int q3), (6, .int q3), (0, .ref (vad (gV G) 0)), (2, .int x2), (5, .int x5)]) (pc := 94) C dX11_hiccups_94 (by decide) rfl ?_
          refine j_iinc (v := (x5 + (1 : Int32))) (ls' := [(5, .int (x5 + (1 : Int32))), (4, .int y4), (3, .int q3), (6, .int q3), (0, .ref (vad (gV G) 0)), (2, .int x2)]) (pc := 96) C 5 dX11_hiccups_96 rfl rfl (by decide) rfl ?_
          refine j_goto (tgt := 41) (pc := 99) C dX11_hiccups_99 (by decide) ?_
          refine j_ls [4, 5, 2, 1, 0] rfl ?_
          exact ih _ _ _ _ hm
      · refine j_iloadn (pc := 102) C 1 dX11_hiccups_102 rfl rfl ?_
        refine j_if_ne (tgt := 110) (pc := 103) C dX11_hiccups_103 (by decide) hm (fun _ hm => ?_) (fun _ hm => ?_)
        · refine j_iloadn (pc := 106) C 2 dX11_hiccups_106 rfl rfl ?_
          refine j_goto (tgt := 112) (pc := 107) C dX11_hiccups_107 (by decide) ?_
          exact j_iret (pc := 112) C rfl dX11_hiccups_112 hm
        · refine j_iload (pc := 110) C 3 dX11_hiccups_110 rfl ?_
          exact j_iret (pc := 112) C rfl dX11_hiccups_112 hm
    · refine j_iloadn (pc := 102) C 1 dX11_hiccups_102 rfl rfl ?_
      refine j_if_ne (tgt := 110) (pc := 103) C dX11_hiccups_103 (by decide) hm (fun _ hm => ?_) (fun _ hm => ?_)
      · refine j_iloadn (pc := 106) C 2 dX11_hiccups_106 rfl rfl ?_
        refine j_goto (tgt := 112) (pc := 107) C dX11_hiccups_107 (by decide) ?_
        exact j_iret (pc := 112) C rfl dX11_hiccups_112 hm
      · refine j_iload (pc := 110) C 3 dX11_hiccups_110 rfl ?_
        exact j_iret (pc := 112) C rfl dX11_hiccups_112 hm

def mX11_hiccups (F : Nat) (x1 : Int32) (x2 : Int32) (σ : jS) : Option Int32 := (if (x1 &&& ((σ 3 3) ^^^ (-1 : Int32))) = 0 then (Option.bind (mX11_isWithin F x2 (0 : Int32) (1 : Int32) σ) fun q1 => (if q1 = 0 then some (-1 : Int32) else (lt (x1 &&& (σ 3 4)) fun y2 => (lp_X11_hiccups_41 F σ F x2 y2 (0 : Int32) (0 : Int32))))) else some (-1 : Int32))
set_option maxHeartbeats 4000000 in
set_option maxRecDepth 100000 in
theorem kX11_hiccups {V : jV} {F : Nat} {x1 : Int32} {x2 : Int32} {σ : jS} {v : Int32} (hm : mX11_hiccups F x1 x2 σ = some v) : Ct cfX 70 V yX11_hiccups cX11_hiccups 7 (some .int) 2 [.ref (vad V 0), .int x1, .int x2] σ (v, σ) := by
  refine j_start (own := RX11) (by decide) rfl (Nat.le_of_ble_eq_true rfl) ?_
  intro G hV C
  subst hV
  unfold mX11_hiccups at hm
  show JX G 0 [(0, .ref (vad (gV G) 0)), (1, .int x1), (2, .int x2)] [] σ (v, σ)
  refine j_iloadn (pc := 0) C 1 dX11_hiccups_0 rfl rfl ?_
  refine j_aloadn (pc := 1) C 0 dX11_hiccups_1 rfl rfl ?_
  refine gf_X11_19 (c := 0) (pc := 2) C kx_0 dX11_hiccups_2 ?_
  refine gf_X11_109 (c := 3) (pc := 5) C kx_3 dX11_hiccups_5 ?_
  refine j_iconst (v := -1) (pc := 8) C dX11_hiccups_8 (by decide) ?_
  refine j_ixor (pc := 9) C dX11_hiccups_9 ?_
  refine j_iand (pc := 10) C dX11_hiccups_10 ?_
  refine j_if_ne (tgt := 23) (pc := 11) C dX11_hiccups_11 (by decide) hm (fun _ hm => ?_) (fun _ hm => ?_)
  · refine j_iloadn (pc := 14) C 2 dX11_hiccups_14 rfl rfl ?_
    refine j_iconst (v := 0) (pc := 15) C dX11_hiccups_15 (by decide) ?_
    refine j_iconst (v := 1) (pc := 16) C dX11_hiccups_16 (by decide) ?_
    obtain ⟨q1, hq1, hm⟩ := Option.bind_eq_some_iff.mp hm
    refine cl_X11_96 (pc := 17) C (kX11_isWithin hq1) (by decide) (Nat.le_of_ble_eq_true rfl) dX11_hiccups_17 ?_
    refine j_if_ne (tgt := 25) (pc := 20) C dX11_hiccups_20 (by decide) hm (fun _ hm => ?_) (fun _ hm => ?_)
    · refine j_iconst (v := -1) (pc := 23) C dX11_hiccups_23 (by decide) ?_
      exact j_iret (pc := 24) C rfl dX11_hiccups_24 hm
    · refine j_iloadn (pc := 25) C 1 dX11_hiccups_25 rfl rfl ?_
      refine j_aloadn (pc := 26) C 0 dX11_hiccups_26 rfl rfl ?_
      refine gf_X11_19 (c := 0) (pc := 27) C kx_0 dX11_hiccups_27 ?_
      refine gf_X11_113 (c := 3) (pc := 30) C kx_3 dX11_hiccups_30 ?_
      refine j_iand (pc := 33) C dX11_hiccups_33 ?_
      refine j_lti hm (fun y2 hm => ?_)
      refine j_istoren (ls' := [(3, .int y2), (0, .ref (vad (gV G) 0)), (1, .int x1), (2, .int x2)]) (pc := 34) C dX11_hiccups_34 rfl (by decide) rfl ?_
      refine j_iconst (v := 0) (pc := 35) C dX11_hiccups_35 (by decide) ?_
      refine j_istore (ls' := [(4, .int (0 : Int32)), (3, .int y2), (0, .ref (vad (gV G) 0)), (1, .int x1), (2, .int x2)]) (pc := 36) C dX11_hiccups_36 (by decide) rfl ?_
      refine j_iconst (v := 0) (pc := 38) C dX11_hiccups_38 (by decide) ?_
      refine j_istore (ls' := [(5, .int (0 : Int32)), (4, .int (0 : Int32)), (3, .int y2), (0, .ref (vad (gV G) 0)), (1, .int x1), (2, .int x2)]) (pc := 39) C dX11_hiccups_39 (by decide) rfl ?_
      refine j_ls [3, 5, 2, 1, 0] rfl ?_
      exact lp_X11_hiccups_41_ok C F σ  F _ _ _ _ hm
  · refine j_iconst (v := -1) (pc := 23) C dX11_hiccups_23 (by decide) ?_
    exact j_iret (pc := 24) C rfl dX11_hiccups_24 hm

def mX11_daysLeft (F : Nat) (x1 : Int32) (σ : jS) : Option (Int32 × jS) := (Option.bind (mX11_costOf F x1 (0 : Int32) (24 : Int32) σ) fun q1 => (if 0 < q1.1 then (Option.bind (mX0_beatsOf F 3 x1 q1.2) fun q2 => (if q1.1 = 0 then none else some ((q2 / q1.1), q1.2))) else some ((0 : Int32), q1.2)))
set_option maxHeartbeats 4000000 in
set_option maxRecDepth 100000 in
theorem kX11_daysLeft {V : jV} {F : Nat} {x1 : Int32} {σ : jS} {v : (Int32 × jS)} (hm : mX11_daysLeft F x1 σ = some v) : Ct cfX 70 V yX11_daysLeft cX11_daysLeft 3 (some .int) 5 [.ref (vad V 0), .int x1] σ v := by
  refine j_start (own := RX11) (by decide) rfl (Nat.le_of_ble_eq_true rfl) ?_
  intro G hV C
  subst hV
  unfold mX11_daysLeft at hm
  show JX G 0 [(0, .ref (vad (gV G) 0)), (1, .int x1)] [] σ v
  refine j_aloadn (pc := 0) C 0 dX11_daysLeft_0 rfl rfl ?_
  refine j_iloadn (pc := 1) C 1 dX11_daysLeft_1 rfl rfl ?_
  refine j_iconst (v := 0) (pc := 2) C dX11_daysLeft_2 (by decide) ?_
  refine j_bipush (v := 24) (pc := 3) C dX11_daysLeft_3 (by decide) ?_
  obtain ⟨q1, hq1, hm⟩ := Option.bind_eq_some_iff.mp hm
  refine cl_X11_192 (c := 0) (pc := 5) C kx_0 (kX11_costOf hq1) (by decide) (Nat.le_of_ble_eq_true rfl) dX11_daysLeft_5 ?_
  refine j_istoren (ls' := [(2, .int q1.1), (0, .ref (vad (gV G) 0)), (1, .int x1)]) (pc := 8) C dX11_daysLeft_8 rfl (by decide) rfl ?_
  refine j_iloadn (pc := 9) C 0 dX11_daysLeft_9 rfl rfl ?_
  refine j_if_le (tgt := 26) (pc := 10) C dX11_daysLeft_10 (by decide) hm (fun _ hm => ?_) (fun _ hm => ?_)
  · refine j_aloadn (pc := 13) C 1 dX11_daysLeft_13 rfl rfl ?_
    refine gf_X11_19 (c := 0) (pc := 14) C kx_0 dX11_daysLeft_14 ?_
    refine j_iloadn (pc := 17) C 2 dX11_daysLeft_17 rfl rfl ?_
    obtain ⟨q2, hq2, hm⟩ := Option.bind_eq_some_iff.mp hm
    refine cl_X11_169 (c := 3) (pc := 18) C kx_3 (kX0_beatsOf kx_3 hq2) (by decide) (Nat.le_of_ble_eq_true rfl) dX11_daysLeft_18 ?_
    refine j_iloadn (pc := 21) C 0 dX11_daysLeft_21 rfl rfl ?_
    refine j_idiv (pc := 22) C dX11_daysLeft_22 hm (fun hm => ?_)
    refine j_goto (tgt := 27) (pc := 23) C dX11_daysLeft_23 (by decide) ?_
    exact j_iretS (pc := 27) C rfl dX11_daysLeft_27 hm
  · refine j_iconst (v := 0) (pc := 26) C dX11_daysLeft_26 (by decide) ?_
    exact j_iretS (pc := 27) C rfl dX11_daysLeft_27 hm

def mX11_left (F : Nat) (x1 : Int32) (σ : jS) : Option (Int32 × jS) := (Option.bind (mX0_isLiving F 3 x1 σ) fun q1 => (if q1 = 0 then some ((-1 : Int32), σ) else (Option.bind (mX11_daysLeft F x1 σ) fun q2 => some (q2.1, q2.2))))
set_option maxHeartbeats 4000000 in
set_option maxRecDepth 100000 in
theorem kX11_left {V : jV} {F : Nat} {x1 : Int32} {σ : jS} {v : (Int32 × jS)} (hm : mX11_left F x1 σ = some v) : Ct cfX 70 V yX11_left cX11_left 2 (some .int) 6 [.ref (vad V 0), .int x1] σ v := by
  refine j_start (own := RX11) (by decide) rfl (Nat.le_of_ble_eq_true rfl) ?_
  intro G hV C
  subst hV
  unfold mX11_left at hm
  show JX G 0 [(0, .ref (vad (gV G) 0)), (1, .int x1)] [] σ v
  refine j_aloadn (pc := 0) C 0 dX11_left_0 rfl rfl ?_
  refine gf_X11_19 (c := 0) (pc := 1) C kx_0 dX11_left_1 ?_
  refine j_iloadn (pc := 4) C 1 dX11_left_4 rfl rfl ?_
  obtain ⟨q1, hq1, hm⟩ := Option.bind_eq_some_iff.mp hm
  refine cl_X11_179 (c := 3) (pc := 5) C kx_3 (kX0_isLiving kx_3 hq1) (by decide) (Nat.le_of_ble_eq_true rfl) dX11_left_5 ?_
  refine j_if_eq (tgt := 19) (pc := 8) C dX11_left_8 (by decide) hm (fun _ hm => ?_) (fun _ hm => ?_)
  · refine j_iconst (v := -1) (pc := 19) C dX11_left_19 (by decide) ?_
    exact j_iretS (pc := 20) C rfl dX11_left_20 hm
  · refine j_aloadn (pc := 11) C 0 dX11_left_11 rfl rfl ?_
    refine j_iloadn (pc := 12) C 1 dX11_left_12 rfl rfl ?_
    obtain ⟨q2, hq2, hm⟩ := Option.bind_eq_some_iff.mp hm
    refine cl_X11_202 (c := 0) (pc := 13) C kx_0 (kX11_daysLeft hq2) (by decide) (Nat.le_of_ble_eq_true rfl) dX11_left_13 ?_
    refine j_goto (tgt := 20) (pc := 16) C dX11_left_16 (by decide) ?_
    exact j_iretS (pc := 20) C rfl dX11_left_20 hm

def lp_X11_longest_7 (F : Nat) : Nat → Int32 → Int32 → Int32 → jS → Option (Int32 × jS)
  | 0, _, _, _, _ => none
  | n + 1, x1, x2, x3, σ => (if x3 < (16 : Int32) then (Option.bind (mX0_isLiving F 3 x3 σ) fun q1 => (if q1 = 0 then (lp_X11_longest_7 F n x1 x2 ((x3 + (1 : Int32))) σ) else (Option.bind (mX11_daysLeft F x3 σ) fun q2 => (if x2 < q2.1 then (lp_X11_longest_7 F n x3 q2.1 ((x3 + (1 : Int32))) q2.2) else (lp_X11_longest_7 F n x1 x2 ((x3 + (1 : Int32))) q2.2))))) else some (x1, σ))
set_option maxHeartbeats 4000000 in
set_option maxRecDepth 100000 in
theorem lp_X11_longest_7_ok {G : jG} (C : jc cfX 70 G cX11_longest RX11 5 (some .int) 6) (F : Nat) {v : (Int32 × jS)} : ∀ (n : Nat) (x1 : Int32) (x2 : Int32) (x3 : Int32) (σ : jS), lp_X11_longest_7 F n x1 x2 x3 σ = some v → JX G 7 [(0, .ref (vad (gV G) 0)), (1, .int x1), (2, .int x2), (3, .int x3)] [] σ v := by
  intro n
  induction n with
  | zero =>
    intro x1 x2 x3 σ hm
    rw [lp_X11_longest_7] at hm
    cases hm
  | succ n ih =>
    intro x1 x2 x3 σ hm
    rw [lp_X11_longest_7] at hm
    refine j_iloadn (pc := 7) C 3 dX11_longest_7 rfl rfl ?_
    refine j_bipush (v := 16) (pc := 8) C dX11_longest_8 (by decide) ?_
    refine j_icmp_ge (tgt := 48) (pc := 10) C dX11_longest_10 (by decide) hm (fun _ hm => ?_) (fun _ hm => ?_)
    · refine j_aloadn (pc := 13) C 0 dX11_longest_13 rfl rfl ?_
      refine gf_X11_19 (c := 0) (pc := 14) C kx_0 dX11_longest_14 ?_
      refine j_iloadn (pc := 17) C 3 dX11_longest_17 rfl rfl ?_
      obtain ⟨q1, hq1, hm⟩ := Option.bind_eq_some_iff.mp hm
      refine cl_X11_179 (c := 3) (pc := 18) C kx_3 (kX0_isLiving kx_3 hq1) (by decide) (Nat.le_of_ble_eq_true rfl) dX11_longest_18 ?_
      refine j_if_eq (tgt := 42) (pc := 21) C dX11_longest_21 (by decide) hm (fun _ hm => ?_) (fun _ hm => ?_)
      · refine j_iinc (v := (x3 + (1 : Int32))) (ls' := [(3, .int (x3 + (1 : Int32))), (0, .ref (vad (gV G) 0)), (1, .int x1), (2, .int x2)]) (pc := 42) C 3 dX11_longest_42 rfl rfl (by decide) rfl ?_
        refine j_goto (tgt := 7) (pc := 45) C dX11_longest_45 (by decide) ?_
        refine j_ls [1, 2, 3, 0] rfl ?_
        exact ih _ _ _ _ hm
      · refine j_aloadn (pc := 24) C 0 dX11_longest_24 rfl rfl ?_
        refine j_iloadn (pc := 25) C 3 dX11_longest_25 rfl rfl ?_
        obtain ⟨q2, hq2, hm⟩ := Option.bind_eq_some_iff.mp hm
        refine cl_X11_202 (c := 0) (pc := 26) C kx_0 (kX11_daysLeft hq2) (by decide) (Nat.le_of_ble_eq_true rfl) dX11_longest_26 ?_
        refine j_istore (ls' := [(4, .int q2.1), (0, .ref (vad (gV G) 0)), (1, .int x1), (2, .int x2), (3, .int x3)]) (pc := 29) C dX11_longest_29 (by decide) rfl ?_
        refine j_iload (pc := 31) C 0 dX11_longest_31 rfl ?_
        refine j_iloadn (pc := 33) C 3 dX11_longest_33 rfl rfl ?_
        refine j_icmp_le (tgt := 42) (pc := 34) C dX11_longest_34 (by decide) hm (fun _ hm => ?_) (fun _ hm => ?_)
        · refine j_iload (pc := 37) C 0 dX11_longest_37 rfl ?_
          refine j_istoren (ls' := [(2, .int q2.1), (4, .int q2.1), (0, .ref (vad (gV G) 0)), (1, .int x1), (3, .int x3)]) (pc := 39) C dX11_longest_39 rfl (by decide) rfl ?_
          refine j_iloadn (pc := 40) C 4 dX11_longest_40 rfl rfl ?_
          refine j_istoren (ls' := [(1, .int x3), (2, .int q2.1), (4, .int q2.1), (0, .ref (vad (gV G) 0)), (3, .int x3)]) (pc := 41) C dX11_longest_41 rfl (by decide) rfl ?_
          refine j_iinc (v := (x3 + (1 : Int32))) (ls' := [(3, .int (x3 + (1 : Int32))), (1, .int x3), (2, .int q2.1), (4, .int q2.1), (0, .ref (vad (gV G) 0))]) (pc := 42) C 4 dX11_longest_42 rfl rfl (by decide) rfl ?_
          refine j_goto (tgt := 7) (pc := 45) C dX11_longest_45 (by decide) ?_
          refine j_ls [4, 1, 2, 0] rfl ?_
          exact ih _ _ _ _ hm
        · refine j_iinc (v := (x3 + (1 : Int32))) (ls' := [(3, .int (x3 + (1 : Int32))), (4, .int q2.1), (0, .ref (vad (gV G) 0)), (1, .int x1), (2, .int x2)]) (pc := 42) C 4 dX11_longest_42 rfl rfl (by decide) rfl ?_
          refine j_goto (tgt := 7) (pc := 45) C dX11_longest_45 (by decide) ?_
          refine j_ls [2, 3, 4, 0] rfl ?_
          exact ih _ _ _ _ hm
    · refine j_iloadn (pc := 48) C 1 dX11_longest_48 rfl rfl ?_
      exact j_iretS (pc := 49) C rfl dX11_longest_49 hm

def mX11_longest (F : Nat) (σ : jS) : Option (Int32 × jS) := (lp_X11_longest_7 F F (-2 : Int32) (-1 : Int32) (0 : Int32) σ)
set_option maxHeartbeats 4000000 in
set_option maxRecDepth 100000 in
theorem kX11_longest {V : jV} {F : Nat} {σ : jS} {v : (Int32 × jS)} (hm : mX11_longest F σ = some v) : Ct cfX 70 V yX11_longest cX11_longest 5 (some .int) 6 [.ref (vad V 0)] σ v := by
  refine j_start (own := RX11) (by decide) rfl (Nat.le_of_ble_eq_true rfl) ?_
  intro G hV C
  subst hV
  unfold mX11_longest at hm
  show JX G 0 [(0, .ref (vad (gV G) 0))] [] σ v
  refine j_bipush (v := -2) (pc := 0) C dX11_longest_0 (by decide) ?_
  refine j_istoren (ls' := [(1, .int (-2 : Int32)), (0, .ref (vad (gV G) 0))]) (pc := 2) C dX11_longest_2 rfl (by decide) rfl ?_
  refine j_iconst (v := -1) (pc := 3) C dX11_longest_3 (by decide) ?_
  refine j_istoren (ls' := [(2, .int (-1 : Int32)), (1, .int (-2 : Int32)), (0, .ref (vad (gV G) 0))]) (pc := 4) C dX11_longest_4 rfl (by decide) rfl ?_
  refine j_iconst (v := 0) (pc := 5) C dX11_longest_5 (by decide) ?_
  refine j_istoren (ls' := [(3, .int (0 : Int32)), (2, .int (-1 : Int32)), (1, .int (-2 : Int32)), (0, .ref (vad (gV G) 0))]) (pc := 6) C dX11_longest_6 rfl (by decide) rfl ?_
  refine j_ls [3, 2, 1, 0] rfl ?_
  exact lp_X11_longest_7_ok C F  F _ _ _ _ hm

def lp_X11_costOfAll_4 (F : Nat) : Nat → Int32 → Int32 → Int32 → jS → Option (Int32 × jS)
  | 0, _, _, _, _ => none
  | n + 1, x1, x2, x3, σ => (if x3 < (16 : Int32) then (Option.bind (mX0_isLiving F 3 x3 σ) fun q1 => (if q1 = 0 then (lp_X11_costOfAll_4 F n x1 x2 ((x3 + (1 : Int32))) σ) else (Option.bind (mX11_costOf F x3 x1 ((x1 + (1 : Int32))) σ) fun q2 => (lt (x2 + q2.1) fun y3 => (lp_X11_costOfAll_4 F n x1 y3 ((x3 + (1 : Int32))) q2.2))))) else some (x2, σ))
set_option maxHeartbeats 4000000 in
set_option maxRecDepth 100000 in
theorem lp_X11_costOfAll_4_ok {G : jG} (C : jc cfX 70 G cX11_costOfAll RX11 4 (some .int) 5) (F : Nat) {v : (Int32 × jS)} : ∀ (n : Nat) (x1 : Int32) (x2 : Int32) (x3 : Int32) (σ : jS), lp_X11_costOfAll_4 F n x1 x2 x3 σ = some v → JX G 4 [(0, .ref (vad (gV G) 0)), (1, .int x1), (2, .int x2), (3, .int x3)] [] σ v := by
  intro n
  induction n with
  | zero =>
    intro x1 x2 x3 σ hm
    rw [lp_X11_costOfAll_4] at hm
    cases hm
  | succ n ih =>
    intro x1 x2 x3 σ hm
    rw [lp_X11_costOfAll_4] at hm
    refine j_iloadn (pc := 4) C 3 dX11_costOfAll_4 rfl rfl ?_
    refine j_bipush (v := 16) (pc := 5) C dX11_costOfAll_5 (by decide) ?_
    refine j_icmp_ge (tgt := 39) (pc := 7) C dX11_costOfAll_7 (by decide) hm (fun _ hm => ?_) (fun _ hm => ?_)
    · refine j_aloadn (pc := 10) C 0 dX11_costOfAll_10 rfl rfl ?_
      refine gf_X11_19 (c := 0) (pc := 11) C kx_0 dX11_costOfAll_11 ?_
      refine j_iloadn (pc := 14) C 3 dX11_costOfAll_14 rfl rfl ?_
      obtain ⟨q1, hq1, hm⟩ := Option.bind_eq_some_iff.mp hm
      refine cl_X11_179 (c := 3) (pc := 15) C kx_3 (kX0_isLiving kx_3 hq1) (by decide) (Nat.le_of_ble_eq_true rfl) dX11_costOfAll_15 ?_
      refine j_if_eq (tgt := 33) (pc := 18) C dX11_costOfAll_18 (by decide) hm (fun _ hm => ?_) (fun _ hm => ?_)
      · refine j_iinc (v := (x3 + (1 : Int32))) (ls' := [(3, .int (x3 + (1 : Int32))), (0, .ref (vad (gV G) 0)), (1, .int x1), (2, .int x2)]) (pc := 33) C 3 dX11_costOfAll_33 rfl rfl (by decide) rfl ?_
        refine j_goto (tgt := 4) (pc := 36) C dX11_costOfAll_36 (by decide) ?_
        refine j_ls [1, 2, 3, 0] rfl ?_
        exact ih _ _ _ _ hm
      · refine j_iloadn (pc := 21) C 2 dX11_costOfAll_21 rfl rfl ?_
        refine j_aloadn (pc := 22) C 0 dX11_costOfAll_22 rfl rfl ?_
        refine j_iloadn (pc := 23) C 3 dX11_costOfAll_23 rfl rfl ?_
        refine j_iloadn (pc := 24) C 1 dX11_costOfAll_24 rfl rfl ?_
        refine j_iloadn (pc := 25) C 1 dX11_costOfAll_25 rfl rfl ?_
        refine j_iconst (v := 1) (pc := 26) C dX11_costOfAll_26 (by decide) ?_
        refine j_iadd (pc := 27) C dX11_costOfAll_27 ?_
        obtain ⟨q2, hq2, hm⟩ := Option.bind_eq_some_iff.mp hm
        refine cl_X11_192 (c := 0) (pc := 28) C kx_0 (kX11_costOf hq2) (by decide) (Nat.le_of_ble_eq_true rfl) dX11_costOfAll_28 ?_
        refine j_iadd (pc := 31) C dX11_costOfAll_31 ?_
        refine j_lti hm (fun y3 hm => ?_)
        refine j_istoren (ls' := [(2, .int y3), (0, .ref (vad (gV G) 0)), (1, .int x1), (3, .int x3)]) (pc := 32) C dX11_costOfAll_32 rfl (by decide) rfl ?_
        refine j_iinc (v := (x3 + (1 : Int32))) (ls' := [(3, .int (x3 + (1 : Int32))), (2, .int y3), (0, .ref (vad (gV G) 0)), (1, .int x1)]) (pc := 33) C 3 dX11_costOfAll_33 rfl rfl (by decide) rfl ?_
        refine j_goto (tgt := 4) (pc := 36) C dX11_costOfAll_36 (by decide) ?_
        refine j_ls [2, 3, 1, 0] rfl ?_
        exact ih _ _ _ _ hm
    · refine j_iloadn (pc := 39) C 2 dX11_costOfAll_39 rfl rfl ?_
      exact j_iretS (pc := 40) C rfl dX11_costOfAll_40 hm

def mX11_costOfAll (F : Nat) (x1 : Int32) (σ : jS) : Option (Int32 × jS) := (lp_X11_costOfAll_4 F F x1 (0 : Int32) (0 : Int32) σ)
set_option maxHeartbeats 4000000 in
set_option maxRecDepth 100000 in
theorem kX11_costOfAll {V : jV} {F : Nat} {x1 : Int32} {σ : jS} {v : (Int32 × jS)} (hm : mX11_costOfAll F x1 σ = some v) : Ct cfX 70 V yX11_costOfAll cX11_costOfAll 4 (some .int) 5 [.ref (vad V 0), .int x1] σ v := by
  refine j_start (own := RX11) (by decide) rfl (Nat.le_of_ble_eq_true rfl) ?_
  intro G hV C
  subst hV
  unfold mX11_costOfAll at hm
  show JX G 0 [(0, .ref (vad (gV G) 0)), (1, .int x1)] [] σ v
  refine j_iconst (v := 0) (pc := 0) C dX11_costOfAll_0 (by decide) ?_
  refine j_istoren (ls' := [(2, .int (0 : Int32)), (0, .ref (vad (gV G) 0)), (1, .int x1)]) (pc := 1) C dX11_costOfAll_1 rfl (by decide) rfl ?_
  refine j_iconst (v := 0) (pc := 2) C dX11_costOfAll_2 (by decide) ?_
  refine j_istoren (ls' := [(3, .int (0 : Int32)), (2, .int (0 : Int32)), (0, .ref (vad (gV G) 0)), (1, .int x1)]) (pc := 3) C dX11_costOfAll_3 rfl (by decide) rfl ?_
  refine j_ls [2, 3, 1, 0] rfl ?_
  exact lp_X11_costOfAll_4_ok C F  F _ _ _ _ hm

def lp_X11_stillest_22 (F : Nat) : Nat → Int32 → Int32 → Int32 → Int32 → jS → Option (Int32 × jS)
  | 0, _, _, _, _, _ => none
  | n + 1, x1, x2, x3, x4, σ => (if x4 < (24 : Int32) then (Option.bind (mX11_costOfAll F x4 σ) fun q3 => (if q3.1 < x3 then (lp_X11_stillest_22 F n x1 x4 q3.1 ((x4 + (1 : Int32))) q3.2) else (lp_X11_stillest_22 F n x1 x2 x3 ((x4 + (1 : Int32))) q3.2))) else (if x1 = 0 then some (x2, σ) else some (x3, σ)))
set_option maxHeartbeats 4000000 in
set_option maxRecDepth 100000 in
theorem lp_X11_stillest_22_ok {G : jG} (C : jc cfX 70 G cX11_stillest RX11 6 (some .int) 6) (F : Nat) {v : (Int32 × jS)} : ∀ (n : Nat) (x1 : Int32) (x2 : Int32) (x3 : Int32) (x4 : Int32) (σ : jS), lp_X11_stillest_22 F n x1 x2 x3 x4 σ = some v → JX G 22 [(0, .ref (vad (gV G) 0)), (1, .int x1), (2, .int x2), (3, .int x3), (4, .int x4)] [] σ v := by
  intro n
  induction n with
  | zero =>
    intro x1 x2 x3 x4 σ hm
    rw [lp_X11_stillest_22] at hm
    cases hm
  | succ n ih =>
    intro x1 x2 x3 x4 σ hm
    rw [lp_X11_stillest_22] at hm
    refine j_iload (pc := 22) C 4 dX11_stillest_22 rfl ?_
    refine j_bipush (v := 24) (pc := 24) C dX11_stillest_24 (by decide) ?_
    refine j_icmp_ge (tgt := 55) (pc := 26) C dX11_stillest_26 (by decide) hm (fun _ hm => ?_) (fun _ hm => ?_)
    · refine j_aloadn (pc := 29) C 0 dX11_stillest_29 rfl rfl ?_
      refine j_iload (pc := 30) C 4 dX11_stillest_30 rfl ?_
      obtain ⟨q3, hq3, hm⟩ := Option.bind_eq_some_iff.mp hm
      refine cl_X11_205 (c := 0) (pc := 32) C kx_0 (kX11_costOfAll hq3) (by decide) (Nat.le_of_ble_eq_true rfl) dX11_stillest_32 ?_
      refine j_istore (ls' := [(5, .int q3.1), (0, .ref (vad (gV G) 0)), (1, .int x1), (2, .int x2), (3, .int x3), (4, .int x4)]) (pc := 35) C dX11_stillest_35 (by decide) rfl ?_
      refine j_iload (pc := 37) C 0 dX11_stillest_37 rfl ?_
      refine j_iloadn (pc := 39) C 4 dX11_stillest_39 rfl rfl ?_
      refine j_icmp_ge (tgt := 49) (pc := 40) C dX11_stillest_40 (by decide) hm (fun _ hm => ?_) (fun _ hm => ?_)
      · refine j_iload (pc := 43) C 0 dX11_stillest_43 rfl ?_
        refine j_istoren (ls' := [(3, .int q3.1), (5, .int q3.1), (0, .ref (vad (gV G) 0)), (1, .int x1), (2, .int x2), (4, .int x4)]) (pc := 45) C dX11_stillest_45 rfl (by decide) rfl ?_
        refine j_iload (pc := 46) C 5 dX11_stillest_46 rfl ?_
        refine j_istoren (ls' := [(2, .int x4), (3, .int q3.1), (5, .int q3.1), (0, .ref (vad (gV G) 0)), (1, .int x1), (4, .int x4)]) (pc := 48) C dX11_stillest_48 rfl (by decide) rfl ?_
        refine j_iinc (v := (x4 + (1 : Int32))) (ls' := [(4, .int (x4 + (1 : Int32))), (2, .int x4), (3, .int q3.1), (5, .int q3.1), (0, .ref (vad (gV G) 0)), (1, .int x1)]) (pc := 49) C 5 dX11_stillest_49 rfl rfl (by decide) rfl ?_
        refine j_goto (tgt := 22) (pc := 52) C dX11_stillest_52 (by decide) ?_
        refine j_ls [4, 5, 1, 2, 0] rfl ?_
        exact ih _ _ _ _ _ hm
      · refine j_iinc (v := (x4 + (1 : Int32))) (ls' := [(4, .int (x4 + (1 : Int32))), (5, .int q3.1), (0, .ref (vad (gV G) 0)), (1, .int x1), (2, .int x2), (3, .int x3)]) (pc := 49) C 5 dX11_stillest_49 rfl rfl (by decide) rfl ?_
        refine j_goto (tgt := 22) (pc := 52) C dX11_stillest_52 (by decide) ?_
        refine j_ls [2, 3, 4, 5, 0] rfl ?_
        exact ih _ _ _ _ _ hm
    · refine j_iloadn (pc := 55) C 1 dX11_stillest_55 rfl rfl ?_
      refine j_if_ne (tgt := 63) (pc := 56) C dX11_stillest_56 (by decide) hm (fun _ hm => ?_) (fun _ hm => ?_)
      · refine j_iloadn (pc := 59) C 2 dX11_stillest_59 rfl rfl ?_
        refine j_goto (tgt := 64) (pc := 60) C dX11_stillest_60 (by decide) ?_
        exact j_iretS (pc := 64) C rfl dX11_stillest_64 hm
      · refine j_iloadn (pc := 63) C 3 dX11_stillest_63 rfl rfl ?_
        exact j_iretS (pc := 64) C rfl dX11_stillest_64 hm

def mX11_stillest (F : Nat) (x1 : Int32) (σ : jS) : Option (Int32 × jS) := (Option.bind (mX11_isWithin F x1 (0 : Int32) (1 : Int32) σ) fun q1 => (if q1 = 0 then some ((-1 : Int32), σ) else (Option.bind (mX11_costOfAll F (0 : Int32) σ) fun q2 => (lp_X11_stillest_22 F F x1 (0 : Int32) q2.1 (1 : Int32) q2.2))))
set_option maxHeartbeats 4000000 in
set_option maxRecDepth 100000 in
theorem kX11_stillest {V : jV} {F : Nat} {x1 : Int32} {σ : jS} {v : (Int32 × jS)} (hm : mX11_stillest F x1 σ = some v) : Ct cfX 70 V yX11_stillest cX11_stillest 6 (some .int) 6 [.ref (vad V 0), .int x1] σ v := by
  refine j_start (own := RX11) (by decide) rfl (Nat.le_of_ble_eq_true rfl) ?_
  intro G hV C
  subst hV
  unfold mX11_stillest at hm
  show JX G 0 [(0, .ref (vad (gV G) 0)), (1, .int x1)] [] σ v
  refine j_iloadn (pc := 0) C 1 dX11_stillest_0 rfl rfl ?_
  refine j_iconst (v := 0) (pc := 1) C dX11_stillest_1 (by decide) ?_
  refine j_iconst (v := 1) (pc := 2) C dX11_stillest_2 (by decide) ?_
  obtain ⟨q1, hq1, hm⟩ := Option.bind_eq_some_iff.mp hm
  refine cl_X11_96 (pc := 3) C (kX11_isWithin hq1) (by decide) (Nat.le_of_ble_eq_true rfl) dX11_stillest_3 ?_
  refine j_if_ne (tgt := 11) (pc := 6) C dX11_stillest_6 (by decide) hm (fun _ hm => ?_) (fun _ hm => ?_)
  · refine j_iconst (v := -1) (pc := 9) C dX11_stillest_9 (by decide) ?_
    exact j_iretS (pc := 10) C rfl dX11_stillest_10 hm
  · refine j_iconst (v := 0) (pc := 11) C dX11_stillest_11 (by decide) ?_
    refine j_istoren (ls' := [(2, .int (0 : Int32)), (0, .ref (vad (gV G) 0)), (1, .int x1)]) (pc := 12) C dX11_stillest_12 rfl (by decide) rfl ?_
    refine j_aloadn (pc := 13) C 1 dX11_stillest_13 rfl rfl ?_
    refine j_iconst (v := 0) (pc := 14) C dX11_stillest_14 (by decide) ?_
    obtain ⟨q2, hq2, hm⟩ := Option.bind_eq_some_iff.mp hm
    refine cl_X11_205 (c := 0) (pc := 15) C kx_0 (kX11_costOfAll hq2) (by decide) (Nat.le_of_ble_eq_true rfl) dX11_stillest_15 ?_
    refine j_istoren (ls' := [(3, .int q2.1), (2, .int (0 : Int32)), (0, .ref (vad (gV G) 0)), (1, .int x1)]) (pc := 18) C dX11_stillest_18 rfl (by decide) rfl ?_
    refine j_iconst (v := 1) (pc := 19) C dX11_stillest_19 (by decide) ?_
    refine j_istore (ls' := [(4, .int (1 : Int32)), (3, .int q2.1), (2, .int (0 : Int32)), (0, .ref (vad (gV G) 0)), (1, .int x1)]) (pc := 20) C dX11_stillest_20 (by decide) rfl ?_
    refine j_ls [3, 4, 2, 1, 0] rfl ?_
    exact lp_X11_stillest_22_ok C F  F _ _ _ _ _ hm

def lp_X11_alike_63 (F : Nat) (σ : jS) : Nat → Int32 → Int32 → Int32 → Int32 → Int32 → Int32 → Option Int32
  | 0, _, _, _, _, _, _ => none
  | n + 1, x1, x2, x3, x4, x5, x6 => (if x6 < (24 : Int32) then (Option.bind (mX8_sameHours F x1 x2 x6 σ) fun q5 => (if x4 < q5 then (lp_X11_alike_63 F σ n x1 x2 x3 q5 x6 ((x6 + (1 : Int32)))) else (lp_X11_alike_63 F σ n x1 x2 x3 x4 x5 ((x6 + (1 : Int32)))))) else (if x3 = (1 : Int32) then some x5 else some x4))
set_option maxHeartbeats 4000000 in
set_option maxRecDepth 100000 in
theorem lp_X11_alike_63_ok {G : jG} (C : jc cfX 70 G cX11_alike RX11 8 (some .int) 2) (F : Nat) (σ : jS) {v : Int32} : ∀ (n : Nat) (x1 : Int32) (x2 : Int32) (x3 : Int32) (x4 : Int32) (x5 : Int32) (x6 : Int32), lp_X11_alike_63 F σ n x1 x2 x3 x4 x5 x6 = some v → JX G 63 [(0, .ref (vad (gV G) 0)), (1, .int x1), (2, .int x2), (3, .int x3), (4, .int x4), (5, .int x5), (6, .int x6)] [] σ (v, σ) := by
  intro n
  induction n with
  | zero =>
    intro x1 x2 x3 x4 x5 x6 hm
    rw [lp_X11_alike_63] at hm
    cases hm
  | succ n ih =>
    intro x1 x2 x3 x4 x5 x6 hm
    rw [lp_X11_alike_63] at hm
    refine j_iload (pc := 63) C 6 dX11_alike_63 rfl ?_
    refine j_bipush (v := 24) (pc := 65) C dX11_alike_65 (by decide) ?_
    refine j_icmp_ge (tgt := 104) (pc := 67) C dX11_alike_67 (by decide) hm (fun _ hm => ?_) (fun _ hm => ?_)
    · refine j_aloadn (pc := 70) C 0 dX11_alike_70 rfl rfl ?_
      refine gf_X11_34 (c := 0) (pc := 71) C kx_0 dX11_alike_71 ?_
      refine j_iloadn (pc := 74) C 1 dX11_alike_74 rfl rfl ?_
      refine j_iloadn (pc := 75) C 2 dX11_alike_75 rfl rfl ?_
      refine j_iload (pc := 76) C 6 dX11_alike_76 rfl ?_
      obtain ⟨q5, hq5, hm⟩ := Option.bind_eq_some_iff.mp hm
      refine cl_X11_208 (c := 33) (pc := 78) C kx_33 (kX8_sameHours hq5) (by decide) (Nat.le_of_ble_eq_true rfl) dX11_alike_78 ?_
      refine j_istore (ls' := [(7, .int q5), (0, .ref (vad (gV G) 0)), (1, .int x1), (2, .int x2), (3, .int x3), (4, .int x4), (5, .int x5), (6, .int x6)]) (pc := 81) C dX11_alike_81 (by decide) rfl ?_
      refine j_iload (pc := 83) C 0 dX11_alike_83 rfl ?_
      refine j_iload (pc := 85) C 5 dX11_alike_85 rfl ?_
      refine j_icmp_le (tgt := 98) (pc := 87) C dX11_alike_87 (by decide) hm (fun _ hm => ?_) (fun _ hm => ?_)
      · refine j_iload (pc := 90) C 0 dX11_alike_90 rfl ?_
        refine j_istore (ls' := [(4, .int q5), (7, .int q5), (0, .ref (vad (gV G) 0)), (1, .int x1), (2, .int x2), (3, .int x3), (5, .int x5), (6, .int x6)]) (pc := 92) C dX11_alike_92 (by decide) rfl ?_
        refine j_iload (pc := 94) C 7 dX11_alike_94 rfl ?_
        refine j_istore (ls' := [(5, .int x6), (4, .int q5), (7, .int q5), (0, .ref (vad (gV G) 0)), (1, .int x1), (2, .int x2), (3, .int x3), (6, .int x6)]) (pc := 96) C dX11_alike_96 (by decide) rfl ?_
        refine j_iinc (v := (x6 + (1 : Int32))) (ls' := [(6, .int (x6 + (1 : Int32))), (5, .int x6), (4, .int q5), (7, .int q5), (0, .ref (vad (gV G) 0)), (1, .int x1), (2, .int x2), (3, .int x3)]) (pc := 98) C 7 dX11_alike_98 rfl rfl (by decide) rfl ?_
        refine j_goto (tgt := 63) (pc := 101) C dX11_alike_101 (by decide) ?_
        refine j_ls [4, 5, 6, 7, 2, 1, 0] rfl ?_
        exact ih _ _ _ _ _ _ hm
      · refine j_iinc (v := (x6 + (1 : Int32))) (ls' := [(6, .int (x6 + (1 : Int32))), (7, .int q5), (0, .ref (vad (gV G) 0)), (1, .int x1), (2, .int x2), (3, .int x3), (4, .int x4), (5, .int x5)]) (pc := 98) C 7 dX11_alike_98 rfl rfl (by decide) rfl ?_
        refine j_goto (tgt := 63) (pc := 101) C dX11_alike_101 (by decide) ?_
        refine j_ls [2, 3, 4, 5, 6, 7, 0] rfl ?_
        exact ih _ _ _ _ _ _ hm
    · refine j_iloadn (pc := 104) C 3 dX11_alike_104 rfl rfl ?_
      refine j_iconst (v := 1) (pc := 105) C dX11_alike_105 (by decide) ?_
      refine j_icmp_ne (tgt := 114) (pc := 106) C dX11_alike_106 (by decide) hm (fun _ hm => ?_) (fun _ hm => ?_)
      · refine j_iload (pc := 109) C 5 dX11_alike_109 rfl ?_
        refine j_goto (tgt := 116) (pc := 111) C dX11_alike_111 (by decide) ?_
        exact j_iret (pc := 116) C rfl dX11_alike_116 hm
      · refine j_iload (pc := 114) C 4 dX11_alike_114 rfl ?_
        exact j_iret (pc := 116) C rfl dX11_alike_116 hm

def mX11_alike (F : Nat) (x1 : Int32) (x2 : Int32) (x3 : Int32) (σ : jS) : Option Int32 := (Option.bind (mX0_isTold F 3 x1 σ) fun q1 => (if q1 = 0 then some (-1 : Int32) else (Option.bind (mX0_isTold F 3 x2 σ) fun q2 => (if q2 = 0 then some (-1 : Int32) else (if x1 = x2 then some (-1 : Int32) else (Option.bind (mX11_isWithin F x3 (0 : Int32) (2 : Int32) σ) fun q3 => (if q3 = 0 then some (-1 : Int32) else (Option.bind (mX8_sameHours F x1 x2 (0 : Int32) σ) fun q4 => (if x3 = 0 then some q4 else (lp_X11_alike_63 F σ F x1 x2 x3 q4 (0 : Int32) (1 : Int32)))))))))))
set_option maxHeartbeats 4000000 in
set_option maxRecDepth 100000 in
theorem kX11_alike {V : jV} {F : Nat} {x1 : Int32} {x2 : Int32} {x3 : Int32} {σ : jS} {v : Int32} (hm : mX11_alike F x1 x2 x3 σ = some v) : Ct cfX 70 V yX11_alike cX11_alike 8 (some .int) 2 [.ref (vad V 0), .int x1, .int x2, .int x3] σ (v, σ) := by
  refine j_start (own := RX11) (by decide) rfl (Nat.le_of_ble_eq_true rfl) ?_
  intro G hV C
  subst hV
  unfold mX11_alike at hm
  show JX G 0 [(0, .ref (vad (gV G) 0)), (1, .int x1), (2, .int x2), (3, .int x3)] [] σ (v, σ)
  refine j_aloadn (pc := 0) C 0 dX11_alike_0 rfl rfl ?_
  refine gf_X11_19 (c := 0) (pc := 1) C kx_0 dX11_alike_1 ?_
  refine j_iloadn (pc := 4) C 1 dX11_alike_4 rfl rfl ?_
  obtain ⟨q1, hq1, hm⟩ := Option.bind_eq_some_iff.mp hm
  refine cl_X11_159 (c := 3) (pc := 5) C kx_3 (kX0_isTold kx_3 hq1) (by decide) (Nat.le_of_ble_eq_true rfl) dX11_alike_5 ?_
  refine j_if_eq (tgt := 36) (pc := 8) C dX11_alike_8 (by decide) hm (fun _ hm => ?_) (fun _ hm => ?_)
  · refine j_iconst (v := -1) (pc := 36) C dX11_alike_36 (by decide) ?_
    exact j_iret (pc := 37) C rfl dX11_alike_37 hm
  · refine j_aloadn (pc := 11) C 0 dX11_alike_11 rfl rfl ?_
    refine gf_X11_19 (c := 0) (pc := 12) C kx_0 dX11_alike_12 ?_
    refine j_iloadn (pc := 15) C 2 dX11_alike_15 rfl rfl ?_
    obtain ⟨q2, hq2, hm⟩ := Option.bind_eq_some_iff.mp hm
    refine cl_X11_159 (c := 3) (pc := 16) C kx_3 (kX0_isTold kx_3 hq2) (by decide) (Nat.le_of_ble_eq_true rfl) dX11_alike_16 ?_
    refine j_if_eq (tgt := 36) (pc := 19) C dX11_alike_19 (by decide) hm (fun _ hm => ?_) (fun _ hm => ?_)
    · refine j_iconst (v := -1) (pc := 36) C dX11_alike_36 (by decide) ?_
      exact j_iret (pc := 37) C rfl dX11_alike_37 hm
    · refine j_iloadn (pc := 22) C 1 dX11_alike_22 rfl rfl ?_
      refine j_iloadn (pc := 23) C 2 dX11_alike_23 rfl rfl ?_
      refine j_icmp_eq (tgt := 36) (pc := 24) C dX11_alike_24 (by decide) hm (fun _ hm => ?_) (fun _ hm => ?_)
      · refine j_iconst (v := -1) (pc := 36) C dX11_alike_36 (by decide) ?_
        exact j_iret (pc := 37) C rfl dX11_alike_37 hm
      · refine j_iloadn (pc := 27) C 3 dX11_alike_27 rfl rfl ?_
        refine j_iconst (v := 0) (pc := 28) C dX11_alike_28 (by decide) ?_
        refine j_iconst (v := 2) (pc := 29) C dX11_alike_29 (by decide) ?_
        obtain ⟨q3, hq3, hm⟩ := Option.bind_eq_some_iff.mp hm
        refine cl_X11_96 (pc := 30) C (kX11_isWithin hq3) (by decide) (Nat.le_of_ble_eq_true rfl) dX11_alike_30 ?_
        refine j_if_ne (tgt := 38) (pc := 33) C dX11_alike_33 (by decide) hm (fun _ hm => ?_) (fun _ hm => ?_)
        · refine j_iconst (v := -1) (pc := 36) C dX11_alike_36 (by decide) ?_
          exact j_iret (pc := 37) C rfl dX11_alike_37 hm
        · refine j_aloadn (pc := 38) C 0 dX11_alike_38 rfl rfl ?_
          refine gf_X11_34 (c := 0) (pc := 39) C kx_0 dX11_alike_39 ?_
          refine j_iloadn (pc := 42) C 1 dX11_alike_42 rfl rfl ?_
          refine j_iloadn (pc := 43) C 2 dX11_alike_43 rfl rfl ?_
          refine j_iconst (v := 0) (pc := 44) C dX11_alike_44 (by decide) ?_
          obtain ⟨q4, hq4, hm⟩ := Option.bind_eq_some_iff.mp hm
          refine cl_X11_208 (c := 33) (pc := 45) C kx_33 (kX8_sameHours hq4) (by decide) (Nat.le_of_ble_eq_true rfl) dX11_alike_45 ?_
          refine j_istore (ls' := [(4, .int q4), (0, .ref (vad (gV G) 0)), (1, .int x1), (2, .int x2), (3, .int x3)]) (pc := 48) C dX11_alike_48 (by decide) rfl ?_
          refine j_iloadn (pc := 50) C 4 dX11_alike_50 rfl rfl ?_
          refine j_if_ne (tgt := 57) (pc := 51) C dX11_alike_51 (by decide) hm (fun _ hm => ?_) (fun _ hm => ?_)
          · refine j_iload (pc := 54) C 0 dX11_alike_54 rfl ?_
            exact j_iret (pc := 56) C rfl dX11_alike_56 hm
          · refine j_iconst (v := 0) (pc := 57) C dX11_alike_57 (by decide) ?_
            refine j_istore (ls' := [(5, .int (0 : Int32)), (4, .int q4), (0, .ref (vad (gV G) 0)), (1, .int x1), (2, .int x2), (3, .int x3)]) (pc := 58) C dX11_alike_58 (by decide) rfl ?_
            refine j_iconst (v := 1) (pc := 60) C dX11_alike_60 (by decide) ?_
            refine j_istore (ls' := [(6, .int (1 : Int32)), (5, .int (0 : Int32)), (4, .int q4), (0, .ref (vad (gV G) 0)), (1, .int x1), (2, .int x2), (3, .int x3)]) (pc := 61) C dX11_alike_61 (by decide) rfl ?_
            refine j_ls [3, 4, 5, 6, 2, 1, 0] rfl ?_
            exact lp_X11_alike_63_ok C F σ  F _ _ _ _ _ _ hm

def mX11_rings (F : Nat) (x1 : Int32) (σ : jS) : Option (Int32 × jS) := (Option.bind (mX11_isWithin F x1 (0 : Int32) (1 : Int32) σ) fun q1 => (if q1 = 0 then some ((-1 : Int32), σ) else (Option.bind (mX7_search F 6 σ) fun q2 => (if (q2 60 2) = 0 then some ((-2 : Int32), q2) else (if x1 = 0 then some ((q2 60 1), q2) else some ((q2 60 2), q2))))))
set_option maxHeartbeats 4000000 in
set_option maxRecDepth 100000 in
theorem kX11_rings {V : jV} {F : Nat} {x1 : Int32} {σ : jS} {v : (Int32 × jS)} (hm : mX11_rings F x1 σ = some v) : Ct cfX 70 V yX11_rings cX11_rings 2 (some .int) 23 [.ref (vad V 0), .int x1] σ v := by
  refine j_start (own := RX11) (by decide) rfl (Nat.le_of_ble_eq_true rfl) ?_
  intro G hV C
  subst hV
  unfold mX11_rings at hm
  show JX G 0 [(0, .ref (vad (gV G) 0)), (1, .int x1)] [] σ v
  refine j_iloadn (pc := 0) C 1 dX11_rings_0 rfl rfl ?_
  refine j_iconst (v := 0) (pc := 1) C dX11_rings_1 (by decide) ?_
  refine j_iconst (v := 1) (pc := 2) C dX11_rings_2 (by decide) ?_
  obtain ⟨q1, hq1, hm⟩ := Option.bind_eq_some_iff.mp hm
  refine cl_X11_96 (pc := 3) C (kX11_isWithin hq1) (by decide) (Nat.le_of_ble_eq_true rfl) dX11_rings_3 ?_
  refine j_if_ne (tgt := 11) (pc := 6) C dX11_rings_6 (by decide) hm (fun _ hm => ?_) (fun _ hm => ?_)
  · refine j_iconst (v := -1) (pc := 9) C dX11_rings_9 (by decide) ?_
    exact j_iretS (pc := 10) C rfl dX11_rings_10 hm
  · refine j_aloadn (pc := 11) C 0 dX11_rings_11 rfl rfl ?_
    refine gf_X11_74 (c := 0) (pc := 12) C kx_0 dX11_rings_12 ?_
    refine j_aloadn (pc := 15) C 0 dX11_rings_15 rfl rfl ?_
    refine gf_X11_19 (c := 0) (pc := 16) C kx_0 dX11_rings_16 ?_
    refine gf_X11_143 (c := 3) (pc := 19) C kx_3 dX11_rings_19 ?_
    obtain ⟨q2, hq2, hm⟩ := Option.bind_eq_some_iff.mp hm
    refine cl_X11_211 (c := 60) (pc := 22) C kx_60 (kX7_search kx_6 hq2) (by decide) (Nat.le_of_ble_eq_true rfl) dX11_rings_22 ?_
    refine j_aloadn (pc := 25) C 0 dX11_rings_25 rfl rfl ?_
    refine gf_X11_74 (c := 0) (pc := 26) C kx_0 dX11_rings_26 ?_
    refine gf_X11_214 (c := 60) (pc := 29) C kx_60 dX11_rings_29 ?_
    refine j_if_ne (tgt := 38) (pc := 32) C dX11_rings_32 (by decide) hm (fun _ hm => ?_) (fun _ hm => ?_)
    · refine j_bipush (v := -2) (pc := 35) C dX11_rings_35 (by decide) ?_
      exact j_iretS (pc := 37) C rfl dX11_rings_37 hm
    · refine j_iloadn (pc := 38) C 1 dX11_rings_38 rfl rfl ?_
      refine j_if_ne (tgt := 52) (pc := 39) C dX11_rings_39 (by decide) hm (fun _ hm => ?_) (fun _ hm => ?_)
      · refine j_aloadn (pc := 42) C 0 dX11_rings_42 rfl rfl ?_
        refine gf_X11_74 (c := 0) (pc := 43) C kx_0 dX11_rings_43 ?_
        refine gf_X11_217 (c := 60) (pc := 46) C kx_60 dX11_rings_46 ?_
        refine j_goto (tgt := 59) (pc := 49) C dX11_rings_49 (by decide) ?_
        exact j_iretS (pc := 59) C rfl dX11_rings_59 hm
      · refine j_aloadn (pc := 52) C 0 dX11_rings_52 rfl rfl ?_
        refine gf_X11_74 (c := 0) (pc := 53) C kx_0 dX11_rings_53 ?_
        refine gf_X11_214 (c := 60) (pc := 56) C kx_60 dX11_rings_56 ?_
        exact j_iretS (pc := 59) C rfl dX11_rings_59 hm

def mX11_settled (F : Nat) (x1 : Int32) (x2 : Int32) (σ : jS) : Option (Int32 × jS) := (Option.bind (mX11_isWithin F x1 (2 : Int32) (8 : Int32) σ) fun q1 => (if q1 = 0 then some ((-1 : Int32), σ) else (Option.bind (mX11_isWithin F x2 (0 : Int32) (1 : Int32) σ) fun q2 => (if q2 = 0 then some ((-1 : Int32), σ) else (Option.bind (mX10_has F (((2 : Int32) * x1)) σ) fun q3 => (if q3 = 0 then some ((-1 : Int32), σ) else (Option.bind (mX10_open F (((2 : Int32) * x1)) σ) fun q4 => (if x2 = 0 then (Option.bind (mX9_payments F x1 q4) fun q5 => some (q5.1, q5.2)) else (Option.bind (mX9_paidInAll F x1 q4) fun q6 => some (q6, q4))))))))))
set_option maxHeartbeats 4000000 in
set_option maxRecDepth 100000 in
theorem kX11_settled {V : jV} {F : Nat} {x1 : Int32} {x2 : Int32} {σ : jS} {v : (Int32 × jS)} (hm : mX11_settled F x1 x2 σ = some v) : Ct cfX 70 V yX11_settled cX11_settled 3 (some .int) 5 [.ref (vad V 0), .int x1, .int x2] σ v := by
  refine j_start (own := RX11) (by decide) rfl (Nat.le_of_ble_eq_true rfl) ?_
  intro G hV C
  subst hV
  unfold mX11_settled at hm
  show JX G 0 [(0, .ref (vad (gV G) 0)), (1, .int x1), (2, .int x2)] [] σ v
  refine j_iloadn (pc := 0) C 1 dX11_settled_0 rfl rfl ?_
  refine j_iconst (v := 2) (pc := 1) C dX11_settled_1 (by decide) ?_
  refine j_bipush (v := 8) (pc := 2) C dX11_settled_2 (by decide) ?_
  obtain ⟨q1, hq1, hm⟩ := Option.bind_eq_some_iff.mp hm
  refine cl_X11_96 (pc := 4) C (kX11_isWithin hq1) (by decide) (Nat.le_of_ble_eq_true rfl) dX11_settled_4 ?_
  refine j_if_eq (tgt := 32) (pc := 7) C dX11_settled_7 (by decide) hm (fun _ hm => ?_) (fun _ hm => ?_)
  · refine j_iconst (v := -1) (pc := 32) C dX11_settled_32 (by decide) ?_
    exact j_iretS (pc := 33) C rfl dX11_settled_33 hm
  · refine j_iloadn (pc := 10) C 2 dX11_settled_10 rfl rfl ?_
    refine j_iconst (v := 0) (pc := 11) C dX11_settled_11 (by decide) ?_
    refine j_iconst (v := 1) (pc := 12) C dX11_settled_12 (by decide) ?_
    obtain ⟨q2, hq2, hm⟩ := Option.bind_eq_some_iff.mp hm
    refine cl_X11_96 (pc := 13) C (kX11_isWithin hq2) (by decide) (Nat.le_of_ble_eq_true rfl) dX11_settled_13 ?_
    refine j_if_eq (tgt := 32) (pc := 16) C dX11_settled_16 (by decide) hm (fun _ hm => ?_) (fun _ hm => ?_)
    · refine j_iconst (v := -1) (pc := 32) C dX11_settled_32 (by decide) ?_
      exact j_iretS (pc := 33) C rfl dX11_settled_33 hm
    · refine j_aloadn (pc := 19) C 0 dX11_settled_19 rfl rfl ?_
      refine gf_X11_10 (c := 0) (pc := 20) C kx_0 dX11_settled_20 ?_
      refine j_iconst (v := 2) (pc := 23) C dX11_settled_23 (by decide) ?_
      refine j_iloadn (pc := 24) C 1 dX11_settled_24 rfl rfl ?_
      refine j_imul (pc := 25) C dX11_settled_25 ?_
      obtain ⟨q3, hq3, hm⟩ := Option.bind_eq_some_iff.mp hm
      refine cl_X11_123 (c := 1) (pc := 26) C kx_1 (kX10_has hq3) (by decide) (Nat.le_of_ble_eq_true rfl) dX11_settled_26 ?_
      refine j_if_ne (tgt := 34) (pc := 29) C dX11_settled_29 (by decide) hm (fun _ hm => ?_) (fun _ hm => ?_)
      · refine j_iconst (v := -1) (pc := 32) C dX11_settled_32 (by decide) ?_
        exact j_iretS (pc := 33) C rfl dX11_settled_33 hm
      · refine j_aloadn (pc := 34) C 0 dX11_settled_34 rfl rfl ?_
        refine gf_X11_10 (c := 0) (pc := 35) C kx_0 dX11_settled_35 ?_
        refine j_iconst (v := 2) (pc := 38) C dX11_settled_38 (by decide) ?_
        refine j_iloadn (pc := 39) C 1 dX11_settled_39 rfl rfl ?_
        refine j_imul (pc := 40) C dX11_settled_40 ?_
        obtain ⟨q4, hq4, hm⟩ := Option.bind_eq_some_iff.mp hm
        refine cl_X11_127 (c := 1) (pc := 41) C kx_1 (kX10_open hq4) (by decide) (Nat.le_of_ble_eq_true rfl) dX11_settled_41 ?_
        refine j_iloadn (pc := 44) C 2 dX11_settled_44 rfl rfl ?_
        refine j_if_ne (tgt := 59) (pc := 45) C dX11_settled_45 (by decide) hm (fun _ hm => ?_) (fun _ hm => ?_)
        · refine j_aloadn (pc := 48) C 0 dX11_settled_48 rfl rfl ?_
          refine gf_X11_88 (c := 0) (pc := 49) C kx_0 dX11_settled_49 ?_
          refine j_iloadn (pc := 52) C 1 dX11_settled_52 rfl rfl ?_
          obtain ⟨q5, hq5, hm⟩ := Option.bind_eq_some_iff.mp hm
          refine cl_X11_220 (c := 67) (pc := 53) C kx_67 (kX9_payments hq5) (by decide) (Nat.le_of_ble_eq_true rfl) dX11_settled_53 ?_
          refine j_goto (tgt := 67) (pc := 56) C dX11_settled_56 (by decide) ?_
          exact j_iretS (pc := 67) C rfl dX11_settled_67 hm
        · refine j_aloadn (pc := 59) C 0 dX11_settled_59 rfl rfl ?_
          refine gf_X11_88 (c := 0) (pc := 60) C kx_0 dX11_settled_60 ?_
          refine j_iloadn (pc := 63) C 1 dX11_settled_63 rfl rfl ?_
          obtain ⟨q6, hq6, hm⟩ := Option.bind_eq_some_iff.mp hm
          refine cl_X11_223 (c := 67) (pc := 64) C kx_67 (kX9_paidInAll hq6) (by decide) (Nat.le_of_ble_eq_true rfl) dX11_settled_64 ?_
          exact j_iretS (pc := 67) C rfl dX11_settled_67 hm

def jn_X11_joy_22 (F : Nat) (x1 : Int32) (x2 : Int32) (x3 : Int32) (s0 : Int32) (σ : jS) : Option (Int32 × jS) := (Option.bind (mX11_isWithin F x1 (1 : Int32) (5 : Int32) σ) fun q1 => (if q1 = 0 then some ((-1 : Int32), σ) else (Option.bind (mX11_isWithin F x2 (0 : Int32) (6120 : Int32) σ) fun q2 => (if q2 = 0 then some ((-1 : Int32), σ) else (if s0 = 0 then some ((-1 : Int32), σ) else (Option.bind (mX10_has F (((2 : Int32) * x1)) σ) fun q3 => (if q3 = 0 then some ((-1 : Int32), σ) else (Option.bind (mX10_open F (((2 : Int32) * x1)) σ) fun q4 => (Option.bind (mX1_seek F x1 x2 q4) fun q5 => (if (q5 62 5) < 0 then some ((-2 : Int32), q5) else (if x3 = (100 : Int32) then some ((q5 62 5), q5) else (Option.bind (mX1_hoursOf F x3 q5) fun q6 => some (q6, q5)))))))))))))
set_option maxHeartbeats 4000000 in
set_option maxRecDepth 100000 in
theorem jn_X11_joy_22_ok {G : jG} (C : jc cfX 70 G cX11_joy RX11 5 (some .int) 12) (F : Nat) {v : (Int32 × jS)} : ∀ (x1 : Int32) (x2 : Int32) (x3 : Int32) (s0 : Int32) (σ : jS), jn_X11_joy_22 F x1 x2 x3 s0 σ = some v → JX G 22 [(0, .ref (vad (gV G) 0)), (1, .int x1), (2, .int x2), (3, .int x3)] [.int s0] σ v := by
  intro x1 x2 x3 s0 σ hm
  unfold jn_X11_joy_22 at hm
  refine j_istore (ls' := [(4, .int s0), (0, .ref (vad (gV G) 0)), (1, .int x1), (2, .int x2), (3, .int x3)]) (pc := 22) C dX11_joy_22 (by decide) rfl ?_
  refine j_iloadn (pc := 24) C 2 dX11_joy_24 rfl rfl ?_
  refine j_iconst (v := 1) (pc := 25) C dX11_joy_25 (by decide) ?_
  refine j_iconst (v := 5) (pc := 26) C dX11_joy_26 (by decide) ?_
  obtain ⟨q1, hq1, hm⟩ := Option.bind_eq_some_iff.mp hm
  refine cl_X11_96 (pc := 27) C (kX11_isWithin hq1) (by decide) (Nat.le_of_ble_eq_true rfl) dX11_joy_27 ?_
  refine j_if_eq (tgt := 62) (pc := 30) C dX11_joy_30 (by decide) hm (fun _ hm => ?_) (fun _ hm => ?_)
  · refine j_iconst (v := -1) (pc := 62) C dX11_joy_62 (by decide) ?_
    exact j_iretS (pc := 63) C rfl dX11_joy_63 hm
  · refine j_iloadn (pc := 33) C 3 dX11_joy_33 rfl rfl ?_
    refine j_iconst (v := 0) (pc := 34) C dX11_joy_34 (by decide) ?_
    refine j_sipush (v := 6120) (pc := 35) C dX11_joy_35 (by decide) ?_
    obtain ⟨q2, hq2, hm⟩ := Option.bind_eq_some_iff.mp hm
    refine cl_X11_96 (pc := 38) C (kX11_isWithin hq2) (by decide) (Nat.le_of_ble_eq_true rfl) dX11_joy_38 ?_
    refine j_if_eq (tgt := 62) (pc := 41) C dX11_joy_41 (by decide) hm (fun _ hm => ?_) (fun _ hm => ?_)
    · refine j_iconst (v := -1) (pc := 62) C dX11_joy_62 (by decide) ?_
      exact j_iretS (pc := 63) C rfl dX11_joy_63 hm
    · refine j_iload (pc := 44) C 0 dX11_joy_44 rfl ?_
      refine j_if_eq (tgt := 62) (pc := 46) C dX11_joy_46 (by decide) hm (fun _ hm => ?_) (fun _ hm => ?_)
      · refine j_iconst (v := -1) (pc := 62) C dX11_joy_62 (by decide) ?_
        exact j_iretS (pc := 63) C rfl dX11_joy_63 hm
      · refine j_aloadn (pc := 49) C 1 dX11_joy_49 rfl rfl ?_
        refine gf_X11_10 (c := 0) (pc := 50) C kx_0 dX11_joy_50 ?_
        refine j_iconst (v := 2) (pc := 53) C dX11_joy_53 (by decide) ?_
        refine j_iloadn (pc := 54) C 2 dX11_joy_54 rfl rfl ?_
        refine j_imul (pc := 55) C dX11_joy_55 ?_
        obtain ⟨q3, hq3, hm⟩ := Option.bind_eq_some_iff.mp hm
        refine cl_X11_123 (c := 1) (pc := 56) C kx_1 (kX10_has hq3) (by decide) (Nat.le_of_ble_eq_true rfl) dX11_joy_56 ?_
        refine j_if_ne (tgt := 64) (pc := 59) C dX11_joy_59 (by decide) hm (fun _ hm => ?_) (fun _ hm => ?_)
        · refine j_iconst (v := -1) (pc := 62) C dX11_joy_62 (by decide) ?_
          exact j_iretS (pc := 63) C rfl dX11_joy_63 hm
        · refine j_aloadn (pc := 64) C 1 dX11_joy_64 rfl rfl ?_
          refine gf_X11_10 (c := 0) (pc := 65) C kx_0 dX11_joy_65 ?_
          refine j_iconst (v := 2) (pc := 68) C dX11_joy_68 (by decide) ?_
          refine j_iloadn (pc := 69) C 2 dX11_joy_69 rfl rfl ?_
          refine j_imul (pc := 70) C dX11_joy_70 ?_
          obtain ⟨q4, hq4, hm⟩ := Option.bind_eq_some_iff.mp hm
          refine cl_X11_127 (c := 1) (pc := 71) C kx_1 (kX10_open hq4) (by decide) (Nat.le_of_ble_eq_true rfl) dX11_joy_71 ?_
          refine j_aloadn (pc := 74) C 1 dX11_joy_74 rfl rfl ?_
          refine gf_X11_81 (c := 0) (pc := 75) C kx_0 dX11_joy_75 ?_
          refine j_aloadn (pc := 78) C 1 dX11_joy_78 rfl rfl ?_
          refine gf_X11_10 (c := 0) (pc := 79) C kx_0 dX11_joy_79 ?_
          refine j_iloadn (pc := 82) C 2 dX11_joy_82 rfl rfl ?_
          refine j_iloadn (pc := 83) C 3 dX11_joy_83 rfl rfl ?_
          obtain ⟨q5, hq5, hm⟩ := Option.bind_eq_some_iff.mp hm
          refine cl_X11_226 (c := 62) (pc := 84) C kx_62 (kX1_seek hq5) (by decide) (Nat.le_of_ble_eq_true rfl) dX11_joy_84 ?_
          refine j_aloadn (pc := 87) C 1 dX11_joy_87 rfl rfl ?_
          refine gf_X11_81 (c := 0) (pc := 88) C kx_0 dX11_joy_88 ?_
          refine gf_X11_230 (c := 62) (pc := 91) C kx_62 dX11_joy_91 ?_
          refine j_if_ge (tgt := 100) (pc := 94) C dX11_joy_94 (by decide) hm (fun _ hm => ?_) (fun _ hm => ?_)
          · refine j_bipush (v := -2) (pc := 97) C dX11_joy_97 (by decide) ?_
            exact j_iretS (pc := 99) C rfl dX11_joy_99 hm
          · refine j_iloadn (pc := 100) C 4 dX11_joy_100 rfl rfl ?_
            refine j_bipush (v := 100) (pc := 101) C dX11_joy_101 (by decide) ?_
            refine j_icmp_ne (tgt := 116) (pc := 103) C dX11_joy_103 (by decide) hm (fun _ hm => ?_) (fun _ hm => ?_)
            · refine j_aloadn (pc := 106) C 1 dX11_joy_106 rfl rfl ?_
              refine gf_X11_81 (c := 0) (pc := 107) C kx_0 dX11_joy_107 ?_
              refine gf_X11_230 (c := 62) (pc := 110) C kx_62 dX11_joy_110 ?_
              refine j_goto (tgt := 124) (pc := 113) C dX11_joy_113 (by decide) ?_
              exact j_iretS (pc := 124) C rfl dX11_joy_124 hm
            · refine j_aloadn (pc := 116) C 1 dX11_joy_116 rfl rfl ?_
              refine gf_X11_81 (c := 0) (pc := 117) C kx_0 dX11_joy_117 ?_
              refine j_iloadn (pc := 120) C 4 dX11_joy_120 rfl rfl ?_
              obtain ⟨q6, hq6, hm⟩ := Option.bind_eq_some_iff.mp hm
              refine cl_X11_233 (c := 62) (pc := 121) C kx_62 (kX1_hoursOf hq6) (by decide) (Nat.le_of_ble_eq_true rfl) dX11_joy_121 ?_
              exact j_iretS (pc := 124) C rfl dX11_joy_124 hm

def jn_X11_joy_17 (F : Nat) (x1 : Int32) (x2 : Int32) (x3 : Int32) (σ : jS) : Option (Int32 × jS) := (jn_X11_joy_22 F x1 x2 x3 (1 : Int32) σ)
set_option maxHeartbeats 4000000 in
set_option maxRecDepth 100000 in
theorem jn_X11_joy_17_ok {G : jG} (C : jc cfX 70 G cX11_joy RX11 5 (some .int) 12) (F : Nat) {v : (Int32 × jS)} : ∀ (x1 : Int32) (x2 : Int32) (x3 : Int32) (σ : jS), jn_X11_joy_17 F x1 x2 x3 σ = some v → JX G 17 [(0, .ref (vad (gV G) 0)), (1, .int x1), (2, .int x2), (3, .int x3)] [] σ v := by
  intro x1 x2 x3 σ hm
  unfold jn_X11_joy_17 at hm
  refine j_iconst (v := 1) (pc := 17) C dX11_joy_17 (by decide) ?_
  refine j_goto (tgt := 22) (pc := 18) C dX11_joy_18 (by decide) ?_
  exact jn_X11_joy_22_ok C F  _ _ _ _ _ hm

def mX11_joy (F : Nat) (x1 : Int32) (x2 : Int32) (x3 : Int32) (σ : jS) : Option (Int32 × jS) := (if x3 = (100 : Int32) then (jn_X11_joy_17 F x1 x2 x3 σ) else (Option.bind (mX11_isWithin F x3 (0 : Int32) ((x1 - (1 : Int32))) σ) fun q7 => (if q7 = 0 then (jn_X11_joy_22 F x1 x2 x3 (0 : Int32) σ) else (jn_X11_joy_17 F x1 x2 x3 σ))))
set_option maxHeartbeats 4000000 in
set_option maxRecDepth 100000 in
theorem kX11_joy {V : jV} {F : Nat} {x1 : Int32} {x2 : Int32} {x3 : Int32} {σ : jS} {v : (Int32 × jS)} (hm : mX11_joy F x1 x2 x3 σ = some v) : Ct cfX 70 V yX11_joy cX11_joy 5 (some .int) 12 [.ref (vad V 0), .int x1, .int x2, .int x3] σ v := by
  refine j_start (own := RX11) (by decide) rfl (Nat.le_of_ble_eq_true rfl) ?_
  intro G hV C
  subst hV
  unfold mX11_joy at hm
  show JX G 0 [(0, .ref (vad (gV G) 0)), (1, .int x1), (2, .int x2), (3, .int x3)] [] σ v
  refine j_iloadn (pc := 0) C 3 dX11_joy_0 rfl rfl ?_
  refine j_bipush (v := 100) (pc := 1) C dX11_joy_1 (by decide) ?_
  refine j_icmp_eq (tgt := 17) (pc := 3) C dX11_joy_3 (by decide) hm (fun _ hm => ?_) (fun _ hm => ?_)
  · exact jn_X11_joy_17_ok C F  _ _ _ _ hm
  · refine j_iloadn (pc := 6) C 3 dX11_joy_6 rfl rfl ?_
    refine j_iconst (v := 0) (pc := 7) C dX11_joy_7 (by decide) ?_
    refine j_iloadn (pc := 8) C 1 dX11_joy_8 rfl rfl ?_
    refine j_iconst (v := 1) (pc := 9) C dX11_joy_9 (by decide) ?_
    refine j_isub (pc := 10) C dX11_joy_10 ?_
    obtain ⟨q7, hq7, hm⟩ := Option.bind_eq_some_iff.mp hm
    refine cl_X11_96 (pc := 11) C (kX11_isWithin hq7) (by decide) (Nat.le_of_ble_eq_true rfl) dX11_joy_11 ?_
    refine j_if_eq (tgt := 21) (pc := 14) C dX11_joy_14 (by decide) hm (fun _ hm => ?_) (fun _ hm => ?_)
    · refine j_iconst (v := 0) (pc := 21) C dX11_joy_21 (by decide) ?_
      exact jn_X11_joy_22_ok C F  _ _ _ _ _ hm
    · exact jn_X11_joy_17_ok C F  _ _ _ _ hm

def mX11_run (F : Nat) (x1 : Int32) (x2 : Int32) (σ : jS) : Option (Int32 × jS) := (Option.bind (mX11_isWithin F x1 (2 : Int32) (16 : Int32) σ) fun q1 => (if q1 = 0 then some ((-1 : Int32), σ) else (Option.bind (mX11_isWithin F x2 (0 : Int32) (1 : Int32) σ) fun q2 => (if q2 = 0 then some ((-1 : Int32), σ) else (Option.bind (mX10_has F x1 σ) fun q3 => (if q3 = 0 then some ((-1 : Int32), σ) else (Option.bind (mX10_open F x1 σ) fun q4 => (Option.bind (mX9_bankRun F x1 x2 q4) fun q5 => some (q5, q4)))))))))
set_option maxHeartbeats 4000000 in
set_option maxRecDepth 100000 in
theorem kX11_run {V : jV} {F : Nat} {x1 : Int32} {x2 : Int32} {σ : jS} {v : (Int32 × jS)} (hm : mX11_run F x1 x2 σ = some v) : Ct cfX 70 V yX11_run cX11_run 3 (some .int) 2 [.ref (vad V 0), .int x1, .int x2] σ v := by
  refine j_start (own := RX11) (by decide) rfl (Nat.le_of_ble_eq_true rfl) ?_
  intro G hV C
  subst hV
  unfold mX11_run at hm
  show JX G 0 [(0, .ref (vad (gV G) 0)), (1, .int x1), (2, .int x2)] [] σ v
  refine j_iloadn (pc := 0) C 1 dX11_run_0 rfl rfl ?_
  refine j_iconst (v := 2) (pc := 1) C dX11_run_1 (by decide) ?_
  refine j_bipush (v := 16) (pc := 2) C dX11_run_2 (by decide) ?_
  obtain ⟨q1, hq1, hm⟩ := Option.bind_eq_some_iff.mp hm
  refine cl_X11_96 (pc := 4) C (kX11_isWithin hq1) (by decide) (Nat.le_of_ble_eq_true rfl) dX11_run_4 ?_
  refine j_if_eq (tgt := 30) (pc := 7) C dX11_run_7 (by decide) hm (fun _ hm => ?_) (fun _ hm => ?_)
  · refine j_iconst (v := -1) (pc := 30) C dX11_run_30 (by decide) ?_
    exact j_iretS (pc := 31) C rfl dX11_run_31 hm
  · refine j_iloadn (pc := 10) C 2 dX11_run_10 rfl rfl ?_
    refine j_iconst (v := 0) (pc := 11) C dX11_run_11 (by decide) ?_
    refine j_iconst (v := 1) (pc := 12) C dX11_run_12 (by decide) ?_
    obtain ⟨q2, hq2, hm⟩ := Option.bind_eq_some_iff.mp hm
    refine cl_X11_96 (pc := 13) C (kX11_isWithin hq2) (by decide) (Nat.le_of_ble_eq_true rfl) dX11_run_13 ?_
    refine j_if_eq (tgt := 30) (pc := 16) C dX11_run_16 (by decide) hm (fun _ hm => ?_) (fun _ hm => ?_)
    · refine j_iconst (v := -1) (pc := 30) C dX11_run_30 (by decide) ?_
      exact j_iretS (pc := 31) C rfl dX11_run_31 hm
    · refine j_aloadn (pc := 19) C 0 dX11_run_19 rfl rfl ?_
      refine gf_X11_10 (c := 0) (pc := 20) C kx_0 dX11_run_20 ?_
      refine j_iloadn (pc := 23) C 1 dX11_run_23 rfl rfl ?_
      obtain ⟨q3, hq3, hm⟩ := Option.bind_eq_some_iff.mp hm
      refine cl_X11_123 (c := 1) (pc := 24) C kx_1 (kX10_has hq3) (by decide) (Nat.le_of_ble_eq_true rfl) dX11_run_24 ?_
      refine j_if_ne (tgt := 32) (pc := 27) C dX11_run_27 (by decide) hm (fun _ hm => ?_) (fun _ hm => ?_)
      · refine j_iconst (v := -1) (pc := 30) C dX11_run_30 (by decide) ?_
        exact j_iretS (pc := 31) C rfl dX11_run_31 hm
      · refine j_aloadn (pc := 32) C 0 dX11_run_32 rfl rfl ?_
        refine gf_X11_10 (c := 0) (pc := 33) C kx_0 dX11_run_33 ?_
        refine j_iloadn (pc := 36) C 1 dX11_run_36 rfl rfl ?_
        obtain ⟨q4, hq4, hm⟩ := Option.bind_eq_some_iff.mp hm
        refine cl_X11_127 (c := 1) (pc := 37) C kx_1 (kX10_open hq4) (by decide) (Nat.le_of_ble_eq_true rfl) dX11_run_37 ?_
        refine j_aloadn (pc := 40) C 0 dX11_run_40 rfl rfl ?_
        refine gf_X11_88 (c := 0) (pc := 41) C kx_0 dX11_run_41 ?_
        refine j_iloadn (pc := 44) C 1 dX11_run_44 rfl rfl ?_
        refine j_iloadn (pc := 45) C 2 dX11_run_45 rfl rfl ?_
        obtain ⟨q5, hq5, hm⟩ := Option.bind_eq_some_iff.mp hm
        refine cl_X11_234 (c := 67) (pc := 46) C kx_67 (kX9_bankRun hq5) (by decide) (Nat.le_of_ble_eq_true rfl) dX11_run_46 ?_
        exact j_iretS (pc := 49) C rfl dX11_run_49 hm

def jn_X11_table_40 (F : Nat) (x1 : Int32) (x2 : Int32) (s0 : Int32) (σ : jS) : Option (Int32 × jS) := (Option.bind (mX11_isWithin F x1 (2 : Int32) (30 : Int32) σ) fun q1 => (if q1 = 0 then some ((-1 : Int32), σ) else (if s0 = 0 then some ((-1 : Int32), σ) else (Option.bind (mX10_has F x1 σ) fun q2 => (if q2 = 0 then some ((-1 : Int32), σ) else (Option.bind (mX10_open F x1 σ) fun q3 => (Option.bind (mX9_isLifeTable F x1 q3) fun q4 => (if q4 = 0 then some ((-3 : Int32), q3) else (if x2 = (300 : Int32) then (Option.bind (mX9_ageOfMostDeaths F x1 q3) fun q5 => some (q5, q3)) else (if x2 < (200 : Int32) then (Option.bind (mX9_expected F x1 ((irm x2 (100 : Int32))) (1 : Int32) q3) fun q6 => some (q6, q3)) else (Option.bind (mX9_expected F x1 ((irm x2 (100 : Int32))) (0 : Int32) q3) fun q7 => some (q7, q3))))))))))))
set_option maxHeartbeats 4000000 in
set_option maxRecDepth 100000 in
theorem jn_X11_table_40_ok {G : jG} (C : jc cfX 70 G cX11_table RX11 4 (some .int) 2) (F : Nat) {v : (Int32 × jS)} : ∀ (x1 : Int32) (x2 : Int32) (s0 : Int32) (σ : jS), jn_X11_table_40 F x1 x2 s0 σ = some v → JX G 40 [(0, .ref (vad (gV G) 0)), (1, .int x1), (2, .int x2)] [.int s0] σ v := by
  intro x1 x2 s0 σ hm
  unfold jn_X11_table_40 at hm
  refine j_istoren (ls' := [(3, .int s0), (0, .ref (vad (gV G) 0)), (1, .int x1), (2, .int x2)]) (pc := 40) C dX11_table_40 rfl (by decide) rfl ?_
  refine j_iloadn (pc := 41) C 2 dX11_table_41 rfl rfl ?_
  refine j_iconst (v := 2) (pc := 42) C dX11_table_42 (by decide) ?_
  refine j_bipush (v := 30) (pc := 43) C dX11_table_43 (by decide) ?_
  obtain ⟨q1, hq1, hm⟩ := Option.bind_eq_some_iff.mp hm
  refine cl_X11_96 (pc := 45) C (kX11_isWithin hq1) (by decide) (Nat.le_of_ble_eq_true rfl) dX11_table_45 ?_
  refine j_if_eq (tgt := 66) (pc := 48) C dX11_table_48 (by decide) hm (fun _ hm => ?_) (fun _ hm => ?_)
  · refine j_iconst (v := -1) (pc := 66) C dX11_table_66 (by decide) ?_
    exact j_iretS (pc := 67) C rfl dX11_table_67 hm
  · refine j_iloadn (pc := 51) C 0 dX11_table_51 rfl rfl ?_
    refine j_if_eq (tgt := 66) (pc := 52) C dX11_table_52 (by decide) hm (fun _ hm => ?_) (fun _ hm => ?_)
    · refine j_iconst (v := -1) (pc := 66) C dX11_table_66 (by decide) ?_
      exact j_iretS (pc := 67) C rfl dX11_table_67 hm
    · refine j_aloadn (pc := 55) C 1 dX11_table_55 rfl rfl ?_
      refine gf_X11_10 (c := 0) (pc := 56) C kx_0 dX11_table_56 ?_
      refine j_iloadn (pc := 59) C 2 dX11_table_59 rfl rfl ?_
      obtain ⟨q2, hq2, hm⟩ := Option.bind_eq_some_iff.mp hm
      refine cl_X11_123 (c := 1) (pc := 60) C kx_1 (kX10_has hq2) (by decide) (Nat.le_of_ble_eq_true rfl) dX11_table_60 ?_
      refine j_if_ne (tgt := 68) (pc := 63) C dX11_table_63 (by decide) hm (fun _ hm => ?_) (fun _ hm => ?_)
      · refine j_iconst (v := -1) (pc := 66) C dX11_table_66 (by decide) ?_
        exact j_iretS (pc := 67) C rfl dX11_table_67 hm
      · refine j_aloadn (pc := 68) C 1 dX11_table_68 rfl rfl ?_
        refine gf_X11_10 (c := 0) (pc := 69) C kx_0 dX11_table_69 ?_
        refine j_iloadn (pc := 72) C 2 dX11_table_72 rfl rfl ?_
        obtain ⟨q3, hq3, hm⟩ := Option.bind_eq_some_iff.mp hm
        refine cl_X11_127 (c := 1) (pc := 73) C kx_1 (kX10_open hq3) (by decide) (Nat.le_of_ble_eq_true rfl) dX11_table_73 ?_
        refine j_aloadn (pc := 76) C 1 dX11_table_76 rfl rfl ?_
        refine gf_X11_88 (c := 0) (pc := 77) C kx_0 dX11_table_77 ?_
        refine j_iloadn (pc := 80) C 2 dX11_table_80 rfl rfl ?_
        obtain ⟨q4, hq4, hm⟩ := Option.bind_eq_some_iff.mp hm
        refine cl_X11_237 (c := 67) (pc := 81) C kx_67 (kX9_isLifeTable hq4) (by decide) (Nat.le_of_ble_eq_true rfl) dX11_table_81 ?_
        refine j_if_ne (tgt := 90) (pc := 84) C dX11_table_84 (by decide) hm (fun _ hm => ?_) (fun _ hm => ?_)
        · refine j_bipush (v := -3) (pc := 87) C dX11_table_87 (by decide) ?_
          exact j_iretS (pc := 89) C rfl dX11_table_89 hm
        · refine j_iloadn (pc := 90) C 3 dX11_table_90 rfl rfl ?_
          refine j_sipush (v := 300) (pc := 91) C dX11_table_91 (by decide) ?_
          refine j_icmp_ne (tgt := 106) (pc := 94) C dX11_table_94 (by decide) hm (fun _ hm => ?_) (fun _ hm => ?_)
          · refine j_aloadn (pc := 97) C 1 dX11_table_97 rfl rfl ?_
            refine gf_X11_88 (c := 0) (pc := 98) C kx_0 dX11_table_98 ?_
            refine j_iloadn (pc := 101) C 2 dX11_table_101 rfl rfl ?_
            obtain ⟨q5, hq5, hm⟩ := Option.bind_eq_some_iff.mp hm
            refine cl_X11_240 (c := 67) (pc := 102) C kx_67 (kX9_ageOfMostDeaths hq5) (by decide) (Nat.le_of_ble_eq_true rfl) dX11_table_102 ?_
            exact j_iretS (pc := 105) C rfl dX11_table_105 hm
          · refine j_aloadn (pc := 106) C 1 dX11_table_106 rfl rfl ?_
            refine gf_X11_88 (c := 0) (pc := 107) C kx_0 dX11_table_107 ?_
            refine j_iloadn (pc := 110) C 2 dX11_table_110 rfl rfl ?_
            refine j_iloadn (pc := 111) C 3 dX11_table_111 rfl rfl ?_
            refine j_bipush (v := 100) (pc := 112) C dX11_table_112 (by decide) ?_
            refine j_iremK (pc := 114) C dX11_table_114 (by decide) ?_
            refine j_iloadn (pc := 115) C 3 dX11_table_115 rfl rfl ?_
            refine j_sipush (v := 200) (pc := 116) C dX11_table_116 (by decide) ?_
            refine j_icmp_ge (tgt := 126) (pc := 119) C dX11_table_119 (by decide) hm (fun _ hm => ?_) (fun _ hm => ?_)
            · refine j_iconst (v := 1) (pc := 122) C dX11_table_122 (by decide) ?_
              refine j_goto (tgt := 127) (pc := 123) C dX11_table_123 (by decide) ?_
              obtain ⟨q6, hq6, hm⟩ := Option.bind_eq_some_iff.mp hm
              refine cl_X11_243 (c := 67) (pc := 127) C kx_67 (kX9_expected hq6) (by decide) (Nat.le_of_ble_eq_true rfl) dX11_table_127 ?_
              exact j_iretS (pc := 130) C rfl dX11_table_130 hm
            · refine j_iconst (v := 0) (pc := 126) C dX11_table_126 (by decide) ?_
              obtain ⟨q7, hq7, hm⟩ := Option.bind_eq_some_iff.mp hm
              refine cl_X11_243 (c := 67) (pc := 127) C kx_67 (kX9_expected hq7) (by decide) (Nat.le_of_ble_eq_true rfl) dX11_table_127 ?_
              exact j_iretS (pc := 130) C rfl dX11_table_130 hm

def jn_X11_table_35 (F : Nat) (x1 : Int32) (x2 : Int32) (σ : jS) : Option (Int32 × jS) := (jn_X11_table_40 F x1 x2 (1 : Int32) σ)
set_option maxHeartbeats 4000000 in
set_option maxRecDepth 100000 in
theorem jn_X11_table_35_ok {G : jG} (C : jc cfX 70 G cX11_table RX11 4 (some .int) 2) (F : Nat) {v : (Int32 × jS)} : ∀ (x1 : Int32) (x2 : Int32) (σ : jS), jn_X11_table_35 F x1 x2 σ = some v → JX G 35 [(0, .ref (vad (gV G) 0)), (1, .int x1), (2, .int x2)] [] σ v := by
  intro x1 x2 σ hm
  unfold jn_X11_table_35 at hm
  refine j_iconst (v := 1) (pc := 35) C dX11_table_35 (by decide) ?_
  refine j_goto (tgt := 40) (pc := 36) C dX11_table_36 (by decide) ?_
  exact jn_X11_table_40_ok C F  _ _ _ _ hm

def mX11_table (F : Nat) (x1 : Int32) (x2 : Int32) (σ : jS) : Option (Int32 × jS) := (if x2 = (300 : Int32) then (jn_X11_table_35 F x1 x2 σ) else (Option.bind (mX11_isWithin F x2 (100 : Int32) (((99 : Int32) + x1)) σ) fun q8 => (if q8 = 0 then (Option.bind (mX11_isWithin F x2 (200 : Int32) (((199 : Int32) + x1)) σ) fun q9 => (if q9 = 0 then (jn_X11_table_40 F x1 x2 (0 : Int32) σ) else (jn_X11_table_35 F x1 x2 σ))) else (jn_X11_table_35 F x1 x2 σ))))
set_option maxHeartbeats 4000000 in
set_option maxRecDepth 100000 in
theorem kX11_table {V : jV} {F : Nat} {x1 : Int32} {x2 : Int32} {σ : jS} {v : (Int32 × jS)} (hm : mX11_table F x1 x2 σ = some v) : Ct cfX 70 V yX11_table cX11_table 4 (some .int) 2 [.ref (vad V 0), .int x1, .int x2] σ v := by
  refine j_start (own := RX11) (by decide) rfl (Nat.le_of_ble_eq_true rfl) ?_
  intro G hV C
  subst hV
  unfold mX11_table at hm
  show JX G 0 [(0, .ref (vad (gV G) 0)), (1, .int x1), (2, .int x2)] [] σ v
  refine j_iloadn (pc := 0) C 2 dX11_table_0 rfl rfl ?_
  refine j_sipush (v := 300) (pc := 1) C dX11_table_1 (by decide) ?_
  refine j_icmp_eq (tgt := 35) (pc := 4) C dX11_table_4 (by decide) hm (fun _ hm => ?_) (fun _ hm => ?_)
  · exact jn_X11_table_35_ok C F  _ _ _ hm
  · refine j_iloadn (pc := 7) C 2 dX11_table_7 rfl rfl ?_
    refine j_bipush (v := 100) (pc := 8) C dX11_table_8 (by decide) ?_
    refine j_bipush (v := 99) (pc := 10) C dX11_table_10 (by decide) ?_
    refine j_iloadn (pc := 12) C 1 dX11_table_12 rfl rfl ?_
    refine j_iadd (pc := 13) C dX11_table_13 ?_
    obtain ⟨q8, hq8, hm⟩ := Option.bind_eq_some_iff.mp hm
    refine cl_X11_96 (pc := 14) C (kX11_isWithin hq8) (by decide) (Nat.le_of_ble_eq_true rfl) dX11_table_14 ?_
    refine j_if_ne (tgt := 35) (pc := 17) C dX11_table_17 (by decide) hm (fun _ hm => ?_) (fun _ hm => ?_)
    · refine j_iloadn (pc := 20) C 2 dX11_table_20 rfl rfl ?_
      refine j_sipush (v := 200) (pc := 21) C dX11_table_21 (by decide) ?_
      refine j_sipush (v := 199) (pc := 24) C dX11_table_24 (by decide) ?_
      refine j_iloadn (pc := 27) C 1 dX11_table_27 rfl rfl ?_
      refine j_iadd (pc := 28) C dX11_table_28 ?_
      obtain ⟨q9, hq9, hm⟩ := Option.bind_eq_some_iff.mp hm
      refine cl_X11_96 (pc := 29) C (kX11_isWithin hq9) (by decide) (Nat.le_of_ble_eq_true rfl) dX11_table_29 ?_
      refine j_if_eq (tgt := 39) (pc := 32) C dX11_table_32 (by decide) hm (fun _ hm => ?_) (fun _ hm => ?_)
      · refine j_iconst (v := 0) (pc := 39) C dX11_table_39 (by decide) ?_
        exact jn_X11_table_40_ok C F  _ _ _ _ hm
      · exact jn_X11_table_35_ok C F  _ _ _ hm
    · exact jn_X11_table_35_ok C F  _ _ _ hm

def mX11_atOnce (F : Nat) (x1 : Int32) (x2 : Int32) (σ : jS) : Option (Int32 × jS) := (Option.bind (mX11_isWithin F x1 (0 : Int32) (65535 : Int32) σ) fun q1 => (if q1 = 0 then some ((-1 : Int32), σ) else (Option.bind (mX11_isWithin F x2 (0 : Int32) (1 : Int32) σ) fun q2 => (if q2 = 0 then some ((-1 : Int32), σ) else (Option.bind (mX10_has F (4 : Int32) σ) fun q3 => (if q3 = 0 then some ((-1 : Int32), σ) else (Option.bind (mX10_open F (4 : Int32) σ) fun q4 => (Option.bind (mX10_byteAt F (1 : Int32) q4) fun q5 => (if q5 = 0 then some ((-3 : Int32), q4) else (Option.bind (mX10_byteAt F (3 : Int32) q4) fun q6 => (if q6 = 0 then some ((-3 : Int32), q4) else (Option.bind (mX9_firstTogether F q4) fun q7 => (if x2 = 0 then some (q7, q4) else (Option.bind (mX9_timesTogether F q7 x1 q4) fun q8 => some (q8, q4)))))))))))))))
set_option maxHeartbeats 4000000 in
set_option maxRecDepth 100000 in
theorem kX11_atOnce {V : jV} {F : Nat} {x1 : Int32} {x2 : Int32} {σ : jS} {v : (Int32 × jS)} (hm : mX11_atOnce F x1 x2 σ = some v) : Ct cfX 70 V yX11_atOnce cX11_atOnce 4 (some .int) 2 [.ref (vad V 0), .int x1, .int x2] σ v := by
  refine j_start (own := RX11) (by decide) rfl (Nat.le_of_ble_eq_true rfl) ?_
  intro G hV C
  subst hV
  unfold mX11_atOnce at hm
  show JX G 0 [(0, .ref (vad (gV G) 0)), (1, .int x1), (2, .int x2)] [] σ v
  refine j_iloadn (pc := 0) C 1 dX11_atOnce_0 rfl rfl ?_
  refine j_iconst (v := 0) (pc := 1) C dX11_atOnce_1 (by decide) ?_
  refine j_ldc (v := 65535) (pc := 2) C dX11_atOnce_2 tw_5_13 ?_
  obtain ⟨q1, hq1, hm⟩ := Option.bind_eq_some_iff.mp hm
  refine cl_X11_96 (pc := 4) C (kX11_isWithin hq1) (by decide) (Nat.le_of_ble_eq_true rfl) dX11_atOnce_4 ?_
  refine j_if_eq (tgt := 30) (pc := 7) C dX11_atOnce_7 (by decide) hm (fun _ hm => ?_) (fun _ hm => ?_)
  · refine j_iconst (v := -1) (pc := 30) C dX11_atOnce_30 (by decide) ?_
    exact j_iretS (pc := 31) C rfl dX11_atOnce_31 hm
  · refine j_iloadn (pc := 10) C 2 dX11_atOnce_10 rfl rfl ?_
    refine j_iconst (v := 0) (pc := 11) C dX11_atOnce_11 (by decide) ?_
    refine j_iconst (v := 1) (pc := 12) C dX11_atOnce_12 (by decide) ?_
    obtain ⟨q2, hq2, hm⟩ := Option.bind_eq_some_iff.mp hm
    refine cl_X11_96 (pc := 13) C (kX11_isWithin hq2) (by decide) (Nat.le_of_ble_eq_true rfl) dX11_atOnce_13 ?_
    refine j_if_eq (tgt := 30) (pc := 16) C dX11_atOnce_16 (by decide) hm (fun _ hm => ?_) (fun _ hm => ?_)
    · refine j_iconst (v := -1) (pc := 30) C dX11_atOnce_30 (by decide) ?_
      exact j_iretS (pc := 31) C rfl dX11_atOnce_31 hm
    · refine j_aloadn (pc := 19) C 0 dX11_atOnce_19 rfl rfl ?_
      refine gf_X11_10 (c := 0) (pc := 20) C kx_0 dX11_atOnce_20 ?_
      refine j_iconst (v := 4) (pc := 23) C dX11_atOnce_23 (by decide) ?_
      obtain ⟨q3, hq3, hm⟩ := Option.bind_eq_some_iff.mp hm
      refine cl_X11_123 (c := 1) (pc := 24) C kx_1 (kX10_has hq3) (by decide) (Nat.le_of_ble_eq_true rfl) dX11_atOnce_24 ?_
      refine j_if_ne (tgt := 32) (pc := 27) C dX11_atOnce_27 (by decide) hm (fun _ hm => ?_) (fun _ hm => ?_)
      · refine j_iconst (v := -1) (pc := 30) C dX11_atOnce_30 (by decide) ?_
        exact j_iretS (pc := 31) C rfl dX11_atOnce_31 hm
      · refine j_aloadn (pc := 32) C 0 dX11_atOnce_32 rfl rfl ?_
        refine gf_X11_10 (c := 0) (pc := 33) C kx_0 dX11_atOnce_33 ?_
        refine j_iconst (v := 4) (pc := 36) C dX11_atOnce_36 (by decide) ?_
        obtain ⟨q4, hq4, hm⟩ := Option.bind_eq_some_iff.mp hm
        refine cl_X11_127 (c := 1) (pc := 37) C kx_1 (kX10_open hq4) (by decide) (Nat.le_of_ble_eq_true rfl) dX11_atOnce_37 ?_
        refine j_aloadn (pc := 40) C 0 dX11_atOnce_40 rfl rfl ?_
        refine gf_X11_10 (c := 0) (pc := 41) C kx_0 dX11_atOnce_41 ?_
        refine j_iconst (v := 1) (pc := 44) C dX11_atOnce_44 (by decide) ?_
        obtain ⟨q5, hq5, hm⟩ := Option.bind_eq_some_iff.mp hm
        refine cl_X11_248 (c := 1) (pc := 45) C kx_1 (kX10_byteAt hq5) (by decide) (Nat.le_of_ble_eq_true rfl) dX11_atOnce_45 ?_
        refine j_if_eq (tgt := 62) (pc := 48) C dX11_atOnce_48 (by decide) hm (fun _ hm => ?_) (fun _ hm => ?_)
        · refine j_bipush (v := -3) (pc := 62) C dX11_atOnce_62 (by decide) ?_
          exact j_iretS (pc := 64) C rfl dX11_atOnce_64 hm
        · refine j_aloadn (pc := 51) C 0 dX11_atOnce_51 rfl rfl ?_
          refine gf_X11_10 (c := 0) (pc := 52) C kx_0 dX11_atOnce_52 ?_
          refine j_iconst (v := 3) (pc := 55) C dX11_atOnce_55 (by decide) ?_
          obtain ⟨q6, hq6, hm⟩ := Option.bind_eq_some_iff.mp hm
          refine cl_X11_248 (c := 1) (pc := 56) C kx_1 (kX10_byteAt hq6) (by decide) (Nat.le_of_ble_eq_true rfl) dX11_atOnce_56 ?_
          refine j_if_ne (tgt := 65) (pc := 59) C dX11_atOnce_59 (by decide) hm (fun _ hm => ?_) (fun _ hm => ?_)
          · refine j_bipush (v := -3) (pc := 62) C dX11_atOnce_62 (by decide) ?_
            exact j_iretS (pc := 64) C rfl dX11_atOnce_64 hm
          · refine j_aloadn (pc := 65) C 0 dX11_atOnce_65 rfl rfl ?_
            refine gf_X11_88 (c := 0) (pc := 66) C kx_0 dX11_atOnce_66 ?_
            obtain ⟨q7, hq7, hm⟩ := Option.bind_eq_some_iff.mp hm
            refine cl_X11_251 (c := 67) (pc := 69) C kx_67 (kX9_firstTogether hq7) (by decide) (Nat.le_of_ble_eq_true rfl) dX11_atOnce_69 ?_
            refine j_istoren (ls' := [(3, .int q7), (0, .ref (vad (gV G) 0)), (1, .int x1), (2, .int x2)]) (pc := 72) C dX11_atOnce_72 rfl (by decide) rfl ?_
            refine j_iloadn (pc := 73) C 3 dX11_atOnce_73 rfl rfl ?_
            refine j_if_ne (tgt := 81) (pc := 74) C dX11_atOnce_74 (by decide) hm (fun _ hm => ?_) (fun _ hm => ?_)
            · refine j_iloadn (pc := 77) C 0 dX11_atOnce_77 rfl rfl ?_
              refine j_goto (tgt := 90) (pc := 78) C dX11_atOnce_78 (by decide) ?_
              exact j_iretS (pc := 90) C rfl dX11_atOnce_90 hm
            · refine j_aloadn (pc := 81) C 1 dX11_atOnce_81 rfl rfl ?_
              refine gf_X11_88 (c := 0) (pc := 82) C kx_0 dX11_atOnce_82 ?_
              refine j_iloadn (pc := 85) C 0 dX11_atOnce_85 rfl rfl ?_
              refine j_iloadn (pc := 86) C 2 dX11_atOnce_86 rfl rfl ?_
              obtain ⟨q8, hq8, hm⟩ := Option.bind_eq_some_iff.mp hm
              refine cl_X11_255 (c := 67) (pc := 87) C kx_67 (kX9_timesTogether hq8) (by decide) (Nat.le_of_ble_eq_true rfl) dX11_atOnce_87 ?_
              exact j_iretS (pc := 90) C rfl dX11_atOnce_90 hm

def mX11_pulse (F : Nat) (x1 : Int32) (x2 : Int32) (σ : jS) : Option (Int32 × jS) := (Option.bind (mX11_isWithin F x1 (2 : Int32) (20 : Int32) σ) fun q1 => (if q1 = 0 then some ((-1 : Int32), σ) else (Option.bind (mX11_isWithin F x2 (0 : Int32) (1 : Int32) σ) fun q2 => (if q2 = 0 then some ((-1 : Int32), σ) else (Option.bind (mX10_has F (((2 : Int32) * x1)) σ) fun q3 => (if q3 = 0 then some ((-1 : Int32), σ) else (Option.bind (mX10_open F (((2 : Int32) * x1)) σ) fun q4 => (Option.bind (mX9_pulseOf F x1 x2 q4) fun q5 => some (q5, q4)))))))))
set_option maxHeartbeats 4000000 in
set_option maxRecDepth 100000 in
theorem kX11_pulse {V : jV} {F : Nat} {x1 : Int32} {x2 : Int32} {σ : jS} {v : (Int32 × jS)} (hm : mX11_pulse F x1 x2 σ = some v) : Ct cfX 70 V yX11_pulse cX11_pulse 3 (some .int) 3 [.ref (vad V 0), .int x1, .int x2] σ v := by
  refine j_start (own := RX11) (by decide) rfl (Nat.le_of_ble_eq_true rfl) ?_
  intro G hV C
  subst hV
  unfold mX11_pulse at hm
  show JX G 0 [(0, .ref (vad (gV G) 0)), (1, .int x1), (2, .int x2)] [] σ v
  refine j_iloadn (pc := 0) C 1 dX11_pulse_0 rfl rfl ?_
  refine j_iconst (v := 2) (pc := 1) C dX11_pulse_1 (by decide) ?_
  refine j_bipush (v := 20) (pc := 2) C dX11_pulse_2 (by decide) ?_
  obtain ⟨q1, hq1, hm⟩ := Option.bind_eq_some_iff.mp hm
  refine cl_X11_96 (pc := 4) C (kX11_isWithin hq1) (by decide) (Nat.le_of_ble_eq_true rfl) dX11_pulse_4 ?_
  refine j_if_eq (tgt := 32) (pc := 7) C dX11_pulse_7 (by decide) hm (fun _ hm => ?_) (fun _ hm => ?_)
  · refine j_iconst (v := -1) (pc := 32) C dX11_pulse_32 (by decide) ?_
    exact j_iretS (pc := 33) C rfl dX11_pulse_33 hm
  · refine j_iloadn (pc := 10) C 2 dX11_pulse_10 rfl rfl ?_
    refine j_iconst (v := 0) (pc := 11) C dX11_pulse_11 (by decide) ?_
    refine j_iconst (v := 1) (pc := 12) C dX11_pulse_12 (by decide) ?_
    obtain ⟨q2, hq2, hm⟩ := Option.bind_eq_some_iff.mp hm
    refine cl_X11_96 (pc := 13) C (kX11_isWithin hq2) (by decide) (Nat.le_of_ble_eq_true rfl) dX11_pulse_13 ?_
    refine j_if_eq (tgt := 32) (pc := 16) C dX11_pulse_16 (by decide) hm (fun _ hm => ?_) (fun _ hm => ?_)
    · refine j_iconst (v := -1) (pc := 32) C dX11_pulse_32 (by decide) ?_
      exact j_iretS (pc := 33) C rfl dX11_pulse_33 hm
    · refine j_aloadn (pc := 19) C 0 dX11_pulse_19 rfl rfl ?_
      refine gf_X11_10 (c := 0) (pc := 20) C kx_0 dX11_pulse_20 ?_
      refine j_iconst (v := 2) (pc := 23) C dX11_pulse_23 (by decide) ?_
      refine j_iloadn (pc := 24) C 1 dX11_pulse_24 rfl rfl ?_
      refine j_imul (pc := 25) C dX11_pulse_25 ?_
      obtain ⟨q3, hq3, hm⟩ := Option.bind_eq_some_iff.mp hm
      refine cl_X11_123 (c := 1) (pc := 26) C kx_1 (kX10_has hq3) (by decide) (Nat.le_of_ble_eq_true rfl) dX11_pulse_26 ?_
      refine j_if_ne (tgt := 34) (pc := 29) C dX11_pulse_29 (by decide) hm (fun _ hm => ?_) (fun _ hm => ?_)
      · refine j_iconst (v := -1) (pc := 32) C dX11_pulse_32 (by decide) ?_
        exact j_iretS (pc := 33) C rfl dX11_pulse_33 hm
      · refine j_aloadn (pc := 34) C 0 dX11_pulse_34 rfl rfl ?_
        refine gf_X11_10 (c := 0) (pc := 35) C kx_0 dX11_pulse_35 ?_
        refine j_iconst (v := 2) (pc := 38) C dX11_pulse_38 (by decide) ?_
        refine j_iloadn (pc := 39) C 1 dX11_pulse_39 rfl rfl ?_
        refine j_imul (pc := 40) C dX11_pulse_40 ?_
        obtain ⟨q4, hq4, hm⟩ := Option.bind_eq_some_iff.mp hm
        refine cl_X11_127 (c := 1) (pc := 41) C kx_1 (kX10_open hq4) (by decide) (Nat.le_of_ble_eq_true rfl) dX11_pulse_41 ?_
        refine j_aloadn (pc := 44) C 0 dX11_pulse_44 rfl rfl ?_
        refine gf_X11_88 (c := 0) (pc := 45) C kx_0 dX11_pulse_45 ?_
        refine j_iloadn (pc := 48) C 1 dX11_pulse_48 rfl rfl ?_
        refine j_iloadn (pc := 49) C 2 dX11_pulse_49 rfl rfl ?_
        obtain ⟨q5, hq5, hm⟩ := Option.bind_eq_some_iff.mp hm
        refine cl_X11_258 (c := 67) (pc := 50) C kx_67 (kX9_pulseOf hq5) (by decide) (Nat.le_of_ble_eq_true rfl) dX11_pulse_50 ?_
        exact j_iretS (pc := 53) C rfl dX11_pulse_53 hm

def mX11_stairs (F : Nat) (x1 : Int32) (x2 : Int32) (σ : jS) : Option (Int32 × jS) := (Option.bind (mX11_isWithin F x1 (2 : Int32) (20 : Int32) σ) fun q1 => (if q1 = 0 then some ((-1 : Int32), σ) else (Option.bind (mX11_isWithin F x2 (0 : Int32) (1 : Int32) σ) fun q2 => (if q2 = 0 then some ((-1 : Int32), σ) else (Option.bind (mX10_has F x1 σ) fun q3 => (if q3 = 0 then some ((-1 : Int32), σ) else (Option.bind (mX10_open F x1 σ) fun q4 => (Option.bind (mX9_climb F x1 x2 q4) fun q5 => some (q5.1, q5.2)))))))))
set_option maxHeartbeats 4000000 in
set_option maxRecDepth 100000 in
theorem kX11_stairs {V : jV} {F : Nat} {x1 : Int32} {x2 : Int32} {σ : jS} {v : (Int32 × jS)} (hm : mX11_stairs F x1 x2 σ = some v) : Ct cfX 70 V yX11_stairs cX11_stairs 3 (some .int) 3 [.ref (vad V 0), .int x1, .int x2] σ v := by
  refine j_start (own := RX11) (by decide) rfl (Nat.le_of_ble_eq_true rfl) ?_
  intro G hV C
  subst hV
  unfold mX11_stairs at hm
  show JX G 0 [(0, .ref (vad (gV G) 0)), (1, .int x1), (2, .int x2)] [] σ v
  refine j_iloadn (pc := 0) C 1 dX11_stairs_0 rfl rfl ?_
  refine j_iconst (v := 2) (pc := 1) C dX11_stairs_1 (by decide) ?_
  refine j_bipush (v := 20) (pc := 2) C dX11_stairs_2 (by decide) ?_
  obtain ⟨q1, hq1, hm⟩ := Option.bind_eq_some_iff.mp hm
  refine cl_X11_96 (pc := 4) C (kX11_isWithin hq1) (by decide) (Nat.le_of_ble_eq_true rfl) dX11_stairs_4 ?_
  refine j_if_eq (tgt := 30) (pc := 7) C dX11_stairs_7 (by decide) hm (fun _ hm => ?_) (fun _ hm => ?_)
  · refine j_iconst (v := -1) (pc := 30) C dX11_stairs_30 (by decide) ?_
    exact j_iretS (pc := 31) C rfl dX11_stairs_31 hm
  · refine j_iloadn (pc := 10) C 2 dX11_stairs_10 rfl rfl ?_
    refine j_iconst (v := 0) (pc := 11) C dX11_stairs_11 (by decide) ?_
    refine j_iconst (v := 1) (pc := 12) C dX11_stairs_12 (by decide) ?_
    obtain ⟨q2, hq2, hm⟩ := Option.bind_eq_some_iff.mp hm
    refine cl_X11_96 (pc := 13) C (kX11_isWithin hq2) (by decide) (Nat.le_of_ble_eq_true rfl) dX11_stairs_13 ?_
    refine j_if_eq (tgt := 30) (pc := 16) C dX11_stairs_16 (by decide) hm (fun _ hm => ?_) (fun _ hm => ?_)
    · refine j_iconst (v := -1) (pc := 30) C dX11_stairs_30 (by decide) ?_
      exact j_iretS (pc := 31) C rfl dX11_stairs_31 hm
    · refine j_aloadn (pc := 19) C 0 dX11_stairs_19 rfl rfl ?_
      refine gf_X11_10 (c := 0) (pc := 20) C kx_0 dX11_stairs_20 ?_
      refine j_iloadn (pc := 23) C 1 dX11_stairs_23 rfl rfl ?_
      obtain ⟨q3, hq3, hm⟩ := Option.bind_eq_some_iff.mp hm
      refine cl_X11_123 (c := 1) (pc := 24) C kx_1 (kX10_has hq3) (by decide) (Nat.le_of_ble_eq_true rfl) dX11_stairs_24 ?_
      refine j_if_ne (tgt := 32) (pc := 27) C dX11_stairs_27 (by decide) hm (fun _ hm => ?_) (fun _ hm => ?_)
      · refine j_iconst (v := -1) (pc := 30) C dX11_stairs_30 (by decide) ?_
        exact j_iretS (pc := 31) C rfl dX11_stairs_31 hm
      · refine j_aloadn (pc := 32) C 0 dX11_stairs_32 rfl rfl ?_
        refine gf_X11_10 (c := 0) (pc := 33) C kx_0 dX11_stairs_33 ?_
        refine j_iloadn (pc := 36) C 1 dX11_stairs_36 rfl rfl ?_
        obtain ⟨q4, hq4, hm⟩ := Option.bind_eq_some_iff.mp hm
        refine cl_X11_127 (c := 1) (pc := 37) C kx_1 (kX10_open hq4) (by decide) (Nat.le_of_ble_eq_true rfl) dX11_stairs_37 ?_
        refine j_aloadn (pc := 40) C 0 dX11_stairs_40 rfl rfl ?_
        refine gf_X11_88 (c := 0) (pc := 41) C kx_0 dX11_stairs_41 ?_
        refine j_iloadn (pc := 44) C 1 dX11_stairs_44 rfl rfl ?_
        refine j_iloadn (pc := 45) C 2 dX11_stairs_45 rfl rfl ?_
        obtain ⟨q5, hq5, hm⟩ := Option.bind_eq_some_iff.mp hm
        refine cl_X11_261 (c := 67) (pc := 46) C kx_67 (kX9_climb hq5) (by decide) (Nat.le_of_ble_eq_true rfl) dX11_stairs_46 ?_
        exact j_iretS (pc := 49) C rfl dX11_stairs_49 hm

def mX11_bells (F : Nat) (x1 : Int32) (x2 : Int32) (σ : jS) : Option (Int32 × jS) := (Option.bind (mX11_isWithin F x1 (1 : Int32) (5 : Int32) σ) fun q1 => (if q1 = 0 then some ((-1 : Int32), σ) else (Option.bind (mX11_isWithin F x2 (1 : Int32) (9999 : Int32) σ) fun q2 => (if q2 = 0 then some ((-1 : Int32), σ) else (Option.bind (mX10_has F x1 σ) fun q3 => (if q3 = 0 then some ((-1 : Int32), σ) else (Option.bind (mX10_open F x1 σ) fun q4 => (Option.bind (mX9_areBells F x1 q4) fun q5 => (if q5 = 0 then some ((-3 : Int32), q4) else (Option.bind (mX9_fewestBlows F x1 x2 q4) fun q6 => some (q6.1, q6.2)))))))))))
set_option maxHeartbeats 4000000 in
set_option maxRecDepth 100000 in
theorem kX11_bells {V : jV} {F : Nat} {x1 : Int32} {x2 : Int32} {σ : jS} {v : (Int32 × jS)} (hm : mX11_bells F x1 x2 σ = some v) : Ct cfX 70 V yX11_bells cX11_bells 3 (some .int) 2 [.ref (vad V 0), .int x1, .int x2] σ v := by
  refine j_start (own := RX11) (by decide) rfl (Nat.le_of_ble_eq_true rfl) ?_
  intro G hV C
  subst hV
  unfold mX11_bells at hm
  show JX G 0 [(0, .ref (vad (gV G) 0)), (1, .int x1), (2, .int x2)] [] σ v
  refine j_iloadn (pc := 0) C 1 dX11_bells_0 rfl rfl ?_
  refine j_iconst (v := 1) (pc := 1) C dX11_bells_1 (by decide) ?_
  refine j_iconst (v := 5) (pc := 2) C dX11_bells_2 (by decide) ?_
  obtain ⟨q1, hq1, hm⟩ := Option.bind_eq_some_iff.mp hm
  refine cl_X11_96 (pc := 3) C (kX11_isWithin hq1) (by decide) (Nat.le_of_ble_eq_true rfl) dX11_bells_3 ?_
  refine j_if_eq (tgt := 31) (pc := 6) C dX11_bells_6 (by decide) hm (fun _ hm => ?_) (fun _ hm => ?_)
  · refine j_iconst (v := -1) (pc := 31) C dX11_bells_31 (by decide) ?_
    exact j_iretS (pc := 32) C rfl dX11_bells_32 hm
  · refine j_iloadn (pc := 9) C 2 dX11_bells_9 rfl rfl ?_
    refine j_iconst (v := 1) (pc := 10) C dX11_bells_10 (by decide) ?_
    refine j_sipush (v := 9999) (pc := 11) C dX11_bells_11 (by decide) ?_
    obtain ⟨q2, hq2, hm⟩ := Option.bind_eq_some_iff.mp hm
    refine cl_X11_96 (pc := 14) C (kX11_isWithin hq2) (by decide) (Nat.le_of_ble_eq_true rfl) dX11_bells_14 ?_
    refine j_if_eq (tgt := 31) (pc := 17) C dX11_bells_17 (by decide) hm (fun _ hm => ?_) (fun _ hm => ?_)
    · refine j_iconst (v := -1) (pc := 31) C dX11_bells_31 (by decide) ?_
      exact j_iretS (pc := 32) C rfl dX11_bells_32 hm
    · refine j_aloadn (pc := 20) C 0 dX11_bells_20 rfl rfl ?_
      refine gf_X11_10 (c := 0) (pc := 21) C kx_0 dX11_bells_21 ?_
      refine j_iloadn (pc := 24) C 1 dX11_bells_24 rfl rfl ?_
      obtain ⟨q3, hq3, hm⟩ := Option.bind_eq_some_iff.mp hm
      refine cl_X11_123 (c := 1) (pc := 25) C kx_1 (kX10_has hq3) (by decide) (Nat.le_of_ble_eq_true rfl) dX11_bells_25 ?_
      refine j_if_ne (tgt := 33) (pc := 28) C dX11_bells_28 (by decide) hm (fun _ hm => ?_) (fun _ hm => ?_)
      · refine j_iconst (v := -1) (pc := 31) C dX11_bells_31 (by decide) ?_
        exact j_iretS (pc := 32) C rfl dX11_bells_32 hm
      · refine j_aloadn (pc := 33) C 0 dX11_bells_33 rfl rfl ?_
        refine gf_X11_10 (c := 0) (pc := 34) C kx_0 dX11_bells_34 ?_
        refine j_iloadn (pc := 37) C 1 dX11_bells_37 rfl rfl ?_
        obtain ⟨q4, hq4, hm⟩ := Option.bind_eq_some_iff.mp hm
        refine cl_X11_127 (c := 1) (pc := 38) C kx_1 (kX10_open hq4) (by decide) (Nat.le_of_ble_eq_true rfl) dX11_bells_38 ?_
        refine j_aloadn (pc := 41) C 0 dX11_bells_41 rfl rfl ?_
        refine gf_X11_88 (c := 0) (pc := 42) C kx_0 dX11_bells_42 ?_
        refine j_iloadn (pc := 45) C 1 dX11_bells_45 rfl rfl ?_
        obtain ⟨q5, hq5, hm⟩ := Option.bind_eq_some_iff.mp hm
        refine cl_X11_264 (c := 67) (pc := 46) C kx_67 (kX9_areBells hq5) (by decide) (Nat.le_of_ble_eq_true rfl) dX11_bells_46 ?_
        refine j_if_eq (tgt := 64) (pc := 49) C dX11_bells_49 (by decide) hm (fun _ hm => ?_) (fun _ hm => ?_)
        · refine j_bipush (v := -3) (pc := 64) C dX11_bells_64 (by decide) ?_
          exact j_iretS (pc := 66) C rfl dX11_bells_66 hm
        · refine j_aloadn (pc := 52) C 0 dX11_bells_52 rfl rfl ?_
          refine gf_X11_88 (c := 0) (pc := 53) C kx_0 dX11_bells_53 ?_
          refine j_iloadn (pc := 56) C 1 dX11_bells_56 rfl rfl ?_
          refine j_iloadn (pc := 57) C 2 dX11_bells_57 rfl rfl ?_
          obtain ⟨q6, hq6, hm⟩ := Option.bind_eq_some_iff.mp hm
          refine cl_X11_267 (c := 67) (pc := 58) C kx_67 (kX9_fewestBlows hq6) (by decide) (Nat.le_of_ble_eq_true rfl) dX11_bells_58 ?_
          refine j_goto (tgt := 66) (pc := 61) C dX11_bells_61 (by decide) ?_
          exact j_iretS (pc := 66) C rfl dX11_bells_66 hm

def mX11_seed (F : Nat) (x1 : Int32) (σ : jS) : Option (Int32 × jS) := (Option.bind (mX11_isWithin F x1 (0 : Int32) (65535 : Int32) σ) fun q1 => (if q1 = 0 then some ((0 : Int32), σ) else (lt (js σ 3 7 x1) fun σ2 => some ((1 : Int32), σ2))))
set_option maxHeartbeats 4000000 in
set_option maxRecDepth 100000 in
theorem kX11_seed {V : jV} {F : Nat} {x1 : Int32} {σ : jS} {v : (Int32 × jS)} (hm : mX11_seed F x1 σ = some v) : Ct cfX 70 V yX11_seed cX11_seed 2 (some .boolean) 1 [.ref (vad V 0), .int x1] σ v := by
  refine j_start (own := RX11) (by decide) rfl (Nat.le_of_ble_eq_true rfl) ?_
  intro G hV C
  subst hV
  unfold mX11_seed at hm
  show JX G 0 [(0, .ref (vad (gV G) 0)), (1, .int x1)] [] σ v
  refine j_iloadn (pc := 0) C 1 dX11_seed_0 rfl rfl ?_
  refine j_iconst (v := 0) (pc := 1) C dX11_seed_1 (by decide) ?_
  refine j_ldc (v := 65535) (pc := 2) C dX11_seed_2 tw_5_13 ?_
  obtain ⟨q1, hq1, hm⟩ := Option.bind_eq_some_iff.mp hm
  refine cl_X11_96 (pc := 4) C (kX11_isWithin hq1) (by decide) (Nat.le_of_ble_eq_true rfl) dX11_seed_4 ?_
  refine j_if_ne (tgt := 12) (pc := 7) C dX11_seed_7 (by decide) hm (fun _ hm => ?_) (fun _ hm => ?_)
  · refine j_iconst (v := 0) (pc := 10) C dX11_seed_10 (by decide) ?_
    exact j_zretS (pc := 11) C rfl rfl dX11_seed_11 hm
  · refine j_aloadn (pc := 12) C 0 dX11_seed_12 rfl rfl ?_
    refine gf_X11_19 (c := 0) (pc := 13) C kx_0 dX11_seed_13 ?_
    refine j_iloadn (pc := 16) C 1 dX11_seed_16 rfl rfl ?_
    refine pf_X11_270 (c := 3) (pc := 17) C kx_3 dX11_seed_17 hm (fun σ2 hm => ?_)
    refine j_iconst (v := 1) (pc := 20) C dX11_seed_20 (by decide) ?_
    exact j_zretS (pc := 21) C rfl rfl dX11_seed_21 hm

def mX11_keep (F : Nat) (σ : jS) : Option (Int32 × jS) := (Option.bind (mX0_copy F 13 3 σ) fun q1 => (lt (js q1 0 13 (1 : Int32)) fun σ2 => some ((σ2 3 6), σ2)))
set_option maxHeartbeats 4000000 in
set_option maxRecDepth 100000 in
theorem kX11_keep {V : jV} {F : Nat} {σ : jS} {v : (Int32 × jS)} (hm : mX11_keep F σ = some v) : Ct cfX 70 V yX11_keep cX11_keep 1 (some .int) 3 [.ref (vad V 0)] σ v := by
  refine j_start (own := RX11) (by decide) rfl (Nat.le_of_ble_eq_true rfl) ?_
  intro G hV C
  subst hV
  unfold mX11_keep at hm
  show JX G 0 [(0, .ref (vad (gV G) 0))] [] σ v
  refine j_aloadn (pc := 0) C 0 dX11_keep_0 rfl rfl ?_
  refine gf_X11_23 (c := 0) (pc := 1) C kx_0 dX11_keep_1 ?_
  refine j_aloadn (pc := 4) C 0 dX11_keep_4 rfl rfl ?_
  refine gf_X11_19 (c := 0) (pc := 5) C kx_0 dX11_keep_5 ?_
  obtain ⟨q1, hq1, hm⟩ := Option.bind_eq_some_iff.mp hm
  refine cl_X11_163 (c := 13) (pc := 8) C kx_13 (kX0_copy kx_13 kx_3 hq1) (by decide) (Nat.le_of_ble_eq_true rfl) dX11_keep_8 ?_
  refine j_aloadn (pc := 11) C 0 dX11_keep_11 rfl rfl ?_
  refine j_iconst (v := 1) (pc := 12) C dX11_keep_12 (by decide) ?_
  refine pf_X11_92 (c := 0) (pc := 13) C kx_0 rfl dX11_keep_13 hm (fun σ2 hm => ?_)
  refine j_aloadn (pc := 16) C 0 dX11_keep_16 rfl rfl ?_
  refine gf_X11_19 (c := 0) (pc := 17) C kx_0 dX11_keep_17 ?_
  refine gf_X11_273 (c := 3) (pc := 20) C kx_3 dX11_keep_20 ?_
  exact j_iretS (pc := 23) C rfl dX11_keep_23 hm

def mX11_undo (F : Nat) (σ : jS) : Option (Int32 × jS) := (if (σ 0 13) = 0 then (lt (σ 0 13) fun y1 => (if jbo y1 = true then some (y1, σ) else none)) else (Option.bind (mX0_copy F 3 13 σ) fun q3 => (lt (q3 0 13) fun y4 => (if jbo y4 = true then some (y4, q3) else none))))
set_option maxHeartbeats 4000000 in
set_option maxRecDepth 100000 in
theorem kX11_undo {V : jV} {F : Nat} {σ : jS} {v : (Int32 × jS)} (hm : mX11_undo F σ = some v) : Ct cfX 70 V yX11_undo cX11_undo 1 (some .boolean) 3 [.ref (vad V 0)] σ v := by
  refine j_start (own := RX11) (by decide) rfl (Nat.le_of_ble_eq_true rfl) ?_
  intro G hV C
  subst hV
  unfold mX11_undo at hm
  show JX G 0 [(0, .ref (vad (gV G) 0))] [] σ v
  refine j_aloadn (pc := 0) C 0 dX11_undo_0 rfl rfl ?_
  refine gf_X11_92 (c := 0) (pc := 1) C kx_0 dX11_undo_1 ?_
  refine j_if_eq (tgt := 18) (pc := 4) C dX11_undo_4 (by decide) hm (fun _ hm => ?_) (fun _ hm => ?_)
  · refine j_aloadn (pc := 18) C 0 dX11_undo_18 rfl rfl ?_
    refine gf_X11_92 (c := 0) (pc := 19) C kx_0 dX11_undo_19 ?_
    refine j_lti hm (fun y1 hm => ?_)
    refine j_guard hm (fun hb2 hm => ?_)
    exact j_zretS (pc := 22) C rfl hb2 dX11_undo_22 hm
  · refine j_aloadn (pc := 7) C 0 dX11_undo_7 rfl rfl ?_
    refine gf_X11_19 (c := 0) (pc := 8) C kx_0 dX11_undo_8 ?_
    refine j_aloadn (pc := 11) C 0 dX11_undo_11 rfl rfl ?_
    refine gf_X11_23 (c := 0) (pc := 12) C kx_0 dX11_undo_12 ?_
    obtain ⟨q3, hq3, hm⟩ := Option.bind_eq_some_iff.mp hm
    refine cl_X11_163 (c := 3) (pc := 15) C kx_3 (kX0_copy kx_3 kx_13 hq3) (by decide) (Nat.le_of_ble_eq_true rfl) dX11_undo_15 ?_
    refine j_aloadn (pc := 18) C 0 dX11_undo_18 rfl rfl ?_
    refine gf_X11_92 (c := 0) (pc := 19) C kx_0 dX11_undo_19 ?_
    refine j_lti hm (fun y4 hm => ?_)
    refine j_guard hm (fun hb5 hm => ?_)
    exact j_zretS (pc := 22) C rfl hb5 dX11_undo_22 hm

def jn_X11_check_55 (F : Nat) (k34 : Int32 → Int32 → jS → Option (Int32 × jS)) (x1 : Int32) (x2 : Int32) (s0 : Int32) (σ : jS) : Option (Int32 × jS) := (Option.bind (mX0_isTold F 3 x2 σ) fun q5 => (if q5 = 0 then (Option.bind (mX10_byteAt F x2 σ) fun q6 => (if q6 = (255 : Int32) then (k34 x1 ((x2 + (1 : Int32))) σ) else some (x2, σ))) else (Option.bind (mX10_byteAt F x2 σ) fun q7 => (if q7 = s0 then (k34 x1 ((x2 + (1 : Int32))) σ) else some (x2, σ)))))
set_option maxHeartbeats 4000000 in
set_option maxRecDepth 100000 in
theorem jn_X11_check_55_ok {G : jG} (C : jc cfX 70 G cX11_check RX11 4 (some .int) 2) (F : Nat) {v : (Int32 × jS)} (k34 : Int32 → Int32 → jS → Option (Int32 × jS)) (hk34 : ∀ (x1 : Int32) (x2 : Int32) (σ : jS), k34 x1 x2 σ = some v → JX G 34 [(0, .ref (vad (gV G) 0)), (1, .int x1), (2, .int x2)] [] σ v) : ∀ (x1 : Int32) (x2 : Int32) (s0 : Int32) (σ : jS), jn_X11_check_55 F k34 x1 x2 s0 σ = some v → JX G 55 [(0, .ref (vad (gV G) 0)), (1, .int x1), (2, .int x2)] [.int s0] σ v := by
  intro x1 x2 s0 σ hm
  unfold jn_X11_check_55 at hm
  refine j_istoren (ls' := [(3, .int s0), (0, .ref (vad (gV G) 0)), (1, .int x1), (2, .int x2)]) (pc := 55) C dX11_check_55 rfl (by decide) rfl ?_
  refine j_aloadn (pc := 56) C 1 dX11_check_56 rfl rfl ?_
  refine gf_X11_19 (c := 0) (pc := 57) C kx_0 dX11_check_57 ?_
  refine j_iloadn (pc := 60) C 3 dX11_check_60 rfl rfl ?_
  obtain ⟨q5, hq5, hm⟩ := Option.bind_eq_some_iff.mp hm
  refine cl_X11_159 (c := 3) (pc := 61) C kx_3 (kX0_isTold kx_3 hq5) (by decide) (Nat.le_of_ble_eq_true rfl) dX11_check_61 ?_
  refine j_if_ne (tgt := 71) (pc := 64) C dX11_check_64 (by decide) hm (fun _ hm => ?_) (fun _ hm => ?_)
  · refine j_sipush (v := 255) (pc := 67) C dX11_check_67 (by decide) ?_
    refine j_istoren (ls' := [(3, .int (255 : Int32)), (0, .ref (vad (gV G) 0)), (1, .int x1), (2, .int x2)]) (pc := 70) C dX11_check_70 rfl (by decide) rfl ?_
    refine j_aloadn (pc := 71) C 1 dX11_check_71 rfl rfl ?_
    refine gf_X11_10 (c := 0) (pc := 72) C kx_0 dX11_check_72 ?_
    refine j_iloadn (pc := 75) C 3 dX11_check_75 rfl rfl ?_
    obtain ⟨q6, hq6, hm⟩ := Option.bind_eq_some_iff.mp hm
    refine cl_X11_248 (c := 1) (pc := 76) C kx_1 (kX10_byteAt hq6) (by decide) (Nat.le_of_ble_eq_true rfl) dX11_check_76 ?_
    refine j_iloadn (pc := 79) C 0 dX11_check_79 rfl rfl ?_
    refine j_icmp_eq (tgt := 85) (pc := 80) C dX11_check_80 (by decide) hm (fun _ hm => ?_) (fun _ hm => ?_)
    · refine j_iinc (v := (x2 + (1 : Int32))) (ls' := [(2, .int (x2 + (1 : Int32))), (3, .int (255 : Int32)), (0, .ref (vad (gV G) 0)), (1, .int x1)]) (pc := 85) C 3 dX11_check_85 rfl rfl (by decide) rfl ?_
      refine j_goto (tgt := 34) (pc := 88) C dX11_check_88 (by decide) ?_
      refine j_ls [2, 3, 0] rfl ?_
      exact hk34 _ _ _ hm
    · refine j_iloadn (pc := 83) C 3 dX11_check_83 rfl rfl ?_
      exact j_iretS (pc := 84) C rfl dX11_check_84 hm
  · refine j_aloadn (pc := 71) C 1 dX11_check_71 rfl rfl ?_
    refine gf_X11_10 (c := 0) (pc := 72) C kx_0 dX11_check_72 ?_
    refine j_iloadn (pc := 75) C 3 dX11_check_75 rfl rfl ?_
    obtain ⟨q7, hq7, hm⟩ := Option.bind_eq_some_iff.mp hm
    refine cl_X11_248 (c := 1) (pc := 76) C kx_1 (kX10_byteAt hq7) (by decide) (Nat.le_of_ble_eq_true rfl) dX11_check_76 ?_
    refine j_iloadn (pc := 79) C 0 dX11_check_79 rfl rfl ?_
    refine j_icmp_eq (tgt := 85) (pc := 80) C dX11_check_80 (by decide) hm (fun _ hm => ?_) (fun _ hm => ?_)
    · refine j_iinc (v := (x2 + (1 : Int32))) (ls' := [(2, .int (x2 + (1 : Int32))), (3, .int s0), (0, .ref (vad (gV G) 0)), (1, .int x1)]) (pc := 85) C 3 dX11_check_85 rfl rfl (by decide) rfl ?_
      refine j_goto (tgt := 34) (pc := 88) C dX11_check_88 (by decide) ?_
      refine j_ls [2, 3, 0] rfl ?_
      exact hk34 _ _ _ hm
    · refine j_iloadn (pc := 83) C 3 dX11_check_83 rfl rfl ?_
      exact j_iretS (pc := 84) C rfl dX11_check_84 hm

def lp_X11_check_34 (F : Nat) : Nat → Int32 → Int32 → jS → Option (Int32 × jS)
  | 0, _, _, _ => none
  | n + 1, x1, x2, σ => (if x2 < x1 then (Option.bind (mX0_isLiving F 3 x2 σ) fun q4 => (if q4 = 0 then (jn_X11_check_55 F (lp_X11_check_34 F n) x1 x2 (0 : Int32) σ) else (jn_X11_check_55 F (lp_X11_check_34 F n) x1 x2 (1 : Int32) σ))) else some ((-1 : Int32), σ))
set_option maxHeartbeats 4000000 in
set_option maxRecDepth 100000 in
theorem lp_X11_check_34_ok {G : jG} (C : jc cfX 70 G cX11_check RX11 4 (some .int) 2) (F : Nat) {v : (Int32 × jS)} : ∀ (n : Nat) (x1 : Int32) (x2 : Int32) (σ : jS), lp_X11_check_34 F n x1 x2 σ = some v → JX G 34 [(0, .ref (vad (gV G) 0)), (1, .int x1), (2, .int x2)] [] σ v := by
  intro n
  induction n with
  | zero =>
    intro x1 x2 σ hm
    rw [lp_X11_check_34] at hm
    cases hm
  | succ n ih =>
    intro x1 x2 σ hm
    rw [lp_X11_check_34] at hm
    refine j_iloadn (pc := 34) C 2 dX11_check_34 rfl rfl ?_
    refine j_iloadn (pc := 35) C 1 dX11_check_35 rfl rfl ?_
    refine j_icmp_ge (tgt := 91) (pc := 36) C dX11_check_36 (by decide) hm (fun _ hm => ?_) (fun _ hm => ?_)
    · refine j_aloadn (pc := 39) C 0 dX11_check_39 rfl rfl ?_
      refine gf_X11_19 (c := 0) (pc := 40) C kx_0 dX11_check_40 ?_
      refine j_iloadn (pc := 43) C 2 dX11_check_43 rfl rfl ?_
      obtain ⟨q4, hq4, hm⟩ := Option.bind_eq_some_iff.mp hm
      refine cl_X11_179 (c := 3) (pc := 44) C kx_3 (kX0_isLiving kx_3 hq4) (by decide) (Nat.le_of_ble_eq_true rfl) dX11_check_44 ?_
      refine j_if_eq (tgt := 54) (pc := 47) C dX11_check_47 (by decide) hm (fun _ hm => ?_) (fun _ hm => ?_)
      · refine j_iconst (v := 0) (pc := 54) C dX11_check_54 (by decide) ?_
        exact jn_X11_check_55_ok C F _ (fun _ _ _ hm => ih _ _ _ hm) _ _ _ _ hm
      · refine j_iconst (v := 1) (pc := 50) C dX11_check_50 (by decide) ?_
        refine j_goto (tgt := 55) (pc := 51) C dX11_check_51 (by decide) ?_
        exact jn_X11_check_55_ok C F _ (fun _ _ _ hm => ih _ _ _ hm) _ _ _ _ hm
    · refine j_iconst (v := -1) (pc := 91) C dX11_check_91 (by decide) ?_
      exact j_iretS (pc := 92) C rfl dX11_check_92 hm

def mX11_check (F : Nat) (x1 : Int32) (σ : jS) : Option (Int32 × jS) := (Option.bind (mX11_isWithin F x1 (0 : Int32) (16 : Int32) σ) fun q1 => (if q1 = 0 then some ((-2 : Int32), σ) else (Option.bind (mX10_has F x1 σ) fun q2 => (if q2 = 0 then some ((-2 : Int32), σ) else (Option.bind (mX10_open F x1 σ) fun q3 => (lp_X11_check_34 F F x1 (0 : Int32) q3))))))
set_option maxHeartbeats 4000000 in
set_option maxRecDepth 100000 in
theorem kX11_check {V : jV} {F : Nat} {x1 : Int32} {σ : jS} {v : (Int32 × jS)} (hm : mX11_check F x1 σ = some v) : Ct cfX 70 V yX11_check cX11_check 4 (some .int) 2 [.ref (vad V 0), .int x1] σ v := by
  refine j_start (own := RX11) (by decide) rfl (Nat.le_of_ble_eq_true rfl) ?_
  intro G hV C
  subst hV
  unfold mX11_check at hm
  show JX G 0 [(0, .ref (vad (gV G) 0)), (1, .int x1)] [] σ v
  refine j_iloadn (pc := 0) C 1 dX11_check_0 rfl rfl ?_
  refine j_iconst (v := 0) (pc := 1) C dX11_check_1 (by decide) ?_
  refine j_bipush (v := 16) (pc := 2) C dX11_check_2 (by decide) ?_
  obtain ⟨q1, hq1, hm⟩ := Option.bind_eq_some_iff.mp hm
  refine cl_X11_96 (pc := 4) C (kX11_isWithin hq1) (by decide) (Nat.le_of_ble_eq_true rfl) dX11_check_4 ?_
  refine j_if_eq (tgt := 21) (pc := 7) C dX11_check_7 (by decide) hm (fun _ hm => ?_) (fun _ hm => ?_)
  · refine j_bipush (v := -2) (pc := 21) C dX11_check_21 (by decide) ?_
    exact j_iretS (pc := 23) C rfl dX11_check_23 hm
  · refine j_aloadn (pc := 10) C 0 dX11_check_10 rfl rfl ?_
    refine gf_X11_10 (c := 0) (pc := 11) C kx_0 dX11_check_11 ?_
    refine j_iloadn (pc := 14) C 1 dX11_check_14 rfl rfl ?_
    obtain ⟨q2, hq2, hm⟩ := Option.bind_eq_some_iff.mp hm
    refine cl_X11_123 (c := 1) (pc := 15) C kx_1 (kX10_has hq2) (by decide) (Nat.le_of_ble_eq_true rfl) dX11_check_15 ?_
    refine j_if_ne (tgt := 24) (pc := 18) C dX11_check_18 (by decide) hm (fun _ hm => ?_) (fun _ hm => ?_)
    · refine j_bipush (v := -2) (pc := 21) C dX11_check_21 (by decide) ?_
      exact j_iretS (pc := 23) C rfl dX11_check_23 hm
    · refine j_aloadn (pc := 24) C 0 dX11_check_24 rfl rfl ?_
      refine gf_X11_10 (c := 0) (pc := 25) C kx_0 dX11_check_25 ?_
      refine j_iloadn (pc := 28) C 1 dX11_check_28 rfl rfl ?_
      obtain ⟨q3, hq3, hm⟩ := Option.bind_eq_some_iff.mp hm
      refine cl_X11_127 (c := 1) (pc := 29) C kx_1 (kX10_open hq3) (by decide) (Nat.le_of_ble_eq_true rfl) dX11_check_29 ?_
      refine j_iconst (v := 0) (pc := 32) C dX11_check_32 (by decide) ?_
      refine j_istoren (ls' := [(2, .int (0 : Int32)), (0, .ref (vad (gV G) 0)), (1, .int x1)]) (pc := 33) C dX11_check_33 rfl (by decide) rfl ?_
      refine j_ls [1, 2, 0] rfl ?_
      exact lp_X11_check_34_ok C F  F _ _ _ hm

def mX11_count (F : Nat) (x1 : Int32) (σ : jS) : Option Int32 := (if x1 = (0 : Int32) then some (σ 3 6) else (if x1 = (1 : Int32) then some (σ 3 3) else (if x1 = (2 : Int32) then some (σ 3 4) else (if x1 = (3 : Int32) then some (σ 3 5) else (if x1 = (4 : Int32) then some (σ 6 6) else (if x1 = (5 : Int32) then (lt (σ 0 11).toNatClampNeg fun e1 => if kX e1 = 3 then some (σ e1 6) else none) else (if x1 = (6 : Int32) then some (σ 1 1) else (if x1 = (7 : Int32) then some (σ 3 7) else (if x1 = (8 : Int32) then (Option.bind (mX0_richest F 3 σ) fun q2 => some q2) else some (-1 : Int32))))))))))
set_option maxHeartbeats 4000000 in
set_option maxRecDepth 100000 in
theorem kX11_count {V : jV} {F : Nat} {x1 : Int32} {σ : jS} {v : Int32} (hm : mX11_count F x1 σ = some v) : Ct cfX 70 V yX11_count cX11_count 2 (some .int) 2 [.ref (vad V 0), .int x1] σ (v, σ) := by
  refine j_start (own := RX11) (by decide) rfl (Nat.le_of_ble_eq_true rfl) ?_
  intro G hV C
  subst hV
  unfold mX11_count at hm
  show JX G 0 [(0, .ref (vad (gV G) 0)), (1, .int x1)] [] σ (v, σ)
  refine j_iloadn (pc := 0) C 1 dX11_count_0 rfl rfl ?_
  refine j_sw (b := 0) hm (fun hs hm => ?_) (fun hs0 hm => ?_)
  · refine j_swIn (tgt := 52) (b := 0) (pc := 1) C dX11_count_1 hs (by decide) (by decide) rfl (by decide) ?_
    refine j_aloadn (pc := 52) C 0 dX11_count_52 rfl rfl ?_
    refine gf_X11_19 (c := 0) (pc := 53) C kx_0 dX11_count_53 ?_
    refine gf_X11_273 (c := 3) (pc := 56) C kx_3 dX11_count_56 ?_
    exact j_iret (pc := 59) C rfl dX11_count_59 hm
  · refine j_sw (b := 1) hm (fun hs hm => ?_) (fun hs1 hm => ?_)
    · refine j_swIn (tgt := 60) (b := 1) (pc := 1) C dX11_count_1 hs (by decide) (by decide) rfl (by decide) ?_
      refine j_aloadn (pc := 60) C 0 dX11_count_60 rfl rfl ?_
      refine gf_X11_19 (c := 0) (pc := 61) C kx_0 dX11_count_61 ?_
      refine gf_X11_109 (c := 3) (pc := 64) C kx_3 dX11_count_64 ?_
      exact j_iret (pc := 67) C rfl dX11_count_67 hm
    · refine j_sw (b := 2) hm (fun hs hm => ?_) (fun hs2 hm => ?_)
      · refine j_swIn (tgt := 68) (b := 2) (pc := 1) C dX11_count_1 hs (by decide) (by decide) rfl (by decide) ?_
        refine j_aloadn (pc := 68) C 0 dX11_count_68 rfl rfl ?_
        refine gf_X11_19 (c := 0) (pc := 69) C kx_0 dX11_count_69 ?_
        refine gf_X11_113 (c := 3) (pc := 72) C kx_3 dX11_count_72 ?_
        exact j_iret (pc := 75) C rfl dX11_count_75 hm
      · refine j_sw (b := 3) hm (fun hs hm => ?_) (fun hs3 hm => ?_)
        · refine j_swIn (tgt := 76) (b := 3) (pc := 1) C dX11_count_1 hs (by decide) (by decide) rfl (by decide) ?_
          refine j_aloadn (pc := 76) C 0 dX11_count_76 rfl rfl ?_
          refine gf_X11_19 (c := 0) (pc := 77) C kx_0 dX11_count_77 ?_
          refine gf_X11_172 (c := 3) (pc := 80) C kx_3 dX11_count_80 ?_
          exact j_iret (pc := 83) C rfl dX11_count_83 hm
        · refine j_sw (b := 4) hm (fun hs hm => ?_) (fun hs4 hm => ?_)
          · refine j_swIn (tgt := 84) (b := 4) (pc := 1) C dX11_count_1 hs (by decide) (by decide) rfl (by decide) ?_
            refine j_aloadn (pc := 84) C 0 dX11_count_84 rfl rfl ?_
            refine gf_X11_19 (c := 0) (pc := 85) C kx_0 dX11_count_85 ?_
            refine gf_X11_143 (c := 3) (pc := 88) C kx_3 dX11_count_88 ?_
            refine gf_X11_154 (c := 6) (pc := 91) C kx_6 dX11_count_91 ?_
            exact j_iret (pc := 94) C rfl dX11_count_94 hm
          · refine j_sw (b := 5) hm (fun hs hm => ?_) (fun hs5 hm => ?_)
            · refine j_swIn (tgt := 95) (b := 5) (pc := 1) C dX11_count_1 hs (by decide) (by decide) rfl (by decide) ?_
              refine j_aloadn (pc := 95) C 0 dX11_count_95 rfl rfl ?_
              refine gf_X11_55 (c := 0) (pc := 96) C kx_0 dX11_count_96 ?_
              refine j_ltn hm (fun e1 hm => ?_)
              refine j_guardN hm (fun he1 hm => ?_)
              refine gf_X11_137 (c := e1) (pc := 99) C he1 dX11_count_99 ?_
              exact j_iret (pc := 102) C rfl dX11_count_102 hm
            · refine j_sw (b := 6) hm (fun hs hm => ?_) (fun hs6 hm => ?_)
              · refine j_swIn (tgt := 103) (b := 6) (pc := 1) C dX11_count_1 hs (by decide) (by decide) rfl (by decide) ?_
                refine j_aloadn (pc := 103) C 0 dX11_count_103 rfl rfl ?_
                refine gf_X11_10 (c := 0) (pc := 104) C kx_0 dX11_count_104 ?_
                refine gf_X11_116 (c := 1) (pc := 107) C kx_1 dX11_count_107 ?_
                exact j_iret (pc := 110) C rfl dX11_count_110 hm
              · refine j_sw (b := 7) hm (fun hs hm => ?_) (fun hs7 hm => ?_)
                · refine j_swIn (tgt := 111) (b := 7) (pc := 1) C dX11_count_1 hs (by decide) (by decide) rfl (by decide) ?_
                  refine j_aloadn (pc := 111) C 0 dX11_count_111 rfl rfl ?_
                  refine gf_X11_19 (c := 0) (pc := 112) C kx_0 dX11_count_112 ?_
                  refine gf_X11_270 (c := 3) (pc := 115) C kx_3 dX11_count_115 ?_
                  exact j_iret (pc := 118) C rfl dX11_count_118 hm
                · refine j_sw (b := 8) hm (fun hs hm => ?_) (fun hs8 hm => ?_)
                  · refine j_swIn (tgt := 119) (b := 8) (pc := 1) C dX11_count_1 hs (by decide) (by decide) rfl (by decide) ?_
                    refine j_aloadn (pc := 119) C 0 dX11_count_119 rfl rfl ?_
                    refine gf_X11_19 (c := 0) (pc := 120) C kx_0 dX11_count_120 ?_
                    obtain ⟨q2, hq2, hm⟩ := Option.bind_eq_some_iff.mp hm
                    refine cl_X11_276 (c := 3) (pc := 123) C kx_3 (kX0_richest kx_3 hq2) (by decide) (Nat.le_of_ble_eq_true rfl) dX11_count_123 ?_
                    exact j_iret (pc := 126) C rfl dX11_count_126 hm
                  · refine j_swOut (tgt := 127) (pc := 1) C dX11_count_1 (by have hx := jsw_out (lo := 0) (n := 9) (by decide) (by decide) (fun i hi => by rcases i with _ | _ | _ | _ | _ | _ | _ | _ | _ | i <;> first | assumption | (exact absurd hi (by omega))); exact hx) (by decide) ?_
                    refine j_iconst (v := -1) (pc := 127) C dX11_count_127 (by decide) ?_
                    exact j_iret (pc := 128) C rfl dX11_count_128 hm

