theorem dX12_dueAfter_0 : decode cX12_dueAfter 0 = .ok (.aload_n 0, 1) := by decide +kernel
theorem dX12_dueAfter_1 : decode cX12_dueAfter 1 = .ok (.iload_n 1, 1) := by decide +kernel
theorem dX12_dueAfter_2 : decode cX12_dueAfter 2 = .ok (.invokevirtual 327, 3) := by decide +kernel
theorem dX12_dueAfter_5 : decode cX12_dueAfter 5 = .ok (.ifCond .eq 14, 3) := by decide +kernel
theorem dX12_dueAfter_8 : decode cX12_dueAfter 8 = .ok (.iload_n 2, 1) := by decide +kernel
theorem dX12_dueAfter_9 : decode cX12_dueAfter 9 = .ok (.iconst 0, 1) := by decide +kernel
theorem dX12_dueAfter_10 : decode cX12_dueAfter 10 = .ok (.sipush 3650, 3) := by decide +kernel
theorem dX12_dueAfter_13 : decode cX12_dueAfter 13 = .ok (.invokestatic 107, 3) := by decide +kernel
theorem dX12_dueAfter_16 : decode cX12_dueAfter 16 = .ok (.ifCond .ne 5, 3) := by decide +kernel
theorem dX12_dueAfter_19 : decode cX12_dueAfter 19 = .ok (.iconst (-1), 1) := by decide +kernel
theorem dX12_dueAfter_20 : decode cX12_dueAfter 20 = .ok (.ireturn, 1) := by decide +kernel
theorem dX12_dueAfter_21 : decode cX12_dueAfter 21 = .ok (.aload_n 0, 1) := by decide +kernel
theorem dX12_dueAfter_22 : decode cX12_dueAfter 22 = .ok (.getfield 7, 3) := by decide +kernel
theorem dX12_dueAfter_25 : decode cX12_dueAfter 25 = .ok (.sipush 184, 3) := by decide +kernel
theorem dX12_dueAfter_28 : decode cX12_dueAfter 28 = .ok (.iload_n 1, 1) := by decide +kernel
theorem dX12_dueAfter_29 : decode cX12_dueAfter 29 = .ok (.iadd, 1) := by decide +kernel
theorem dX12_dueAfter_30 : decode cX12_dueAfter 30 = .ok (.iaload, 1) := by decide +kernel
theorem dX12_dueAfter_31 : decode cX12_dueAfter 31 = .ok (.istore_n 3, 1) := by decide +kernel
theorem dX12_dueAfter_32 : decode cX12_dueAfter 32 = .ok (.iconst 0, 1) := by decide +kernel
theorem dX12_dueAfter_33 : decode cX12_dueAfter 33 = .ok (.istore 4, 2) := by decide +kernel
theorem dX12_dueAfter_35 : decode cX12_dueAfter 35 = .ok (.iload 4, 2) := by decide +kernel
theorem dX12_dueAfter_37 : decode cX12_dueAfter 37 = .ok (.iload_n 2, 1) := by decide +kernel
theorem dX12_dueAfter_38 : decode cX12_dueAfter 38 = .ok (.if_icmp .ge 37, 3) := by decide +kernel
theorem dX12_dueAfter_41 : decode cX12_dueAfter 41 = .ok (.iload_n 3, 1) := by decide +kernel
theorem dX12_dueAfter_42 : decode cX12_dueAfter 42 = .ok (.aload_n 0, 1) := by decide +kernel
theorem dX12_dueAfter_43 : decode cX12_dueAfter 43 = .ok (.getfield 7, 3) := by decide +kernel
theorem dX12_dueAfter_46 : decode cX12_dueAfter 46 = .ok (.sipush 136, 3) := by decide +kernel
theorem dX12_dueAfter_49 : decode cX12_dueAfter 49 = .ok (.iload_n 1, 1) := by decide +kernel
theorem dX12_dueAfter_50 : decode cX12_dueAfter 50 = .ok (.iadd, 1) := by decide +kernel
theorem dX12_dueAfter_51 : decode cX12_dueAfter 51 = .ok (.iaload, 1) := by decide +kernel
theorem dX12_dueAfter_52 : decode cX12_dueAfter 52 = .ok (.invokestatic 309, 3) := by decide +kernel
theorem dX12_dueAfter_55 : decode cX12_dueAfter 55 = .ok (.aload_n 0, 1) := by decide +kernel
theorem dX12_dueAfter_56 : decode cX12_dueAfter 56 = .ok (.getfield 7, 3) := by decide +kernel
theorem dX12_dueAfter_59 : decode cX12_dueAfter 59 = .ok (.sipush 160, 3) := by decide +kernel
theorem dX12_dueAfter_62 : decode cX12_dueAfter 62 = .ok (.iload_n 1, 1) := by decide +kernel
theorem dX12_dueAfter_63 : decode cX12_dueAfter 63 = .ok (.iadd, 1) := by decide +kernel
theorem dX12_dueAfter_64 : decode cX12_dueAfter 64 = .ok (.iaload, 1) := by decide +kernel
theorem dX12_dueAfter_65 : decode cX12_dueAfter 65 = .ok (.invokestatic 347, 3) := by decide +kernel
theorem dX12_dueAfter_68 : decode cX12_dueAfter 68 = .ok (.istore_n 3, 1) := by decide +kernel
theorem dX12_dueAfter_69 : decode cX12_dueAfter 69 = .ok (.iinc 4 1, 3) := by decide +kernel
theorem dX12_dueAfter_72 : decode cX12_dueAfter 72 = .ok (.goto (-37), 3) := by decide +kernel
theorem dX12_dueAfter_75 : decode cX12_dueAfter 75 = .ok (.iload_n 3, 1) := by decide +kernel
theorem dX12_dueAfter_76 : decode cX12_dueAfter 76 = .ok (.ireturn, 1) := by decide +kernel
theorem dX12_doingAs_0 : decode cX12_doingAs 0 = .ok (.iload_n 1, 1) := by decide +kernel
theorem dX12_doingAs_1 : decode cX12_doingAs 1 = .ok (.istore_n 3, 1) := by decide +kernel
theorem dX12_doingAs_2 : decode cX12_doingAs 2 = .ok (.iconst 0, 1) := by decide +kernel
theorem dX12_doingAs_3 : decode cX12_doingAs 3 = .ok (.istore 4, 2) := by decide +kernel
theorem dX12_doingAs_5 : decode cX12_doingAs 5 = .ok (.iload 4, 2) := by decide +kernel
theorem dX12_doingAs_7 : decode cX12_doingAs 7 = .ok (.bipush 16, 2) := by decide +kernel
theorem dX12_doingAs_9 : decode cX12_doingAs 9 = .ok (.if_icmp .ge 67, 3) := by decide +kernel
theorem dX12_doingAs_12 : decode cX12_doingAs 12 = .ok (.iconst 0, 1) := by decide +kernel
theorem dX12_doingAs_13 : decode cX12_doingAs 13 = .ok (.istore 5, 2) := by decide +kernel
theorem dX12_doingAs_15 : decode cX12_doingAs 15 = .ok (.iload 5, 2) := by decide +kernel
theorem dX12_doingAs_17 : decode cX12_doingAs 17 = .ok (.bipush 16, 2) := by decide +kernel
theorem dX12_doingAs_19 : decode cX12_doingAs 19 = .ok (.if_icmp .ge 51, 3) := by decide +kernel
theorem dX12_doingAs_22 : decode cX12_doingAs 22 = .ok (.iload_n 1, 1) := by decide +kernel
theorem dX12_doingAs_23 : decode cX12_doingAs 23 = .ok (.iload 4, 2) := by decide +kernel
theorem dX12_doingAs_25 : decode cX12_doingAs 25 = .ok (.invokestatic 350, 3) := by decide +kernel
theorem dX12_doingAs_28 : decode cX12_doingAs 28 = .ok (.ifCond .eq 36, 3) := by decide +kernel
theorem dX12_doingAs_31 : decode cX12_doingAs 31 = .ok (.aload_n 0, 1) := by decide +kernel
theorem dX12_doingAs_32 : decode cX12_doingAs 32 = .ok (.iload 5, 2) := by decide +kernel
theorem dX12_doingAs_34 : decode cX12_doingAs 34 = .ok (.invokevirtual 115, 3) := by decide +kernel
theorem dX12_doingAs_37 : decode cX12_doingAs 37 = .ok (.ifCond .eq 27, 3) := by decide +kernel
theorem dX12_doingAs_40 : decode cX12_doingAs 40 = .ok (.aload_n 0, 1) := by decide +kernel
theorem dX12_doingAs_41 : decode cX12_doingAs 41 = .ok (.iload 4, 2) := by decide +kernel
theorem dX12_doingAs_43 : decode cX12_doingAs 43 = .ok (.iload_n 2, 1) := by decide +kernel
theorem dX12_doingAs_44 : decode cX12_doingAs 44 = .ok (.invokevirtual 275, 3) := by decide +kernel
theorem dX12_doingAs_47 : decode cX12_doingAs 47 = .ok (.aload_n 0, 1) := by decide +kernel
theorem dX12_doingAs_48 : decode cX12_doingAs 48 = .ok (.iload 5, 2) := by decide +kernel
theorem dX12_doingAs_50 : decode cX12_doingAs 50 = .ok (.iload_n 2, 1) := by decide +kernel
theorem dX12_doingAs_51 : decode cX12_doingAs 51 = .ok (.invokevirtual 275, 3) := by decide +kernel
theorem dX12_doingAs_54 : decode cX12_doingAs 54 = .ok (.if_icmp .ne 10, 3) := by decide +kernel
theorem dX12_doingAs_57 : decode cX12_doingAs 57 = .ok (.iload_n 3, 1) := by decide +kernel
theorem dX12_doingAs_58 : decode cX12_doingAs 58 = .ok (.iconst 1, 1) := by decide +kernel
theorem dX12_doingAs_59 : decode cX12_doingAs 59 = .ok (.iload 5, 2) := by decide +kernel
theorem dX12_doingAs_61 : decode cX12_doingAs 61 = .ok (.ishl, 1) := by decide +kernel
theorem dX12_doingAs_62 : decode cX12_doingAs 62 = .ok (.ior, 1) := by decide +kernel
theorem dX12_doingAs_63 : decode cX12_doingAs 63 = .ok (.istore_n 3, 1) := by decide +kernel
theorem dX12_doingAs_64 : decode cX12_doingAs 64 = .ok (.iinc 5 1, 3) := by decide +kernel
theorem dX12_doingAs_67 : decode cX12_doingAs 67 = .ok (.goto (-52), 3) := by decide +kernel
theorem dX12_doingAs_70 : decode cX12_doingAs 70 = .ok (.iinc 4 1, 3) := by decide +kernel
theorem dX12_doingAs_73 : decode cX12_doingAs 73 = .ok (.goto (-68), 3) := by decide +kernel
theorem dX12_doingAs_76 : decode cX12_doingAs 76 = .ok (.iload_n 3, 1) := by decide +kernel
theorem dX12_doingAs_77 : decode cX12_doingAs 77 = .ok (.ireturn, 1) := by decide +kernel
theorem dX12_hiccups_0 : decode cX12_hiccups 0 = .ok (.iload_n 1, 1) := by decide +kernel
theorem dX12_hiccups_1 : decode cX12_hiccups 1 = .ok (.iconst 0, 1) := by decide +kernel
theorem dX12_hiccups_2 : decode cX12_hiccups 2 = .ok (.ldc_w 353, 3) := by decide +kernel
theorem dX12_hiccups_5 : decode cX12_hiccups 5 = .ok (.invokestatic 107, 3) := by decide +kernel
theorem dX12_hiccups_8 : decode cX12_hiccups 8 = .ok (.ifCond .eq 23, 3) := by decide +kernel
theorem dX12_hiccups_11 : decode cX12_hiccups 11 = .ok (.iload_n 1, 1) := by decide +kernel
theorem dX12_hiccups_12 : decode cX12_hiccups 12 = .ok (.aload_n 0, 1) := by decide +kernel
theorem dX12_hiccups_13 : decode cX12_hiccups 13 = .ok (.invokevirtual 354, 3) := by decide +kernel
theorem dX12_hiccups_16 : decode cX12_hiccups 16 = .ok (.iconst (-1), 1) := by decide +kernel
theorem dX12_hiccups_17 : decode cX12_hiccups 17 = .ok (.ixor, 1) := by decide +kernel
theorem dX12_hiccups_18 : decode cX12_hiccups 18 = .ok (.iand, 1) := by decide +kernel
theorem dX12_hiccups_19 : decode cX12_hiccups 19 = .ok (.ifCond .ne 12, 3) := by decide +kernel
theorem dX12_hiccups_22 : decode cX12_hiccups 22 = .ok (.iload_n 2, 1) := by decide +kernel
theorem dX12_hiccups_23 : decode cX12_hiccups 23 = .ok (.iconst 0, 1) := by decide +kernel
theorem dX12_hiccups_24 : decode cX12_hiccups 24 = .ok (.iconst 1, 1) := by decide +kernel
theorem dX12_hiccups_25 : decode cX12_hiccups 25 = .ok (.invokestatic 107, 3) := by decide +kernel
theorem dX12_hiccups_28 : decode cX12_hiccups 28 = .ok (.ifCond .ne 5, 3) := by decide +kernel
theorem dX12_hiccups_31 : decode cX12_hiccups 31 = .ok (.iconst (-1), 1) := by decide +kernel
theorem dX12_hiccups_32 : decode cX12_hiccups 32 = .ok (.ireturn, 1) := by decide +kernel
theorem dX12_hiccups_33 : decode cX12_hiccups 33 = .ok (.iload_n 1, 1) := by decide +kernel
theorem dX12_hiccups_34 : decode cX12_hiccups 34 = .ok (.aload_n 0, 1) := by decide +kernel
theorem dX12_hiccups_35 : decode cX12_hiccups 35 = .ok (.invokevirtual 334, 3) := by decide +kernel
theorem dX12_hiccups_38 : decode cX12_hiccups 38 = .ok (.iand, 1) := by decide +kernel
theorem dX12_hiccups_39 : decode cX12_hiccups 39 = .ok (.istore_n 3, 1) := by decide +kernel
theorem dX12_hiccups_40 : decode cX12_hiccups 40 = .ok (.iconst 0, 1) := by decide +kernel
theorem dX12_hiccups_41 : decode cX12_hiccups 41 = .ok (.istore 4, 2) := by decide +kernel
theorem dX12_hiccups_43 : decode cX12_hiccups 43 = .ok (.iconst 0, 1) := by decide +kernel
theorem dX12_hiccups_44 : decode cX12_hiccups 44 = .ok (.istore 5, 2) := by decide +kernel
theorem dX12_hiccups_46 : decode cX12_hiccups 46 = .ok (.iload 5, 2) := by decide +kernel
theorem dX12_hiccups_48 : decode cX12_hiccups 48 = .ok (.iload 4, 2) := by decide +kernel
theorem dX12_hiccups_50 : decode cX12_hiccups 50 = .ok (.bipush 48, 2) := by decide +kernel
theorem dX12_hiccups_52 : decode cX12_hiccups 52 = .ok (.iadd, 1) := by decide +kernel
theorem dX12_hiccups_53 : decode cX12_hiccups 53 = .ok (.if_icmp .ge 36, 3) := by decide +kernel
theorem dX12_hiccups_56 : decode cX12_hiccups 56 = .ok (.aload_n 0, 1) := by decide +kernel
theorem dX12_hiccups_57 : decode cX12_hiccups 57 = .ok (.iload_n 3, 1) := by decide +kernel
theorem dX12_hiccups_58 : decode cX12_hiccups 58 = .ok (.iload 5, 2) := by decide +kernel
theorem dX12_hiccups_60 : decode cX12_hiccups 60 = .ok (.bipush 24, 2) := by decide +kernel
theorem dX12_hiccups_62 : decode cX12_hiccups 62 = .ok (.irem, 1) := by decide +kernel
theorem dX12_hiccups_63 : decode cX12_hiccups 63 = .ok (.invokevirtual 357, 3) := by decide +kernel
theorem dX12_hiccups_66 : decode cX12_hiccups 66 = .ok (.istore 6, 2) := by decide +kernel
theorem dX12_hiccups_68 : decode cX12_hiccups 68 = .ok (.iload 6, 2) := by decide +kernel
theorem dX12_hiccups_70 : decode cX12_hiccups 70 = .ok (.iload_n 3, 1) := by decide +kernel
theorem dX12_hiccups_71 : decode cX12_hiccups 71 = .ok (.if_icmp .eq 9, 3) := by decide +kernel
theorem dX12_hiccups_74 : decode cX12_hiccups 74 = .ok (.iload 5, 2) := by decide +kernel
theorem dX12_hiccups_76 : decode cX12_hiccups 76 = .ok (.iconst 1, 1) := by decide +kernel
theorem dX12_hiccups_77 : decode cX12_hiccups 77 = .ok (.iadd, 1) := by decide +kernel
theorem dX12_hiccups_78 : decode cX12_hiccups 78 = .ok (.istore 4, 2) := by decide +kernel
theorem dX12_hiccups_80 : decode cX12_hiccups 80 = .ok (.iload 6, 2) := by decide +kernel
theorem dX12_hiccups_82 : decode cX12_hiccups 82 = .ok (.istore_n 3, 1) := by decide +kernel
theorem dX12_hiccups_83 : decode cX12_hiccups 83 = .ok (.iinc 5 1, 3) := by decide +kernel
theorem dX12_hiccups_86 : decode cX12_hiccups 86 = .ok (.goto (-40), 3) := by decide +kernel
theorem dX12_hiccups_89 : decode cX12_hiccups 89 = .ok (.iload_n 2, 1) := by decide +kernel
theorem dX12_hiccups_90 : decode cX12_hiccups 90 = .ok (.ifCond .ne 7, 3) := by decide +kernel
theorem dX12_hiccups_93 : decode cX12_hiccups 93 = .ok (.iload_n 3, 1) := by decide +kernel
theorem dX12_hiccups_94 : decode cX12_hiccups 94 = .ok (.goto 5, 3) := by decide +kernel
theorem dX12_hiccups_97 : decode cX12_hiccups 97 = .ok (.iload 4, 2) := by decide +kernel
theorem dX12_hiccups_99 : decode cX12_hiccups 99 = .ok (.ireturn, 1) := by decide +kernel
theorem dX12_left_0 : decode cX12_left 0 = .ok (.aload_n 0, 1) := by decide +kernel
theorem dX12_left_1 : decode cX12_left 1 = .ok (.iload_n 1, 1) := by decide +kernel
theorem dX12_left_2 : decode cX12_left 2 = .ok (.invokevirtual 115, 3) := by decide +kernel
theorem dX12_left_5 : decode cX12_left 5 = .ok (.ifCond .eq 21, 3) := by decide +kernel
theorem dX12_left_8 : decode cX12_left 8 = .ok (.aload_n 0, 1) := by decide +kernel
theorem dX12_left_9 : decode cX12_left 9 = .ok (.getfield 7, 3) := by decide +kernel
theorem dX12_left_12 : decode cX12_left 12 = .ok (.bipush 16, 2) := by decide +kernel
theorem dX12_left_14 : decode cX12_left 14 = .ok (.iload_n 1, 1) := by decide +kernel
theorem dX12_left_15 : decode cX12_left 15 = .ok (.iadd, 1) := by decide +kernel
theorem dX12_left_16 : decode cX12_left 16 = .ok (.iaload, 1) := by decide +kernel
theorem dX12_left_17 : decode cX12_left 17 = .ok (.aload_n 0, 1) := by decide +kernel
theorem dX12_left_18 : decode cX12_left 18 = .ok (.iload_n 1, 1) := by decide +kernel
theorem dX12_left_19 : decode cX12_left 19 = .ok (.invokevirtual 344, 3) := by decide +kernel
theorem dX12_left_22 : decode cX12_left 22 = .ok (.idiv, 1) := by decide +kernel
theorem dX12_left_23 : decode cX12_left 23 = .ok (.goto 4, 3) := by decide +kernel
theorem dX12_left_26 : decode cX12_left 26 = .ok (.iconst (-1), 1) := by decide +kernel
theorem dX12_left_27 : decode cX12_left 27 = .ok (.ireturn, 1) := by decide +kernel
theorem dX12_longest_0 : decode cX12_longest 0 = .ok (.bipush (-2), 2) := by decide +kernel
theorem dX12_longest_2 : decode cX12_longest 2 = .ok (.istore_n 1, 1) := by decide +kernel
theorem dX12_longest_3 : decode cX12_longest 3 = .ok (.iconst 0, 1) := by decide +kernel
theorem dX12_longest_4 : decode cX12_longest 4 = .ok (.istore_n 2, 1) := by decide +kernel
theorem dX12_longest_5 : decode cX12_longest 5 = .ok (.iload_n 2, 1) := by decide +kernel
theorem dX12_longest_6 : decode cX12_longest 6 = .ok (.bipush 16, 2) := by decide +kernel
theorem dX12_longest_8 : decode cX12_longest 8 = .ok (.if_icmp .ge 38, 3) := by decide +kernel
theorem dX12_longest_11 : decode cX12_longest 11 = .ok (.aload_n 0, 1) := by decide +kernel
theorem dX12_longest_12 : decode cX12_longest 12 = .ok (.iload_n 2, 1) := by decide +kernel
theorem dX12_longest_13 : decode cX12_longest 13 = .ok (.invokevirtual 115, 3) := by decide +kernel
theorem dX12_longest_16 : decode cX12_longest 16 = .ok (.ifCond .eq 24, 3) := by decide +kernel
theorem dX12_longest_19 : decode cX12_longest 19 = .ok (.iload_n 1, 1) := by decide +kernel
theorem dX12_longest_20 : decode cX12_longest 20 = .ok (.bipush (-2), 2) := by decide +kernel
theorem dX12_longest_22 : decode cX12_longest 22 = .ok (.if_icmp .eq 16, 3) := by decide +kernel
theorem dX12_longest_25 : decode cX12_longest 25 = .ok (.aload_n 0, 1) := by decide +kernel
theorem dX12_longest_26 : decode cX12_longest 26 = .ok (.iload_n 2, 1) := by decide +kernel
theorem dX12_longest_27 : decode cX12_longest 27 = .ok (.invokevirtual 360, 3) := by decide +kernel
theorem dX12_longest_30 : decode cX12_longest 30 = .ok (.aload_n 0, 1) := by decide +kernel
theorem dX12_longest_31 : decode cX12_longest 31 = .ok (.iload_n 1, 1) := by decide +kernel
theorem dX12_longest_32 : decode cX12_longest 32 = .ok (.invokevirtual 360, 3) := by decide +kernel
theorem dX12_longest_35 : decode cX12_longest 35 = .ok (.if_icmp .le 5, 3) := by decide +kernel
theorem dX12_longest_38 : decode cX12_longest 38 = .ok (.iload_n 2, 1) := by decide +kernel
theorem dX12_longest_39 : decode cX12_longest 39 = .ok (.istore_n 1, 1) := by decide +kernel
theorem dX12_longest_40 : decode cX12_longest 40 = .ok (.iinc 2 1, 3) := by decide +kernel
theorem dX12_longest_43 : decode cX12_longest 43 = .ok (.goto (-38), 3) := by decide +kernel
theorem dX12_longest_46 : decode cX12_longest 46 = .ok (.iload_n 1, 1) := by decide +kernel
theorem dX12_longest_47 : decode cX12_longest 47 = .ok (.ireturn, 1) := by decide +kernel
theorem dX12_costsOfAll_0 : decode cX12_costsOfAll 0 = .ok (.iconst 0, 1) := by decide +kernel
theorem dX12_costsOfAll_1 : decode cX12_costsOfAll 1 = .ok (.istore_n 2, 1) := by decide +kernel
theorem dX12_costsOfAll_2 : decode cX12_costsOfAll 2 = .ok (.iconst 0, 1) := by decide +kernel
theorem dX12_costsOfAll_3 : decode cX12_costsOfAll 3 = .ok (.istore_n 3, 1) := by decide +kernel
theorem dX12_costsOfAll_4 : decode cX12_costsOfAll 4 = .ok (.iload_n 3, 1) := by decide +kernel
theorem dX12_costsOfAll_5 : decode cX12_costsOfAll 5 = .ok (.bipush 16, 2) := by decide +kernel
theorem dX12_costsOfAll_7 : decode cX12_costsOfAll 7 = .ok (.if_icmp .ge 26, 3) := by decide +kernel
theorem dX12_costsOfAll_10 : decode cX12_costsOfAll 10 = .ok (.aload_n 0, 1) := by decide +kernel
theorem dX12_costsOfAll_11 : decode cX12_costsOfAll 11 = .ok (.iload_n 3, 1) := by decide +kernel
theorem dX12_costsOfAll_12 : decode cX12_costsOfAll 12 = .ok (.invokevirtual 115, 3) := by decide +kernel
theorem dX12_costsOfAll_15 : decode cX12_costsOfAll 15 = .ok (.ifCond .eq 12, 3) := by decide +kernel
theorem dX12_costsOfAll_18 : decode cX12_costsOfAll 18 = .ok (.iload_n 2, 1) := by decide +kernel
theorem dX12_costsOfAll_19 : decode cX12_costsOfAll 19 = .ok (.aload_n 0, 1) := by decide +kernel
theorem dX12_costsOfAll_20 : decode cX12_costsOfAll 20 = .ok (.iload_n 3, 1) := by decide +kernel
theorem dX12_costsOfAll_21 : decode cX12_costsOfAll 21 = .ok (.iload_n 1, 1) := by decide +kernel
theorem dX12_costsOfAll_22 : decode cX12_costsOfAll 22 = .ok (.invokevirtual 341, 3) := by decide +kernel
theorem dX12_costsOfAll_25 : decode cX12_costsOfAll 25 = .ok (.iadd, 1) := by decide +kernel
theorem dX12_costsOfAll_26 : decode cX12_costsOfAll 26 = .ok (.istore_n 2, 1) := by decide +kernel
theorem dX12_costsOfAll_27 : decode cX12_costsOfAll 27 = .ok (.iinc 3 1, 3) := by decide +kernel
theorem dX12_costsOfAll_30 : decode cX12_costsOfAll 30 = .ok (.goto (-26), 3) := by decide +kernel
theorem dX12_costsOfAll_33 : decode cX12_costsOfAll 33 = .ok (.iload_n 2, 1) := by decide +kernel
theorem dX12_costsOfAll_34 : decode cX12_costsOfAll 34 = .ok (.ireturn, 1) := by decide +kernel
theorem dX12_stillest_0 : decode cX12_stillest 0 = .ok (.iload_n 1, 1) := by decide +kernel
theorem dX12_stillest_1 : decode cX12_stillest 1 = .ok (.iconst 0, 1) := by decide +kernel
theorem dX12_stillest_2 : decode cX12_stillest 2 = .ok (.iconst 1, 1) := by decide +kernel
theorem dX12_stillest_3 : decode cX12_stillest 3 = .ok (.invokestatic 107, 3) := by decide +kernel
theorem dX12_stillest_6 : decode cX12_stillest 6 = .ok (.ifCond .ne 5, 3) := by decide +kernel
theorem dX12_stillest_9 : decode cX12_stillest 9 = .ok (.iconst (-1), 1) := by decide +kernel
theorem dX12_stillest_10 : decode cX12_stillest 10 = .ok (.ireturn, 1) := by decide +kernel
theorem dX12_stillest_11 : decode cX12_stillest 11 = .ok (.iconst 0, 1) := by decide +kernel
theorem dX12_stillest_12 : decode cX12_stillest 12 = .ok (.istore_n 2, 1) := by decide +kernel
theorem dX12_stillest_13 : decode cX12_stillest 13 = .ok (.iconst 1, 1) := by decide +kernel
theorem dX12_stillest_14 : decode cX12_stillest 14 = .ok (.istore_n 3, 1) := by decide +kernel
theorem dX12_stillest_15 : decode cX12_stillest 15 = .ok (.iload_n 3, 1) := by decide +kernel
theorem dX12_stillest_16 : decode cX12_stillest 16 = .ok (.bipush 24, 2) := by decide +kernel
theorem dX12_stillest_18 : decode cX12_stillest 18 = .ok (.if_icmp .ge 24, 3) := by decide +kernel
theorem dX12_stillest_21 : decode cX12_stillest 21 = .ok (.aload_n 0, 1) := by decide +kernel
theorem dX12_stillest_22 : decode cX12_stillest 22 = .ok (.iload_n 3, 1) := by decide +kernel
theorem dX12_stillest_23 : decode cX12_stillest 23 = .ok (.invokevirtual 363, 3) := by decide +kernel
theorem dX12_stillest_26 : decode cX12_stillest 26 = .ok (.aload_n 0, 1) := by decide +kernel
theorem dX12_stillest_27 : decode cX12_stillest 27 = .ok (.iload_n 2, 1) := by decide +kernel
theorem dX12_stillest_28 : decode cX12_stillest 28 = .ok (.invokevirtual 363, 3) := by decide +kernel
theorem dX12_stillest_31 : decode cX12_stillest 31 = .ok (.if_icmp .ge 5, 3) := by decide +kernel
theorem dX12_stillest_34 : decode cX12_stillest 34 = .ok (.iload_n 3, 1) := by decide +kernel
theorem dX12_stillest_35 : decode cX12_stillest 35 = .ok (.istore_n 2, 1) := by decide +kernel
theorem dX12_stillest_36 : decode cX12_stillest 36 = .ok (.iinc 3 1, 3) := by decide +kernel
theorem dX12_stillest_39 : decode cX12_stillest 39 = .ok (.goto (-24), 3) := by decide +kernel
theorem dX12_stillest_42 : decode cX12_stillest 42 = .ok (.iload_n 1, 1) := by decide +kernel
theorem dX12_stillest_43 : decode cX12_stillest 43 = .ok (.ifCond .ne 7, 3) := by decide +kernel
theorem dX12_stillest_46 : decode cX12_stillest 46 = .ok (.iload_n 2, 1) := by decide +kernel
theorem dX12_stillest_47 : decode cX12_stillest 47 = .ok (.goto 8, 3) := by decide +kernel
theorem dX12_stillest_50 : decode cX12_stillest 50 = .ok (.aload_n 0, 1) := by decide +kernel
theorem dX12_stillest_51 : decode cX12_stillest 51 = .ok (.iload_n 2, 1) := by decide +kernel
theorem dX12_stillest_52 : decode cX12_stillest 52 = .ok (.invokevirtual 363, 3) := by decide +kernel
theorem dX12_stillest_55 : decode cX12_stillest 55 = .ok (.ireturn, 1) := by decide +kernel
theorem dX12_alikeBy_0 : decode cX12_alikeBy 0 = .ok (.iconst 0, 1) := by decide +kernel
theorem dX12_alikeBy_1 : decode cX12_alikeBy 1 = .ok (.istore 4, 2) := by decide +kernel
theorem dX12_alikeBy_3 : decode cX12_alikeBy 3 = .ok (.iconst 0, 1) := by decide +kernel
theorem dX12_alikeBy_4 : decode cX12_alikeBy 4 = .ok (.istore 5, 2) := by decide +kernel
theorem dX12_alikeBy_6 : decode cX12_alikeBy 6 = .ok (.iload 5, 2) := by decide +kernel
theorem dX12_alikeBy_8 : decode cX12_alikeBy 8 = .ok (.bipush 24, 2) := by decide +kernel
theorem dX12_alikeBy_10 : decode cX12_alikeBy 10 = .ok (.if_icmp .ge 40, 3) := by decide +kernel
theorem dX12_alikeBy_13 : decode cX12_alikeBy 13 = .ok (.aload_n 0, 1) := by decide +kernel
theorem dX12_alikeBy_14 : decode cX12_alikeBy 14 = .ok (.iload_n 1, 1) := by decide +kernel
theorem dX12_alikeBy_15 : decode cX12_alikeBy 15 = .ok (.iload 5, 2) := by decide +kernel
theorem dX12_alikeBy_17 : decode cX12_alikeBy 17 = .ok (.invokevirtual 275, 3) := by decide +kernel
theorem dX12_alikeBy_20 : decode cX12_alikeBy 20 = .ok (.aload_n 0, 1) := by decide +kernel
theorem dX12_alikeBy_21 : decode cX12_alikeBy 21 = .ok (.iload_n 2, 1) := by decide +kernel
theorem dX12_alikeBy_22 : decode cX12_alikeBy 22 = .ok (.iload 5, 2) := by decide +kernel
theorem dX12_alikeBy_24 : decode cX12_alikeBy 24 = .ok (.iload_n 3, 1) := by decide +kernel
theorem dX12_alikeBy_25 : decode cX12_alikeBy 25 = .ok (.isub, 1) := by decide +kernel
theorem dX12_alikeBy_26 : decode cX12_alikeBy 26 = .ok (.bipush 24, 2) := by decide +kernel
theorem dX12_alikeBy_28 : decode cX12_alikeBy 28 = .ok (.iadd, 1) := by decide +kernel
theorem dX12_alikeBy_29 : decode cX12_alikeBy 29 = .ok (.bipush 24, 2) := by decide +kernel
theorem dX12_alikeBy_31 : decode cX12_alikeBy 31 = .ok (.irem, 1) := by decide +kernel
theorem dX12_alikeBy_32 : decode cX12_alikeBy 32 = .ok (.invokevirtual 275, 3) := by decide +kernel
theorem dX12_alikeBy_35 : decode cX12_alikeBy 35 = .ok (.if_icmp .ne 9, 3) := by decide +kernel
theorem dX12_alikeBy_38 : decode cX12_alikeBy 38 = .ok (.iload 4, 2) := by decide +kernel
theorem dX12_alikeBy_40 : decode cX12_alikeBy 40 = .ok (.iconst 1, 1) := by decide +kernel
theorem dX12_alikeBy_41 : decode cX12_alikeBy 41 = .ok (.iadd, 1) := by decide +kernel
theorem dX12_alikeBy_42 : decode cX12_alikeBy 42 = .ok (.istore 4, 2) := by decide +kernel
theorem dX12_alikeBy_44 : decode cX12_alikeBy 44 = .ok (.iinc 5 1, 3) := by decide +kernel
theorem dX12_alikeBy_47 : decode cX12_alikeBy 47 = .ok (.goto (-41), 3) := by decide +kernel
theorem dX12_alikeBy_50 : decode cX12_alikeBy 50 = .ok (.iload 4, 2) := by decide +kernel
theorem dX12_alikeBy_52 : decode cX12_alikeBy 52 = .ok (.ireturn, 1) := by decide +kernel
theorem dX12_alike_0 : decode cX12_alike 0 = .ok (.aload_n 0, 1) := by decide +kernel
theorem dX12_alike_1 : decode cX12_alike 1 = .ok (.iload_n 1, 1) := by decide +kernel
theorem dX12_alike_2 : decode cX12_alike 2 = .ok (.invokevirtual 111, 3) := by decide +kernel
theorem dX12_alike_5 : decode cX12_alike 5 = .ok (.ifCond .eq 25, 3) := by decide +kernel
theorem dX12_alike_8 : decode cX12_alike 8 = .ok (.aload_n 0, 1) := by decide +kernel
theorem dX12_alike_9 : decode cX12_alike 9 = .ok (.iload_n 2, 1) := by decide +kernel
theorem dX12_alike_10 : decode cX12_alike 10 = .ok (.invokevirtual 111, 3) := by decide +kernel
theorem dX12_alike_13 : decode cX12_alike 13 = .ok (.ifCond .eq 17, 3) := by decide +kernel
theorem dX12_alike_16 : decode cX12_alike 16 = .ok (.iload_n 1, 1) := by decide +kernel
theorem dX12_alike_17 : decode cX12_alike 17 = .ok (.iload_n 2, 1) := by decide +kernel
theorem dX12_alike_18 : decode cX12_alike 18 = .ok (.if_icmp .eq 12, 3) := by decide +kernel
theorem dX12_alike_21 : decode cX12_alike 21 = .ok (.iload_n 3, 1) := by decide +kernel
theorem dX12_alike_22 : decode cX12_alike 22 = .ok (.iconst 0, 1) := by decide +kernel
theorem dX12_alike_23 : decode cX12_alike 23 = .ok (.iconst 2, 1) := by decide +kernel
theorem dX12_alike_24 : decode cX12_alike 24 = .ok (.invokestatic 107, 3) := by decide +kernel
theorem dX12_alike_27 : decode cX12_alike 27 = .ok (.ifCond .ne 5, 3) := by decide +kernel
theorem dX12_alike_30 : decode cX12_alike 30 = .ok (.iconst (-1), 1) := by decide +kernel
theorem dX12_alike_31 : decode cX12_alike 31 = .ok (.ireturn, 1) := by decide +kernel
theorem dX12_alike_32 : decode cX12_alike 32 = .ok (.iload_n 3, 1) := by decide +kernel
theorem dX12_alike_33 : decode cX12_alike 33 = .ok (.ifCond .ne 11, 3) := by decide +kernel
theorem dX12_alike_36 : decode cX12_alike 36 = .ok (.aload_n 0, 1) := by decide +kernel
theorem dX12_alike_37 : decode cX12_alike 37 = .ok (.iload_n 1, 1) := by decide +kernel
theorem dX12_alike_38 : decode cX12_alike 38 = .ok (.iload_n 2, 1) := by decide +kernel
theorem dX12_alike_39 : decode cX12_alike 39 = .ok (.iconst 0, 1) := by decide +kernel
theorem dX12_alike_40 : decode cX12_alike 40 = .ok (.invokevirtual 366, 3) := by decide +kernel
theorem dX12_alike_43 : decode cX12_alike 43 = .ok (.ireturn, 1) := by decide +kernel
theorem dX12_alike_44 : decode cX12_alike 44 = .ok (.iconst 0, 1) := by decide +kernel
theorem dX12_alike_45 : decode cX12_alike 45 = .ok (.istore 4, 2) := by decide +kernel
theorem dX12_alike_47 : decode cX12_alike 47 = .ok (.iconst 1, 1) := by decide +kernel
theorem dX12_alike_48 : decode cX12_alike 48 = .ok (.istore 5, 2) := by decide +kernel
theorem dX12_alike_50 : decode cX12_alike 50 = .ok (.iload 5, 2) := by decide +kernel
theorem dX12_alike_52 : decode cX12_alike 52 = .ok (.bipush 24, 2) := by decide +kernel
theorem dX12_alike_54 : decode cX12_alike 54 = .ok (.if_icmp .ge 32, 3) := by decide +kernel
theorem dX12_alike_57 : decode cX12_alike 57 = .ok (.aload_n 0, 1) := by decide +kernel
theorem dX12_alike_58 : decode cX12_alike 58 = .ok (.iload_n 1, 1) := by decide +kernel
theorem dX12_alike_59 : decode cX12_alike 59 = .ok (.iload_n 2, 1) := by decide +kernel
theorem dX12_alike_60 : decode cX12_alike 60 = .ok (.iload 5, 2) := by decide +kernel
theorem dX12_alike_62 : decode cX12_alike 62 = .ok (.invokevirtual 366, 3) := by decide +kernel
theorem dX12_alike_65 : decode cX12_alike 65 = .ok (.aload_n 0, 1) := by decide +kernel
theorem dX12_alike_66 : decode cX12_alike 66 = .ok (.iload_n 1, 1) := by decide +kernel
theorem dX12_alike_67 : decode cX12_alike 67 = .ok (.iload_n 2, 1) := by decide +kernel
theorem dX12_alike_68 : decode cX12_alike 68 = .ok (.iload 4, 2) := by decide +kernel
theorem dX12_alike_70 : decode cX12_alike 70 = .ok (.invokevirtual 366, 3) := by decide +kernel
theorem dX12_alike_73 : decode cX12_alike 73 = .ok (.if_icmp .le 7, 3) := by decide +kernel
theorem dX12_alike_76 : decode cX12_alike 76 = .ok (.iload 5, 2) := by decide +kernel
theorem dX12_alike_78 : decode cX12_alike 78 = .ok (.istore 4, 2) := by decide +kernel
theorem dX12_alike_80 : decode cX12_alike 80 = .ok (.iinc 5 1, 3) := by decide +kernel
theorem dX12_alike_83 : decode cX12_alike 83 = .ok (.goto (-33), 3) := by decide +kernel
theorem dX12_alike_86 : decode cX12_alike 86 = .ok (.iload_n 3, 1) := by decide +kernel
theorem dX12_alike_87 : decode cX12_alike 87 = .ok (.iconst 1, 1) := by decide +kernel
theorem dX12_alike_88 : decode cX12_alike 88 = .ok (.if_icmp .ne 8, 3) := by decide +kernel
theorem dX12_alike_91 : decode cX12_alike 91 = .ok (.iload 4, 2) := by decide +kernel
theorem dX12_alike_93 : decode cX12_alike 93 = .ok (.goto 11, 3) := by decide +kernel
theorem dX12_alike_96 : decode cX12_alike 96 = .ok (.aload_n 0, 1) := by decide +kernel
theorem dX12_alike_97 : decode cX12_alike 97 = .ok (.iload_n 1, 1) := by decide +kernel
theorem dX12_alike_98 : decode cX12_alike 98 = .ok (.iload_n 2, 1) := by decide +kernel
theorem dX12_alike_99 : decode cX12_alike 99 = .ok (.iload 4, 2) := by decide +kernel
theorem dX12_alike_101 : decode cX12_alike 101 = .ok (.invokevirtual 366, 3) := by decide +kernel
theorem dX12_alike_104 : decode cX12_alike 104 = .ok (.ireturn, 1) := by decide +kernel
theorem dX12_countsRing_0 : decode cX12_countsRing 0 = .ok (.iconst 0, 1) := by decide +kernel
theorem dX12_countsRing_1 : decode cX12_countsRing 1 = .ok (.istore_n 2, 1) := by decide +kernel
theorem dX12_countsRing_2 : decode cX12_countsRing 2 = .ok (.iconst 0, 1) := by decide +kernel
theorem dX12_countsRing_3 : decode cX12_countsRing 3 = .ok (.istore_n 3, 1) := by decide +kernel
theorem dX12_countsRing_4 : decode cX12_countsRing 4 = .ok (.iload_n 3, 1) := by decide +kernel
theorem dX12_countsRing_5 : decode cX12_countsRing 5 = .ok (.iload_n 1, 1) := by decide +kernel
theorem dX12_countsRing_6 : decode cX12_countsRing 6 = .ok (.if_icmp .ge 20, 3) := by decide +kernel
theorem dX12_countsRing_9 : decode cX12_countsRing 9 = .ok (.iload_n 2, 1) := by decide +kernel
theorem dX12_countsRing_10 : decode cX12_countsRing 10 = .ok (.iconst 1, 1) := by decide +kernel
theorem dX12_countsRing_11 : decode cX12_countsRing 11 = .ok (.aload_n 0, 1) := by decide +kernel
theorem dX12_countsRing_12 : decode cX12_countsRing 12 = .ok (.getfield 83, 3) := by decide +kernel
theorem dX12_countsRing_15 : decode cX12_countsRing 15 = .ok (.iload_n 3, 1) := by decide +kernel
theorem dX12_countsRing_16 : decode cX12_countsRing 16 = .ok (.iaload, 1) := by decide +kernel
theorem dX12_countsRing_17 : decode cX12_countsRing 17 = .ok (.ishl, 1) := by decide +kernel
theorem dX12_countsRing_18 : decode cX12_countsRing 18 = .ok (.ior, 1) := by decide +kernel
theorem dX12_countsRing_19 : decode cX12_countsRing 19 = .ok (.istore_n 2, 1) := by decide +kernel
theorem dX12_countsRing_20 : decode cX12_countsRing 20 = .ok (.iinc 3 1, 3) := by decide +kernel
theorem dX12_countsRing_23 : decode cX12_countsRing 23 = .ok (.goto (-19), 3) := by decide +kernel
theorem dX12_countsRing_26 : decode cX12_countsRing 26 = .ok (.iload_n 1, 1) := by decide +kernel
theorem dX12_countsRing_27 : decode cX12_countsRing 27 = .ok (.aload_n 0, 1) := by decide +kernel
theorem dX12_countsRing_28 : decode cX12_countsRing 28 = .ok (.getfield 369, 3) := by decide +kernel
theorem dX12_countsRing_31 : decode cX12_countsRing 31 = .ok (.if_icmp .gt 19, 3) := by decide +kernel
theorem dX12_countsRing_34 : decode cX12_countsRing 34 = .ok (.iload_n 1, 1) := by decide +kernel
theorem dX12_countsRing_35 : decode cX12_countsRing 35 = .ok (.aload_n 0, 1) := by decide +kernel
theorem dX12_countsRing_36 : decode cX12_countsRing 36 = .ok (.getfield 369, 3) := by decide +kernel
theorem dX12_countsRing_39 : decode cX12_countsRing 39 = .ok (.if_icmp .ne 12, 3) := by decide +kernel
theorem dX12_countsRing_42 : decode cX12_countsRing 42 = .ok (.iload_n 2, 1) := by decide +kernel
theorem dX12_countsRing_43 : decode cX12_countsRing 43 = .ok (.aload_n 0, 1) := by decide +kernel
theorem dX12_countsRing_44 : decode cX12_countsRing 44 = .ok (.getfield 372, 3) := by decide +kernel
theorem dX12_countsRing_47 : decode cX12_countsRing 47 = .ok (.if_icmp .lt 4, 3) := by decide +kernel
theorem dX12_countsRing_50 : decode cX12_countsRing 50 = .ok (.return_, 1) := by decide +kernel
theorem dX12_countsRing_51 : decode cX12_countsRing 51 = .ok (.aload_n 0, 1) := by decide +kernel
theorem dX12_countsRing_52 : decode cX12_countsRing 52 = .ok (.iload_n 1, 1) := by decide +kernel
theorem dX12_countsRing_53 : decode cX12_countsRing 53 = .ok (.putfield 369, 3) := by decide +kernel
theorem dX12_countsRing_56 : decode cX12_countsRing 56 = .ok (.aload_n 0, 1) := by decide +kernel
theorem dX12_countsRing_57 : decode cX12_countsRing 57 = .ok (.iload_n 2, 1) := by decide +kernel
theorem dX12_countsRing_58 : decode cX12_countsRing 58 = .ok (.putfield 372, 3) := by decide +kernel
theorem dX12_countsRing_61 : decode cX12_countsRing 61 = .ok (.return_, 1) := by decide +kernel
theorem dX12_isInRing_0 : decode cX12_isInRing 0 = .ok (.iconst 0, 1) := by decide +kernel
theorem dX12_isInRing_1 : decode cX12_isInRing 1 = .ok (.istore_n 3, 1) := by decide +kernel
theorem dX12_isInRing_2 : decode cX12_isInRing 2 = .ok (.iload_n 3, 1) := by decide +kernel
theorem dX12_isInRing_3 : decode cX12_isInRing 3 = .ok (.iload_n 1, 1) := by decide +kernel
theorem dX12_isInRing_4 : decode cX12_isInRing 4 = .ok (.if_icmp .ge 21, 3) := by decide +kernel
theorem dX12_isInRing_7 : decode cX12_isInRing 7 = .ok (.aload_n 0, 1) := by decide +kernel
theorem dX12_isInRing_8 : decode cX12_isInRing 8 = .ok (.getfield 83, 3) := by decide +kernel
theorem dX12_isInRing_11 : decode cX12_isInRing 11 = .ok (.iload_n 3, 1) := by decide +kernel
theorem dX12_isInRing_12 : decode cX12_isInRing 12 = .ok (.iaload, 1) := by decide +kernel
theorem dX12_isInRing_13 : decode cX12_isInRing 13 = .ok (.iload_n 2, 1) := by decide +kernel
theorem dX12_isInRing_14 : decode cX12_isInRing 14 = .ok (.if_icmp .ne 5, 3) := by decide +kernel
theorem dX12_isInRing_17 : decode cX12_isInRing 17 = .ok (.iconst 1, 1) := by decide +kernel
theorem dX12_isInRing_18 : decode cX12_isInRing 18 = .ok (.ireturn, 1) := by decide +kernel
theorem dX12_isInRing_19 : decode cX12_isInRing 19 = .ok (.iinc 3 1, 3) := by decide +kernel
theorem dX12_isInRing_22 : decode cX12_isInRing 22 = .ok (.goto (-20), 3) := by decide +kernel
theorem dX12_isInRing_25 : decode cX12_isInRing 25 = .ok (.iconst 0, 1) := by decide +kernel
theorem dX12_isInRing_26 : decode cX12_isInRing 26 = .ok (.ireturn, 1) := by decide +kernel
theorem dX12_goesFrom_0 : decode cX12_goesFrom 0 = .ok (.iconst 1, 1) := by decide +kernel
theorem dX12_goesFrom_1 : decode cX12_goesFrom 1 = .ok (.istore_n 2, 1) := by decide +kernel
theorem dX12_goesFrom_2 : decode cX12_goesFrom 2 = .ok (.aload_n 0, 1) := by decide +kernel
theorem dX12_goesFrom_3 : decode cX12_goesFrom 3 = .ok (.getfield 83, 3) := by decide +kernel
theorem dX12_goesFrom_6 : decode cX12_goesFrom 6 = .ok (.iconst 0, 1) := by decide +kernel
theorem dX12_goesFrom_7 : decode cX12_goesFrom 7 = .ok (.iload_n 1, 1) := by decide +kernel
theorem dX12_goesFrom_8 : decode cX12_goesFrom 8 = .ok (.iastore, 1) := by decide +kernel
theorem dX12_goesFrom_9 : decode cX12_goesFrom 9 = .ok (.aload_n 0, 1) := by decide +kernel
theorem dX12_goesFrom_10 : decode cX12_goesFrom 10 = .ok (.getfield 86, 3) := by decide +kernel
theorem dX12_goesFrom_13 : decode cX12_goesFrom 13 = .ok (.iconst 0, 1) := by decide +kernel
theorem dX12_goesFrom_14 : decode cX12_goesFrom 14 = .ok (.iconst (-1), 1) := by decide +kernel
theorem dX12_goesFrom_15 : decode cX12_goesFrom 15 = .ok (.iastore, 1) := by decide +kernel
theorem dX12_goesFrom_16 : decode cX12_goesFrom 16 = .ok (.iload_n 2, 1) := by decide +kernel
theorem dX12_goesFrom_17 : decode cX12_goesFrom 17 = .ok (.ifCond .le 165, 3) := by decide +kernel
theorem dX12_goesFrom_20 : decode cX12_goesFrom 20 = .ok (.aload_n 0, 1) := by decide +kernel
theorem dX12_goesFrom_21 : decode cX12_goesFrom 21 = .ok (.getfield 86, 3) := by decide +kernel
theorem dX12_goesFrom_24 : decode cX12_goesFrom 24 = .ok (.iload_n 2, 1) := by decide +kernel
theorem dX12_goesFrom_25 : decode cX12_goesFrom 25 = .ok (.iconst 1, 1) := by decide +kernel
theorem dX12_goesFrom_26 : decode cX12_goesFrom 26 = .ok (.isub, 1) := by decide +kernel
theorem dX12_goesFrom_27 : decode cX12_goesFrom 27 = .ok (.iaload, 1) := by decide +kernel
theorem dX12_goesFrom_28 : decode cX12_goesFrom 28 = .ok (.iconst 1, 1) := by decide +kernel
theorem dX12_goesFrom_29 : decode cX12_goesFrom 29 = .ok (.iadd, 1) := by decide +kernel
theorem dX12_goesFrom_30 : decode cX12_goesFrom 30 = .ok (.istore_n 3, 1) := by decide +kernel
theorem dX12_goesFrom_31 : decode cX12_goesFrom 31 = .ok (.iload_n 3, 1) := by decide +kernel
theorem dX12_goesFrom_32 : decode cX12_goesFrom 32 = .ok (.aload_n 0, 1) := by decide +kernel
theorem dX12_goesFrom_33 : decode cX12_goesFrom 33 = .ok (.getfield 7, 3) := by decide +kernel
theorem dX12_goesFrom_36 : decode cX12_goesFrom 36 = .ok (.sipush 208, 3) := by decide +kernel
theorem dX12_goesFrom_39 : decode cX12_goesFrom 39 = .ok (.iaload, 1) := by decide +kernel
theorem dX12_goesFrom_40 : decode cX12_goesFrom 40 = .ok (.if_icmp .ge 43, 3) := by decide +kernel
theorem dX12_goesFrom_43 : decode cX12_goesFrom 43 = .ok (.aload_n 0, 1) := by decide +kernel
theorem dX12_goesFrom_44 : decode cX12_goesFrom 44 = .ok (.getfield 7, 3) := by decide +kernel
theorem dX12_goesFrom_47 : decode cX12_goesFrom 47 = .ok (.sipush 184, 3) := by decide +kernel
theorem dX12_goesFrom_50 : decode cX12_goesFrom 50 = .ok (.iload_n 3, 1) := by decide +kernel
theorem dX12_goesFrom_51 : decode cX12_goesFrom 51 = .ok (.iadd, 1) := by decide +kernel
theorem dX12_goesFrom_52 : decode cX12_goesFrom 52 = .ok (.iaload, 1) := by decide +kernel
theorem dX12_goesFrom_53 : decode cX12_goesFrom 53 = .ok (.ifCond .eq 23, 3) := by decide +kernel
theorem dX12_goesFrom_56 : decode cX12_goesFrom 56 = .ok (.aload_n 0, 1) := by decide +kernel
theorem dX12_goesFrom_57 : decode cX12_goesFrom 57 = .ok (.getfield 7, 3) := by decide +kernel
theorem dX12_goesFrom_60 : decode cX12_goesFrom 60 = .ok (.bipush 64, 2) := by decide +kernel
theorem dX12_goesFrom_62 : decode cX12_goesFrom 62 = .ok (.iload_n 3, 1) := by decide +kernel
theorem dX12_goesFrom_63 : decode cX12_goesFrom 63 = .ok (.iadd, 1) := by decide +kernel
theorem dX12_goesFrom_64 : decode cX12_goesFrom 64 = .ok (.iaload, 1) := by decide +kernel
theorem dX12_goesFrom_65 : decode cX12_goesFrom 65 = .ok (.aload_n 0, 1) := by decide +kernel
theorem dX12_goesFrom_66 : decode cX12_goesFrom 66 = .ok (.getfield 83, 3) := by decide +kernel
theorem dX12_goesFrom_69 : decode cX12_goesFrom 69 = .ok (.iload_n 2, 1) := by decide +kernel
theorem dX12_goesFrom_70 : decode cX12_goesFrom 70 = .ok (.iconst 1, 1) := by decide +kernel
theorem dX12_goesFrom_71 : decode cX12_goesFrom 71 = .ok (.isub, 1) := by decide +kernel
theorem dX12_goesFrom_72 : decode cX12_goesFrom 72 = .ok (.iaload, 1) := by decide +kernel
theorem dX12_goesFrom_73 : decode cX12_goesFrom 73 = .ok (.if_icmp .eq 10, 3) := by decide +kernel
theorem dX12_goesFrom_76 : decode cX12_goesFrom 76 = .ok (.iload_n 3, 1) := by decide +kernel
theorem dX12_goesFrom_77 : decode cX12_goesFrom 77 = .ok (.iconst 1, 1) := by decide +kernel
theorem dX12_goesFrom_78 : decode cX12_goesFrom 78 = .ok (.iadd, 1) := by decide +kernel
theorem dX12_goesFrom_79 : decode cX12_goesFrom 79 = .ok (.istore_n 3, 1) := by decide +kernel
theorem dX12_goesFrom_80 : decode cX12_goesFrom 80 = .ok (.goto (-49), 3) := by decide +kernel
theorem dX12_goesFrom_83 : decode cX12_goesFrom 83 = .ok (.aload_n 0, 1) := by decide +kernel
theorem dX12_goesFrom_84 : decode cX12_goesFrom 84 = .ok (.getfield 86, 3) := by decide +kernel
theorem dX12_goesFrom_87 : decode cX12_goesFrom 87 = .ok (.iload_n 2, 1) := by decide +kernel
theorem dX12_goesFrom_88 : decode cX12_goesFrom 88 = .ok (.iconst 1, 1) := by decide +kernel
theorem dX12_goesFrom_89 : decode cX12_goesFrom 89 = .ok (.isub, 1) := by decide +kernel
theorem dX12_goesFrom_90 : decode cX12_goesFrom 90 = .ok (.iload_n 3, 1) := by decide +kernel
theorem dX12_goesFrom_91 : decode cX12_goesFrom 91 = .ok (.iastore, 1) := by decide +kernel
theorem dX12_goesFrom_92 : decode cX12_goesFrom 92 = .ok (.iload_n 3, 1) := by decide +kernel
theorem dX12_goesFrom_93 : decode cX12_goesFrom 93 = .ok (.aload_n 0, 1) := by decide +kernel
theorem dX12_goesFrom_94 : decode cX12_goesFrom 94 = .ok (.getfield 7, 3) := by decide +kernel
theorem dX12_goesFrom_97 : decode cX12_goesFrom 97 = .ok (.sipush 208, 3) := by decide +kernel
theorem dX12_goesFrom_100 : decode cX12_goesFrom 100 = .ok (.iaload, 1) := by decide +kernel
theorem dX12_goesFrom_101 : decode cX12_goesFrom 101 = .ok (.if_icmp .lt 10, 3) := by decide +kernel
theorem dX12_goesFrom_104 : decode cX12_goesFrom 104 = .ok (.iload_n 2, 1) := by decide +kernel
theorem dX12_goesFrom_105 : decode cX12_goesFrom 105 = .ok (.iconst 1, 1) := by decide +kernel
theorem dX12_goesFrom_106 : decode cX12_goesFrom 106 = .ok (.isub, 1) := by decide +kernel
theorem dX12_goesFrom_107 : decode cX12_goesFrom 107 = .ok (.istore_n 2, 1) := by decide +kernel
theorem dX12_goesFrom_108 : decode cX12_goesFrom 108 = .ok (.goto (-92), 3) := by decide +kernel
theorem dX12_goesFrom_111 : decode cX12_goesFrom 111 = .ok (.aload_n 0, 1) := by decide +kernel
theorem dX12_goesFrom_112 : decode cX12_goesFrom 112 = .ok (.getfield 7, 3) := by decide +kernel
theorem dX12_goesFrom_115 : decode cX12_goesFrom 115 = .ok (.bipush 88, 2) := by decide +kernel
theorem dX12_goesFrom_117 : decode cX12_goesFrom 117 = .ok (.iload_n 3, 1) := by decide +kernel
theorem dX12_goesFrom_118 : decode cX12_goesFrom 118 = .ok (.iadd, 1) := by decide +kernel
theorem dX12_goesFrom_119 : decode cX12_goesFrom 119 = .ok (.iaload, 1) := by decide +kernel
theorem dX12_goesFrom_120 : decode cX12_goesFrom 120 = .ok (.istore 4, 2) := by decide +kernel
theorem dX12_goesFrom_122 : decode cX12_goesFrom 122 = .ok (.iload 4, 2) := by decide +kernel
theorem dX12_goesFrom_124 : decode cX12_goesFrom 124 = .ok (.iload_n 1, 1) := by decide +kernel
theorem dX12_goesFrom_125 : decode cX12_goesFrom 125 = .ok (.if_icmp .ne 8, 3) := by decide +kernel
theorem dX12_goesFrom_128 : decode cX12_goesFrom 128 = .ok (.aload_n 0, 1) := by decide +kernel
theorem dX12_goesFrom_129 : decode cX12_goesFrom 129 = .ok (.iload_n 2, 1) := by decide +kernel
theorem dX12_goesFrom_130 : decode cX12_goesFrom 130 = .ok (.invokevirtual 375, 3) := by decide +kernel
theorem dX12_goesFrom_133 : decode cX12_goesFrom 133 = .ok (.iload 4, 2) := by decide +kernel
theorem dX12_goesFrom_135 : decode cX12_goesFrom 135 = .ok (.iload_n 1, 1) := by decide +kernel
theorem dX12_goesFrom_136 : decode cX12_goesFrom 136 = .ok (.if_icmp .le (-120), 3) := by decide +kernel
theorem dX12_goesFrom_139 : decode cX12_goesFrom 139 = .ok (.iload_n 2, 1) := by decide +kernel
theorem dX12_goesFrom_140 : decode cX12_goesFrom 140 = .ok (.aload_n 0, 1) := by decide +kernel
theorem dX12_goesFrom_141 : decode cX12_goesFrom 141 = .ok (.getfield 369, 3) := by decide +kernel
theorem dX12_goesFrom_144 : decode cX12_goesFrom 144 = .ok (.if_icmp .ge (-128), 3) := by decide +kernel
theorem dX12_goesFrom_147 : decode cX12_goesFrom 147 = .ok (.aload_n 0, 1) := by decide +kernel
theorem dX12_goesFrom_148 : decode cX12_goesFrom 148 = .ok (.iload_n 2, 1) := by decide +kernel
theorem dX12_goesFrom_149 : decode cX12_goesFrom 149 = .ok (.iload 4, 2) := by decide +kernel
theorem dX12_goesFrom_151 : decode cX12_goesFrom 151 = .ok (.invokevirtual 378, 3) := by decide +kernel
theorem dX12_goesFrom_154 : decode cX12_goesFrom 154 = .ok (.ifCond .eq 6, 3) := by decide +kernel
theorem dX12_goesFrom_157 : decode cX12_goesFrom 157 = .ok (.goto (-141), 3) := by decide +kernel
theorem dX12_goesFrom_160 : decode cX12_goesFrom 160 = .ok (.aload_n 0, 1) := by decide +kernel
theorem dX12_goesFrom_161 : decode cX12_goesFrom 161 = .ok (.getfield 83, 3) := by decide +kernel
theorem dX12_goesFrom_164 : decode cX12_goesFrom 164 = .ok (.iload_n 2, 1) := by decide +kernel
theorem dX12_goesFrom_165 : decode cX12_goesFrom 165 = .ok (.iload 4, 2) := by decide +kernel
theorem dX12_goesFrom_167 : decode cX12_goesFrom 167 = .ok (.iastore, 1) := by decide +kernel
theorem dX12_goesFrom_168 : decode cX12_goesFrom 168 = .ok (.aload_n 0, 1) := by decide +kernel
theorem dX12_goesFrom_169 : decode cX12_goesFrom 169 = .ok (.getfield 86, 3) := by decide +kernel
theorem dX12_goesFrom_172 : decode cX12_goesFrom 172 = .ok (.iload_n 2, 1) := by decide +kernel
theorem dX12_goesFrom_173 : decode cX12_goesFrom 173 = .ok (.iconst (-1), 1) := by decide +kernel
theorem dX12_goesFrom_174 : decode cX12_goesFrom 174 = .ok (.iastore, 1) := by decide +kernel
theorem dX12_goesFrom_175 : decode cX12_goesFrom 175 = .ok (.iload_n 2, 1) := by decide +kernel
theorem dX12_goesFrom_176 : decode cX12_goesFrom 176 = .ok (.iconst 1, 1) := by decide +kernel
theorem dX12_goesFrom_177 : decode cX12_goesFrom 177 = .ok (.iadd, 1) := by decide +kernel
theorem dX12_goesFrom_178 : decode cX12_goesFrom 178 = .ok (.istore_n 2, 1) := by decide +kernel
theorem dX12_goesFrom_179 : decode cX12_goesFrom 179 = .ok (.goto (-163), 3) := by decide +kernel
theorem dX12_goesFrom_182 : decode cX12_goesFrom 182 = .ok (.return_, 1) := by decide +kernel
theorem dX12_rings_0 : decode cX12_rings 0 = .ok (.iload_n 1, 1) := by decide +kernel
theorem dX12_rings_1 : decode cX12_rings 1 = .ok (.iconst 0, 1) := by decide +kernel
theorem dX12_rings_2 : decode cX12_rings 2 = .ok (.iconst 1, 1) := by decide +kernel
theorem dX12_rings_3 : decode cX12_rings 3 = .ok (.invokestatic 107, 3) := by decide +kernel
theorem dX12_rings_6 : decode cX12_rings 6 = .ok (.ifCond .ne 5, 3) := by decide +kernel
theorem dX12_rings_9 : decode cX12_rings 9 = .ok (.iconst (-1), 1) := by decide +kernel
theorem dX12_rings_10 : decode cX12_rings 10 = .ok (.ireturn, 1) := by decide +kernel
theorem dX12_rings_11 : decode cX12_rings 11 = .ok (.aload_n 0, 1) := by decide +kernel
theorem dX12_rings_12 : decode cX12_rings 12 = .ok (.bipush 17, 2) := by decide +kernel
theorem dX12_rings_14 : decode cX12_rings 14 = .ok (.putfield 369, 3) := by decide +kernel
theorem dX12_rings_17 : decode cX12_rings 17 = .ok (.aload_n 0, 1) := by decide +kernel
theorem dX12_rings_18 : decode cX12_rings 18 = .ok (.ldc_w 288, 3) := by decide +kernel
theorem dX12_rings_21 : decode cX12_rings 21 = .ok (.putfield 372, 3) := by decide +kernel
theorem dX12_rings_24 : decode cX12_rings 24 = .ok (.iconst 0, 1) := by decide +kernel
theorem dX12_rings_25 : decode cX12_rings 25 = .ok (.istore_n 2, 1) := by decide +kernel
theorem dX12_rings_26 : decode cX12_rings 26 = .ok (.iload_n 2, 1) := by decide +kernel
theorem dX12_rings_27 : decode cX12_rings 27 = .ok (.bipush 16, 2) := by decide +kernel
theorem dX12_rings_29 : decode cX12_rings 29 = .ok (.if_icmp .ge 14, 3) := by decide +kernel
theorem dX12_rings_32 : decode cX12_rings 32 = .ok (.aload_n 0, 1) := by decide +kernel
theorem dX12_rings_33 : decode cX12_rings 33 = .ok (.iload_n 2, 1) := by decide +kernel
theorem dX12_rings_34 : decode cX12_rings 34 = .ok (.invokevirtual 381, 3) := by decide +kernel
theorem dX12_rings_37 : decode cX12_rings 37 = .ok (.iinc 2 1, 3) := by decide +kernel
theorem dX12_rings_40 : decode cX12_rings 40 = .ok (.goto (-14), 3) := by decide +kernel
theorem dX12_rings_43 : decode cX12_rings 43 = .ok (.aload_n 0, 1) := by decide +kernel
theorem dX12_rings_44 : decode cX12_rings 44 = .ok (.getfield 369, 3) := by decide +kernel
theorem dX12_rings_47 : decode cX12_rings 47 = .ok (.bipush 16, 2) := by decide +kernel
theorem dX12_rings_49 : decode cX12_rings 49 = .ok (.if_icmp .le 6, 3) := by decide +kernel
theorem dX12_rings_52 : decode cX12_rings 52 = .ok (.bipush (-2), 2) := by decide +kernel
theorem dX12_rings_54 : decode cX12_rings 54 = .ok (.ireturn, 1) := by decide +kernel
theorem dX12_rings_55 : decode cX12_rings 55 = .ok (.iload_n 1, 1) := by decide +kernel
theorem dX12_rings_56 : decode cX12_rings 56 = .ok (.ifCond .ne 10, 3) := by decide +kernel
theorem dX12_rings_59 : decode cX12_rings 59 = .ok (.aload_n 0, 1) := by decide +kernel
theorem dX12_rings_60 : decode cX12_rings 60 = .ok (.getfield 369, 3) := by decide +kernel
theorem dX12_rings_63 : decode cX12_rings 63 = .ok (.goto 7, 3) := by decide +kernel
theorem dX12_rings_66 : decode cX12_rings 66 = .ok (.aload_n 0, 1) := by decide +kernel
theorem dX12_rings_67 : decode cX12_rings 67 = .ok (.getfield 372, 3) := by decide +kernel
theorem dX12_rings_70 : decode cX12_rings 70 = .ok (.ireturn, 1) := by decide +kernel
theorem dX12_twoOctets_0 : decode cX12_twoOctets 0 = .ok (.aload_n 0, 1) := by decide +kernel
theorem dX12_twoOctets_1 : decode cX12_twoOctets 1 = .ok (.iconst 2, 1) := by decide +kernel
theorem dX12_twoOctets_2 : decode cX12_twoOctets 2 = .ok (.iload_n 1, 1) := by decide +kernel
theorem dX12_twoOctets_3 : decode cX12_twoOctets 3 = .ok (.imul, 1) := by decide +kernel
theorem dX12_twoOctets_4 : decode cX12_twoOctets 4 = .ok (.invokevirtual 384, 3) := by decide +kernel
theorem dX12_twoOctets_7 : decode cX12_twoOctets 7 = .ok (.sipush 256, 3) := by decide +kernel
theorem dX12_twoOctets_10 : decode cX12_twoOctets 10 = .ok (.imul, 1) := by decide +kernel
theorem dX12_twoOctets_11 : decode cX12_twoOctets 11 = .ok (.aload_n 0, 1) := by decide +kernel
theorem dX12_twoOctets_12 : decode cX12_twoOctets 12 = .ok (.iconst 2, 1) := by decide +kernel
theorem dX12_twoOctets_13 : decode cX12_twoOctets 13 = .ok (.iload_n 1, 1) := by decide +kernel
theorem dX12_twoOctets_14 : decode cX12_twoOctets 14 = .ok (.imul, 1) := by decide +kernel
theorem dX12_twoOctets_15 : decode cX12_twoOctets 15 = .ok (.iconst 1, 1) := by decide +kernel
theorem dX12_twoOctets_16 : decode cX12_twoOctets 16 = .ok (.iadd, 1) := by decide +kernel
theorem dX12_twoOctets_17 : decode cX12_twoOctets 17 = .ok (.invokevirtual 384, 3) := by decide +kernel
theorem dX12_twoOctets_20 : decode cX12_twoOctets 20 = .ok (.iadd, 1) := by decide +kernel
theorem dX12_twoOctets_21 : decode cX12_twoOctets 21 = .ok (.ireturn, 1) := by decide +kernel
theorem dX12_sumOf_0 : decode cX12_sumOf 0 = .ok (.iconst 0, 1) := by decide +kernel
theorem dX12_sumOf_1 : decode cX12_sumOf 1 = .ok (.istore_n 3, 1) := by decide +kernel
theorem dX12_sumOf_2 : decode cX12_sumOf 2 = .ok (.iconst 0, 1) := by decide +kernel
theorem dX12_sumOf_3 : decode cX12_sumOf 3 = .ok (.istore 4, 2) := by decide +kernel
theorem dX12_sumOf_5 : decode cX12_sumOf 5 = .ok (.iload 4, 2) := by decide +kernel
theorem dX12_sumOf_7 : decode cX12_sumOf 7 = .ok (.iload_n 2, 1) := by decide +kernel
theorem dX12_sumOf_8 : decode cX12_sumOf 8 = .ok (.if_icmp .ge 31, 3) := by decide +kernel
theorem dX12_sumOf_11 : decode cX12_sumOf 11 = .ok (.iload_n 1, 1) := by decide +kernel
theorem dX12_sumOf_12 : decode cX12_sumOf 12 = .ok (.iload 4, 2) := by decide +kernel
theorem dX12_sumOf_14 : decode cX12_sumOf 14 = .ok (.invokestatic 350, 3) := by decide +kernel
theorem dX12_sumOf_17 : decode cX12_sumOf 17 = .ok (.ifCond .eq 16, 3) := by decide +kernel
theorem dX12_sumOf_20 : decode cX12_sumOf 20 = .ok (.iload_n 3, 1) := by decide +kernel
theorem dX12_sumOf_21 : decode cX12_sumOf 21 = .ok (.aload_n 0, 1) := by decide +kernel
theorem dX12_sumOf_22 : decode cX12_sumOf 22 = .ok (.iload 4, 2) := by decide +kernel
theorem dX12_sumOf_24 : decode cX12_sumOf 24 = .ok (.invokevirtual 387, 3) := by decide +kernel
theorem dX12_sumOf_27 : decode cX12_sumOf 27 = .ok (.iadd, 1) := by decide +kernel
theorem dX12_sumOf_28 : decode cX12_sumOf 28 = .ok (.ldc_w 390, 3) := by decide +kernel
theorem dX12_sumOf_31 : decode cX12_sumOf 31 = .ok (.isub, 1) := by decide +kernel
theorem dX12_sumOf_32 : decode cX12_sumOf 32 = .ok (.istore_n 3, 1) := by decide +kernel
theorem dX12_sumOf_33 : decode cX12_sumOf 33 = .ok (.iinc 4 1, 3) := by decide +kernel
theorem dX12_sumOf_36 : decode cX12_sumOf 36 = .ok (.goto (-31), 3) := by decide +kernel
theorem dX12_sumOf_39 : decode cX12_sumOf 39 = .ok (.iload_n 3, 1) := by decide +kernel
theorem dX12_sumOf_40 : decode cX12_sumOf 40 = .ok (.ireturn, 1) := by decide +kernel
theorem dX12_settled_0 : decode cX12_settled 0 = .ok (.iload_n 1, 1) := by decide +kernel
theorem dX12_settled_1 : decode cX12_settled 1 = .ok (.iconst 2, 1) := by decide +kernel
theorem dX12_settled_2 : decode cX12_settled 2 = .ok (.bipush 8, 2) := by decide +kernel
theorem dX12_settled_4 : decode cX12_settled 4 = .ok (.invokestatic 107, 3) := by decide +kernel
theorem dX12_settled_7 : decode cX12_settled 7 = .ok (.ifCond .eq 22, 3) := by decide +kernel
theorem dX12_settled_10 : decode cX12_settled 10 = .ok (.iload_n 2, 1) := by decide +kernel
theorem dX12_settled_11 : decode cX12_settled 11 = .ok (.iconst 0, 1) := by decide +kernel
theorem dX12_settled_12 : decode cX12_settled 12 = .ok (.iconst 1, 1) := by decide +kernel
theorem dX12_settled_13 : decode cX12_settled 13 = .ok (.invokestatic 107, 3) := by decide +kernel
theorem dX12_settled_16 : decode cX12_settled 16 = .ok (.ifCond .eq 13, 3) := by decide +kernel
theorem dX12_settled_19 : decode cX12_settled 19 = .ok (.iconst 2, 1) := by decide +kernel
theorem dX12_settled_20 : decode cX12_settled 20 = .ok (.iload_n 1, 1) := by decide +kernel
theorem dX12_settled_21 : decode cX12_settled 21 = .ok (.imul, 1) := by decide +kernel
theorem dX12_settled_22 : decode cX12_settled 22 = .ok (.aload_n 0, 1) := by decide +kernel
theorem dX12_settled_23 : decode cX12_settled 23 = .ok (.getfield 120, 3) := by decide +kernel
theorem dX12_settled_26 : decode cX12_settled 26 = .ok (.if_icmp .le 5, 3) := by decide +kernel
theorem dX12_settled_29 : decode cX12_settled 29 = .ok (.iconst (-1), 1) := by decide +kernel
theorem dX12_settled_30 : decode cX12_settled 30 = .ok (.ireturn, 1) := by decide +kernel
theorem dX12_settled_31 : decode cX12_settled 31 = .ok (.aload_n 0, 1) := by decide +kernel
theorem dX12_settled_32 : decode cX12_settled 32 = .ok (.iconst 0, 1) := by decide +kernel
theorem dX12_settled_33 : decode cX12_settled 33 = .ok (.putfield 120, 3) := by decide +kernel
theorem dX12_settled_36 : decode cX12_settled 36 = .ok (.iconst 1, 1) := by decide +kernel
theorem dX12_settled_37 : decode cX12_settled 37 = .ok (.iload_n 1, 1) := by decide +kernel
theorem dX12_settled_38 : decode cX12_settled 38 = .ok (.ishl, 1) := by decide +kernel
theorem dX12_settled_39 : decode cX12_settled 39 = .ok (.iconst 1, 1) := by decide +kernel
theorem dX12_settled_40 : decode cX12_settled 40 = .ok (.isub, 1) := by decide +kernel
theorem dX12_settled_41 : decode cX12_settled 41 = .ok (.istore_n 3, 1) := by decide +kernel
theorem dX12_settled_42 : decode cX12_settled 42 = .ok (.aload_n 0, 1) := by decide +kernel
theorem dX12_settled_43 : decode cX12_settled 43 = .ok (.iload_n 3, 1) := by decide +kernel
theorem dX12_settled_44 : decode cX12_settled 44 = .ok (.iload_n 1, 1) := by decide +kernel
theorem dX12_settled_45 : decode cX12_settled 45 = .ok (.invokevirtual 391, 3) := by decide +kernel
theorem dX12_settled_48 : decode cX12_settled 48 = .ok (.ifCond .eq 6, 3) := by decide +kernel
theorem dX12_settled_51 : decode cX12_settled 51 = .ok (.bipush (-2), 2) := by decide +kernel
theorem dX12_settled_53 : decode cX12_settled 53 = .ok (.ireturn, 1) := by decide +kernel
theorem dX12_settled_54 : decode cX12_settled 54 = .ok (.iconst 0, 1) := by decide +kernel
theorem dX12_settled_55 : decode cX12_settled 55 = .ok (.istore 4, 2) := by decide +kernel
theorem dX12_settled_57 : decode cX12_settled 57 = .ok (.iconst 0, 1) := by decide +kernel
theorem dX12_settled_58 : decode cX12_settled 58 = .ok (.istore 5, 2) := by decide +kernel
theorem dX12_settled_60 : decode cX12_settled 60 = .ok (.iload 5, 2) := by decide +kernel
theorem dX12_settled_62 : decode cX12_settled 62 = .ok (.iload_n 1, 1) := by decide +kernel
theorem dX12_settled_63 : decode cX12_settled 63 = .ok (.if_icmp .ge 28, 3) := by decide +kernel
theorem dX12_settled_66 : decode cX12_settled 66 = .ok (.iload 4, 2) := by decide +kernel
theorem dX12_settled_68 : decode cX12_settled 68 = .ok (.iconst 0, 1) := by decide +kernel
theorem dX12_settled_69 : decode cX12_settled 69 = .ok (.aload_n 0, 1) := by decide +kernel
theorem dX12_settled_70 : decode cX12_settled 70 = .ok (.iload 5, 2) := by decide +kernel
theorem dX12_settled_72 : decode cX12_settled 72 = .ok (.invokevirtual 387, 3) := by decide +kernel
theorem dX12_settled_75 : decode cX12_settled 75 = .ok (.ldc_w 390, 3) := by decide +kernel
theorem dX12_settled_78 : decode cX12_settled 78 = .ok (.isub, 1) := by decide +kernel
theorem dX12_settled_79 : decode cX12_settled 79 = .ok (.invokestatic 302, 3) := by decide +kernel
theorem dX12_settled_82 : decode cX12_settled 82 = .ok (.iadd, 1) := by decide +kernel
theorem dX12_settled_83 : decode cX12_settled 83 = .ok (.istore 4, 2) := by decide +kernel
theorem dX12_settled_85 : decode cX12_settled 85 = .ok (.iinc 5 1, 3) := by decide +kernel
theorem dX12_settled_88 : decode cX12_settled 88 = .ok (.goto (-28), 3) := by decide +kernel
theorem dX12_settled_91 : decode cX12_settled 91 = .ok (.iload_n 2, 1) := by decide +kernel
theorem dX12_settled_92 : decode cX12_settled 92 = .ok (.iconst 1, 1) := by decide +kernel
theorem dX12_settled_93 : decode cX12_settled 93 = .ok (.if_icmp .ne 6, 3) := by decide +kernel
theorem dX12_settled_96 : decode cX12_settled 96 = .ok (.iload 4, 2) := by decide +kernel
theorem dX12_settled_98 : decode cX12_settled 98 = .ok (.ireturn, 1) := by decide +kernel
theorem dX12_settled_99 : decode cX12_settled 99 = .ok (.aload_n 0, 1) := by decide +kernel
theorem dX12_settled_100 : decode cX12_settled 100 = .ok (.getfield 89, 3) := by decide +kernel
theorem dX12_settled_103 : decode cX12_settled 103 = .ok (.iconst 0, 1) := by decide +kernel
theorem dX12_settled_104 : decode cX12_settled 104 = .ok (.iconst 0, 1) := by decide +kernel
theorem dX12_settled_105 : decode cX12_settled 105 = .ok (.iastore, 1) := by decide +kernel
theorem dX12_settled_106 : decode cX12_settled 106 = .ok (.iconst 1, 1) := by decide +kernel
theorem dX12_settled_107 : decode cX12_settled 107 = .ok (.istore 5, 2) := by decide +kernel
theorem dX12_settled_109 : decode cX12_settled 109 = .ok (.iload 5, 2) := by decide +kernel
theorem dX12_settled_111 : decode cX12_settled 111 = .ok (.iload_n 3, 1) := by decide +kernel
theorem dX12_settled_112 : decode cX12_settled 112 = .ok (.if_icmp .gt 83, 3) := by decide +kernel
theorem dX12_settled_115 : decode cX12_settled 115 = .ok (.iconst 0, 1) := by decide +kernel
theorem dX12_settled_116 : decode cX12_settled 116 = .ok (.istore 6, 2) := by decide +kernel
theorem dX12_settled_118 : decode cX12_settled 118 = .ok (.iconst 0, 1) := by decide +kernel
theorem dX12_settled_119 : decode cX12_settled 119 = .ok (.istore 7, 2) := by decide +kernel
theorem dX12_settled_121 : decode cX12_settled 121 = .ok (.iload 7, 2) := by decide +kernel
theorem dX12_settled_123 : decode cX12_settled 123 = .ok (.iload_n 1, 1) := by decide +kernel
theorem dX12_settled_124 : decode cX12_settled 124 = .ok (.if_icmp .ge 40, 3) := by decide +kernel
theorem dX12_settled_127 : decode cX12_settled 127 = .ok (.iload 5, 2) := by decide +kernel
theorem dX12_settled_129 : decode cX12_settled 129 = .ok (.iload 7, 2) := by decide +kernel
theorem dX12_settled_131 : decode cX12_settled 131 = .ok (.invokestatic 350, 3) := by decide +kernel
theorem dX12_settled_134 : decode cX12_settled 134 = .ok (.ifCond .eq 24, 3) := by decide +kernel
theorem dX12_settled_137 : decode cX12_settled 137 = .ok (.iload 6, 2) := by decide +kernel
theorem dX12_settled_139 : decode cX12_settled 139 = .ok (.aload_n 0, 1) := by decide +kernel
theorem dX12_settled_140 : decode cX12_settled 140 = .ok (.getfield 89, 3) := by decide +kernel
theorem dX12_settled_143 : decode cX12_settled 143 = .ok (.iload 5, 2) := by decide +kernel
theorem dX12_settled_145 : decode cX12_settled 145 = .ok (.iconst 1, 1) := by decide +kernel
theorem dX12_settled_146 : decode cX12_settled 146 = .ok (.iload 7, 2) := by decide +kernel
theorem dX12_settled_148 : decode cX12_settled 148 = .ok (.ishl, 1) := by decide +kernel
theorem dX12_settled_149 : decode cX12_settled 149 = .ok (.iconst (-1), 1) := by decide +kernel
theorem dX12_settled_150 : decode cX12_settled 150 = .ok (.ixor, 1) := by decide +kernel
theorem dX12_settled_151 : decode cX12_settled 151 = .ok (.iand, 1) := by decide +kernel
theorem dX12_settled_152 : decode cX12_settled 152 = .ok (.iaload, 1) := by decide +kernel
theorem dX12_settled_153 : decode cX12_settled 153 = .ok (.invokestatic 302, 3) := by decide +kernel
theorem dX12_settled_156 : decode cX12_settled 156 = .ok (.istore 6, 2) := by decide +kernel
theorem dX12_settled_158 : decode cX12_settled 158 = .ok (.iinc 7 1, 3) := by decide +kernel
theorem dX12_settled_161 : decode cX12_settled 161 = .ok (.goto (-40), 3) := by decide +kernel
theorem dX12_settled_164 : decode cX12_settled 164 = .ok (.aload_n 0, 1) := by decide +kernel
theorem dX12_settled_165 : decode cX12_settled 165 = .ok (.getfield 89, 3) := by decide +kernel
theorem dX12_settled_168 : decode cX12_settled 168 = .ok (.iload 5, 2) := by decide +kernel
theorem dX12_settled_170 : decode cX12_settled 170 = .ok (.iload 6, 2) := by decide +kernel
theorem dX12_settled_172 : decode cX12_settled 172 = .ok (.aload_n 0, 1) := by decide +kernel
theorem dX12_settled_173 : decode cX12_settled 173 = .ok (.iload 5, 2) := by decide +kernel
theorem dX12_settled_175 : decode cX12_settled 175 = .ok (.iload_n 1, 1) := by decide +kernel
theorem dX12_settled_176 : decode cX12_settled 176 = .ok (.invokevirtual 391, 3) := by decide +kernel
theorem dX12_settled_179 : decode cX12_settled 179 = .ok (.ifCond .ne 7, 3) := by decide +kernel
theorem dX12_settled_182 : decode cX12_settled 182 = .ok (.iconst 1, 1) := by decide +kernel
theorem dX12_settled_183 : decode cX12_settled 183 = .ok (.goto 4, 3) := by decide +kernel
theorem dX12_settled_186 : decode cX12_settled 186 = .ok (.iconst 0, 1) := by decide +kernel
theorem dX12_settled_187 : decode cX12_settled 187 = .ok (.iadd, 1) := by decide +kernel
theorem dX12_settled_188 : decode cX12_settled 188 = .ok (.iastore, 1) := by decide +kernel
theorem dX12_settled_189 : decode cX12_settled 189 = .ok (.iinc 5 1, 3) := by decide +kernel
theorem dX12_settled_192 : decode cX12_settled 192 = .ok (.goto (-83), 3) := by decide +kernel
theorem dX12_settled_195 : decode cX12_settled 195 = .ok (.iload_n 1, 1) := by decide +kernel
theorem dX12_settled_196 : decode cX12_settled 196 = .ok (.aload_n 0, 1) := by decide +kernel
theorem dX12_settled_197 : decode cX12_settled 197 = .ok (.getfield 89, 3) := by decide +kernel
theorem dX12_settled_200 : decode cX12_settled 200 = .ok (.iload_n 3, 1) := by decide +kernel
theorem dX12_settled_201 : decode cX12_settled 201 = .ok (.iaload, 1) := by decide +kernel
theorem dX12_settled_202 : decode cX12_settled 202 = .ok (.isub, 1) := by decide +kernel
theorem dX12_settled_203 : decode cX12_settled 203 = .ok (.ireturn, 1) := by decide +kernel
theorem dX12_nextRow_0 : decode cX12_nextRow 0 = .ok (.iload_n 1, 1) := by decide +kernel
theorem dX12_nextRow_1 : decode cX12_nextRow 1 = .ok (.iconst 2, 1) := by decide +kernel
theorem dX12_nextRow_2 : decode cX12_nextRow 2 = .ok (.isub, 1) := by decide +kernel
theorem dX12_nextRow_3 : decode cX12_nextRow 3 = .ok (.istore_n 2, 1) := by decide +kernel
theorem dX12_nextRow_4 : decode cX12_nextRow 4 = .ok (.iload_n 2, 1) := by decide +kernel
theorem dX12_nextRow_5 : decode cX12_nextRow 5 = .ok (.ifCond .lt 19, 3) := by decide +kernel
theorem dX12_nextRow_8 : decode cX12_nextRow 8 = .ok (.aload_n 0, 1) := by decide +kernel
theorem dX12_nextRow_9 : decode cX12_nextRow 9 = .ok (.getfield 92, 3) := by decide +kernel
theorem dX12_nextRow_12 : decode cX12_nextRow 12 = .ok (.iload_n 2, 1) := by decide +kernel
theorem dX12_nextRow_13 : decode cX12_nextRow 13 = .ok (.iaload, 1) := by decide +kernel
theorem dX12_nextRow_14 : decode cX12_nextRow 14 = .ok (.ifCond .ne 10, 3) := by decide +kernel
theorem dX12_nextRow_17 : decode cX12_nextRow 17 = .ok (.iload_n 2, 1) := by decide +kernel
theorem dX12_nextRow_18 : decode cX12_nextRow 18 = .ok (.iconst 1, 1) := by decide +kernel
theorem dX12_nextRow_19 : decode cX12_nextRow 19 = .ok (.isub, 1) := by decide +kernel
theorem dX12_nextRow_20 : decode cX12_nextRow 20 = .ok (.istore_n 2, 1) := by decide +kernel
theorem dX12_nextRow_21 : decode cX12_nextRow 21 = .ok (.goto (-17), 3) := by decide +kernel
theorem dX12_nextRow_24 : decode cX12_nextRow 24 = .ok (.iload_n 2, 1) := by decide +kernel
theorem dX12_nextRow_25 : decode cX12_nextRow 25 = .ok (.ifCond .ge 5, 3) := by decide +kernel
theorem dX12_nextRow_28 : decode cX12_nextRow 28 = .ok (.iconst 0, 1) := by decide +kernel
theorem dX12_nextRow_29 : decode cX12_nextRow 29 = .ok (.ireturn, 1) := by decide +kernel
theorem dX12_nextRow_30 : decode cX12_nextRow 30 = .ok (.iconst 0, 1) := by decide +kernel
theorem dX12_nextRow_31 : decode cX12_nextRow 31 = .ok (.istore_n 3, 1) := by decide +kernel
theorem dX12_nextRow_32 : decode cX12_nextRow 32 = .ok (.iload_n 2, 1) := by decide +kernel
theorem dX12_nextRow_33 : decode cX12_nextRow 33 = .ok (.iconst 1, 1) := by decide +kernel
theorem dX12_nextRow_34 : decode cX12_nextRow 34 = .ok (.iadd, 1) := by decide +kernel
theorem dX12_nextRow_35 : decode cX12_nextRow 35 = .ok (.istore 4, 2) := by decide +kernel
theorem dX12_nextRow_37 : decode cX12_nextRow 37 = .ok (.iload 4, 2) := by decide +kernel
theorem dX12_nextRow_39 : decode cX12_nextRow 39 = .ok (.iload_n 1, 1) := by decide +kernel
theorem dX12_nextRow_40 : decode cX12_nextRow 40 = .ok (.if_icmp .ge 27, 3) := by decide +kernel
theorem dX12_nextRow_43 : decode cX12_nextRow 43 = .ok (.iload_n 3, 1) := by decide +kernel
theorem dX12_nextRow_44 : decode cX12_nextRow 44 = .ok (.aload_n 0, 1) := by decide +kernel
theorem dX12_nextRow_45 : decode cX12_nextRow 45 = .ok (.getfield 92, 3) := by decide +kernel
theorem dX12_nextRow_48 : decode cX12_nextRow 48 = .ok (.iload 4, 2) := by decide +kernel
theorem dX12_nextRow_50 : decode cX12_nextRow 50 = .ok (.iaload, 1) := by decide +kernel
theorem dX12_nextRow_51 : decode cX12_nextRow 51 = .ok (.iadd, 1) := by decide +kernel
theorem dX12_nextRow_52 : decode cX12_nextRow 52 = .ok (.istore_n 3, 1) := by decide +kernel
theorem dX12_nextRow_53 : decode cX12_nextRow 53 = .ok (.aload_n 0, 1) := by decide +kernel
theorem dX12_nextRow_54 : decode cX12_nextRow 54 = .ok (.getfield 92, 3) := by decide +kernel
theorem dX12_nextRow_57 : decode cX12_nextRow 57 = .ok (.iload 4, 2) := by decide +kernel
theorem dX12_nextRow_59 : decode cX12_nextRow 59 = .ok (.iconst 0, 1) := by decide +kernel
theorem dX12_nextRow_60 : decode cX12_nextRow 60 = .ok (.iastore, 1) := by decide +kernel
theorem dX12_nextRow_61 : decode cX12_nextRow 61 = .ok (.iinc 4 1, 3) := by decide +kernel
theorem dX12_nextRow_64 : decode cX12_nextRow 64 = .ok (.goto (-27), 3) := by decide +kernel
theorem dX12_nextRow_67 : decode cX12_nextRow 67 = .ok (.aload_n 0, 1) := by decide +kernel
theorem dX12_nextRow_68 : decode cX12_nextRow 68 = .ok (.getfield 92, 3) := by decide +kernel
theorem dX12_nextRow_71 : decode cX12_nextRow 71 = .ok (.iload_n 2, 1) := by decide +kernel
theorem dX12_nextRow_72 : decode cX12_nextRow 72 = .ok (.aload_n 0, 1) := by decide +kernel
theorem dX12_nextRow_73 : decode cX12_nextRow 73 = .ok (.getfield 92, 3) := by decide +kernel
theorem dX12_nextRow_76 : decode cX12_nextRow 76 = .ok (.iload_n 2, 1) := by decide +kernel
theorem dX12_nextRow_77 : decode cX12_nextRow 77 = .ok (.iaload, 1) := by decide +kernel
theorem dX12_nextRow_78 : decode cX12_nextRow 78 = .ok (.iconst 1, 1) := by decide +kernel
theorem dX12_nextRow_79 : decode cX12_nextRow 79 = .ok (.isub, 1) := by decide +kernel
theorem dX12_nextRow_80 : decode cX12_nextRow 80 = .ok (.iastore, 1) := by decide +kernel
theorem dX12_nextRow_81 : decode cX12_nextRow 81 = .ok (.aload_n 0, 1) := by decide +kernel
theorem dX12_nextRow_82 : decode cX12_nextRow 82 = .ok (.getfield 92, 3) := by decide +kernel
theorem dX12_nextRow_85 : decode cX12_nextRow 85 = .ok (.iload_n 2, 1) := by decide +kernel
theorem dX12_nextRow_86 : decode cX12_nextRow 86 = .ok (.iconst 1, 1) := by decide +kernel
theorem dX12_nextRow_87 : decode cX12_nextRow 87 = .ok (.iadd, 1) := by decide +kernel
theorem dX12_nextRow_88 : decode cX12_nextRow 88 = .ok (.iload_n 3, 1) := by decide +kernel
theorem dX12_nextRow_89 : decode cX12_nextRow 89 = .ok (.iconst 1, 1) := by decide +kernel
theorem dX12_nextRow_90 : decode cX12_nextRow 90 = .ok (.iadd, 1) := by decide +kernel
theorem dX12_nextRow_91 : decode cX12_nextRow 91 = .ok (.iastore, 1) := by decide +kernel
theorem dX12_nextRow_92 : decode cX12_nextRow 92 = .ok (.iconst 1, 1) := by decide +kernel
theorem dX12_nextRow_93 : decode cX12_nextRow 93 = .ok (.ireturn, 1) := by decide +kernel
theorem dX12_sumBy_0 : decode cX12_sumBy 0 = .ok (.iconst 0, 1) := by decide +kernel
theorem dX12_sumBy_1 : decode cX12_sumBy 1 = .ok (.istore_n 3, 1) := by decide +kernel
theorem dX12_sumBy_2 : decode cX12_sumBy 2 = .ok (.iconst 0, 1) := by decide +kernel
theorem dX12_sumBy_3 : decode cX12_sumBy 3 = .ok (.istore 4, 2) := by decide +kernel
theorem dX12_sumBy_5 : decode cX12_sumBy 5 = .ok (.iload 4, 2) := by decide +kernel
theorem dX12_sumBy_7 : decode cX12_sumBy 7 = .ok (.iload_n 1, 1) := by decide +kernel
theorem dX12_sumBy_8 : decode cX12_sumBy 8 = .ok (.if_icmp .ge 30, 3) := by decide +kernel
theorem dX12_sumBy_11 : decode cX12_sumBy 11 = .ok (.iload_n 3, 1) := by decide +kernel
theorem dX12_sumBy_12 : decode cX12_sumBy 12 = .ok (.aload_n 0, 1) := by decide +kernel
theorem dX12_sumBy_13 : decode cX12_sumBy 13 = .ok (.getfield 92, 3) := by decide +kernel
theorem dX12_sumBy_16 : decode cX12_sumBy 16 = .ok (.iload 4, 2) := by decide +kernel
theorem dX12_sumBy_18 : decode cX12_sumBy 18 = .ok (.iaload, 1) := by decide +kernel
theorem dX12_sumBy_19 : decode cX12_sumBy 19 = .ok (.aload_n 0, 1) := by decide +kernel
theorem dX12_sumBy_20 : decode cX12_sumBy 20 = .ok (.iconst 2, 1) := by decide +kernel
theorem dX12_sumBy_21 : decode cX12_sumBy 21 = .ok (.iload 4, 2) := by decide +kernel
theorem dX12_sumBy_23 : decode cX12_sumBy 23 = .ok (.imul, 1) := by decide +kernel
theorem dX12_sumBy_24 : decode cX12_sumBy 24 = .ok (.iload_n 2, 1) := by decide +kernel
theorem dX12_sumBy_25 : decode cX12_sumBy 25 = .ok (.iadd, 1) := by decide +kernel
theorem dX12_sumBy_26 : decode cX12_sumBy 26 = .ok (.invokevirtual 384, 3) := by decide +kernel
theorem dX12_sumBy_29 : decode cX12_sumBy 29 = .ok (.imul, 1) := by decide +kernel
theorem dX12_sumBy_30 : decode cX12_sumBy 30 = .ok (.iadd, 1) := by decide +kernel
theorem dX12_sumBy_31 : decode cX12_sumBy 31 = .ok (.istore_n 3, 1) := by decide +kernel
theorem dX12_sumBy_32 : decode cX12_sumBy 32 = .ok (.iinc 4 1, 3) := by decide +kernel
theorem dX12_sumBy_35 : decode cX12_sumBy 35 = .ok (.goto (-30), 3) := by decide +kernel
theorem dX12_sumBy_38 : decode cX12_sumBy 38 = .ok (.iload_n 3, 1) := by decide +kernel
theorem dX12_sumBy_39 : decode cX12_sumBy 39 = .ok (.ireturn, 1) := by decide +kernel
theorem dX12_joy_0 : decode cX12_joy 0 = .ok (.iload_n 1, 1) := by decide +kernel
theorem dX12_joy_1 : decode cX12_joy 1 = .ok (.iconst 1, 1) := by decide +kernel
theorem dX12_joy_2 : decode cX12_joy 2 = .ok (.iconst 5, 1) := by decide +kernel
theorem dX12_joy_3 : decode cX12_joy 3 = .ok (.invokestatic 107, 3) := by decide +kernel
theorem dX12_joy_6 : decode cX12_joy 6 = .ok (.ifCond .eq 41, 3) := by decide +kernel
theorem dX12_joy_9 : decode cX12_joy 9 = .ok (.iload_n 2, 1) := by decide +kernel
theorem dX12_joy_10 : decode cX12_joy 10 = .ok (.iconst 0, 1) := by decide +kernel
theorem dX12_joy_11 : decode cX12_joy 11 = .ok (.sipush 6120, 3) := by decide +kernel
theorem dX12_joy_14 : decode cX12_joy 14 = .ok (.invokestatic 107, 3) := by decide +kernel
theorem dX12_joy_17 : decode cX12_joy 17 = .ok (.ifCond .eq 30, 3) := by decide +kernel
theorem dX12_joy_20 : decode cX12_joy 20 = .ok (.iload_n 3, 1) := by decide +kernel
theorem dX12_joy_21 : decode cX12_joy 21 = .ok (.iconst 0, 1) := by decide +kernel
theorem dX12_joy_22 : decode cX12_joy 22 = .ok (.iload_n 1, 1) := by decide +kernel
theorem dX12_joy_23 : decode cX12_joy 23 = .ok (.iconst 1, 1) := by decide +kernel
theorem dX12_joy_24 : decode cX12_joy 24 = .ok (.isub, 1) := by decide +kernel
theorem dX12_joy_25 : decode cX12_joy 25 = .ok (.invokestatic 107, 3) := by decide +kernel
theorem dX12_joy_28 : decode cX12_joy 28 = .ok (.ifCond .ne 9, 3) := by decide +kernel
theorem dX12_joy_31 : decode cX12_joy 31 = .ok (.iload_n 3, 1) := by decide +kernel
theorem dX12_joy_32 : decode cX12_joy 32 = .ok (.bipush 100, 2) := by decide +kernel
theorem dX12_joy_34 : decode cX12_joy 34 = .ok (.if_icmp .ne 13, 3) := by decide +kernel
theorem dX12_joy_37 : decode cX12_joy 37 = .ok (.iconst 2, 1) := by decide +kernel
theorem dX12_joy_38 : decode cX12_joy 38 = .ok (.iload_n 1, 1) := by decide +kernel
theorem dX12_joy_39 : decode cX12_joy 39 = .ok (.imul, 1) := by decide +kernel
theorem dX12_joy_40 : decode cX12_joy 40 = .ok (.aload_n 0, 1) := by decide +kernel
theorem dX12_joy_41 : decode cX12_joy 41 = .ok (.getfield 120, 3) := by decide +kernel
theorem dX12_joy_44 : decode cX12_joy 44 = .ok (.if_icmp .le 5, 3) := by decide +kernel
theorem dX12_joy_47 : decode cX12_joy 47 = .ok (.iconst (-1), 1) := by decide +kernel
theorem dX12_joy_48 : decode cX12_joy 48 = .ok (.ireturn, 1) := by decide +kernel
theorem dX12_joy_49 : decode cX12_joy 49 = .ok (.aload_n 0, 1) := by decide +kernel
theorem dX12_joy_50 : decode cX12_joy 50 = .ok (.iconst 0, 1) := by decide +kernel
theorem dX12_joy_51 : decode cX12_joy 51 = .ok (.putfield 120, 3) := by decide +kernel
theorem dX12_joy_54 : decode cX12_joy 54 = .ok (.bipush (-2), 2) := by decide +kernel
theorem dX12_joy_56 : decode cX12_joy 56 = .ok (.istore 4, 2) := by decide +kernel
theorem dX12_joy_58 : decode cX12_joy 58 = .ok (.iconst 0, 1) := by decide +kernel
theorem dX12_joy_59 : decode cX12_joy 59 = .ok (.istore 5, 2) := by decide +kernel
theorem dX12_joy_61 : decode cX12_joy 61 = .ok (.iload 5, 2) := by decide +kernel
theorem dX12_joy_63 : decode cX12_joy 63 = .ok (.iload_n 1, 1) := by decide +kernel
theorem dX12_joy_64 : decode cX12_joy 64 = .ok (.if_icmp .ge 36, 3) := by decide +kernel
theorem dX12_joy_67 : decode cX12_joy 67 = .ok (.aload_n 0, 1) := by decide +kernel
theorem dX12_joy_68 : decode cX12_joy 68 = .ok (.getfield 92, 3) := by decide +kernel
theorem dX12_joy_71 : decode cX12_joy 71 = .ok (.iload 5, 2) := by decide +kernel
theorem dX12_joy_73 : decode cX12_joy 73 = .ok (.iload 5, 2) := by decide +kernel
theorem dX12_joy_75 : decode cX12_joy 75 = .ok (.ifCond .ne 8, 3) := by decide +kernel
theorem dX12_joy_78 : decode cX12_joy 78 = .ok (.bipush 24, 2) := by decide +kernel
theorem dX12_joy_80 : decode cX12_joy 80 = .ok (.goto 4, 3) := by decide +kernel
theorem dX12_joy_83 : decode cX12_joy 83 = .ok (.iconst 0, 1) := by decide +kernel
theorem dX12_joy_84 : decode cX12_joy 84 = .ok (.iastore, 1) := by decide +kernel
theorem dX12_joy_85 : decode cX12_joy 85 = .ok (.aload_n 0, 1) := by decide +kernel
theorem dX12_joy_86 : decode cX12_joy 86 = .ok (.getfield 95, 3) := by decide +kernel
theorem dX12_joy_89 : decode cX12_joy 89 = .ok (.iload 5, 2) := by decide +kernel
theorem dX12_joy_91 : decode cX12_joy 91 = .ok (.bipush (-2), 2) := by decide +kernel
theorem dX12_joy_93 : decode cX12_joy 93 = .ok (.iastore, 1) := by decide +kernel
theorem dX12_joy_94 : decode cX12_joy 94 = .ok (.iinc 5 1, 3) := by decide +kernel
theorem dX12_joy_97 : decode cX12_joy 97 = .ok (.goto (-36), 3) := by decide +kernel
theorem dX12_joy_100 : decode cX12_joy 100 = .ok (.iconst 1, 1) := by decide +kernel
theorem dX12_joy_101 : decode cX12_joy 101 = .ok (.istore 5, 2) := by decide +kernel
theorem dX12_joy_103 : decode cX12_joy 103 = .ok (.iload 5, 2) := by decide +kernel
theorem dX12_joy_105 : decode cX12_joy 105 = .ok (.ifCond .eq 71, 3) := by decide +kernel
theorem dX12_joy_108 : decode cX12_joy 108 = .ok (.aload_n 0, 1) := by decide +kernel
theorem dX12_joy_109 : decode cX12_joy 109 = .ok (.iload_n 1, 1) := by decide +kernel
theorem dX12_joy_110 : decode cX12_joy 110 = .ok (.iconst 0, 1) := by decide +kernel
theorem dX12_joy_111 : decode cX12_joy 111 = .ok (.invokevirtual 394, 3) := by decide +kernel
theorem dX12_joy_114 : decode cX12_joy 114 = .ok (.iload_n 2, 1) := by decide +kernel
theorem dX12_joy_115 : decode cX12_joy 115 = .ok (.if_icmp .gt 51, 3) := by decide +kernel
theorem dX12_joy_118 : decode cX12_joy 118 = .ok (.aload_n 0, 1) := by decide +kernel
theorem dX12_joy_119 : decode cX12_joy 119 = .ok (.iload_n 1, 1) := by decide +kernel
theorem dX12_joy_120 : decode cX12_joy 120 = .ok (.iconst 1, 1) := by decide +kernel
theorem dX12_joy_121 : decode cX12_joy 121 = .ok (.invokevirtual 394, 3) := by decide +kernel
theorem dX12_joy_124 : decode cX12_joy 124 = .ok (.iload 4, 2) := by decide +kernel
theorem dX12_joy_126 : decode cX12_joy 126 = .ok (.if_icmp .le 40, 3) := by decide +kernel
theorem dX12_joy_129 : decode cX12_joy 129 = .ok (.aload_n 0, 1) := by decide +kernel
theorem dX12_joy_130 : decode cX12_joy 130 = .ok (.iload_n 1, 1) := by decide +kernel
theorem dX12_joy_131 : decode cX12_joy 131 = .ok (.iconst 1, 1) := by decide +kernel
theorem dX12_joy_132 : decode cX12_joy 132 = .ok (.invokevirtual 394, 3) := by decide +kernel
theorem dX12_joy_135 : decode cX12_joy 135 = .ok (.istore 4, 2) := by decide +kernel
theorem dX12_joy_137 : decode cX12_joy 137 = .ok (.iconst 0, 1) := by decide +kernel
theorem dX12_joy_138 : decode cX12_joy 138 = .ok (.istore 6, 2) := by decide +kernel
theorem dX12_joy_140 : decode cX12_joy 140 = .ok (.iload 6, 2) := by decide +kernel
theorem dX12_joy_142 : decode cX12_joy 142 = .ok (.iload_n 1, 1) := by decide +kernel
theorem dX12_joy_143 : decode cX12_joy 143 = .ok (.if_icmp .ge 23, 3) := by decide +kernel
theorem dX12_joy_146 : decode cX12_joy 146 = .ok (.aload_n 0, 1) := by decide +kernel
theorem dX12_joy_147 : decode cX12_joy 147 = .ok (.getfield 95, 3) := by decide +kernel
theorem dX12_joy_150 : decode cX12_joy 150 = .ok (.iload 6, 2) := by decide +kernel
theorem dX12_joy_152 : decode cX12_joy 152 = .ok (.aload_n 0, 1) := by decide +kernel
theorem dX12_joy_153 : decode cX12_joy 153 = .ok (.getfield 92, 3) := by decide +kernel
theorem dX12_joy_156 : decode cX12_joy 156 = .ok (.iload 6, 2) := by decide +kernel
theorem dX12_joy_158 : decode cX12_joy 158 = .ok (.iaload, 1) := by decide +kernel
theorem dX12_joy_159 : decode cX12_joy 159 = .ok (.iastore, 1) := by decide +kernel
theorem dX12_joy_160 : decode cX12_joy 160 = .ok (.iinc 6 1, 3) := by decide +kernel
theorem dX12_joy_163 : decode cX12_joy 163 = .ok (.goto (-23), 3) := by decide +kernel
theorem dX12_joy_166 : decode cX12_joy 166 = .ok (.aload_n 0, 1) := by decide +kernel
theorem dX12_joy_167 : decode cX12_joy 167 = .ok (.iload_n 1, 1) := by decide +kernel
theorem dX12_joy_168 : decode cX12_joy 168 = .ok (.invokevirtual 397, 3) := by decide +kernel
theorem dX12_joy_171 : decode cX12_joy 171 = .ok (.istore 5, 2) := by decide +kernel
theorem dX12_joy_173 : decode cX12_joy 173 = .ok (.goto (-70), 3) := by decide +kernel
theorem dX12_joy_176 : decode cX12_joy 176 = .ok (.iload_n 3, 1) := by decide +kernel
theorem dX12_joy_177 : decode cX12_joy 177 = .ok (.bipush 100, 2) := by decide +kernel
theorem dX12_joy_179 : decode cX12_joy 179 = .ok (.if_icmp .ne 8, 3) := by decide +kernel
theorem dX12_joy_182 : decode cX12_joy 182 = .ok (.iload 4, 2) := by decide +kernel
theorem dX12_joy_184 : decode cX12_joy 184 = .ok (.goto 9, 3) := by decide +kernel
theorem dX12_joy_187 : decode cX12_joy 187 = .ok (.aload_n 0, 1) := by decide +kernel
theorem dX12_joy_188 : decode cX12_joy 188 = .ok (.getfield 95, 3) := by decide +kernel
theorem dX12_joy_191 : decode cX12_joy 191 = .ok (.iload_n 3, 1) := by decide +kernel
theorem dX12_joy_192 : decode cX12_joy 192 = .ok (.iaload, 1) := by decide +kernel
theorem dX12_joy_193 : decode cX12_joy 193 = .ok (.ireturn, 1) := by decide +kernel
theorem dX12_run_0 : decode cX12_run 0 = .ok (.iload_n 1, 1) := by decide +kernel
theorem dX12_run_1 : decode cX12_run 1 = .ok (.iconst 2, 1) := by decide +kernel
theorem dX12_run_2 : decode cX12_run 2 = .ok (.bipush 16, 2) := by decide +kernel
theorem dX12_run_4 : decode cX12_run 4 = .ok (.invokestatic 107, 3) := by decide +kernel
theorem dX12_run_7 : decode cX12_run 7 = .ok (.ifCond .eq 20, 3) := by decide +kernel
theorem dX12_run_10 : decode cX12_run 10 = .ok (.iload_n 2, 1) := by decide +kernel
theorem dX12_run_11 : decode cX12_run 11 = .ok (.iconst 0, 1) := by decide +kernel
theorem dX12_run_12 : decode cX12_run 12 = .ok (.iconst 1, 1) := by decide +kernel
theorem dX12_run_13 : decode cX12_run 13 = .ok (.invokestatic 107, 3) := by decide +kernel
theorem dX12_run_16 : decode cX12_run 16 = .ok (.ifCond .eq 11, 3) := by decide +kernel
theorem dX12_run_19 : decode cX12_run 19 = .ok (.iload_n 1, 1) := by decide +kernel
theorem dX12_run_20 : decode cX12_run 20 = .ok (.aload_n 0, 1) := by decide +kernel
theorem dX12_run_21 : decode cX12_run 21 = .ok (.getfield 120, 3) := by decide +kernel
theorem dX12_run_24 : decode cX12_run 24 = .ok (.if_icmp .le 5, 3) := by decide +kernel
theorem dX12_run_27 : decode cX12_run 27 = .ok (.iconst (-1), 1) := by decide +kernel
theorem dX12_run_28 : decode cX12_run 28 = .ok (.ireturn, 1) := by decide +kernel
theorem dX12_run_29 : decode cX12_run 29 = .ok (.aload_n 0, 1) := by decide +kernel
theorem dX12_run_30 : decode cX12_run 30 = .ok (.iconst 0, 1) := by decide +kernel
theorem dX12_run_31 : decode cX12_run 31 = .ok (.putfield 120, 3) := by decide +kernel
theorem dX12_run_34 : decode cX12_run 34 = .ok (.iconst 0, 1) := by decide +kernel
theorem dX12_run_35 : decode cX12_run 35 = .ok (.istore_n 3, 1) := by decide +kernel
theorem dX12_run_36 : decode cX12_run 36 = .ok (.iload_n 3, 1) := by decide +kernel
theorem dX12_run_37 : decode cX12_run 37 = .ok (.iload_n 1, 1) := by decide +kernel
theorem dX12_run_38 : decode cX12_run 38 = .ok (.if_icmp .ge 22, 3) := by decide +kernel
theorem dX12_run_41 : decode cX12_run 41 = .ok (.aload_n 0, 1) := by decide +kernel
theorem dX12_run_42 : decode cX12_run 42 = .ok (.iload_n 3, 1) := by decide +kernel
theorem dX12_run_43 : decode cX12_run 43 = .ok (.invokevirtual 384, 3) := by decide +kernel
theorem dX12_run_46 : decode cX12_run 46 = .ok (.bipush 16, 2) := by decide +kernel
theorem dX12_run_48 : decode cX12_run 48 = .ok (.if_icmp .le 6, 3) := by decide +kernel
theorem dX12_run_51 : decode cX12_run 51 = .ok (.bipush (-2), 2) := by decide +kernel
theorem dX12_run_53 : decode cX12_run 53 = .ok (.ireturn, 1) := by decide +kernel
theorem dX12_run_54 : decode cX12_run 54 = .ok (.iinc 3 1, 3) := by decide +kernel
theorem dX12_run_57 : decode cX12_run 57 = .ok (.goto (-21), 3) := by decide +kernel
theorem dX12_run_60 : decode cX12_run 60 = .ok (.iconst 0, 1) := by decide +kernel
theorem dX12_run_61 : decode cX12_run 61 = .ok (.istore_n 3, 1) := by decide +kernel
theorem dX12_run_62 : decode cX12_run 62 = .ok (.iconst (-1), 1) := by decide +kernel
theorem dX12_run_63 : decode cX12_run 63 = .ok (.istore 4, 2) := by decide +kernel
theorem dX12_run_65 : decode cX12_run 65 = .ok (.iconst (-1), 1) := by decide +kernel
theorem dX12_run_66 : decode cX12_run 66 = .ok (.istore 5, 2) := by decide +kernel
theorem dX12_run_68 : decode cX12_run 68 = .ok (.iload_n 3, 1) := by decide +kernel
theorem dX12_run_69 : decode cX12_run 69 = .ok (.iload 4, 2) := by decide +kernel
theorem dX12_run_71 : decode cX12_run 71 = .ok (.if_icmp .eq 61, 3) := by decide +kernel
theorem dX12_run_74 : decode cX12_run 74 = .ok (.iload_n 3, 1) := by decide +kernel
theorem dX12_run_75 : decode cX12_run 75 = .ok (.istore 4, 2) := by decide +kernel
theorem dX12_run_77 : decode cX12_run 77 = .ok (.iload 5, 2) := by decide +kernel
theorem dX12_run_79 : decode cX12_run 79 = .ok (.iconst 1, 1) := by decide +kernel
theorem dX12_run_80 : decode cX12_run 80 = .ok (.iadd, 1) := by decide +kernel
theorem dX12_run_81 : decode cX12_run 81 = .ok (.istore 5, 2) := by decide +kernel
theorem dX12_run_83 : decode cX12_run 83 = .ok (.iconst 0, 1) := by decide +kernel
theorem dX12_run_84 : decode cX12_run 84 = .ok (.istore 6, 2) := by decide +kernel
theorem dX12_run_86 : decode cX12_run 86 = .ok (.iload 6, 2) := by decide +kernel
theorem dX12_run_88 : decode cX12_run 88 = .ok (.iload_n 1, 1) := by decide +kernel
theorem dX12_run_89 : decode cX12_run 89 = .ok (.if_icmp .ge 40, 3) := by decide +kernel
theorem dX12_run_92 : decode cX12_run 92 = .ok (.iload 4, 2) := by decide +kernel
theorem dX12_run_94 : decode cX12_run 94 = .ok (.iload 6, 2) := by decide +kernel
theorem dX12_run_96 : decode cX12_run 96 = .ok (.invokestatic 350, 3) := by decide +kernel
theorem dX12_run_99 : decode cX12_run 99 = .ok (.ifCond .ne 24, 3) := by decide +kernel
theorem dX12_run_102 : decode cX12_run 102 = .ok (.aload_n 0, 1) := by decide +kernel
theorem dX12_run_103 : decode cX12_run 103 = .ok (.iload 6, 2) := by decide +kernel
theorem dX12_run_105 : decode cX12_run 105 = .ok (.invokevirtual 384, 3) := by decide +kernel
theorem dX12_run_108 : decode cX12_run 108 = .ok (.iload 4, 2) := by decide +kernel
theorem dX12_run_110 : decode cX12_run 110 = .ok (.invokestatic 400, 3) := by decide +kernel
theorem dX12_run_113 : decode cX12_run 113 = .ok (.if_icmp .gt 10, 3) := by decide +kernel
theorem dX12_run_116 : decode cX12_run 116 = .ok (.iload_n 3, 1) := by decide +kernel
theorem dX12_run_117 : decode cX12_run 117 = .ok (.iconst 1, 1) := by decide +kernel
theorem dX12_run_118 : decode cX12_run 118 = .ok (.iload 6, 2) := by decide +kernel
theorem dX12_run_120 : decode cX12_run 120 = .ok (.ishl, 1) := by decide +kernel
theorem dX12_run_121 : decode cX12_run 121 = .ok (.ior, 1) := by decide +kernel
theorem dX12_run_122 : decode cX12_run 122 = .ok (.istore_n 3, 1) := by decide +kernel
theorem dX12_run_123 : decode cX12_run 123 = .ok (.iinc 6 1, 3) := by decide +kernel
theorem dX12_run_126 : decode cX12_run 126 = .ok (.goto (-40), 3) := by decide +kernel
theorem dX12_run_129 : decode cX12_run 129 = .ok (.goto (-61), 3) := by decide +kernel
theorem dX12_run_132 : decode cX12_run 132 = .ok (.iload_n 2, 1) := by decide +kernel
theorem dX12_run_133 : decode cX12_run 133 = .ok (.ifCond .ne 10, 3) := by decide +kernel
theorem dX12_run_136 : decode cX12_run 136 = .ok (.iload_n 3, 1) := by decide +kernel
theorem dX12_run_137 : decode cX12_run 137 = .ok (.invokestatic 400, 3) := by decide +kernel
theorem dX12_run_140 : decode cX12_run 140 = .ok (.goto 5, 3) := by decide +kernel
theorem dX12_run_143 : decode cX12_run 143 = .ok (.iload 5, 2) := by decide +kernel
theorem dX12_run_145 : decode cX12_run 145 = .ok (.ireturn, 1) := by decide +kernel
theorem dX12_isTable_0 : decode cX12_isTable 0 = .ok (.aload_n 0, 1) := by decide +kernel
theorem dX12_isTable_1 : decode cX12_isTable 1 = .ok (.iconst 0, 1) := by decide +kernel
theorem dX12_isTable_2 : decode cX12_isTable 2 = .ok (.invokevirtual 384, 3) := by decide +kernel
theorem dX12_isTable_5 : decode cX12_isTable 5 = .ok (.ifCond .ne 5, 3) := by decide +kernel
theorem dX12_isTable_8 : decode cX12_isTable 8 = .ok (.iconst 0, 1) := by decide +kernel
theorem dX12_isTable_9 : decode cX12_isTable 9 = .ok (.ireturn, 1) := by decide +kernel
theorem dX12_isTable_10 : decode cX12_isTable 10 = .ok (.iconst 1, 1) := by decide +kernel
theorem dX12_isTable_11 : decode cX12_isTable 11 = .ok (.istore_n 2, 1) := by decide +kernel
theorem dX12_isTable_12 : decode cX12_isTable 12 = .ok (.iload_n 2, 1) := by decide +kernel
theorem dX12_isTable_13 : decode cX12_isTable 13 = .ok (.iload_n 1, 1) := by decide +kernel
theorem dX12_isTable_14 : decode cX12_isTable 14 = .ok (.if_icmp .ge 26, 3) := by decide +kernel
theorem dX12_isTable_17 : decode cX12_isTable 17 = .ok (.aload_n 0, 1) := by decide +kernel
theorem dX12_isTable_18 : decode cX12_isTable 18 = .ok (.iload_n 2, 1) := by decide +kernel
theorem dX12_isTable_19 : decode cX12_isTable 19 = .ok (.invokevirtual 384, 3) := by decide +kernel
theorem dX12_isTable_22 : decode cX12_isTable 22 = .ok (.aload_n 0, 1) := by decide +kernel
theorem dX12_isTable_23 : decode cX12_isTable 23 = .ok (.iload_n 2, 1) := by decide +kernel
theorem dX12_isTable_24 : decode cX12_isTable 24 = .ok (.iconst 1, 1) := by decide +kernel
theorem dX12_isTable_25 : decode cX12_isTable 25 = .ok (.isub, 1) := by decide +kernel
theorem dX12_isTable_26 : decode cX12_isTable 26 = .ok (.invokevirtual 384, 3) := by decide +kernel
theorem dX12_isTable_29 : decode cX12_isTable 29 = .ok (.if_icmp .le 5, 3) := by decide +kernel
theorem dX12_isTable_32 : decode cX12_isTable 32 = .ok (.iconst 0, 1) := by decide +kernel
theorem dX12_isTable_33 : decode cX12_isTable 33 = .ok (.ireturn, 1) := by decide +kernel
theorem dX12_isTable_34 : decode cX12_isTable 34 = .ok (.iinc 2 1, 3) := by decide +kernel
theorem dX12_isTable_37 : decode cX12_isTable 37 = .ok (.goto (-25), 3) := by decide +kernel
theorem dX12_isTable_40 : decode cX12_isTable 40 = .ok (.iconst 1, 1) := by decide +kernel
theorem dX12_isTable_41 : decode cX12_isTable 41 = .ok (.ireturn, 1) := by decide +kernel
theorem dX12_deathsAt_0 : decode cX12_deathsAt 0 = .ok (.aload_n 0, 1) := by decide +kernel
theorem dX12_deathsAt_1 : decode cX12_deathsAt 1 = .ok (.iload_n 2, 1) := by decide +kernel
theorem dX12_deathsAt_2 : decode cX12_deathsAt 2 = .ok (.invokevirtual 384, 3) := by decide +kernel
theorem dX12_deathsAt_5 : decode cX12_deathsAt 5 = .ok (.iload_n 2, 1) := by decide +kernel
theorem dX12_deathsAt_6 : decode cX12_deathsAt 6 = .ok (.iload_n 1, 1) := by decide +kernel
theorem dX12_deathsAt_7 : decode cX12_deathsAt 7 = .ok (.iconst 1, 1) := by decide +kernel
theorem dX12_deathsAt_8 : decode cX12_deathsAt 8 = .ok (.isub, 1) := by decide +kernel
theorem dX12_deathsAt_9 : decode cX12_deathsAt 9 = .ok (.if_icmp .ne 7, 3) := by decide +kernel
theorem dX12_deathsAt_12 : decode cX12_deathsAt 12 = .ok (.iconst 0, 1) := by decide +kernel
theorem dX12_deathsAt_13 : decode cX12_deathsAt 13 = .ok (.goto 10, 3) := by decide +kernel
theorem dX12_deathsAt_16 : decode cX12_deathsAt 16 = .ok (.aload_n 0, 1) := by decide +kernel
theorem dX12_deathsAt_17 : decode cX12_deathsAt 17 = .ok (.iload_n 2, 1) := by decide +kernel
theorem dX12_deathsAt_18 : decode cX12_deathsAt 18 = .ok (.iconst 1, 1) := by decide +kernel
theorem dX12_deathsAt_19 : decode cX12_deathsAt 19 = .ok (.iadd, 1) := by decide +kernel
theorem dX12_deathsAt_20 : decode cX12_deathsAt 20 = .ok (.invokevirtual 384, 3) := by decide +kernel
theorem dX12_deathsAt_23 : decode cX12_deathsAt 23 = .ok (.isub, 1) := by decide +kernel
theorem dX12_deathsAt_24 : decode cX12_deathsAt 24 = .ok (.ireturn, 1) := by decide +kernel
theorem dX12_table_0 : decode cX12_table 0 = .ok (.iload_n 1, 1) := by decide +kernel
theorem dX12_table_1 : decode cX12_table 1 = .ok (.iconst 2, 1) := by decide +kernel
theorem dX12_table_2 : decode cX12_table 2 = .ok (.bipush 30, 2) := by decide +kernel
theorem dX12_table_4 : decode cX12_table 4 = .ok (.invokestatic 107, 3) := by decide +kernel
theorem dX12_table_7 : decode cX12_table 7 = .ok (.ifCond .eq 47, 3) := by decide +kernel
theorem dX12_table_10 : decode cX12_table 10 = .ok (.iload_n 2, 1) := by decide +kernel
theorem dX12_table_11 : decode cX12_table 11 = .ok (.bipush 100, 2) := by decide +kernel
theorem dX12_table_13 : decode cX12_table 13 = .ok (.isub, 1) := by decide +kernel
theorem dX12_table_14 : decode cX12_table 14 = .ok (.iconst 0, 1) := by decide +kernel
theorem dX12_table_15 : decode cX12_table 15 = .ok (.iload_n 1, 1) := by decide +kernel
theorem dX12_table_16 : decode cX12_table 16 = .ok (.iconst 1, 1) := by decide +kernel
theorem dX12_table_17 : decode cX12_table 17 = .ok (.isub, 1) := by decide +kernel
theorem dX12_table_18 : decode cX12_table 18 = .ok (.invokestatic 107, 3) := by decide +kernel
theorem dX12_table_21 : decode cX12_table 21 = .ok (.ifCond .ne 25, 3) := by decide +kernel
theorem dX12_table_24 : decode cX12_table 24 = .ok (.iload_n 2, 1) := by decide +kernel
theorem dX12_table_25 : decode cX12_table 25 = .ok (.sipush 200, 3) := by decide +kernel
theorem dX12_table_28 : decode cX12_table 28 = .ok (.isub, 1) := by decide +kernel
theorem dX12_table_29 : decode cX12_table 29 = .ok (.iconst 0, 1) := by decide +kernel
theorem dX12_table_30 : decode cX12_table 30 = .ok (.iload_n 1, 1) := by decide +kernel
theorem dX12_table_31 : decode cX12_table 31 = .ok (.iconst 1, 1) := by decide +kernel
theorem dX12_table_32 : decode cX12_table 32 = .ok (.isub, 1) := by decide +kernel
theorem dX12_table_33 : decode cX12_table 33 = .ok (.invokestatic 107, 3) := by decide +kernel
theorem dX12_table_36 : decode cX12_table 36 = .ok (.ifCond .ne 10, 3) := by decide +kernel
theorem dX12_table_39 : decode cX12_table 39 = .ok (.iload_n 2, 1) := by decide +kernel
theorem dX12_table_40 : decode cX12_table 40 = .ok (.sipush 300, 3) := by decide +kernel
theorem dX12_table_43 : decode cX12_table 43 = .ok (.if_icmp .ne 11, 3) := by decide +kernel
theorem dX12_table_46 : decode cX12_table 46 = .ok (.iload_n 1, 1) := by decide +kernel
theorem dX12_table_47 : decode cX12_table 47 = .ok (.aload_n 0, 1) := by decide +kernel
theorem dX12_table_48 : decode cX12_table 48 = .ok (.getfield 120, 3) := by decide +kernel
theorem dX12_table_51 : decode cX12_table 51 = .ok (.if_icmp .le 5, 3) := by decide +kernel
theorem dX12_table_54 : decode cX12_table 54 = .ok (.iconst (-1), 1) := by decide +kernel
theorem dX12_table_55 : decode cX12_table 55 = .ok (.ireturn, 1) := by decide +kernel
theorem dX12_table_56 : decode cX12_table 56 = .ok (.aload_n 0, 1) := by decide +kernel
theorem dX12_table_57 : decode cX12_table 57 = .ok (.iconst 0, 1) := by decide +kernel
theorem dX12_table_58 : decode cX12_table 58 = .ok (.putfield 120, 3) := by decide +kernel
theorem dX12_table_61 : decode cX12_table 61 = .ok (.aload_n 0, 1) := by decide +kernel
theorem dX12_table_62 : decode cX12_table 62 = .ok (.iload_n 1, 1) := by decide +kernel
theorem dX12_table_63 : decode cX12_table 63 = .ok (.invokevirtual 403, 3) := by decide +kernel
theorem dX12_table_66 : decode cX12_table 66 = .ok (.ifCond .ne 6, 3) := by decide +kernel
theorem dX12_table_69 : decode cX12_table 69 = .ok (.bipush (-3), 2) := by decide +kernel
theorem dX12_table_71 : decode cX12_table 71 = .ok (.ireturn, 1) := by decide +kernel
theorem dX12_table_72 : decode cX12_table 72 = .ok (.iload_n 2, 1) := by decide +kernel
theorem dX12_table_73 : decode cX12_table 73 = .ok (.sipush 300, 3) := by decide +kernel
theorem dX12_table_76 : decode cX12_table 76 = .ok (.if_icmp .ne 41, 3) := by decide +kernel
theorem dX12_table_79 : decode cX12_table 79 = .ok (.iconst 0, 1) := by decide +kernel
theorem dX12_table_80 : decode cX12_table 80 = .ok (.istore_n 3, 1) := by decide +kernel
theorem dX12_table_81 : decode cX12_table 81 = .ok (.iconst 1, 1) := by decide +kernel
theorem dX12_table_82 : decode cX12_table 82 = .ok (.istore 4, 2) := by decide +kernel
theorem dX12_table_84 : decode cX12_table 84 = .ok (.iload 4, 2) := by decide +kernel
theorem dX12_table_86 : decode cX12_table 86 = .ok (.iload_n 1, 1) := by decide +kernel
theorem dX12_table_87 : decode cX12_table 87 = .ok (.if_icmp .ge 28, 3) := by decide +kernel
theorem dX12_table_90 : decode cX12_table 90 = .ok (.aload_n 0, 1) := by decide +kernel
theorem dX12_table_91 : decode cX12_table 91 = .ok (.iload_n 1, 1) := by decide +kernel
theorem dX12_table_92 : decode cX12_table 92 = .ok (.iload 4, 2) := by decide +kernel
theorem dX12_table_94 : decode cX12_table 94 = .ok (.invokevirtual 406, 3) := by decide +kernel
theorem dX12_table_97 : decode cX12_table 97 = .ok (.aload_n 0, 1) := by decide +kernel
theorem dX12_table_98 : decode cX12_table 98 = .ok (.iload_n 1, 1) := by decide +kernel
theorem dX12_table_99 : decode cX12_table 99 = .ok (.iload_n 3, 1) := by decide +kernel
theorem dX12_table_100 : decode cX12_table 100 = .ok (.invokevirtual 406, 3) := by decide +kernel
theorem dX12_table_103 : decode cX12_table 103 = .ok (.if_icmp .le 6, 3) := by decide +kernel
theorem dX12_table_106 : decode cX12_table 106 = .ok (.iload 4, 2) := by decide +kernel
theorem dX12_table_108 : decode cX12_table 108 = .ok (.istore_n 3, 1) := by decide +kernel
theorem dX12_table_109 : decode cX12_table 109 = .ok (.iinc 4 1, 3) := by decide +kernel
theorem dX12_table_112 : decode cX12_table 112 = .ok (.goto (-28), 3) := by decide +kernel
theorem dX12_table_115 : decode cX12_table 115 = .ok (.iload_n 3, 1) := by decide +kernel
theorem dX12_table_116 : decode cX12_table 116 = .ok (.ireturn, 1) := by decide +kernel
theorem dX12_table_117 : decode cX12_table 117 = .ok (.iload_n 2, 1) := by decide +kernel
theorem dX12_table_118 : decode cX12_table 118 = .ok (.bipush 100, 2) := by decide +kernel
theorem dX12_table_120 : decode cX12_table 120 = .ok (.irem, 1) := by decide +kernel
theorem dX12_table_121 : decode cX12_table 121 = .ok (.istore_n 3, 1) := by decide +kernel
theorem dX12_table_122 : decode cX12_table 122 = .ok (.aload_n 0, 1) := by decide +kernel
theorem dX12_table_123 : decode cX12_table 123 = .ok (.iload_n 3, 1) := by decide +kernel
theorem dX12_table_124 : decode cX12_table 124 = .ok (.invokevirtual 384, 3) := by decide +kernel
theorem dX12_table_127 : decode cX12_table 127 = .ok (.ifCond .ne 6, 3) := by decide +kernel
theorem dX12_table_130 : decode cX12_table 130 = .ok (.bipush (-2), 2) := by decide +kernel
theorem dX12_table_132 : decode cX12_table 132 = .ok (.ireturn, 1) := by decide +kernel
theorem dX12_table_133 : decode cX12_table 133 = .ok (.iconst 0, 1) := by decide +kernel
theorem dX12_table_134 : decode cX12_table 134 = .ok (.istore 4, 2) := by decide +kernel
theorem dX12_table_136 : decode cX12_table 136 = .ok (.iload_n 3, 1) := by decide +kernel
theorem dX12_table_137 : decode cX12_table 137 = .ok (.iconst 1, 1) := by decide +kernel
theorem dX12_table_138 : decode cX12_table 138 = .ok (.iadd, 1) := by decide +kernel
theorem dX12_table_139 : decode cX12_table 139 = .ok (.istore 5, 2) := by decide +kernel
theorem dX12_table_141 : decode cX12_table 141 = .ok (.iload 5, 2) := by decide +kernel
theorem dX12_table_143 : decode cX12_table 143 = .ok (.iload_n 1, 1) := by decide +kernel
theorem dX12_table_144 : decode cX12_table 144 = .ok (.if_icmp .ge 20, 3) := by decide +kernel
theorem dX12_table_147 : decode cX12_table 147 = .ok (.iload 4, 2) := by decide +kernel
theorem dX12_table_149 : decode cX12_table 149 = .ok (.aload_n 0, 1) := by decide +kernel
theorem dX12_table_150 : decode cX12_table 150 = .ok (.iload 5, 2) := by decide +kernel
theorem dX12_table_152 : decode cX12_table 152 = .ok (.invokevirtual 384, 3) := by decide +kernel
theorem dX12_table_155 : decode cX12_table 155 = .ok (.iadd, 1) := by decide +kernel
theorem dX12_table_156 : decode cX12_table 156 = .ok (.istore 4, 2) := by decide +kernel
theorem dX12_table_158 : decode cX12_table 158 = .ok (.iinc 5 1, 3) := by decide +kernel
theorem dX12_table_161 : decode cX12_table 161 = .ok (.goto (-20), 3) := by decide +kernel
theorem dX12_table_164 : decode cX12_table 164 = .ok (.aload_n 0, 1) := by decide +kernel
theorem dX12_table_165 : decode cX12_table 165 = .ok (.iload_n 3, 1) := by decide +kernel
theorem dX12_table_166 : decode cX12_table 166 = .ok (.invokevirtual 384, 3) := by decide +kernel
theorem dX12_table_169 : decode cX12_table 169 = .ok (.iload 4, 2) := by decide +kernel
theorem dX12_table_171 : decode cX12_table 171 = .ok (.invokestatic 409, 3) := by decide +kernel
theorem dX12_table_174 : decode cX12_table 174 = .ok (.istore 5, 2) := by decide +kernel
theorem dX12_table_176 : decode cX12_table 176 = .ok (.iload_n 2, 1) := by decide +kernel
theorem dX12_table_177 : decode cX12_table 177 = .ok (.sipush 200, 3) := by decide +kernel
theorem dX12_table_180 : decode cX12_table 180 = .ok (.if_icmp .ge 11, 3) := by decide +kernel
theorem dX12_table_183 : decode cX12_table 183 = .ok (.iload 4, 2) := by decide +kernel
theorem dX12_table_185 : decode cX12_table 185 = .ok (.iload 5, 2) := by decide +kernel
theorem dX12_table_187 : decode cX12_table 187 = .ok (.idiv, 1) := by decide +kernel
theorem dX12_table_188 : decode cX12_table 188 = .ok (.goto 11, 3) := by decide +kernel
theorem dX12_table_191 : decode cX12_table 191 = .ok (.aload_n 0, 1) := by decide +kernel
theorem dX12_table_192 : decode cX12_table 192 = .ok (.iload_n 3, 1) := by decide +kernel
theorem dX12_table_193 : decode cX12_table 193 = .ok (.invokevirtual 384, 3) := by decide +kernel
theorem dX12_table_196 : decode cX12_table 196 = .ok (.iload 5, 2) := by decide +kernel
theorem dX12_table_198 : decode cX12_table 198 = .ok (.idiv, 1) := by decide +kernel
theorem dX12_table_199 : decode cX12_table 199 = .ok (.ireturn, 1) := by decide +kernel
theorem dX12_atOnce_0 : decode cX12_atOnce 0 = .ok (.iload_n 1, 1) := by decide +kernel
theorem dX12_atOnce_1 : decode cX12_atOnce 1 = .ok (.iconst 0, 1) := by decide +kernel
theorem dX12_atOnce_2 : decode cX12_atOnce 2 = .ok (.ldc_w 353, 3) := by decide +kernel
theorem dX12_atOnce_5 : decode cX12_atOnce 5 = .ok (.invokestatic 107, 3) := by decide +kernel
theorem dX12_atOnce_8 : decode cX12_atOnce 8 = .ok (.ifCond .eq 20, 3) := by decide +kernel
theorem dX12_atOnce_11 : decode cX12_atOnce 11 = .ok (.iload_n 2, 1) := by decide +kernel
theorem dX12_atOnce_12 : decode cX12_atOnce 12 = .ok (.iconst 0, 1) := by decide +kernel
theorem dX12_atOnce_13 : decode cX12_atOnce 13 = .ok (.iconst 1, 1) := by decide +kernel
theorem dX12_atOnce_14 : decode cX12_atOnce 14 = .ok (.invokestatic 107, 3) := by decide +kernel
theorem dX12_atOnce_17 : decode cX12_atOnce 17 = .ok (.ifCond .eq 11, 3) := by decide +kernel
theorem dX12_atOnce_20 : decode cX12_atOnce 20 = .ok (.aload_n 0, 1) := by decide +kernel
theorem dX12_atOnce_21 : decode cX12_atOnce 21 = .ok (.getfield 120, 3) := by decide +kernel
theorem dX12_atOnce_24 : decode cX12_atOnce 24 = .ok (.iconst 4, 1) := by decide +kernel
theorem dX12_atOnce_25 : decode cX12_atOnce 25 = .ok (.if_icmp .ge 5, 3) := by decide +kernel
theorem dX12_atOnce_28 : decode cX12_atOnce 28 = .ok (.iconst (-1), 1) := by decide +kernel
theorem dX12_atOnce_29 : decode cX12_atOnce 29 = .ok (.ireturn, 1) := by decide +kernel
theorem dX12_atOnce_30 : decode cX12_atOnce 30 = .ok (.aload_n 0, 1) := by decide +kernel
theorem dX12_atOnce_31 : decode cX12_atOnce 31 = .ok (.iconst 0, 1) := by decide +kernel
theorem dX12_atOnce_32 : decode cX12_atOnce 32 = .ok (.putfield 120, 3) := by decide +kernel
theorem dX12_atOnce_35 : decode cX12_atOnce 35 = .ok (.aload_n 0, 1) := by decide +kernel
theorem dX12_atOnce_36 : decode cX12_atOnce 36 = .ok (.iconst 1, 1) := by decide +kernel
theorem dX12_atOnce_37 : decode cX12_atOnce 37 = .ok (.invokevirtual 384, 3) := by decide +kernel
theorem dX12_atOnce_40 : decode cX12_atOnce 40 = .ok (.ifCond .eq 11, 3) := by decide +kernel
theorem dX12_atOnce_43 : decode cX12_atOnce 43 = .ok (.aload_n 0, 1) := by decide +kernel
theorem dX12_atOnce_44 : decode cX12_atOnce 44 = .ok (.iconst 3, 1) := by decide +kernel
theorem dX12_atOnce_45 : decode cX12_atOnce 45 = .ok (.invokevirtual 384, 3) := by decide +kernel
theorem dX12_atOnce_48 : decode cX12_atOnce 48 = .ok (.ifCond .ne 6, 3) := by decide +kernel
theorem dX12_atOnce_51 : decode cX12_atOnce 51 = .ok (.bipush (-3), 2) := by decide +kernel
theorem dX12_atOnce_53 : decode cX12_atOnce 53 = .ok (.ireturn, 1) := by decide +kernel
theorem dX12_atOnce_54 : decode cX12_atOnce 54 = .ok (.aload_n 0, 1) := by decide +kernel
theorem dX12_atOnce_55 : decode cX12_atOnce 55 = .ok (.iconst 1, 1) := by decide +kernel
theorem dX12_atOnce_56 : decode cX12_atOnce 56 = .ok (.invokevirtual 384, 3) := by decide +kernel
theorem dX12_atOnce_59 : decode cX12_atOnce 59 = .ok (.aload_n 0, 1) := by decide +kernel
theorem dX12_atOnce_60 : decode cX12_atOnce 60 = .ok (.iconst 1, 1) := by decide +kernel
theorem dX12_atOnce_61 : decode cX12_atOnce 61 = .ok (.invokevirtual 384, 3) := by decide +kernel
theorem dX12_atOnce_64 : decode cX12_atOnce 64 = .ok (.aload_n 0, 1) := by decide +kernel
theorem dX12_atOnce_65 : decode cX12_atOnce 65 = .ok (.iconst 3, 1) := by decide +kernel
theorem dX12_atOnce_66 : decode cX12_atOnce 66 = .ok (.invokevirtual 384, 3) := by decide +kernel
theorem dX12_atOnce_69 : decode cX12_atOnce 69 = .ok (.invokestatic 409, 3) := by decide +kernel
theorem dX12_atOnce_72 : decode cX12_atOnce 72 = .ok (.idiv, 1) := by decide +kernel
theorem dX12_atOnce_73 : decode cX12_atOnce 73 = .ok (.aload_n 0, 1) := by decide +kernel
theorem dX12_atOnce_74 : decode cX12_atOnce 74 = .ok (.iconst 3, 1) := by decide +kernel
theorem dX12_atOnce_75 : decode cX12_atOnce 75 = .ok (.invokevirtual 384, 3) := by decide +kernel
theorem dX12_atOnce_78 : decode cX12_atOnce 78 = .ok (.imul, 1) := by decide +kernel
theorem dX12_atOnce_79 : decode cX12_atOnce 79 = .ok (.istore_n 3, 1) := by decide +kernel
theorem dX12_atOnce_80 : decode cX12_atOnce 80 = .ok (.aload_n 0, 1) := by decide +kernel
theorem dX12_atOnce_81 : decode cX12_atOnce 81 = .ok (.iconst 0, 1) := by decide +kernel
theorem dX12_atOnce_82 : decode cX12_atOnce 82 = .ok (.invokevirtual 384, 3) := by decide +kernel
theorem dX12_atOnce_85 : decode cX12_atOnce 85 = .ok (.aload_n 0, 1) := by decide +kernel
theorem dX12_atOnce_86 : decode cX12_atOnce 86 = .ok (.iconst 2, 1) := by decide +kernel
theorem dX12_atOnce_87 : decode cX12_atOnce 87 = .ok (.invokevirtual 384, 3) := by decide +kernel
theorem dX12_atOnce_90 : decode cX12_atOnce 90 = .ok (.invokestatic 302, 3) := by decide +kernel
theorem dX12_atOnce_93 : decode cX12_atOnce 93 = .ok (.istore 4, 2) := by decide +kernel
theorem dX12_atOnce_95 : decode cX12_atOnce 95 = .ok (.bipush (-2), 2) := by decide +kernel
theorem dX12_atOnce_97 : decode cX12_atOnce 97 = .ok (.istore 5, 2) := by decide +kernel
theorem dX12_atOnce_99 : decode cX12_atOnce 99 = .ok (.iload 4, 2) := by decide +kernel
theorem dX12_atOnce_101 : decode cX12_atOnce 101 = .ok (.iload_n 3, 1) := by decide +kernel
theorem dX12_atOnce_102 : decode cX12_atOnce 102 = .ok (.iadd, 1) := by decide +kernel
theorem dX12_atOnce_103 : decode cX12_atOnce 103 = .ok (.iconst 1, 1) := by decide +kernel
theorem dX12_atOnce_104 : decode cX12_atOnce 104 = .ok (.isub, 1) := by decide +kernel
theorem dX12_atOnce_105 : decode cX12_atOnce 105 = .ok (.istore 6, 2) := by decide +kernel
theorem dX12_atOnce_107 : decode cX12_atOnce 107 = .ok (.iload 6, 2) := by decide +kernel
theorem dX12_atOnce_109 : decode cX12_atOnce 109 = .ok (.iload 4, 2) := by decide +kernel
theorem dX12_atOnce_111 : decode cX12_atOnce 111 = .ok (.if_icmp .lt 47, 3) := by decide +kernel
theorem dX12_atOnce_114 : decode cX12_atOnce 114 = .ok (.iload 6, 2) := by decide +kernel
theorem dX12_atOnce_116 : decode cX12_atOnce 116 = .ok (.aload_n 0, 1) := by decide +kernel
theorem dX12_atOnce_117 : decode cX12_atOnce 117 = .ok (.iconst 0, 1) := by decide +kernel
theorem dX12_atOnce_118 : decode cX12_atOnce 118 = .ok (.invokevirtual 384, 3) := by decide +kernel
theorem dX12_atOnce_121 : decode cX12_atOnce 121 = .ok (.isub, 1) := by decide +kernel
theorem dX12_atOnce_122 : decode cX12_atOnce 122 = .ok (.aload_n 0, 1) := by decide +kernel
theorem dX12_atOnce_123 : decode cX12_atOnce 123 = .ok (.iconst 1, 1) := by decide +kernel
theorem dX12_atOnce_124 : decode cX12_atOnce 124 = .ok (.invokevirtual 384, 3) := by decide +kernel
theorem dX12_atOnce_127 : decode cX12_atOnce 127 = .ok (.irem, 1) := by decide +kernel
theorem dX12_atOnce_128 : decode cX12_atOnce 128 = .ok (.ifCond .ne 24, 3) := by decide +kernel
theorem dX12_atOnce_131 : decode cX12_atOnce 131 = .ok (.iload 6, 2) := by decide +kernel
theorem dX12_atOnce_133 : decode cX12_atOnce 133 = .ok (.aload_n 0, 1) := by decide +kernel
theorem dX12_atOnce_134 : decode cX12_atOnce 134 = .ok (.iconst 2, 1) := by decide +kernel
theorem dX12_atOnce_135 : decode cX12_atOnce 135 = .ok (.invokevirtual 384, 3) := by decide +kernel
theorem dX12_atOnce_138 : decode cX12_atOnce 138 = .ok (.isub, 1) := by decide +kernel
theorem dX12_atOnce_139 : decode cX12_atOnce 139 = .ok (.aload_n 0, 1) := by decide +kernel
theorem dX12_atOnce_140 : decode cX12_atOnce 140 = .ok (.iconst 3, 1) := by decide +kernel
theorem dX12_atOnce_141 : decode cX12_atOnce 141 = .ok (.invokevirtual 384, 3) := by decide +kernel
theorem dX12_atOnce_144 : decode cX12_atOnce 144 = .ok (.irem, 1) := by decide +kernel
theorem dX12_atOnce_145 : decode cX12_atOnce 145 = .ok (.ifCond .ne 7, 3) := by decide +kernel
theorem dX12_atOnce_148 : decode cX12_atOnce 148 = .ok (.iload 6, 2) := by decide +kernel
theorem dX12_atOnce_150 : decode cX12_atOnce 150 = .ok (.istore 5, 2) := by decide +kernel
theorem dX12_atOnce_152 : decode cX12_atOnce 152 = .ok (.iinc 6 (-1), 3) := by decide +kernel
theorem dX12_atOnce_155 : decode cX12_atOnce 155 = .ok (.goto (-48), 3) := by decide +kernel
theorem dX12_atOnce_158 : decode cX12_atOnce 158 = .ok (.iload_n 2, 1) := by decide +kernel
theorem dX12_atOnce_159 : decode cX12_atOnce 159 = .ok (.ifCond .ne 6, 3) := by decide +kernel
theorem dX12_atOnce_162 : decode cX12_atOnce 162 = .ok (.iload 5, 2) := by decide +kernel
theorem dX12_atOnce_164 : decode cX12_atOnce 164 = .ok (.ireturn, 1) := by decide +kernel
theorem dX12_atOnce_165 : decode cX12_atOnce 165 = .ok (.iload 5, 2) := by decide +kernel
theorem dX12_atOnce_167 : decode cX12_atOnce 167 = .ok (.bipush (-2), 2) := by decide +kernel
theorem dX12_atOnce_169 : decode cX12_atOnce 169 = .ok (.if_icmp .eq 9, 3) := by decide +kernel
theorem dX12_atOnce_172 : decode cX12_atOnce 172 = .ok (.iload 5, 2) := by decide +kernel
theorem dX12_atOnce_174 : decode cX12_atOnce 174 = .ok (.iload_n 1, 1) := by decide +kernel
theorem dX12_atOnce_175 : decode cX12_atOnce 175 = .ok (.if_icmp .le 7, 3) := by decide +kernel
theorem dX12_atOnce_178 : decode cX12_atOnce 178 = .ok (.iconst 0, 1) := by decide +kernel
theorem dX12_atOnce_179 : decode cX12_atOnce 179 = .ok (.goto 11, 3) := by decide +kernel
theorem dX12_atOnce_182 : decode cX12_atOnce 182 = .ok (.iload_n 1, 1) := by decide +kernel
theorem dX12_atOnce_183 : decode cX12_atOnce 183 = .ok (.iload 5, 2) := by decide +kernel
theorem dX12_atOnce_185 : decode cX12_atOnce 185 = .ok (.isub, 1) := by decide +kernel
theorem dX12_atOnce_186 : decode cX12_atOnce 186 = .ok (.iload_n 3, 1) := by decide +kernel
theorem dX12_atOnce_187 : decode cX12_atOnce 187 = .ok (.idiv, 1) := by decide +kernel
theorem dX12_atOnce_188 : decode cX12_atOnce 188 = .ok (.iconst 1, 1) := by decide +kernel
theorem dX12_atOnce_189 : decode cX12_atOnce 189 = .ok (.iadd, 1) := by decide +kernel
theorem dX12_atOnce_190 : decode cX12_atOnce 190 = .ok (.ireturn, 1) := by decide +kernel
theorem dX12_pulse_0 : decode cX12_pulse 0 = .ok (.iload_n 1, 1) := by decide +kernel
theorem dX12_pulse_1 : decode cX12_pulse 1 = .ok (.iconst 2, 1) := by decide +kernel
theorem dX12_pulse_2 : decode cX12_pulse 2 = .ok (.bipush 20, 2) := by decide +kernel
theorem dX12_pulse_4 : decode cX12_pulse 4 = .ok (.invokestatic 107, 3) := by decide +kernel
theorem dX12_pulse_7 : decode cX12_pulse 7 = .ok (.ifCond .eq 22, 3) := by decide +kernel
theorem dX12_pulse_10 : decode cX12_pulse 10 = .ok (.iload_n 2, 1) := by decide +kernel
theorem dX12_pulse_11 : decode cX12_pulse 11 = .ok (.iconst 0, 1) := by decide +kernel
theorem dX12_pulse_12 : decode cX12_pulse 12 = .ok (.iconst 1, 1) := by decide +kernel
theorem dX12_pulse_13 : decode cX12_pulse 13 = .ok (.invokestatic 107, 3) := by decide +kernel
theorem dX12_pulse_16 : decode cX12_pulse 16 = .ok (.ifCond .eq 13, 3) := by decide +kernel
theorem dX12_pulse_19 : decode cX12_pulse 19 = .ok (.iconst 2, 1) := by decide +kernel
theorem dX12_pulse_20 : decode cX12_pulse 20 = .ok (.iload_n 1, 1) := by decide +kernel
theorem dX12_pulse_21 : decode cX12_pulse 21 = .ok (.imul, 1) := by decide +kernel
theorem dX12_pulse_22 : decode cX12_pulse 22 = .ok (.aload_n 0, 1) := by decide +kernel
theorem dX12_pulse_23 : decode cX12_pulse 23 = .ok (.getfield 120, 3) := by decide +kernel
theorem dX12_pulse_26 : decode cX12_pulse 26 = .ok (.if_icmp .le 5, 3) := by decide +kernel
theorem dX12_pulse_29 : decode cX12_pulse 29 = .ok (.iconst (-1), 1) := by decide +kernel
theorem dX12_pulse_30 : decode cX12_pulse 30 = .ok (.ireturn, 1) := by decide +kernel
theorem dX12_pulse_31 : decode cX12_pulse 31 = .ok (.aload_n 0, 1) := by decide +kernel
theorem dX12_pulse_32 : decode cX12_pulse 32 = .ok (.iconst 0, 1) := by decide +kernel
theorem dX12_pulse_33 : decode cX12_pulse 33 = .ok (.putfield 120, 3) := by decide +kernel
theorem dX12_pulse_36 : decode cX12_pulse 36 = .ok (.iconst 0, 1) := by decide +kernel
theorem dX12_pulse_37 : decode cX12_pulse 37 = .ok (.istore_n 3, 1) := by decide +kernel
theorem dX12_pulse_38 : decode cX12_pulse 38 = .ok (.iconst 1, 1) := by decide +kernel
theorem dX12_pulse_39 : decode cX12_pulse 39 = .ok (.istore 4, 2) := by decide +kernel
theorem dX12_pulse_41 : decode cX12_pulse 41 = .ok (.iload 4, 2) := by decide +kernel
theorem dX12_pulse_43 : decode cX12_pulse 43 = .ok (.iload_n 1, 1) := by decide +kernel
theorem dX12_pulse_44 : decode cX12_pulse 44 = .ok (.if_icmp .ge 49, 3) := by decide +kernel
theorem dX12_pulse_47 : decode cX12_pulse 47 = .ok (.aload_n 0, 1) := by decide +kernel
theorem dX12_pulse_48 : decode cX12_pulse 48 = .ok (.iload 4, 2) := by decide +kernel
theorem dX12_pulse_50 : decode cX12_pulse 50 = .ok (.invokevirtual 387, 3) := by decide +kernel
theorem dX12_pulse_53 : decode cX12_pulse 53 = .ok (.aload_n 0, 1) := by decide +kernel
theorem dX12_pulse_54 : decode cX12_pulse 54 = .ok (.iload 4, 2) := by decide +kernel
theorem dX12_pulse_56 : decode cX12_pulse 56 = .ok (.iconst 1, 1) := by decide +kernel
theorem dX12_pulse_57 : decode cX12_pulse 57 = .ok (.isub, 1) := by decide +kernel
theorem dX12_pulse_58 : decode cX12_pulse 58 = .ok (.invokevirtual 387, 3) := by decide +kernel
theorem dX12_pulse_61 : decode cX12_pulse 61 = .ok (.if_icmp .gt 6, 3) := by decide +kernel
theorem dX12_pulse_64 : decode cX12_pulse 64 = .ok (.bipush (-3), 2) := by decide +kernel
theorem dX12_pulse_66 : decode cX12_pulse 66 = .ok (.ireturn, 1) := by decide +kernel
theorem dX12_pulse_67 : decode cX12_pulse 67 = .ok (.iload_n 3, 1) := by decide +kernel
theorem dX12_pulse_68 : decode cX12_pulse 68 = .ok (.aload_n 0, 1) := by decide +kernel
theorem dX12_pulse_69 : decode cX12_pulse 69 = .ok (.iload 4, 2) := by decide +kernel
theorem dX12_pulse_71 : decode cX12_pulse 71 = .ok (.invokevirtual 387, 3) := by decide +kernel
theorem dX12_pulse_74 : decode cX12_pulse 74 = .ok (.aload_n 0, 1) := by decide +kernel
theorem dX12_pulse_75 : decode cX12_pulse 75 = .ok (.iload 4, 2) := by decide +kernel
theorem dX12_pulse_77 : decode cX12_pulse 77 = .ok (.iconst 1, 1) := by decide +kernel
theorem dX12_pulse_78 : decode cX12_pulse 78 = .ok (.isub, 1) := by decide +kernel
theorem dX12_pulse_79 : decode cX12_pulse 79 = .ok (.invokevirtual 387, 3) := by decide +kernel
theorem dX12_pulse_82 : decode cX12_pulse 82 = .ok (.isub, 1) := by decide +kernel
theorem dX12_pulse_83 : decode cX12_pulse 83 = .ok (.invokestatic 409, 3) := by decide +kernel
theorem dX12_pulse_86 : decode cX12_pulse 86 = .ok (.istore_n 3, 1) := by decide +kernel
theorem dX12_pulse_87 : decode cX12_pulse 87 = .ok (.iinc 4 1, 3) := by decide +kernel
theorem dX12_pulse_90 : decode cX12_pulse 90 = .ok (.goto (-49), 3) := by decide +kernel
theorem dX12_pulse_93 : decode cX12_pulse 93 = .ok (.iload_n 2, 1) := by decide +kernel
theorem dX12_pulse_94 : decode cX12_pulse 94 = .ok (.ifCond .ne 7, 3) := by decide +kernel
theorem dX12_pulse_97 : decode cX12_pulse 97 = .ok (.iload_n 3, 1) := by decide +kernel
theorem dX12_pulse_98 : decode cX12_pulse 98 = .ok (.goto 22, 3) := by decide +kernel
theorem dX12_pulse_101 : decode cX12_pulse 101 = .ok (.aload_n 0, 1) := by decide +kernel
theorem dX12_pulse_102 : decode cX12_pulse 102 = .ok (.iload_n 1, 1) := by decide +kernel
theorem dX12_pulse_103 : decode cX12_pulse 103 = .ok (.iconst 1, 1) := by decide +kernel
theorem dX12_pulse_104 : decode cX12_pulse 104 = .ok (.isub, 1) := by decide +kernel
theorem dX12_pulse_105 : decode cX12_pulse 105 = .ok (.invokevirtual 387, 3) := by decide +kernel
theorem dX12_pulse_108 : decode cX12_pulse 108 = .ok (.aload_n 0, 1) := by decide +kernel
theorem dX12_pulse_109 : decode cX12_pulse 109 = .ok (.iconst 0, 1) := by decide +kernel
theorem dX12_pulse_110 : decode cX12_pulse 110 = .ok (.invokevirtual 387, 3) := by decide +kernel
theorem dX12_pulse_113 : decode cX12_pulse 113 = .ok (.isub, 1) := by decide +kernel
theorem dX12_pulse_114 : decode cX12_pulse 114 = .ok (.iload_n 3, 1) := by decide +kernel
theorem dX12_pulse_115 : decode cX12_pulse 115 = .ok (.idiv, 1) := by decide +kernel
theorem dX12_pulse_116 : decode cX12_pulse 116 = .ok (.iconst 1, 1) := by decide +kernel
theorem dX12_pulse_117 : decode cX12_pulse 117 = .ok (.iadd, 1) := by decide +kernel
theorem dX12_pulse_118 : decode cX12_pulse 118 = .ok (.iload_n 1, 1) := by decide +kernel
theorem dX12_pulse_119 : decode cX12_pulse 119 = .ok (.isub, 1) := by decide +kernel
theorem dX12_pulse_120 : decode cX12_pulse 120 = .ok (.ireturn, 1) := by decide +kernel
theorem dX12_climbs_0 : decode cX12_climbs 0 = .ok (.aload_n 0, 1) := by decide +kernel
theorem dX12_climbs_1 : decode cX12_climbs 1 = .ok (.iload_n 2, 1) := by decide +kernel
theorem dX12_climbs_2 : decode cX12_climbs 2 = .ok (.invokevirtual 384, 3) := by decide +kernel
theorem dX12_climbs_5 : decode cX12_climbs 5 = .ok (.aload_n 0, 1) := by decide +kernel
theorem dX12_climbs_6 : decode cX12_climbs 6 = .ok (.iload_n 1, 1) := by decide +kernel
theorem dX12_climbs_7 : decode cX12_climbs 7 = .ok (.invokevirtual 384, 3) := by decide +kernel
theorem dX12_climbs_10 : decode cX12_climbs 10 = .ok (.isub, 1) := by decide +kernel
theorem dX12_climbs_11 : decode cX12_climbs 11 = .ok (.istore_n 3, 1) := by decide +kernel
theorem dX12_climbs_12 : decode cX12_climbs 12 = .ok (.aload_n 0, 1) := by decide +kernel
theorem dX12_climbs_13 : decode cX12_climbs 13 = .ok (.getfield 98, 3) := by decide +kernel
theorem dX12_climbs_16 : decode cX12_climbs 16 = .ok (.iload_n 1, 1) := by decide +kernel
theorem dX12_climbs_17 : decode cX12_climbs 17 = .ok (.iaload, 1) := by decide +kernel
theorem dX12_climbs_18 : decode cX12_climbs 18 = .ok (.iconst 2, 1) := by decide +kernel
theorem dX12_climbs_19 : decode cX12_climbs 19 = .ok (.iadd, 1) := by decide +kernel
theorem dX12_climbs_20 : decode cX12_climbs 20 = .ok (.iload_n 3, 1) := by decide +kernel
theorem dX12_climbs_21 : decode cX12_climbs 21 = .ok (.ifCond .le 9, 3) := by decide +kernel
theorem dX12_climbs_24 : decode cX12_climbs 24 = .ok (.iconst 3, 1) := by decide +kernel
theorem dX12_climbs_25 : decode cX12_climbs 25 = .ok (.iload_n 3, 1) := by decide +kernel
theorem dX12_climbs_26 : decode cX12_climbs 26 = .ok (.imul, 1) := by decide +kernel
theorem dX12_climbs_27 : decode cX12_climbs 27 = .ok (.goto 5, 3) := by decide +kernel
theorem dX12_climbs_30 : decode cX12_climbs 30 = .ok (.iload_n 3, 1) := by decide +kernel
theorem dX12_climbs_31 : decode cX12_climbs 31 = .ok (.ineg, 1) := by decide +kernel
theorem dX12_climbs_32 : decode cX12_climbs 32 = .ok (.iadd, 1) := by decide +kernel
theorem dX12_climbs_33 : decode cX12_climbs 33 = .ok (.istore 4, 2) := by decide +kernel
theorem dX12_climbs_35 : decode cX12_climbs 35 = .ok (.aload_n 0, 1) := by decide +kernel
theorem dX12_climbs_36 : decode cX12_climbs 36 = .ok (.getfield 101, 3) := by decide +kernel
theorem dX12_climbs_39 : decode cX12_climbs 39 = .ok (.iload_n 1, 1) := by decide +kernel
theorem dX12_climbs_40 : decode cX12_climbs 40 = .ok (.iaload, 1) := by decide +kernel
theorem dX12_climbs_41 : decode cX12_climbs 41 = .ok (.iconst 1, 1) := by decide +kernel
theorem dX12_climbs_42 : decode cX12_climbs 42 = .ok (.iadd, 1) := by decide +kernel
theorem dX12_climbs_43 : decode cX12_climbs 43 = .ok (.istore 5, 2) := by decide +kernel
theorem dX12_climbs_45 : decode cX12_climbs 45 = .ok (.iload 4, 2) := by decide +kernel
theorem dX12_climbs_47 : decode cX12_climbs 47 = .ok (.aload_n 0, 1) := by decide +kernel
theorem dX12_climbs_48 : decode cX12_climbs 48 = .ok (.getfield 98, 3) := by decide +kernel
theorem dX12_climbs_51 : decode cX12_climbs 51 = .ok (.iload_n 2, 1) := by decide +kernel
theorem dX12_climbs_52 : decode cX12_climbs 52 = .ok (.iaload, 1) := by decide +kernel
theorem dX12_climbs_53 : decode cX12_climbs 53 = .ok (.if_icmp .gt 25, 3) := by decide +kernel
theorem dX12_climbs_56 : decode cX12_climbs 56 = .ok (.iload 4, 2) := by decide +kernel
theorem dX12_climbs_58 : decode cX12_climbs 58 = .ok (.aload_n 0, 1) := by decide +kernel
theorem dX12_climbs_59 : decode cX12_climbs 59 = .ok (.getfield 98, 3) := by decide +kernel
theorem dX12_climbs_62 : decode cX12_climbs 62 = .ok (.iload_n 2, 1) := by decide +kernel
theorem dX12_climbs_63 : decode cX12_climbs 63 = .ok (.iaload, 1) := by decide +kernel
theorem dX12_climbs_64 : decode cX12_climbs 64 = .ok (.if_icmp .ne 15, 3) := by decide +kernel
theorem dX12_climbs_67 : decode cX12_climbs 67 = .ok (.iload 5, 2) := by decide +kernel
theorem dX12_climbs_69 : decode cX12_climbs 69 = .ok (.aload_n 0, 1) := by decide +kernel
theorem dX12_climbs_70 : decode cX12_climbs 70 = .ok (.getfield 101, 3) := by decide +kernel
theorem dX12_climbs_73 : decode cX12_climbs 73 = .ok (.iload_n 2, 1) := by decide +kernel
theorem dX12_climbs_74 : decode cX12_climbs 74 = .ok (.iaload, 1) := by decide +kernel
theorem dX12_climbs_75 : decode cX12_climbs 75 = .ok (.if_icmp .lt 4, 3) := by decide +kernel
theorem dX12_climbs_78 : decode cX12_climbs 78 = .ok (.return_, 1) := by decide +kernel
theorem dX12_climbs_79 : decode cX12_climbs 79 = .ok (.aload_n 0, 1) := by decide +kernel
theorem dX12_climbs_80 : decode cX12_climbs 80 = .ok (.getfield 98, 3) := by decide +kernel
theorem dX12_climbs_83 : decode cX12_climbs 83 = .ok (.iload_n 2, 1) := by decide +kernel
theorem dX12_climbs_84 : decode cX12_climbs 84 = .ok (.iload 4, 2) := by decide +kernel
theorem dX12_climbs_86 : decode cX12_climbs 86 = .ok (.iastore, 1) := by decide +kernel
theorem dX12_climbs_87 : decode cX12_climbs 87 = .ok (.aload_n 0, 1) := by decide +kernel
theorem dX12_climbs_88 : decode cX12_climbs 88 = .ok (.getfield 101, 3) := by decide +kernel
theorem dX12_climbs_91 : decode cX12_climbs 91 = .ok (.iload_n 2, 1) := by decide +kernel
theorem dX12_climbs_92 : decode cX12_climbs 92 = .ok (.iload 5, 2) := by decide +kernel
theorem dX12_climbs_94 : decode cX12_climbs 94 = .ok (.iastore, 1) := by decide +kernel
theorem dX12_climbs_95 : decode cX12_climbs 95 = .ok (.return_, 1) := by decide +kernel
theorem dX12_stairs_0 : decode cX12_stairs 0 = .ok (.iload_n 1, 1) := by decide +kernel
theorem dX12_stairs_1 : decode cX12_stairs 1 = .ok (.iconst 2, 1) := by decide +kernel
theorem dX12_stairs_2 : decode cX12_stairs 2 = .ok (.bipush 20, 2) := by decide +kernel
theorem dX12_stairs_4 : decode cX12_stairs 4 = .ok (.invokestatic 107, 3) := by decide +kernel
theorem dX12_stairs_7 : decode cX12_stairs 7 = .ok (.ifCond .eq 20, 3) := by decide +kernel
theorem dX12_stairs_10 : decode cX12_stairs 10 = .ok (.iload_n 2, 1) := by decide +kernel
theorem dX12_stairs_11 : decode cX12_stairs 11 = .ok (.iconst 0, 1) := by decide +kernel
theorem dX12_stairs_12 : decode cX12_stairs 12 = .ok (.iconst 1, 1) := by decide +kernel
theorem dX12_stairs_13 : decode cX12_stairs 13 = .ok (.invokestatic 107, 3) := by decide +kernel
theorem dX12_stairs_16 : decode cX12_stairs 16 = .ok (.ifCond .eq 11, 3) := by decide +kernel
theorem dX12_stairs_19 : decode cX12_stairs 19 = .ok (.iload_n 1, 1) := by decide +kernel
theorem dX12_stairs_20 : decode cX12_stairs 20 = .ok (.aload_n 0, 1) := by decide +kernel
theorem dX12_stairs_21 : decode cX12_stairs 21 = .ok (.getfield 120, 3) := by decide +kernel
theorem dX12_stairs_24 : decode cX12_stairs 24 = .ok (.if_icmp .le 5, 3) := by decide +kernel
theorem dX12_stairs_27 : decode cX12_stairs 27 = .ok (.iconst (-1), 1) := by decide +kernel
theorem dX12_stairs_28 : decode cX12_stairs 28 = .ok (.ireturn, 1) := by decide +kernel
theorem dX12_stairs_29 : decode cX12_stairs 29 = .ok (.aload_n 0, 1) := by decide +kernel
theorem dX12_stairs_30 : decode cX12_stairs 30 = .ok (.iconst 0, 1) := by decide +kernel
theorem dX12_stairs_31 : decode cX12_stairs 31 = .ok (.putfield 120, 3) := by decide +kernel
theorem dX12_stairs_34 : decode cX12_stairs 34 = .ok (.iconst 0, 1) := by decide +kernel
theorem dX12_stairs_35 : decode cX12_stairs 35 = .ok (.istore_n 3, 1) := by decide +kernel
theorem dX12_stairs_36 : decode cX12_stairs 36 = .ok (.iload_n 3, 1) := by decide +kernel
theorem dX12_stairs_37 : decode cX12_stairs 37 = .ok (.iload_n 1, 1) := by decide +kernel
theorem dX12_stairs_38 : decode cX12_stairs 38 = .ok (.if_icmp .ge 33, 3) := by decide +kernel
theorem dX12_stairs_41 : decode cX12_stairs 41 = .ok (.aload_n 0, 1) := by decide +kernel
theorem dX12_stairs_42 : decode cX12_stairs 42 = .ok (.getfield 98, 3) := by decide +kernel
theorem dX12_stairs_45 : decode cX12_stairs 45 = .ok (.iload_n 3, 1) := by decide +kernel
theorem dX12_stairs_46 : decode cX12_stairs 46 = .ok (.iload_n 3, 1) := by decide +kernel
theorem dX12_stairs_47 : decode cX12_stairs 47 = .ok (.ifCond .ne 7, 3) := by decide +kernel
theorem dX12_stairs_50 : decode cX12_stairs 50 = .ok (.iconst 0, 1) := by decide +kernel
theorem dX12_stairs_51 : decode cX12_stairs 51 = .ok (.goto 6, 3) := by decide +kernel
theorem dX12_stairs_54 : decode cX12_stairs 54 = .ok (.ldc_w 412, 3) := by decide +kernel
theorem dX12_stairs_57 : decode cX12_stairs 57 = .ok (.iastore, 1) := by decide +kernel
theorem dX12_stairs_58 : decode cX12_stairs 58 = .ok (.aload_n 0, 1) := by decide +kernel
theorem dX12_stairs_59 : decode cX12_stairs 59 = .ok (.getfield 101, 3) := by decide +kernel
theorem dX12_stairs_62 : decode cX12_stairs 62 = .ok (.iload_n 3, 1) := by decide +kernel
theorem dX12_stairs_63 : decode cX12_stairs 63 = .ok (.iconst 0, 1) := by decide +kernel
theorem dX12_stairs_64 : decode cX12_stairs 64 = .ok (.iastore, 1) := by decide +kernel
theorem dX12_stairs_65 : decode cX12_stairs 65 = .ok (.iinc 3 1, 3) := by decide +kernel
theorem dX12_stairs_68 : decode cX12_stairs 68 = .ok (.goto (-32), 3) := by decide +kernel
theorem dX12_stairs_71 : decode cX12_stairs 71 = .ok (.iconst 1, 1) := by decide +kernel
theorem dX12_stairs_72 : decode cX12_stairs 72 = .ok (.istore_n 3, 1) := by decide +kernel
theorem dX12_stairs_73 : decode cX12_stairs 73 = .ok (.iload_n 3, 1) := by decide +kernel
theorem dX12_stairs_74 : decode cX12_stairs 74 = .ok (.iload_n 1, 1) := by decide +kernel
theorem dX12_stairs_75 : decode cX12_stairs 75 = .ok (.if_icmp .ge 30, 3) := by decide +kernel
theorem dX12_stairs_78 : decode cX12_stairs 78 = .ok (.aload_n 0, 1) := by decide +kernel
theorem dX12_stairs_79 : decode cX12_stairs 79 = .ok (.iload_n 3, 1) := by decide +kernel
theorem dX12_stairs_80 : decode cX12_stairs 80 = .ok (.iconst 1, 1) := by decide +kernel
theorem dX12_stairs_81 : decode cX12_stairs 81 = .ok (.isub, 1) := by decide +kernel
theorem dX12_stairs_82 : decode cX12_stairs 82 = .ok (.iload_n 3, 1) := by decide +kernel
theorem dX12_stairs_83 : decode cX12_stairs 83 = .ok (.invokevirtual 413, 3) := by decide +kernel
theorem dX12_stairs_86 : decode cX12_stairs 86 = .ok (.iload_n 3, 1) := by decide +kernel
theorem dX12_stairs_87 : decode cX12_stairs 87 = .ok (.iconst 1, 1) := by decide +kernel
theorem dX12_stairs_88 : decode cX12_stairs 88 = .ok (.if_icmp .le 11, 3) := by decide +kernel
theorem dX12_stairs_91 : decode cX12_stairs 91 = .ok (.aload_n 0, 1) := by decide +kernel
theorem dX12_stairs_92 : decode cX12_stairs 92 = .ok (.iload_n 3, 1) := by decide +kernel
theorem dX12_stairs_93 : decode cX12_stairs 93 = .ok (.iconst 2, 1) := by decide +kernel
theorem dX12_stairs_94 : decode cX12_stairs 94 = .ok (.isub, 1) := by decide +kernel
theorem dX12_stairs_95 : decode cX12_stairs 95 = .ok (.iload_n 3, 1) := by decide +kernel
theorem dX12_stairs_96 : decode cX12_stairs 96 = .ok (.invokevirtual 413, 3) := by decide +kernel
theorem dX12_stairs_99 : decode cX12_stairs 99 = .ok (.iinc 3 1, 3) := by decide +kernel
theorem dX12_stairs_102 : decode cX12_stairs 102 = .ok (.goto (-29), 3) := by decide +kernel
theorem dX12_stairs_105 : decode cX12_stairs 105 = .ok (.iload_n 2, 1) := by decide +kernel
theorem dX12_stairs_106 : decode cX12_stairs 106 = .ok (.ifCond .ne 14, 3) := by decide +kernel
theorem dX12_stairs_109 : decode cX12_stairs 109 = .ok (.aload_n 0, 1) := by decide +kernel
theorem dX12_stairs_110 : decode cX12_stairs 110 = .ok (.getfield 98, 3) := by decide +kernel
theorem dX12_stairs_113 : decode cX12_stairs 113 = .ok (.iload_n 1, 1) := by decide +kernel
theorem dX12_stairs_114 : decode cX12_stairs 114 = .ok (.iconst 1, 1) := by decide +kernel
theorem dX12_stairs_115 : decode cX12_stairs 115 = .ok (.isub, 1) := by decide +kernel
theorem dX12_stairs_116 : decode cX12_stairs 116 = .ok (.iaload, 1) := by decide +kernel
theorem dX12_stairs_117 : decode cX12_stairs 117 = .ok (.goto 11, 3) := by decide +kernel
theorem dX12_stairs_120 : decode cX12_stairs 120 = .ok (.aload_n 0, 1) := by decide +kernel
theorem dX12_stairs_121 : decode cX12_stairs 121 = .ok (.getfield 101, 3) := by decide +kernel
theorem dX12_stairs_124 : decode cX12_stairs 124 = .ok (.iload_n 1, 1) := by decide +kernel
theorem dX12_stairs_125 : decode cX12_stairs 125 = .ok (.iconst 1, 1) := by decide +kernel
theorem dX12_stairs_126 : decode cX12_stairs 126 = .ok (.isub, 1) := by decide +kernel
theorem dX12_stairs_127 : decode cX12_stairs 127 = .ok (.iaload, 1) := by decide +kernel
theorem dX12_stairs_128 : decode cX12_stairs 128 = .ok (.ireturn, 1) := by decide +kernel
theorem dX12_bells_0 : decode cX12_bells 0 = .ok (.iload_n 1, 1) := by decide +kernel
theorem dX12_bells_1 : decode cX12_bells 1 = .ok (.iconst 1, 1) := by decide +kernel
theorem dX12_bells_2 : decode cX12_bells 2 = .ok (.iconst 5, 1) := by decide +kernel
theorem dX12_bells_3 : decode cX12_bells 3 = .ok (.invokestatic 107, 3) := by decide +kernel
theorem dX12_bells_6 : decode cX12_bells 6 = .ok (.ifCond .eq 22, 3) := by decide +kernel
theorem dX12_bells_9 : decode cX12_bells 9 = .ok (.iload_n 2, 1) := by decide +kernel
theorem dX12_bells_10 : decode cX12_bells 10 = .ok (.iconst 1, 1) := by decide +kernel
theorem dX12_bells_11 : decode cX12_bells 11 = .ok (.sipush 9999, 3) := by decide +kernel
theorem dX12_bells_14 : decode cX12_bells 14 = .ok (.invokestatic 107, 3) := by decide +kernel
theorem dX12_bells_17 : decode cX12_bells 17 = .ok (.ifCond .eq 11, 3) := by decide +kernel
theorem dX12_bells_20 : decode cX12_bells 20 = .ok (.iload_n 1, 1) := by decide +kernel
theorem dX12_bells_21 : decode cX12_bells 21 = .ok (.aload_n 0, 1) := by decide +kernel
theorem dX12_bells_22 : decode cX12_bells 22 = .ok (.getfield 120, 3) := by decide +kernel
theorem dX12_bells_25 : decode cX12_bells 25 = .ok (.if_icmp .le 5, 3) := by decide +kernel
theorem dX12_bells_28 : decode cX12_bells 28 = .ok (.iconst (-1), 1) := by decide +kernel
theorem dX12_bells_29 : decode cX12_bells 29 = .ok (.ireturn, 1) := by decide +kernel
theorem dX12_bells_30 : decode cX12_bells 30 = .ok (.aload_n 0, 1) := by decide +kernel
theorem dX12_bells_31 : decode cX12_bells 31 = .ok (.iconst 0, 1) := by decide +kernel
theorem dX12_bells_32 : decode cX12_bells 32 = .ok (.putfield 120, 3) := by decide +kernel
theorem dX12_bells_35 : decode cX12_bells 35 = .ok (.iconst 0, 1) := by decide +kernel
theorem dX12_bells_36 : decode cX12_bells 36 = .ok (.istore_n 3, 1) := by decide +kernel
theorem dX12_bells_37 : decode cX12_bells 37 = .ok (.iload_n 3, 1) := by decide +kernel
theorem dX12_bells_38 : decode cX12_bells 38 = .ok (.iload_n 1, 1) := by decide +kernel
theorem dX12_bells_39 : decode cX12_bells 39 = .ok (.if_icmp .ge 52, 3) := by decide +kernel
theorem dX12_bells_42 : decode cX12_bells 42 = .ok (.aload_n 0, 1) := by decide +kernel
theorem dX12_bells_43 : decode cX12_bells 43 = .ok (.iload_n 3, 1) := by decide +kernel
theorem dX12_bells_44 : decode cX12_bells 44 = .ok (.invokevirtual 384, 3) := by decide +kernel
theorem dX12_bells_47 : decode cX12_bells 47 = .ok (.ifCond .ne 6, 3) := by decide +kernel
theorem dX12_bells_50 : decode cX12_bells 50 = .ok (.bipush (-3), 2) := by decide +kernel
theorem dX12_bells_52 : decode cX12_bells 52 = .ok (.ireturn, 1) := by decide +kernel
theorem dX12_bells_53 : decode cX12_bells 53 = .ok (.iconst 0, 1) := by decide +kernel
theorem dX12_bells_54 : decode cX12_bells 54 = .ok (.istore 4, 2) := by decide +kernel
theorem dX12_bells_56 : decode cX12_bells 56 = .ok (.iload 4, 2) := by decide +kernel
theorem dX12_bells_58 : decode cX12_bells 58 = .ok (.iload_n 3, 1) := by decide +kernel
theorem dX12_bells_59 : decode cX12_bells 59 = .ok (.if_icmp .ge 26, 3) := by decide +kernel
theorem dX12_bells_62 : decode cX12_bells 62 = .ok (.aload_n 0, 1) := by decide +kernel
theorem dX12_bells_63 : decode cX12_bells 63 = .ok (.iload 4, 2) := by decide +kernel
theorem dX12_bells_65 : decode cX12_bells 65 = .ok (.invokevirtual 384, 3) := by decide +kernel
theorem dX12_bells_68 : decode cX12_bells 68 = .ok (.aload_n 0, 1) := by decide +kernel
theorem dX12_bells_69 : decode cX12_bells 69 = .ok (.iload_n 3, 1) := by decide +kernel
theorem dX12_bells_70 : decode cX12_bells 70 = .ok (.invokevirtual 384, 3) := by decide +kernel
theorem dX12_bells_73 : decode cX12_bells 73 = .ok (.if_icmp .ne 6, 3) := by decide +kernel
theorem dX12_bells_76 : decode cX12_bells 76 = .ok (.bipush (-3), 2) := by decide +kernel
theorem dX12_bells_78 : decode cX12_bells 78 = .ok (.ireturn, 1) := by decide +kernel
theorem dX12_bells_79 : decode cX12_bells 79 = .ok (.iinc 4 1, 3) := by decide +kernel
theorem dX12_bells_82 : decode cX12_bells 82 = .ok (.goto (-26), 3) := by decide +kernel
theorem dX12_bells_85 : decode cX12_bells 85 = .ok (.iinc 3 1, 3) := by decide +kernel
theorem dX12_bells_88 : decode cX12_bells 88 = .ok (.goto (-51), 3) := by decide +kernel
theorem dX12_bells_91 : decode cX12_bells 91 = .ok (.aload_n 0, 1) := by decide +kernel
theorem dX12_bells_92 : decode cX12_bells 92 = .ok (.getfield 104, 3) := by decide +kernel
theorem dX12_bells_95 : decode cX12_bells 95 = .ok (.iconst 0, 1) := by decide +kernel
theorem dX12_bells_96 : decode cX12_bells 96 = .ok (.iconst 0, 1) := by decide +kernel
theorem dX12_bells_97 : decode cX12_bells 97 = .ok (.iastore, 1) := by decide +kernel
theorem dX12_bells_98 : decode cX12_bells 98 = .ok (.iconst 1, 1) := by decide +kernel
theorem dX12_bells_99 : decode cX12_bells 99 = .ok (.istore_n 3, 1) := by decide +kernel
theorem dX12_bells_100 : decode cX12_bells 100 = .ok (.iload_n 3, 1) := by decide +kernel
theorem dX12_bells_101 : decode cX12_bells 101 = .ok (.iload_n 2, 1) := by decide +kernel
theorem dX12_bells_102 : decode cX12_bells 102 = .ok (.if_icmp .gt 73, 3) := by decide +kernel
theorem dX12_bells_105 : decode cX12_bells 105 = .ok (.aload_n 0, 1) := by decide +kernel
theorem dX12_bells_106 : decode cX12_bells 106 = .ok (.getfield 104, 3) := by decide +kernel
theorem dX12_bells_109 : decode cX12_bells 109 = .ok (.iload_n 3, 1) := by decide +kernel
theorem dX12_bells_110 : decode cX12_bells 110 = .ok (.ldc_w 412, 3) := by decide +kernel
theorem dX12_bells_113 : decode cX12_bells 113 = .ok (.iastore, 1) := by decide +kernel
theorem dX12_bells_114 : decode cX12_bells 114 = .ok (.iconst 0, 1) := by decide +kernel
theorem dX12_bells_115 : decode cX12_bells 115 = .ok (.istore 4, 2) := by decide +kernel
theorem dX12_bells_117 : decode cX12_bells 117 = .ok (.iload 4, 2) := by decide +kernel
theorem dX12_bells_119 : decode cX12_bells 119 = .ok (.iload_n 1, 1) := by decide +kernel
theorem dX12_bells_120 : decode cX12_bells 120 = .ok (.if_icmp .ge 49, 3) := by decide +kernel
theorem dX12_bells_123 : decode cX12_bells 123 = .ok (.aload_n 0, 1) := by decide +kernel
theorem dX12_bells_124 : decode cX12_bells 124 = .ok (.iload 4, 2) := by decide +kernel
theorem dX12_bells_126 : decode cX12_bells 126 = .ok (.invokevirtual 384, 3) := by decide +kernel
theorem dX12_bells_129 : decode cX12_bells 129 = .ok (.iload_n 3, 1) := by decide +kernel
theorem dX12_bells_130 : decode cX12_bells 130 = .ok (.if_icmp .gt 33, 3) := by decide +kernel
theorem dX12_bells_133 : decode cX12_bells 133 = .ok (.aload_n 0, 1) := by decide +kernel
theorem dX12_bells_134 : decode cX12_bells 134 = .ok (.getfield 104, 3) := by decide +kernel
theorem dX12_bells_137 : decode cX12_bells 137 = .ok (.iload_n 3, 1) := by decide +kernel
theorem dX12_bells_138 : decode cX12_bells 138 = .ok (.aload_n 0, 1) := by decide +kernel
theorem dX12_bells_139 : decode cX12_bells 139 = .ok (.getfield 104, 3) := by decide +kernel
theorem dX12_bells_142 : decode cX12_bells 142 = .ok (.iload_n 3, 1) := by decide +kernel
theorem dX12_bells_143 : decode cX12_bells 143 = .ok (.iaload, 1) := by decide +kernel
theorem dX12_bells_144 : decode cX12_bells 144 = .ok (.aload_n 0, 1) := by decide +kernel
theorem dX12_bells_145 : decode cX12_bells 145 = .ok (.getfield 104, 3) := by decide +kernel
theorem dX12_bells_148 : decode cX12_bells 148 = .ok (.iload_n 3, 1) := by decide +kernel
theorem dX12_bells_149 : decode cX12_bells 149 = .ok (.aload_n 0, 1) := by decide +kernel
theorem dX12_bells_150 : decode cX12_bells 150 = .ok (.iload 4, 2) := by decide +kernel
theorem dX12_bells_152 : decode cX12_bells 152 = .ok (.invokevirtual 384, 3) := by decide +kernel
theorem dX12_bells_155 : decode cX12_bells 155 = .ok (.isub, 1) := by decide +kernel
theorem dX12_bells_156 : decode cX12_bells 156 = .ok (.iaload, 1) := by decide +kernel
theorem dX12_bells_157 : decode cX12_bells 157 = .ok (.iconst 1, 1) := by decide +kernel
theorem dX12_bells_158 : decode cX12_bells 158 = .ok (.iadd, 1) := by decide +kernel
theorem dX12_bells_159 : decode cX12_bells 159 = .ok (.invokestatic 272, 3) := by decide +kernel
theorem dX12_bells_162 : decode cX12_bells 162 = .ok (.iastore, 1) := by decide +kernel
theorem dX12_bells_163 : decode cX12_bells 163 = .ok (.iinc 4 1, 3) := by decide +kernel
theorem dX12_bells_166 : decode cX12_bells 166 = .ok (.goto (-49), 3) := by decide +kernel
theorem dX12_bells_169 : decode cX12_bells 169 = .ok (.iinc 3 1, 3) := by decide +kernel
theorem dX12_bells_172 : decode cX12_bells 172 = .ok (.goto (-72), 3) := by decide +kernel
theorem dX12_bells_175 : decode cX12_bells 175 = .ok (.aload_n 0, 1) := by decide +kernel
theorem dX12_bells_176 : decode cX12_bells 176 = .ok (.getfield 104, 3) := by decide +kernel
theorem dX12_bells_179 : decode cX12_bells 179 = .ok (.iload_n 2, 1) := by decide +kernel
theorem dX12_bells_180 : decode cX12_bells 180 = .ok (.iaload, 1) := by decide +kernel
theorem dX12_bells_181 : decode cX12_bells 181 = .ok (.ldc_w 412, 3) := by decide +kernel
theorem dX12_bells_184 : decode cX12_bells 184 = .ok (.if_icmp .lt 8, 3) := by decide +kernel
theorem dX12_bells_187 : decode cX12_bells 187 = .ok (.bipush (-2), 2) := by decide +kernel
theorem dX12_bells_189 : decode cX12_bells 189 = .ok (.goto 9, 3) := by decide +kernel
theorem dX12_bells_192 : decode cX12_bells 192 = .ok (.aload_n 0, 1) := by decide +kernel
theorem dX12_bells_193 : decode cX12_bells 193 = .ok (.getfield 104, 3) := by decide +kernel
theorem dX12_bells_196 : decode cX12_bells 196 = .ok (.iload_n 2, 1) := by decide +kernel
theorem dX12_bells_197 : decode cX12_bells 197 = .ok (.iaload, 1) := by decide +kernel
theorem dX12_bells_198 : decode cX12_bells 198 = .ok (.ireturn, 1) := by decide +kernel
theorem dX12_seed_0 : decode cX12_seed 0 = .ok (.iload_n 1, 1) := by decide +kernel
theorem dX12_seed_1 : decode cX12_seed 1 = .ok (.iconst 0, 1) := by decide +kernel
theorem dX12_seed_2 : decode cX12_seed 2 = .ok (.ldc_w 353, 3) := by decide +kernel
theorem dX12_seed_5 : decode cX12_seed 5 = .ok (.invokestatic 107, 3) := by decide +kernel
theorem dX12_seed_8 : decode cX12_seed 8 = .ok (.ifCond .ne 5, 3) := by decide +kernel
theorem dX12_seed_11 : decode cX12_seed 11 = .ok (.iconst 0, 1) := by decide +kernel
theorem dX12_seed_12 : decode cX12_seed 12 = .ok (.ireturn, 1) := by decide +kernel
theorem dX12_seed_13 : decode cX12_seed 13 = .ok (.aload_n 0, 1) := by decide +kernel
theorem dX12_seed_14 : decode cX12_seed 14 = .ok (.getfield 7, 3) := by decide +kernel
theorem dX12_seed_17 : decode cX12_seed 17 = .ok (.sipush 211, 3) := by decide +kernel
theorem dX12_seed_20 : decode cX12_seed 20 = .ok (.iload_n 1, 1) := by decide +kernel
theorem dX12_seed_21 : decode cX12_seed 21 = .ok (.iastore, 1) := by decide +kernel
theorem dX12_seed_22 : decode cX12_seed 22 = .ok (.iconst 1, 1) := by decide +kernel
theorem dX12_seed_23 : decode cX12_seed 23 = .ok (.ireturn, 1) := by decide +kernel
theorem dX12_keep_0 : decode cX12_keep 0 = .ok (.aload_n 0, 1) := by decide +kernel
theorem dX12_keep_1 : decode cX12_keep 1 = .ok (.iconst 1, 1) := by decide +kernel
theorem dX12_keep_2 : decode cX12_keep 2 = .ok (.putfield 416, 3) := by decide +kernel
theorem dX12_keep_5 : decode cX12_keep 5 = .ok (.aload_n 0, 1) := by decide +kernel
theorem dX12_keep_6 : decode cX12_keep 6 = .ok (.getfield 7, 3) := by decide +kernel
theorem dX12_keep_9 : decode cX12_keep 9 = .ok (.aload_n 0, 1) := by decide +kernel
theorem dX12_keep_10 : decode cX12_keep 10 = .ok (.getfield 16, 3) := by decide +kernel
theorem dX12_keep_13 : decode cX12_keep 13 = .ok (.invokestatic 330, 3) := by decide +kernel
theorem dX12_keep_16 : decode cX12_keep 16 = .ok (.aload_n 0, 1) := by decide +kernel
theorem dX12_keep_17 : decode cX12_keep 17 = .ok (.getfield 7, 3) := by decide +kernel
theorem dX12_keep_20 : decode cX12_keep 20 = .ok (.sipush 210, 3) := by decide +kernel
theorem dX12_keep_23 : decode cX12_keep 23 = .ok (.iaload, 1) := by decide +kernel
theorem dX12_keep_24 : decode cX12_keep 24 = .ok (.ireturn, 1) := by decide +kernel
theorem dX12_undo_0 : decode cX12_undo 0 = .ok (.aload_n 0, 1) := by decide +kernel
theorem dX12_undo_1 : decode cX12_undo 1 = .ok (.getfield 416, 3) := by decide +kernel
theorem dX12_undo_4 : decode cX12_undo 4 = .ok (.ifCond .ne 5, 3) := by decide +kernel
theorem dX12_undo_7 : decode cX12_undo 7 = .ok (.iconst 0, 1) := by decide +kernel
theorem dX12_undo_8 : decode cX12_undo 8 = .ok (.ireturn, 1) := by decide +kernel
theorem dX12_undo_9 : decode cX12_undo 9 = .ok (.aload_n 0, 1) := by decide +kernel
theorem dX12_undo_10 : decode cX12_undo 10 = .ok (.getfield 16, 3) := by decide +kernel
theorem dX12_undo_13 : decode cX12_undo 13 = .ok (.aload_n 0, 1) := by decide +kernel
theorem dX12_undo_14 : decode cX12_undo 14 = .ok (.getfield 7, 3) := by decide +kernel
theorem dX12_undo_17 : decode cX12_undo 17 = .ok (.invokestatic 330, 3) := by decide +kernel
theorem dX12_undo_20 : decode cX12_undo 20 = .ok (.iconst 1, 1) := by decide +kernel
theorem dX12_undo_21 : decode cX12_undo 21 = .ok (.ireturn, 1) := by decide +kernel
theorem dX12_check_0 : decode cX12_check 0 = .ok (.iload_n 1, 1) := by decide +kernel
theorem dX12_check_1 : decode cX12_check 1 = .ok (.iconst 0, 1) := by decide +kernel
theorem dX12_check_2 : decode cX12_check 2 = .ok (.bipush 16, 2) := by decide +kernel
theorem dX12_check_4 : decode cX12_check 4 = .ok (.invokestatic 107, 3) := by decide +kernel
theorem dX12_check_7 : decode cX12_check 7 = .ok (.ifCond .eq 11, 3) := by decide +kernel
theorem dX12_check_10 : decode cX12_check 10 = .ok (.iload_n 1, 1) := by decide +kernel
theorem dX12_check_11 : decode cX12_check 11 = .ok (.aload_n 0, 1) := by decide +kernel
theorem dX12_check_12 : decode cX12_check 12 = .ok (.getfield 120, 3) := by decide +kernel
theorem dX12_check_15 : decode cX12_check 15 = .ok (.if_icmp .le 6, 3) := by decide +kernel
theorem dX12_check_18 : decode cX12_check 18 = .ok (.bipush (-2), 2) := by decide +kernel
theorem dX12_check_20 : decode cX12_check 20 = .ok (.ireturn, 1) := by decide +kernel
theorem dX12_check_21 : decode cX12_check 21 = .ok (.aload_n 0, 1) := by decide +kernel
theorem dX12_check_22 : decode cX12_check 22 = .ok (.iconst 0, 1) := by decide +kernel
theorem dX12_check_23 : decode cX12_check 23 = .ok (.putfield 120, 3) := by decide +kernel
theorem dX12_check_26 : decode cX12_check 26 = .ok (.iconst 0, 1) := by decide +kernel
theorem dX12_check_27 : decode cX12_check 27 = .ok (.istore_n 2, 1) := by decide +kernel
theorem dX12_check_28 : decode cX12_check 28 = .ok (.iload_n 2, 1) := by decide +kernel
theorem dX12_check_29 : decode cX12_check 29 = .ok (.iload_n 1, 1) := by decide +kernel
theorem dX12_check_30 : decode cX12_check 30 = .ok (.if_icmp .ge 42, 3) := by decide +kernel
theorem dX12_check_33 : decode cX12_check 33 = .ok (.aload_n 0, 1) := by decide +kernel
theorem dX12_check_34 : decode cX12_check 34 = .ok (.iload_n 2, 1) := by decide +kernel
theorem dX12_check_35 : decode cX12_check 35 = .ok (.invokevirtual 384, 3) := by decide +kernel
theorem dX12_check_38 : decode cX12_check 38 = .ok (.aload_n 0, 1) := by decide +kernel
theorem dX12_check_39 : decode cX12_check 39 = .ok (.iload_n 2, 1) := by decide +kernel
theorem dX12_check_40 : decode cX12_check 40 = .ok (.invokevirtual 111, 3) := by decide +kernel
theorem dX12_check_43 : decode cX12_check 43 = .ok (.ifCond .eq 15, 3) := by decide +kernel
theorem dX12_check_46 : decode cX12_check 46 = .ok (.aload_n 0, 1) := by decide +kernel
theorem dX12_check_47 : decode cX12_check 47 = .ok (.getfield 7, 3) := by decide +kernel
theorem dX12_check_50 : decode cX12_check 50 = .ok (.bipush 48, 2) := by decide +kernel
theorem dX12_check_52 : decode cX12_check 52 = .ok (.iload_n 2, 1) := by decide +kernel
theorem dX12_check_53 : decode cX12_check 53 = .ok (.iadd, 1) := by decide +kernel
theorem dX12_check_54 : decode cX12_check 54 = .ok (.iaload, 1) := by decide +kernel
theorem dX12_check_55 : decode cX12_check 55 = .ok (.goto 6, 3) := by decide +kernel
theorem dX12_check_58 : decode cX12_check 58 = .ok (.sipush 255, 3) := by decide +kernel
theorem dX12_check_61 : decode cX12_check 61 = .ok (.if_icmp .eq 5, 3) := by decide +kernel
theorem dX12_check_64 : decode cX12_check 64 = .ok (.iload_n 2, 1) := by decide +kernel
theorem dX12_check_65 : decode cX12_check 65 = .ok (.ireturn, 1) := by decide +kernel
theorem dX12_check_66 : decode cX12_check 66 = .ok (.iinc 2 1, 3) := by decide +kernel
theorem dX12_check_69 : decode cX12_check 69 = .ok (.goto (-41), 3) := by decide +kernel
theorem dX12_check_72 : decode cX12_check 72 = .ok (.iconst (-1), 1) := by decide +kernel
theorem dX12_check_73 : decode cX12_check 73 = .ok (.ireturn, 1) := by decide +kernel
theorem dX12_richest_0 : decode cX12_richest 0 = .ok (.bipush (-2), 2) := by decide +kernel
theorem dX12_richest_2 : decode cX12_richest 2 = .ok (.istore_n 1, 1) := by decide +kernel
theorem dX12_richest_3 : decode cX12_richest 3 = .ok (.iconst 0, 1) := by decide +kernel
theorem dX12_richest_4 : decode cX12_richest 4 = .ok (.istore_n 2, 1) := by decide +kernel
theorem dX12_richest_5 : decode cX12_richest 5 = .ok (.iload_n 2, 1) := by decide +kernel
theorem dX12_richest_6 : decode cX12_richest 6 = .ok (.bipush 16, 2) := by decide +kernel
theorem dX12_richest_8 : decode cX12_richest 8 = .ok (.if_icmp .ge 46, 3) := by decide +kernel
theorem dX12_richest_11 : decode cX12_richest 11 = .ok (.aload_n 0, 1) := by decide +kernel
theorem dX12_richest_12 : decode cX12_richest 12 = .ok (.iload_n 2, 1) := by decide +kernel
theorem dX12_richest_13 : decode cX12_richest 13 = .ok (.invokevirtual 111, 3) := by decide +kernel
theorem dX12_richest_16 : decode cX12_richest 16 = .ok (.ifCond .eq 32, 3) := by decide +kernel
theorem dX12_richest_19 : decode cX12_richest 19 = .ok (.iload_n 1, 1) := by decide +kernel
theorem dX12_richest_20 : decode cX12_richest 20 = .ok (.bipush (-2), 2) := by decide +kernel
theorem dX12_richest_22 : decode cX12_richest 22 = .ok (.if_icmp .eq 24, 3) := by decide +kernel
theorem dX12_richest_25 : decode cX12_richest 25 = .ok (.aload_n 0, 1) := by decide +kernel
theorem dX12_richest_26 : decode cX12_richest 26 = .ok (.getfield 7, 3) := by decide +kernel
theorem dX12_richest_29 : decode cX12_richest 29 = .ok (.bipush 16, 2) := by decide +kernel
theorem dX12_richest_31 : decode cX12_richest 31 = .ok (.iload_n 2, 1) := by decide +kernel
theorem dX12_richest_32 : decode cX12_richest 32 = .ok (.iadd, 1) := by decide +kernel
theorem dX12_richest_33 : decode cX12_richest 33 = .ok (.iaload, 1) := by decide +kernel
theorem dX12_richest_34 : decode cX12_richest 34 = .ok (.aload_n 0, 1) := by decide +kernel
theorem dX12_richest_35 : decode cX12_richest 35 = .ok (.getfield 7, 3) := by decide +kernel
theorem dX12_richest_38 : decode cX12_richest 38 = .ok (.bipush 16, 2) := by decide +kernel
theorem dX12_richest_40 : decode cX12_richest 40 = .ok (.iload_n 1, 1) := by decide +kernel
theorem dX12_richest_41 : decode cX12_richest 41 = .ok (.iadd, 1) := by decide +kernel
theorem dX12_richest_42 : decode cX12_richest 42 = .ok (.iaload, 1) := by decide +kernel
theorem dX12_richest_43 : decode cX12_richest 43 = .ok (.if_icmp .le 5, 3) := by decide +kernel
theorem dX12_richest_46 : decode cX12_richest 46 = .ok (.iload_n 2, 1) := by decide +kernel
theorem dX12_richest_47 : decode cX12_richest 47 = .ok (.istore_n 1, 1) := by decide +kernel
theorem dX12_richest_48 : decode cX12_richest 48 = .ok (.iinc 2 1, 3) := by decide +kernel
theorem dX12_richest_51 : decode cX12_richest 51 = .ok (.goto (-46), 3) := by decide +kernel
theorem dX12_richest_54 : decode cX12_richest 54 = .ok (.iload_n 1, 1) := by decide +kernel
theorem dX12_richest_55 : decode cX12_richest 55 = .ok (.ireturn, 1) := by decide +kernel
theorem dX12_count_0 : decode cX12_count 0 = .ok (.iload_n 1, 1) := by decide +kernel
theorem dX12_count_1 : decode cX12_count 1 = .ok (.tableswitch 112 0 8 #[51, 60, 65, 70, 79, 88, 93, 98, 107], 51) := by decide +kernel
theorem dX12_count_52 : decode cX12_count 52 = .ok (.aload_n 0, 1) := by decide +kernel
theorem dX12_count_53 : decode cX12_count 53 = .ok (.getfield 7, 3) := by decide +kernel
theorem dX12_count_56 : decode cX12_count 56 = .ok (.sipush 210, 3) := by decide +kernel
theorem dX12_count_59 : decode cX12_count 59 = .ok (.iaload, 1) := by decide +kernel
theorem dX12_count_60 : decode cX12_count 60 = .ok (.ireturn, 1) := by decide +kernel
theorem dX12_count_61 : decode cX12_count 61 = .ok (.aload_n 0, 1) := by decide +kernel
theorem dX12_count_62 : decode cX12_count 62 = .ok (.invokevirtual 354, 3) := by decide +kernel
theorem dX12_count_65 : decode cX12_count 65 = .ok (.ireturn, 1) := by decide +kernel
theorem dX12_count_66 : decode cX12_count 66 = .ok (.aload_n 0, 1) := by decide +kernel
theorem dX12_count_67 : decode cX12_count 67 = .ok (.invokevirtual 334, 3) := by decide +kernel
theorem dX12_count_70 : decode cX12_count 70 = .ok (.ireturn, 1) := by decide +kernel
theorem dX12_count_71 : decode cX12_count 71 = .ok (.aload_n 0, 1) := by decide +kernel
theorem dX12_count_72 : decode cX12_count 72 = .ok (.getfield 7, 3) := by decide +kernel
theorem dX12_count_75 : decode cX12_count 75 = .ok (.sipush 209, 3) := by decide +kernel
theorem dX12_count_78 : decode cX12_count 78 = .ok (.iaload, 1) := by decide +kernel
theorem dX12_count_79 : decode cX12_count 79 = .ok (.ireturn, 1) := by decide +kernel
theorem dX12_count_80 : decode cX12_count 80 = .ok (.aload_n 0, 1) := by decide +kernel
theorem dX12_count_81 : decode cX12_count 81 = .ok (.getfield 7, 3) := by decide +kernel
theorem dX12_count_84 : decode cX12_count 84 = .ok (.sipush 208, 3) := by decide +kernel
theorem dX12_count_87 : decode cX12_count 87 = .ok (.iaload, 1) := by decide +kernel
theorem dX12_count_88 : decode cX12_count 88 = .ok (.ireturn, 1) := by decide +kernel
theorem dX12_count_89 : decode cX12_count 89 = .ok (.aload_n 0, 1) := by decide +kernel
theorem dX12_count_90 : decode cX12_count 90 = .ok (.getfield 222, 3) := by decide +kernel
theorem dX12_count_93 : decode cX12_count 93 = .ok (.ireturn, 1) := by decide +kernel
theorem dX12_count_94 : decode cX12_count 94 = .ok (.aload_n 0, 1) := by decide +kernel
theorem dX12_count_95 : decode cX12_count 95 = .ok (.getfield 120, 3) := by decide +kernel
theorem dX12_count_98 : decode cX12_count 98 = .ok (.ireturn, 1) := by decide +kernel
theorem dX12_count_99 : decode cX12_count 99 = .ok (.aload_n 0, 1) := by decide +kernel
theorem dX12_count_100 : decode cX12_count 100 = .ok (.getfield 7, 3) := by decide +kernel
theorem dX12_count_103 : decode cX12_count 103 = .ok (.sipush 211, 3) := by decide +kernel
theorem dX12_count_106 : decode cX12_count 106 = .ok (.iaload, 1) := by decide +kernel
theorem dX12_count_107 : decode cX12_count 107 = .ok (.ireturn, 1) := by decide +kernel
theorem dX12_count_108 : decode cX12_count 108 = .ok (.aload_n 0, 1) := by decide +kernel
theorem dX12_count_109 : decode cX12_count 109 = .ok (.invokevirtual 420, 3) := by decide +kernel
theorem dX12_count_112 : decode cX12_count 112 = .ok (.ireturn, 1) := by decide +kernel
theorem dX12_count_113 : decode cX12_count 113 = .ok (.iconst (-1), 1) := by decide +kernel
theorem dX12_count_114 : decode cX12_count 114 = .ok (.ireturn, 1) := by decide +kernel
def lp_X12_dueAfter_35 (F : Nat) (σ : jS) : Nat → Int32 → Int32 → Int32 → Int32 → Option Int32
  | 0, _, _, _, _ => none
  | n + 1, x1, x2, x3, x4 => (if x4 < x2 then (lt ((136 : Int32) + x1) fun y6 => (if jin y6 212 = true then (Option.bind (mX12_grownBy F x3 ((σ 1 y6.toNatClampNeg)) σ) fun q8 => (lt ((160 : Int32) + x1) fun y9 => (if jin y9 212 = true then (Option.bind (mX12_lessBy F q8 ((σ 1 y9.toNatClampNeg)) σ) fun q11 => (lp_X12_dueAfter_35 F σ n x1 x2 q11 ((x4 + (1 : Int32))))) else none))) else none)) else some x3)
set_option maxHeartbeats 4000000 in
set_option maxRecDepth 100000 in
theorem lp_X12_dueAfter_35_ok {G : jG} (C : jc cfM 33 G cX12_dueAfter RX12 5 (some .int) 2) (F : Nat) (σ : jS) {v : Int32} : ∀ (n : Nat) (x1 : Int32) (x2 : Int32) (x3 : Int32) (x4 : Int32), lp_X12_dueAfter_35 F σ n x1 x2 x3 x4 = some v → JM G 35 [(0, .ref (vad (gV G) 0)), (1, .int x1), (2, .int x2), (3, .int x3), (4, .int x4)] [] σ (v, σ) := by
  intro n
  induction n with
  | zero =>
    intro x1 x2 x3 x4 hm
    rw [lp_X12_dueAfter_35] at hm
    cases hm
  | succ n ih =>
    intro x1 x2 x3 x4 hm
    rw [lp_X12_dueAfter_35] at hm
    refine j_iload (pc := 35) C 4 dX12_dueAfter_35 rfl ?_
    refine j_iloadn (pc := 37) C 2 dX12_dueAfter_37 rfl rfl ?_
    refine j_icmp_ge (tgt := 75) (pc := 38) C dX12_dueAfter_38 (by decide) hm (fun _ hm => ?_) (fun _ hm => ?_)
    · refine j_iloadn (pc := 41) C 3 dX12_dueAfter_41 rfl rfl ?_
      refine j_aloadn (pc := 42) C 0 dX12_dueAfter_42 rfl rfl ?_
      refine gf_X12_7 (c := 0) (pc := 43) C km_0 dX12_dueAfter_43 ?_
      refine j_sipush (v := 136) (pc := 46) C dX12_dueAfter_46 (by decide) ?_
      refine j_iloadn (pc := 49) C 1 dX12_dueAfter_49 rfl rfl ?_
      refine j_iadd (pc := 50) C dX12_dueAfter_50 ?_
      refine j_lti hm (fun y6 hm => ?_)
      refine j_guard hm (fun hg7 hm => ?_)
      refine j_iald (c := 1) (n := 212) (pc := 51) C (kM_lt km_1 (by decide)) (cm_a km_1 lm_1 _) hg7 dX12_dueAfter_51 ?_
      obtain ⟨q8, hq8, hm⟩ := Option.bind_eq_some_iff.mp hm
      refine cl_X12_309 (pc := 52) C (kX12_grownBy hq8) (by decide) (Nat.le_of_ble_eq_true rfl) dX12_dueAfter_52 ?_
      refine j_aloadn (pc := 55) C 0 dX12_dueAfter_55 rfl rfl ?_
      refine gf_X12_7 (c := 0) (pc := 56) C km_0 dX12_dueAfter_56 ?_
      refine j_sipush (v := 160) (pc := 59) C dX12_dueAfter_59 (by decide) ?_
      refine j_iloadn (pc := 62) C 1 dX12_dueAfter_62 rfl rfl ?_
      refine j_iadd (pc := 63) C dX12_dueAfter_63 ?_
      refine j_lti hm (fun y9 hm => ?_)
      refine j_guard hm (fun hg10 hm => ?_)
      refine j_iald (c := 1) (n := 212) (pc := 64) C (kM_lt km_1 (by decide)) (cm_a km_1 lm_1 _) hg10 dX12_dueAfter_64 ?_
      obtain ⟨q11, hq11, hm⟩ := Option.bind_eq_some_iff.mp hm
      refine cl_X12_347 (pc := 65) C (kX12_lessBy hq11) (by decide) (Nat.le_of_ble_eq_true rfl) dX12_dueAfter_65 ?_
      refine j_istoren (ls' := [(3, .int q11), (0, .ref (vad (gV G) 0)), (1, .int x1), (2, .int x2), (4, .int x4)]) (pc := 68) C dX12_dueAfter_68 rfl (by decide) rfl ?_
      refine j_iinc (v := (x4 + (1 : Int32))) (ls' := [(4, .int (x4 + (1 : Int32))), (3, .int q11), (0, .ref (vad (gV G) 0)), (1, .int x1), (2, .int x2)]) (pc := 69) C 4 dX12_dueAfter_69 rfl rfl (by decide) rfl ?_
      refine j_goto (tgt := 35) (pc := 72) C dX12_dueAfter_72 (by decide) ?_
      refine j_ls [2, 3, 4, 1, 0] rfl ?_
      exact ih _ _ _ _ hm
    · refine j_iloadn (pc := 75) C 3 dX12_dueAfter_75 rfl rfl ?_
      exact j_iret (pc := 76) C rfl dX12_dueAfter_76 hm

def mX12_dueAfter (F : Nat) (x1 : Int32) (x2 : Int32) (σ : jS) : Option Int32 := (Option.bind (mX12_isLoan F x1 σ) fun q1 => (if q1 = 0 then some (-1 : Int32) else (Option.bind (mX12_in F x2 (0 : Int32) (3650 : Int32) σ) fun q2 => (if q2 = 0 then some (-1 : Int32) else (lt ((184 : Int32) + x1) fun y3 => (if jin y3 212 = true then (lt (σ 1 y3.toNatClampNeg) fun y5 => (lp_X12_dueAfter_35 F σ F x1 x2 y5 (0 : Int32))) else none))))))
set_option maxHeartbeats 4000000 in
set_option maxRecDepth 100000 in
theorem kX12_dueAfter {V : jV} {F : Nat} {x1 : Int32} {x2 : Int32} {σ : jS} {v : Int32} (hm : mX12_dueAfter F x1 x2 σ = some v) : Ct cfM 33 V yX12_dueAfter cX12_dueAfter 5 (some .int) 2 [.ref (vad V 0), .int x1, .int x2] σ (v, σ) := by
  refine j_start (own := RX12) (by decide) rfl (Nat.le_of_ble_eq_true rfl) ?_
  intro G hV C
  subst hV
  unfold mX12_dueAfter at hm
  show JM G 0 [(0, .ref (vad (gV G) 0)), (1, .int x1), (2, .int x2)] [] σ (v, σ)
  refine j_aloadn (pc := 0) C 0 dX12_dueAfter_0 rfl rfl ?_
  refine j_iloadn (pc := 1) C 1 dX12_dueAfter_1 rfl rfl ?_
  obtain ⟨q1, hq1, hm⟩ := Option.bind_eq_some_iff.mp hm
  refine cl_X12_327 (c := 0) (pc := 2) C km_0 (kX12_isLoan hq1) (by decide) (Nat.le_of_ble_eq_true rfl) dX12_dueAfter_2 ?_
  refine j_if_eq (tgt := 19) (pc := 5) C dX12_dueAfter_5 (by decide) hm (fun _ hm => ?_) (fun _ hm => ?_)
  · refine j_iconst (v := -1) (pc := 19) C dX12_dueAfter_19 (by decide) ?_
    exact j_iret (pc := 20) C rfl dX12_dueAfter_20 hm
  · refine j_iloadn (pc := 8) C 2 dX12_dueAfter_8 rfl rfl ?_
    refine j_iconst (v := 0) (pc := 9) C dX12_dueAfter_9 (by decide) ?_
    refine j_sipush (v := 3650) (pc := 10) C dX12_dueAfter_10 (by decide) ?_
    obtain ⟨q2, hq2, hm⟩ := Option.bind_eq_some_iff.mp hm
    refine cl_X12_107 (pc := 13) C (kX12_in hq2) (by decide) (Nat.le_of_ble_eq_true rfl) dX12_dueAfter_13 ?_
    refine j_if_ne (tgt := 21) (pc := 16) C dX12_dueAfter_16 (by decide) hm (fun _ hm => ?_) (fun _ hm => ?_)
    · refine j_iconst (v := -1) (pc := 19) C dX12_dueAfter_19 (by decide) ?_
      exact j_iret (pc := 20) C rfl dX12_dueAfter_20 hm
    · refine j_aloadn (pc := 21) C 0 dX12_dueAfter_21 rfl rfl ?_
      refine gf_X12_7 (c := 0) (pc := 22) C km_0 dX12_dueAfter_22 ?_
      refine j_sipush (v := 184) (pc := 25) C dX12_dueAfter_25 (by decide) ?_
      refine j_iloadn (pc := 28) C 1 dX12_dueAfter_28 rfl rfl ?_
      refine j_iadd (pc := 29) C dX12_dueAfter_29 ?_
      refine j_lti hm (fun y3 hm => ?_)
      refine j_guard hm (fun hg4 hm => ?_)
      refine j_iald (c := 1) (n := 212) (pc := 30) C (kM_lt km_1 (by decide)) (cm_a km_1 lm_1 _) hg4 dX12_dueAfter_30 ?_
      refine j_lti hm (fun y5 hm => ?_)
      refine j_istoren (ls' := [(3, .int y5), (0, .ref (vad (gV G) 0)), (1, .int x1), (2, .int x2)]) (pc := 31) C dX12_dueAfter_31 rfl (by decide) rfl ?_
      refine j_iconst (v := 0) (pc := 32) C dX12_dueAfter_32 (by decide) ?_
      refine j_istore (ls' := [(4, .int (0 : Int32)), (3, .int y5), (0, .ref (vad (gV G) 0)), (1, .int x1), (2, .int x2)]) (pc := 33) C dX12_dueAfter_33 (by decide) rfl ?_
      refine j_ls [2, 3, 4, 1, 0] rfl ?_
      exact lp_X12_dueAfter_35_ok C F σ  F _ _ _ _ hm

def lp_X12_doingAs_15 (F : Nat) (σ : jS) (k70 : Int32 → Int32 → Int32 → Int32 → Option Int32) : Nat → Int32 → Int32 → Int32 → Int32 → Int32 → Option Int32
  | 0, _, _, _, _, _ => none
  | n + 1, x1, x2, x3, x4, x5 => (if x5 < (16 : Int32) then (Option.bind (mX12_has F x1 x4 σ) fun q1 => (if q1 = 0 then (lp_X12_doingAs_15 F σ k70 n x1 x2 x3 x4 ((x5 + (1 : Int32)))) else (Option.bind (mX12_isLiving F x5 σ) fun q2 => (if q2 = 0 then (lp_X12_doingAs_15 F σ k70 n x1 x2 x3 x4 ((x5 + (1 : Int32)))) else (Option.bind (mX12_doing F x4 x2 σ) fun q3 => (Option.bind (mX12_doing F x5 x2 σ) fun q4 => (if q3 = q4 then (lt (x3 ||| ((1 : Int32) <<< (x5 &&& 31))) fun y5 => (lp_X12_doingAs_15 F σ k70 n x1 x2 y5 x4 ((x5 + (1 : Int32))))) else (lp_X12_doingAs_15 F σ k70 n x1 x2 x3 x4 ((x5 + (1 : Int32))))))))))) else (k70 x1 x2 x3 x4))
set_option maxHeartbeats 4000000 in
set_option maxRecDepth 100000 in
theorem lp_X12_doingAs_15_ok {G : jG} (C : jc cfM 33 G cX12_doingAs RX12 6 (some .int) 3) (F : Nat) (σ : jS) {v : Int32} (k70 : Int32 → Int32 → Int32 → Int32 → Option Int32) (hk70 : ∀ (x1 : Int32) (x2 : Int32) (x3 : Int32) (x4 : Int32), k70 x1 x2 x3 x4 = some v → JM G 70 [(0, .ref (vad (gV G) 0)), (1, .int x1), (2, .int x2), (3, .int x3), (4, .int x4)] [] σ (v, σ)) : ∀ (n : Nat) (x1 : Int32) (x2 : Int32) (x3 : Int32) (x4 : Int32) (x5 : Int32), lp_X12_doingAs_15 F σ k70 n x1 x2 x3 x4 x5 = some v → JM G 15 [(0, .ref (vad (gV G) 0)), (1, .int x1), (2, .int x2), (3, .int x3), (4, .int x4), (5, .int x5)] [] σ (v, σ) := by
  intro n
  induction n with
  | zero =>
    intro x1 x2 x3 x4 x5 hm
    rw [lp_X12_doingAs_15] at hm
    cases hm
  | succ n ih =>
    intro x1 x2 x3 x4 x5 hm
    rw [lp_X12_doingAs_15] at hm
    refine j_iload (pc := 15) C 5 dX12_doingAs_15 rfl ?_
    refine j_bipush (v := 16) (pc := 17) C dX12_doingAs_17 (by decide) ?_
    refine j_icmp_ge (tgt := 70) (pc := 19) C dX12_doingAs_19 (by decide) hm (fun _ hm => ?_) (fun _ hm => ?_)
    · refine j_iloadn (pc := 22) C 1 dX12_doingAs_22 rfl rfl ?_
      refine j_iload (pc := 23) C 4 dX12_doingAs_23 rfl ?_
      obtain ⟨q1, hq1, hm⟩ := Option.bind_eq_some_iff.mp hm
      refine cl_X12_350 (pc := 25) C (kX12_has hq1) (by decide) (Nat.le_of_ble_eq_true rfl) dX12_doingAs_25 ?_
      refine j_if_eq (tgt := 64) (pc := 28) C dX12_doingAs_28 (by decide) hm (fun _ hm => ?_) (fun _ hm => ?_)
      · refine j_iinc (v := (x5 + (1 : Int32))) (ls' := [(5, .int (x5 + (1 : Int32))), (0, .ref (vad (gV G) 0)), (1, .int x1), (2, .int x2), (3, .int x3), (4, .int x4)]) (pc := 64) C 5 dX12_doingAs_64 rfl rfl (by decide) rfl ?_
        refine j_goto (tgt := 15) (pc := 67) C dX12_doingAs_67 (by decide) ?_
        refine j_ls [1, 2, 3, 4, 5, 0] rfl ?_
        exact ih _ _ _ _ _ hm
      · refine j_aloadn (pc := 31) C 0 dX12_doingAs_31 rfl rfl ?_
        refine j_iload (pc := 32) C 5 dX12_doingAs_32 rfl ?_
        obtain ⟨q2, hq2, hm⟩ := Option.bind_eq_some_iff.mp hm
        refine cl_X12_115 (c := 0) (pc := 34) C km_0 (kX12_isLiving hq2) (by decide) (Nat.le_of_ble_eq_true rfl) dX12_doingAs_34 ?_
        refine j_if_eq (tgt := 64) (pc := 37) C dX12_doingAs_37 (by decide) hm (fun _ hm => ?_) (fun _ hm => ?_)
        · refine j_iinc (v := (x5 + (1 : Int32))) (ls' := [(5, .int (x5 + (1 : Int32))), (0, .ref (vad (gV G) 0)), (1, .int x1), (2, .int x2), (3, .int x3), (4, .int x4)]) (pc := 64) C 5 dX12_doingAs_64 rfl rfl (by decide) rfl ?_
          refine j_goto (tgt := 15) (pc := 67) C dX12_doingAs_67 (by decide) ?_
          refine j_ls [1, 2, 3, 4, 5, 0] rfl ?_
          exact ih _ _ _ _ _ hm
        · refine j_aloadn (pc := 40) C 0 dX12_doingAs_40 rfl rfl ?_
          refine j_iload (pc := 41) C 4 dX12_doingAs_41 rfl ?_
          refine j_iloadn (pc := 43) C 2 dX12_doingAs_43 rfl rfl ?_
          obtain ⟨q3, hq3, hm⟩ := Option.bind_eq_some_iff.mp hm
          refine cl_X12_275 (c := 0) (pc := 44) C km_0 (kX12_doing hq3) (by decide) (Nat.le_of_ble_eq_true rfl) dX12_doingAs_44 ?_
          refine j_aloadn (pc := 47) C 0 dX12_doingAs_47 rfl rfl ?_
          refine j_iload (pc := 48) C 5 dX12_doingAs_48 rfl ?_
          refine j_iloadn (pc := 50) C 2 dX12_doingAs_50 rfl rfl ?_
          obtain ⟨q4, hq4, hm⟩ := Option.bind_eq_some_iff.mp hm
          refine cl_X12_275 (c := 0) (pc := 51) C km_0 (kX12_doing hq4) (by decide) (Nat.le_of_ble_eq_true rfl) dX12_doingAs_51 ?_
          refine j_icmp_ne (tgt := 64) (pc := 54) C dX12_doingAs_54 (by decide) hm (fun _ hm => ?_) (fun _ hm => ?_)
          · refine j_iloadn (pc := 57) C 3 dX12_doingAs_57 rfl rfl ?_
            refine j_iconst (v := 1) (pc := 58) C dX12_doingAs_58 (by decide) ?_
            refine j_iload (pc := 59) C 5 dX12_doingAs_59 rfl ?_
            refine j_ishl (pc := 61) C dX12_doingAs_61 ?_
            refine j_ior (pc := 62) C dX12_doingAs_62 ?_
            refine j_lti hm (fun y5 hm => ?_)
            refine j_istoren (ls' := [(3, .int y5), (0, .ref (vad (gV G) 0)), (1, .int x1), (2, .int x2), (4, .int x4), (5, .int x5)]) (pc := 63) C dX12_doingAs_63 rfl (by decide) rfl ?_
            refine j_iinc (v := (x5 + (1 : Int32))) (ls' := [(5, .int (x5 + (1 : Int32))), (3, .int y5), (0, .ref (vad (gV G) 0)), (1, .int x1), (2, .int x2), (4, .int x4)]) (pc := 64) C 5 dX12_doingAs_64 rfl rfl (by decide) rfl ?_
            refine j_goto (tgt := 15) (pc := 67) C dX12_doingAs_67 (by decide) ?_
            refine j_ls [2, 3, 4, 1, 5, 0] rfl ?_
            exact ih _ _ _ _ _ hm
          · refine j_iinc (v := (x5 + (1 : Int32))) (ls' := [(5, .int (x5 + (1 : Int32))), (0, .ref (vad (gV G) 0)), (1, .int x1), (2, .int x2), (3, .int x3), (4, .int x4)]) (pc := 64) C 5 dX12_doingAs_64 rfl rfl (by decide) rfl ?_
            refine j_goto (tgt := 15) (pc := 67) C dX12_doingAs_67 (by decide) ?_
            refine j_ls [1, 2, 3, 4, 5, 0] rfl ?_
            exact ih _ _ _ _ _ hm
    · refine j_ls [0, 1, 2, 3, 4] rfl ?_
      exact hk70 _ _ _ _ hm

def lp_X12_doingAs_5 (F : Nat) (σ : jS) : Nat → Int32 → Int32 → Int32 → Int32 → Option Int32
  | 0, _, _, _, _ => none
  | n + 1, x1, x2, x3, x4 => (if x4 < (16 : Int32) then (lp_X12_doingAs_15 F σ (fun x1_6 x2_6 x3_6 x4_6 => (lp_X12_doingAs_5 F σ n x1_6 x2_6 x3_6 ((x4_6 + (1 : Int32))))) F x1 x2 x3 x4 (0 : Int32)) else some x3)
set_option maxHeartbeats 4000000 in
set_option maxRecDepth 100000 in
theorem lp_X12_doingAs_5_ok {G : jG} (C : jc cfM 33 G cX12_doingAs RX12 6 (some .int) 3) (F : Nat) (σ : jS) {v : Int32} : ∀ (n : Nat) (x1 : Int32) (x2 : Int32) (x3 : Int32) (x4 : Int32), lp_X12_doingAs_5 F σ n x1 x2 x3 x4 = some v → JM G 5 [(0, .ref (vad (gV G) 0)), (1, .int x1), (2, .int x2), (3, .int x3), (4, .int x4)] [] σ (v, σ) := by
  intro n
  induction n with
  | zero =>
    intro x1 x2 x3 x4 hm
    rw [lp_X12_doingAs_5] at hm
    cases hm
  | succ n ih =>
    intro x1 x2 x3 x4 hm
    rw [lp_X12_doingAs_5] at hm
    refine j_iload (pc := 5) C 4 dX12_doingAs_5 rfl ?_
    refine j_bipush (v := 16) (pc := 7) C dX12_doingAs_7 (by decide) ?_
    refine j_icmp_ge (tgt := 76) (pc := 9) C dX12_doingAs_9 (by decide) hm (fun _ hm => ?_) (fun _ hm => ?_)
    · refine j_iconst (v := 0) (pc := 12) C dX12_doingAs_12 (by decide) ?_
      refine j_istore (ls' := [(5, .int (0 : Int32)), (0, .ref (vad (gV G) 0)), (1, .int x1), (2, .int x2), (3, .int x3), (4, .int x4)]) (pc := 13) C dX12_doingAs_13 (by decide) rfl ?_
      refine j_ls [1, 2, 3, 4, 5, 0] rfl ?_
      refine lp_X12_doingAs_15_ok C F σ _ (fun x1_6 x2_6 x3_6 x4_6 hm => ?_) F _ _ _ _ _ hm
      refine j_iinc (v := (x4_6 + (1 : Int32))) (ls' := [(4, .int (x4_6 + (1 : Int32))), (0, .ref (vad (gV G) 0)), (1, .int x1_6), (2, .int x2_6), (3, .int x3_6)]) (pc := 70) C 4 dX12_doingAs_70 rfl rfl (by decide) rfl ?_
      refine j_goto (tgt := 5) (pc := 73) C dX12_doingAs_73 (by decide) ?_
      refine j_ls [1, 2, 3, 4, 0] rfl ?_
      exact ih _ _ _ _ hm
    · refine j_iloadn (pc := 76) C 3 dX12_doingAs_76 rfl rfl ?_
      exact j_iret (pc := 77) C rfl dX12_doingAs_77 hm

def mX12_doingAs (F : Nat) (x1 : Int32) (x2 : Int32) (σ : jS) : Option Int32 := (lp_X12_doingAs_5 F σ F x1 x2 x1 (0 : Int32))
set_option maxHeartbeats 4000000 in
set_option maxRecDepth 100000 in
theorem kX12_doingAs {V : jV} {F : Nat} {x1 : Int32} {x2 : Int32} {σ : jS} {v : Int32} (hm : mX12_doingAs F x1 x2 σ = some v) : Ct cfM 33 V yX12_doingAs cX12_doingAs 6 (some .int) 3 [.ref (vad V 0), .int x1, .int x2] σ (v, σ) := by
  refine j_start (own := RX12) (by decide) rfl (Nat.le_of_ble_eq_true rfl) ?_
  intro G hV C
  subst hV
  unfold mX12_doingAs at hm
  show JM G 0 [(0, .ref (vad (gV G) 0)), (1, .int x1), (2, .int x2)] [] σ (v, σ)
  refine j_iloadn (pc := 0) C 1 dX12_doingAs_0 rfl rfl ?_
  refine j_istoren (ls' := [(3, .int x1), (0, .ref (vad (gV G) 0)), (1, .int x1), (2, .int x2)]) (pc := 1) C dX12_doingAs_1 rfl (by decide) rfl ?_
  refine j_iconst (v := 0) (pc := 2) C dX12_doingAs_2 (by decide) ?_
  refine j_istore (ls' := [(4, .int (0 : Int32)), (3, .int x1), (0, .ref (vad (gV G) 0)), (1, .int x1), (2, .int x2)]) (pc := 3) C dX12_doingAs_3 (by decide) rfl ?_
  refine j_ls [2, 3, 4, 1, 0] rfl ?_
  exact lp_X12_doingAs_5_ok C F σ  F _ _ _ _ hm

def lp_X12_hiccups_46 (F : Nat) (σ : jS) : Nat → Int32 → Int32 → Int32 → Int32 → Option Int32
  | 0, _, _, _, _ => none
  | n + 1, x2, x3, x4, x5 => (if x5 < (x4 + (48 : Int32)) then (Option.bind (mX12_doingAs F x3 ((irm x5 (24 : Int32))) σ) fun q6 => (if q6 = x3 then (lp_X12_hiccups_46 F σ n x2 q6 x4 ((x5 + (1 : Int32)))) else (lt (x5 + (1 : Int32)) fun y7 => (lp_X12_hiccups_46 F σ n x2 q6 y7 ((x5 + (1 : Int32))))))) else (if x2 = 0 then some x3 else some x4))
set_option maxHeartbeats 4000000 in
set_option maxRecDepth 100000 in
theorem lp_X12_hiccups_46_ok {G : jG} (C : jc cfM 33 G cX12_hiccups RX12 7 (some .int) 4) (F : Nat) (σ : jS) {v : Int32} : ∀ (n : Nat) (x2 : Int32) (x3 : Int32) (x4 : Int32) (x5 : Int32), lp_X12_hiccups_46 F σ n x2 x3 x4 x5 = some v → JM G 46 [(0, .ref (vad (gV G) 0)), (2, .int x2), (3, .int x3), (4, .int x4), (5, .int x5)] [] σ (v, σ) := by
  intro n
  induction n with
  | zero =>
    intro x2 x3 x4 x5 hm
    rw [lp_X12_hiccups_46] at hm
    cases hm
  | succ n ih =>
    intro x2 x3 x4 x5 hm
    rw [lp_X12_hiccups_46] at hm
    refine j_iload (pc := 46) C 4 dX12_hiccups_46 rfl ?_
    refine j_iload (pc := 48) C 3 dX12_hiccups_48 rfl ?_
    refine j_bipush (v := 48) (pc := 50) C dX12_hiccups_50 (by decide) ?_
    refine j_iadd (pc := 52) C dX12_hiccups_52 ?_
    refine j_icmp_ge (tgt := 89) (pc := 53) C dX12_hiccups_53 (by decide) hm (fun _ hm => ?_) (fun _ hm => ?_)
    · refine j_aloadn (pc := 56) C 0 dX12_hiccups_56 rfl rfl ?_
      refine j_iloadn (pc := 57) C 2 dX12_hiccups_57 rfl rfl ?_
      refine j_iload (pc := 58) C 4 dX12_hiccups_58 rfl ?_
      refine j_bipush (v := 24) (pc := 60) C dX12_hiccups_60 (by decide) ?_
      refine j_iremK (pc := 62) C dX12_hiccups_62 (by decide) ?_
      obtain ⟨q6, hq6, hm⟩ := Option.bind_eq_some_iff.mp hm
      refine cl_X12_357 (c := 0) (pc := 63) C km_0 (kX12_doingAs hq6) (by decide) (Nat.le_of_ble_eq_true rfl) dX12_hiccups_63 ?_
      refine j_istore (ls' := [(6, .int q6), (0, .ref (vad (gV G) 0)), (2, .int x2), (3, .int x3), (4, .int x4), (5, .int x5)]) (pc := 66) C dX12_hiccups_66 (by decide) rfl ?_
      refine j_iload (pc := 68) C 0 dX12_hiccups_68 rfl ?_
      refine j_iloadn (pc := 70) C 3 dX12_hiccups_70 rfl rfl ?_
      refine j_icmp_eq (tgt := 80) (pc := 71) C dX12_hiccups_71 (by decide) hm (fun _ hm => ?_) (fun _ hm => ?_)
      · refine j_iload (pc := 80) C 0 dX12_hiccups_80 rfl ?_
        refine j_istoren (ls' := [(3, .int q6), (6, .int q6), (0, .ref (vad (gV G) 0)), (2, .int x2), (4, .int x4), (5, .int x5)]) (pc := 82) C dX12_hiccups_82 rfl (by decide) rfl ?_
        refine j_iinc (v := (x5 + (1 : Int32))) (ls' := [(5, .int (x5 + (1 : Int32))), (3, .int q6), (6, .int q6), (0, .ref (vad (gV G) 0)), (2, .int x2), (4, .int x4)]) (pc := 83) C 5 dX12_hiccups_83 rfl rfl (by decide) rfl ?_
        refine j_goto (tgt := 46) (pc := 86) C dX12_hiccups_86 (by decide) ?_
        refine j_ls [3, 4, 1, 5, 0] rfl ?_
        exact ih _ _ _ _ hm
      · refine j_iload (pc := 74) C 5 dX12_hiccups_74 rfl ?_
        refine j_iconst (v := 1) (pc := 76) C dX12_hiccups_76 (by decide) ?_
        refine j_iadd (pc := 77) C dX12_hiccups_77 ?_
        refine j_lti hm (fun y7 hm => ?_)
        refine j_istore (ls' := [(4, .int y7), (6, .int q6), (0, .ref (vad (gV G) 0)), (2, .int x2), (3, .int x3), (5, .int x5)]) (pc := 78) C dX12_hiccups_78 (by decide) rfl ?_
        refine j_iload (pc := 80) C 1 dX12_hiccups_80 rfl ?_
        refine j_istoren (ls' := [(3, .int q6), (4, .int y7), (6, .int q6), (0, .ref (vad (gV G) 0)), (2, .int x2), (5, .int x5)]) (pc := 82) C dX12_hiccups_82 rfl (by decide) rfl ?_
        refine j_iinc (v := (x5 + (1 : Int32))) (ls' := [(5, .int (x5 + (1 : Int32))), (3, .int q6), (4, .int y7), (6, .int q6), (0, .ref (vad (gV G) 0)), (2, .int x2)]) (pc := 83) C 5 dX12_hiccups_83 rfl rfl (by decide) rfl ?_
        refine j_goto (tgt := 46) (pc := 86) C dX12_hiccups_86 (by decide) ?_
        refine j_ls [4, 5, 1, 2, 0] rfl ?_
        exact ih _ _ _ _ hm
    · refine j_iloadn (pc := 89) C 1 dX12_hiccups_89 rfl rfl ?_
      refine j_if_ne (tgt := 97) (pc := 90) C dX12_hiccups_90 (by decide) hm (fun _ hm => ?_) (fun _ hm => ?_)
      · refine j_iloadn (pc := 93) C 2 dX12_hiccups_93 rfl rfl ?_
        refine j_goto (tgt := 99) (pc := 94) C dX12_hiccups_94 (by decide) ?_
        exact j_iret (pc := 99) C rfl dX12_hiccups_99 hm
      · refine j_iload (pc := 97) C 3 dX12_hiccups_97 rfl ?_
        exact j_iret (pc := 99) C rfl dX12_hiccups_99 hm

def mX12_hiccups (F : Nat) (x1 : Int32) (x2 : Int32) (σ : jS) : Option Int32 := (Option.bind (mX12_in F x1 (0 : Int32) (65535 : Int32) σ) fun q1 => (if q1 = 0 then some (-1 : Int32) else (Option.bind (mX12_toldSet F σ) fun q2 => (if (x1 &&& (q2 ^^^ (-1 : Int32))) = 0 then (Option.bind (mX12_in F x2 (0 : Int32) (1 : Int32) σ) fun q3 => (if q3 = 0 then some (-1 : Int32) else (Option.bind (mX12_livingSet F σ) fun q4 => (lt (x1 &&& q4) fun y5 => (lp_X12_hiccups_46 F σ F x2 y5 (0 : Int32) (0 : Int32)))))) else some (-1 : Int32)))))
set_option maxHeartbeats 4000000 in
set_option maxRecDepth 100000 in
theorem kX12_hiccups {V : jV} {F : Nat} {x1 : Int32} {x2 : Int32} {σ : jS} {v : Int32} (hm : mX12_hiccups F x1 x2 σ = some v) : Ct cfM 33 V yX12_hiccups cX12_hiccups 7 (some .int) 4 [.ref (vad V 0), .int x1, .int x2] σ (v, σ) := by
  refine j_start (own := RX12) (by decide) rfl (Nat.le_of_ble_eq_true rfl) ?_
  intro G hV C
  subst hV
  unfold mX12_hiccups at hm
  show JM G 0 [(0, .ref (vad (gV G) 0)), (1, .int x1), (2, .int x2)] [] σ (v, σ)
  refine j_iloadn (pc := 0) C 1 dX12_hiccups_0 rfl rfl ?_
  refine j_iconst (v := 0) (pc := 1) C dX12_hiccups_1 (by decide) ?_
  refine j_ldcw (v := 65535) (pc := 2) C dX12_hiccups_2 tw_7_46 ?_
  obtain ⟨q1, hq1, hm⟩ := Option.bind_eq_some_iff.mp hm
  refine cl_X12_107 (pc := 5) C (kX12_in hq1) (by decide) (Nat.le_of_ble_eq_true rfl) dX12_hiccups_5 ?_
  refine j_if_eq (tgt := 31) (pc := 8) C dX12_hiccups_8 (by decide) hm (fun _ hm => ?_) (fun _ hm => ?_)
  · refine j_iconst (v := -1) (pc := 31) C dX12_hiccups_31 (by decide) ?_
    exact j_iret (pc := 32) C rfl dX12_hiccups_32 hm
  · refine j_iloadn (pc := 11) C 1 dX12_hiccups_11 rfl rfl ?_
    refine j_aloadn (pc := 12) C 0 dX12_hiccups_12 rfl rfl ?_
    obtain ⟨q2, hq2, hm⟩ := Option.bind_eq_some_iff.mp hm
    refine cl_X12_354 (c := 0) (pc := 13) C km_0 (kX12_toldSet hq2) (by decide) (Nat.le_of_ble_eq_true rfl) dX12_hiccups_13 ?_
    refine j_iconst (v := -1) (pc := 16) C dX12_hiccups_16 (by decide) ?_
    refine j_ixor (pc := 17) C dX12_hiccups_17 ?_
    refine j_iand (pc := 18) C dX12_hiccups_18 ?_
    refine j_if_ne (tgt := 31) (pc := 19) C dX12_hiccups_19 (by decide) hm (fun _ hm => ?_) (fun _ hm => ?_)
    · refine j_iloadn (pc := 22) C 2 dX12_hiccups_22 rfl rfl ?_
      refine j_iconst (v := 0) (pc := 23) C dX12_hiccups_23 (by decide) ?_
      refine j_iconst (v := 1) (pc := 24) C dX12_hiccups_24 (by decide) ?_
      obtain ⟨q3, hq3, hm⟩ := Option.bind_eq_some_iff.mp hm
      refine cl_X12_107 (pc := 25) C (kX12_in hq3) (by decide) (Nat.le_of_ble_eq_true rfl) dX12_hiccups_25 ?_
      refine j_if_ne (tgt := 33) (pc := 28) C dX12_hiccups_28 (by decide) hm (fun _ hm => ?_) (fun _ hm => ?_)
      · refine j_iconst (v := -1) (pc := 31) C dX12_hiccups_31 (by decide) ?_
        exact j_iret (pc := 32) C rfl dX12_hiccups_32 hm
      · refine j_iloadn (pc := 33) C 1 dX12_hiccups_33 rfl rfl ?_
        refine j_aloadn (pc := 34) C 0 dX12_hiccups_34 rfl rfl ?_
        obtain ⟨q4, hq4, hm⟩ := Option.bind_eq_some_iff.mp hm
        refine cl_X12_334 (c := 0) (pc := 35) C km_0 (kX12_livingSet hq4) (by decide) (Nat.le_of_ble_eq_true rfl) dX12_hiccups_35 ?_
        refine j_iand (pc := 38) C dX12_hiccups_38 ?_
        refine j_lti hm (fun y5 hm => ?_)
        refine j_istoren (ls' := [(3, .int y5), (0, .ref (vad (gV G) 0)), (1, .int x1), (2, .int x2)]) (pc := 39) C dX12_hiccups_39 rfl (by decide) rfl ?_
        refine j_iconst (v := 0) (pc := 40) C dX12_hiccups_40 (by decide) ?_
        refine j_istore (ls' := [(4, .int (0 : Int32)), (3, .int y5), (0, .ref (vad (gV G) 0)), (1, .int x1), (2, .int x2)]) (pc := 41) C dX12_hiccups_41 (by decide) rfl ?_
        refine j_iconst (v := 0) (pc := 43) C dX12_hiccups_43 (by decide) ?_
        refine j_istore (ls' := [(5, .int (0 : Int32)), (4, .int (0 : Int32)), (3, .int y5), (0, .ref (vad (gV G) 0)), (1, .int x1), (2, .int x2)]) (pc := 44) C dX12_hiccups_44 (by decide) rfl ?_
        refine j_ls [3, 5, 2, 1, 0] rfl ?_
        exact lp_X12_hiccups_46_ok C F σ  F _ _ _ _ hm
    · refine j_iconst (v := -1) (pc := 31) C dX12_hiccups_31 (by decide) ?_
      exact j_iret (pc := 32) C rfl dX12_hiccups_32 hm

def mX12_left (F : Nat) (x1 : Int32) (σ : jS) : Option (Int32 × jS) := (Option.bind (mX12_isLiving F x1 σ) fun q1 => (if q1 = 0 then some ((-1 : Int32), σ) else (lt ((16 : Int32) + x1) fun y2 => (if jin y2 212 = true then (Option.bind (mX12_costsOfDay F x1 σ) fun q4 => (if q4.1 = 0 then none else some (((σ 1 y2.toNatClampNeg) / q4.1), q4.2))) else none))))
set_option maxHeartbeats 4000000 in
set_option maxRecDepth 100000 in
theorem kX12_left {V : jV} {F : Nat} {x1 : Int32} {σ : jS} {v : (Int32 × jS)} (hm : mX12_left F x1 σ = some v) : Ct cfM 33 V yX12_left cX12_left 2 (some .int) 6 [.ref (vad V 0), .int x1] σ v := by
  refine j_start (own := RX12) (by decide) rfl (Nat.le_of_ble_eq_true rfl) ?_
  intro G hV C
  subst hV
  unfold mX12_left at hm
  show JM G 0 [(0, .ref (vad (gV G) 0)), (1, .int x1)] [] σ v
  refine j_aloadn (pc := 0) C 0 dX12_left_0 rfl rfl ?_
  refine j_iloadn (pc := 1) C 1 dX12_left_1 rfl rfl ?_
  obtain ⟨q1, hq1, hm⟩ := Option.bind_eq_some_iff.mp hm
  refine cl_X12_115 (c := 0) (pc := 2) C km_0 (kX12_isLiving hq1) (by decide) (Nat.le_of_ble_eq_true rfl) dX12_left_2 ?_
  refine j_if_eq (tgt := 26) (pc := 5) C dX12_left_5 (by decide) hm (fun _ hm => ?_) (fun _ hm => ?_)
  · refine j_iconst (v := -1) (pc := 26) C dX12_left_26 (by decide) ?_
    exact j_iretS (pc := 27) C rfl dX12_left_27 hm
  · refine j_aloadn (pc := 8) C 0 dX12_left_8 rfl rfl ?_
    refine gf_X12_7 (c := 0) (pc := 9) C km_0 dX12_left_9 ?_
    refine j_bipush (v := 16) (pc := 12) C dX12_left_12 (by decide) ?_
    refine j_iloadn (pc := 14) C 1 dX12_left_14 rfl rfl ?_
    refine j_iadd (pc := 15) C dX12_left_15 ?_
    refine j_lti hm (fun y2 hm => ?_)
    refine j_guard hm (fun hg3 hm => ?_)
    refine j_iald (c := 1) (n := 212) (pc := 16) C (kM_lt km_1 (by decide)) (cm_a km_1 lm_1 _) hg3 dX12_left_16 ?_
    refine j_aloadn (pc := 17) C 0 dX12_left_17 rfl rfl ?_
    refine j_iloadn (pc := 18) C 1 dX12_left_18 rfl rfl ?_
    obtain ⟨q4, hq4, hm⟩ := Option.bind_eq_some_iff.mp hm
    refine cl_X12_344 (c := 0) (pc := 19) C km_0 (kX12_costsOfDay hq4) (by decide) (Nat.le_of_ble_eq_true rfl) dX12_left_19 ?_
    refine j_idiv (pc := 22) C dX12_left_22 hm (fun hm => ?_)
    refine j_goto (tgt := 27) (pc := 23) C dX12_left_23 (by decide) ?_
    exact j_iretS (pc := 27) C rfl dX12_left_27 hm

def lp_X12_longest_5 (F : Nat) : Nat → Int32 → Int32 → jS → Option (Int32 × jS)
  | 0, _, _, _ => none
  | n + 1, x1, x2, σ => (if x2 < (16 : Int32) then (Option.bind (mX12_isLiving F x2 σ) fun q1 => (if q1 = 0 then (lp_X12_longest_5 F n x1 ((x2 + (1 : Int32))) σ) else (if x1 = (-2 : Int32) then (lp_X12_longest_5 F n x2 ((x2 + (1 : Int32))) σ) else (Option.bind (mX12_left F x2 σ) fun q2 => (Option.bind (mX12_left F x1 q2.2) fun q3 => (if q3.1 < q2.1 then (lp_X12_longest_5 F n x2 ((x2 + (1 : Int32))) q3.2) else (lp_X12_longest_5 F n x1 ((x2 + (1 : Int32))) q3.2))))))) else some (x1, σ))
set_option maxHeartbeats 4000000 in
set_option maxRecDepth 100000 in
theorem lp_X12_longest_5_ok {G : jG} (C : jc cfM 33 G cX12_longest RX12 3 (some .int) 7) (F : Nat) {v : (Int32 × jS)} : ∀ (n : Nat) (x1 : Int32) (x2 : Int32) (σ : jS), lp_X12_longest_5 F n x1 x2 σ = some v → JM G 5 [(0, .ref (vad (gV G) 0)), (1, .int x1), (2, .int x2)] [] σ v := by
  intro n
  induction n with
  | zero =>
    intro x1 x2 σ hm
    rw [lp_X12_longest_5] at hm
    cases hm
  | succ n ih =>
    intro x1 x2 σ hm
    rw [lp_X12_longest_5] at hm
    refine j_iloadn (pc := 5) C 2 dX12_longest_5 rfl rfl ?_
    refine j_bipush (v := 16) (pc := 6) C dX12_longest_6 (by decide) ?_
    refine j_icmp_ge (tgt := 46) (pc := 8) C dX12_longest_8 (by decide) hm (fun _ hm => ?_) (fun _ hm => ?_)
    · refine j_aloadn (pc := 11) C 0 dX12_longest_11 rfl rfl ?_
      refine j_iloadn (pc := 12) C 2 dX12_longest_12 rfl rfl ?_
      obtain ⟨q1, hq1, hm⟩ := Option.bind_eq_some_iff.mp hm
      refine cl_X12_115 (c := 0) (pc := 13) C km_0 (kX12_isLiving hq1) (by decide) (Nat.le_of_ble_eq_true rfl) dX12_longest_13 ?_
      refine j_if_eq (tgt := 40) (pc := 16) C dX12_longest_16 (by decide) hm (fun _ hm => ?_) (fun _ hm => ?_)
      · refine j_iinc (v := (x2 + (1 : Int32))) (ls' := [(2, .int (x2 + (1 : Int32))), (0, .ref (vad (gV G) 0)), (1, .int x1)]) (pc := 40) C 2 dX12_longest_40 rfl rfl (by decide) rfl ?_
        refine j_goto (tgt := 5) (pc := 43) C dX12_longest_43 (by decide) ?_
        refine j_ls [1, 2, 0] rfl ?_
        exact ih _ _ _ hm
      · refine j_iloadn (pc := 19) C 1 dX12_longest_19 rfl rfl ?_
        refine j_bipush (v := -2) (pc := 20) C dX12_longest_20 (by decide) ?_
        refine j_icmp_eq (tgt := 38) (pc := 22) C dX12_longest_22 (by decide) hm (fun _ hm => ?_) (fun _ hm => ?_)
        · refine j_iloadn (pc := 38) C 2 dX12_longest_38 rfl rfl ?_
          refine j_istoren (ls' := [(1, .int x2), (0, .ref (vad (gV G) 0)), (2, .int x2)]) (pc := 39) C dX12_longest_39 rfl (by decide) rfl ?_
          refine j_iinc (v := (x2 + (1 : Int32))) (ls' := [(2, .int (x2 + (1 : Int32))), (1, .int x2), (0, .ref (vad (gV G) 0))]) (pc := 40) C 2 dX12_longest_40 rfl rfl (by decide) rfl ?_
          refine j_goto (tgt := 5) (pc := 43) C dX12_longest_43 (by decide) ?_
          refine j_ls [2, 1, 0] rfl ?_
          exact ih _ _ _ hm
        · refine j_aloadn (pc := 25) C 0 dX12_longest_25 rfl rfl ?_
          refine j_iloadn (pc := 26) C 2 dX12_longest_26 rfl rfl ?_
          obtain ⟨q2, hq2, hm⟩ := Option.bind_eq_some_iff.mp hm
          refine cl_X12_360 (c := 0) (pc := 27) C km_0 (kX12_left hq2) (by decide) (Nat.le_of_ble_eq_true rfl) dX12_longest_27 ?_
          refine j_aloadn (pc := 30) C 0 dX12_longest_30 rfl rfl ?_
          refine j_iloadn (pc := 31) C 1 dX12_longest_31 rfl rfl ?_
          obtain ⟨q3, hq3, hm⟩ := Option.bind_eq_some_iff.mp hm
          refine cl_X12_360 (c := 0) (pc := 32) C km_0 (kX12_left hq3) (by decide) (Nat.le_of_ble_eq_true rfl) dX12_longest_32 ?_
          refine j_icmp_le (tgt := 40) (pc := 35) C dX12_longest_35 (by decide) hm (fun _ hm => ?_) (fun _ hm => ?_)
          · refine j_iloadn (pc := 38) C 2 dX12_longest_38 rfl rfl ?_
            refine j_istoren (ls' := [(1, .int x2), (0, .ref (vad (gV G) 0)), (2, .int x2)]) (pc := 39) C dX12_longest_39 rfl (by decide) rfl ?_
            refine j_iinc (v := (x2 + (1 : Int32))) (ls' := [(2, .int (x2 + (1 : Int32))), (1, .int x2), (0, .ref (vad (gV G) 0))]) (pc := 40) C 2 dX12_longest_40 rfl rfl (by decide) rfl ?_
            refine j_goto (tgt := 5) (pc := 43) C dX12_longest_43 (by decide) ?_
            refine j_ls [2, 1, 0] rfl ?_
            exact ih _ _ _ hm
          · refine j_iinc (v := (x2 + (1 : Int32))) (ls' := [(2, .int (x2 + (1 : Int32))), (0, .ref (vad (gV G) 0)), (1, .int x1)]) (pc := 40) C 2 dX12_longest_40 rfl rfl (by decide) rfl ?_
            refine j_goto (tgt := 5) (pc := 43) C dX12_longest_43 (by decide) ?_
            refine j_ls [1, 2, 0] rfl ?_
            exact ih _ _ _ hm
    · refine j_iloadn (pc := 46) C 1 dX12_longest_46 rfl rfl ?_
      exact j_iretS (pc := 47) C rfl dX12_longest_47 hm

def mX12_longest (F : Nat) (σ : jS) : Option (Int32 × jS) := (lp_X12_longest_5 F F (-2 : Int32) (0 : Int32) σ)
set_option maxHeartbeats 4000000 in
set_option maxRecDepth 100000 in
theorem kX12_longest {V : jV} {F : Nat} {σ : jS} {v : (Int32 × jS)} (hm : mX12_longest F σ = some v) : Ct cfM 33 V yX12_longest cX12_longest 3 (some .int) 7 [.ref (vad V 0)] σ v := by
  refine j_start (own := RX12) (by decide) rfl (Nat.le_of_ble_eq_true rfl) ?_
  intro G hV C
  subst hV
  unfold mX12_longest at hm
  show JM G 0 [(0, .ref (vad (gV G) 0))] [] σ v
  refine j_bipush (v := -2) (pc := 0) C dX12_longest_0 (by decide) ?_
  refine j_istoren (ls' := [(1, .int (-2 : Int32)), (0, .ref (vad (gV G) 0))]) (pc := 2) C dX12_longest_2 rfl (by decide) rfl ?_
  refine j_iconst (v := 0) (pc := 3) C dX12_longest_3 (by decide) ?_
  refine j_istoren (ls' := [(2, .int (0 : Int32)), (1, .int (-2 : Int32)), (0, .ref (vad (gV G) 0))]) (pc := 4) C dX12_longest_4 rfl (by decide) rfl ?_
  refine j_ls [2, 1, 0] rfl ?_
  exact lp_X12_longest_5_ok C F  F _ _ _ hm

def lp_X12_costsOfAll_4 (F : Nat) : Nat → Int32 → Int32 → Int32 → jS → Option (Int32 × jS)
  | 0, _, _, _, _ => none
  | n + 1, x1, x2, x3, σ => (if x3 < (16 : Int32) then (Option.bind (mX12_isLiving F x3 σ) fun q1 => (if q1 = 0 then (lp_X12_costsOfAll_4 F n x1 x2 ((x3 + (1 : Int32))) σ) else (Option.bind (mX12_costsIn F x3 x1 σ) fun q2 => (lt (x2 + q2.1) fun y3 => (lp_X12_costsOfAll_4 F n x1 y3 ((x3 + (1 : Int32))) q2.2))))) else some (x2, σ))
set_option maxHeartbeats 4000000 in
set_option maxRecDepth 100000 in
theorem lp_X12_costsOfAll_4_ok {G : jG} (C : jc cfM 33 G cX12_costsOfAll RX12 4 (some .int) 5) (F : Nat) {v : (Int32 × jS)} : ∀ (n : Nat) (x1 : Int32) (x2 : Int32) (x3 : Int32) (σ : jS), lp_X12_costsOfAll_4 F n x1 x2 x3 σ = some v → JM G 4 [(0, .ref (vad (gV G) 0)), (1, .int x1), (2, .int x2), (3, .int x3)] [] σ v := by
  intro n
  induction n with
  | zero =>
    intro x1 x2 x3 σ hm
    rw [lp_X12_costsOfAll_4] at hm
    cases hm
  | succ n ih =>
    intro x1 x2 x3 σ hm
    rw [lp_X12_costsOfAll_4] at hm
    refine j_iloadn (pc := 4) C 3 dX12_costsOfAll_4 rfl rfl ?_
    refine j_bipush (v := 16) (pc := 5) C dX12_costsOfAll_5 (by decide) ?_
    refine j_icmp_ge (tgt := 33) (pc := 7) C dX12_costsOfAll_7 (by decide) hm (fun _ hm => ?_) (fun _ hm => ?_)
    · refine j_aloadn (pc := 10) C 0 dX12_costsOfAll_10 rfl rfl ?_
      refine j_iloadn (pc := 11) C 3 dX12_costsOfAll_11 rfl rfl ?_
      obtain ⟨q1, hq1, hm⟩ := Option.bind_eq_some_iff.mp hm
      refine cl_X12_115 (c := 0) (pc := 12) C km_0 (kX12_isLiving hq1) (by decide) (Nat.le_of_ble_eq_true rfl) dX12_costsOfAll_12 ?_
      refine j_if_eq (tgt := 27) (pc := 15) C dX12_costsOfAll_15 (by decide) hm (fun _ hm => ?_) (fun _ hm => ?_)
      · refine j_iinc (v := (x3 + (1 : Int32))) (ls' := [(3, .int (x3 + (1 : Int32))), (0, .ref (vad (gV G) 0)), (1, .int x1), (2, .int x2)]) (pc := 27) C 3 dX12_costsOfAll_27 rfl rfl (by decide) rfl ?_
        refine j_goto (tgt := 4) (pc := 30) C dX12_costsOfAll_30 (by decide) ?_
        refine j_ls [1, 2, 3, 0] rfl ?_
        exact ih _ _ _ _ hm
      · refine j_iloadn (pc := 18) C 2 dX12_costsOfAll_18 rfl rfl ?_
        refine j_aloadn (pc := 19) C 0 dX12_costsOfAll_19 rfl rfl ?_
        refine j_iloadn (pc := 20) C 3 dX12_costsOfAll_20 rfl rfl ?_
        refine j_iloadn (pc := 21) C 1 dX12_costsOfAll_21 rfl rfl ?_
        obtain ⟨q2, hq2, hm⟩ := Option.bind_eq_some_iff.mp hm
        refine cl_X12_341 (c := 0) (pc := 22) C km_0 (kX12_costsIn hq2) (by decide) (Nat.le_of_ble_eq_true rfl) dX12_costsOfAll_22 ?_
        refine j_iadd (pc := 25) C dX12_costsOfAll_25 ?_
        refine j_lti hm (fun y3 hm => ?_)
        refine j_istoren (ls' := [(2, .int y3), (0, .ref (vad (gV G) 0)), (1, .int x1), (3, .int x3)]) (pc := 26) C dX12_costsOfAll_26 rfl (by decide) rfl ?_
        refine j_iinc (v := (x3 + (1 : Int32))) (ls' := [(3, .int (x3 + (1 : Int32))), (2, .int y3), (0, .ref (vad (gV G) 0)), (1, .int x1)]) (pc := 27) C 3 dX12_costsOfAll_27 rfl rfl (by decide) rfl ?_
        refine j_goto (tgt := 4) (pc := 30) C dX12_costsOfAll_30 (by decide) ?_
        refine j_ls [2, 3, 1, 0] rfl ?_
        exact ih _ _ _ _ hm
    · refine j_iloadn (pc := 33) C 2 dX12_costsOfAll_33 rfl rfl ?_
      exact j_iretS (pc := 34) C rfl dX12_costsOfAll_34 hm

def mX12_costsOfAll (F : Nat) (x1 : Int32) (σ : jS) : Option (Int32 × jS) := (lp_X12_costsOfAll_4 F F x1 (0 : Int32) (0 : Int32) σ)
set_option maxHeartbeats 4000000 in
set_option maxRecDepth 100000 in
theorem kX12_costsOfAll {V : jV} {F : Nat} {x1 : Int32} {σ : jS} {v : (Int32 × jS)} (hm : mX12_costsOfAll F x1 σ = some v) : Ct cfM 33 V yX12_costsOfAll cX12_costsOfAll 4 (some .int) 5 [.ref (vad V 0), .int x1] σ v := by
  refine j_start (own := RX12) (by decide) rfl (Nat.le_of_ble_eq_true rfl) ?_
  intro G hV C
  subst hV
  unfold mX12_costsOfAll at hm
  show JM G 0 [(0, .ref (vad (gV G) 0)), (1, .int x1)] [] σ v
  refine j_iconst (v := 0) (pc := 0) C dX12_costsOfAll_0 (by decide) ?_
  refine j_istoren (ls' := [(2, .int (0 : Int32)), (0, .ref (vad (gV G) 0)), (1, .int x1)]) (pc := 1) C dX12_costsOfAll_1 rfl (by decide) rfl ?_
  refine j_iconst (v := 0) (pc := 2) C dX12_costsOfAll_2 (by decide) ?_
  refine j_istoren (ls' := [(3, .int (0 : Int32)), (2, .int (0 : Int32)), (0, .ref (vad (gV G) 0)), (1, .int x1)]) (pc := 3) C dX12_costsOfAll_3 rfl (by decide) rfl ?_
  refine j_ls [2, 3, 1, 0] rfl ?_
  exact lp_X12_costsOfAll_4_ok C F  F _ _ _ _ hm

def lp_X12_stillest_15 (F : Nat) (k42 : Int32 → Int32 → jS → Option (Int32 × jS)) : Nat → Int32 → Int32 → Int32 → jS → Option (Int32 × jS)
  | 0, _, _, _, _ => none
  | n + 1, x1, x2, x3, σ => (if x3 < (24 : Int32) then (Option.bind (mX12_costsOfAll F x3 σ) fun q2 => (Option.bind (mX12_costsOfAll F x2 q2.2) fun q3 => (if q2.1 < q3.1 then (lp_X12_stillest_15 F k42 n x1 x3 ((x3 + (1 : Int32))) q3.2) else (lp_X12_stillest_15 F k42 n x1 x2 ((x3 + (1 : Int32))) q3.2)))) else (k42 x1 x2 σ))
set_option maxHeartbeats 4000000 in
set_option maxRecDepth 100000 in
theorem lp_X12_stillest_15_ok {G : jG} (C : jc cfM 33 G cX12_stillest RX12 4 (some .int) 6) (F : Nat) {v : (Int32 × jS)} (k42 : Int32 → Int32 → jS → Option (Int32 × jS)) (hk42 : ∀ (x1 : Int32) (x2 : Int32) (σ : jS), k42 x1 x2 σ = some v → JM G 42 [(0, .ref (vad (gV G) 0)), (1, .int x1), (2, .int x2)] [] σ v) : ∀ (n : Nat) (x1 : Int32) (x2 : Int32) (x3 : Int32) (σ : jS), lp_X12_stillest_15 F k42 n x1 x2 x3 σ = some v → JM G 15 [(0, .ref (vad (gV G) 0)), (1, .int x1), (2, .int x2), (3, .int x3)] [] σ v := by
  intro n
  induction n with
  | zero =>
    intro x1 x2 x3 σ hm
    rw [lp_X12_stillest_15] at hm
    cases hm
  | succ n ih =>
    intro x1 x2 x3 σ hm
    rw [lp_X12_stillest_15] at hm
    refine j_iloadn (pc := 15) C 3 dX12_stillest_15 rfl rfl ?_
    refine j_bipush (v := 24) (pc := 16) C dX12_stillest_16 (by decide) ?_
    refine j_icmp_ge (tgt := 42) (pc := 18) C dX12_stillest_18 (by decide) hm (fun _ hm => ?_) (fun _ hm => ?_)
    · refine j_aloadn (pc := 21) C 0 dX12_stillest_21 rfl rfl ?_
      refine j_iloadn (pc := 22) C 3 dX12_stillest_22 rfl rfl ?_
      obtain ⟨q2, hq2, hm⟩ := Option.bind_eq_some_iff.mp hm
      refine cl_X12_363 (c := 0) (pc := 23) C km_0 (kX12_costsOfAll hq2) (by decide) (Nat.le_of_ble_eq_true rfl) dX12_stillest_23 ?_
      refine j_aloadn (pc := 26) C 0 dX12_stillest_26 rfl rfl ?_
      refine j_iloadn (pc := 27) C 2 dX12_stillest_27 rfl rfl ?_
      obtain ⟨q3, hq3, hm⟩ := Option.bind_eq_some_iff.mp hm
      refine cl_X12_363 (c := 0) (pc := 28) C km_0 (kX12_costsOfAll hq3) (by decide) (Nat.le_of_ble_eq_true rfl) dX12_stillest_28 ?_
      refine j_icmp_ge (tgt := 36) (pc := 31) C dX12_stillest_31 (by decide) hm (fun _ hm => ?_) (fun _ hm => ?_)
      · refine j_iloadn (pc := 34) C 3 dX12_stillest_34 rfl rfl ?_
        refine j_istoren (ls' := [(2, .int x3), (0, .ref (vad (gV G) 0)), (1, .int x1), (3, .int x3)]) (pc := 35) C dX12_stillest_35 rfl (by decide) rfl ?_
        refine j_iinc (v := (x3 + (1 : Int32))) (ls' := [(3, .int (x3 + (1 : Int32))), (2, .int x3), (0, .ref (vad (gV G) 0)), (1, .int x1)]) (pc := 36) C 3 dX12_stillest_36 rfl rfl (by decide) rfl ?_
        refine j_goto (tgt := 15) (pc := 39) C dX12_stillest_39 (by decide) ?_
        refine j_ls [2, 3, 1, 0] rfl ?_
        exact ih _ _ _ _ hm
      · refine j_iinc (v := (x3 + (1 : Int32))) (ls' := [(3, .int (x3 + (1 : Int32))), (0, .ref (vad (gV G) 0)), (1, .int x1), (2, .int x2)]) (pc := 36) C 3 dX12_stillest_36 rfl rfl (by decide) rfl ?_
        refine j_goto (tgt := 15) (pc := 39) C dX12_stillest_39 (by decide) ?_
        refine j_ls [1, 2, 3, 0] rfl ?_
        exact ih _ _ _ _ hm
    · refine j_ls [0, 1, 2] rfl ?_
      exact hk42 _ _ _ hm

def mX12_stillest (F : Nat) (x1 : Int32) (σ : jS) : Option (Int32 × jS) := (Option.bind (mX12_in F x1 (0 : Int32) (1 : Int32) σ) fun q1 => (if q1 = 0 then some ((-1 : Int32), σ) else (lp_X12_stillest_15 F (fun x1_4 x2_4 σ4 => (if x1_4 = 0 then some (x2_4, σ4) else (Option.bind (mX12_costsOfAll F x2_4 σ4) fun q5 => some (q5.1, q5.2)))) F x1 (0 : Int32) (1 : Int32) σ)))
set_option maxHeartbeats 4000000 in
set_option maxRecDepth 100000 in
theorem kX12_stillest {V : jV} {F : Nat} {x1 : Int32} {σ : jS} {v : (Int32 × jS)} (hm : mX12_stillest F x1 σ = some v) : Ct cfM 33 V yX12_stillest cX12_stillest 4 (some .int) 6 [.ref (vad V 0), .int x1] σ v := by
  refine j_start (own := RX12) (by decide) rfl (Nat.le_of_ble_eq_true rfl) ?_
  intro G hV C
  subst hV
  unfold mX12_stillest at hm
  show JM G 0 [(0, .ref (vad (gV G) 0)), (1, .int x1)] [] σ v
  refine j_iloadn (pc := 0) C 1 dX12_stillest_0 rfl rfl ?_
  refine j_iconst (v := 0) (pc := 1) C dX12_stillest_1 (by decide) ?_
  refine j_iconst (v := 1) (pc := 2) C dX12_stillest_2 (by decide) ?_
  obtain ⟨q1, hq1, hm⟩ := Option.bind_eq_some_iff.mp hm
  refine cl_X12_107 (pc := 3) C (kX12_in hq1) (by decide) (Nat.le_of_ble_eq_true rfl) dX12_stillest_3 ?_
  refine j_if_ne (tgt := 11) (pc := 6) C dX12_stillest_6 (by decide) hm (fun _ hm => ?_) (fun _ hm => ?_)
  · refine j_iconst (v := -1) (pc := 9) C dX12_stillest_9 (by decide) ?_
    exact j_iretS (pc := 10) C rfl dX12_stillest_10 hm
  · refine j_iconst (v := 0) (pc := 11) C dX12_stillest_11 (by decide) ?_
    refine j_istoren (ls' := [(2, .int (0 : Int32)), (0, .ref (vad (gV G) 0)), (1, .int x1)]) (pc := 12) C dX12_stillest_12 rfl (by decide) rfl ?_
    refine j_iconst (v := 1) (pc := 13) C dX12_stillest_13 (by decide) ?_
    refine j_istoren (ls' := [(3, .int (1 : Int32)), (2, .int (0 : Int32)), (0, .ref (vad (gV G) 0)), (1, .int x1)]) (pc := 14) C dX12_stillest_14 rfl (by decide) rfl ?_
    refine j_ls [2, 3, 1, 0] rfl ?_
    refine lp_X12_stillest_15_ok C F _ (fun x1_4 x2_4 σ4 hm => ?_) F _ _ _ _ hm
    refine j_iloadn (pc := 42) C 1 dX12_stillest_42 rfl rfl ?_
    refine j_if_ne (tgt := 50) (pc := 43) C dX12_stillest_43 (by decide) hm (fun _ hm => ?_) (fun _ hm => ?_)
    · refine j_iloadn (pc := 46) C 2 dX12_stillest_46 rfl rfl ?_
      refine j_goto (tgt := 55) (pc := 47) C dX12_stillest_47 (by decide) ?_
      exact j_iretS (pc := 55) C rfl dX12_stillest_55 hm
    · refine j_aloadn (pc := 50) C 0 dX12_stillest_50 rfl rfl ?_
      refine j_iloadn (pc := 51) C 2 dX12_stillest_51 rfl rfl ?_
      obtain ⟨q5, hq5, hm⟩ := Option.bind_eq_some_iff.mp hm
      refine cl_X12_363 (c := 0) (pc := 52) C km_0 (kX12_costsOfAll hq5) (by decide) (Nat.le_of_ble_eq_true rfl) dX12_stillest_52 ?_
      exact j_iretS (pc := 55) C rfl dX12_stillest_55 hm

def lp_X12_alikeBy_6 (F : Nat) (σ : jS) : Nat → Int32 → Int32 → Int32 → Int32 → Int32 → Option Int32
  | 0, _, _, _, _, _ => none
  | n + 1, x1, x2, x3, x4, x5 => (if x5 < (24 : Int32) then (Option.bind (mX12_doing F x1 x5 σ) fun q1 => (Option.bind (mX12_doing F x2 ((irm ((x5 - x3) + (24 : Int32)) (24 : Int32))) σ) fun q3 => (if q1 = q3 then (lt (x4 + (1 : Int32)) fun y4 => (lp_X12_alikeBy_6 F σ n x1 x2 x3 y4 ((x5 + (1 : Int32))))) else (lp_X12_alikeBy_6 F σ n x1 x2 x3 x4 ((x5 + (1 : Int32))))))) else some x4)
set_option maxHeartbeats 4000000 in
set_option maxRecDepth 100000 in
theorem lp_X12_alikeBy_6_ok {G : jG} (C : jc cfM 33 G cX12_alikeBy RX12 6 (some .int) 1) (F : Nat) (σ : jS) {v : Int32} : ∀ (n : Nat) (x1 : Int32) (x2 : Int32) (x3 : Int32) (x4 : Int32) (x5 : Int32), lp_X12_alikeBy_6 F σ n x1 x2 x3 x4 x5 = some v → JM G 6 [(0, .ref (vad (gV G) 0)), (1, .int x1), (2, .int x2), (3, .int x3), (4, .int x4), (5, .int x5)] [] σ (v, σ) := by
  intro n
  induction n with
  | zero =>
    intro x1 x2 x3 x4 x5 hm
    rw [lp_X12_alikeBy_6] at hm
    cases hm
  | succ n ih =>
    intro x1 x2 x3 x4 x5 hm
    rw [lp_X12_alikeBy_6] at hm
    refine j_iload (pc := 6) C 5 dX12_alikeBy_6 rfl ?_
    refine j_bipush (v := 24) (pc := 8) C dX12_alikeBy_8 (by decide) ?_
    refine j_icmp_ge (tgt := 50) (pc := 10) C dX12_alikeBy_10 (by decide) hm (fun _ hm => ?_) (fun _ hm => ?_)
    · refine j_aloadn (pc := 13) C 0 dX12_alikeBy_13 rfl rfl ?_
      refine j_iloadn (pc := 14) C 1 dX12_alikeBy_14 rfl rfl ?_
      refine j_iload (pc := 15) C 5 dX12_alikeBy_15 rfl ?_
      obtain ⟨q1, hq1, hm⟩ := Option.bind_eq_some_iff.mp hm
      refine cl_X12_275 (c := 0) (pc := 17) C km_0 (kX12_doing hq1) (by decide) (Nat.le_of_ble_eq_true rfl) dX12_alikeBy_17 ?_
      refine j_aloadn (pc := 20) C 0 dX12_alikeBy_20 rfl rfl ?_
      refine j_iloadn (pc := 21) C 2 dX12_alikeBy_21 rfl rfl ?_
      refine j_iload (pc := 22) C 5 dX12_alikeBy_22 rfl ?_
      refine j_iloadn (pc := 24) C 3 dX12_alikeBy_24 rfl rfl ?_
      refine j_isub (pc := 25) C dX12_alikeBy_25 ?_
      refine j_bipush (v := 24) (pc := 26) C dX12_alikeBy_26 (by decide) ?_
      refine j_iadd (pc := 28) C dX12_alikeBy_28 ?_
      refine j_bipush (v := 24) (pc := 29) C dX12_alikeBy_29 (by decide) ?_
      refine j_iremK (pc := 31) C dX12_alikeBy_31 (by decide) ?_
      obtain ⟨q3, hq3, hm⟩ := Option.bind_eq_some_iff.mp hm
      refine cl_X12_275 (c := 0) (pc := 32) C km_0 (kX12_doing hq3) (by decide) (Nat.le_of_ble_eq_true rfl) dX12_alikeBy_32 ?_
      refine j_icmp_ne (tgt := 44) (pc := 35) C dX12_alikeBy_35 (by decide) hm (fun _ hm => ?_) (fun _ hm => ?_)
      · refine j_iload (pc := 38) C 4 dX12_alikeBy_38 rfl ?_
        refine j_iconst (v := 1) (pc := 40) C dX12_alikeBy_40 (by decide) ?_
        refine j_iadd (pc := 41) C dX12_alikeBy_41 ?_
        refine j_lti hm (fun y4 hm => ?_)
        refine j_istore (ls' := [(4, .int y4), (0, .ref (vad (gV G) 0)), (1, .int x1), (2, .int x2), (3, .int x3), (5, .int x5)]) (pc := 42) C dX12_alikeBy_42 (by decide) rfl ?_
        refine j_iinc (v := (x5 + (1 : Int32))) (ls' := [(5, .int (x5 + (1 : Int32))), (4, .int y4), (0, .ref (vad (gV G) 0)), (1, .int x1), (2, .int x2), (3, .int x3)]) (pc := 44) C 5 dX12_alikeBy_44 rfl rfl (by decide) rfl ?_
        refine j_goto (tgt := 6) (pc := 47) C dX12_alikeBy_47 (by decide) ?_
        refine j_ls [2, 3, 4, 5, 1, 0] rfl ?_
        exact ih _ _ _ _ _ hm
      · refine j_iinc (v := (x5 + (1 : Int32))) (ls' := [(5, .int (x5 + (1 : Int32))), (0, .ref (vad (gV G) 0)), (1, .int x1), (2, .int x2), (3, .int x3), (4, .int x4)]) (pc := 44) C 5 dX12_alikeBy_44 rfl rfl (by decide) rfl ?_
        refine j_goto (tgt := 6) (pc := 47) C dX12_alikeBy_47 (by decide) ?_
        refine j_ls [1, 2, 3, 4, 5, 0] rfl ?_
        exact ih _ _ _ _ _ hm
    · refine j_iload (pc := 50) C 4 dX12_alikeBy_50 rfl ?_
      exact j_iret (pc := 52) C rfl dX12_alikeBy_52 hm

def mX12_alikeBy (F : Nat) (x1 : Int32) (x2 : Int32) (x3 : Int32) (σ : jS) : Option Int32 := (lp_X12_alikeBy_6 F σ F x1 x2 x3 (0 : Int32) (0 : Int32))
set_option maxHeartbeats 4000000 in
set_option maxRecDepth 100000 in
theorem kX12_alikeBy {V : jV} {F : Nat} {x1 : Int32} {x2 : Int32} {x3 : Int32} {σ : jS} {v : Int32} (hm : mX12_alikeBy F x1 x2 x3 σ = some v) : Ct cfM 33 V yX12_alikeBy cX12_alikeBy 6 (some .int) 1 [.ref (vad V 0), .int x1, .int x2, .int x3] σ (v, σ) := by
  refine j_start (own := RX12) (by decide) rfl (Nat.le_of_ble_eq_true rfl) ?_
  intro G hV C
  subst hV
  unfold mX12_alikeBy at hm
  show JM G 0 [(0, .ref (vad (gV G) 0)), (1, .int x1), (2, .int x2), (3, .int x3)] [] σ (v, σ)
  refine j_iconst (v := 0) (pc := 0) C dX12_alikeBy_0 (by decide) ?_
  refine j_istore (ls' := [(4, .int (0 : Int32)), (0, .ref (vad (gV G) 0)), (1, .int x1), (2, .int x2), (3, .int x3)]) (pc := 1) C dX12_alikeBy_1 (by decide) rfl ?_
  refine j_iconst (v := 0) (pc := 3) C dX12_alikeBy_3 (by decide) ?_
  refine j_istore (ls' := [(5, .int (0 : Int32)), (4, .int (0 : Int32)), (0, .ref (vad (gV G) 0)), (1, .int x1), (2, .int x2), (3, .int x3)]) (pc := 4) C dX12_alikeBy_4 (by decide) rfl ?_
  refine j_ls [2, 3, 4, 5, 1, 0] rfl ?_
  exact lp_X12_alikeBy_6_ok C F σ  F _ _ _ _ _ hm

def lp_X12_alike_50 (F : Nat) (σ : jS) (k86 : Int32 → Int32 → Int32 → Int32 → Option Int32) : Nat → Int32 → Int32 → Int32 → Int32 → Int32 → Option Int32
  | 0, _, _, _, _, _ => none
  | n + 1, x1, x2, x3, x4, x5 => (if x5 < (24 : Int32) then (Option.bind (mX12_alikeBy F x1 x2 x5 σ) fun q5 => (Option.bind (mX12_alikeBy F x1 x2 x4 σ) fun q6 => (if q6 < q5 then (lp_X12_alike_50 F σ k86 n x1 x2 x3 x5 ((x5 + (1 : Int32)))) else (lp_X12_alike_50 F σ k86 n x1 x2 x3 x4 ((x5 + (1 : Int32))))))) else (k86 x1 x2 x3 x4))
set_option maxHeartbeats 4000000 in
set_option maxRecDepth 100000 in
theorem lp_X12_alike_50_ok {G : jG} (C : jc cfM 33 G cX12_alike RX12 6 (some .int) 2) (F : Nat) (σ : jS) {v : Int32} (k86 : Int32 → Int32 → Int32 → Int32 → Option Int32) (hk86 : ∀ (x1 : Int32) (x2 : Int32) (x3 : Int32) (x4 : Int32), k86 x1 x2 x3 x4 = some v → JM G 86 [(0, .ref (vad (gV G) 0)), (1, .int x1), (2, .int x2), (3, .int x3), (4, .int x4)] [] σ (v, σ)) : ∀ (n : Nat) (x1 : Int32) (x2 : Int32) (x3 : Int32) (x4 : Int32) (x5 : Int32), lp_X12_alike_50 F σ k86 n x1 x2 x3 x4 x5 = some v → JM G 50 [(0, .ref (vad (gV G) 0)), (1, .int x1), (2, .int x2), (3, .int x3), (4, .int x4), (5, .int x5)] [] σ (v, σ) := by
  intro n
  induction n with
  | zero =>
    intro x1 x2 x3 x4 x5 hm
    rw [lp_X12_alike_50] at hm
    cases hm
  | succ n ih =>
    intro x1 x2 x3 x4 x5 hm
    rw [lp_X12_alike_50] at hm
    refine j_iload (pc := 50) C 5 dX12_alike_50 rfl ?_
    refine j_bipush (v := 24) (pc := 52) C dX12_alike_52 (by decide) ?_
    refine j_icmp_ge (tgt := 86) (pc := 54) C dX12_alike_54 (by decide) hm (fun _ hm => ?_) (fun _ hm => ?_)
    · refine j_aloadn (pc := 57) C 0 dX12_alike_57 rfl rfl ?_
      refine j_iloadn (pc := 58) C 1 dX12_alike_58 rfl rfl ?_
      refine j_iloadn (pc := 59) C 2 dX12_alike_59 rfl rfl ?_
      refine j_iload (pc := 60) C 5 dX12_alike_60 rfl ?_
      obtain ⟨q5, hq5, hm⟩ := Option.bind_eq_some_iff.mp hm
      refine cl_X12_366 (c := 0) (pc := 62) C km_0 (kX12_alikeBy hq5) (by decide) (Nat.le_of_ble_eq_true rfl) dX12_alike_62 ?_
      refine j_aloadn (pc := 65) C 0 dX12_alike_65 rfl rfl ?_
      refine j_iloadn (pc := 66) C 1 dX12_alike_66 rfl rfl ?_
      refine j_iloadn (pc := 67) C 2 dX12_alike_67 rfl rfl ?_
      refine j_iload (pc := 68) C 4 dX12_alike_68 rfl ?_
      obtain ⟨q6, hq6, hm⟩ := Option.bind_eq_some_iff.mp hm
      refine cl_X12_366 (c := 0) (pc := 70) C km_0 (kX12_alikeBy hq6) (by decide) (Nat.le_of_ble_eq_true rfl) dX12_alike_70 ?_
      refine j_icmp_le (tgt := 80) (pc := 73) C dX12_alike_73 (by decide) hm (fun _ hm => ?_) (fun _ hm => ?_)
      · refine j_iload (pc := 76) C 5 dX12_alike_76 rfl ?_
        refine j_istore (ls' := [(4, .int x5), (0, .ref (vad (gV G) 0)), (1, .int x1), (2, .int x2), (3, .int x3), (5, .int x5)]) (pc := 78) C dX12_alike_78 (by decide) rfl ?_
        refine j_iinc (v := (x5 + (1 : Int32))) (ls' := [(5, .int (x5 + (1 : Int32))), (4, .int x5), (0, .ref (vad (gV G) 0)), (1, .int x1), (2, .int x2), (3, .int x3)]) (pc := 80) C 5 dX12_alike_80 rfl rfl (by decide) rfl ?_
        refine j_goto (tgt := 50) (pc := 83) C dX12_alike_83 (by decide) ?_
        refine j_ls [2, 3, 4, 5, 1, 0] rfl ?_
        exact ih _ _ _ _ _ hm
      · refine j_iinc (v := (x5 + (1 : Int32))) (ls' := [(5, .int (x5 + (1 : Int32))), (0, .ref (vad (gV G) 0)), (1, .int x1), (2, .int x2), (3, .int x3), (4, .int x4)]) (pc := 80) C 5 dX12_alike_80 rfl rfl (by decide) rfl ?_
        refine j_goto (tgt := 50) (pc := 83) C dX12_alike_83 (by decide) ?_
        refine j_ls [1, 2, 3, 4, 5, 0] rfl ?_
        exact ih _ _ _ _ _ hm
    · refine j_ls [0, 1, 2, 3, 4] rfl ?_
      exact hk86 _ _ _ _ hm

def mX12_alike (F : Nat) (x1 : Int32) (x2 : Int32) (x3 : Int32) (σ : jS) : Option Int32 := (Option.bind (mX12_isTold F x1 σ) fun q1 => (if q1 = 0 then some (-1 : Int32) else (Option.bind (mX12_isTold F x2 σ) fun q2 => (if q2 = 0 then some (-1 : Int32) else (if x1 = x2 then some (-1 : Int32) else (Option.bind (mX12_in F x3 (0 : Int32) (2 : Int32) σ) fun q3 => (if q3 = 0 then some (-1 : Int32) else (if x3 = 0 then (Option.bind (mX12_alikeBy F x1 x2 (0 : Int32) σ) fun q4 => some q4) else (lp_X12_alike_50 F σ (fun x1_7 x2_7 x3_7 x4_7 => (if x3_7 = (1 : Int32) then some x4_7 else (Option.bind (mX12_alikeBy F x1_7 x2_7 x4_7 σ) fun q8 => some q8))) F x1 x2 x3 (0 : Int32) (1 : Int32))))))))))
set_option maxHeartbeats 4000000 in
set_option maxRecDepth 100000 in
theorem kX12_alike {V : jV} {F : Nat} {x1 : Int32} {x2 : Int32} {x3 : Int32} {σ : jS} {v : Int32} (hm : mX12_alike F x1 x2 x3 σ = some v) : Ct cfM 33 V yX12_alike cX12_alike 6 (some .int) 2 [.ref (vad V 0), .int x1, .int x2, .int x3] σ (v, σ) := by
  refine j_start (own := RX12) (by decide) rfl (Nat.le_of_ble_eq_true rfl) ?_
  intro G hV C
  subst hV
  unfold mX12_alike at hm
  show JM G 0 [(0, .ref (vad (gV G) 0)), (1, .int x1), (2, .int x2), (3, .int x3)] [] σ (v, σ)
  refine j_aloadn (pc := 0) C 0 dX12_alike_0 rfl rfl ?_
  refine j_iloadn (pc := 1) C 1 dX12_alike_1 rfl rfl ?_
  obtain ⟨q1, hq1, hm⟩ := Option.bind_eq_some_iff.mp hm
  refine cl_X12_111 (c := 0) (pc := 2) C km_0 (kX12_isTold hq1) (by decide) (Nat.le_of_ble_eq_true rfl) dX12_alike_2 ?_
  refine j_if_eq (tgt := 30) (pc := 5) C dX12_alike_5 (by decide) hm (fun _ hm => ?_) (fun _ hm => ?_)
  · refine j_iconst (v := -1) (pc := 30) C dX12_alike_30 (by decide) ?_
    exact j_iret (pc := 31) C rfl dX12_alike_31 hm
  · refine j_aloadn (pc := 8) C 0 dX12_alike_8 rfl rfl ?_
    refine j_iloadn (pc := 9) C 2 dX12_alike_9 rfl rfl ?_
    obtain ⟨q2, hq2, hm⟩ := Option.bind_eq_some_iff.mp hm
    refine cl_X12_111 (c := 0) (pc := 10) C km_0 (kX12_isTold hq2) (by decide) (Nat.le_of_ble_eq_true rfl) dX12_alike_10 ?_
    refine j_if_eq (tgt := 30) (pc := 13) C dX12_alike_13 (by decide) hm (fun _ hm => ?_) (fun _ hm => ?_)
    · refine j_iconst (v := -1) (pc := 30) C dX12_alike_30 (by decide) ?_
      exact j_iret (pc := 31) C rfl dX12_alike_31 hm
    · refine j_iloadn (pc := 16) C 1 dX12_alike_16 rfl rfl ?_
      refine j_iloadn (pc := 17) C 2 dX12_alike_17 rfl rfl ?_
      refine j_icmp_eq (tgt := 30) (pc := 18) C dX12_alike_18 (by decide) hm (fun _ hm => ?_) (fun _ hm => ?_)
      · refine j_iconst (v := -1) (pc := 30) C dX12_alike_30 (by decide) ?_
        exact j_iret (pc := 31) C rfl dX12_alike_31 hm
      · refine j_iloadn (pc := 21) C 3 dX12_alike_21 rfl rfl ?_
        refine j_iconst (v := 0) (pc := 22) C dX12_alike_22 (by decide) ?_
        refine j_iconst (v := 2) (pc := 23) C dX12_alike_23 (by decide) ?_
        obtain ⟨q3, hq3, hm⟩ := Option.bind_eq_some_iff.mp hm
        refine cl_X12_107 (pc := 24) C (kX12_in hq3) (by decide) (Nat.le_of_ble_eq_true rfl) dX12_alike_24 ?_
        refine j_if_ne (tgt := 32) (pc := 27) C dX12_alike_27 (by decide) hm (fun _ hm => ?_) (fun _ hm => ?_)
        · refine j_iconst (v := -1) (pc := 30) C dX12_alike_30 (by decide) ?_
          exact j_iret (pc := 31) C rfl dX12_alike_31 hm
        · refine j_iloadn (pc := 32) C 3 dX12_alike_32 rfl rfl ?_
          refine j_if_ne (tgt := 44) (pc := 33) C dX12_alike_33 (by decide) hm (fun _ hm => ?_) (fun _ hm => ?_)
          · refine j_aloadn (pc := 36) C 0 dX12_alike_36 rfl rfl ?_
            refine j_iloadn (pc := 37) C 1 dX12_alike_37 rfl rfl ?_
            refine j_iloadn (pc := 38) C 2 dX12_alike_38 rfl rfl ?_
            refine j_iconst (v := 0) (pc := 39) C dX12_alike_39 (by decide) ?_
            obtain ⟨q4, hq4, hm⟩ := Option.bind_eq_some_iff.mp hm
            refine cl_X12_366 (c := 0) (pc := 40) C km_0 (kX12_alikeBy hq4) (by decide) (Nat.le_of_ble_eq_true rfl) dX12_alike_40 ?_
            exact j_iret (pc := 43) C rfl dX12_alike_43 hm
          · refine j_iconst (v := 0) (pc := 44) C dX12_alike_44 (by decide) ?_
            refine j_istore (ls' := [(4, .int (0 : Int32)), (0, .ref (vad (gV G) 0)), (1, .int x1), (2, .int x2), (3, .int x3)]) (pc := 45) C dX12_alike_45 (by decide) rfl ?_
            refine j_iconst (v := 1) (pc := 47) C dX12_alike_47 (by decide) ?_
            refine j_istore (ls' := [(5, .int (1 : Int32)), (4, .int (0 : Int32)), (0, .ref (vad (gV G) 0)), (1, .int x1), (2, .int x2), (3, .int x3)]) (pc := 48) C dX12_alike_48 (by decide) rfl ?_
            refine j_ls [2, 3, 4, 5, 1, 0] rfl ?_
            refine lp_X12_alike_50_ok C F σ _ (fun x1_7 x2_7 x3_7 x4_7 hm => ?_) F _ _ _ _ _ hm
            refine j_iloadn (pc := 86) C 3 dX12_alike_86 rfl rfl ?_
            refine j_iconst (v := 1) (pc := 87) C dX12_alike_87 (by decide) ?_
            refine j_icmp_ne (tgt := 96) (pc := 88) C dX12_alike_88 (by decide) hm (fun _ hm => ?_) (fun _ hm => ?_)
            · refine j_iload (pc := 91) C 4 dX12_alike_91 rfl ?_
              refine j_goto (tgt := 104) (pc := 93) C dX12_alike_93 (by decide) ?_
              exact j_iret (pc := 104) C rfl dX12_alike_104 hm
            · refine j_aloadn (pc := 96) C 0 dX12_alike_96 rfl rfl ?_
              refine j_iloadn (pc := 97) C 1 dX12_alike_97 rfl rfl ?_
              refine j_iloadn (pc := 98) C 2 dX12_alike_98 rfl rfl ?_
              refine j_iload (pc := 99) C 4 dX12_alike_99 rfl ?_
              obtain ⟨q8, hq8, hm⟩ := Option.bind_eq_some_iff.mp hm
              refine cl_X12_366 (c := 0) (pc := 101) C km_0 (kX12_alikeBy hq8) (by decide) (Nat.le_of_ble_eq_true rfl) dX12_alike_101 ?_
              exact j_iret (pc := 104) C rfl dX12_alike_104 hm

def lp_X12_countsRing_4 (F : Nat) (k26 : Int32 → Int32 → jS → Option jS) : Nat → Int32 → Int32 → Int32 → jS → Option jS
  | 0, _, _, _, _ => none
  | n + 1, x1, x2, x3, σ => (if x3 < x1 then (if jin x3 16 = true then (lt (x2 ||| ((1 : Int32) <<< ((σ 25 x3.toNatClampNeg) &&& 31))) fun y2 => (lp_X12_countsRing_4 F k26 n x1 y2 ((x3 + (1 : Int32))) σ)) else none) else (k26 x1 x2 σ))
set_option maxHeartbeats 4000000 in
set_option maxRecDepth 100000 in
theorem lp_X12_countsRing_4_ok {G : jG} (C : jc cfM 33 G cX12_countsRing RX12 4 none 0) (F : Nat) {v : jS} (k26 : Int32 → Int32 → jS → Option jS) (hk26 : ∀ (x1 : Int32) (x2 : Int32) (σ : jS), k26 x1 x2 σ = some v → JM G 26 [(0, .ref (vad (gV G) 0)), (1, .int x1), (2, .int x2)] [] σ (0, v)) : ∀ (n : Nat) (x1 : Int32) (x2 : Int32) (x3 : Int32) (σ : jS), lp_X12_countsRing_4 F k26 n x1 x2 x3 σ = some v → JM G 4 [(0, .ref (vad (gV G) 0)), (1, .int x1), (2, .int x2), (3, .int x3)] [] σ (0, v) := by
  intro n
  induction n with
  | zero =>
    intro x1 x2 x3 σ hm
    rw [lp_X12_countsRing_4] at hm
    cases hm
  | succ n ih =>
    intro x1 x2 x3 σ hm
    rw [lp_X12_countsRing_4] at hm
    refine j_iloadn (pc := 4) C 3 dX12_countsRing_4 rfl rfl ?_
    refine j_iloadn (pc := 5) C 1 dX12_countsRing_5 rfl rfl ?_
    refine j_icmp_ge (tgt := 26) (pc := 6) C dX12_countsRing_6 (by decide) hm (fun _ hm => ?_) (fun _ hm => ?_)
    · refine j_iloadn (pc := 9) C 2 dX12_countsRing_9 rfl rfl ?_
      refine j_iconst (v := 1) (pc := 10) C dX12_countsRing_10 (by decide) ?_
      refine j_aloadn (pc := 11) C 0 dX12_countsRing_11 rfl rfl ?_
      refine gf_X12_83 (c := 0) (pc := 12) C km_0 dX12_countsRing_12 ?_
      refine j_iloadn (pc := 15) C 3 dX12_countsRing_15 rfl rfl ?_
      refine j_guard hm (fun hg1 hm => ?_)
      refine j_iald (c := 25) (n := 16) (pc := 16) C (kM_lt km_25 (by decide)) (cm_a km_25 lm_25 _) hg1 dX12_countsRing_16 ?_
      refine j_ishl (pc := 17) C dX12_countsRing_17 ?_
      refine j_ior (pc := 18) C dX12_countsRing_18 ?_
      refine j_lti hm (fun y2 hm => ?_)
      refine j_istoren (ls' := [(2, .int y2), (0, .ref (vad (gV G) 0)), (1, .int x1), (3, .int x3)]) (pc := 19) C dX12_countsRing_19 rfl (by decide) rfl ?_
      refine j_iinc (v := (x3 + (1 : Int32))) (ls' := [(3, .int (x3 + (1 : Int32))), (2, .int y2), (0, .ref (vad (gV G) 0)), (1, .int x1)]) (pc := 20) C 3 dX12_countsRing_20 rfl rfl (by decide) rfl ?_
      refine j_goto (tgt := 4) (pc := 23) C dX12_countsRing_23 (by decide) ?_
      refine j_ls [2, 3, 1, 0] rfl ?_
      exact ih _ _ _ _ hm
    · refine j_ls [0, 1, 2] rfl ?_
      exact hk26 _ _ _ hm

def mX12_countsRing (F : Nat) (x1 : Int32) (σ : jS) : Option jS := (lp_X12_countsRing_4 F (fun x1_3 x2_3 σ3 => (if (σ3 0 42) < x1_3 then some σ3 else (if x1_3 = (σ3 0 42) then (if x2_3 < (σ3 0 43) then (lt (js σ3 0 42 x1_3) fun σ4 => (lt (js σ4 0 43 x2_3) fun σ5 => some σ5)) else some σ3) else (lt (js σ3 0 42 x1_3) fun σ6 => (lt (js σ6 0 43 x2_3) fun σ7 => some σ7))))) F x1 (0 : Int32) (0 : Int32) σ)
set_option maxHeartbeats 4000000 in
set_option maxRecDepth 100000 in
theorem kX12_countsRing {V : jV} {F : Nat} {x1 : Int32} {σ : jS} {v : jS} (hm : mX12_countsRing F x1 σ = some v) : Ct cfM 33 V yX12_countsRing cX12_countsRing 4 none 0 [.ref (vad V 0), .int x1] σ (0, v) := by
  refine j_start (own := RX12) (by decide) rfl (Nat.le_of_ble_eq_true rfl) ?_
  intro G hV C
  subst hV
  unfold mX12_countsRing at hm
  show JM G 0 [(0, .ref (vad (gV G) 0)), (1, .int x1)] [] σ (0, v)
  refine j_iconst (v := 0) (pc := 0) C dX12_countsRing_0 (by decide) ?_
  refine j_istoren (ls' := [(2, .int (0 : Int32)), (0, .ref (vad (gV G) 0)), (1, .int x1)]) (pc := 1) C dX12_countsRing_1 rfl (by decide) rfl ?_
  refine j_iconst (v := 0) (pc := 2) C dX12_countsRing_2 (by decide) ?_
  refine j_istoren (ls' := [(3, .int (0 : Int32)), (2, .int (0 : Int32)), (0, .ref (vad (gV G) 0)), (1, .int x1)]) (pc := 3) C dX12_countsRing_3 rfl (by decide) rfl ?_
  refine j_ls [2, 3, 1, 0] rfl ?_
  refine lp_X12_countsRing_4_ok C F _ (fun x1_3 x2_3 σ3 hm => ?_) F _ _ _ _ hm
  refine j_iloadn (pc := 26) C 1 dX12_countsRing_26 rfl rfl ?_
  refine j_aloadn (pc := 27) C 0 dX12_countsRing_27 rfl rfl ?_
  refine gf_X12_369 (c := 0) (pc := 28) C km_0 dX12_countsRing_28 ?_
  refine j_icmp_gt (tgt := 50) (pc := 31) C dX12_countsRing_31 (by decide) hm (fun _ hm => ?_) (fun _ hm => ?_)
  · exact j_vret (pc := 50) C rfl dX12_countsRing_50 hm
  · refine j_iloadn (pc := 34) C 1 dX12_countsRing_34 rfl rfl ?_
    refine j_aloadn (pc := 35) C 0 dX12_countsRing_35 rfl rfl ?_
    refine gf_X12_369 (c := 0) (pc := 36) C km_0 dX12_countsRing_36 ?_
    refine j_icmp_ne (tgt := 51) (pc := 39) C dX12_countsRing_39 (by decide) hm (fun _ hm => ?_) (fun _ hm => ?_)
    · refine j_iloadn (pc := 42) C 2 dX12_countsRing_42 rfl rfl ?_
      refine j_aloadn (pc := 43) C 0 dX12_countsRing_43 rfl rfl ?_
      refine gf_X12_372 (c := 0) (pc := 44) C km_0 dX12_countsRing_44 ?_
      refine j_icmp_lt (tgt := 51) (pc := 47) C dX12_countsRing_47 (by decide) hm (fun _ hm => ?_) (fun _ hm => ?_)
      · refine j_aloadn (pc := 51) C 0 dX12_countsRing_51 rfl rfl ?_
        refine j_iloadn (pc := 52) C 1 dX12_countsRing_52 rfl rfl ?_
        refine pf_X12_369 (c := 0) (pc := 53) C km_0 dX12_countsRing_53 hm (fun σ4 hm => ?_)
        refine j_aloadn (pc := 56) C 0 dX12_countsRing_56 rfl rfl ?_
        refine j_iloadn (pc := 57) C 2 dX12_countsRing_57 rfl rfl ?_
        refine pf_X12_372 (c := 0) (pc := 58) C km_0 dX12_countsRing_58 hm (fun σ5 hm => ?_)
        exact j_vret (pc := 61) C rfl dX12_countsRing_61 hm
      · exact j_vret (pc := 50) C rfl dX12_countsRing_50 hm
    · refine j_aloadn (pc := 51) C 0 dX12_countsRing_51 rfl rfl ?_
      refine j_iloadn (pc := 52) C 1 dX12_countsRing_52 rfl rfl ?_
      refine pf_X12_369 (c := 0) (pc := 53) C km_0 dX12_countsRing_53 hm (fun σ6 hm => ?_)
      refine j_aloadn (pc := 56) C 0 dX12_countsRing_56 rfl rfl ?_
      refine j_iloadn (pc := 57) C 2 dX12_countsRing_57 rfl rfl ?_
      refine pf_X12_372 (c := 0) (pc := 58) C km_0 dX12_countsRing_58 hm (fun σ7 hm => ?_)
      exact j_vret (pc := 61) C rfl dX12_countsRing_61 hm

def lp_X12_isInRing_2 (F : Nat) (σ : jS) : Nat → Int32 → Int32 → Int32 → Option Int32
  | 0, _, _, _ => none
  | n + 1, x1, x2, x3 => (if x3 < x1 then (if jin x3 16 = true then (if (σ 25 x3.toNatClampNeg) = x2 then some (1 : Int32) else (lp_X12_isInRing_2 F σ n x1 x2 ((x3 + (1 : Int32))))) else none) else some (0 : Int32))
set_option maxHeartbeats 4000000 in
set_option maxRecDepth 100000 in
theorem lp_X12_isInRing_2_ok {G : jG} (C : jc cfM 33 G cX12_isInRing RX12 4 (some .boolean) 0) (F : Nat) (σ : jS) {v : Int32} : ∀ (n : Nat) (x1 : Int32) (x2 : Int32) (x3 : Int32), lp_X12_isInRing_2 F σ n x1 x2 x3 = some v → JM G 2 [(0, .ref (vad (gV G) 0)), (1, .int x1), (2, .int x2), (3, .int x3)] [] σ (v, σ) := by
  intro n
  induction n with
  | zero =>
    intro x1 x2 x3 hm
    rw [lp_X12_isInRing_2] at hm
    cases hm
  | succ n ih =>
    intro x1 x2 x3 hm
    rw [lp_X12_isInRing_2] at hm
    refine j_iloadn (pc := 2) C 3 dX12_isInRing_2 rfl rfl ?_
    refine j_iloadn (pc := 3) C 1 dX12_isInRing_3 rfl rfl ?_
    refine j_icmp_ge (tgt := 25) (pc := 4) C dX12_isInRing_4 (by decide) hm (fun _ hm => ?_) (fun _ hm => ?_)
    · refine j_aloadn (pc := 7) C 0 dX12_isInRing_7 rfl rfl ?_
      refine gf_X12_83 (c := 0) (pc := 8) C km_0 dX12_isInRing_8 ?_
      refine j_iloadn (pc := 11) C 3 dX12_isInRing_11 rfl rfl ?_
      refine j_guard hm (fun hg1 hm => ?_)
      refine j_iald (c := 25) (n := 16) (pc := 12) C (kM_lt km_25 (by decide)) (cm_a km_25 lm_25 _) hg1 dX12_isInRing_12 ?_
      refine j_iloadn (pc := 13) C 2 dX12_isInRing_13 rfl rfl ?_
      refine j_icmp_ne (tgt := 19) (pc := 14) C dX12_isInRing_14 (by decide) hm (fun _ hm => ?_) (fun _ hm => ?_)
      · refine j_iconst (v := 1) (pc := 17) C dX12_isInRing_17 (by decide) ?_
        exact j_zret (pc := 18) C rfl rfl dX12_isInRing_18 hm
      · refine j_iinc (v := (x3 + (1 : Int32))) (ls' := [(3, .int (x3 + (1 : Int32))), (0, .ref (vad (gV G) 0)), (1, .int x1), (2, .int x2)]) (pc := 19) C 3 dX12_isInRing_19 rfl rfl (by decide) rfl ?_
        refine j_goto (tgt := 2) (pc := 22) C dX12_isInRing_22 (by decide) ?_
        refine j_ls [1, 2, 3, 0] rfl ?_
        exact ih _ _ _ hm
    · refine j_iconst (v := 0) (pc := 25) C dX12_isInRing_25 (by decide) ?_
      exact j_zret (pc := 26) C rfl rfl dX12_isInRing_26 hm

def mX12_isInRing (F : Nat) (x1 : Int32) (x2 : Int32) (σ : jS) : Option Int32 := (lp_X12_isInRing_2 F σ F x1 x2 (0 : Int32))
set_option maxHeartbeats 4000000 in
set_option maxRecDepth 100000 in
theorem kX12_isInRing {V : jV} {F : Nat} {x1 : Int32} {x2 : Int32} {σ : jS} {v : Int32} (hm : mX12_isInRing F x1 x2 σ = some v) : Ct cfM 33 V yX12_isInRing cX12_isInRing 4 (some .boolean) 0 [.ref (vad V 0), .int x1, .int x2] σ (v, σ) := by
  refine j_start (own := RX12) (by decide) rfl (Nat.le_of_ble_eq_true rfl) ?_
  intro G hV C
  subst hV
  unfold mX12_isInRing at hm
  show JM G 0 [(0, .ref (vad (gV G) 0)), (1, .int x1), (2, .int x2)] [] σ (v, σ)
  refine j_iconst (v := 0) (pc := 0) C dX12_isInRing_0 (by decide) ?_
  refine j_istoren (ls' := [(3, .int (0 : Int32)), (0, .ref (vad (gV G) 0)), (1, .int x1), (2, .int x2)]) (pc := 1) C dX12_isInRing_1 rfl (by decide) rfl ?_
  refine j_ls [1, 2, 3, 0] rfl ?_
  exact lp_X12_isInRing_2_ok C F σ  F _ _ _ hm

def lp_X12_goesFrom_31 (F : Nat) (k83 : Int32 → Int32 → Int32 → jS → Option jS) : Nat → Int32 → Int32 → Int32 → jS → Option jS
  | 0, _, _, _, _ => none
  | n + 1, x1, x2, x3, σ => (if x3 < (σ 1 208) then (lt ((184 : Int32) + x3) fun y6 => (if jin y6 212 = true then (if (σ 1 y6.toNatClampNeg) = 0 then (lt (x3 + (1 : Int32)) fun y8 => (lp_X12_goesFrom_31 F k83 n x1 x2 y8 σ)) else (lt ((64 : Int32) + x3) fun y9 => (if jin y9 212 = true then (lt (x2 - (1 : Int32)) fun y11 => (if jin y11 16 = true then (if (σ 1 y9.toNatClampNeg) = (σ 25 y11.toNatClampNeg) then (k83 x1 x2 x3 σ) else (lt (x3 + (1 : Int32)) fun y13 => (lp_X12_goesFrom_31 F k83 n x1 x2 y13 σ))) else none)) else none))) else none)) else (k83 x1 x2 x3 σ))
set_option maxHeartbeats 4000000 in
set_option maxRecDepth 100000 in
theorem lp_X12_goesFrom_31_ok {G : jG} (C : jc cfM 33 G cX12_goesFrom RX12 5 none 1) (F : Nat) {v : jS} (k83 : Int32 → Int32 → Int32 → jS → Option jS) (hk83 : ∀ (x1 : Int32) (x2 : Int32) (x3 : Int32) (σ : jS), k83 x1 x2 x3 σ = some v → JM G 83 [(0, .ref (vad (gV G) 0)), (1, .int x1), (2, .int x2), (3, .int x3)] [] σ (0, v)) : ∀ (n : Nat) (x1 : Int32) (x2 : Int32) (x3 : Int32) (σ : jS), lp_X12_goesFrom_31 F k83 n x1 x2 x3 σ = some v → JM G 31 [(0, .ref (vad (gV G) 0)), (1, .int x1), (2, .int x2), (3, .int x3)] [] σ (0, v) := by
  intro n
  induction n with
  | zero =>
    intro x1 x2 x3 σ hm
    rw [lp_X12_goesFrom_31] at hm
    cases hm
  | succ n ih =>
    intro x1 x2 x3 σ hm
    rw [lp_X12_goesFrom_31] at hm
    refine j_iloadn (pc := 31) C 3 dX12_goesFrom_31 rfl rfl ?_
    refine j_aloadn (pc := 32) C 0 dX12_goesFrom_32 rfl rfl ?_
    refine gf_X12_7 (c := 0) (pc := 33) C km_0 dX12_goesFrom_33 ?_
    refine j_sipush (v := 208) (pc := 36) C dX12_goesFrom_36 (by decide) ?_
    refine j_ialdK (c := 1) (n := 212) (k := 208) (pc := 39) C (kM_lt km_1 (by decide)) (cm_a km_1 lm_1 _) rfl (by decide) dX12_goesFrom_39 ?_
    refine j_icmp_ge (tgt := 83) (pc := 40) C dX12_goesFrom_40 (by decide) hm (fun _ hm => ?_) (fun _ hm => ?_)
    · refine j_aloadn (pc := 43) C 0 dX12_goesFrom_43 rfl rfl ?_
      refine gf_X12_7 (c := 0) (pc := 44) C km_0 dX12_goesFrom_44 ?_
      refine j_sipush (v := 184) (pc := 47) C dX12_goesFrom_47 (by decide) ?_
      refine j_iloadn (pc := 50) C 3 dX12_goesFrom_50 rfl rfl ?_
      refine j_iadd (pc := 51) C dX12_goesFrom_51 ?_
      refine j_lti hm (fun y6 hm => ?_)
      refine j_guard hm (fun hg7 hm => ?_)
      refine j_iald (c := 1) (n := 212) (pc := 52) C (kM_lt km_1 (by decide)) (cm_a km_1 lm_1 _) hg7 dX12_goesFrom_52 ?_
      refine j_if_eq (tgt := 76) (pc := 53) C dX12_goesFrom_53 (by decide) hm (fun _ hm => ?_) (fun _ hm => ?_)
      · refine j_iloadn (pc := 76) C 3 dX12_goesFrom_76 rfl rfl ?_
        refine j_iconst (v := 1) (pc := 77) C dX12_goesFrom_77 (by decide) ?_
        refine j_iadd (pc := 78) C dX12_goesFrom_78 ?_
        refine j_lti hm (fun y8 hm => ?_)
        refine j_istoren (ls' := [(3, .int y8), (0, .ref (vad (gV G) 0)), (1, .int x1), (2, .int x2)]) (pc := 79) C dX12_goesFrom_79 rfl (by decide) rfl ?_
        refine j_goto (tgt := 31) (pc := 80) C dX12_goesFrom_80 (by decide) ?_
        refine j_ls [1, 2, 3, 0] rfl ?_
        exact ih _ _ _ _ hm
      · refine j_aloadn (pc := 56) C 0 dX12_goesFrom_56 rfl rfl ?_
        refine gf_X12_7 (c := 0) (pc := 57) C km_0 dX12_goesFrom_57 ?_
        refine j_bipush (v := 64) (pc := 60) C dX12_goesFrom_60 (by decide) ?_
        refine j_iloadn (pc := 62) C 3 dX12_goesFrom_62 rfl rfl ?_
        refine j_iadd (pc := 63) C dX12_goesFrom_63 ?_
        refine j_lti hm (fun y9 hm => ?_)
        refine j_guard hm (fun hg10 hm => ?_)
        refine j_iald (c := 1) (n := 212) (pc := 64) C (kM_lt km_1 (by decide)) (cm_a km_1 lm_1 _) hg10 dX12_goesFrom_64 ?_
        refine j_aloadn (pc := 65) C 0 dX12_goesFrom_65 rfl rfl ?_
        refine gf_X12_83 (c := 0) (pc := 66) C km_0 dX12_goesFrom_66 ?_
        refine j_iloadn (pc := 69) C 2 dX12_goesFrom_69 rfl rfl ?_
        refine j_iconst (v := 1) (pc := 70) C dX12_goesFrom_70 (by decide) ?_
        refine j_isub (pc := 71) C dX12_goesFrom_71 ?_
        refine j_lti hm (fun y11 hm => ?_)
        refine j_guard hm (fun hg12 hm => ?_)
        refine j_iald (c := 25) (n := 16) (pc := 72) C (kM_lt km_25 (by decide)) (cm_a km_25 lm_25 _) hg12 dX12_goesFrom_72 ?_
        refine j_icmp_eq (tgt := 83) (pc := 73) C dX12_goesFrom_73 (by decide) hm (fun _ hm => ?_) (fun _ hm => ?_)
        · exact hk83 _ _ _ _ hm
        · refine j_iloadn (pc := 76) C 3 dX12_goesFrom_76 rfl rfl ?_
          refine j_iconst (v := 1) (pc := 77) C dX12_goesFrom_77 (by decide) ?_
          refine j_iadd (pc := 78) C dX12_goesFrom_78 ?_
          refine j_lti hm (fun y13 hm => ?_)
          refine j_istoren (ls' := [(3, .int y13), (0, .ref (vad (gV G) 0)), (1, .int x1), (2, .int x2)]) (pc := 79) C dX12_goesFrom_79 rfl (by decide) rfl ?_
          refine j_goto (tgt := 31) (pc := 80) C dX12_goesFrom_80 (by decide) ?_
          refine j_ls [1, 2, 3, 0] rfl ?_
          exact ih _ _ _ _ hm
    · exact hk83 _ _ _ _ hm

def jn_X12_goesFrom_133 (F : Nat) (k16 : Int32 → Int32 → jS → Option jS) (x1 : Int32) (x2 : Int32) (x4 : Int32) (σ : jS) : Option jS := (if x1 < x4 then (if x2 < (σ 0 42) then (Option.bind (mX12_isInRing F x2 x4 σ) fun q21 => (if q21 = 0 then (if jin x2 16 = true then (lt (js σ 25 x2.toNatClampNeg x4) fun σ22 => (if jin x2 16 = true then (lt (js σ22 26 x2.toNatClampNeg (-1 : Int32)) fun σ24 => (lt (x2 + (1 : Int32)) fun y26 => (k16 x1 y26 σ24))) else none)) else none) else (k16 x1 x2 σ))) else (k16 x1 x2 σ)) else (k16 x1 x2 σ))
set_option maxHeartbeats 4000000 in
set_option maxRecDepth 100000 in
theorem jn_X12_goesFrom_133_ok {G : jG} (C : jc cfM 33 G cX12_goesFrom RX12 5 none 1) (F : Nat) {v : jS} (k16 : Int32 → Int32 → jS → Option jS) (hk16 : ∀ (x1 : Int32) (x2 : Int32) (σ : jS), k16 x1 x2 σ = some v → JM G 16 [(0, .ref (vad (gV G) 0)), (1, .int x1), (2, .int x2)] [] σ (0, v)) : ∀ (x1 : Int32) (x2 : Int32) (x4 : Int32) (σ : jS), jn_X12_goesFrom_133 F k16 x1 x2 x4 σ = some v → JM G 133 [(0, .ref (vad (gV G) 0)), (1, .int x1), (2, .int x2), (4, .int x4)] [] σ (0, v) := by
  intro x1 x2 x4 σ hm
  unfold jn_X12_goesFrom_133 at hm
  refine j_iload (pc := 133) C 3 dX12_goesFrom_133 rfl ?_
  refine j_iloadn (pc := 135) C 1 dX12_goesFrom_135 rfl rfl ?_
  refine j_icmp_le (tgt := 16) (pc := 136) C dX12_goesFrom_136 (by decide) hm (fun _ hm => ?_) (fun _ hm => ?_)
  · refine j_iloadn (pc := 139) C 2 dX12_goesFrom_139 rfl rfl ?_
    refine j_aloadn (pc := 140) C 0 dX12_goesFrom_140 rfl rfl ?_
    refine gf_X12_369 (c := 0) (pc := 141) C km_0 dX12_goesFrom_141 ?_
    refine j_icmp_ge (tgt := 16) (pc := 144) C dX12_goesFrom_144 (by decide) hm (fun _ hm => ?_) (fun _ hm => ?_)
    · refine j_aloadn (pc := 147) C 0 dX12_goesFrom_147 rfl rfl ?_
      refine j_iloadn (pc := 148) C 2 dX12_goesFrom_148 rfl rfl ?_
      refine j_iload (pc := 149) C 3 dX12_goesFrom_149 rfl ?_
      obtain ⟨q21, hq21, hm⟩ := Option.bind_eq_some_iff.mp hm
      refine cl_X12_378 (c := 0) (pc := 151) C km_0 (kX12_isInRing hq21) (by decide) (Nat.le_of_ble_eq_true rfl) dX12_goesFrom_151 ?_
      refine j_if_eq (tgt := 160) (pc := 154) C dX12_goesFrom_154 (by decide) hm (fun _ hm => ?_) (fun _ hm => ?_)
      · refine j_aloadn (pc := 160) C 0 dX12_goesFrom_160 rfl rfl ?_
        refine gf_X12_83 (c := 0) (pc := 161) C km_0 dX12_goesFrom_161 ?_
        refine j_iloadn (pc := 164) C 2 dX12_goesFrom_164 rfl rfl ?_
        refine j_iload (pc := 165) C 3 dX12_goesFrom_165 rfl ?_
        refine j_guard hm (fun hg23 hm => ?_)
        refine j_iastL (c := 25) (n := 16) (pc := 167) C (kM_lt km_25 (by decide)) (cm_a km_25 lm_25) hg23 dX12_goesFrom_167 hm (fun σ22 hm => ?_)
        refine j_aloadn (pc := 168) C 0 dX12_goesFrom_168 rfl rfl ?_
        refine gf_X12_86 (c := 0) (pc := 169) C km_0 dX12_goesFrom_169 ?_
        refine j_iloadn (pc := 172) C 2 dX12_goesFrom_172 rfl rfl ?_
        refine j_iconst (v := -1) (pc := 173) C dX12_goesFrom_173 (by decide) ?_
        refine j_guard hm (fun hg25 hm => ?_)
        refine j_iastL (c := 26) (n := 16) (pc := 174) C (kM_lt km_26 (by decide)) (cm_a km_26 lm_26) hg25 dX12_goesFrom_174 hm (fun σ24 hm => ?_)
        refine j_iloadn (pc := 175) C 2 dX12_goesFrom_175 rfl rfl ?_
        refine j_iconst (v := 1) (pc := 176) C dX12_goesFrom_176 (by decide) ?_
        refine j_iadd (pc := 177) C dX12_goesFrom_177 ?_
        refine j_lti hm (fun y26 hm => ?_)
        refine j_istoren (ls' := [(2, .int y26), (0, .ref (vad (gV G) 0)), (1, .int x1), (4, .int x4)]) (pc := 178) C dX12_goesFrom_178 rfl (by decide) rfl ?_
        refine j_goto (tgt := 16) (pc := 179) C dX12_goesFrom_179 (by decide) ?_
        refine j_ls [1, 2, 0] rfl ?_
        exact hk16 _ _ _ hm
      · refine j_goto (tgt := 16) (pc := 157) C dX12_goesFrom_157 (by decide) ?_
        refine j_ls [0, 1, 2] rfl ?_
        exact hk16 _ _ _ hm
    · refine j_ls [0, 1, 2] rfl ?_
      exact hk16 _ _ _ hm
  · refine j_ls [0, 1, 2] rfl ?_
    exact hk16 _ _ _ hm

def jn_X12_goesFrom_83 (F : Nat) (k16 : Int32 → Int32 → jS → Option jS) (x1 : Int32) (x2 : Int32) (x3 : Int32) (σ : jS) : Option jS := (if jin (x2 - (1 : Int32)) 16 = true then (lt (js σ 26 (x2 - (1 : Int32)).toNatClampNeg x3) fun σ15 => (if x3 < (σ15 1 208) then (lt ((88 : Int32) + x3) fun y17 => (if jin y17 212 = true then (lt (σ15 1 y17.toNatClampNeg) fun y19 => (if y19 = x1 then (Option.bind (mX12_countsRing F x2 σ15) fun q20 => (jn_X12_goesFrom_133 F (k16) x1 x2 y19 q20)) else (jn_X12_goesFrom_133 F (k16) x1 x2 y19 σ15))) else none)) else (lt (x2 - (1 : Int32)) fun y27 => (k16 x1 y27 σ15)))) else none)
set_option maxHeartbeats 4000000 in
set_option maxRecDepth 100000 in
theorem jn_X12_goesFrom_83_ok {G : jG} (C : jc cfM 33 G cX12_goesFrom RX12 5 none 1) (F : Nat) {v : jS} (k16 : Int32 → Int32 → jS → Option jS) (hk16 : ∀ (x1 : Int32) (x2 : Int32) (σ : jS), k16 x1 x2 σ = some v → JM G 16 [(0, .ref (vad (gV G) 0)), (1, .int x1), (2, .int x2)] [] σ (0, v)) : ∀ (x1 : Int32) (x2 : Int32) (x3 : Int32) (σ : jS), jn_X12_goesFrom_83 F k16 x1 x2 x3 σ = some v → JM G 83 [(0, .ref (vad (gV G) 0)), (1, .int x1), (2, .int x2), (3, .int x3)] [] σ (0, v) := by
  intro x1 x2 x3 σ hm
  unfold jn_X12_goesFrom_83 at hm
  refine j_aloadn (pc := 83) C 0 dX12_goesFrom_83 rfl rfl ?_
  refine gf_X12_86 (c := 0) (pc := 84) C km_0 dX12_goesFrom_84 ?_
  refine j_iloadn (pc := 87) C 2 dX12_goesFrom_87 rfl rfl ?_
  refine j_iconst (v := 1) (pc := 88) C dX12_goesFrom_88 (by decide) ?_
  refine j_isub (pc := 89) C dX12_goesFrom_89 ?_
  refine j_iloadn (pc := 90) C 3 dX12_goesFrom_90 rfl rfl ?_
  refine j_guard hm (fun hg16 hm => ?_)
  refine j_iastL (c := 26) (n := 16) (pc := 91) C (kM_lt km_26 (by decide)) (cm_a km_26 lm_26) hg16 dX12_goesFrom_91 hm (fun σ15 hm => ?_)
  refine j_iloadn (pc := 92) C 3 dX12_goesFrom_92 rfl rfl ?_
  refine j_aloadn (pc := 93) C 0 dX12_goesFrom_93 rfl rfl ?_
  refine gf_X12_7 (c := 0) (pc := 94) C km_0 dX12_goesFrom_94 ?_
  refine j_sipush (v := 208) (pc := 97) C dX12_goesFrom_97 (by decide) ?_
  refine j_ialdK (c := 1) (n := 212) (k := 208) (pc := 100) C (kM_lt km_1 (by decide)) (cm_a km_1 lm_1 _) rfl (by decide) dX12_goesFrom_100 ?_
  refine j_icmp_lt (tgt := 111) (pc := 101) C dX12_goesFrom_101 (by decide) hm (fun _ hm => ?_) (fun _ hm => ?_)
  · refine j_aloadn (pc := 111) C 0 dX12_goesFrom_111 rfl rfl ?_
    refine gf_X12_7 (c := 0) (pc := 112) C km_0 dX12_goesFrom_112 ?_
    refine j_bipush (v := 88) (pc := 115) C dX12_goesFrom_115 (by decide) ?_
    refine j_iloadn (pc := 117) C 3 dX12_goesFrom_117 rfl rfl ?_
    refine j_iadd (pc := 118) C dX12_goesFrom_118 ?_
    refine j_lti hm (fun y17 hm => ?_)
    refine j_guard hm (fun hg18 hm => ?_)
    refine j_iald (c := 1) (n := 212) (pc := 119) C (kM_lt km_1 (by decide)) (cm_a km_1 lm_1 _) hg18 dX12_goesFrom_119 ?_
    refine j_lti hm (fun y19 hm => ?_)
    refine j_istore (ls' := [(4, .int y19), (0, .ref (vad (gV G) 0)), (1, .int x1), (2, .int x2), (3, .int x3)]) (pc := 120) C dX12_goesFrom_120 (by decide) rfl ?_
    refine j_iload (pc := 122) C 0 dX12_goesFrom_122 rfl ?_
    refine j_iloadn (pc := 124) C 2 dX12_goesFrom_124 rfl rfl ?_
    refine j_icmp_ne (tgt := 133) (pc := 125) C dX12_goesFrom_125 (by decide) hm (fun _ hm => ?_) (fun _ hm => ?_)
    · refine j_aloadn (pc := 128) C 1 dX12_goesFrom_128 rfl rfl ?_
      refine j_iloadn (pc := 129) C 3 dX12_goesFrom_129 rfl rfl ?_
      obtain ⟨q20, hq20, hm⟩ := Option.bind_eq_some_iff.mp hm
      refine cl_X12_375 (c := 0) (pc := 130) C km_0 (kX12_countsRing hq20) (by decide) (Nat.le_of_ble_eq_true rfl) dX12_goesFrom_130 ?_
      refine j_ls [1, 2, 3, 0] rfl ?_
      exact jn_X12_goesFrom_133_ok C F _ (fun _ _ _ hm => hk16 _ _ _ hm) _ _ _ _ hm
    · refine j_ls [1, 2, 3, 0] rfl ?_
      exact jn_X12_goesFrom_133_ok C F _ (fun _ _ _ hm => hk16 _ _ _ hm) _ _ _ _ hm
  · refine j_iloadn (pc := 104) C 2 dX12_goesFrom_104 rfl rfl ?_
    refine j_iconst (v := 1) (pc := 105) C dX12_goesFrom_105 (by decide) ?_
    refine j_isub (pc := 106) C dX12_goesFrom_106 ?_
    refine j_lti hm (fun y27 hm => ?_)
    refine j_istoren (ls' := [(2, .int y27), (0, .ref (vad (gV G) 0)), (1, .int x1), (3, .int x3)]) (pc := 107) C dX12_goesFrom_107 rfl (by decide) rfl ?_
    refine j_goto (tgt := 16) (pc := 108) C dX12_goesFrom_108 (by decide) ?_
    refine j_ls [1, 2, 0] rfl ?_
    exact hk16 _ _ _ hm

def lp_X12_goesFrom_16 (F : Nat) : Nat → Int32 → Int32 → jS → Option jS
  | 0, _, _, _ => none
  | n + 1, x1, x2, σ => (if 0 < x2 then (lt (x2 - (1 : Int32)) fun y3 => (if jin y3 16 = true then (lt ((σ 26 y3.toNatClampNeg) + (1 : Int32)) fun y5 => (lp_X12_goesFrom_31 F (fun x1_14 x2_14 x3_14 σ14 => (jn_X12_goesFrom_83 F (lp_X12_goesFrom_16 F n) x1_14 x2_14 x3_14 σ14)) F x1 x2 y5 σ)) else none)) else some σ)
set_option maxHeartbeats 4000000 in
set_option maxRecDepth 100000 in
theorem lp_X12_goesFrom_16_ok {G : jG} (C : jc cfM 33 G cX12_goesFrom RX12 5 none 1) (F : Nat) {v : jS} : ∀ (n : Nat) (x1 : Int32) (x2 : Int32) (σ : jS), lp_X12_goesFrom_16 F n x1 x2 σ = some v → JM G 16 [(0, .ref (vad (gV G) 0)), (1, .int x1), (2, .int x2)] [] σ (0, v) := by
  intro n
  induction n with
  | zero =>
    intro x1 x2 σ hm
    rw [lp_X12_goesFrom_16] at hm
    cases hm
  | succ n ih =>
    intro x1 x2 σ hm
    rw [lp_X12_goesFrom_16] at hm
    refine j_iloadn (pc := 16) C 2 dX12_goesFrom_16 rfl rfl ?_
    refine j_if_le (tgt := 182) (pc := 17) C dX12_goesFrom_17 (by decide) hm (fun _ hm => ?_) (fun _ hm => ?_)
    · refine j_aloadn (pc := 20) C 0 dX12_goesFrom_20 rfl rfl ?_
      refine gf_X12_86 (c := 0) (pc := 21) C km_0 dX12_goesFrom_21 ?_
      refine j_iloadn (pc := 24) C 2 dX12_goesFrom_24 rfl rfl ?_
      refine j_iconst (v := 1) (pc := 25) C dX12_goesFrom_25 (by decide) ?_
      refine j_isub (pc := 26) C dX12_goesFrom_26 ?_
      refine j_lti hm (fun y3 hm => ?_)
      refine j_guard hm (fun hg4 hm => ?_)
      refine j_iald (c := 26) (n := 16) (pc := 27) C (kM_lt km_26 (by decide)) (cm_a km_26 lm_26 _) hg4 dX12_goesFrom_27 ?_
      refine j_iconst (v := 1) (pc := 28) C dX12_goesFrom_28 (by decide) ?_
      refine j_iadd (pc := 29) C dX12_goesFrom_29 ?_
      refine j_lti hm (fun y5 hm => ?_)
      refine j_istoren (ls' := [(3, .int y5), (0, .ref (vad (gV G) 0)), (1, .int x1), (2, .int x2)]) (pc := 30) C dX12_goesFrom_30 rfl (by decide) rfl ?_
      refine j_ls [1, 2, 3, 0] rfl ?_
      refine lp_X12_goesFrom_31_ok C F _ (fun x1_14 x2_14 x3_14 σ14 hm => ?_) F _ _ _ _ hm
      exact jn_X12_goesFrom_83_ok C F _ (fun _ _ _ hm => ih _ _ _ hm) _ _ _ _ hm
    · exact j_vret (pc := 182) C rfl dX12_goesFrom_182 hm

def mX12_goesFrom (F : Nat) (x1 : Int32) (σ : jS) : Option jS := (lt (js σ 25 0 x1) fun σ1 => (lt (js σ1 26 0 (-1 : Int32)) fun σ2 => (lp_X12_goesFrom_16 F F x1 (1 : Int32) σ2)))
set_option maxHeartbeats 4000000 in
set_option maxRecDepth 100000 in
theorem kX12_goesFrom {V : jV} {F : Nat} {x1 : Int32} {σ : jS} {v : jS} (hm : mX12_goesFrom F x1 σ = some v) : Ct cfM 33 V yX12_goesFrom cX12_goesFrom 5 none 1 [.ref (vad V 0), .int x1] σ (0, v) := by
  refine j_start (own := RX12) (by decide) rfl (Nat.le_of_ble_eq_true rfl) ?_
  intro G hV C
  subst hV
  unfold mX12_goesFrom at hm
  show JM G 0 [(0, .ref (vad (gV G) 0)), (1, .int x1)] [] σ (0, v)
  refine j_iconst (v := 1) (pc := 0) C dX12_goesFrom_0 (by decide) ?_
  refine j_istoren (ls' := [(2, .int (1 : Int32)), (0, .ref (vad (gV G) 0)), (1, .int x1)]) (pc := 1) C dX12_goesFrom_1 rfl (by decide) rfl ?_
  refine j_aloadn (pc := 2) C 1 dX12_goesFrom_2 rfl rfl ?_
  refine gf_X12_83 (c := 0) (pc := 3) C km_0 dX12_goesFrom_3 ?_
  refine j_iconst (v := 0) (pc := 6) C dX12_goesFrom_6 (by decide) ?_
  refine j_iloadn (pc := 7) C 2 dX12_goesFrom_7 rfl rfl ?_
  refine j_iastK (c := 25) (n := 16) (k := 0) (pc := 8) C (kM_lt km_25 (by decide)) (cm_a km_25 lm_25) rfl (by decide) dX12_goesFrom_8 hm (fun σ1 hm => ?_)
  refine j_aloadn (pc := 9) C 1 dX12_goesFrom_9 rfl rfl ?_
  refine gf_X12_86 (c := 0) (pc := 10) C km_0 dX12_goesFrom_10 ?_
  refine j_iconst (v := 0) (pc := 13) C dX12_goesFrom_13 (by decide) ?_
  refine j_iconst (v := -1) (pc := 14) C dX12_goesFrom_14 (by decide) ?_
  refine j_iastK (c := 26) (n := 16) (k := 0) (pc := 15) C (kM_lt km_26 (by decide)) (cm_a km_26 lm_26) rfl (by decide) dX12_goesFrom_15 hm (fun σ2 hm => ?_)
  refine j_ls [1, 2, 0] rfl ?_
  exact lp_X12_goesFrom_16_ok C F  F _ _ _ hm

def lp_X12_rings_26 (F : Nat) (k43 : Int32 → jS → Option (Int32 × jS)) : Nat → Int32 → Int32 → jS → Option (Int32 × jS)
  | 0, _, _, _ => none
  | n + 1, x1, x2, σ => (if x2 < (16 : Int32) then (Option.bind (mX12_goesFrom F x2 σ) fun q4 => (lp_X12_rings_26 F k43 n x1 ((x2 + (1 : Int32))) q4)) else (k43 x1 σ))
set_option maxHeartbeats 4000000 in
set_option maxRecDepth 100000 in
theorem lp_X12_rings_26_ok {G : jG} (C : jc cfM 33 G cX12_rings RX12 3 (some .int) 2) (F : Nat) {v : (Int32 × jS)} (k43 : Int32 → jS → Option (Int32 × jS)) (hk43 : ∀ (x1 : Int32) (σ : jS), k43 x1 σ = some v → JM G 43 [(0, .ref (vad (gV G) 0)), (1, .int x1)] [] σ v) : ∀ (n : Nat) (x1 : Int32) (x2 : Int32) (σ : jS), lp_X12_rings_26 F k43 n x1 x2 σ = some v → JM G 26 [(0, .ref (vad (gV G) 0)), (1, .int x1), (2, .int x2)] [] σ v := by
  intro n
  induction n with
  | zero =>
    intro x1 x2 σ hm
    rw [lp_X12_rings_26] at hm
    cases hm
  | succ n ih =>
    intro x1 x2 σ hm
    rw [lp_X12_rings_26] at hm
    refine j_iloadn (pc := 26) C 2 dX12_rings_26 rfl rfl ?_
    refine j_bipush (v := 16) (pc := 27) C dX12_rings_27 (by decide) ?_
    refine j_icmp_ge (tgt := 43) (pc := 29) C dX12_rings_29 (by decide) hm (fun _ hm => ?_) (fun _ hm => ?_)
    · refine j_aloadn (pc := 32) C 0 dX12_rings_32 rfl rfl ?_
      refine j_iloadn (pc := 33) C 2 dX12_rings_33 rfl rfl ?_
      obtain ⟨q4, hq4, hm⟩ := Option.bind_eq_some_iff.mp hm
      refine cl_X12_381 (c := 0) (pc := 34) C km_0 (kX12_goesFrom hq4) (by decide) (Nat.le_of_ble_eq_true rfl) dX12_rings_34 ?_
      refine j_iinc (v := (x2 + (1 : Int32))) (ls' := [(2, .int (x2 + (1 : Int32))), (0, .ref (vad (gV G) 0)), (1, .int x1)]) (pc := 37) C 2 dX12_rings_37 rfl rfl (by decide) rfl ?_
      refine j_goto (tgt := 26) (pc := 40) C dX12_rings_40 (by decide) ?_
      refine j_ls [1, 2, 0] rfl ?_
      exact ih _ _ _ hm
    · refine j_ls [0, 1] rfl ?_
      exact hk43 _ _ hm

def mX12_rings (F : Nat) (x1 : Int32) (σ : jS) : Option (Int32 × jS) := (Option.bind (mX12_in F x1 (0 : Int32) (1 : Int32) σ) fun q1 => (if q1 = 0 then some ((-1 : Int32), σ) else (lt (js σ 0 42 (17 : Int32)) fun σ2 => (lt (js σ2 0 43 (65536 : Int32)) fun σ3 => (lp_X12_rings_26 F (fun x1_5 σ5 => (if (16 : Int32) < (σ5 0 42) then some ((-2 : Int32), σ5) else (if x1_5 = 0 then some ((σ5 0 42), σ5) else some ((σ5 0 43), σ5)))) F x1 (0 : Int32) σ3)))))
set_option maxHeartbeats 4000000 in
set_option maxRecDepth 100000 in
theorem kX12_rings {V : jV} {F : Nat} {x1 : Int32} {σ : jS} {v : (Int32 × jS)} (hm : mX12_rings F x1 σ = some v) : Ct cfM 33 V yX12_rings cX12_rings 3 (some .int) 2 [.ref (vad V 0), .int x1] σ v := by
  refine j_start (own := RX12) (by decide) rfl (Nat.le_of_ble_eq_true rfl) ?_
  intro G hV C
  subst hV
  unfold mX12_rings at hm
  show JM G 0 [(0, .ref (vad (gV G) 0)), (1, .int x1)] [] σ v
  refine j_iloadn (pc := 0) C 1 dX12_rings_0 rfl rfl ?_
  refine j_iconst (v := 0) (pc := 1) C dX12_rings_1 (by decide) ?_
  refine j_iconst (v := 1) (pc := 2) C dX12_rings_2 (by decide) ?_
  obtain ⟨q1, hq1, hm⟩ := Option.bind_eq_some_iff.mp hm
  refine cl_X12_107 (pc := 3) C (kX12_in hq1) (by decide) (Nat.le_of_ble_eq_true rfl) dX12_rings_3 ?_
  refine j_if_ne (tgt := 11) (pc := 6) C dX12_rings_6 (by decide) hm (fun _ hm => ?_) (fun _ hm => ?_)
  · refine j_iconst (v := -1) (pc := 9) C dX12_rings_9 (by decide) ?_
    exact j_iretS (pc := 10) C rfl dX12_rings_10 hm
  · refine j_aloadn (pc := 11) C 0 dX12_rings_11 rfl rfl ?_
    refine j_bipush (v := 17) (pc := 12) C dX12_rings_12 (by decide) ?_
    refine pf_X12_369 (c := 0) (pc := 14) C km_0 dX12_rings_14 hm (fun σ2 hm => ?_)
    refine j_aloadn (pc := 17) C 0 dX12_rings_17 rfl rfl ?_
    refine j_ldcw (v := 65536) (pc := 18) C dX12_rings_18 tw_6_169 ?_
    refine pf_X12_372 (c := 0) (pc := 21) C km_0 dX12_rings_21 hm (fun σ3 hm => ?_)
    refine j_iconst (v := 0) (pc := 24) C dX12_rings_24 (by decide) ?_
    refine j_istoren (ls' := [(2, .int (0 : Int32)), (0, .ref (vad (gV G) 0)), (1, .int x1)]) (pc := 25) C dX12_rings_25 rfl (by decide) rfl ?_
    refine j_ls [1, 2, 0] rfl ?_
    refine lp_X12_rings_26_ok C F _ (fun x1_5 σ5 hm => ?_) F _ _ _ hm
    refine j_aloadn (pc := 43) C 0 dX12_rings_43 rfl rfl ?_
    refine gf_X12_369 (c := 0) (pc := 44) C km_0 dX12_rings_44 ?_
    refine j_bipush (v := 16) (pc := 47) C dX12_rings_47 (by decide) ?_
    refine j_icmp_le (tgt := 55) (pc := 49) C dX12_rings_49 (by decide) hm (fun _ hm => ?_) (fun _ hm => ?_)
    · refine j_bipush (v := -2) (pc := 52) C dX12_rings_52 (by decide) ?_
      exact j_iretS (pc := 54) C rfl dX12_rings_54 hm
    · refine j_iloadn (pc := 55) C 1 dX12_rings_55 rfl rfl ?_
      refine j_if_ne (tgt := 66) (pc := 56) C dX12_rings_56 (by decide) hm (fun _ hm => ?_) (fun _ hm => ?_)
      · refine j_aloadn (pc := 59) C 0 dX12_rings_59 rfl rfl ?_
        refine gf_X12_369 (c := 0) (pc := 60) C km_0 dX12_rings_60 ?_
        refine j_goto (tgt := 70) (pc := 63) C dX12_rings_63 (by decide) ?_
        exact j_iretS (pc := 70) C rfl dX12_rings_70 hm
      · refine j_aloadn (pc := 66) C 0 dX12_rings_66 rfl rfl ?_
        refine gf_X12_372 (c := 0) (pc := 67) C km_0 dX12_rings_67 ?_
        exact j_iretS (pc := 70) C rfl dX12_rings_70 hm

def mX12_twoOctets (F : Nat) (x1 : Int32) (σ : jS) : Option Int32 := (Option.bind (mX12_octet F (((2 : Int32) * x1)) σ) fun q1 => (Option.bind (mX12_octet F ((((2 : Int32) * x1) + (1 : Int32))) σ) fun q2 => some ((q1 * (256 : Int32)) + q2)))
set_option maxHeartbeats 4000000 in
set_option maxRecDepth 100000 in
theorem kX12_twoOctets {V : jV} {F : Nat} {x1 : Int32} {σ : jS} {v : Int32} (hm : mX12_twoOctets F x1 σ = some v) : Ct cfM 33 V yX12_twoOctets cX12_twoOctets 2 (some .int) 1 [.ref (vad V 0), .int x1] σ (v, σ) := by
  refine j_start (own := RX12) (by decide) rfl (Nat.le_of_ble_eq_true rfl) ?_
  intro G hV C
  subst hV
  unfold mX12_twoOctets at hm
  show JM G 0 [(0, .ref (vad (gV G) 0)), (1, .int x1)] [] σ (v, σ)
  refine j_aloadn (pc := 0) C 0 dX12_twoOctets_0 rfl rfl ?_
  refine j_iconst (v := 2) (pc := 1) C dX12_twoOctets_1 (by decide) ?_
  refine j_iloadn (pc := 2) C 1 dX12_twoOctets_2 rfl rfl ?_
  refine j_imul (pc := 3) C dX12_twoOctets_3 ?_
  obtain ⟨q1, hq1, hm⟩ := Option.bind_eq_some_iff.mp hm
  refine cl_X12_384 (c := 0) (pc := 4) C km_0 (kX12_octet hq1) (by decide) (Nat.le_of_ble_eq_true rfl) dX12_twoOctets_4 ?_
  refine j_sipush (v := 256) (pc := 7) C dX12_twoOctets_7 (by decide) ?_
  refine j_imul (pc := 10) C dX12_twoOctets_10 ?_
  refine j_aloadn (pc := 11) C 0 dX12_twoOctets_11 rfl rfl ?_
  refine j_iconst (v := 2) (pc := 12) C dX12_twoOctets_12 (by decide) ?_
  refine j_iloadn (pc := 13) C 1 dX12_twoOctets_13 rfl rfl ?_
  refine j_imul (pc := 14) C dX12_twoOctets_14 ?_
  refine j_iconst (v := 1) (pc := 15) C dX12_twoOctets_15 (by decide) ?_
  refine j_iadd (pc := 16) C dX12_twoOctets_16 ?_
  obtain ⟨q2, hq2, hm⟩ := Option.bind_eq_some_iff.mp hm
  refine cl_X12_384 (c := 0) (pc := 17) C km_0 (kX12_octet hq2) (by decide) (Nat.le_of_ble_eq_true rfl) dX12_twoOctets_17 ?_
  refine j_iadd (pc := 20) C dX12_twoOctets_20 ?_
  exact j_iret (pc := 21) C rfl dX12_twoOctets_21 hm

def lp_X12_sumOf_5 (F : Nat) (σ : jS) : Nat → Int32 → Int32 → Int32 → Int32 → Option Int32
  | 0, _, _, _, _ => none
  | n + 1, x1, x2, x3, x4 => (if x4 < x2 then (Option.bind (mX12_has F x1 x4 σ) fun q1 => (if q1 = 0 then (lp_X12_sumOf_5 F σ n x1 x2 x3 ((x4 + (1 : Int32)))) else (Option.bind (mX12_twoOctets F x4 σ) fun q2 => (lt ((x3 + q2) - (32768 : Int32)) fun y3 => (lp_X12_sumOf_5 F σ n x1 x2 y3 ((x4 + (1 : Int32)))))))) else some x3)
set_option maxHeartbeats 4000000 in
set_option maxRecDepth 100000 in
theorem lp_X12_sumOf_5_ok {G : jG} (C : jc cfM 33 G cX12_sumOf RX12 5 (some .int) 2) (F : Nat) (σ : jS) {v : Int32} : ∀ (n : Nat) (x1 : Int32) (x2 : Int32) (x3 : Int32) (x4 : Int32), lp_X12_sumOf_5 F σ n x1 x2 x3 x4 = some v → JM G 5 [(0, .ref (vad (gV G) 0)), (1, .int x1), (2, .int x2), (3, .int x3), (4, .int x4)] [] σ (v, σ) := by
  intro n
  induction n with
  | zero =>
    intro x1 x2 x3 x4 hm
    rw [lp_X12_sumOf_5] at hm
    cases hm
  | succ n ih =>
    intro x1 x2 x3 x4 hm
    rw [lp_X12_sumOf_5] at hm
    refine j_iload (pc := 5) C 4 dX12_sumOf_5 rfl ?_
    refine j_iloadn (pc := 7) C 2 dX12_sumOf_7 rfl rfl ?_
    refine j_icmp_ge (tgt := 39) (pc := 8) C dX12_sumOf_8 (by decide) hm (fun _ hm => ?_) (fun _ hm => ?_)
    · refine j_iloadn (pc := 11) C 1 dX12_sumOf_11 rfl rfl ?_
      refine j_iload (pc := 12) C 4 dX12_sumOf_12 rfl ?_
      obtain ⟨q1, hq1, hm⟩ := Option.bind_eq_some_iff.mp hm
      refine cl_X12_350 (pc := 14) C (kX12_has hq1) (by decide) (Nat.le_of_ble_eq_true rfl) dX12_sumOf_14 ?_
      refine j_if_eq (tgt := 33) (pc := 17) C dX12_sumOf_17 (by decide) hm (fun _ hm => ?_) (fun _ hm => ?_)
      · refine j_iinc (v := (x4 + (1 : Int32))) (ls' := [(4, .int (x4 + (1 : Int32))), (0, .ref (vad (gV G) 0)), (1, .int x1), (2, .int x2), (3, .int x3)]) (pc := 33) C 4 dX12_sumOf_33 rfl rfl (by decide) rfl ?_
        refine j_goto (tgt := 5) (pc := 36) C dX12_sumOf_36 (by decide) ?_
        refine j_ls [1, 2, 3, 4, 0] rfl ?_
        exact ih _ _ _ _ hm
      · refine j_iloadn (pc := 20) C 3 dX12_sumOf_20 rfl rfl ?_
        refine j_aloadn (pc := 21) C 0 dX12_sumOf_21 rfl rfl ?_
        refine j_iload (pc := 22) C 4 dX12_sumOf_22 rfl ?_
        obtain ⟨q2, hq2, hm⟩ := Option.bind_eq_some_iff.mp hm
        refine cl_X12_387 (c := 0) (pc := 24) C km_0 (kX12_twoOctets hq2) (by decide) (Nat.le_of_ble_eq_true rfl) dX12_sumOf_24 ?_
        refine j_iadd (pc := 27) C dX12_sumOf_27 ?_
        refine j_ldcw (v := 32768) (pc := 28) C dX12_sumOf_28 tw_7_115 ?_
        refine j_isub (pc := 31) C dX12_sumOf_31 ?_
        refine j_lti hm (fun y3 hm => ?_)
        refine j_istoren (ls' := [(3, .int y3), (0, .ref (vad (gV G) 0)), (1, .int x1), (2, .int x2), (4, .int x4)]) (pc := 32) C dX12_sumOf_32 rfl (by decide) rfl ?_
        refine j_iinc (v := (x4 + (1 : Int32))) (ls' := [(4, .int (x4 + (1 : Int32))), (3, .int y3), (0, .ref (vad (gV G) 0)), (1, .int x1), (2, .int x2)]) (pc := 33) C 4 dX12_sumOf_33 rfl rfl (by decide) rfl ?_
        refine j_goto (tgt := 5) (pc := 36) C dX12_sumOf_36 (by decide) ?_
        refine j_ls [2, 3, 4, 1, 0] rfl ?_
        exact ih _ _ _ _ hm
    · refine j_iloadn (pc := 39) C 3 dX12_sumOf_39 rfl rfl ?_
      exact j_iret (pc := 40) C rfl dX12_sumOf_40 hm

def mX12_sumOf (F : Nat) (x1 : Int32) (x2 : Int32) (σ : jS) : Option Int32 := (lp_X12_sumOf_5 F σ F x1 x2 (0 : Int32) (0 : Int32))
set_option maxHeartbeats 4000000 in
set_option maxRecDepth 100000 in
theorem kX12_sumOf {V : jV} {F : Nat} {x1 : Int32} {x2 : Int32} {σ : jS} {v : Int32} (hm : mX12_sumOf F x1 x2 σ = some v) : Ct cfM 33 V yX12_sumOf cX12_sumOf 5 (some .int) 2 [.ref (vad V 0), .int x1, .int x2] σ (v, σ) := by
  refine j_start (own := RX12) (by decide) rfl (Nat.le_of_ble_eq_true rfl) ?_
  intro G hV C
  subst hV
  unfold mX12_sumOf at hm
  show JM G 0 [(0, .ref (vad (gV G) 0)), (1, .int x1), (2, .int x2)] [] σ (v, σ)
  refine j_iconst (v := 0) (pc := 0) C dX12_sumOf_0 (by decide) ?_
  refine j_istoren (ls' := [(3, .int (0 : Int32)), (0, .ref (vad (gV G) 0)), (1, .int x1), (2, .int x2)]) (pc := 1) C dX12_sumOf_1 rfl (by decide) rfl ?_
  refine j_iconst (v := 0) (pc := 2) C dX12_sumOf_2 (by decide) ?_
  refine j_istore (ls' := [(4, .int (0 : Int32)), (3, .int (0 : Int32)), (0, .ref (vad (gV G) 0)), (1, .int x1), (2, .int x2)]) (pc := 3) C dX12_sumOf_3 (by decide) rfl ?_
  refine j_ls [2, 3, 4, 1, 0] rfl ?_
  exact lp_X12_sumOf_5_ok C F σ  F _ _ _ _ hm

def lp_X12_settled_60 (F : Nat) (k91 : Int32 → Int32 → Int32 → Int32 → jS → Option (Int32 × jS)) : Nat → Int32 → Int32 → Int32 → Int32 → Int32 → jS → Option (Int32 × jS)
  | 0, _, _, _, _, _, _ => none
  | n + 1, x1, x2, x3, x4, x5, σ => (if x5 < x1 then (Option.bind (mX12_twoOctets F x5 σ) fun q6 => (Option.bind (mX12_max F (0 : Int32) ((q6 - (32768 : Int32))) σ) fun q7 => (lt (x4 + q7) fun y8 => (lp_X12_settled_60 F k91 n x1 x2 x3 y8 ((x5 + (1 : Int32))) σ)))) else (k91 x1 x2 x3 x4 σ))
set_option maxHeartbeats 4000000 in
set_option maxRecDepth 100000 in
theorem lp_X12_settled_60_ok {G : jG} (C : jc cfM 33 G cX12_settled RX12 8 (some .int) 3) (F : Nat) {v : (Int32 × jS)} (k91 : Int32 → Int32 → Int32 → Int32 → jS → Option (Int32 × jS)) (hk91 : ∀ (x1 : Int32) (x2 : Int32) (x3 : Int32) (x4 : Int32) (σ : jS), k91 x1 x2 x3 x4 σ = some v → JM G 91 [(0, .ref (vad (gV G) 0)), (1, .int x1), (2, .int x2), (3, .int x3), (4, .int x4)] [] σ v) : ∀ (n : Nat) (x1 : Int32) (x2 : Int32) (x3 : Int32) (x4 : Int32) (x5 : Int32) (σ : jS), lp_X12_settled_60 F k91 n x1 x2 x3 x4 x5 σ = some v → JM G 60 [(0, .ref (vad (gV G) 0)), (1, .int x1), (2, .int x2), (3, .int x3), (4, .int x4), (5, .int x5)] [] σ v := by
  intro n
  induction n with
  | zero =>
    intro x1 x2 x3 x4 x5 σ hm
    rw [lp_X12_settled_60] at hm
    cases hm
  | succ n ih =>
    intro x1 x2 x3 x4 x5 σ hm
    rw [lp_X12_settled_60] at hm
    refine j_iload (pc := 60) C 5 dX12_settled_60 rfl ?_
    refine j_iloadn (pc := 62) C 1 dX12_settled_62 rfl rfl ?_
    refine j_icmp_ge (tgt := 91) (pc := 63) C dX12_settled_63 (by decide) hm (fun _ hm => ?_) (fun _ hm => ?_)
    · refine j_iload (pc := 66) C 4 dX12_settled_66 rfl ?_
      refine j_iconst (v := 0) (pc := 68) C dX12_settled_68 (by decide) ?_
      refine j_aloadn (pc := 69) C 0 dX12_settled_69 rfl rfl ?_
      refine j_iload (pc := 70) C 5 dX12_settled_70 rfl ?_
      obtain ⟨q6, hq6, hm⟩ := Option.bind_eq_some_iff.mp hm
      refine cl_X12_387 (c := 0) (pc := 72) C km_0 (kX12_twoOctets hq6) (by decide) (Nat.le_of_ble_eq_true rfl) dX12_settled_72 ?_
      refine j_ldcw (v := 32768) (pc := 75) C dX12_settled_75 tw_7_115 ?_
      refine j_isub (pc := 78) C dX12_settled_78 ?_
      obtain ⟨q7, hq7, hm⟩ := Option.bind_eq_some_iff.mp hm
      refine cl_X12_302 (pc := 79) C (kX12_max hq7) (by decide) (Nat.le_of_ble_eq_true rfl) dX12_settled_79 ?_
      refine j_iadd (pc := 82) C dX12_settled_82 ?_
      refine j_lti hm (fun y8 hm => ?_)
      refine j_istore (ls' := [(4, .int y8), (0, .ref (vad (gV G) 0)), (1, .int x1), (2, .int x2), (3, .int x3), (5, .int x5)]) (pc := 83) C dX12_settled_83 (by decide) rfl ?_
      refine j_iinc (v := (x5 + (1 : Int32))) (ls' := [(5, .int (x5 + (1 : Int32))), (4, .int y8), (0, .ref (vad (gV G) 0)), (1, .int x1), (2, .int x2), (3, .int x3)]) (pc := 85) C 5 dX12_settled_85 rfl rfl (by decide) rfl ?_
      refine j_goto (tgt := 60) (pc := 88) C dX12_settled_88 (by decide) ?_
      refine j_ls [2, 3, 4, 5, 1, 0] rfl ?_
      exact ih _ _ _ _ _ _ hm
    · refine j_ls [0, 1, 2, 3, 4] rfl ?_
      exact hk91 _ _ _ _ _ hm

def lp_X12_settled_121 (F : Nat) (k164 : Int32 → Int32 → Int32 → Int32 → jS → Option (Int32 × jS)) : Nat → Int32 → Int32 → Int32 → Int32 → Int32 → jS → Option (Int32 × jS)
  | 0, _, _, _, _, _, _ => none
  | n + 1, x1, x3, x5, x6, x7, σ => (if x7 < x1 then (Option.bind (mX12_has F x5 x7 σ) fun q12 => (if q12 = 0 then (lp_X12_settled_121 F k164 n x1 x3 x5 x6 ((x7 + (1 : Int32))) σ) else (lt (x5 &&& (((1 : Int32) <<< (x7 &&& 31)) ^^^ (-1 : Int32))) fun y13 => (if jin y13 256 = true then (Option.bind (mX12_max F x6 ((σ 27 y13.toNatClampNeg)) σ) fun q15 => (lp_X12_settled_121 F k164 n x1 x3 x5 q15 ((x7 + (1 : Int32))) σ)) else none)))) else (k164 x1 x3 x5 x6 σ))
set_option maxHeartbeats 4000000 in
set_option maxRecDepth 100000 in
theorem lp_X12_settled_121_ok {G : jG} (C : jc cfM 33 G cX12_settled RX12 8 (some .int) 3) (F : Nat) {v : (Int32 × jS)} (k164 : Int32 → Int32 → Int32 → Int32 → jS → Option (Int32 × jS)) (hk164 : ∀ (x1 : Int32) (x3 : Int32) (x5 : Int32) (x6 : Int32) (σ : jS), k164 x1 x3 x5 x6 σ = some v → JM G 164 [(0, .ref (vad (gV G) 0)), (1, .int x1), (3, .int x3), (5, .int x5), (6, .int x6)] [] σ v) : ∀ (n : Nat) (x1 : Int32) (x3 : Int32) (x5 : Int32) (x6 : Int32) (x7 : Int32) (σ : jS), lp_X12_settled_121 F k164 n x1 x3 x5 x6 x7 σ = some v → JM G 121 [(0, .ref (vad (gV G) 0)), (1, .int x1), (3, .int x3), (5, .int x5), (6, .int x6), (7, .int x7)] [] σ v := by
  intro n
  induction n with
  | zero =>
    intro x1 x3 x5 x6 x7 σ hm
    rw [lp_X12_settled_121] at hm
    cases hm
  | succ n ih =>
    intro x1 x3 x5 x6 x7 σ hm
    rw [lp_X12_settled_121] at hm
    refine j_iload (pc := 121) C 5 dX12_settled_121 rfl ?_
    refine j_iloadn (pc := 123) C 1 dX12_settled_123 rfl rfl ?_
    refine j_icmp_ge (tgt := 164) (pc := 124) C dX12_settled_124 (by decide) hm (fun _ hm => ?_) (fun _ hm => ?_)
    · refine j_iload (pc := 127) C 3 dX12_settled_127 rfl ?_
      refine j_iload (pc := 129) C 5 dX12_settled_129 rfl ?_
      obtain ⟨q12, hq12, hm⟩ := Option.bind_eq_some_iff.mp hm
      refine cl_X12_350 (pc := 131) C (kX12_has hq12) (by decide) (Nat.le_of_ble_eq_true rfl) dX12_settled_131 ?_
      refine j_if_eq (tgt := 158) (pc := 134) C dX12_settled_134 (by decide) hm (fun _ hm => ?_) (fun _ hm => ?_)
      · refine j_iinc (v := (x7 + (1 : Int32))) (ls' := [(7, .int (x7 + (1 : Int32))), (0, .ref (vad (gV G) 0)), (1, .int x1), (3, .int x3), (5, .int x5), (6, .int x6)]) (pc := 158) C 5 dX12_settled_158 rfl rfl (by decide) rfl ?_
        refine j_goto (tgt := 121) (pc := 161) C dX12_settled_161 (by decide) ?_
        refine j_ls [1, 2, 3, 4, 5, 0] rfl ?_
        exact ih _ _ _ _ _ _ hm
      · refine j_iload (pc := 137) C 4 dX12_settled_137 rfl ?_
        refine j_aloadn (pc := 139) C 0 dX12_settled_139 rfl rfl ?_
        refine gf_X12_89 (c := 0) (pc := 140) C km_0 dX12_settled_140 ?_
        refine j_iload (pc := 143) C 3 dX12_settled_143 rfl ?_
        refine j_iconst (v := 1) (pc := 145) C dX12_settled_145 (by decide) ?_
        refine j_iload (pc := 146) C 5 dX12_settled_146 rfl ?_
        refine j_ishl (pc := 148) C dX12_settled_148 ?_
        refine j_iconst (v := -1) (pc := 149) C dX12_settled_149 (by decide) ?_
        refine j_ixor (pc := 150) C dX12_settled_150 ?_
        refine j_iand (pc := 151) C dX12_settled_151 ?_
        refine j_lti hm (fun y13 hm => ?_)
        refine j_guard hm (fun hg14 hm => ?_)
        refine j_iald (c := 27) (n := 256) (pc := 152) C (kM_lt km_27 (by decide)) (cm_a km_27 lm_27 _) hg14 dX12_settled_152 ?_
        obtain ⟨q15, hq15, hm⟩ := Option.bind_eq_some_iff.mp hm
        refine cl_X12_302 (pc := 153) C (kX12_max hq15) (by decide) (Nat.le_of_ble_eq_true rfl) dX12_settled_153 ?_
        refine j_istore (ls' := [(6, .int q15), (0, .ref (vad (gV G) 0)), (1, .int x1), (3, .int x3), (5, .int x5), (7, .int x7)]) (pc := 156) C dX12_settled_156 (by decide) rfl ?_
        refine j_iinc (v := (x7 + (1 : Int32))) (ls' := [(7, .int (x7 + (1 : Int32))), (6, .int q15), (0, .ref (vad (gV G) 0)), (1, .int x1), (3, .int x3), (5, .int x5)]) (pc := 158) C 5 dX12_settled_158 rfl rfl (by decide) rfl ?_
        refine j_goto (tgt := 121) (pc := 161) C dX12_settled_161 (by decide) ?_
        refine j_ls [2, 3, 4, 5, 1, 0] rfl ?_
        exact ih _ _ _ _ _ _ hm
    · refine j_ls [0, 1, 2, 3, 4] rfl ?_
      exact hk164 _ _ _ _ _ hm

def lp_X12_settled_109 (F : Nat) : Nat → Int32 → Int32 → Int32 → jS → Option (Int32 × jS)
  | 0, _, _, _, _ => none
  | n + 1, x1, x3, x5, σ => (if x3 < x5 then (if jin x3 256 = true then some ((x1 - (σ 27 x3.toNatClampNeg)), σ) else none) else (lp_X12_settled_121 F (fun x1_16 x3_16 x5_16 x6_16 σ16 => (Option.bind (mX12_sumOf F x5_16 x1_16 σ16) fun q17 => (if q17 = 0 then (if jin x5_16 256 = true then (lt (js σ16 27 x5_16.toNatClampNeg (x6_16 + (1 : Int32))) fun σ18 => (lp_X12_settled_109 F n x1_16 x3_16 ((x5_16 + (1 : Int32))) σ18)) else none) else (if jin x5_16 256 = true then (lt (js σ16 27 x5_16.toNatClampNeg (x6_16 + (0 : Int32))) fun σ20 => (lp_X12_settled_109 F n x1_16 x3_16 ((x5_16 + (1 : Int32))) σ20)) else none)))) F x1 x3 x5 (0 : Int32) (0 : Int32) σ))
set_option maxHeartbeats 4000000 in
set_option maxRecDepth 100000 in
theorem lp_X12_settled_109_ok {G : jG} (C : jc cfM 33 G cX12_settled RX12 8 (some .int) 3) (F : Nat) {v : (Int32 × jS)} : ∀ (n : Nat) (x1 : Int32) (x3 : Int32) (x5 : Int32) (σ : jS), lp_X12_settled_109 F n x1 x3 x5 σ = some v → JM G 109 [(0, .ref (vad (gV G) 0)), (1, .int x1), (3, .int x3), (5, .int x5)] [] σ v := by
  intro n
  induction n with
  | zero =>
    intro x1 x3 x5 σ hm
    rw [lp_X12_settled_109] at hm
    cases hm
  | succ n ih =>
    intro x1 x3 x5 σ hm
    rw [lp_X12_settled_109] at hm
    refine j_iload (pc := 109) C 3 dX12_settled_109 rfl ?_
    refine j_iloadn (pc := 111) C 2 dX12_settled_111 rfl rfl ?_
    refine j_icmp_gt (tgt := 195) (pc := 112) C dX12_settled_112 (by decide) hm (fun _ hm => ?_) (fun _ hm => ?_)
    · refine j_iloadn (pc := 195) C 1 dX12_settled_195 rfl rfl ?_
      refine j_aloadn (pc := 196) C 0 dX12_settled_196 rfl rfl ?_
      refine gf_X12_89 (c := 0) (pc := 197) C km_0 dX12_settled_197 ?_
      refine j_iloadn (pc := 200) C 2 dX12_settled_200 rfl rfl ?_
      refine j_guard hm (fun hg11 hm => ?_)
      refine j_iald (c := 27) (n := 256) (pc := 201) C (kM_lt km_27 (by decide)) (cm_a km_27 lm_27 _) hg11 dX12_settled_201 ?_
      refine j_isub (pc := 202) C dX12_settled_202 ?_
      exact j_iretS (pc := 203) C rfl dX12_settled_203 hm
    · refine j_iconst (v := 0) (pc := 115) C dX12_settled_115 (by decide) ?_
      refine j_istore (ls' := [(6, .int (0 : Int32)), (0, .ref (vad (gV G) 0)), (1, .int x1), (3, .int x3), (5, .int x5)]) (pc := 116) C dX12_settled_116 (by decide) rfl ?_
      refine j_iconst (v := 0) (pc := 118) C dX12_settled_118 (by decide) ?_
      refine j_istore (ls' := [(7, .int (0 : Int32)), (6, .int (0 : Int32)), (0, .ref (vad (gV G) 0)), (1, .int x1), (3, .int x3), (5, .int x5)]) (pc := 119) C dX12_settled_119 (by decide) rfl ?_
      refine j_ls [2, 3, 4, 5, 1, 0] rfl ?_
      refine lp_X12_settled_121_ok C F _ (fun x1_16 x3_16 x5_16 x6_16 σ16 hm => ?_) F _ _ _ _ _ _ hm
      refine j_aloadn (pc := 164) C 0 dX12_settled_164 rfl rfl ?_
      refine gf_X12_89 (c := 0) (pc := 165) C km_0 dX12_settled_165 ?_
      refine j_iload (pc := 168) C 3 dX12_settled_168 rfl ?_
      refine j_iload (pc := 170) C 4 dX12_settled_170 rfl ?_
      refine j_aloadn (pc := 172) C 0 dX12_settled_172 rfl rfl ?_
      refine j_iload (pc := 173) C 3 dX12_settled_173 rfl ?_
      refine j_iloadn (pc := 175) C 1 dX12_settled_175 rfl rfl ?_
      obtain ⟨q17, hq17, hm⟩ := Option.bind_eq_some_iff.mp hm
      refine cl_X12_391 (c := 0) (pc := 176) C km_0 (kX12_sumOf hq17) (by decide) (Nat.le_of_ble_eq_true rfl) dX12_settled_176 ?_
      refine j_if_ne (tgt := 186) (pc := 179) C dX12_settled_179 (by decide) hm (fun _ hm => ?_) (fun _ hm => ?_)
      · refine j_iconst (v := 1) (pc := 182) C dX12_settled_182 (by decide) ?_
        refine j_goto (tgt := 187) (pc := 183) C dX12_settled_183 (by decide) ?_
        refine j_iadd (pc := 187) C dX12_settled_187 ?_
        refine j_guard hm (fun hg19 hm => ?_)
        refine j_iastL (c := 27) (n := 256) (pc := 188) C (kM_lt km_27 (by decide)) (cm_a km_27 lm_27) hg19 dX12_settled_188 hm (fun σ18 hm => ?_)
        refine j_iinc (v := (x5_16 + (1 : Int32))) (ls' := [(5, .int (x5_16 + (1 : Int32))), (0, .ref (vad (gV G) 0)), (1, .int x1_16), (3, .int x3_16), (6, .int x6_16)]) (pc := 189) C 3 dX12_settled_189 rfl rfl (by decide) rfl ?_
        refine j_goto (tgt := 109) (pc := 192) C dX12_settled_192 (by decide) ?_
        refine j_ls [1, 2, 3, 0] rfl ?_
        exact ih _ _ _ _ hm
      · refine j_iconst (v := 0) (pc := 186) C dX12_settled_186 (by decide) ?_
        refine j_iadd (pc := 187) C dX12_settled_187 ?_
        refine j_guard hm (fun hg21 hm => ?_)
        refine j_iastL (c := 27) (n := 256) (pc := 188) C (kM_lt km_27 (by decide)) (cm_a km_27 lm_27) hg21 dX12_settled_188 hm (fun σ20 hm => ?_)
        refine j_iinc (v := (x5_16 + (1 : Int32))) (ls' := [(5, .int (x5_16 + (1 : Int32))), (0, .ref (vad (gV G) 0)), (1, .int x1_16), (3, .int x3_16), (6, .int x6_16)]) (pc := 189) C 3 dX12_settled_189 rfl rfl (by decide) rfl ?_
        refine j_goto (tgt := 109) (pc := 192) C dX12_settled_192 (by decide) ?_
        refine j_ls [1, 2, 3, 0] rfl ?_
        exact ih _ _ _ _ hm

def mX12_settled (F : Nat) (x1 : Int32) (x2 : Int32) (σ : jS) : Option (Int32 × jS) := (Option.bind (mX12_in F x1 (2 : Int32) (8 : Int32) σ) fun q1 => (if q1 = 0 then some ((-1 : Int32), σ) else (Option.bind (mX12_in F x2 (0 : Int32) (1 : Int32) σ) fun q2 => (if q2 = 0 then some ((-1 : Int32), σ) else (if (σ 0 6) < ((2 : Int32) * x1) then some ((-1 : Int32), σ) else (lt (js σ 0 6 (0 : Int32)) fun σ3 => (lt (((1 : Int32) <<< (x1 &&& 31)) - (1 : Int32)) fun y4 => (Option.bind (mX12_sumOf F y4 x1 σ3) fun q5 => (if q5 = 0 then (lp_X12_settled_60 F (fun x1_9 x2_9 x3_9 x4_9 σ9 => (if x2_9 = (1 : Int32) then some (x4_9, σ9) else (lt (js σ9 27 0 (0 : Int32)) fun σ10 => (lp_X12_settled_109 F F x1_9 x3_9 (1 : Int32) σ10)))) F x1 x2 y4 (0 : Int32) (0 : Int32) σ3) else some ((-2 : Int32), σ3))))))))))
set_option maxHeartbeats 4000000 in
set_option maxRecDepth 100000 in
theorem kX12_settled {V : jV} {F : Nat} {x1 : Int32} {x2 : Int32} {σ : jS} {v : (Int32 × jS)} (hm : mX12_settled F x1 x2 σ = some v) : Ct cfM 33 V yX12_settled cX12_settled 8 (some .int) 3 [.ref (vad V 0), .int x1, .int x2] σ v := by
  refine j_start (own := RX12) (by decide) rfl (Nat.le_of_ble_eq_true rfl) ?_
  intro G hV C
  subst hV
  unfold mX12_settled at hm
  show JM G 0 [(0, .ref (vad (gV G) 0)), (1, .int x1), (2, .int x2)] [] σ v
  refine j_iloadn (pc := 0) C 1 dX12_settled_0 rfl rfl ?_
  refine j_iconst (v := 2) (pc := 1) C dX12_settled_1 (by decide) ?_
  refine j_bipush (v := 8) (pc := 2) C dX12_settled_2 (by decide) ?_
  obtain ⟨q1, hq1, hm⟩ := Option.bind_eq_some_iff.mp hm
  refine cl_X12_107 (pc := 4) C (kX12_in hq1) (by decide) (Nat.le_of_ble_eq_true rfl) dX12_settled_4 ?_
  refine j_if_eq (tgt := 29) (pc := 7) C dX12_settled_7 (by decide) hm (fun _ hm => ?_) (fun _ hm => ?_)
  · refine j_iconst (v := -1) (pc := 29) C dX12_settled_29 (by decide) ?_
    exact j_iretS (pc := 30) C rfl dX12_settled_30 hm
  · refine j_iloadn (pc := 10) C 2 dX12_settled_10 rfl rfl ?_
    refine j_iconst (v := 0) (pc := 11) C dX12_settled_11 (by decide) ?_
    refine j_iconst (v := 1) (pc := 12) C dX12_settled_12 (by decide) ?_
    obtain ⟨q2, hq2, hm⟩ := Option.bind_eq_some_iff.mp hm
    refine cl_X12_107 (pc := 13) C (kX12_in hq2) (by decide) (Nat.le_of_ble_eq_true rfl) dX12_settled_13 ?_
    refine j_if_eq (tgt := 29) (pc := 16) C dX12_settled_16 (by decide) hm (fun _ hm => ?_) (fun _ hm => ?_)
    · refine j_iconst (v := -1) (pc := 29) C dX12_settled_29 (by decide) ?_
      exact j_iretS (pc := 30) C rfl dX12_settled_30 hm
    · refine j_iconst (v := 2) (pc := 19) C dX12_settled_19 (by decide) ?_
      refine j_iloadn (pc := 20) C 1 dX12_settled_20 rfl rfl ?_
      refine j_imul (pc := 21) C dX12_settled_21 ?_
      refine j_aloadn (pc := 22) C 0 dX12_settled_22 rfl rfl ?_
      refine gf_X12_120 (c := 0) (pc := 23) C km_0 dX12_settled_23 ?_
      refine j_icmp_le (tgt := 31) (pc := 26) C dX12_settled_26 (by decide) hm (fun _ hm => ?_) (fun _ hm => ?_)
      · refine j_iconst (v := -1) (pc := 29) C dX12_settled_29 (by decide) ?_
        exact j_iretS (pc := 30) C rfl dX12_settled_30 hm
      · refine j_aloadn (pc := 31) C 0 dX12_settled_31 rfl rfl ?_
        refine j_iconst (v := 0) (pc := 32) C dX12_settled_32 (by decide) ?_
        refine pf_X12_120 (c := 0) (pc := 33) C km_0 dX12_settled_33 hm (fun σ3 hm => ?_)
        refine j_iconst (v := 1) (pc := 36) C dX12_settled_36 (by decide) ?_
        refine j_iloadn (pc := 37) C 1 dX12_settled_37 rfl rfl ?_
        refine j_ishl (pc := 38) C dX12_settled_38 ?_
        refine j_iconst (v := 1) (pc := 39) C dX12_settled_39 (by decide) ?_
        refine j_isub (pc := 40) C dX12_settled_40 ?_
        refine j_lti hm (fun y4 hm => ?_)
        refine j_istoren (ls' := [(3, .int y4), (0, .ref (vad (gV G) 0)), (1, .int x1), (2, .int x2)]) (pc := 41) C dX12_settled_41 rfl (by decide) rfl ?_
        refine j_aloadn (pc := 42) C 1 dX12_settled_42 rfl rfl ?_
        refine j_iloadn (pc := 43) C 0 dX12_settled_43 rfl rfl ?_
        refine j_iloadn (pc := 44) C 2 dX12_settled_44 rfl rfl ?_
        obtain ⟨q5, hq5, hm⟩ := Option.bind_eq_some_iff.mp hm
        refine cl_X12_391 (c := 0) (pc := 45) C km_0 (kX12_sumOf hq5) (by decide) (Nat.le_of_ble_eq_true rfl) dX12_settled_45 ?_
        refine j_if_eq (tgt := 54) (pc := 48) C dX12_settled_48 (by decide) hm (fun _ hm => ?_) (fun _ hm => ?_)
        · refine j_iconst (v := 0) (pc := 54) C dX12_settled_54 (by decide) ?_
          refine j_istore (ls' := [(4, .int (0 : Int32)), (3, .int y4), (0, .ref (vad (gV G) 0)), (1, .int x1), (2, .int x2)]) (pc := 55) C dX12_settled_55 (by decide) rfl ?_
          refine j_iconst (v := 0) (pc := 57) C dX12_settled_57 (by decide) ?_
          refine j_istore (ls' := [(5, .int (0 : Int32)), (4, .int (0 : Int32)), (3, .int y4), (0, .ref (vad (gV G) 0)), (1, .int x1), (2, .int x2)]) (pc := 58) C dX12_settled_58 (by decide) rfl ?_
          refine j_ls [3, 4, 5, 2, 1, 0] rfl ?_
          refine lp_X12_settled_60_ok C F _ (fun x1_9 x2_9 x3_9 x4_9 σ9 hm => ?_) F _ _ _ _ _ _ hm
          refine j_iloadn (pc := 91) C 2 dX12_settled_91 rfl rfl ?_
          refine j_iconst (v := 1) (pc := 92) C dX12_settled_92 (by decide) ?_
          refine j_icmp_ne (tgt := 99) (pc := 93) C dX12_settled_93 (by decide) hm (fun _ hm => ?_) (fun _ hm => ?_)
          · refine j_iload (pc := 96) C 4 dX12_settled_96 rfl ?_
            exact j_iretS (pc := 98) C rfl dX12_settled_98 hm
          · refine j_aloadn (pc := 99) C 0 dX12_settled_99 rfl rfl ?_
            refine gf_X12_89 (c := 0) (pc := 100) C km_0 dX12_settled_100 ?_
            refine j_iconst (v := 0) (pc := 103) C dX12_settled_103 (by decide) ?_
            refine j_iconst (v := 0) (pc := 104) C dX12_settled_104 (by decide) ?_
            refine j_iastK (c := 27) (n := 256) (k := 0) (pc := 105) C (kM_lt km_27 (by decide)) (cm_a km_27 lm_27) rfl (by decide) dX12_settled_105 hm (fun σ10 hm => ?_)
            refine j_iconst (v := 1) (pc := 106) C dX12_settled_106 (by decide) ?_
            refine j_istore (ls' := [(5, .int (1 : Int32)), (0, .ref (vad (gV G) 0)), (1, .int x1_9), (2, .int x2_9), (3, .int x3_9), (4, .int x4_9)]) (pc := 107) C dX12_settled_107 (by decide) rfl ?_
            refine j_ls [1, 2, 4, 0] rfl ?_
            exact lp_X12_settled_109_ok C F  F _ _ _ _ hm
        · refine j_bipush (v := -2) (pc := 51) C dX12_settled_51 (by decide) ?_
          exact j_iretS (pc := 53) C rfl dX12_settled_53 hm

def lp_X12_nextRow_4 (F : Nat) (k24 : Int32 → Int32 → jS → Option (Int32 × jS)) : Nat → Int32 → Int32 → jS → Option (Int32 × jS)
  | 0, _, _, _ => none
  | n + 1, x1, x2, σ => (if x2 < 0 then (k24 x1 x2 σ) else (if jin x2 5 = true then (if (σ 28 x2.toNatClampNeg) = 0 then (lt (x2 - (1 : Int32)) fun y3 => (lp_X12_nextRow_4 F k24 n x1 y3 σ)) else (k24 x1 x2 σ)) else none))
set_option maxHeartbeats 4000000 in
set_option maxRecDepth 100000 in
theorem lp_X12_nextRow_4_ok {G : jG} (C : jc cfM 33 G cX12_nextRow RX12 5 (some .boolean) 0) (F : Nat) {v : (Int32 × jS)} (k24 : Int32 → Int32 → jS → Option (Int32 × jS)) (hk24 : ∀ (x1 : Int32) (x2 : Int32) (σ : jS), k24 x1 x2 σ = some v → JM G 24 [(0, .ref (vad (gV G) 0)), (1, .int x1), (2, .int x2)] [] σ v) : ∀ (n : Nat) (x1 : Int32) (x2 : Int32) (σ : jS), lp_X12_nextRow_4 F k24 n x1 x2 σ = some v → JM G 4 [(0, .ref (vad (gV G) 0)), (1, .int x1), (2, .int x2)] [] σ v := by
  intro n
  induction n with
  | zero =>
    intro x1 x2 σ hm
    rw [lp_X12_nextRow_4] at hm
    cases hm
  | succ n ih =>
    intro x1 x2 σ hm
    rw [lp_X12_nextRow_4] at hm
    refine j_iloadn (pc := 4) C 2 dX12_nextRow_4 rfl rfl ?_
    refine j_if_lt (tgt := 24) (pc := 5) C dX12_nextRow_5 (by decide) hm (fun _ hm => ?_) (fun _ hm => ?_)
    · exact hk24 _ _ _ hm
    · refine j_aloadn (pc := 8) C 0 dX12_nextRow_8 rfl rfl ?_
      refine gf_X12_92 (c := 0) (pc := 9) C km_0 dX12_nextRow_9 ?_
      refine j_iloadn (pc := 12) C 2 dX12_nextRow_12 rfl rfl ?_
      refine j_guard hm (fun hg2 hm => ?_)
      refine j_iald (c := 28) (n := 5) (pc := 13) C (kM_lt km_28 (by decide)) (cm_a km_28 lm_28 _) hg2 dX12_nextRow_13 ?_
      refine j_if_ne (tgt := 24) (pc := 14) C dX12_nextRow_14 (by decide) hm (fun _ hm => ?_) (fun _ hm => ?_)
      · refine j_iloadn (pc := 17) C 2 dX12_nextRow_17 rfl rfl ?_
        refine j_iconst (v := 1) (pc := 18) C dX12_nextRow_18 (by decide) ?_
        refine j_isub (pc := 19) C dX12_nextRow_19 ?_
        refine j_lti hm (fun y3 hm => ?_)
        refine j_istoren (ls' := [(2, .int y3), (0, .ref (vad (gV G) 0)), (1, .int x1)]) (pc := 20) C dX12_nextRow_20 rfl (by decide) rfl ?_
        refine j_goto (tgt := 4) (pc := 21) C dX12_nextRow_21 (by decide) ?_
        refine j_ls [1, 2, 0] rfl ?_
        exact ih _ _ _ hm
      · exact hk24 _ _ _ hm

def lp_X12_nextRow_37 (F : Nat) (k67 : Int32 → Int32 → jS → Option (Int32 × jS)) : Nat → Int32 → Int32 → Int32 → Int32 → jS → Option (Int32 × jS)
  | 0, _, _, _, _, _ => none
  | n + 1, x1, x2, x3, x4, σ => (if x4 < x1 then (if jin x4 5 = true then (lt (x3 + (σ 28 x4.toNatClampNeg)) fun y7 => (if jin x4 5 = true then (lt (js σ 28 x4.toNatClampNeg (0 : Int32)) fun σ8 => (lp_X12_nextRow_37 F k67 n x1 x2 y7 ((x4 + (1 : Int32))) σ8)) else none)) else none) else (k67 x2 x3 σ))
set_option maxHeartbeats 4000000 in
set_option maxRecDepth 100000 in
theorem lp_X12_nextRow_37_ok {G : jG} (C : jc cfM 33 G cX12_nextRow RX12 5 (some .boolean) 0) (F : Nat) {v : (Int32 × jS)} (k67 : Int32 → Int32 → jS → Option (Int32 × jS)) (hk67 : ∀ (x2 : Int32) (x3 : Int32) (σ : jS), k67 x2 x3 σ = some v → JM G 67 [(0, .ref (vad (gV G) 0)), (2, .int x2), (3, .int x3)] [] σ v) : ∀ (n : Nat) (x1 : Int32) (x2 : Int32) (x3 : Int32) (x4 : Int32) (σ : jS), lp_X12_nextRow_37 F k67 n x1 x2 x3 x4 σ = some v → JM G 37 [(0, .ref (vad (gV G) 0)), (1, .int x1), (2, .int x2), (3, .int x3), (4, .int x4)] [] σ v := by
  intro n
  induction n with
  | zero =>
    intro x1 x2 x3 x4 σ hm
    rw [lp_X12_nextRow_37] at hm
    cases hm
  | succ n ih =>
    intro x1 x2 x3 x4 σ hm
    rw [lp_X12_nextRow_37] at hm
    refine j_iload (pc := 37) C 4 dX12_nextRow_37 rfl ?_
    refine j_iloadn (pc := 39) C 1 dX12_nextRow_39 rfl rfl ?_
    refine j_icmp_ge (tgt := 67) (pc := 40) C dX12_nextRow_40 (by decide) hm (fun _ hm => ?_) (fun _ hm => ?_)
    · refine j_iloadn (pc := 43) C 3 dX12_nextRow_43 rfl rfl ?_
      refine j_aloadn (pc := 44) C 0 dX12_nextRow_44 rfl rfl ?_
      refine gf_X12_92 (c := 0) (pc := 45) C km_0 dX12_nextRow_45 ?_
      refine j_iload (pc := 48) C 4 dX12_nextRow_48 rfl ?_
      refine j_guard hm (fun hg6 hm => ?_)
      refine j_iald (c := 28) (n := 5) (pc := 50) C (kM_lt km_28 (by decide)) (cm_a km_28 lm_28 _) hg6 dX12_nextRow_50 ?_
      refine j_iadd (pc := 51) C dX12_nextRow_51 ?_
      refine j_lti hm (fun y7 hm => ?_)
      refine j_istoren (ls' := [(3, .int y7), (0, .ref (vad (gV G) 0)), (1, .int x1), (2, .int x2), (4, .int x4)]) (pc := 52) C dX12_nextRow_52 rfl (by decide) rfl ?_
      refine j_aloadn (pc := 53) C 1 dX12_nextRow_53 rfl rfl ?_
      refine gf_X12_92 (c := 0) (pc := 54) C km_0 dX12_nextRow_54 ?_
      refine j_iload (pc := 57) C 4 dX12_nextRow_57 rfl ?_
      refine j_iconst (v := 0) (pc := 59) C dX12_nextRow_59 (by decide) ?_
      refine j_guard hm (fun hg9 hm => ?_)
      refine j_iastL (c := 28) (n := 5) (pc := 60) C (kM_lt km_28 (by decide)) (cm_a km_28 lm_28) hg9 dX12_nextRow_60 hm (fun σ8 hm => ?_)
      refine j_iinc (v := (x4 + (1 : Int32))) (ls' := [(4, .int (x4 + (1 : Int32))), (3, .int y7), (0, .ref (vad (gV G) 0)), (1, .int x1), (2, .int x2)]) (pc := 61) C 4 dX12_nextRow_61 rfl rfl (by decide) rfl ?_
      refine j_goto (tgt := 37) (pc := 64) C dX12_nextRow_64 (by decide) ?_
      refine j_ls [2, 3, 4, 1, 0] rfl ?_
      exact ih _ _ _ _ _ hm
    · refine j_ls [0, 2, 3] rfl ?_
      exact hk67 _ _ _ hm

def jn_X12_nextRow_24 (F : Nat) (x1 : Int32) (x2 : Int32) (σ : jS) : Option (Int32 × jS) := (if x2 < 0 then some ((0 : Int32), σ) else (lt (x2 + (1 : Int32)) fun y5 => (lp_X12_nextRow_37 F (fun x2_10 x3_10 σ10 => (if jin x2_10 5 = true then (if jin x2_10 5 = true then (lt (js σ10 28 x2_10.toNatClampNeg ((σ10 28 x2_10.toNatClampNeg) - (1 : Int32))) fun σ12 => (if jin (x2_10 + (1 : Int32)) 5 = true then (lt (js σ12 28 (x2_10 + (1 : Int32)).toNatClampNeg (x3_10 + (1 : Int32))) fun σ14 => some ((1 : Int32), σ14)) else none)) else none) else none)) F x1 x2 (0 : Int32) y5 σ)))
set_option maxHeartbeats 4000000 in
set_option maxRecDepth 100000 in
theorem jn_X12_nextRow_24_ok {G : jG} (C : jc cfM 33 G cX12_nextRow RX12 5 (some .boolean) 0) (F : Nat) {v : (Int32 × jS)} : ∀ (x1 : Int32) (x2 : Int32) (σ : jS), jn_X12_nextRow_24 F x1 x2 σ = some v → JM G 24 [(0, .ref (vad (gV G) 0)), (1, .int x1), (2, .int x2)] [] σ v := by
  intro x1 x2 σ hm
  unfold jn_X12_nextRow_24 at hm
  refine j_iloadn (pc := 24) C 2 dX12_nextRow_24 rfl rfl ?_
  refine j_if_ge (tgt := 30) (pc := 25) C dX12_nextRow_25 (by decide) hm (fun _ hm => ?_) (fun _ hm => ?_)
  · refine j_iconst (v := 0) (pc := 28) C dX12_nextRow_28 (by decide) ?_
    exact j_zretS (pc := 29) C rfl rfl dX12_nextRow_29 hm
  · refine j_iconst (v := 0) (pc := 30) C dX12_nextRow_30 (by decide) ?_
    refine j_istoren (ls' := [(3, .int (0 : Int32)), (0, .ref (vad (gV G) 0)), (1, .int x1), (2, .int x2)]) (pc := 31) C dX12_nextRow_31 rfl (by decide) rfl ?_
    refine j_iloadn (pc := 32) C 3 dX12_nextRow_32 rfl rfl ?_
    refine j_iconst (v := 1) (pc := 33) C dX12_nextRow_33 (by decide) ?_
    refine j_iadd (pc := 34) C dX12_nextRow_34 ?_
    refine j_lti hm (fun y5 hm => ?_)
    refine j_istore (ls' := [(4, .int y5), (3, .int (0 : Int32)), (0, .ref (vad (gV G) 0)), (1, .int x1), (2, .int x2)]) (pc := 35) C dX12_nextRow_35 (by decide) rfl ?_
    refine j_ls [2, 3, 4, 1, 0] rfl ?_
    refine lp_X12_nextRow_37_ok C F _ (fun x2_10 x3_10 σ10 hm => ?_) F _ _ _ _ _ hm
    refine j_aloadn (pc := 67) C 0 dX12_nextRow_67 rfl rfl ?_
    refine gf_X12_92 (c := 0) (pc := 68) C km_0 dX12_nextRow_68 ?_
    refine j_iloadn (pc := 71) C 1 dX12_nextRow_71 rfl rfl ?_
    refine j_aloadn (pc := 72) C 0 dX12_nextRow_72 rfl rfl ?_
    refine gf_X12_92 (c := 0) (pc := 73) C km_0 dX12_nextRow_73 ?_
    refine j_iloadn (pc := 76) C 1 dX12_nextRow_76 rfl rfl ?_
    refine j_guard hm (fun hg11 hm => ?_)
    refine j_iald (c := 28) (n := 5) (pc := 77) C (kM_lt km_28 (by decide)) (cm_a km_28 lm_28 _) hg11 dX12_nextRow_77 ?_
    refine j_iconst (v := 1) (pc := 78) C dX12_nextRow_78 (by decide) ?_
    refine j_isub (pc := 79) C dX12_nextRow_79 ?_
    refine j_guard hm (fun hg13 hm => ?_)
    refine j_iastL (c := 28) (n := 5) (pc := 80) C (kM_lt km_28 (by decide)) (cm_a km_28 lm_28) hg13 dX12_nextRow_80 hm (fun σ12 hm => ?_)
    refine j_aloadn (pc := 81) C 0 dX12_nextRow_81 rfl rfl ?_
    refine gf_X12_92 (c := 0) (pc := 82) C km_0 dX12_nextRow_82 ?_
    refine j_iloadn (pc := 85) C 1 dX12_nextRow_85 rfl rfl ?_
    refine j_iconst (v := 1) (pc := 86) C dX12_nextRow_86 (by decide) ?_
    refine j_iadd (pc := 87) C dX12_nextRow_87 ?_
    refine j_iloadn (pc := 88) C 2 dX12_nextRow_88 rfl rfl ?_
    refine j_iconst (v := 1) (pc := 89) C dX12_nextRow_89 (by decide) ?_
    refine j_iadd (pc := 90) C dX12_nextRow_90 ?_
    refine j_guard hm (fun hg15 hm => ?_)
    refine j_iastL (c := 28) (n := 5) (pc := 91) C (kM_lt km_28 (by decide)) (cm_a km_28 lm_28) hg15 dX12_nextRow_91 hm (fun σ14 hm => ?_)
    refine j_iconst (v := 1) (pc := 92) C dX12_nextRow_92 (by decide) ?_
    exact j_zretS (pc := 93) C rfl rfl dX12_nextRow_93 hm

def mX12_nextRow (F : Nat) (x1 : Int32) (σ : jS) : Option (Int32 × jS) := (lt (x1 - (2 : Int32)) fun y1 => (lp_X12_nextRow_4 F (fun x1_4 x2_4 σ4 => (jn_X12_nextRow_24 F x1_4 x2_4 σ4)) F x1 y1 σ))
set_option maxHeartbeats 4000000 in
set_option maxRecDepth 100000 in
theorem kX12_nextRow {V : jV} {F : Nat} {x1 : Int32} {σ : jS} {v : (Int32 × jS)} (hm : mX12_nextRow F x1 σ = some v) : Ct cfM 33 V yX12_nextRow cX12_nextRow 5 (some .boolean) 0 [.ref (vad V 0), .int x1] σ v := by
  refine j_start (own := RX12) (by decide) rfl (Nat.le_of_ble_eq_true rfl) ?_
  intro G hV C
  subst hV
  unfold mX12_nextRow at hm
  show JM G 0 [(0, .ref (vad (gV G) 0)), (1, .int x1)] [] σ v
  refine j_iloadn (pc := 0) C 1 dX12_nextRow_0 rfl rfl ?_
  refine j_iconst (v := 2) (pc := 1) C dX12_nextRow_1 (by decide) ?_
  refine j_isub (pc := 2) C dX12_nextRow_2 ?_
  refine j_lti hm (fun y1 hm => ?_)
  refine j_istoren (ls' := [(2, .int y1), (0, .ref (vad (gV G) 0)), (1, .int x1)]) (pc := 3) C dX12_nextRow_3 rfl (by decide) rfl ?_
  refine j_ls [1, 2, 0] rfl ?_
  refine lp_X12_nextRow_4_ok C F _ (fun x1_4 x2_4 σ4 hm => ?_) F _ _ _ hm
  exact jn_X12_nextRow_24_ok C F  _ _ _ hm

def lp_X12_sumBy_5 (F : Nat) (σ : jS) : Nat → Int32 → Int32 → Int32 → Int32 → Option Int32
  | 0, _, _, _, _ => none
  | n + 1, x1, x2, x3, x4 => (if x4 < x1 then (if jin x4 5 = true then (Option.bind (mX12_octet F ((((2 : Int32) * x4) + x2)) σ) fun q2 => (lt (x3 + ((σ 28 x4.toNatClampNeg) * q2)) fun y3 => (lp_X12_sumBy_5 F σ n x1 x2 y3 ((x4 + (1 : Int32)))))) else none) else some x3)
set_option maxHeartbeats 4000000 in
set_option maxRecDepth 100000 in
theorem lp_X12_sumBy_5_ok {G : jG} (C : jc cfM 33 G cX12_sumBy RX12 5 (some .int) 1) (F : Nat) (σ : jS) {v : Int32} : ∀ (n : Nat) (x1 : Int32) (x2 : Int32) (x3 : Int32) (x4 : Int32), lp_X12_sumBy_5 F σ n x1 x2 x3 x4 = some v → JM G 5 [(0, .ref (vad (gV G) 0)), (1, .int x1), (2, .int x2), (3, .int x3), (4, .int x4)] [] σ (v, σ) := by
  intro n
  induction n with
  | zero =>
    intro x1 x2 x3 x4 hm
    rw [lp_X12_sumBy_5] at hm
    cases hm
  | succ n ih =>
    intro x1 x2 x3 x4 hm
    rw [lp_X12_sumBy_5] at hm
    refine j_iload (pc := 5) C 4 dX12_sumBy_5 rfl ?_
    refine j_iloadn (pc := 7) C 1 dX12_sumBy_7 rfl rfl ?_
    refine j_icmp_ge (tgt := 38) (pc := 8) C dX12_sumBy_8 (by decide) hm (fun _ hm => ?_) (fun _ hm => ?_)
    · refine j_iloadn (pc := 11) C 3 dX12_sumBy_11 rfl rfl ?_
      refine j_aloadn (pc := 12) C 0 dX12_sumBy_12 rfl rfl ?_
      refine gf_X12_92 (c := 0) (pc := 13) C km_0 dX12_sumBy_13 ?_
      refine j_iload (pc := 16) C 4 dX12_sumBy_16 rfl ?_
      refine j_guard hm (fun hg1 hm => ?_)
      refine j_iald (c := 28) (n := 5) (pc := 18) C (kM_lt km_28 (by decide)) (cm_a km_28 lm_28 _) hg1 dX12_sumBy_18 ?_
      refine j_aloadn (pc := 19) C 0 dX12_sumBy_19 rfl rfl ?_
      refine j_iconst (v := 2) (pc := 20) C dX12_sumBy_20 (by decide) ?_
      refine j_iload (pc := 21) C 4 dX12_sumBy_21 rfl ?_
      refine j_imul (pc := 23) C dX12_sumBy_23 ?_
      refine j_iloadn (pc := 24) C 2 dX12_sumBy_24 rfl rfl ?_
      refine j_iadd (pc := 25) C dX12_sumBy_25 ?_
      obtain ⟨q2, hq2, hm⟩ := Option.bind_eq_some_iff.mp hm
      refine cl_X12_384 (c := 0) (pc := 26) C km_0 (kX12_octet hq2) (by decide) (Nat.le_of_ble_eq_true rfl) dX12_sumBy_26 ?_
      refine j_imul (pc := 29) C dX12_sumBy_29 ?_
      refine j_iadd (pc := 30) C dX12_sumBy_30 ?_
      refine j_lti hm (fun y3 hm => ?_)
      refine j_istoren (ls' := [(3, .int y3), (0, .ref (vad (gV G) 0)), (1, .int x1), (2, .int x2), (4, .int x4)]) (pc := 31) C dX12_sumBy_31 rfl (by decide) rfl ?_
      refine j_iinc (v := (x4 + (1 : Int32))) (ls' := [(4, .int (x4 + (1 : Int32))), (3, .int y3), (0, .ref (vad (gV G) 0)), (1, .int x1), (2, .int x2)]) (pc := 32) C 4 dX12_sumBy_32 rfl rfl (by decide) rfl ?_
      refine j_goto (tgt := 5) (pc := 35) C dX12_sumBy_35 (by decide) ?_
      refine j_ls [2, 3, 4, 1, 0] rfl ?_
      exact ih _ _ _ _ hm
    · refine j_iloadn (pc := 38) C 3 dX12_sumBy_38 rfl rfl ?_
      exact j_iret (pc := 39) C rfl dX12_sumBy_39 hm

def mX12_sumBy (F : Nat) (x1 : Int32) (x2 : Int32) (σ : jS) : Option Int32 := (lp_X12_sumBy_5 F σ F x1 x2 (0 : Int32) (0 : Int32))
set_option maxHeartbeats 4000000 in
set_option maxRecDepth 100000 in
theorem kX12_sumBy {V : jV} {F : Nat} {x1 : Int32} {x2 : Int32} {σ : jS} {v : Int32} (hm : mX12_sumBy F x1 x2 σ = some v) : Ct cfM 33 V yX12_sumBy cX12_sumBy 5 (some .int) 1 [.ref (vad V 0), .int x1, .int x2] σ (v, σ) := by
  refine j_start (own := RX12) (by decide) rfl (Nat.le_of_ble_eq_true rfl) ?_
  intro G hV C
  subst hV
  unfold mX12_sumBy at hm
  show JM G 0 [(0, .ref (vad (gV G) 0)), (1, .int x1), (2, .int x2)] [] σ (v, σ)
  refine j_iconst (v := 0) (pc := 0) C dX12_sumBy_0 (by decide) ?_
  refine j_istoren (ls' := [(3, .int (0 : Int32)), (0, .ref (vad (gV G) 0)), (1, .int x1), (2, .int x2)]) (pc := 1) C dX12_sumBy_1 rfl (by decide) rfl ?_
  refine j_iconst (v := 0) (pc := 2) C dX12_sumBy_2 (by decide) ?_
  refine j_istore (ls' := [(4, .int (0 : Int32)), (3, .int (0 : Int32)), (0, .ref (vad (gV G) 0)), (1, .int x1), (2, .int x2)]) (pc := 3) C dX12_sumBy_3 (by decide) rfl ?_
  refine j_ls [2, 3, 4, 1, 0] rfl ?_
  exact lp_X12_sumBy_5_ok C F σ  F _ _ _ _ hm

def lp_X12_joy_61 (F : Nat) (k100 : Int32 → Int32 → Int32 → Int32 → jS → Option (Int32 × jS)) : Nat → Int32 → Int32 → Int32 → Int32 → Int32 → jS → Option (Int32 × jS)
  | 0, _, _, _, _, _, _ => none
  | n + 1, x1, x2, x3, x4, x5, σ => (if x5 < x1 then (if x5 = 0 then (if jin x5 5 = true then (lt (js σ 28 x5.toNatClampNeg (24 : Int32)) fun σ5 => (if jin x5 5 = true then (lt (js σ5 29 x5.toNatClampNeg (-2 : Int32)) fun σ7 => (lp_X12_joy_61 F k100 n x1 x2 x3 x4 ((x5 + (1 : Int32))) σ7)) else none)) else none) else (if jin x5 5 = true then (lt (js σ 28 x5.toNatClampNeg (0 : Int32)) fun σ9 => (if jin x5 5 = true then (lt (js σ9 29 x5.toNatClampNeg (-2 : Int32)) fun σ11 => (lp_X12_joy_61 F k100 n x1 x2 x3 x4 ((x5 + (1 : Int32))) σ11)) else none)) else none)) else (k100 x1 x2 x3 x4 σ))
set_option maxHeartbeats 4000000 in
set_option maxRecDepth 100000 in
theorem lp_X12_joy_61_ok {G : jG} (C : jc cfM 33 G cX12_joy RX12 7 (some .int) 2) (F : Nat) {v : (Int32 × jS)} (k100 : Int32 → Int32 → Int32 → Int32 → jS → Option (Int32 × jS)) (hk100 : ∀ (x1 : Int32) (x2 : Int32) (x3 : Int32) (x4 : Int32) (σ : jS), k100 x1 x2 x3 x4 σ = some v → JM G 100 [(0, .ref (vad (gV G) 0)), (1, .int x1), (2, .int x2), (3, .int x3), (4, .int x4)] [] σ v) : ∀ (n : Nat) (x1 : Int32) (x2 : Int32) (x3 : Int32) (x4 : Int32) (x5 : Int32) (σ : jS), lp_X12_joy_61 F k100 n x1 x2 x3 x4 x5 σ = some v → JM G 61 [(0, .ref (vad (gV G) 0)), (1, .int x1), (2, .int x2), (3, .int x3), (4, .int x4), (5, .int x5)] [] σ v := by
  intro n
  induction n with
  | zero =>
    intro x1 x2 x3 x4 x5 σ hm
    rw [lp_X12_joy_61] at hm
    cases hm
  | succ n ih =>
    intro x1 x2 x3 x4 x5 σ hm
    rw [lp_X12_joy_61] at hm
    refine j_iload (pc := 61) C 5 dX12_joy_61 rfl ?_
    refine j_iloadn (pc := 63) C 1 dX12_joy_63 rfl rfl ?_
    refine j_icmp_ge (tgt := 100) (pc := 64) C dX12_joy_64 (by decide) hm (fun _ hm => ?_) (fun _ hm => ?_)
    · refine j_aloadn (pc := 67) C 0 dX12_joy_67 rfl rfl ?_
      refine gf_X12_92 (c := 0) (pc := 68) C km_0 dX12_joy_68 ?_
      refine j_iload (pc := 71) C 5 dX12_joy_71 rfl ?_
      refine j_iload (pc := 73) C 5 dX12_joy_73 rfl ?_
      refine j_if_ne (tgt := 83) (pc := 75) C dX12_joy_75 (by decide) hm (fun _ hm => ?_) (fun _ hm => ?_)
      · refine j_bipush (v := 24) (pc := 78) C dX12_joy_78 (by decide) ?_
        refine j_goto (tgt := 84) (pc := 80) C dX12_joy_80 (by decide) ?_
        refine j_guard hm (fun hg6 hm => ?_)
        refine j_iastL (c := 28) (n := 5) (pc := 84) C (kM_lt km_28 (by decide)) (cm_a km_28 lm_28) hg6 dX12_joy_84 hm (fun σ5 hm => ?_)
        refine j_aloadn (pc := 85) C 0 dX12_joy_85 rfl rfl ?_
        refine gf_X12_95 (c := 0) (pc := 86) C km_0 dX12_joy_86 ?_
        refine j_iload (pc := 89) C 5 dX12_joy_89 rfl ?_
        refine j_bipush (v := -2) (pc := 91) C dX12_joy_91 (by decide) ?_
        refine j_guard hm (fun hg8 hm => ?_)
        refine j_iastL (c := 29) (n := 5) (pc := 93) C (kM_lt km_29 (by decide)) (cm_a km_29 lm_29) hg8 dX12_joy_93 hm (fun σ7 hm => ?_)
        refine j_iinc (v := (x5 + (1 : Int32))) (ls' := [(5, .int (x5 + (1 : Int32))), (0, .ref (vad (gV G) 0)), (1, .int x1), (2, .int x2), (3, .int x3), (4, .int x4)]) (pc := 94) C 5 dX12_joy_94 rfl rfl (by decide) rfl ?_
        refine j_goto (tgt := 61) (pc := 97) C dX12_joy_97 (by decide) ?_
        refine j_ls [1, 2, 3, 4, 5, 0] rfl ?_
        exact ih _ _ _ _ _ _ hm
      · refine j_iconst (v := 0) (pc := 83) C dX12_joy_83 (by decide) ?_
        refine j_guard hm (fun hg10 hm => ?_)
        refine j_iastL (c := 28) (n := 5) (pc := 84) C (kM_lt km_28 (by decide)) (cm_a km_28 lm_28) hg10 dX12_joy_84 hm (fun σ9 hm => ?_)
        refine j_aloadn (pc := 85) C 0 dX12_joy_85 rfl rfl ?_
        refine gf_X12_95 (c := 0) (pc := 86) C km_0 dX12_joy_86 ?_
        refine j_iload (pc := 89) C 5 dX12_joy_89 rfl ?_
        refine j_bipush (v := -2) (pc := 91) C dX12_joy_91 (by decide) ?_
        refine j_guard hm (fun hg12 hm => ?_)
        refine j_iastL (c := 29) (n := 5) (pc := 93) C (kM_lt km_29 (by decide)) (cm_a km_29 lm_29) hg12 dX12_joy_93 hm (fun σ11 hm => ?_)
        refine j_iinc (v := (x5 + (1 : Int32))) (ls' := [(5, .int (x5 + (1 : Int32))), (0, .ref (vad (gV G) 0)), (1, .int x1), (2, .int x2), (3, .int x3), (4, .int x4)]) (pc := 94) C 5 dX12_joy_94 rfl rfl (by decide) rfl ?_
        refine j_goto (tgt := 61) (pc := 97) C dX12_joy_97 (by decide) ?_
        refine j_ls [1, 2, 3, 4, 5, 0] rfl ?_
        exact ih _ _ _ _ _ _ hm
    · refine j_ls [0, 1, 2, 3, 4] rfl ?_
      exact hk100 _ _ _ _ _ hm

def lp_X12_joy_140 (F : Nat) (k166 : Int32 → Int32 → Int32 → Int32 → jS → Option (Int32 × jS)) : Nat → Int32 → Int32 → Int32 → Int32 → Int32 → jS → Option (Int32 × jS)
  | 0, _, _, _, _, _, _ => none
  | n + 1, x1, x2, x3, x4, x6, σ => (if x6 < x1 then (if jin x6 5 = true then (if jin x6 5 = true then (lt (js σ 29 x6.toNatClampNeg (σ 28 x6.toNatClampNeg)) fun σ19 => (lp_X12_joy_140 F k166 n x1 x2 x3 x4 ((x6 + (1 : Int32))) σ19)) else none) else none) else (k166 x1 x2 x3 x4 σ))
set_option maxHeartbeats 4000000 in
set_option maxRecDepth 100000 in
theorem lp_X12_joy_140_ok {G : jG} (C : jc cfM 33 G cX12_joy RX12 7 (some .int) 2) (F : Nat) {v : (Int32 × jS)} (k166 : Int32 → Int32 → Int32 → Int32 → jS → Option (Int32 × jS)) (hk166 : ∀ (x1 : Int32) (x2 : Int32) (x3 : Int32) (x4 : Int32) (σ : jS), k166 x1 x2 x3 x4 σ = some v → JM G 166 [(0, .ref (vad (gV G) 0)), (1, .int x1), (2, .int x2), (3, .int x3), (4, .int x4)] [] σ v) : ∀ (n : Nat) (x1 : Int32) (x2 : Int32) (x3 : Int32) (x4 : Int32) (x6 : Int32) (σ : jS), lp_X12_joy_140 F k166 n x1 x2 x3 x4 x6 σ = some v → JM G 140 [(0, .ref (vad (gV G) 0)), (1, .int x1), (2, .int x2), (3, .int x3), (4, .int x4), (6, .int x6)] [] σ v := by
  intro n
  induction n with
  | zero =>
    intro x1 x2 x3 x4 x6 σ hm
    rw [lp_X12_joy_140] at hm
    cases hm
  | succ n ih =>
    intro x1 x2 x3 x4 x6 σ hm
    rw [lp_X12_joy_140] at hm
    refine j_iload (pc := 140) C 5 dX12_joy_140 rfl ?_
    refine j_iloadn (pc := 142) C 1 dX12_joy_142 rfl rfl ?_
    refine j_icmp_ge (tgt := 166) (pc := 143) C dX12_joy_143 (by decide) hm (fun _ hm => ?_) (fun _ hm => ?_)
    · refine j_aloadn (pc := 146) C 0 dX12_joy_146 rfl rfl ?_
      refine gf_X12_95 (c := 0) (pc := 147) C km_0 dX12_joy_147 ?_
      refine j_iload (pc := 150) C 5 dX12_joy_150 rfl ?_
      refine j_aloadn (pc := 152) C 0 dX12_joy_152 rfl rfl ?_
      refine gf_X12_92 (c := 0) (pc := 153) C km_0 dX12_joy_153 ?_
      refine j_iload (pc := 156) C 5 dX12_joy_156 rfl ?_
      refine j_guard hm (fun hg18 hm => ?_)
      refine j_iald (c := 28) (n := 5) (pc := 158) C (kM_lt km_28 (by decide)) (cm_a km_28 lm_28 _) hg18 dX12_joy_158 ?_
      refine j_guard hm (fun hg20 hm => ?_)
      refine j_iastL (c := 29) (n := 5) (pc := 159) C (kM_lt km_29 (by decide)) (cm_a km_29 lm_29) hg20 dX12_joy_159 hm (fun σ19 hm => ?_)
      refine j_iinc (v := (x6 + (1 : Int32))) (ls' := [(6, .int (x6 + (1 : Int32))), (0, .ref (vad (gV G) 0)), (1, .int x1), (2, .int x2), (3, .int x3), (4, .int x4)]) (pc := 160) C 5 dX12_joy_160 rfl rfl (by decide) rfl ?_
      refine j_goto (tgt := 140) (pc := 163) C dX12_joy_163 (by decide) ?_
      refine j_ls [1, 2, 3, 4, 5, 0] rfl ?_
      exact ih _ _ _ _ _ _ hm
    · refine j_ls [0, 1, 2, 3, 4] rfl ?_
      exact hk166 _ _ _ _ _ hm

def lp_X12_joy_103 (F : Nat) (k176 : Int32 → Int32 → jS → Option (Int32 × jS)) : Nat → Int32 → Int32 → Int32 → Int32 → Int32 → jS → Option (Int32 × jS)
  | 0, _, _, _, _, _, _ => none
  | n + 1, x1, x2, x3, x4, x5, σ => (if x5 = 0 then (k176 x3 x4 σ) else (Option.bind (mX12_sumBy F x1 (0 : Int32) σ) fun q14 => (if x2 < q14 then (Option.bind (mX12_nextRow F x1 σ) fun q15 => (lp_X12_joy_103 F k176 n x1 x2 x3 x4 q15.1 q15.2)) else (Option.bind (mX12_sumBy F x1 (1 : Int32) σ) fun q16 => (if x4 < q16 then (Option.bind (mX12_sumBy F x1 (1 : Int32) σ) fun q17 => (lp_X12_joy_140 F (fun x1_21 x2_21 x3_21 x4_21 σ21 => (Option.bind (mX12_nextRow F x1_21 σ21) fun q22 => (lp_X12_joy_103 F k176 n x1_21 x2_21 x3_21 x4_21 q22.1 q22.2))) F x1 x2 x3 q17 (0 : Int32) σ)) else (Option.bind (mX12_nextRow F x1 σ) fun q23 => (lp_X12_joy_103 F k176 n x1 x2 x3 x4 q23.1 q23.2)))))))
set_option maxHeartbeats 4000000 in
set_option maxRecDepth 100000 in
theorem lp_X12_joy_103_ok {G : jG} (C : jc cfM 33 G cX12_joy RX12 7 (some .int) 2) (F : Nat) {v : (Int32 × jS)} (k176 : Int32 → Int32 → jS → Option (Int32 × jS)) (hk176 : ∀ (x3 : Int32) (x4 : Int32) (σ : jS), k176 x3 x4 σ = some v → JM G 176 [(0, .ref (vad (gV G) 0)), (3, .int x3), (4, .int x4)] [] σ v) : ∀ (n : Nat) (x1 : Int32) (x2 : Int32) (x3 : Int32) (x4 : Int32) (x5 : Int32) (σ : jS), lp_X12_joy_103 F k176 n x1 x2 x3 x4 x5 σ = some v → JM G 103 [(0, .ref (vad (gV G) 0)), (1, .int x1), (2, .int x2), (3, .int x3), (4, .int x4), (5, .int x5)] [] σ v := by
  intro n
  induction n with
  | zero =>
    intro x1 x2 x3 x4 x5 σ hm
    rw [lp_X12_joy_103] at hm
    cases hm
  | succ n ih =>
    intro x1 x2 x3 x4 x5 σ hm
    rw [lp_X12_joy_103] at hm
    refine j_iload (pc := 103) C 5 dX12_joy_103 rfl ?_
    refine j_if_eq (tgt := 176) (pc := 105) C dX12_joy_105 (by decide) hm (fun _ hm => ?_) (fun _ hm => ?_)
    · refine j_ls [0, 3, 4] rfl ?_
      exact hk176 _ _ _ hm
    · refine j_aloadn (pc := 108) C 0 dX12_joy_108 rfl rfl ?_
      refine j_iloadn (pc := 109) C 1 dX12_joy_109 rfl rfl ?_
      refine j_iconst (v := 0) (pc := 110) C dX12_joy_110 (by decide) ?_
      obtain ⟨q14, hq14, hm⟩ := Option.bind_eq_some_iff.mp hm
      refine cl_X12_394 (c := 0) (pc := 111) C km_0 (kX12_sumBy hq14) (by decide) (Nat.le_of_ble_eq_true rfl) dX12_joy_111 ?_
      refine j_iloadn (pc := 114) C 2 dX12_joy_114 rfl rfl ?_
      refine j_icmp_gt (tgt := 166) (pc := 115) C dX12_joy_115 (by decide) hm (fun _ hm => ?_) (fun _ hm => ?_)
      · refine j_aloadn (pc := 166) C 0 dX12_joy_166 rfl rfl ?_
        refine j_iloadn (pc := 167) C 1 dX12_joy_167 rfl rfl ?_
        obtain ⟨q15, hq15, hm⟩ := Option.bind_eq_some_iff.mp hm
        refine cl_X12_397 (c := 0) (pc := 168) C km_0 (kX12_nextRow hq15) (by decide) (Nat.le_of_ble_eq_true rfl) dX12_joy_168 ?_
        refine j_istore (ls' := [(5, .int q15.1), (0, .ref (vad (gV G) 0)), (1, .int x1), (2, .int x2), (3, .int x3), (4, .int x4)]) (pc := 171) C dX12_joy_171 (by decide) rfl ?_
        refine j_goto (tgt := 103) (pc := 173) C dX12_joy_173 (by decide) ?_
        refine j_ls [1, 2, 3, 4, 5, 0] rfl ?_
        exact ih _ _ _ _ _ _ hm
      · refine j_aloadn (pc := 118) C 0 dX12_joy_118 rfl rfl ?_
        refine j_iloadn (pc := 119) C 1 dX12_joy_119 rfl rfl ?_
        refine j_iconst (v := 1) (pc := 120) C dX12_joy_120 (by decide) ?_
        obtain ⟨q16, hq16, hm⟩ := Option.bind_eq_some_iff.mp hm
        refine cl_X12_394 (c := 0) (pc := 121) C km_0 (kX12_sumBy hq16) (by decide) (Nat.le_of_ble_eq_true rfl) dX12_joy_121 ?_
        refine j_iload (pc := 124) C 4 dX12_joy_124 rfl ?_
        refine j_icmp_le (tgt := 166) (pc := 126) C dX12_joy_126 (by decide) hm (fun _ hm => ?_) (fun _ hm => ?_)
        · refine j_aloadn (pc := 129) C 0 dX12_joy_129 rfl rfl ?_
          refine j_iloadn (pc := 130) C 1 dX12_joy_130 rfl rfl ?_
          refine j_iconst (v := 1) (pc := 131) C dX12_joy_131 (by decide) ?_
          obtain ⟨q17, hq17, hm⟩ := Option.bind_eq_some_iff.mp hm
          refine cl_X12_394 (c := 0) (pc := 132) C km_0 (kX12_sumBy hq17) (by decide) (Nat.le_of_ble_eq_true rfl) dX12_joy_132 ?_
          refine j_istore (ls' := [(4, .int q17), (0, .ref (vad (gV G) 0)), (1, .int x1), (2, .int x2), (3, .int x3), (5, .int x5)]) (pc := 135) C dX12_joy_135 (by decide) rfl ?_
          refine j_iconst (v := 0) (pc := 137) C dX12_joy_137 (by decide) ?_
          refine j_istore (ls' := [(6, .int (0 : Int32)), (4, .int q17), (0, .ref (vad (gV G) 0)), (1, .int x1), (2, .int x2), (3, .int x3), (5, .int x5)]) (pc := 138) C dX12_joy_138 (by decide) rfl ?_
          refine j_ls [2, 3, 4, 5, 1, 0] rfl ?_
          refine lp_X12_joy_140_ok C F _ (fun x1_21 x2_21 x3_21 x4_21 σ21 hm => ?_) F _ _ _ _ _ _ hm
          refine j_aloadn (pc := 166) C 0 dX12_joy_166 rfl rfl ?_
          refine j_iloadn (pc := 167) C 1 dX12_joy_167 rfl rfl ?_
          obtain ⟨q22, hq22, hm⟩ := Option.bind_eq_some_iff.mp hm
          refine cl_X12_397 (c := 0) (pc := 168) C km_0 (kX12_nextRow hq22) (by decide) (Nat.le_of_ble_eq_true rfl) dX12_joy_168 ?_
          refine j_istore (ls' := [(5, .int q22.1), (0, .ref (vad (gV G) 0)), (1, .int x1_21), (2, .int x2_21), (3, .int x3_21), (4, .int x4_21)]) (pc := 171) C dX12_joy_171 (by decide) rfl ?_
          refine j_goto (tgt := 103) (pc := 173) C dX12_joy_173 (by decide) ?_
          refine j_ls [1, 2, 3, 4, 5, 0] rfl ?_
          exact ih _ _ _ _ _ _ hm
        · refine j_aloadn (pc := 166) C 0 dX12_joy_166 rfl rfl ?_
          refine j_iloadn (pc := 167) C 1 dX12_joy_167 rfl rfl ?_
          obtain ⟨q23, hq23, hm⟩ := Option.bind_eq_some_iff.mp hm
          refine cl_X12_397 (c := 0) (pc := 168) C km_0 (kX12_nextRow hq23) (by decide) (Nat.le_of_ble_eq_true rfl) dX12_joy_168 ?_
          refine j_istore (ls' := [(5, .int q23.1), (0, .ref (vad (gV G) 0)), (1, .int x1), (2, .int x2), (3, .int x3), (4, .int x4)]) (pc := 171) C dX12_joy_171 (by decide) rfl ?_
          refine j_goto (tgt := 103) (pc := 173) C dX12_joy_173 (by decide) ?_
          refine j_ls [1, 2, 3, 4, 5, 0] rfl ?_
          exact ih _ _ _ _ _ _ hm

def jn_X12_joy_37 (F : Nat) (x1 : Int32) (x2 : Int32) (x3 : Int32) (σ : jS) : Option (Int32 × jS) := (if (σ 0 6) < ((2 : Int32) * x1) then some ((-1 : Int32), σ) else (lt (js σ 0 6 (0 : Int32)) fun σ4 => (lp_X12_joy_61 F (fun x1_13 x2_13 x3_13 x4_13 σ13 => (lp_X12_joy_103 F (fun x3_24 x4_24 σ24 => (if x3_24 = (100 : Int32) then some (x4_24, σ24) else (if jin x3_24 5 = true then some ((σ24 29 x3_24.toNatClampNeg), σ24) else none))) F x1_13 x2_13 x3_13 x4_13 (1 : Int32) σ13)) F x1 x2 x3 (-2 : Int32) (0 : Int32) σ4)))
set_option maxHeartbeats 4000000 in
set_option maxRecDepth 100000 in
theorem jn_X12_joy_37_ok {G : jG} (C : jc cfM 33 G cX12_joy RX12 7 (some .int) 2) (F : Nat) {v : (Int32 × jS)} : ∀ (x1 : Int32) (x2 : Int32) (x3 : Int32) (σ : jS), jn_X12_joy_37 F x1 x2 x3 σ = some v → JM G 37 [(0, .ref (vad (gV G) 0)), (1, .int x1), (2, .int x2), (3, .int x3)] [] σ v := by
  intro x1 x2 x3 σ hm
  unfold jn_X12_joy_37 at hm
  refine j_iconst (v := 2) (pc := 37) C dX12_joy_37 (by decide) ?_
  refine j_iloadn (pc := 38) C 1 dX12_joy_38 rfl rfl ?_
  refine j_imul (pc := 39) C dX12_joy_39 ?_
  refine j_aloadn (pc := 40) C 0 dX12_joy_40 rfl rfl ?_
  refine gf_X12_120 (c := 0) (pc := 41) C km_0 dX12_joy_41 ?_
  refine j_icmp_le (tgt := 49) (pc := 44) C dX12_joy_44 (by decide) hm (fun _ hm => ?_) (fun _ hm => ?_)
  · refine j_iconst (v := -1) (pc := 47) C dX12_joy_47 (by decide) ?_
    exact j_iretS (pc := 48) C rfl dX12_joy_48 hm
  · refine j_aloadn (pc := 49) C 0 dX12_joy_49 rfl rfl ?_
    refine j_iconst (v := 0) (pc := 50) C dX12_joy_50 (by decide) ?_
    refine pf_X12_120 (c := 0) (pc := 51) C km_0 dX12_joy_51 hm (fun σ4 hm => ?_)
    refine j_bipush (v := -2) (pc := 54) C dX12_joy_54 (by decide) ?_
    refine j_istore (ls' := [(4, .int (-2 : Int32)), (0, .ref (vad (gV G) 0)), (1, .int x1), (2, .int x2), (3, .int x3)]) (pc := 56) C dX12_joy_56 (by decide) rfl ?_
    refine j_iconst (v := 0) (pc := 58) C dX12_joy_58 (by decide) ?_
    refine j_istore (ls' := [(5, .int (0 : Int32)), (4, .int (-2 : Int32)), (0, .ref (vad (gV G) 0)), (1, .int x1), (2, .int x2), (3, .int x3)]) (pc := 59) C dX12_joy_59 (by decide) rfl ?_
    refine j_ls [2, 3, 4, 5, 1, 0] rfl ?_
    refine lp_X12_joy_61_ok C F _ (fun x1_13 x2_13 x3_13 x4_13 σ13 hm => ?_) F _ _ _ _ _ _ hm
    refine j_iconst (v := 1) (pc := 100) C dX12_joy_100 (by decide) ?_
    refine j_istore (ls' := [(5, .int (1 : Int32)), (0, .ref (vad (gV G) 0)), (1, .int x1_13), (2, .int x2_13), (3, .int x3_13), (4, .int x4_13)]) (pc := 101) C dX12_joy_101 (by decide) rfl ?_
    refine j_ls [1, 2, 3, 4, 5, 0] rfl ?_
    refine lp_X12_joy_103_ok C F _ (fun x3_24 x4_24 σ24 hm => ?_) F _ _ _ _ _ _ hm
    refine j_iloadn (pc := 176) C 1 dX12_joy_176 rfl rfl ?_
    refine j_bipush (v := 100) (pc := 177) C dX12_joy_177 (by decide) ?_
    refine j_icmp_ne (tgt := 187) (pc := 179) C dX12_joy_179 (by decide) hm (fun _ hm => ?_) (fun _ hm => ?_)
    · refine j_iload (pc := 182) C 2 dX12_joy_182 rfl ?_
      refine j_goto (tgt := 193) (pc := 184) C dX12_joy_184 (by decide) ?_
      exact j_iretS (pc := 193) C rfl dX12_joy_193 hm
    · refine j_aloadn (pc := 187) C 0 dX12_joy_187 rfl rfl ?_
      refine gf_X12_95 (c := 0) (pc := 188) C km_0 dX12_joy_188 ?_
      refine j_iloadn (pc := 191) C 1 dX12_joy_191 rfl rfl ?_
      refine j_guard hm (fun hg25 hm => ?_)
      refine j_iald (c := 29) (n := 5) (pc := 192) C (kM_lt km_29 (by decide)) (cm_a km_29 lm_29 _) hg25 dX12_joy_192 ?_
      exact j_iretS (pc := 193) C rfl dX12_joy_193 hm

def mX12_joy (F : Nat) (x1 : Int32) (x2 : Int32) (x3 : Int32) (σ : jS) : Option (Int32 × jS) := (Option.bind (mX12_in F x1 (1 : Int32) (5 : Int32) σ) fun q1 => (if q1 = 0 then some ((-1 : Int32), σ) else (Option.bind (mX12_in F x2 (0 : Int32) (6120 : Int32) σ) fun q2 => (if q2 = 0 then some ((-1 : Int32), σ) else (Option.bind (mX12_in F x3 (0 : Int32) ((x1 - (1 : Int32))) σ) fun q3 => (if q3 = 0 then (if x3 = (100 : Int32) then (jn_X12_joy_37 F x1 x2 x3 σ) else some ((-1 : Int32), σ)) else (jn_X12_joy_37 F x1 x2 x3 σ)))))))
set_option maxHeartbeats 4000000 in
set_option maxRecDepth 100000 in
theorem kX12_joy {V : jV} {F : Nat} {x1 : Int32} {x2 : Int32} {x3 : Int32} {σ : jS} {v : (Int32 × jS)} (hm : mX12_joy F x1 x2 x3 σ = some v) : Ct cfM 33 V yX12_joy cX12_joy 7 (some .int) 2 [.ref (vad V 0), .int x1, .int x2, .int x3] σ v := by
  refine j_start (own := RX12) (by decide) rfl (Nat.le_of_ble_eq_true rfl) ?_
  intro G hV C
  subst hV
  unfold mX12_joy at hm
  show JM G 0 [(0, .ref (vad (gV G) 0)), (1, .int x1), (2, .int x2), (3, .int x3)] [] σ v
  refine j_iloadn (pc := 0) C 1 dX12_joy_0 rfl rfl ?_
  refine j_iconst (v := 1) (pc := 1) C dX12_joy_1 (by decide) ?_
  refine j_iconst (v := 5) (pc := 2) C dX12_joy_2 (by decide) ?_
  obtain ⟨q1, hq1, hm⟩ := Option.bind_eq_some_iff.mp hm
  refine cl_X12_107 (pc := 3) C (kX12_in hq1) (by decide) (Nat.le_of_ble_eq_true rfl) dX12_joy_3 ?_
  refine j_if_eq (tgt := 47) (pc := 6) C dX12_joy_6 (by decide) hm (fun _ hm => ?_) (fun _ hm => ?_)
  · refine j_iconst (v := -1) (pc := 47) C dX12_joy_47 (by decide) ?_
    exact j_iretS (pc := 48) C rfl dX12_joy_48 hm
  · refine j_iloadn (pc := 9) C 2 dX12_joy_9 rfl rfl ?_
    refine j_iconst (v := 0) (pc := 10) C dX12_joy_10 (by decide) ?_
    refine j_sipush (v := 6120) (pc := 11) C dX12_joy_11 (by decide) ?_
    obtain ⟨q2, hq2, hm⟩ := Option.bind_eq_some_iff.mp hm
    refine cl_X12_107 (pc := 14) C (kX12_in hq2) (by decide) (Nat.le_of_ble_eq_true rfl) dX12_joy_14 ?_
    refine j_if_eq (tgt := 47) (pc := 17) C dX12_joy_17 (by decide) hm (fun _ hm => ?_) (fun _ hm => ?_)
    · refine j_iconst (v := -1) (pc := 47) C dX12_joy_47 (by decide) ?_
      exact j_iretS (pc := 48) C rfl dX12_joy_48 hm
    · refine j_iloadn (pc := 20) C 3 dX12_joy_20 rfl rfl ?_
      refine j_iconst (v := 0) (pc := 21) C dX12_joy_21 (by decide) ?_
      refine j_iloadn (pc := 22) C 1 dX12_joy_22 rfl rfl ?_
      refine j_iconst (v := 1) (pc := 23) C dX12_joy_23 (by decide) ?_
      refine j_isub (pc := 24) C dX12_joy_24 ?_
      obtain ⟨q3, hq3, hm⟩ := Option.bind_eq_some_iff.mp hm
      refine cl_X12_107 (pc := 25) C (kX12_in hq3) (by decide) (Nat.le_of_ble_eq_true rfl) dX12_joy_25 ?_
      refine j_if_ne (tgt := 37) (pc := 28) C dX12_joy_28 (by decide) hm (fun _ hm => ?_) (fun _ hm => ?_)
      · refine j_iloadn (pc := 31) C 3 dX12_joy_31 rfl rfl ?_
        refine j_bipush (v := 100) (pc := 32) C dX12_joy_32 (by decide) ?_
        refine j_icmp_ne (tgt := 47) (pc := 34) C dX12_joy_34 (by decide) hm (fun _ hm => ?_) (fun _ hm => ?_)
        · exact jn_X12_joy_37_ok C F  _ _ _ _ hm
        · refine j_iconst (v := -1) (pc := 47) C dX12_joy_47 (by decide) ?_
          exact j_iretS (pc := 48) C rfl dX12_joy_48 hm
      · exact jn_X12_joy_37_ok C F  _ _ _ _ hm

def lp_X12_run_36 (F : Nat) (k60 : Int32 → Int32 → jS → Option (Int32 × jS)) : Nat → Int32 → Int32 → Int32 → jS → Option (Int32 × jS)
  | 0, _, _, _, _ => none
  | n + 1, x1, x2, x3, σ => (if x3 < x1 then (Option.bind (mX12_octet F x3 σ) fun q4 => (if (16 : Int32) < q4 then some ((-2 : Int32), σ) else (lp_X12_run_36 F k60 n x1 x2 ((x3 + (1 : Int32))) σ))) else (k60 x1 x2 σ))
set_option maxHeartbeats 4000000 in
set_option maxRecDepth 100000 in
theorem lp_X12_run_36_ok {G : jG} (C : jc cfM 33 G cX12_run RX12 7 (some .int) 1) (F : Nat) {v : (Int32 × jS)} (k60 : Int32 → Int32 → jS → Option (Int32 × jS)) (hk60 : ∀ (x1 : Int32) (x2 : Int32) (σ : jS), k60 x1 x2 σ = some v → JM G 60 [(0, .ref (vad (gV G) 0)), (1, .int x1), (2, .int x2)] [] σ v) : ∀ (n : Nat) (x1 : Int32) (x2 : Int32) (x3 : Int32) (σ : jS), lp_X12_run_36 F k60 n x1 x2 x3 σ = some v → JM G 36 [(0, .ref (vad (gV G) 0)), (1, .int x1), (2, .int x2), (3, .int x3)] [] σ v := by
  intro n
  induction n with
  | zero =>
    intro x1 x2 x3 σ hm
    rw [lp_X12_run_36] at hm
    cases hm
  | succ n ih =>
    intro x1 x2 x3 σ hm
    rw [lp_X12_run_36] at hm
    refine j_iloadn (pc := 36) C 3 dX12_run_36 rfl rfl ?_
    refine j_iloadn (pc := 37) C 1 dX12_run_37 rfl rfl ?_
    refine j_icmp_ge (tgt := 60) (pc := 38) C dX12_run_38 (by decide) hm (fun _ hm => ?_) (fun _ hm => ?_)
    · refine j_aloadn (pc := 41) C 0 dX12_run_41 rfl rfl ?_
      refine j_iloadn (pc := 42) C 3 dX12_run_42 rfl rfl ?_
      obtain ⟨q4, hq4, hm⟩ := Option.bind_eq_some_iff.mp hm
      refine cl_X12_384 (c := 0) (pc := 43) C km_0 (kX12_octet hq4) (by decide) (Nat.le_of_ble_eq_true rfl) dX12_run_43 ?_
      refine j_bipush (v := 16) (pc := 46) C dX12_run_46 (by decide) ?_
      refine j_icmp_le (tgt := 54) (pc := 48) C dX12_run_48 (by decide) hm (fun _ hm => ?_) (fun _ hm => ?_)
      · refine j_bipush (v := -2) (pc := 51) C dX12_run_51 (by decide) ?_
        exact j_iretS (pc := 53) C rfl dX12_run_53 hm
      · refine j_iinc (v := (x3 + (1 : Int32))) (ls' := [(3, .int (x3 + (1 : Int32))), (0, .ref (vad (gV G) 0)), (1, .int x1), (2, .int x2)]) (pc := 54) C 3 dX12_run_54 rfl rfl (by decide) rfl ?_
        refine j_goto (tgt := 36) (pc := 57) C dX12_run_57 (by decide) ?_
        refine j_ls [1, 2, 3, 0] rfl ?_
        exact ih _ _ _ _ hm
    · refine j_ls [0, 1, 2] rfl ?_
      exact hk60 _ _ _ hm

def lp_X12_run_86 (F : Nat) (k129 : Int32 → Int32 → Int32 → Int32 → Int32 → jS → Option (Int32 × jS)) : Nat → Int32 → Int32 → Int32 → Int32 → Int32 → Int32 → jS → Option (Int32 × jS)
  | 0, _, _, _, _, _, _, _ => none
  | n + 1, x1, x2, x3, x4, x5, x6, σ => (if x6 < x1 then (Option.bind (mX12_has F x4 x6 σ) fun q8 => (if q8 = 0 then (Option.bind (mX12_octet F x6 σ) fun q9 => (Option.bind (mX12_bits F x4 σ) fun q10 => (if q10 < q9 then (lp_X12_run_86 F k129 n x1 x2 x3 x4 x5 ((x6 + (1 : Int32))) σ) else (lt (x3 ||| ((1 : Int32) <<< (x6 &&& 31))) fun y11 => (lp_X12_run_86 F k129 n x1 x2 y11 x4 x5 ((x6 + (1 : Int32))) σ))))) else (lp_X12_run_86 F k129 n x1 x2 x3 x4 x5 ((x6 + (1 : Int32))) σ))) else (k129 x1 x2 x3 x4 x5 σ))
set_option maxHeartbeats 4000000 in
set_option maxRecDepth 100000 in
theorem lp_X12_run_86_ok {G : jG} (C : jc cfM 33 G cX12_run RX12 7 (some .int) 1) (F : Nat) {v : (Int32 × jS)} (k129 : Int32 → Int32 → Int32 → Int32 → Int32 → jS → Option (Int32 × jS)) (hk129 : ∀ (x1 : Int32) (x2 : Int32) (x3 : Int32) (x4 : Int32) (x5 : Int32) (σ : jS), k129 x1 x2 x3 x4 x5 σ = some v → JM G 129 [(0, .ref (vad (gV G) 0)), (1, .int x1), (2, .int x2), (3, .int x3), (4, .int x4), (5, .int x5)] [] σ v) : ∀ (n : Nat) (x1 : Int32) (x2 : Int32) (x3 : Int32) (x4 : Int32) (x5 : Int32) (x6 : Int32) (σ : jS), lp_X12_run_86 F k129 n x1 x2 x3 x4 x5 x6 σ = some v → JM G 86 [(0, .ref (vad (gV G) 0)), (1, .int x1), (2, .int x2), (3, .int x3), (4, .int x4), (5, .int x5), (6, .int x6)] [] σ v := by
  intro n
  induction n with
  | zero =>
    intro x1 x2 x3 x4 x5 x6 σ hm
    rw [lp_X12_run_86] at hm
    cases hm
  | succ n ih =>
    intro x1 x2 x3 x4 x5 x6 σ hm
    rw [lp_X12_run_86] at hm
    refine j_iload (pc := 86) C 6 dX12_run_86 rfl ?_
    refine j_iloadn (pc := 88) C 1 dX12_run_88 rfl rfl ?_
    refine j_icmp_ge (tgt := 129) (pc := 89) C dX12_run_89 (by decide) hm (fun _ hm => ?_) (fun _ hm => ?_)
    · refine j_iload (pc := 92) C 4 dX12_run_92 rfl ?_
      refine j_iload (pc := 94) C 6 dX12_run_94 rfl ?_
      obtain ⟨q8, hq8, hm⟩ := Option.bind_eq_some_iff.mp hm
      refine cl_X12_350 (pc := 96) C (kX12_has hq8) (by decide) (Nat.le_of_ble_eq_true rfl) dX12_run_96 ?_
      refine j_if_ne (tgt := 123) (pc := 99) C dX12_run_99 (by decide) hm (fun _ hm => ?_) (fun _ hm => ?_)
      · refine j_aloadn (pc := 102) C 0 dX12_run_102 rfl rfl ?_
        refine j_iload (pc := 103) C 6 dX12_run_103 rfl ?_
        obtain ⟨q9, hq9, hm⟩ := Option.bind_eq_some_iff.mp hm
        refine cl_X12_384 (c := 0) (pc := 105) C km_0 (kX12_octet hq9) (by decide) (Nat.le_of_ble_eq_true rfl) dX12_run_105 ?_
        refine j_iload (pc := 108) C 4 dX12_run_108 rfl ?_
        obtain ⟨q10, hq10, hm⟩ := Option.bind_eq_some_iff.mp hm
        refine cl_X12_400 (pc := 110) C (kX12_bits hq10) (by decide) (Nat.le_of_ble_eq_true rfl) dX12_run_110 ?_
        refine j_icmp_gt (tgt := 123) (pc := 113) C dX12_run_113 (by decide) hm (fun _ hm => ?_) (fun _ hm => ?_)
        · refine j_iinc (v := (x6 + (1 : Int32))) (ls' := [(6, .int (x6 + (1 : Int32))), (0, .ref (vad (gV G) 0)), (1, .int x1), (2, .int x2), (3, .int x3), (4, .int x4), (5, .int x5)]) (pc := 123) C 6 dX12_run_123 rfl rfl (by decide) rfl ?_
          refine j_goto (tgt := 86) (pc := 126) C dX12_run_126 (by decide) ?_
          refine j_ls [1, 2, 3, 4, 5, 6, 0] rfl ?_
          exact ih _ _ _ _ _ _ _ hm
        · refine j_iloadn (pc := 116) C 3 dX12_run_116 rfl rfl ?_
          refine j_iconst (v := 1) (pc := 117) C dX12_run_117 (by decide) ?_
          refine j_iload (pc := 118) C 6 dX12_run_118 rfl ?_
          refine j_ishl (pc := 120) C dX12_run_120 ?_
          refine j_ior (pc := 121) C dX12_run_121 ?_
          refine j_lti hm (fun y11 hm => ?_)
          refine j_istoren (ls' := [(3, .int y11), (0, .ref (vad (gV G) 0)), (1, .int x1), (2, .int x2), (4, .int x4), (5, .int x5), (6, .int x6)]) (pc := 122) C dX12_run_122 rfl (by decide) rfl ?_
          refine j_iinc (v := (x6 + (1 : Int32))) (ls' := [(6, .int (x6 + (1 : Int32))), (3, .int y11), (0, .ref (vad (gV G) 0)), (1, .int x1), (2, .int x2), (4, .int x4), (5, .int x5)]) (pc := 123) C 6 dX12_run_123 rfl rfl (by decide) rfl ?_
          refine j_goto (tgt := 86) (pc := 126) C dX12_run_126 (by decide) ?_
          refine j_ls [2, 3, 4, 1, 5, 6, 0] rfl ?_
          exact ih _ _ _ _ _ _ _ hm
      · refine j_iinc (v := (x6 + (1 : Int32))) (ls' := [(6, .int (x6 + (1 : Int32))), (0, .ref (vad (gV G) 0)), (1, .int x1), (2, .int x2), (3, .int x3), (4, .int x4), (5, .int x5)]) (pc := 123) C 6 dX12_run_123 rfl rfl (by decide) rfl ?_
        refine j_goto (tgt := 86) (pc := 126) C dX12_run_126 (by decide) ?_
        refine j_ls [1, 2, 3, 4, 5, 6, 0] rfl ?_
        exact ih _ _ _ _ _ _ _ hm
    · refine j_ls [0, 1, 2, 3, 4, 5] rfl ?_
      exact hk129 _ _ _ _ _ _ hm

def lp_X12_run_68 (F : Nat) : Nat → Int32 → Int32 → Int32 → Int32 → Int32 → jS → Option (Int32 × jS)
  | 0, _, _, _, _, _, _ => none
  | n + 1, x1, x2, x3, x4, x5, σ => (if x3 = x4 then (if x2 = 0 then (Option.bind (mX12_bits F x3 σ) fun q6 => some (q6, σ)) else some (x5, σ)) else (lt (x5 + (1 : Int32)) fun y7 => (lp_X12_run_86 F (fun x1_12 x2_12 x3_12 x4_12 x5_12 σ12 => (lp_X12_run_68 F n x1_12 x2_12 x3_12 x4_12 x5_12 σ12)) F x1 x2 x3 x3 y7 (0 : Int32) σ)))
set_option maxHeartbeats 4000000 in
set_option maxRecDepth 100000 in
theorem lp_X12_run_68_ok {G : jG} (C : jc cfM 33 G cX12_run RX12 7 (some .int) 1) (F : Nat) {v : (Int32 × jS)} : ∀ (n : Nat) (x1 : Int32) (x2 : Int32) (x3 : Int32) (x4 : Int32) (x5 : Int32) (σ : jS), lp_X12_run_68 F n x1 x2 x3 x4 x5 σ = some v → JM G 68 [(0, .ref (vad (gV G) 0)), (1, .int x1), (2, .int x2), (3, .int x3), (4, .int x4), (5, .int x5)] [] σ v := by
  intro n
  induction n with
  | zero =>
    intro x1 x2 x3 x4 x5 σ hm
    rw [lp_X12_run_68] at hm
    cases hm
  | succ n ih =>
    intro x1 x2 x3 x4 x5 σ hm
    rw [lp_X12_run_68] at hm
    refine j_iloadn (pc := 68) C 3 dX12_run_68 rfl rfl ?_
    refine j_iload (pc := 69) C 4 dX12_run_69 rfl ?_
    refine j_icmp_eq (tgt := 132) (pc := 71) C dX12_run_71 (by decide) hm (fun _ hm => ?_) (fun _ hm => ?_)
    · refine j_iloadn (pc := 132) C 2 dX12_run_132 rfl rfl ?_
      refine j_if_ne (tgt := 143) (pc := 133) C dX12_run_133 (by decide) hm (fun _ hm => ?_) (fun _ hm => ?_)
      · refine j_iloadn (pc := 136) C 3 dX12_run_136 rfl rfl ?_
        obtain ⟨q6, hq6, hm⟩ := Option.bind_eq_some_iff.mp hm
        refine cl_X12_400 (pc := 137) C (kX12_bits hq6) (by decide) (Nat.le_of_ble_eq_true rfl) dX12_run_137 ?_
        refine j_goto (tgt := 145) (pc := 140) C dX12_run_140 (by decide) ?_
        exact j_iretS (pc := 145) C rfl dX12_run_145 hm
      · refine j_iload (pc := 143) C 5 dX12_run_143 rfl ?_
        exact j_iretS (pc := 145) C rfl dX12_run_145 hm
    · refine j_iloadn (pc := 74) C 3 dX12_run_74 rfl rfl ?_
      refine j_istore (ls' := [(4, .int x3), (0, .ref (vad (gV G) 0)), (1, .int x1), (2, .int x2), (3, .int x3), (5, .int x5)]) (pc := 75) C dX12_run_75 (by decide) rfl ?_
      refine j_iload (pc := 77) C 5 dX12_run_77 rfl ?_
      refine j_iconst (v := 1) (pc := 79) C dX12_run_79 (by decide) ?_
      refine j_iadd (pc := 80) C dX12_run_80 ?_
      refine j_lti hm (fun y7 hm => ?_)
      refine j_istore (ls' := [(5, .int y7), (4, .int x3), (0, .ref (vad (gV G) 0)), (1, .int x1), (2, .int x2), (3, .int x3)]) (pc := 81) C dX12_run_81 (by decide) rfl ?_
      refine j_iconst (v := 0) (pc := 83) C dX12_run_83 (by decide) ?_
      refine j_istore (ls' := [(6, .int (0 : Int32)), (5, .int y7), (4, .int x3), (0, .ref (vad (gV G) 0)), (1, .int x1), (2, .int x2), (3, .int x3)]) (pc := 84) C dX12_run_84 (by decide) rfl ?_
      refine j_ls [3, 4, 5, 6, 2, 1, 0] rfl ?_
      refine lp_X12_run_86_ok C F _ (fun x1_12 x2_12 x3_12 x4_12 x5_12 σ12 hm => ?_) F _ _ _ _ _ _ _ hm
      refine j_goto (tgt := 68) (pc := 129) C dX12_run_129 (by decide) ?_
      exact ih _ _ _ _ _ _ hm

def mX12_run (F : Nat) (x1 : Int32) (x2 : Int32) (σ : jS) : Option (Int32 × jS) := (Option.bind (mX12_in F x1 (2 : Int32) (16 : Int32) σ) fun q1 => (if q1 = 0 then some ((-1 : Int32), σ) else (Option.bind (mX12_in F x2 (0 : Int32) (1 : Int32) σ) fun q2 => (if q2 = 0 then some ((-1 : Int32), σ) else (if (σ 0 6) < x1 then some ((-1 : Int32), σ) else (lt (js σ 0 6 (0 : Int32)) fun σ3 => (lp_X12_run_36 F (fun x1_5 x2_5 σ5 => (lp_X12_run_68 F F x1_5 x2_5 (0 : Int32) (-1 : Int32) (-1 : Int32) σ5)) F x1 x2 (0 : Int32) σ3)))))))
set_option maxHeartbeats 4000000 in
set_option maxRecDepth 100000 in
theorem kX12_run {V : jV} {F : Nat} {x1 : Int32} {x2 : Int32} {σ : jS} {v : (Int32 × jS)} (hm : mX12_run F x1 x2 σ = some v) : Ct cfM 33 V yX12_run cX12_run 7 (some .int) 1 [.ref (vad V 0), .int x1, .int x2] σ v := by
  refine j_start (own := RX12) (by decide) rfl (Nat.le_of_ble_eq_true rfl) ?_
  intro G hV C
  subst hV
  unfold mX12_run at hm
  show JM G 0 [(0, .ref (vad (gV G) 0)), (1, .int x1), (2, .int x2)] [] σ v
  refine j_iloadn (pc := 0) C 1 dX12_run_0 rfl rfl ?_
  refine j_iconst (v := 2) (pc := 1) C dX12_run_1 (by decide) ?_
  refine j_bipush (v := 16) (pc := 2) C dX12_run_2 (by decide) ?_
  obtain ⟨q1, hq1, hm⟩ := Option.bind_eq_some_iff.mp hm
  refine cl_X12_107 (pc := 4) C (kX12_in hq1) (by decide) (Nat.le_of_ble_eq_true rfl) dX12_run_4 ?_
  refine j_if_eq (tgt := 27) (pc := 7) C dX12_run_7 (by decide) hm (fun _ hm => ?_) (fun _ hm => ?_)
  · refine j_iconst (v := -1) (pc := 27) C dX12_run_27 (by decide) ?_
    exact j_iretS (pc := 28) C rfl dX12_run_28 hm
  · refine j_iloadn (pc := 10) C 2 dX12_run_10 rfl rfl ?_
    refine j_iconst (v := 0) (pc := 11) C dX12_run_11 (by decide) ?_
    refine j_iconst (v := 1) (pc := 12) C dX12_run_12 (by decide) ?_
    obtain ⟨q2, hq2, hm⟩ := Option.bind_eq_some_iff.mp hm
    refine cl_X12_107 (pc := 13) C (kX12_in hq2) (by decide) (Nat.le_of_ble_eq_true rfl) dX12_run_13 ?_
    refine j_if_eq (tgt := 27) (pc := 16) C dX12_run_16 (by decide) hm (fun _ hm => ?_) (fun _ hm => ?_)
    · refine j_iconst (v := -1) (pc := 27) C dX12_run_27 (by decide) ?_
      exact j_iretS (pc := 28) C rfl dX12_run_28 hm
    · refine j_iloadn (pc := 19) C 1 dX12_run_19 rfl rfl ?_
      refine j_aloadn (pc := 20) C 0 dX12_run_20 rfl rfl ?_
      refine gf_X12_120 (c := 0) (pc := 21) C km_0 dX12_run_21 ?_
      refine j_icmp_le (tgt := 29) (pc := 24) C dX12_run_24 (by decide) hm (fun _ hm => ?_) (fun _ hm => ?_)
      · refine j_iconst (v := -1) (pc := 27) C dX12_run_27 (by decide) ?_
        exact j_iretS (pc := 28) C rfl dX12_run_28 hm
      · refine j_aloadn (pc := 29) C 0 dX12_run_29 rfl rfl ?_
        refine j_iconst (v := 0) (pc := 30) C dX12_run_30 (by decide) ?_
        refine pf_X12_120 (c := 0) (pc := 31) C km_0 dX12_run_31 hm (fun σ3 hm => ?_)
        refine j_iconst (v := 0) (pc := 34) C dX12_run_34 (by decide) ?_
        refine j_istoren (ls' := [(3, .int (0 : Int32)), (0, .ref (vad (gV G) 0)), (1, .int x1), (2, .int x2)]) (pc := 35) C dX12_run_35 rfl (by decide) rfl ?_
        refine j_ls [1, 2, 3, 0] rfl ?_
        refine lp_X12_run_36_ok C F _ (fun x1_5 x2_5 σ5 hm => ?_) F _ _ _ _ hm
        refine j_iconst (v := 0) (pc := 60) C dX12_run_60 (by decide) ?_
        refine j_istoren (ls' := [(3, .int (0 : Int32)), (0, .ref (vad (gV G) 0)), (1, .int x1_5), (2, .int x2_5)]) (pc := 61) C dX12_run_61 rfl (by decide) rfl ?_
        refine j_iconst (v := -1) (pc := 62) C dX12_run_62 (by decide) ?_
        refine j_istore (ls' := [(4, .int (-1 : Int32)), (3, .int (0 : Int32)), (0, .ref (vad (gV G) 0)), (1, .int x1_5), (2, .int x2_5)]) (pc := 63) C dX12_run_63 (by decide) rfl ?_
        refine j_iconst (v := -1) (pc := 65) C dX12_run_65 (by decide) ?_
        refine j_istore (ls' := [(5, .int (-1 : Int32)), (4, .int (-1 : Int32)), (3, .int (0 : Int32)), (0, .ref (vad (gV G) 0)), (1, .int x1_5), (2, .int x2_5)]) (pc := 66) C dX12_run_66 (by decide) rfl ?_
        refine j_ls [3, 4, 5, 2, 1, 0] rfl ?_
        exact lp_X12_run_68_ok C F  F _ _ _ _ _ _ hm

def lp_X12_isTable_12 (F : Nat) (σ : jS) : Nat → Int32 → Int32 → Option Int32
  | 0, _, _ => none
  | n + 1, x1, x2 => (if x2 < x1 then (Option.bind (mX12_octet F x2 σ) fun q2 => (Option.bind (mX12_octet F ((x2 - (1 : Int32))) σ) fun q3 => (if q3 < q2 then some (0 : Int32) else (lp_X12_isTable_12 F σ n x1 ((x2 + (1 : Int32))))))) else some (1 : Int32))
set_option maxHeartbeats 4000000 in
set_option maxRecDepth 100000 in
theorem lp_X12_isTable_12_ok {G : jG} (C : jc cfM 33 G cX12_isTable RX12 3 (some .boolean) 1) (F : Nat) (σ : jS) {v : Int32} : ∀ (n : Nat) (x1 : Int32) (x2 : Int32), lp_X12_isTable_12 F σ n x1 x2 = some v → JM G 12 [(0, .ref (vad (gV G) 0)), (1, .int x1), (2, .int x2)] [] σ (v, σ) := by
  intro n
  induction n with
  | zero =>
    intro x1 x2 hm
    rw [lp_X12_isTable_12] at hm
    cases hm
  | succ n ih =>
    intro x1 x2 hm
    rw [lp_X12_isTable_12] at hm
    refine j_iloadn (pc := 12) C 2 dX12_isTable_12 rfl rfl ?_
    refine j_iloadn (pc := 13) C 1 dX12_isTable_13 rfl rfl ?_
    refine j_icmp_ge (tgt := 40) (pc := 14) C dX12_isTable_14 (by decide) hm (fun _ hm => ?_) (fun _ hm => ?_)
    · refine j_aloadn (pc := 17) C 0 dX12_isTable_17 rfl rfl ?_
      refine j_iloadn (pc := 18) C 2 dX12_isTable_18 rfl rfl ?_
      obtain ⟨q2, hq2, hm⟩ := Option.bind_eq_some_iff.mp hm
      refine cl_X12_384 (c := 0) (pc := 19) C km_0 (kX12_octet hq2) (by decide) (Nat.le_of_ble_eq_true rfl) dX12_isTable_19 ?_
      refine j_aloadn (pc := 22) C 0 dX12_isTable_22 rfl rfl ?_
      refine j_iloadn (pc := 23) C 2 dX12_isTable_23 rfl rfl ?_
      refine j_iconst (v := 1) (pc := 24) C dX12_isTable_24 (by decide) ?_
      refine j_isub (pc := 25) C dX12_isTable_25 ?_
      obtain ⟨q3, hq3, hm⟩ := Option.bind_eq_some_iff.mp hm
      refine cl_X12_384 (c := 0) (pc := 26) C km_0 (kX12_octet hq3) (by decide) (Nat.le_of_ble_eq_true rfl) dX12_isTable_26 ?_
      refine j_icmp_le (tgt := 34) (pc := 29) C dX12_isTable_29 (by decide) hm (fun _ hm => ?_) (fun _ hm => ?_)
      · refine j_iconst (v := 0) (pc := 32) C dX12_isTable_32 (by decide) ?_
        exact j_zret (pc := 33) C rfl rfl dX12_isTable_33 hm
      · refine j_iinc (v := (x2 + (1 : Int32))) (ls' := [(2, .int (x2 + (1 : Int32))), (0, .ref (vad (gV G) 0)), (1, .int x1)]) (pc := 34) C 2 dX12_isTable_34 rfl rfl (by decide) rfl ?_
        refine j_goto (tgt := 12) (pc := 37) C dX12_isTable_37 (by decide) ?_
        refine j_ls [1, 2, 0] rfl ?_
        exact ih _ _ hm
    · refine j_iconst (v := 1) (pc := 40) C dX12_isTable_40 (by decide) ?_
      exact j_zret (pc := 41) C rfl rfl dX12_isTable_41 hm

def mX12_isTable (F : Nat) (x1 : Int32) (σ : jS) : Option Int32 := (Option.bind (mX12_octet F (0 : Int32) σ) fun q1 => (if q1 = 0 then some (0 : Int32) else (lp_X12_isTable_12 F σ F x1 (1 : Int32))))
set_option maxHeartbeats 4000000 in
set_option maxRecDepth 100000 in
theorem kX12_isTable {V : jV} {F : Nat} {x1 : Int32} {σ : jS} {v : Int32} (hm : mX12_isTable F x1 σ = some v) : Ct cfM 33 V yX12_isTable cX12_isTable 3 (some .boolean) 1 [.ref (vad V 0), .int x1] σ (v, σ) := by
  refine j_start (own := RX12) (by decide) rfl (Nat.le_of_ble_eq_true rfl) ?_
  intro G hV C
  subst hV
  unfold mX12_isTable at hm
  show JM G 0 [(0, .ref (vad (gV G) 0)), (1, .int x1)] [] σ (v, σ)
  refine j_aloadn (pc := 0) C 0 dX12_isTable_0 rfl rfl ?_
  refine j_iconst (v := 0) (pc := 1) C dX12_isTable_1 (by decide) ?_
  obtain ⟨q1, hq1, hm⟩ := Option.bind_eq_some_iff.mp hm
  refine cl_X12_384 (c := 0) (pc := 2) C km_0 (kX12_octet hq1) (by decide) (Nat.le_of_ble_eq_true rfl) dX12_isTable_2 ?_
  refine j_if_ne (tgt := 10) (pc := 5) C dX12_isTable_5 (by decide) hm (fun _ hm => ?_) (fun _ hm => ?_)
  · refine j_iconst (v := 0) (pc := 8) C dX12_isTable_8 (by decide) ?_
    exact j_zret (pc := 9) C rfl rfl dX12_isTable_9 hm
  · refine j_iconst (v := 1) (pc := 10) C dX12_isTable_10 (by decide) ?_
    refine j_istoren (ls' := [(2, .int (1 : Int32)), (0, .ref (vad (gV G) 0)), (1, .int x1)]) (pc := 11) C dX12_isTable_11 rfl (by decide) rfl ?_
    refine j_ls [1, 2, 0] rfl ?_
    exact lp_X12_isTable_12_ok C F σ  F _ _ hm

def mX12_deathsAt (F : Nat) (x1 : Int32) (x2 : Int32) (σ : jS) : Option Int32 := (Option.bind (mX12_octet F x2 σ) fun q1 => (if x2 = (x1 - (1 : Int32)) then some (q1 - (0 : Int32)) else (Option.bind (mX12_octet F ((x2 + (1 : Int32))) σ) fun q2 => some (q1 - q2))))
set_option maxHeartbeats 4000000 in
set_option maxRecDepth 100000 in
theorem kX12_deathsAt {V : jV} {F : Nat} {x1 : Int32} {x2 : Int32} {σ : jS} {v : Int32} (hm : mX12_deathsAt F x1 x2 σ = some v) : Ct cfM 33 V yX12_deathsAt cX12_deathsAt 3 (some .int) 1 [.ref (vad V 0), .int x1, .int x2] σ (v, σ) := by
  refine j_start (own := RX12) (by decide) rfl (Nat.le_of_ble_eq_true rfl) ?_
  intro G hV C
  subst hV
  unfold mX12_deathsAt at hm
  show JM G 0 [(0, .ref (vad (gV G) 0)), (1, .int x1), (2, .int x2)] [] σ (v, σ)
  refine j_aloadn (pc := 0) C 0 dX12_deathsAt_0 rfl rfl ?_
  refine j_iloadn (pc := 1) C 2 dX12_deathsAt_1 rfl rfl ?_
  obtain ⟨q1, hq1, hm⟩ := Option.bind_eq_some_iff.mp hm
  refine cl_X12_384 (c := 0) (pc := 2) C km_0 (kX12_octet hq1) (by decide) (Nat.le_of_ble_eq_true rfl) dX12_deathsAt_2 ?_
  refine j_iloadn (pc := 5) C 2 dX12_deathsAt_5 rfl rfl ?_
  refine j_iloadn (pc := 6) C 1 dX12_deathsAt_6 rfl rfl ?_
  refine j_iconst (v := 1) (pc := 7) C dX12_deathsAt_7 (by decide) ?_
  refine j_isub (pc := 8) C dX12_deathsAt_8 ?_
  refine j_icmp_ne (tgt := 16) (pc := 9) C dX12_deathsAt_9 (by decide) hm (fun _ hm => ?_) (fun _ hm => ?_)
  · refine j_iconst (v := 0) (pc := 12) C dX12_deathsAt_12 (by decide) ?_
    refine j_goto (tgt := 23) (pc := 13) C dX12_deathsAt_13 (by decide) ?_
    refine j_isub (pc := 23) C dX12_deathsAt_23 ?_
    exact j_iret (pc := 24) C rfl dX12_deathsAt_24 hm
  · refine j_aloadn (pc := 16) C 0 dX12_deathsAt_16 rfl rfl ?_
    refine j_iloadn (pc := 17) C 2 dX12_deathsAt_17 rfl rfl ?_
    refine j_iconst (v := 1) (pc := 18) C dX12_deathsAt_18 (by decide) ?_
    refine j_iadd (pc := 19) C dX12_deathsAt_19 ?_
    obtain ⟨q2, hq2, hm⟩ := Option.bind_eq_some_iff.mp hm
    refine cl_X12_384 (c := 0) (pc := 20) C km_0 (kX12_octet hq2) (by decide) (Nat.le_of_ble_eq_true rfl) dX12_deathsAt_20 ?_
    refine j_isub (pc := 23) C dX12_deathsAt_23 ?_
    exact j_iret (pc := 24) C rfl dX12_deathsAt_24 hm

def lp_X12_table_84 (F : Nat) : Nat → Int32 → Int32 → Int32 → jS → Option (Int32 × jS)
  | 0, _, _, _, _ => none
  | n + 1, x1, x3, x4, σ => (if x4 < x1 then (Option.bind (mX12_deathsAt F x1 x4 σ) fun q6 => (Option.bind (mX12_deathsAt F x1 x3 σ) fun q7 => (if q7 < q6 then (lp_X12_table_84 F n x1 x4 ((x4 + (1 : Int32))) σ) else (lp_X12_table_84 F n x1 x3 ((x4 + (1 : Int32))) σ)))) else some (x3, σ))
set_option maxHeartbeats 4000000 in
set_option maxRecDepth 100000 in
theorem lp_X12_table_84_ok {G : jG} (C : jc cfM 33 G cX12_table RX12 6 (some .int) 2) (F : Nat) {v : (Int32 × jS)} : ∀ (n : Nat) (x1 : Int32) (x3 : Int32) (x4 : Int32) (σ : jS), lp_X12_table_84 F n x1 x3 x4 σ = some v → JM G 84 [(0, .ref (vad (gV G) 0)), (1, .int x1), (3, .int x3), (4, .int x4)] [] σ v := by
  intro n
  induction n with
  | zero =>
    intro x1 x3 x4 σ hm
    rw [lp_X12_table_84] at hm
    cases hm
  | succ n ih =>
    intro x1 x3 x4 σ hm
    rw [lp_X12_table_84] at hm
    refine j_iload (pc := 84) C 3 dX12_table_84 rfl ?_
    refine j_iloadn (pc := 86) C 1 dX12_table_86 rfl rfl ?_
    refine j_icmp_ge (tgt := 115) (pc := 87) C dX12_table_87 (by decide) hm (fun _ hm => ?_) (fun _ hm => ?_)
    · refine j_aloadn (pc := 90) C 0 dX12_table_90 rfl rfl ?_
      refine j_iloadn (pc := 91) C 1 dX12_table_91 rfl rfl ?_
      refine j_iload (pc := 92) C 3 dX12_table_92 rfl ?_
      obtain ⟨q6, hq6, hm⟩ := Option.bind_eq_some_iff.mp hm
      refine cl_X12_406 (c := 0) (pc := 94) C km_0 (kX12_deathsAt hq6) (by decide) (Nat.le_of_ble_eq_true rfl) dX12_table_94 ?_
      refine j_aloadn (pc := 97) C 0 dX12_table_97 rfl rfl ?_
      refine j_iloadn (pc := 98) C 1 dX12_table_98 rfl rfl ?_
      refine j_iloadn (pc := 99) C 2 dX12_table_99 rfl rfl ?_
      obtain ⟨q7, hq7, hm⟩ := Option.bind_eq_some_iff.mp hm
      refine cl_X12_406 (c := 0) (pc := 100) C km_0 (kX12_deathsAt hq7) (by decide) (Nat.le_of_ble_eq_true rfl) dX12_table_100 ?_
      refine j_icmp_le (tgt := 109) (pc := 103) C dX12_table_103 (by decide) hm (fun _ hm => ?_) (fun _ hm => ?_)
      · refine j_iload (pc := 106) C 3 dX12_table_106 rfl ?_
        refine j_istoren (ls' := [(3, .int x4), (0, .ref (vad (gV G) 0)), (1, .int x1), (4, .int x4)]) (pc := 108) C dX12_table_108 rfl (by decide) rfl ?_
        refine j_iinc (v := (x4 + (1 : Int32))) (ls' := [(4, .int (x4 + (1 : Int32))), (3, .int x4), (0, .ref (vad (gV G) 0)), (1, .int x1)]) (pc := 109) C 3 dX12_table_109 rfl rfl (by decide) rfl ?_
        refine j_goto (tgt := 84) (pc := 112) C dX12_table_112 (by decide) ?_
        refine j_ls [2, 3, 1, 0] rfl ?_
        exact ih _ _ _ _ hm
      · refine j_iinc (v := (x4 + (1 : Int32))) (ls' := [(4, .int (x4 + (1 : Int32))), (0, .ref (vad (gV G) 0)), (1, .int x1), (3, .int x3)]) (pc := 109) C 3 dX12_table_109 rfl rfl (by decide) rfl ?_
        refine j_goto (tgt := 84) (pc := 112) C dX12_table_112 (by decide) ?_
        refine j_ls [1, 2, 3, 0] rfl ?_
        exact ih _ _ _ _ hm
    · refine j_iloadn (pc := 115) C 2 dX12_table_115 rfl rfl ?_
      exact j_iretS (pc := 116) C rfl dX12_table_116 hm

def lp_X12_table_141 (F : Nat) (k164 : Int32 → Int32 → Int32 → jS → Option (Int32 × jS)) : Nat → Int32 → Int32 → Int32 → Int32 → Int32 → jS → Option (Int32 × jS)
  | 0, _, _, _, _, _, _ => none
  | n + 1, x1, x2, x3, x4, x5, σ => (if x5 < x1 then (Option.bind (mX12_octet F x5 σ) fun q11 => (lt (x4 + q11) fun y12 => (lp_X12_table_141 F k164 n x1 x2 x3 y12 ((x5 + (1 : Int32))) σ))) else (k164 x2 x3 x4 σ))
set_option maxHeartbeats 4000000 in
set_option maxRecDepth 100000 in
theorem lp_X12_table_141_ok {G : jG} (C : jc cfM 33 G cX12_table RX12 6 (some .int) 2) (F : Nat) {v : (Int32 × jS)} (k164 : Int32 → Int32 → Int32 → jS → Option (Int32 × jS)) (hk164 : ∀ (x2 : Int32) (x3 : Int32) (x4 : Int32) (σ : jS), k164 x2 x3 x4 σ = some v → JM G 164 [(0, .ref (vad (gV G) 0)), (2, .int x2), (3, .int x3), (4, .int x4)] [] σ v) : ∀ (n : Nat) (x1 : Int32) (x2 : Int32) (x3 : Int32) (x4 : Int32) (x5 : Int32) (σ : jS), lp_X12_table_141 F k164 n x1 x2 x3 x4 x5 σ = some v → JM G 141 [(0, .ref (vad (gV G) 0)), (1, .int x1), (2, .int x2), (3, .int x3), (4, .int x4), (5, .int x5)] [] σ v := by
  intro n
  induction n with
  | zero =>
    intro x1 x2 x3 x4 x5 σ hm
    rw [lp_X12_table_141] at hm
    cases hm
  | succ n ih =>
    intro x1 x2 x3 x4 x5 σ hm
    rw [lp_X12_table_141] at hm
    refine j_iload (pc := 141) C 5 dX12_table_141 rfl ?_
    refine j_iloadn (pc := 143) C 1 dX12_table_143 rfl rfl ?_
    refine j_icmp_ge (tgt := 164) (pc := 144) C dX12_table_144 (by decide) hm (fun _ hm => ?_) (fun _ hm => ?_)
    · refine j_iload (pc := 147) C 4 dX12_table_147 rfl ?_
      refine j_aloadn (pc := 149) C 0 dX12_table_149 rfl rfl ?_
      refine j_iload (pc := 150) C 5 dX12_table_150 rfl ?_
      obtain ⟨q11, hq11, hm⟩ := Option.bind_eq_some_iff.mp hm
      refine cl_X12_384 (c := 0) (pc := 152) C km_0 (kX12_octet hq11) (by decide) (Nat.le_of_ble_eq_true rfl) dX12_table_152 ?_
      refine j_iadd (pc := 155) C dX12_table_155 ?_
      refine j_lti hm (fun y12 hm => ?_)
      refine j_istore (ls' := [(4, .int y12), (0, .ref (vad (gV G) 0)), (1, .int x1), (2, .int x2), (3, .int x3), (5, .int x5)]) (pc := 156) C dX12_table_156 (by decide) rfl ?_
      refine j_iinc (v := (x5 + (1 : Int32))) (ls' := [(5, .int (x5 + (1 : Int32))), (4, .int y12), (0, .ref (vad (gV G) 0)), (1, .int x1), (2, .int x2), (3, .int x3)]) (pc := 158) C 5 dX12_table_158 rfl rfl (by decide) rfl ?_
      refine j_goto (tgt := 141) (pc := 161) C dX12_table_161 (by decide) ?_
      refine j_ls [2, 3, 4, 5, 1, 0] rfl ?_
      exact ih _ _ _ _ _ _ hm
    · refine j_ls [0, 2, 3, 4] rfl ?_
      exact hk164 _ _ _ _ hm

def jn_X12_table_46 (F : Nat) (x1 : Int32) (x2 : Int32) (σ : jS) : Option (Int32 × jS) := (if (σ 0 6) < x1 then some ((-1 : Int32), σ) else (lt (js σ 0 6 (0 : Int32)) fun σ4 => (Option.bind (mX12_isTable F x1 σ4) fun q5 => (if q5 = 0 then some ((-3 : Int32), σ4) else (if x2 = (300 : Int32) then (lp_X12_table_84 F F x1 (0 : Int32) (1 : Int32) σ4) else (lt (irm x2 (100 : Int32)) fun y8 => (Option.bind (mX12_octet F y8 σ4) fun q9 => (if q9 = 0 then some ((-2 : Int32), σ4) else (lt (y8 + (1 : Int32)) fun y10 => (lp_X12_table_141 F (fun x2_13 x3_13 x4_13 σ13 => (Option.bind (mX12_octet F x3_13 σ13) fun q14 => (Option.bind (mX12_gcd F q14 x4_13 σ13) fun q15 => (if x2_13 < (200 : Int32) then (if q15 = 0 then none else some ((x4_13 / q15), σ13)) else (Option.bind (mX12_octet F x3_13 σ13) fun q16 => (if q15 = 0 then none else some ((q16 / q15), σ13))))))) F x1 x2 y8 (0 : Int32) y10 σ4))))))))))
set_option maxHeartbeats 4000000 in
set_option maxRecDepth 100000 in
theorem jn_X12_table_46_ok {G : jG} (C : jc cfM 33 G cX12_table RX12 6 (some .int) 2) (F : Nat) {v : (Int32 × jS)} : ∀ (x1 : Int32) (x2 : Int32) (σ : jS), jn_X12_table_46 F x1 x2 σ = some v → JM G 46 [(0, .ref (vad (gV G) 0)), (1, .int x1), (2, .int x2)] [] σ v := by
  intro x1 x2 σ hm
  unfold jn_X12_table_46 at hm
  refine j_iloadn (pc := 46) C 1 dX12_table_46 rfl rfl ?_
  refine j_aloadn (pc := 47) C 0 dX12_table_47 rfl rfl ?_
  refine gf_X12_120 (c := 0) (pc := 48) C km_0 dX12_table_48 ?_
  refine j_icmp_le (tgt := 56) (pc := 51) C dX12_table_51 (by decide) hm (fun _ hm => ?_) (fun _ hm => ?_)
  · refine j_iconst (v := -1) (pc := 54) C dX12_table_54 (by decide) ?_
    exact j_iretS (pc := 55) C rfl dX12_table_55 hm
  · refine j_aloadn (pc := 56) C 0 dX12_table_56 rfl rfl ?_
    refine j_iconst (v := 0) (pc := 57) C dX12_table_57 (by decide) ?_
    refine pf_X12_120 (c := 0) (pc := 58) C km_0 dX12_table_58 hm (fun σ4 hm => ?_)
    refine j_aloadn (pc := 61) C 0 dX12_table_61 rfl rfl ?_
    refine j_iloadn (pc := 62) C 1 dX12_table_62 rfl rfl ?_
    obtain ⟨q5, hq5, hm⟩ := Option.bind_eq_some_iff.mp hm
    refine cl_X12_403 (c := 0) (pc := 63) C km_0 (kX12_isTable hq5) (by decide) (Nat.le_of_ble_eq_true rfl) dX12_table_63 ?_
    refine j_if_ne (tgt := 72) (pc := 66) C dX12_table_66 (by decide) hm (fun _ hm => ?_) (fun _ hm => ?_)
    · refine j_bipush (v := -3) (pc := 69) C dX12_table_69 (by decide) ?_
      exact j_iretS (pc := 71) C rfl dX12_table_71 hm
    · refine j_iloadn (pc := 72) C 2 dX12_table_72 rfl rfl ?_
      refine j_sipush (v := 300) (pc := 73) C dX12_table_73 (by decide) ?_
      refine j_icmp_ne (tgt := 117) (pc := 76) C dX12_table_76 (by decide) hm (fun _ hm => ?_) (fun _ hm => ?_)
      · refine j_iconst (v := 0) (pc := 79) C dX12_table_79 (by decide) ?_
        refine j_istoren (ls' := [(3, .int (0 : Int32)), (0, .ref (vad (gV G) 0)), (1, .int x1), (2, .int x2)]) (pc := 80) C dX12_table_80 rfl (by decide) rfl ?_
        refine j_iconst (v := 1) (pc := 81) C dX12_table_81 (by decide) ?_
        refine j_istore (ls' := [(4, .int (1 : Int32)), (3, .int (0 : Int32)), (0, .ref (vad (gV G) 0)), (1, .int x1), (2, .int x2)]) (pc := 82) C dX12_table_82 (by decide) rfl ?_
        refine j_ls [2, 3, 1, 0] rfl ?_
        exact lp_X12_table_84_ok C F  F _ _ _ _ hm
      · refine j_iloadn (pc := 117) C 2 dX12_table_117 rfl rfl ?_
        refine j_bipush (v := 100) (pc := 118) C dX12_table_118 (by decide) ?_
        refine j_iremK (pc := 120) C dX12_table_120 (by decide) ?_
        refine j_lti hm (fun y8 hm => ?_)
        refine j_istoren (ls' := [(3, .int y8), (0, .ref (vad (gV G) 0)), (1, .int x1), (2, .int x2)]) (pc := 121) C dX12_table_121 rfl (by decide) rfl ?_
        refine j_aloadn (pc := 122) C 1 dX12_table_122 rfl rfl ?_
        refine j_iloadn (pc := 123) C 0 dX12_table_123 rfl rfl ?_
        obtain ⟨q9, hq9, hm⟩ := Option.bind_eq_some_iff.mp hm
        refine cl_X12_384 (c := 0) (pc := 124) C km_0 (kX12_octet hq9) (by decide) (Nat.le_of_ble_eq_true rfl) dX12_table_124 ?_
        refine j_if_ne (tgt := 133) (pc := 127) C dX12_table_127 (by decide) hm (fun _ hm => ?_) (fun _ hm => ?_)
        · refine j_bipush (v := -2) (pc := 130) C dX12_table_130 (by decide) ?_
          exact j_iretS (pc := 132) C rfl dX12_table_132 hm
        · refine j_iconst (v := 0) (pc := 133) C dX12_table_133 (by decide) ?_
          refine j_istore (ls' := [(4, .int (0 : Int32)), (3, .int y8), (0, .ref (vad (gV G) 0)), (1, .int x1), (2, .int x2)]) (pc := 134) C dX12_table_134 (by decide) rfl ?_
          refine j_iloadn (pc := 136) C 1 dX12_table_136 rfl rfl ?_
          refine j_iconst (v := 1) (pc := 137) C dX12_table_137 (by decide) ?_
          refine j_iadd (pc := 138) C dX12_table_138 ?_
          refine j_lti hm (fun y10 hm => ?_)
          refine j_istore (ls' := [(5, .int y10), (4, .int (0 : Int32)), (3, .int y8), (0, .ref (vad (gV G) 0)), (1, .int x1), (2, .int x2)]) (pc := 139) C dX12_table_139 (by decide) rfl ?_
          refine j_ls [3, 4, 5, 2, 1, 0] rfl ?_
          refine lp_X12_table_141_ok C F _ (fun x2_13 x3_13 x4_13 σ13 hm => ?_) F _ _ _ _ _ _ hm
          refine j_aloadn (pc := 164) C 0 dX12_table_164 rfl rfl ?_
          refine j_iloadn (pc := 165) C 2 dX12_table_165 rfl rfl ?_
          obtain ⟨q14, hq14, hm⟩ := Option.bind_eq_some_iff.mp hm
          refine cl_X12_384 (c := 0) (pc := 166) C km_0 (kX12_octet hq14) (by decide) (Nat.le_of_ble_eq_true rfl) dX12_table_166 ?_
          refine j_iload (pc := 169) C 3 dX12_table_169 rfl ?_
          obtain ⟨q15, hq15, hm⟩ := Option.bind_eq_some_iff.mp hm
          refine cl_X12_409 (pc := 171) C (kX12_gcd hq15) (by decide) (Nat.le_of_ble_eq_true rfl) dX12_table_171 ?_
          refine j_istore (ls' := [(5, .int q15), (0, .ref (vad (gV G) 0)), (2, .int x2_13), (3, .int x3_13), (4, .int x4_13)]) (pc := 174) C dX12_table_174 (by decide) rfl ?_
          refine j_iloadn (pc := 176) C 2 dX12_table_176 rfl rfl ?_
          refine j_sipush (v := 200) (pc := 177) C dX12_table_177 (by decide) ?_
          refine j_icmp_ge (tgt := 191) (pc := 180) C dX12_table_180 (by decide) hm (fun _ hm => ?_) (fun _ hm => ?_)
          · refine j_iload (pc := 183) C 4 dX12_table_183 rfl ?_
            refine j_iload (pc := 185) C 0 dX12_table_185 rfl ?_
            refine j_idiv (pc := 187) C dX12_table_187 hm (fun hm => ?_)
            refine j_goto (tgt := 199) (pc := 188) C dX12_table_188 (by decide) ?_
            exact j_iretS (pc := 199) C rfl dX12_table_199 hm
          · refine j_aloadn (pc := 191) C 1 dX12_table_191 rfl rfl ?_
            refine j_iloadn (pc := 192) C 3 dX12_table_192 rfl rfl ?_
            obtain ⟨q16, hq16, hm⟩ := Option.bind_eq_some_iff.mp hm
            refine cl_X12_384 (c := 0) (pc := 193) C km_0 (kX12_octet hq16) (by decide) (Nat.le_of_ble_eq_true rfl) dX12_table_193 ?_
            refine j_iload (pc := 196) C 0 dX12_table_196 rfl ?_
            refine j_idiv (pc := 198) C dX12_table_198 hm (fun hm => ?_)
            exact j_iretS (pc := 199) C rfl dX12_table_199 hm

def mX12_table (F : Nat) (x1 : Int32) (x2 : Int32) (σ : jS) : Option (Int32 × jS) := (Option.bind (mX12_in F x1 (2 : Int32) (30 : Int32) σ) fun q1 => (if q1 = 0 then some ((-1 : Int32), σ) else (Option.bind (mX12_in F ((x2 - (100 : Int32))) (0 : Int32) ((x1 - (1 : Int32))) σ) fun q2 => (if q2 = 0 then (Option.bind (mX12_in F ((x2 - (200 : Int32))) (0 : Int32) ((x1 - (1 : Int32))) σ) fun q3 => (if q3 = 0 then (if x2 = (300 : Int32) then (jn_X12_table_46 F x1 x2 σ) else some ((-1 : Int32), σ)) else (jn_X12_table_46 F x1 x2 σ))) else (jn_X12_table_46 F x1 x2 σ)))))
set_option maxHeartbeats 4000000 in
set_option maxRecDepth 100000 in
theorem kX12_table {V : jV} {F : Nat} {x1 : Int32} {x2 : Int32} {σ : jS} {v : (Int32 × jS)} (hm : mX12_table F x1 x2 σ = some v) : Ct cfM 33 V yX12_table cX12_table 6 (some .int) 2 [.ref (vad V 0), .int x1, .int x2] σ v := by
  refine j_start (own := RX12) (by decide) rfl (Nat.le_of_ble_eq_true rfl) ?_
  intro G hV C
  subst hV
  unfold mX12_table at hm
  show JM G 0 [(0, .ref (vad (gV G) 0)), (1, .int x1), (2, .int x2)] [] σ v
  refine j_iloadn (pc := 0) C 1 dX12_table_0 rfl rfl ?_
  refine j_iconst (v := 2) (pc := 1) C dX12_table_1 (by decide) ?_
  refine j_bipush (v := 30) (pc := 2) C dX12_table_2 (by decide) ?_
  obtain ⟨q1, hq1, hm⟩ := Option.bind_eq_some_iff.mp hm
  refine cl_X12_107 (pc := 4) C (kX12_in hq1) (by decide) (Nat.le_of_ble_eq_true rfl) dX12_table_4 ?_
  refine j_if_eq (tgt := 54) (pc := 7) C dX12_table_7 (by decide) hm (fun _ hm => ?_) (fun _ hm => ?_)
  · refine j_iconst (v := -1) (pc := 54) C dX12_table_54 (by decide) ?_
    exact j_iretS (pc := 55) C rfl dX12_table_55 hm
  · refine j_iloadn (pc := 10) C 2 dX12_table_10 rfl rfl ?_
    refine j_bipush (v := 100) (pc := 11) C dX12_table_11 (by decide) ?_
    refine j_isub (pc := 13) C dX12_table_13 ?_
    refine j_iconst (v := 0) (pc := 14) C dX12_table_14 (by decide) ?_
    refine j_iloadn (pc := 15) C 1 dX12_table_15 rfl rfl ?_
    refine j_iconst (v := 1) (pc := 16) C dX12_table_16 (by decide) ?_
    refine j_isub (pc := 17) C dX12_table_17 ?_
    obtain ⟨q2, hq2, hm⟩ := Option.bind_eq_some_iff.mp hm
    refine cl_X12_107 (pc := 18) C (kX12_in hq2) (by decide) (Nat.le_of_ble_eq_true rfl) dX12_table_18 ?_
    refine j_if_ne (tgt := 46) (pc := 21) C dX12_table_21 (by decide) hm (fun _ hm => ?_) (fun _ hm => ?_)
    · refine j_iloadn (pc := 24) C 2 dX12_table_24 rfl rfl ?_
      refine j_sipush (v := 200) (pc := 25) C dX12_table_25 (by decide) ?_
      refine j_isub (pc := 28) C dX12_table_28 ?_
      refine j_iconst (v := 0) (pc := 29) C dX12_table_29 (by decide) ?_
      refine j_iloadn (pc := 30) C 1 dX12_table_30 rfl rfl ?_
      refine j_iconst (v := 1) (pc := 31) C dX12_table_31 (by decide) ?_
      refine j_isub (pc := 32) C dX12_table_32 ?_
      obtain ⟨q3, hq3, hm⟩ := Option.bind_eq_some_iff.mp hm
      refine cl_X12_107 (pc := 33) C (kX12_in hq3) (by decide) (Nat.le_of_ble_eq_true rfl) dX12_table_33 ?_
      refine j_if_ne (tgt := 46) (pc := 36) C dX12_table_36 (by decide) hm (fun _ hm => ?_) (fun _ hm => ?_)
      · refine j_iloadn (pc := 39) C 2 dX12_table_39 rfl rfl ?_
        refine j_sipush (v := 300) (pc := 40) C dX12_table_40 (by decide) ?_
        refine j_icmp_ne (tgt := 54) (pc := 43) C dX12_table_43 (by decide) hm (fun _ hm => ?_) (fun _ hm => ?_)
        · exact jn_X12_table_46_ok C F  _ _ _ hm
        · refine j_iconst (v := -1) (pc := 54) C dX12_table_54 (by decide) ?_
          exact j_iretS (pc := 55) C rfl dX12_table_55 hm
      · exact jn_X12_table_46_ok C F  _ _ _ hm
    · exact jn_X12_table_46_ok C F  _ _ _ hm

def lp_X12_atOnce_107 (F : Nat) (k158 : Int32 → Int32 → Int32 → Int32 → jS → Option (Int32 × jS)) : Nat → Int32 → Int32 → Int32 → Int32 → Int32 → Int32 → jS → Option (Int32 × jS)
  | 0, _, _, _, _, _, _, _ => none
  | n + 1, x1, x2, x3, x4, x5, x6, σ => (if x6 < x4 then (k158 x1 x2 x3 x5 σ) else (Option.bind (mX12_octet F (0 : Int32) σ) fun q16 => (Option.bind (mX12_octet F (1 : Int32) σ) fun q17 => (if q17 = 0 then none else (if (irm (x6 - q16) q17) = 0 then (Option.bind (mX12_octet F (2 : Int32) σ) fun q19 => (Option.bind (mX12_octet F (3 : Int32) σ) fun q20 => (if q20 = 0 then none else (if (irm (x6 - q19) q20) = 0 then (lp_X12_atOnce_107 F k158 n x1 x2 x3 x4 x6 ((x6 + (-1 : Int32))) σ) else (lp_X12_atOnce_107 F k158 n x1 x2 x3 x4 x5 ((x6 + (-1 : Int32))) σ))))) else (lp_X12_atOnce_107 F k158 n x1 x2 x3 x4 x5 ((x6 + (-1 : Int32))) σ))))))
set_option maxHeartbeats 4000000 in
set_option maxRecDepth 100000 in
theorem lp_X12_atOnce_107_ok {G : jG} (C : jc cfM 33 G cX12_atOnce RX12 7 (some .int) 1) (F : Nat) {v : (Int32 × jS)} (k158 : Int32 → Int32 → Int32 → Int32 → jS → Option (Int32 × jS)) (hk158 : ∀ (x1 : Int32) (x2 : Int32) (x3 : Int32) (x5 : Int32) (σ : jS), k158 x1 x2 x3 x5 σ = some v → JM G 158 [(1, .int x1), (2, .int x2), (3, .int x3), (5, .int x5)] [] σ v) : ∀ (n : Nat) (x1 : Int32) (x2 : Int32) (x3 : Int32) (x4 : Int32) (x5 : Int32) (x6 : Int32) (σ : jS), lp_X12_atOnce_107 F k158 n x1 x2 x3 x4 x5 x6 σ = some v → JM G 107 [(0, .ref (vad (gV G) 0)), (1, .int x1), (2, .int x2), (3, .int x3), (4, .int x4), (5, .int x5), (6, .int x6)] [] σ v := by
  intro n
  induction n with
  | zero =>
    intro x1 x2 x3 x4 x5 x6 σ hm
    rw [lp_X12_atOnce_107] at hm
    cases hm
  | succ n ih =>
    intro x1 x2 x3 x4 x5 x6 σ hm
    rw [lp_X12_atOnce_107] at hm
    refine j_iload (pc := 107) C 6 dX12_atOnce_107 rfl ?_
    refine j_iload (pc := 109) C 4 dX12_atOnce_109 rfl ?_
    refine j_icmp_lt (tgt := 158) (pc := 111) C dX12_atOnce_111 (by decide) hm (fun _ hm => ?_) (fun _ hm => ?_)
    · refine j_ls [1, 2, 3, 5] rfl ?_
      exact hk158 _ _ _ _ _ hm
    · refine j_iload (pc := 114) C 6 dX12_atOnce_114 rfl ?_
      refine j_aloadn (pc := 116) C 0 dX12_atOnce_116 rfl rfl ?_
      refine j_iconst (v := 0) (pc := 117) C dX12_atOnce_117 (by decide) ?_
      obtain ⟨q16, hq16, hm⟩ := Option.bind_eq_some_iff.mp hm
      refine cl_X12_384 (c := 0) (pc := 118) C km_0 (kX12_octet hq16) (by decide) (Nat.le_of_ble_eq_true rfl) dX12_atOnce_118 ?_
      refine j_isub (pc := 121) C dX12_atOnce_121 ?_
      refine j_aloadn (pc := 122) C 0 dX12_atOnce_122 rfl rfl ?_
      refine j_iconst (v := 1) (pc := 123) C dX12_atOnce_123 (by decide) ?_
      obtain ⟨q17, hq17, hm⟩ := Option.bind_eq_some_iff.mp hm
      refine cl_X12_384 (c := 0) (pc := 124) C km_0 (kX12_octet hq17) (by decide) (Nat.le_of_ble_eq_true rfl) dX12_atOnce_124 ?_
      refine j_irem (pc := 127) C dX12_atOnce_127 hm (fun hm => ?_)
      refine j_if_ne (tgt := 152) (pc := 128) C dX12_atOnce_128 (by decide) hm (fun _ hm => ?_) (fun _ hm => ?_)
      · refine j_iload (pc := 131) C 6 dX12_atOnce_131 rfl ?_
        refine j_aloadn (pc := 133) C 0 dX12_atOnce_133 rfl rfl ?_
        refine j_iconst (v := 2) (pc := 134) C dX12_atOnce_134 (by decide) ?_
        obtain ⟨q19, hq19, hm⟩ := Option.bind_eq_some_iff.mp hm
        refine cl_X12_384 (c := 0) (pc := 135) C km_0 (kX12_octet hq19) (by decide) (Nat.le_of_ble_eq_true rfl) dX12_atOnce_135 ?_
        refine j_isub (pc := 138) C dX12_atOnce_138 ?_
        refine j_aloadn (pc := 139) C 0 dX12_atOnce_139 rfl rfl ?_
        refine j_iconst (v := 3) (pc := 140) C dX12_atOnce_140 (by decide) ?_
        obtain ⟨q20, hq20, hm⟩ := Option.bind_eq_some_iff.mp hm
        refine cl_X12_384 (c := 0) (pc := 141) C km_0 (kX12_octet hq20) (by decide) (Nat.le_of_ble_eq_true rfl) dX12_atOnce_141 ?_
        refine j_irem (pc := 144) C dX12_atOnce_144 hm (fun hm => ?_)
        refine j_if_ne (tgt := 152) (pc := 145) C dX12_atOnce_145 (by decide) hm (fun _ hm => ?_) (fun _ hm => ?_)
        · refine j_iload (pc := 148) C 6 dX12_atOnce_148 rfl ?_
          refine j_istore (ls' := [(5, .int x6), (0, .ref (vad (gV G) 0)), (1, .int x1), (2, .int x2), (3, .int x3), (4, .int x4), (6, .int x6)]) (pc := 150) C dX12_atOnce_150 (by decide) rfl ?_
          refine j_iinc (v := (x6 + (-1 : Int32))) (ls' := [(6, .int (x6 + (-1 : Int32))), (5, .int x6), (0, .ref (vad (gV G) 0)), (1, .int x1), (2, .int x2), (3, .int x3), (4, .int x4)]) (pc := 152) C 6 dX12_atOnce_152 rfl rfl (by decide) rfl ?_
          refine j_goto (tgt := 107) (pc := 155) C dX12_atOnce_155 (by decide) ?_
          refine j_ls [2, 3, 4, 5, 6, 1, 0] rfl ?_
          exact ih _ _ _ _ _ _ _ hm
        · refine j_iinc (v := (x6 + (-1 : Int32))) (ls' := [(6, .int (x6 + (-1 : Int32))), (0, .ref (vad (gV G) 0)), (1, .int x1), (2, .int x2), (3, .int x3), (4, .int x4), (5, .int x5)]) (pc := 152) C 6 dX12_atOnce_152 rfl rfl (by decide) rfl ?_
          refine j_goto (tgt := 107) (pc := 155) C dX12_atOnce_155 (by decide) ?_
          refine j_ls [1, 2, 3, 4, 5, 6, 0] rfl ?_
          exact ih _ _ _ _ _ _ _ hm
      · refine j_iinc (v := (x6 + (-1 : Int32))) (ls' := [(6, .int (x6 + (-1 : Int32))), (0, .ref (vad (gV G) 0)), (1, .int x1), (2, .int x2), (3, .int x3), (4, .int x4), (5, .int x5)]) (pc := 152) C 6 dX12_atOnce_152 rfl rfl (by decide) rfl ?_
        refine j_goto (tgt := 107) (pc := 155) C dX12_atOnce_155 (by decide) ?_
        refine j_ls [1, 2, 3, 4, 5, 6, 0] rfl ?_
        exact ih _ _ _ _ _ _ _ hm

def mX12_atOnce (F : Nat) (x1 : Int32) (x2 : Int32) (σ : jS) : Option (Int32 × jS) := (Option.bind (mX12_in F x1 (0 : Int32) (65535 : Int32) σ) fun q1 => (if q1 = 0 then some ((-1 : Int32), σ) else (Option.bind (mX12_in F x2 (0 : Int32) (1 : Int32) σ) fun q2 => (if q2 = 0 then some ((-1 : Int32), σ) else (if (σ 0 6) < (4 : Int32) then some ((-1 : Int32), σ) else (lt (js σ 0 6 (0 : Int32)) fun σ3 => (Option.bind (mX12_octet F (1 : Int32) σ3) fun q4 => (if q4 = 0 then some ((-3 : Int32), σ3) else (Option.bind (mX12_octet F (3 : Int32) σ3) fun q5 => (if q5 = 0 then some ((-3 : Int32), σ3) else (Option.bind (mX12_octet F (1 : Int32) σ3) fun q6 => (Option.bind (mX12_octet F (1 : Int32) σ3) fun q7 => (Option.bind (mX12_octet F (3 : Int32) σ3) fun q8 => (Option.bind (mX12_gcd F q7 q8 σ3) fun q9 => (if q9 = 0 then none else (Option.bind (mX12_octet F (3 : Int32) σ3) fun q10 => (lt ((q6 / q9) * q10) fun y11 => (Option.bind (mX12_octet F (0 : Int32) σ3) fun q12 => (Option.bind (mX12_octet F (2 : Int32) σ3) fun q13 => (Option.bind (mX12_max F q12 q13 σ3) fun q14 => (lt ((q14 + y11) - (1 : Int32)) fun y15 => (lp_X12_atOnce_107 F (fun x1_22 x2_22 x3_22 x5_22 σ22 => (if x2_22 = 0 then some (x5_22, σ22) else (if x5_22 = (-2 : Int32) then some ((0 : Int32), σ22) else (if x1_22 < x5_22 then some ((0 : Int32), σ22) else (if x3_22 = 0 then none else some ((((x1_22 - x5_22) / x3_22) + (1 : Int32)), σ22)))))) F x1 x2 y11 q14 (-2 : Int32) y15 σ3))))))))))))))))))))))
set_option maxHeartbeats 4000000 in
set_option maxRecDepth 100000 in
theorem kX12_atOnce {V : jV} {F : Nat} {x1 : Int32} {x2 : Int32} {σ : jS} {v : (Int32 × jS)} (hm : mX12_atOnce F x1 x2 σ = some v) : Ct cfM 33 V yX12_atOnce cX12_atOnce 7 (some .int) 1 [.ref (vad V 0), .int x1, .int x2] σ v := by
  refine j_start (own := RX12) (by decide) rfl (Nat.le_of_ble_eq_true rfl) ?_
  intro G hV C
  subst hV
  unfold mX12_atOnce at hm
  show JM G 0 [(0, .ref (vad (gV G) 0)), (1, .int x1), (2, .int x2)] [] σ v
  refine j_iloadn (pc := 0) C 1 dX12_atOnce_0 rfl rfl ?_
  refine j_iconst (v := 0) (pc := 1) C dX12_atOnce_1 (by decide) ?_
  refine j_ldcw (v := 65535) (pc := 2) C dX12_atOnce_2 tw_7_46 ?_
  obtain ⟨q1, hq1, hm⟩ := Option.bind_eq_some_iff.mp hm
  refine cl_X12_107 (pc := 5) C (kX12_in hq1) (by decide) (Nat.le_of_ble_eq_true rfl) dX12_atOnce_5 ?_
  refine j_if_eq (tgt := 28) (pc := 8) C dX12_atOnce_8 (by decide) hm (fun _ hm => ?_) (fun _ hm => ?_)
  · refine j_iconst (v := -1) (pc := 28) C dX12_atOnce_28 (by decide) ?_
    exact j_iretS (pc := 29) C rfl dX12_atOnce_29 hm
  · refine j_iloadn (pc := 11) C 2 dX12_atOnce_11 rfl rfl ?_
    refine j_iconst (v := 0) (pc := 12) C dX12_atOnce_12 (by decide) ?_
    refine j_iconst (v := 1) (pc := 13) C dX12_atOnce_13 (by decide) ?_
    obtain ⟨q2, hq2, hm⟩ := Option.bind_eq_some_iff.mp hm
    refine cl_X12_107 (pc := 14) C (kX12_in hq2) (by decide) (Nat.le_of_ble_eq_true rfl) dX12_atOnce_14 ?_
    refine j_if_eq (tgt := 28) (pc := 17) C dX12_atOnce_17 (by decide) hm (fun _ hm => ?_) (fun _ hm => ?_)
    · refine j_iconst (v := -1) (pc := 28) C dX12_atOnce_28 (by decide) ?_
      exact j_iretS (pc := 29) C rfl dX12_atOnce_29 hm
    · refine j_aloadn (pc := 20) C 0 dX12_atOnce_20 rfl rfl ?_
      refine gf_X12_120 (c := 0) (pc := 21) C km_0 dX12_atOnce_21 ?_
      refine j_iconst (v := 4) (pc := 24) C dX12_atOnce_24 (by decide) ?_
      refine j_icmp_ge (tgt := 30) (pc := 25) C dX12_atOnce_25 (by decide) hm (fun _ hm => ?_) (fun _ hm => ?_)
      · refine j_iconst (v := -1) (pc := 28) C dX12_atOnce_28 (by decide) ?_
        exact j_iretS (pc := 29) C rfl dX12_atOnce_29 hm
      · refine j_aloadn (pc := 30) C 0 dX12_atOnce_30 rfl rfl ?_
        refine j_iconst (v := 0) (pc := 31) C dX12_atOnce_31 (by decide) ?_
        refine pf_X12_120 (c := 0) (pc := 32) C km_0 dX12_atOnce_32 hm (fun σ3 hm => ?_)
        refine j_aloadn (pc := 35) C 0 dX12_atOnce_35 rfl rfl ?_
        refine j_iconst (v := 1) (pc := 36) C dX12_atOnce_36 (by decide) ?_
        obtain ⟨q4, hq4, hm⟩ := Option.bind_eq_some_iff.mp hm
        refine cl_X12_384 (c := 0) (pc := 37) C km_0 (kX12_octet hq4) (by decide) (Nat.le_of_ble_eq_true rfl) dX12_atOnce_37 ?_
        refine j_if_eq (tgt := 51) (pc := 40) C dX12_atOnce_40 (by decide) hm (fun _ hm => ?_) (fun _ hm => ?_)
        · refine j_bipush (v := -3) (pc := 51) C dX12_atOnce_51 (by decide) ?_
          exact j_iretS (pc := 53) C rfl dX12_atOnce_53 hm
        · refine j_aloadn (pc := 43) C 0 dX12_atOnce_43 rfl rfl ?_
          refine j_iconst (v := 3) (pc := 44) C dX12_atOnce_44 (by decide) ?_
          obtain ⟨q5, hq5, hm⟩ := Option.bind_eq_some_iff.mp hm
          refine cl_X12_384 (c := 0) (pc := 45) C km_0 (kX12_octet hq5) (by decide) (Nat.le_of_ble_eq_true rfl) dX12_atOnce_45 ?_
          refine j_if_ne (tgt := 54) (pc := 48) C dX12_atOnce_48 (by decide) hm (fun _ hm => ?_) (fun _ hm => ?_)
          · refine j_bipush (v := -3) (pc := 51) C dX12_atOnce_51 (by decide) ?_
            exact j_iretS (pc := 53) C rfl dX12_atOnce_53 hm
          · refine j_aloadn (pc := 54) C 0 dX12_atOnce_54 rfl rfl ?_
            refine j_iconst (v := 1) (pc := 55) C dX12_atOnce_55 (by decide) ?_
            obtain ⟨q6, hq6, hm⟩ := Option.bind_eq_some_iff.mp hm
            refine cl_X12_384 (c := 0) (pc := 56) C km_0 (kX12_octet hq6) (by decide) (Nat.le_of_ble_eq_true rfl) dX12_atOnce_56 ?_
            refine j_aloadn (pc := 59) C 0 dX12_atOnce_59 rfl rfl ?_
            refine j_iconst (v := 1) (pc := 60) C dX12_atOnce_60 (by decide) ?_
            obtain ⟨q7, hq7, hm⟩ := Option.bind_eq_some_iff.mp hm
            refine cl_X12_384 (c := 0) (pc := 61) C km_0 (kX12_octet hq7) (by decide) (Nat.le_of_ble_eq_true rfl) dX12_atOnce_61 ?_
            refine j_aloadn (pc := 64) C 0 dX12_atOnce_64 rfl rfl ?_
            refine j_iconst (v := 3) (pc := 65) C dX12_atOnce_65 (by decide) ?_
            obtain ⟨q8, hq8, hm⟩ := Option.bind_eq_some_iff.mp hm
            refine cl_X12_384 (c := 0) (pc := 66) C km_0 (kX12_octet hq8) (by decide) (Nat.le_of_ble_eq_true rfl) dX12_atOnce_66 ?_
            obtain ⟨q9, hq9, hm⟩ := Option.bind_eq_some_iff.mp hm
            refine cl_X12_409 (pc := 69) C (kX12_gcd hq9) (by decide) (Nat.le_of_ble_eq_true rfl) dX12_atOnce_69 ?_
            refine j_idiv (pc := 72) C dX12_atOnce_72 hm (fun hm => ?_)
            refine j_aloadn (pc := 73) C 0 dX12_atOnce_73 rfl rfl ?_
            refine j_iconst (v := 3) (pc := 74) C dX12_atOnce_74 (by decide) ?_
            obtain ⟨q10, hq10, hm⟩ := Option.bind_eq_some_iff.mp hm
            refine cl_X12_384 (c := 0) (pc := 75) C km_0 (kX12_octet hq10) (by decide) (Nat.le_of_ble_eq_true rfl) dX12_atOnce_75 ?_
            refine j_imul (pc := 78) C dX12_atOnce_78 ?_
            refine j_lti hm (fun y11 hm => ?_)
            refine j_istoren (ls' := [(3, .int y11), (0, .ref (vad (gV G) 0)), (1, .int x1), (2, .int x2)]) (pc := 79) C dX12_atOnce_79 rfl (by decide) rfl ?_
            refine j_aloadn (pc := 80) C 1 dX12_atOnce_80 rfl rfl ?_
            refine j_iconst (v := 0) (pc := 81) C dX12_atOnce_81 (by decide) ?_
            obtain ⟨q12, hq12, hm⟩ := Option.bind_eq_some_iff.mp hm
            refine cl_X12_384 (c := 0) (pc := 82) C km_0 (kX12_octet hq12) (by decide) (Nat.le_of_ble_eq_true rfl) dX12_atOnce_82 ?_
            refine j_aloadn (pc := 85) C 1 dX12_atOnce_85 rfl rfl ?_
            refine j_iconst (v := 2) (pc := 86) C dX12_atOnce_86 (by decide) ?_
            obtain ⟨q13, hq13, hm⟩ := Option.bind_eq_some_iff.mp hm
            refine cl_X12_384 (c := 0) (pc := 87) C km_0 (kX12_octet hq13) (by decide) (Nat.le_of_ble_eq_true rfl) dX12_atOnce_87 ?_
            obtain ⟨q14, hq14, hm⟩ := Option.bind_eq_some_iff.mp hm
            refine cl_X12_302 (pc := 90) C (kX12_max hq14) (by decide) (Nat.le_of_ble_eq_true rfl) dX12_atOnce_90 ?_
            refine j_istore (ls' := [(4, .int q14), (3, .int y11), (0, .ref (vad (gV G) 0)), (1, .int x1), (2, .int x2)]) (pc := 93) C dX12_atOnce_93 (by decide) rfl ?_
            refine j_bipush (v := -2) (pc := 95) C dX12_atOnce_95 (by decide) ?_
            refine j_istore (ls' := [(5, .int (-2 : Int32)), (4, .int q14), (3, .int y11), (0, .ref (vad (gV G) 0)), (1, .int x1), (2, .int x2)]) (pc := 97) C dX12_atOnce_97 (by decide) rfl ?_
            refine j_iload (pc := 99) C 1 dX12_atOnce_99 rfl ?_
            refine j_iloadn (pc := 101) C 2 dX12_atOnce_101 rfl rfl ?_
            refine j_iadd (pc := 102) C dX12_atOnce_102 ?_
            refine j_iconst (v := 1) (pc := 103) C dX12_atOnce_103 (by decide) ?_
            refine j_isub (pc := 104) C dX12_atOnce_104 ?_
            refine j_lti hm (fun y15 hm => ?_)
            refine j_istore (ls' := [(6, .int y15), (5, .int (-2 : Int32)), (4, .int q14), (3, .int y11), (0, .ref (vad (gV G) 0)), (1, .int x1), (2, .int x2)]) (pc := 105) C dX12_atOnce_105 (by decide) rfl ?_
            refine j_ls [4, 5, 6, 3, 2, 1, 0] rfl ?_
            refine lp_X12_atOnce_107_ok C F _ (fun x1_22 x2_22 x3_22 x5_22 σ22 hm => ?_) F _ _ _ _ _ _ _ hm
            refine j_iloadn (pc := 158) C 1 dX12_atOnce_158 rfl rfl ?_
            refine j_if_ne (tgt := 165) (pc := 159) C dX12_atOnce_159 (by decide) hm (fun _ hm => ?_) (fun _ hm => ?_)
            · refine j_iload (pc := 162) C 3 dX12_atOnce_162 rfl ?_
              exact j_iretS (pc := 164) C rfl dX12_atOnce_164 hm
            · refine j_iload (pc := 165) C 3 dX12_atOnce_165 rfl ?_
              refine j_bipush (v := -2) (pc := 167) C dX12_atOnce_167 (by decide) ?_
              refine j_icmp_eq (tgt := 178) (pc := 169) C dX12_atOnce_169 (by decide) hm (fun _ hm => ?_) (fun _ hm => ?_)
              · refine j_iconst (v := 0) (pc := 178) C dX12_atOnce_178 (by decide) ?_
                refine j_goto (tgt := 190) (pc := 179) C dX12_atOnce_179 (by decide) ?_
                exact j_iretS (pc := 190) C rfl dX12_atOnce_190 hm
              · refine j_iload (pc := 172) C 3 dX12_atOnce_172 rfl ?_
                refine j_iloadn (pc := 174) C 0 dX12_atOnce_174 rfl rfl ?_
                refine j_icmp_le (tgt := 182) (pc := 175) C dX12_atOnce_175 (by decide) hm (fun _ hm => ?_) (fun _ hm => ?_)
                · refine j_iconst (v := 0) (pc := 178) C dX12_atOnce_178 (by decide) ?_
                  refine j_goto (tgt := 190) (pc := 179) C dX12_atOnce_179 (by decide) ?_
                  exact j_iretS (pc := 190) C rfl dX12_atOnce_190 hm
                · refine j_iloadn (pc := 182) C 0 dX12_atOnce_182 rfl rfl ?_
                  refine j_iload (pc := 183) C 3 dX12_atOnce_183 rfl ?_
                  refine j_isub (pc := 185) C dX12_atOnce_185 ?_
                  refine j_iloadn (pc := 186) C 2 dX12_atOnce_186 rfl rfl ?_
                  refine j_idiv (pc := 187) C dX12_atOnce_187 hm (fun hm => ?_)
                  refine j_iconst (v := 1) (pc := 188) C dX12_atOnce_188 (by decide) ?_
                  refine j_iadd (pc := 189) C dX12_atOnce_189 ?_
                  exact j_iretS (pc := 190) C rfl dX12_atOnce_190 hm

def lp_X12_pulse_41 (F : Nat) (k93 : Int32 → Int32 → Int32 → jS → Option (Int32 × jS)) : Nat → Int32 → Int32 → Int32 → Int32 → jS → Option (Int32 × jS)
  | 0, _, _, _, _, _ => none
  | n + 1, x1, x2, x3, x4, σ => (if x4 < x1 then (Option.bind (mX12_twoOctets F x4 σ) fun q4 => (Option.bind (mX12_twoOctets F ((x4 - (1 : Int32))) σ) fun q5 => (if q5 < q4 then (Option.bind (mX12_twoOctets F x4 σ) fun q6 => (Option.bind (mX12_twoOctets F ((x4 - (1 : Int32))) σ) fun q7 => (Option.bind (mX12_gcd F x3 ((q6 - q7)) σ) fun q8 => (lp_X12_pulse_41 F k93 n x1 x2 q8 ((x4 + (1 : Int32))) σ)))) else some ((-3 : Int32), σ)))) else (k93 x1 x2 x3 σ))
set_option maxHeartbeats 4000000 in
set_option maxRecDepth 100000 in
theorem lp_X12_pulse_41_ok {G : jG} (C : jc cfM 33 G cX12_pulse RX12 5 (some .int) 2) (F : Nat) {v : (Int32 × jS)} (k93 : Int32 → Int32 → Int32 → jS → Option (Int32 × jS)) (hk93 : ∀ (x1 : Int32) (x2 : Int32) (x3 : Int32) (σ : jS), k93 x1 x2 x3 σ = some v → JM G 93 [(0, .ref (vad (gV G) 0)), (1, .int x1), (2, .int x2), (3, .int x3)] [] σ v) : ∀ (n : Nat) (x1 : Int32) (x2 : Int32) (x3 : Int32) (x4 : Int32) (σ : jS), lp_X12_pulse_41 F k93 n x1 x2 x3 x4 σ = some v → JM G 41 [(0, .ref (vad (gV G) 0)), (1, .int x1), (2, .int x2), (3, .int x3), (4, .int x4)] [] σ v := by
  intro n
  induction n with
  | zero =>
    intro x1 x2 x3 x4 σ hm
    rw [lp_X12_pulse_41] at hm
    cases hm
  | succ n ih =>
    intro x1 x2 x3 x4 σ hm
    rw [lp_X12_pulse_41] at hm
    refine j_iload (pc := 41) C 4 dX12_pulse_41 rfl ?_
    refine j_iloadn (pc := 43) C 1 dX12_pulse_43 rfl rfl ?_
    refine j_icmp_ge (tgt := 93) (pc := 44) C dX12_pulse_44 (by decide) hm (fun _ hm => ?_) (fun _ hm => ?_)
    · refine j_aloadn (pc := 47) C 0 dX12_pulse_47 rfl rfl ?_
      refine j_iload (pc := 48) C 4 dX12_pulse_48 rfl ?_
      obtain ⟨q4, hq4, hm⟩ := Option.bind_eq_some_iff.mp hm
      refine cl_X12_387 (c := 0) (pc := 50) C km_0 (kX12_twoOctets hq4) (by decide) (Nat.le_of_ble_eq_true rfl) dX12_pulse_50 ?_
      refine j_aloadn (pc := 53) C 0 dX12_pulse_53 rfl rfl ?_
      refine j_iload (pc := 54) C 4 dX12_pulse_54 rfl ?_
      refine j_iconst (v := 1) (pc := 56) C dX12_pulse_56 (by decide) ?_
      refine j_isub (pc := 57) C dX12_pulse_57 ?_
      obtain ⟨q5, hq5, hm⟩ := Option.bind_eq_some_iff.mp hm
      refine cl_X12_387 (c := 0) (pc := 58) C km_0 (kX12_twoOctets hq5) (by decide) (Nat.le_of_ble_eq_true rfl) dX12_pulse_58 ?_
      refine j_icmp_gt (tgt := 67) (pc := 61) C dX12_pulse_61 (by decide) hm (fun _ hm => ?_) (fun _ hm => ?_)
      · refine j_iloadn (pc := 67) C 3 dX12_pulse_67 rfl rfl ?_
        refine j_aloadn (pc := 68) C 0 dX12_pulse_68 rfl rfl ?_
        refine j_iload (pc := 69) C 4 dX12_pulse_69 rfl ?_
        obtain ⟨q6, hq6, hm⟩ := Option.bind_eq_some_iff.mp hm
        refine cl_X12_387 (c := 0) (pc := 71) C km_0 (kX12_twoOctets hq6) (by decide) (Nat.le_of_ble_eq_true rfl) dX12_pulse_71 ?_
        refine j_aloadn (pc := 74) C 0 dX12_pulse_74 rfl rfl ?_
        refine j_iload (pc := 75) C 4 dX12_pulse_75 rfl ?_
        refine j_iconst (v := 1) (pc := 77) C dX12_pulse_77 (by decide) ?_
        refine j_isub (pc := 78) C dX12_pulse_78 ?_
        obtain ⟨q7, hq7, hm⟩ := Option.bind_eq_some_iff.mp hm
        refine cl_X12_387 (c := 0) (pc := 79) C km_0 (kX12_twoOctets hq7) (by decide) (Nat.le_of_ble_eq_true rfl) dX12_pulse_79 ?_
        refine j_isub (pc := 82) C dX12_pulse_82 ?_
        obtain ⟨q8, hq8, hm⟩ := Option.bind_eq_some_iff.mp hm
        refine cl_X12_409 (pc := 83) C (kX12_gcd hq8) (by decide) (Nat.le_of_ble_eq_true rfl) dX12_pulse_83 ?_
        refine j_istoren (ls' := [(3, .int q8), (0, .ref (vad (gV G) 0)), (1, .int x1), (2, .int x2), (4, .int x4)]) (pc := 86) C dX12_pulse_86 rfl (by decide) rfl ?_
        refine j_iinc (v := (x4 + (1 : Int32))) (ls' := [(4, .int (x4 + (1 : Int32))), (3, .int q8), (0, .ref (vad (gV G) 0)), (1, .int x1), (2, .int x2)]) (pc := 87) C 4 dX12_pulse_87 rfl rfl (by decide) rfl ?_
        refine j_goto (tgt := 41) (pc := 90) C dX12_pulse_90 (by decide) ?_
        refine j_ls [2, 3, 4, 1, 0] rfl ?_
        exact ih _ _ _ _ _ hm
      · refine j_bipush (v := -3) (pc := 64) C dX12_pulse_64 (by decide) ?_
        exact j_iretS (pc := 66) C rfl dX12_pulse_66 hm
    · refine j_ls [0, 1, 2, 3] rfl ?_
      exact hk93 _ _ _ _ hm

def mX12_pulse (F : Nat) (x1 : Int32) (x2 : Int32) (σ : jS) : Option (Int32 × jS) := (Option.bind (mX12_in F x1 (2 : Int32) (20 : Int32) σ) fun q1 => (if q1 = 0 then some ((-1 : Int32), σ) else (Option.bind (mX12_in F x2 (0 : Int32) (1 : Int32) σ) fun q2 => (if q2 = 0 then some ((-1 : Int32), σ) else (if (σ 0 6) < ((2 : Int32) * x1) then some ((-1 : Int32), σ) else (lt (js σ 0 6 (0 : Int32)) fun σ3 => (lp_X12_pulse_41 F (fun x1_9 x2_9 x3_9 σ9 => (if x2_9 = 0 then some (x3_9, σ9) else (Option.bind (mX12_twoOctets F ((x1_9 - (1 : Int32))) σ9) fun q10 => (Option.bind (mX12_twoOctets F (0 : Int32) σ9) fun q11 => (if x3_9 = 0 then none else some (((((q10 - q11) / x3_9) + (1 : Int32)) - x1_9), σ9)))))) F x1 x2 (0 : Int32) (1 : Int32) σ3)))))))
set_option maxHeartbeats 4000000 in
set_option maxRecDepth 100000 in
theorem kX12_pulse {V : jV} {F : Nat} {x1 : Int32} {x2 : Int32} {σ : jS} {v : (Int32 × jS)} (hm : mX12_pulse F x1 x2 σ = some v) : Ct cfM 33 V yX12_pulse cX12_pulse 5 (some .int) 2 [.ref (vad V 0), .int x1, .int x2] σ v := by
  refine j_start (own := RX12) (by decide) rfl (Nat.le_of_ble_eq_true rfl) ?_
  intro G hV C
  subst hV
  unfold mX12_pulse at hm
  show JM G 0 [(0, .ref (vad (gV G) 0)), (1, .int x1), (2, .int x2)] [] σ v
  refine j_iloadn (pc := 0) C 1 dX12_pulse_0 rfl rfl ?_
  refine j_iconst (v := 2) (pc := 1) C dX12_pulse_1 (by decide) ?_
  refine j_bipush (v := 20) (pc := 2) C dX12_pulse_2 (by decide) ?_
  obtain ⟨q1, hq1, hm⟩ := Option.bind_eq_some_iff.mp hm
  refine cl_X12_107 (pc := 4) C (kX12_in hq1) (by decide) (Nat.le_of_ble_eq_true rfl) dX12_pulse_4 ?_
  refine j_if_eq (tgt := 29) (pc := 7) C dX12_pulse_7 (by decide) hm (fun _ hm => ?_) (fun _ hm => ?_)
  · refine j_iconst (v := -1) (pc := 29) C dX12_pulse_29 (by decide) ?_
    exact j_iretS (pc := 30) C rfl dX12_pulse_30 hm
  · refine j_iloadn (pc := 10) C 2 dX12_pulse_10 rfl rfl ?_
    refine j_iconst (v := 0) (pc := 11) C dX12_pulse_11 (by decide) ?_
    refine j_iconst (v := 1) (pc := 12) C dX12_pulse_12 (by decide) ?_
    obtain ⟨q2, hq2, hm⟩ := Option.bind_eq_some_iff.mp hm
    refine cl_X12_107 (pc := 13) C (kX12_in hq2) (by decide) (Nat.le_of_ble_eq_true rfl) dX12_pulse_13 ?_
    refine j_if_eq (tgt := 29) (pc := 16) C dX12_pulse_16 (by decide) hm (fun _ hm => ?_) (fun _ hm => ?_)
    · refine j_iconst (v := -1) (pc := 29) C dX12_pulse_29 (by decide) ?_
      exact j_iretS (pc := 30) C rfl dX12_pulse_30 hm
    · refine j_iconst (v := 2) (pc := 19) C dX12_pulse_19 (by decide) ?_
      refine j_iloadn (pc := 20) C 1 dX12_pulse_20 rfl rfl ?_
      refine j_imul (pc := 21) C dX12_pulse_21 ?_
      refine j_aloadn (pc := 22) C 0 dX12_pulse_22 rfl rfl ?_
      refine gf_X12_120 (c := 0) (pc := 23) C km_0 dX12_pulse_23 ?_
      refine j_icmp_le (tgt := 31) (pc := 26) C dX12_pulse_26 (by decide) hm (fun _ hm => ?_) (fun _ hm => ?_)
      · refine j_iconst (v := -1) (pc := 29) C dX12_pulse_29 (by decide) ?_
        exact j_iretS (pc := 30) C rfl dX12_pulse_30 hm
      · refine j_aloadn (pc := 31) C 0 dX12_pulse_31 rfl rfl ?_
        refine j_iconst (v := 0) (pc := 32) C dX12_pulse_32 (by decide) ?_
        refine pf_X12_120 (c := 0) (pc := 33) C km_0 dX12_pulse_33 hm (fun σ3 hm => ?_)
        refine j_iconst (v := 0) (pc := 36) C dX12_pulse_36 (by decide) ?_
        refine j_istoren (ls' := [(3, .int (0 : Int32)), (0, .ref (vad (gV G) 0)), (1, .int x1), (2, .int x2)]) (pc := 37) C dX12_pulse_37 rfl (by decide) rfl ?_
        refine j_iconst (v := 1) (pc := 38) C dX12_pulse_38 (by decide) ?_
        refine j_istore (ls' := [(4, .int (1 : Int32)), (3, .int (0 : Int32)), (0, .ref (vad (gV G) 0)), (1, .int x1), (2, .int x2)]) (pc := 39) C dX12_pulse_39 (by decide) rfl ?_
        refine j_ls [2, 3, 4, 1, 0] rfl ?_
        refine lp_X12_pulse_41_ok C F _ (fun x1_9 x2_9 x3_9 σ9 hm => ?_) F _ _ _ _ _ hm
        refine j_iloadn (pc := 93) C 2 dX12_pulse_93 rfl rfl ?_
        refine j_if_ne (tgt := 101) (pc := 94) C dX12_pulse_94 (by decide) hm (fun _ hm => ?_) (fun _ hm => ?_)
        · refine j_iloadn (pc := 97) C 3 dX12_pulse_97 rfl rfl ?_
          refine j_goto (tgt := 120) (pc := 98) C dX12_pulse_98 (by decide) ?_
          exact j_iretS (pc := 120) C rfl dX12_pulse_120 hm
        · refine j_aloadn (pc := 101) C 0 dX12_pulse_101 rfl rfl ?_
          refine j_iloadn (pc := 102) C 1 dX12_pulse_102 rfl rfl ?_
          refine j_iconst (v := 1) (pc := 103) C dX12_pulse_103 (by decide) ?_
          refine j_isub (pc := 104) C dX12_pulse_104 ?_
          obtain ⟨q10, hq10, hm⟩ := Option.bind_eq_some_iff.mp hm
          refine cl_X12_387 (c := 0) (pc := 105) C km_0 (kX12_twoOctets hq10) (by decide) (Nat.le_of_ble_eq_true rfl) dX12_pulse_105 ?_
          refine j_aloadn (pc := 108) C 0 dX12_pulse_108 rfl rfl ?_
          refine j_iconst (v := 0) (pc := 109) C dX12_pulse_109 (by decide) ?_
          obtain ⟨q11, hq11, hm⟩ := Option.bind_eq_some_iff.mp hm
          refine cl_X12_387 (c := 0) (pc := 110) C km_0 (kX12_twoOctets hq11) (by decide) (Nat.le_of_ble_eq_true rfl) dX12_pulse_110 ?_
          refine j_isub (pc := 113) C dX12_pulse_113 ?_
          refine j_iloadn (pc := 114) C 3 dX12_pulse_114 rfl rfl ?_
          refine j_idiv (pc := 115) C dX12_pulse_115 hm (fun hm => ?_)
          refine j_iconst (v := 1) (pc := 116) C dX12_pulse_116 (by decide) ?_
          refine j_iadd (pc := 117) C dX12_pulse_117 ?_
          refine j_iloadn (pc := 118) C 1 dX12_pulse_118 rfl rfl ?_
          refine j_isub (pc := 119) C dX12_pulse_119 ?_
          exact j_iretS (pc := 120) C rfl dX12_pulse_120 hm

def jn_X12_climbs_32 (F : Nat) (x1 : Int32) (x2 : Int32) (s0 : Int32) (s1 : Int32) (σ : jS) : Option jS := (lt (s0 + s1) fun y5 => (if jin x1 20 = true then (lt ((σ 31 x1.toNatClampNeg) + (1 : Int32)) fun y7 => (if jin x2 20 = true then (if (σ 30 x2.toNatClampNeg) < y5 then some σ else (if jin x2 20 = true then (if y5 = (σ 30 x2.toNatClampNeg) then (if jin x2 20 = true then (if y7 < (σ 31 x2.toNatClampNeg) then (if jin x2 20 = true then (lt (js σ 30 x2.toNatClampNeg y5) fun σ11 => (if jin x2 20 = true then (lt (js σ11 31 x2.toNatClampNeg y7) fun σ13 => some σ13) else none)) else none) else some σ) else none) else (if jin x2 20 = true then (lt (js σ 30 x2.toNatClampNeg y5) fun σ15 => (if jin x2 20 = true then (lt (js σ15 31 x2.toNatClampNeg y7) fun σ17 => some σ17) else none)) else none)) else none)) else none)) else none))
set_option maxHeartbeats 4000000 in
set_option maxRecDepth 100000 in
theorem jn_X12_climbs_32_ok {G : jG} (C : jc cfM 33 G cX12_climbs RX12 6 none 1) (F : Nat) {v : jS} : ∀ (x1 : Int32) (x2 : Int32) (s0 : Int32) (s1 : Int32) (σ : jS), jn_X12_climbs_32 F x1 x2 s0 s1 σ = some v → JM G 32 [(0, .ref (vad (gV G) 0)), (1, .int x1), (2, .int x2)] [.int s1, .int s0] σ (0, v) := by
  intro x1 x2 s0 s1 σ hm
  unfold jn_X12_climbs_32 at hm
  refine j_iadd (pc := 32) C dX12_climbs_32 ?_
  refine j_lti hm (fun y5 hm => ?_)
  refine j_istore (ls' := [(4, .int y5), (0, .ref (vad (gV G) 0)), (1, .int x1), (2, .int x2)]) (pc := 33) C dX12_climbs_33 (by decide) rfl ?_
  refine j_aloadn (pc := 35) C 1 dX12_climbs_35 rfl rfl ?_
  refine gf_X12_101 (c := 0) (pc := 36) C km_0 dX12_climbs_36 ?_
  refine j_iloadn (pc := 39) C 2 dX12_climbs_39 rfl rfl ?_
  refine j_guard hm (fun hg6 hm => ?_)
  refine j_iald (c := 31) (n := 20) (pc := 40) C (kM_lt km_31 (by decide)) (cm_a km_31 lm_31 _) hg6 dX12_climbs_40 ?_
  refine j_iconst (v := 1) (pc := 41) C dX12_climbs_41 (by decide) ?_
  refine j_iadd (pc := 42) C dX12_climbs_42 ?_
  refine j_lti hm (fun y7 hm => ?_)
  refine j_istore (ls' := [(5, .int y7), (4, .int y5), (0, .ref (vad (gV G) 0)), (1, .int x1), (2, .int x2)]) (pc := 43) C dX12_climbs_43 (by decide) rfl ?_
  refine j_iload (pc := 45) C 1 dX12_climbs_45 rfl ?_
  refine j_aloadn (pc := 47) C 2 dX12_climbs_47 rfl rfl ?_
  refine gf_X12_98 (c := 0) (pc := 48) C km_0 dX12_climbs_48 ?_
  refine j_iloadn (pc := 51) C 4 dX12_climbs_51 rfl rfl ?_
  refine j_guard hm (fun hg8 hm => ?_)
  refine j_iald (c := 30) (n := 20) (pc := 52) C (kM_lt km_30 (by decide)) (cm_a km_30 lm_30 _) hg8 dX12_climbs_52 ?_
  refine j_icmp_gt (tgt := 78) (pc := 53) C dX12_climbs_53 (by decide) hm (fun _ hm => ?_) (fun _ hm => ?_)
  · exact j_vret (pc := 78) C rfl dX12_climbs_78 hm
  · refine j_iload (pc := 56) C 1 dX12_climbs_56 rfl ?_
    refine j_aloadn (pc := 58) C 2 dX12_climbs_58 rfl rfl ?_
    refine gf_X12_98 (c := 0) (pc := 59) C km_0 dX12_climbs_59 ?_
    refine j_iloadn (pc := 62) C 4 dX12_climbs_62 rfl rfl ?_
    refine j_guard hm (fun hg9 hm => ?_)
    refine j_iald (c := 30) (n := 20) (pc := 63) C (kM_lt km_30 (by decide)) (cm_a km_30 lm_30 _) hg9 dX12_climbs_63 ?_
    refine j_icmp_ne (tgt := 79) (pc := 64) C dX12_climbs_64 (by decide) hm (fun _ hm => ?_) (fun _ hm => ?_)
    · refine j_iload (pc := 67) C 0 dX12_climbs_67 rfl ?_
      refine j_aloadn (pc := 69) C 2 dX12_climbs_69 rfl rfl ?_
      refine gf_X12_101 (c := 0) (pc := 70) C km_0 dX12_climbs_70 ?_
      refine j_iloadn (pc := 73) C 4 dX12_climbs_73 rfl rfl ?_
      refine j_guard hm (fun hg10 hm => ?_)
      refine j_iald (c := 31) (n := 20) (pc := 74) C (kM_lt km_31 (by decide)) (cm_a km_31 lm_31 _) hg10 dX12_climbs_74 ?_
      refine j_icmp_lt (tgt := 79) (pc := 75) C dX12_climbs_75 (by decide) hm (fun _ hm => ?_) (fun _ hm => ?_)
      · refine j_aloadn (pc := 79) C 2 dX12_climbs_79 rfl rfl ?_
        refine gf_X12_98 (c := 0) (pc := 80) C km_0 dX12_climbs_80 ?_
        refine j_iloadn (pc := 83) C 4 dX12_climbs_83 rfl rfl ?_
        refine j_iload (pc := 84) C 1 dX12_climbs_84 rfl ?_
        refine j_guard hm (fun hg12 hm => ?_)
        refine j_iastL (c := 30) (n := 20) (pc := 86) C (kM_lt km_30 (by decide)) (cm_a km_30 lm_30) hg12 dX12_climbs_86 hm (fun σ11 hm => ?_)
        refine j_aloadn (pc := 87) C 2 dX12_climbs_87 rfl rfl ?_
        refine gf_X12_101 (c := 0) (pc := 88) C km_0 dX12_climbs_88 ?_
        refine j_iloadn (pc := 91) C 4 dX12_climbs_91 rfl rfl ?_
        refine j_iload (pc := 92) C 0 dX12_climbs_92 rfl ?_
        refine j_guard hm (fun hg14 hm => ?_)
        refine j_iastL (c := 31) (n := 20) (pc := 94) C (kM_lt km_31 (by decide)) (cm_a km_31 lm_31) hg14 dX12_climbs_94 hm (fun σ13 hm => ?_)
        exact j_vret (pc := 95) C rfl dX12_climbs_95 hm
      · exact j_vret (pc := 78) C rfl dX12_climbs_78 hm
    · refine j_aloadn (pc := 79) C 2 dX12_climbs_79 rfl rfl ?_
      refine gf_X12_98 (c := 0) (pc := 80) C km_0 dX12_climbs_80 ?_
      refine j_iloadn (pc := 83) C 4 dX12_climbs_83 rfl rfl ?_
      refine j_iload (pc := 84) C 1 dX12_climbs_84 rfl ?_
      refine j_guard hm (fun hg16 hm => ?_)
      refine j_iastL (c := 30) (n := 20) (pc := 86) C (kM_lt km_30 (by decide)) (cm_a km_30 lm_30) hg16 dX12_climbs_86 hm (fun σ15 hm => ?_)
      refine j_aloadn (pc := 87) C 2 dX12_climbs_87 rfl rfl ?_
      refine gf_X12_101 (c := 0) (pc := 88) C km_0 dX12_climbs_88 ?_
      refine j_iloadn (pc := 91) C 4 dX12_climbs_91 rfl rfl ?_
      refine j_iload (pc := 92) C 0 dX12_climbs_92 rfl ?_
      refine j_guard hm (fun hg18 hm => ?_)
      refine j_iastL (c := 31) (n := 20) (pc := 94) C (kM_lt km_31 (by decide)) (cm_a km_31 lm_31) hg18 dX12_climbs_94 hm (fun σ17 hm => ?_)
      exact j_vret (pc := 95) C rfl dX12_climbs_95 hm

def mX12_climbs (F : Nat) (x1 : Int32) (x2 : Int32) (σ : jS) : Option jS := (Option.bind (mX12_octet F x2 σ) fun q1 => (Option.bind (mX12_octet F x1 σ) fun q2 => (lt (q1 - q2) fun y3 => (if jin x1 20 = true then (if 0 < y3 then (jn_X12_climbs_32 F x1 x2 (((σ 30 x1.toNatClampNeg) + (2 : Int32))) (((3 : Int32) * y3)) σ) else (jn_X12_climbs_32 F x1 x2 (((σ 30 x1.toNatClampNeg) + (2 : Int32))) ((-y3)) σ)) else none))))
set_option maxHeartbeats 4000000 in
set_option maxRecDepth 100000 in
theorem kX12_climbs {V : jV} {F : Nat} {x1 : Int32} {x2 : Int32} {σ : jS} {v : jS} (hm : mX12_climbs F x1 x2 σ = some v) : Ct cfM 33 V yX12_climbs cX12_climbs 6 none 1 [.ref (vad V 0), .int x1, .int x2] σ (0, v) := by
  refine j_start (own := RX12) (by decide) rfl (Nat.le_of_ble_eq_true rfl) ?_
  intro G hV C
  subst hV
  unfold mX12_climbs at hm
  show JM G 0 [(0, .ref (vad (gV G) 0)), (1, .int x1), (2, .int x2)] [] σ (0, v)
  refine j_aloadn (pc := 0) C 0 dX12_climbs_0 rfl rfl ?_
  refine j_iloadn (pc := 1) C 2 dX12_climbs_1 rfl rfl ?_
  obtain ⟨q1, hq1, hm⟩ := Option.bind_eq_some_iff.mp hm
  refine cl_X12_384 (c := 0) (pc := 2) C km_0 (kX12_octet hq1) (by decide) (Nat.le_of_ble_eq_true rfl) dX12_climbs_2 ?_
  refine j_aloadn (pc := 5) C 0 dX12_climbs_5 rfl rfl ?_
  refine j_iloadn (pc := 6) C 1 dX12_climbs_6 rfl rfl ?_
  obtain ⟨q2, hq2, hm⟩ := Option.bind_eq_some_iff.mp hm
  refine cl_X12_384 (c := 0) (pc := 7) C km_0 (kX12_octet hq2) (by decide) (Nat.le_of_ble_eq_true rfl) dX12_climbs_7 ?_
  refine j_isub (pc := 10) C dX12_climbs_10 ?_
  refine j_lti hm (fun y3 hm => ?_)
  refine j_istoren (ls' := [(3, .int y3), (0, .ref (vad (gV G) 0)), (1, .int x1), (2, .int x2)]) (pc := 11) C dX12_climbs_11 rfl (by decide) rfl ?_
  refine j_aloadn (pc := 12) C 1 dX12_climbs_12 rfl rfl ?_
  refine gf_X12_98 (c := 0) (pc := 13) C km_0 dX12_climbs_13 ?_
  refine j_iloadn (pc := 16) C 2 dX12_climbs_16 rfl rfl ?_
  refine j_guard hm (fun hg4 hm => ?_)
  refine j_iald (c := 30) (n := 20) (pc := 17) C (kM_lt km_30 (by decide)) (cm_a km_30 lm_30 _) hg4 dX12_climbs_17 ?_
  refine j_iconst (v := 2) (pc := 18) C dX12_climbs_18 (by decide) ?_
  refine j_iadd (pc := 19) C dX12_climbs_19 ?_
  refine j_iloadn (pc := 20) C 0 dX12_climbs_20 rfl rfl ?_
  refine j_if_le (tgt := 30) (pc := 21) C dX12_climbs_21 (by decide) hm (fun _ hm => ?_) (fun _ hm => ?_)
  · refine j_iconst (v := 3) (pc := 24) C dX12_climbs_24 (by decide) ?_
    refine j_iloadn (pc := 25) C 0 dX12_climbs_25 rfl rfl ?_
    refine j_imul (pc := 26) C dX12_climbs_26 ?_
    refine j_goto (tgt := 32) (pc := 27) C dX12_climbs_27 (by decide) ?_
    refine j_ls [1, 2, 3] rfl ?_
    exact jn_X12_climbs_32_ok C F  _ _ _ _ _ hm
  · refine j_iloadn (pc := 30) C 0 dX12_climbs_30 rfl rfl ?_
    refine j_ineg (pc := 31) C dX12_climbs_31 ?_
    refine j_ls [1, 2, 3] rfl ?_
    exact jn_X12_climbs_32_ok C F  _ _ _ _ _ hm

def lp_X12_stairs_36 (F : Nat) (k71 : Int32 → Int32 → jS → Option (Int32 × jS)) : Nat → Int32 → Int32 → Int32 → jS → Option (Int32 × jS)
  | 0, _, _, _, _ => none
  | n + 1, x1, x2, x3, σ => (if x3 < x1 then (if x3 = 0 then (if jin x3 20 = true then (lt (js σ 30 x3.toNatClampNeg (0 : Int32)) fun σ4 => (if jin x3 20 = true then (lt (js σ4 31 x3.toNatClampNeg (0 : Int32)) fun σ6 => (lp_X12_stairs_36 F k71 n x1 x2 ((x3 + (1 : Int32))) σ6)) else none)) else none) else (if jin x3 20 = true then (lt (js σ 30 x3.toNatClampNeg (1000000000 : Int32)) fun σ8 => (if jin x3 20 = true then (lt (js σ8 31 x3.toNatClampNeg (0 : Int32)) fun σ10 => (lp_X12_stairs_36 F k71 n x1 x2 ((x3 + (1 : Int32))) σ10)) else none)) else none)) else (k71 x1 x2 σ))
set_option maxHeartbeats 4000000 in
set_option maxRecDepth 100000 in
theorem lp_X12_stairs_36_ok {G : jG} (C : jc cfM 33 G cX12_stairs RX12 4 (some .int) 2) (F : Nat) {v : (Int32 × jS)} (k71 : Int32 → Int32 → jS → Option (Int32 × jS)) (hk71 : ∀ (x1 : Int32) (x2 : Int32) (σ : jS), k71 x1 x2 σ = some v → JM G 71 [(0, .ref (vad (gV G) 0)), (1, .int x1), (2, .int x2)] [] σ v) : ∀ (n : Nat) (x1 : Int32) (x2 : Int32) (x3 : Int32) (σ : jS), lp_X12_stairs_36 F k71 n x1 x2 x3 σ = some v → JM G 36 [(0, .ref (vad (gV G) 0)), (1, .int x1), (2, .int x2), (3, .int x3)] [] σ v := by
  intro n
  induction n with
  | zero =>
    intro x1 x2 x3 σ hm
    rw [lp_X12_stairs_36] at hm
    cases hm
  | succ n ih =>
    intro x1 x2 x3 σ hm
    rw [lp_X12_stairs_36] at hm
    refine j_iloadn (pc := 36) C 3 dX12_stairs_36 rfl rfl ?_
    refine j_iloadn (pc := 37) C 1 dX12_stairs_37 rfl rfl ?_
    refine j_icmp_ge (tgt := 71) (pc := 38) C dX12_stairs_38 (by decide) hm (fun _ hm => ?_) (fun _ hm => ?_)
    · refine j_aloadn (pc := 41) C 0 dX12_stairs_41 rfl rfl ?_
      refine gf_X12_98 (c := 0) (pc := 42) C km_0 dX12_stairs_42 ?_
      refine j_iloadn (pc := 45) C 3 dX12_stairs_45 rfl rfl ?_
      refine j_iloadn (pc := 46) C 3 dX12_stairs_46 rfl rfl ?_
      refine j_if_ne (tgt := 54) (pc := 47) C dX12_stairs_47 (by decide) hm (fun _ hm => ?_) (fun _ hm => ?_)
      · refine j_iconst (v := 0) (pc := 50) C dX12_stairs_50 (by decide) ?_
        refine j_goto (tgt := 57) (pc := 51) C dX12_stairs_51 (by decide) ?_
        refine j_guard hm (fun hg5 hm => ?_)
        refine j_iastL (c := 30) (n := 20) (pc := 57) C (kM_lt km_30 (by decide)) (cm_a km_30 lm_30) hg5 dX12_stairs_57 hm (fun σ4 hm => ?_)
        refine j_aloadn (pc := 58) C 0 dX12_stairs_58 rfl rfl ?_
        refine gf_X12_101 (c := 0) (pc := 59) C km_0 dX12_stairs_59 ?_
        refine j_iloadn (pc := 62) C 3 dX12_stairs_62 rfl rfl ?_
        refine j_iconst (v := 0) (pc := 63) C dX12_stairs_63 (by decide) ?_
        refine j_guard hm (fun hg7 hm => ?_)
        refine j_iastL (c := 31) (n := 20) (pc := 64) C (kM_lt km_31 (by decide)) (cm_a km_31 lm_31) hg7 dX12_stairs_64 hm (fun σ6 hm => ?_)
        refine j_iinc (v := (x3 + (1 : Int32))) (ls' := [(3, .int (x3 + (1 : Int32))), (0, .ref (vad (gV G) 0)), (1, .int x1), (2, .int x2)]) (pc := 65) C 3 dX12_stairs_65 rfl rfl (by decide) rfl ?_
        refine j_goto (tgt := 36) (pc := 68) C dX12_stairs_68 (by decide) ?_
        refine j_ls [1, 2, 3, 0] rfl ?_
        exact ih _ _ _ _ hm
      · refine j_ldcw (v := 1000000000) (pc := 54) C dX12_stairs_54 tw_7_162 ?_
        refine j_guard hm (fun hg9 hm => ?_)
        refine j_iastL (c := 30) (n := 20) (pc := 57) C (kM_lt km_30 (by decide)) (cm_a km_30 lm_30) hg9 dX12_stairs_57 hm (fun σ8 hm => ?_)
        refine j_aloadn (pc := 58) C 0 dX12_stairs_58 rfl rfl ?_
        refine gf_X12_101 (c := 0) (pc := 59) C km_0 dX12_stairs_59 ?_
        refine j_iloadn (pc := 62) C 3 dX12_stairs_62 rfl rfl ?_
        refine j_iconst (v := 0) (pc := 63) C dX12_stairs_63 (by decide) ?_
        refine j_guard hm (fun hg11 hm => ?_)
        refine j_iastL (c := 31) (n := 20) (pc := 64) C (kM_lt km_31 (by decide)) (cm_a km_31 lm_31) hg11 dX12_stairs_64 hm (fun σ10 hm => ?_)
        refine j_iinc (v := (x3 + (1 : Int32))) (ls' := [(3, .int (x3 + (1 : Int32))), (0, .ref (vad (gV G) 0)), (1, .int x1), (2, .int x2)]) (pc := 65) C 3 dX12_stairs_65 rfl rfl (by decide) rfl ?_
        refine j_goto (tgt := 36) (pc := 68) C dX12_stairs_68 (by decide) ?_
        refine j_ls [1, 2, 3, 0] rfl ?_
        exact ih _ _ _ _ hm
    · refine j_ls [0, 1, 2] rfl ?_
      exact hk71 _ _ _ hm

def lp_X12_stairs_73 (F : Nat) (k105 : Int32 → Int32 → jS → Option (Int32 × jS)) : Nat → Int32 → Int32 → Int32 → jS → Option (Int32 × jS)
  | 0, _, _, _, _ => none
  | n + 1, x1, x2, x3, σ => (if x3 < x1 then (Option.bind (mX12_climbs F ((x3 - (1 : Int32))) x3 σ) fun q13 => (if (1 : Int32) < x3 then (Option.bind (mX12_climbs F ((x3 - (2 : Int32))) x3 q13) fun q14 => (lp_X12_stairs_73 F k105 n x1 x2 ((x3 + (1 : Int32))) q14)) else (lp_X12_stairs_73 F k105 n x1 x2 ((x3 + (1 : Int32))) q13))) else (k105 x1 x2 σ))
set_option maxHeartbeats 4000000 in
set_option maxRecDepth 100000 in
theorem lp_X12_stairs_73_ok {G : jG} (C : jc cfM 33 G cX12_stairs RX12 4 (some .int) 2) (F : Nat) {v : (Int32 × jS)} (k105 : Int32 → Int32 → jS → Option (Int32 × jS)) (hk105 : ∀ (x1 : Int32) (x2 : Int32) (σ : jS), k105 x1 x2 σ = some v → JM G 105 [(0, .ref (vad (gV G) 0)), (1, .int x1), (2, .int x2)] [] σ v) : ∀ (n : Nat) (x1 : Int32) (x2 : Int32) (x3 : Int32) (σ : jS), lp_X12_stairs_73 F k105 n x1 x2 x3 σ = some v → JM G 73 [(0, .ref (vad (gV G) 0)), (1, .int x1), (2, .int x2), (3, .int x3)] [] σ v := by
  intro n
  induction n with
  | zero =>
    intro x1 x2 x3 σ hm
    rw [lp_X12_stairs_73] at hm
    cases hm
  | succ n ih =>
    intro x1 x2 x3 σ hm
    rw [lp_X12_stairs_73] at hm
    refine j_iloadn (pc := 73) C 3 dX12_stairs_73 rfl rfl ?_
    refine j_iloadn (pc := 74) C 1 dX12_stairs_74 rfl rfl ?_
    refine j_icmp_ge (tgt := 105) (pc := 75) C dX12_stairs_75 (by decide) hm (fun _ hm => ?_) (fun _ hm => ?_)
    · refine j_aloadn (pc := 78) C 0 dX12_stairs_78 rfl rfl ?_
      refine j_iloadn (pc := 79) C 3 dX12_stairs_79 rfl rfl ?_
      refine j_iconst (v := 1) (pc := 80) C dX12_stairs_80 (by decide) ?_
      refine j_isub (pc := 81) C dX12_stairs_81 ?_
      refine j_iloadn (pc := 82) C 3 dX12_stairs_82 rfl rfl ?_
      obtain ⟨q13, hq13, hm⟩ := Option.bind_eq_some_iff.mp hm
      refine cl_X12_413 (c := 0) (pc := 83) C km_0 (kX12_climbs hq13) (by decide) (Nat.le_of_ble_eq_true rfl) dX12_stairs_83 ?_
      refine j_iloadn (pc := 86) C 3 dX12_stairs_86 rfl rfl ?_
      refine j_iconst (v := 1) (pc := 87) C dX12_stairs_87 (by decide) ?_
      refine j_icmp_le (tgt := 99) (pc := 88) C dX12_stairs_88 (by decide) hm (fun _ hm => ?_) (fun _ hm => ?_)
      · refine j_aloadn (pc := 91) C 0 dX12_stairs_91 rfl rfl ?_
        refine j_iloadn (pc := 92) C 3 dX12_stairs_92 rfl rfl ?_
        refine j_iconst (v := 2) (pc := 93) C dX12_stairs_93 (by decide) ?_
        refine j_isub (pc := 94) C dX12_stairs_94 ?_
        refine j_iloadn (pc := 95) C 3 dX12_stairs_95 rfl rfl ?_
        obtain ⟨q14, hq14, hm⟩ := Option.bind_eq_some_iff.mp hm
        refine cl_X12_413 (c := 0) (pc := 96) C km_0 (kX12_climbs hq14) (by decide) (Nat.le_of_ble_eq_true rfl) dX12_stairs_96 ?_
        refine j_iinc (v := (x3 + (1 : Int32))) (ls' := [(3, .int (x3 + (1 : Int32))), (0, .ref (vad (gV G) 0)), (1, .int x1), (2, .int x2)]) (pc := 99) C 3 dX12_stairs_99 rfl rfl (by decide) rfl ?_
        refine j_goto (tgt := 73) (pc := 102) C dX12_stairs_102 (by decide) ?_
        refine j_ls [1, 2, 3, 0] rfl ?_
        exact ih _ _ _ _ hm
      · refine j_iinc (v := (x3 + (1 : Int32))) (ls' := [(3, .int (x3 + (1 : Int32))), (0, .ref (vad (gV G) 0)), (1, .int x1), (2, .int x2)]) (pc := 99) C 3 dX12_stairs_99 rfl rfl (by decide) rfl ?_
        refine j_goto (tgt := 73) (pc := 102) C dX12_stairs_102 (by decide) ?_
        refine j_ls [1, 2, 3, 0] rfl ?_
        exact ih _ _ _ _ hm
    · refine j_ls [0, 1, 2] rfl ?_
      exact hk105 _ _ _ hm

def mX12_stairs (F : Nat) (x1 : Int32) (x2 : Int32) (σ : jS) : Option (Int32 × jS) := (Option.bind (mX12_in F x1 (2 : Int32) (20 : Int32) σ) fun q1 => (if q1 = 0 then some ((-1 : Int32), σ) else (Option.bind (mX12_in F x2 (0 : Int32) (1 : Int32) σ) fun q2 => (if q2 = 0 then some ((-1 : Int32), σ) else (if (σ 0 6) < x1 then some ((-1 : Int32), σ) else (lt (js σ 0 6 (0 : Int32)) fun σ3 => (lp_X12_stairs_36 F (fun x1_12 x2_12 σ12 => (lp_X12_stairs_73 F (fun x1_15 x2_15 σ15 => (if x2_15 = 0 then (lt (x1_15 - (1 : Int32)) fun y16 => (if jin y16 20 = true then some ((σ15 30 y16.toNatClampNeg), σ15) else none)) else (lt (x1_15 - (1 : Int32)) fun y18 => (if jin y18 20 = true then some ((σ15 31 y18.toNatClampNeg), σ15) else none)))) F x1_12 x2_12 (1 : Int32) σ12)) F x1 x2 (0 : Int32) σ3)))))))
set_option maxHeartbeats 4000000 in
set_option maxRecDepth 100000 in
theorem kX12_stairs {V : jV} {F : Nat} {x1 : Int32} {x2 : Int32} {σ : jS} {v : (Int32 × jS)} (hm : mX12_stairs F x1 x2 σ = some v) : Ct cfM 33 V yX12_stairs cX12_stairs 4 (some .int) 2 [.ref (vad V 0), .int x1, .int x2] σ v := by
  refine j_start (own := RX12) (by decide) rfl (Nat.le_of_ble_eq_true rfl) ?_
  intro G hV C
  subst hV
  unfold mX12_stairs at hm
  show JM G 0 [(0, .ref (vad (gV G) 0)), (1, .int x1), (2, .int x2)] [] σ v
  refine j_iloadn (pc := 0) C 1 dX12_stairs_0 rfl rfl ?_
  refine j_iconst (v := 2) (pc := 1) C dX12_stairs_1 (by decide) ?_
  refine j_bipush (v := 20) (pc := 2) C dX12_stairs_2 (by decide) ?_
  obtain ⟨q1, hq1, hm⟩ := Option.bind_eq_some_iff.mp hm
  refine cl_X12_107 (pc := 4) C (kX12_in hq1) (by decide) (Nat.le_of_ble_eq_true rfl) dX12_stairs_4 ?_
  refine j_if_eq (tgt := 27) (pc := 7) C dX12_stairs_7 (by decide) hm (fun _ hm => ?_) (fun _ hm => ?_)
  · refine j_iconst (v := -1) (pc := 27) C dX12_stairs_27 (by decide) ?_
    exact j_iretS (pc := 28) C rfl dX12_stairs_28 hm
  · refine j_iloadn (pc := 10) C 2 dX12_stairs_10 rfl rfl ?_
    refine j_iconst (v := 0) (pc := 11) C dX12_stairs_11 (by decide) ?_
    refine j_iconst (v := 1) (pc := 12) C dX12_stairs_12 (by decide) ?_
    obtain ⟨q2, hq2, hm⟩ := Option.bind_eq_some_iff.mp hm
    refine cl_X12_107 (pc := 13) C (kX12_in hq2) (by decide) (Nat.le_of_ble_eq_true rfl) dX12_stairs_13 ?_
    refine j_if_eq (tgt := 27) (pc := 16) C dX12_stairs_16 (by decide) hm (fun _ hm => ?_) (fun _ hm => ?_)
    · refine j_iconst (v := -1) (pc := 27) C dX12_stairs_27 (by decide) ?_
      exact j_iretS (pc := 28) C rfl dX12_stairs_28 hm
    · refine j_iloadn (pc := 19) C 1 dX12_stairs_19 rfl rfl ?_
      refine j_aloadn (pc := 20) C 0 dX12_stairs_20 rfl rfl ?_
      refine gf_X12_120 (c := 0) (pc := 21) C km_0 dX12_stairs_21 ?_
      refine j_icmp_le (tgt := 29) (pc := 24) C dX12_stairs_24 (by decide) hm (fun _ hm => ?_) (fun _ hm => ?_)
      · refine j_iconst (v := -1) (pc := 27) C dX12_stairs_27 (by decide) ?_
        exact j_iretS (pc := 28) C rfl dX12_stairs_28 hm
      · refine j_aloadn (pc := 29) C 0 dX12_stairs_29 rfl rfl ?_
        refine j_iconst (v := 0) (pc := 30) C dX12_stairs_30 (by decide) ?_
        refine pf_X12_120 (c := 0) (pc := 31) C km_0 dX12_stairs_31 hm (fun σ3 hm => ?_)
        refine j_iconst (v := 0) (pc := 34) C dX12_stairs_34 (by decide) ?_
        refine j_istoren (ls' := [(3, .int (0 : Int32)), (0, .ref (vad (gV G) 0)), (1, .int x1), (2, .int x2)]) (pc := 35) C dX12_stairs_35 rfl (by decide) rfl ?_
        refine j_ls [1, 2, 3, 0] rfl ?_
        refine lp_X12_stairs_36_ok C F _ (fun x1_12 x2_12 σ12 hm => ?_) F _ _ _ _ hm
        refine j_iconst (v := 1) (pc := 71) C dX12_stairs_71 (by decide) ?_
        refine j_istoren (ls' := [(3, .int (1 : Int32)), (0, .ref (vad (gV G) 0)), (1, .int x1_12), (2, .int x2_12)]) (pc := 72) C dX12_stairs_72 rfl (by decide) rfl ?_
        refine j_ls [1, 2, 3, 0] rfl ?_
        refine lp_X12_stairs_73_ok C F _ (fun x1_15 x2_15 σ15 hm => ?_) F _ _ _ _ hm
        refine j_iloadn (pc := 105) C 2 dX12_stairs_105 rfl rfl ?_
        refine j_if_ne (tgt := 120) (pc := 106) C dX12_stairs_106 (by decide) hm (fun _ hm => ?_) (fun _ hm => ?_)
        · refine j_aloadn (pc := 109) C 0 dX12_stairs_109 rfl rfl ?_
          refine gf_X12_98 (c := 0) (pc := 110) C km_0 dX12_stairs_110 ?_
          refine j_iloadn (pc := 113) C 1 dX12_stairs_113 rfl rfl ?_
          refine j_iconst (v := 1) (pc := 114) C dX12_stairs_114 (by decide) ?_
          refine j_isub (pc := 115) C dX12_stairs_115 ?_
          refine j_lti hm (fun y16 hm => ?_)
          refine j_guard hm (fun hg17 hm => ?_)
          refine j_iald (c := 30) (n := 20) (pc := 116) C (kM_lt km_30 (by decide)) (cm_a km_30 lm_30 _) hg17 dX12_stairs_116 ?_
          refine j_goto (tgt := 128) (pc := 117) C dX12_stairs_117 (by decide) ?_
          exact j_iretS (pc := 128) C rfl dX12_stairs_128 hm
        · refine j_aloadn (pc := 120) C 0 dX12_stairs_120 rfl rfl ?_
          refine gf_X12_101 (c := 0) (pc := 121) C km_0 dX12_stairs_121 ?_
          refine j_iloadn (pc := 124) C 1 dX12_stairs_124 rfl rfl ?_
          refine j_iconst (v := 1) (pc := 125) C dX12_stairs_125 (by decide) ?_
          refine j_isub (pc := 126) C dX12_stairs_126 ?_
          refine j_lti hm (fun y18 hm => ?_)
          refine j_guard hm (fun hg19 hm => ?_)
          refine j_iald (c := 31) (n := 20) (pc := 127) C (kM_lt km_31 (by decide)) (cm_a km_31 lm_31 _) hg19 dX12_stairs_127 ?_
          exact j_iretS (pc := 128) C rfl dX12_stairs_128 hm

def lp_X12_bells_56 (F : Nat) (k85 : Int32 → Int32 → Int32 → jS → Option (Int32 × jS)) : Nat → Int32 → Int32 → Int32 → Int32 → jS → Option (Int32 × jS)
  | 0, _, _, _, _, _ => none
  | n + 1, x1, x2, x3, x4, σ => (if x4 < x3 then (Option.bind (mX12_octet F x4 σ) fun q5 => (Option.bind (mX12_octet F x3 σ) fun q6 => (if q5 = q6 then some ((-3 : Int32), σ) else (lp_X12_bells_56 F k85 n x1 x2 x3 ((x4 + (1 : Int32))) σ)))) else (k85 x1 x2 x3 σ))
set_option maxHeartbeats 4000000 in
set_option maxRecDepth 100000 in
theorem lp_X12_bells_56_ok {G : jG} (C : jc cfM 33 G cX12_bells RX12 5 (some .int) 1) (F : Nat) {v : (Int32 × jS)} (k85 : Int32 → Int32 → Int32 → jS → Option (Int32 × jS)) (hk85 : ∀ (x1 : Int32) (x2 : Int32) (x3 : Int32) (σ : jS), k85 x1 x2 x3 σ = some v → JM G 85 [(0, .ref (vad (gV G) 0)), (1, .int x1), (2, .int x2), (3, .int x3)] [] σ v) : ∀ (n : Nat) (x1 : Int32) (x2 : Int32) (x3 : Int32) (x4 : Int32) (σ : jS), lp_X12_bells_56 F k85 n x1 x2 x3 x4 σ = some v → JM G 56 [(0, .ref (vad (gV G) 0)), (1, .int x1), (2, .int x2), (3, .int x3), (4, .int x4)] [] σ v := by
  intro n
  induction n with
  | zero =>
    intro x1 x2 x3 x4 σ hm
    rw [lp_X12_bells_56] at hm
    cases hm
  | succ n ih =>
    intro x1 x2 x3 x4 σ hm
    rw [lp_X12_bells_56] at hm
    refine j_iload (pc := 56) C 4 dX12_bells_56 rfl ?_
    refine j_iloadn (pc := 58) C 3 dX12_bells_58 rfl rfl ?_
    refine j_icmp_ge (tgt := 85) (pc := 59) C dX12_bells_59 (by decide) hm (fun _ hm => ?_) (fun _ hm => ?_)
    · refine j_aloadn (pc := 62) C 0 dX12_bells_62 rfl rfl ?_
      refine j_iload (pc := 63) C 4 dX12_bells_63 rfl ?_
      obtain ⟨q5, hq5, hm⟩ := Option.bind_eq_some_iff.mp hm
      refine cl_X12_384 (c := 0) (pc := 65) C km_0 (kX12_octet hq5) (by decide) (Nat.le_of_ble_eq_true rfl) dX12_bells_65 ?_
      refine j_aloadn (pc := 68) C 0 dX12_bells_68 rfl rfl ?_
      refine j_iloadn (pc := 69) C 3 dX12_bells_69 rfl rfl ?_
      obtain ⟨q6, hq6, hm⟩ := Option.bind_eq_some_iff.mp hm
      refine cl_X12_384 (c := 0) (pc := 70) C km_0 (kX12_octet hq6) (by decide) (Nat.le_of_ble_eq_true rfl) dX12_bells_70 ?_
      refine j_icmp_ne (tgt := 79) (pc := 73) C dX12_bells_73 (by decide) hm (fun _ hm => ?_) (fun _ hm => ?_)
      · refine j_bipush (v := -3) (pc := 76) C dX12_bells_76 (by decide) ?_
        exact j_iretS (pc := 78) C rfl dX12_bells_78 hm
      · refine j_iinc (v := (x4 + (1 : Int32))) (ls' := [(4, .int (x4 + (1 : Int32))), (0, .ref (vad (gV G) 0)), (1, .int x1), (2, .int x2), (3, .int x3)]) (pc := 79) C 4 dX12_bells_79 rfl rfl (by decide) rfl ?_
        refine j_goto (tgt := 56) (pc := 82) C dX12_bells_82 (by decide) ?_
        refine j_ls [1, 2, 3, 4, 0] rfl ?_
        exact ih _ _ _ _ _ hm
    · refine j_ls [0, 1, 2, 3] rfl ?_
      exact hk85 _ _ _ _ hm

def lp_X12_bells_37 (F : Nat) (k91 : Int32 → Int32 → jS → Option (Int32 × jS)) : Nat → Int32 → Int32 → Int32 → jS → Option (Int32 × jS)
  | 0, _, _, _, _ => none
  | n + 1, x1, x2, x3, σ => (if x3 < x1 then (Option.bind (mX12_octet F x3 σ) fun q4 => (if q4 = 0 then some ((-3 : Int32), σ) else (lp_X12_bells_56 F (fun x1_7 x2_7 x3_7 σ7 => (lp_X12_bells_37 F k91 n x1_7 x2_7 ((x3_7 + (1 : Int32))) σ7)) F x1 x2 x3 (0 : Int32) σ))) else (k91 x1 x2 σ))
set_option maxHeartbeats 4000000 in
set_option maxRecDepth 100000 in
theorem lp_X12_bells_37_ok {G : jG} (C : jc cfM 33 G cX12_bells RX12 5 (some .int) 1) (F : Nat) {v : (Int32 × jS)} (k91 : Int32 → Int32 → jS → Option (Int32 × jS)) (hk91 : ∀ (x1 : Int32) (x2 : Int32) (σ : jS), k91 x1 x2 σ = some v → JM G 91 [(0, .ref (vad (gV G) 0)), (1, .int x1), (2, .int x2)] [] σ v) : ∀ (n : Nat) (x1 : Int32) (x2 : Int32) (x3 : Int32) (σ : jS), lp_X12_bells_37 F k91 n x1 x2 x3 σ = some v → JM G 37 [(0, .ref (vad (gV G) 0)), (1, .int x1), (2, .int x2), (3, .int x3)] [] σ v := by
  intro n
  induction n with
  | zero =>
    intro x1 x2 x3 σ hm
    rw [lp_X12_bells_37] at hm
    cases hm
  | succ n ih =>
    intro x1 x2 x3 σ hm
    rw [lp_X12_bells_37] at hm
    refine j_iloadn (pc := 37) C 3 dX12_bells_37 rfl rfl ?_
    refine j_iloadn (pc := 38) C 1 dX12_bells_38 rfl rfl ?_
    refine j_icmp_ge (tgt := 91) (pc := 39) C dX12_bells_39 (by decide) hm (fun _ hm => ?_) (fun _ hm => ?_)
    · refine j_aloadn (pc := 42) C 0 dX12_bells_42 rfl rfl ?_
      refine j_iloadn (pc := 43) C 3 dX12_bells_43 rfl rfl ?_
      obtain ⟨q4, hq4, hm⟩ := Option.bind_eq_some_iff.mp hm
      refine cl_X12_384 (c := 0) (pc := 44) C km_0 (kX12_octet hq4) (by decide) (Nat.le_of_ble_eq_true rfl) dX12_bells_44 ?_
      refine j_if_ne (tgt := 53) (pc := 47) C dX12_bells_47 (by decide) hm (fun _ hm => ?_) (fun _ hm => ?_)
      · refine j_bipush (v := -3) (pc := 50) C dX12_bells_50 (by decide) ?_
        exact j_iretS (pc := 52) C rfl dX12_bells_52 hm
      · refine j_iconst (v := 0) (pc := 53) C dX12_bells_53 (by decide) ?_
        refine j_istore (ls' := [(4, .int (0 : Int32)), (0, .ref (vad (gV G) 0)), (1, .int x1), (2, .int x2), (3, .int x3)]) (pc := 54) C dX12_bells_54 (by decide) rfl ?_
        refine j_ls [1, 2, 3, 4, 0] rfl ?_
        refine lp_X12_bells_56_ok C F _ (fun x1_7 x2_7 x3_7 σ7 hm => ?_) F _ _ _ _ _ hm
        refine j_iinc (v := (x3_7 + (1 : Int32))) (ls' := [(3, .int (x3_7 + (1 : Int32))), (0, .ref (vad (gV G) 0)), (1, .int x1_7), (2, .int x2_7)]) (pc := 85) C 3 dX12_bells_85 rfl rfl (by decide) rfl ?_
        refine j_goto (tgt := 37) (pc := 88) C dX12_bells_88 (by decide) ?_
        refine j_ls [1, 2, 3, 0] rfl ?_
        exact ih _ _ _ _ hm
    · refine j_ls [0, 1, 2] rfl ?_
      exact hk91 _ _ _ hm

def lp_X12_bells_117 (F : Nat) (k169 : Int32 → Int32 → Int32 → jS → Option (Int32 × jS)) : Nat → Int32 → Int32 → Int32 → Int32 → jS → Option (Int32 × jS)
  | 0, _, _, _, _, _ => none
  | n + 1, x1, x2, x3, x4, σ => (if x4 < x1 then (Option.bind (mX12_octet F x4 σ) fun q12 => (if x3 < q12 then (lp_X12_bells_117 F k169 n x1 x2 x3 ((x4 + (1 : Int32))) σ) else (if jin x3 10000 = true then (Option.bind (mX12_octet F x4 σ) fun q14 => (lt (x3 - q14) fun y15 => (if jin y15 10000 = true then (Option.bind (mX12_min F ((σ 32 x3.toNatClampNeg)) (((σ 32 y15.toNatClampNeg) + (1 : Int32))) σ) fun q17 => (if jin x3 10000 = true then (lt (js σ 32 x3.toNatClampNeg q17) fun σ18 => (lp_X12_bells_117 F k169 n x1 x2 x3 ((x4 + (1 : Int32))) σ18)) else none)) else none))) else none))) else (k169 x1 x2 x3 σ))
set_option maxHeartbeats 4000000 in
set_option maxRecDepth 100000 in
theorem lp_X12_bells_117_ok {G : jG} (C : jc cfM 33 G cX12_bells RX12 5 (some .int) 1) (F : Nat) {v : (Int32 × jS)} (k169 : Int32 → Int32 → Int32 → jS → Option (Int32 × jS)) (hk169 : ∀ (x1 : Int32) (x2 : Int32) (x3 : Int32) (σ : jS), k169 x1 x2 x3 σ = some v → JM G 169 [(0, .ref (vad (gV G) 0)), (1, .int x1), (2, .int x2), (3, .int x3)] [] σ v) : ∀ (n : Nat) (x1 : Int32) (x2 : Int32) (x3 : Int32) (x4 : Int32) (σ : jS), lp_X12_bells_117 F k169 n x1 x2 x3 x4 σ = some v → JM G 117 [(0, .ref (vad (gV G) 0)), (1, .int x1), (2, .int x2), (3, .int x3), (4, .int x4)] [] σ v := by
  intro n
  induction n with
  | zero =>
    intro x1 x2 x3 x4 σ hm
    rw [lp_X12_bells_117] at hm
    cases hm
  | succ n ih =>
    intro x1 x2 x3 x4 σ hm
    rw [lp_X12_bells_117] at hm
    refine j_iload (pc := 117) C 4 dX12_bells_117 rfl ?_
    refine j_iloadn (pc := 119) C 1 dX12_bells_119 rfl rfl ?_
    refine j_icmp_ge (tgt := 169) (pc := 120) C dX12_bells_120 (by decide) hm (fun _ hm => ?_) (fun _ hm => ?_)
    · refine j_aloadn (pc := 123) C 0 dX12_bells_123 rfl rfl ?_
      refine j_iload (pc := 124) C 4 dX12_bells_124 rfl ?_
      obtain ⟨q12, hq12, hm⟩ := Option.bind_eq_some_iff.mp hm
      refine cl_X12_384 (c := 0) (pc := 126) C km_0 (kX12_octet hq12) (by decide) (Nat.le_of_ble_eq_true rfl) dX12_bells_126 ?_
      refine j_iloadn (pc := 129) C 3 dX12_bells_129 rfl rfl ?_
      refine j_icmp_gt (tgt := 163) (pc := 130) C dX12_bells_130 (by decide) hm (fun _ hm => ?_) (fun _ hm => ?_)
      · refine j_iinc (v := (x4 + (1 : Int32))) (ls' := [(4, .int (x4 + (1 : Int32))), (0, .ref (vad (gV G) 0)), (1, .int x1), (2, .int x2), (3, .int x3)]) (pc := 163) C 4 dX12_bells_163 rfl rfl (by decide) rfl ?_
        refine j_goto (tgt := 117) (pc := 166) C dX12_bells_166 (by decide) ?_
        refine j_ls [1, 2, 3, 4, 0] rfl ?_
        exact ih _ _ _ _ _ hm
      · refine j_aloadn (pc := 133) C 0 dX12_bells_133 rfl rfl ?_
        refine gf_X12_104 (c := 0) (pc := 134) C km_0 dX12_bells_134 ?_
        refine j_iloadn (pc := 137) C 3 dX12_bells_137 rfl rfl ?_
        refine j_aloadn (pc := 138) C 0 dX12_bells_138 rfl rfl ?_
        refine gf_X12_104 (c := 0) (pc := 139) C km_0 dX12_bells_139 ?_
        refine j_iloadn (pc := 142) C 3 dX12_bells_142 rfl rfl ?_
        refine j_guard hm (fun hg13 hm => ?_)
        refine j_iald (c := 32) (n := 10000) (pc := 143) C (kM_lt km_32 (by decide)) (cm_a km_32 lm_32 _) hg13 dX12_bells_143 ?_
        refine j_aloadn (pc := 144) C 0 dX12_bells_144 rfl rfl ?_
        refine gf_X12_104 (c := 0) (pc := 145) C km_0 dX12_bells_145 ?_
        refine j_iloadn (pc := 148) C 3 dX12_bells_148 rfl rfl ?_
        refine j_aloadn (pc := 149) C 0 dX12_bells_149 rfl rfl ?_
        refine j_iload (pc := 150) C 4 dX12_bells_150 rfl ?_
        obtain ⟨q14, hq14, hm⟩ := Option.bind_eq_some_iff.mp hm
        refine cl_X12_384 (c := 0) (pc := 152) C km_0 (kX12_octet hq14) (by decide) (Nat.le_of_ble_eq_true rfl) dX12_bells_152 ?_
        refine j_isub (pc := 155) C dX12_bells_155 ?_
        refine j_lti hm (fun y15 hm => ?_)
        refine j_guard hm (fun hg16 hm => ?_)
        refine j_iald (c := 32) (n := 10000) (pc := 156) C (kM_lt km_32 (by decide)) (cm_a km_32 lm_32 _) hg16 dX12_bells_156 ?_
        refine j_iconst (v := 1) (pc := 157) C dX12_bells_157 (by decide) ?_
        refine j_iadd (pc := 158) C dX12_bells_158 ?_
        obtain ⟨q17, hq17, hm⟩ := Option.bind_eq_some_iff.mp hm
        refine cl_X12_272 (pc := 159) C (kX12_min hq17) (by decide) (Nat.le_of_ble_eq_true rfl) dX12_bells_159 ?_
        refine j_guard hm (fun hg19 hm => ?_)
        refine j_iastL (c := 32) (n := 10000) (pc := 162) C (kM_lt km_32 (by decide)) (cm_a km_32 lm_32) hg19 dX12_bells_162 hm (fun σ18 hm => ?_)
        refine j_iinc (v := (x4 + (1 : Int32))) (ls' := [(4, .int (x4 + (1 : Int32))), (0, .ref (vad (gV G) 0)), (1, .int x1), (2, .int x2), (3, .int x3)]) (pc := 163) C 4 dX12_bells_163 rfl rfl (by decide) rfl ?_
        refine j_goto (tgt := 117) (pc := 166) C dX12_bells_166 (by decide) ?_
        refine j_ls [1, 2, 3, 4, 0] rfl ?_
        exact ih _ _ _ _ _ hm
    · refine j_ls [0, 1, 2, 3] rfl ?_
      exact hk169 _ _ _ _ hm

def lp_X12_bells_100 (F : Nat) (k175 : Int32 → jS → Option (Int32 × jS)) : Nat → Int32 → Int32 → Int32 → jS → Option (Int32 × jS)
  | 0, _, _, _, _ => none
  | n + 1, x1, x2, x3, σ => (if x2 < x3 then (k175 x2 σ) else (if jin x3 10000 = true then (lt (js σ 32 x3.toNatClampNeg (1000000000 : Int32)) fun σ10 => (lp_X12_bells_117 F (fun x1_20 x2_20 x3_20 σ20 => (lp_X12_bells_100 F k175 n x1_20 x2_20 ((x3_20 + (1 : Int32))) σ20)) F x1 x2 x3 (0 : Int32) σ10)) else none))
set_option maxHeartbeats 4000000 in
set_option maxRecDepth 100000 in
theorem lp_X12_bells_100_ok {G : jG} (C : jc cfM 33 G cX12_bells RX12 5 (some .int) 1) (F : Nat) {v : (Int32 × jS)} (k175 : Int32 → jS → Option (Int32 × jS)) (hk175 : ∀ (x2 : Int32) (σ : jS), k175 x2 σ = some v → JM G 175 [(0, .ref (vad (gV G) 0)), (2, .int x2)] [] σ v) : ∀ (n : Nat) (x1 : Int32) (x2 : Int32) (x3 : Int32) (σ : jS), lp_X12_bells_100 F k175 n x1 x2 x3 σ = some v → JM G 100 [(0, .ref (vad (gV G) 0)), (1, .int x1), (2, .int x2), (3, .int x3)] [] σ v := by
  intro n
  induction n with
  | zero =>
    intro x1 x2 x3 σ hm
    rw [lp_X12_bells_100] at hm
    cases hm
  | succ n ih =>
    intro x1 x2 x3 σ hm
    rw [lp_X12_bells_100] at hm
    refine j_iloadn (pc := 100) C 3 dX12_bells_100 rfl rfl ?_
    refine j_iloadn (pc := 101) C 2 dX12_bells_101 rfl rfl ?_
    refine j_icmp_gt (tgt := 175) (pc := 102) C dX12_bells_102 (by decide) hm (fun _ hm => ?_) (fun _ hm => ?_)
    · refine j_ls [0, 2] rfl ?_
      exact hk175 _ _ hm
    · refine j_aloadn (pc := 105) C 0 dX12_bells_105 rfl rfl ?_
      refine gf_X12_104 (c := 0) (pc := 106) C km_0 dX12_bells_106 ?_
      refine j_iloadn (pc := 109) C 3 dX12_bells_109 rfl rfl ?_
      refine j_ldcw (v := 1000000000) (pc := 110) C dX12_bells_110 tw_7_162 ?_
      refine j_guard hm (fun hg11 hm => ?_)
      refine j_iastL (c := 32) (n := 10000) (pc := 113) C (kM_lt km_32 (by decide)) (cm_a km_32 lm_32) hg11 dX12_bells_113 hm (fun σ10 hm => ?_)
      refine j_iconst (v := 0) (pc := 114) C dX12_bells_114 (by decide) ?_
      refine j_istore (ls' := [(4, .int (0 : Int32)), (0, .ref (vad (gV G) 0)), (1, .int x1), (2, .int x2), (3, .int x3)]) (pc := 115) C dX12_bells_115 (by decide) rfl ?_
      refine j_ls [1, 2, 3, 4, 0] rfl ?_
      refine lp_X12_bells_117_ok C F _ (fun x1_20 x2_20 x3_20 σ20 hm => ?_) F _ _ _ _ _ hm
      refine j_iinc (v := (x3_20 + (1 : Int32))) (ls' := [(3, .int (x3_20 + (1 : Int32))), (0, .ref (vad (gV G) 0)), (1, .int x1_20), (2, .int x2_20)]) (pc := 169) C 3 dX12_bells_169 rfl rfl (by decide) rfl ?_
      refine j_goto (tgt := 100) (pc := 172) C dX12_bells_172 (by decide) ?_
      refine j_ls [1, 2, 3, 0] rfl ?_
      exact ih _ _ _ _ hm

def mX12_bells (F : Nat) (x1 : Int32) (x2 : Int32) (σ : jS) : Option (Int32 × jS) := (Option.bind (mX12_in F x1 (1 : Int32) (5 : Int32) σ) fun q1 => (if q1 = 0 then some ((-1 : Int32), σ) else (Option.bind (mX12_in F x2 (1 : Int32) (9999 : Int32) σ) fun q2 => (if q2 = 0 then some ((-1 : Int32), σ) else (if (σ 0 6) < x1 then some ((-1 : Int32), σ) else (lt (js σ 0 6 (0 : Int32)) fun σ3 => (lp_X12_bells_37 F (fun x1_8 x2_8 σ8 => (lt (js σ8 32 0 (0 : Int32)) fun σ9 => (lp_X12_bells_100 F (fun x2_21 σ21 => (if jin x2_21 10000 = true then (if (σ21 32 x2_21.toNatClampNeg) < (1000000000 : Int32) then (if jin x2_21 10000 = true then some ((σ21 32 x2_21.toNatClampNeg), σ21) else none) else some ((-2 : Int32), σ21)) else none)) F x1_8 x2_8 (1 : Int32) σ9))) F x1 x2 (0 : Int32) σ3)))))))
set_option maxHeartbeats 4000000 in
set_option maxRecDepth 100000 in
theorem kX12_bells {V : jV} {F : Nat} {x1 : Int32} {x2 : Int32} {σ : jS} {v : (Int32 × jS)} (hm : mX12_bells F x1 x2 σ = some v) : Ct cfM 33 V yX12_bells cX12_bells 5 (some .int) 1 [.ref (vad V 0), .int x1, .int x2] σ v := by
  refine j_start (own := RX12) (by decide) rfl (Nat.le_of_ble_eq_true rfl) ?_
  intro G hV C
  subst hV
  unfold mX12_bells at hm
  show JM G 0 [(0, .ref (vad (gV G) 0)), (1, .int x1), (2, .int x2)] [] σ v
  refine j_iloadn (pc := 0) C 1 dX12_bells_0 rfl rfl ?_
  refine j_iconst (v := 1) (pc := 1) C dX12_bells_1 (by decide) ?_
  refine j_iconst (v := 5) (pc := 2) C dX12_bells_2 (by decide) ?_
  obtain ⟨q1, hq1, hm⟩ := Option.bind_eq_some_iff.mp hm
  refine cl_X12_107 (pc := 3) C (kX12_in hq1) (by decide) (Nat.le_of_ble_eq_true rfl) dX12_bells_3 ?_
  refine j_if_eq (tgt := 28) (pc := 6) C dX12_bells_6 (by decide) hm (fun _ hm => ?_) (fun _ hm => ?_)
  · refine j_iconst (v := -1) (pc := 28) C dX12_bells_28 (by decide) ?_
    exact j_iretS (pc := 29) C rfl dX12_bells_29 hm
  · refine j_iloadn (pc := 9) C 2 dX12_bells_9 rfl rfl ?_
    refine j_iconst (v := 1) (pc := 10) C dX12_bells_10 (by decide) ?_
    refine j_sipush (v := 9999) (pc := 11) C dX12_bells_11 (by decide) ?_
    obtain ⟨q2, hq2, hm⟩ := Option.bind_eq_some_iff.mp hm
    refine cl_X12_107 (pc := 14) C (kX12_in hq2) (by decide) (Nat.le_of_ble_eq_true rfl) dX12_bells_14 ?_
    refine j_if_eq (tgt := 28) (pc := 17) C dX12_bells_17 (by decide) hm (fun _ hm => ?_) (fun _ hm => ?_)
    · refine j_iconst (v := -1) (pc := 28) C dX12_bells_28 (by decide) ?_
      exact j_iretS (pc := 29) C rfl dX12_bells_29 hm
    · refine j_iloadn (pc := 20) C 1 dX12_bells_20 rfl rfl ?_
      refine j_aloadn (pc := 21) C 0 dX12_bells_21 rfl rfl ?_
      refine gf_X12_120 (c := 0) (pc := 22) C km_0 dX12_bells_22 ?_
      refine j_icmp_le (tgt := 30) (pc := 25) C dX12_bells_25 (by decide) hm (fun _ hm => ?_) (fun _ hm => ?_)
      · refine j_iconst (v := -1) (pc := 28) C dX12_bells_28 (by decide) ?_
        exact j_iretS (pc := 29) C rfl dX12_bells_29 hm
      · refine j_aloadn (pc := 30) C 0 dX12_bells_30 rfl rfl ?_
        refine j_iconst (v := 0) (pc := 31) C dX12_bells_31 (by decide) ?_
        refine pf_X12_120 (c := 0) (pc := 32) C km_0 dX12_bells_32 hm (fun σ3 hm => ?_)
        refine j_iconst (v := 0) (pc := 35) C dX12_bells_35 (by decide) ?_
        refine j_istoren (ls' := [(3, .int (0 : Int32)), (0, .ref (vad (gV G) 0)), (1, .int x1), (2, .int x2)]) (pc := 36) C dX12_bells_36 rfl (by decide) rfl ?_
        refine j_ls [1, 2, 3, 0] rfl ?_
        refine lp_X12_bells_37_ok C F _ (fun x1_8 x2_8 σ8 hm => ?_) F _ _ _ _ hm
        refine j_aloadn (pc := 91) C 0 dX12_bells_91 rfl rfl ?_
        refine gf_X12_104 (c := 0) (pc := 92) C km_0 dX12_bells_92 ?_
        refine j_iconst (v := 0) (pc := 95) C dX12_bells_95 (by decide) ?_
        refine j_iconst (v := 0) (pc := 96) C dX12_bells_96 (by decide) ?_
        refine j_iastK (c := 32) (n := 10000) (k := 0) (pc := 97) C (kM_lt km_32 (by decide)) (cm_a km_32 lm_32) rfl (by decide) dX12_bells_97 hm (fun σ9 hm => ?_)
        refine j_iconst (v := 1) (pc := 98) C dX12_bells_98 (by decide) ?_
        refine j_istoren (ls' := [(3, .int (1 : Int32)), (0, .ref (vad (gV G) 0)), (1, .int x1_8), (2, .int x2_8)]) (pc := 99) C dX12_bells_99 rfl (by decide) rfl ?_
        refine j_ls [1, 2, 3, 0] rfl ?_
        refine lp_X12_bells_100_ok C F _ (fun x2_21 σ21 hm => ?_) F _ _ _ _ hm
        refine j_aloadn (pc := 175) C 0 dX12_bells_175 rfl rfl ?_
        refine gf_X12_104 (c := 0) (pc := 176) C km_0 dX12_bells_176 ?_
        refine j_iloadn (pc := 179) C 1 dX12_bells_179 rfl rfl ?_
        refine j_guard hm (fun hg22 hm => ?_)
        refine j_iald (c := 32) (n := 10000) (pc := 180) C (kM_lt km_32 (by decide)) (cm_a km_32 lm_32 _) hg22 dX12_bells_180 ?_
        refine j_ldcw (v := 1000000000) (pc := 181) C dX12_bells_181 tw_7_162 ?_
        refine j_icmp_lt (tgt := 192) (pc := 184) C dX12_bells_184 (by decide) hm (fun _ hm => ?_) (fun _ hm => ?_)
        · refine j_aloadn (pc := 192) C 0 dX12_bells_192 rfl rfl ?_
          refine gf_X12_104 (c := 0) (pc := 193) C km_0 dX12_bells_193 ?_
          refine j_iloadn (pc := 196) C 1 dX12_bells_196 rfl rfl ?_
          refine j_guard hm (fun hg23 hm => ?_)
          refine j_iald (c := 32) (n := 10000) (pc := 197) C (kM_lt km_32 (by decide)) (cm_a km_32 lm_32 _) hg23 dX12_bells_197 ?_
          exact j_iretS (pc := 198) C rfl dX12_bells_198 hm
        · refine j_bipush (v := -2) (pc := 187) C dX12_bells_187 (by decide) ?_
          refine j_goto (tgt := 198) (pc := 189) C dX12_bells_189 (by decide) ?_
          exact j_iretS (pc := 198) C rfl dX12_bells_198 hm

def mX12_seed (F : Nat) (x1 : Int32) (σ : jS) : Option (Int32 × jS) := (Option.bind (mX12_in F x1 (0 : Int32) (65535 : Int32) σ) fun q1 => (if q1 = 0 then some ((0 : Int32), σ) else (lt (js σ 1 211 x1) fun σ2 => some ((1 : Int32), σ2))))
set_option maxHeartbeats 4000000 in
set_option maxRecDepth 100000 in
theorem kX12_seed {V : jV} {F : Nat} {x1 : Int32} {σ : jS} {v : (Int32 × jS)} (hm : mX12_seed F x1 σ = some v) : Ct cfM 33 V yX12_seed cX12_seed 2 (some .boolean) 1 [.ref (vad V 0), .int x1] σ v := by
  refine j_start (own := RX12) (by decide) rfl (Nat.le_of_ble_eq_true rfl) ?_
  intro G hV C
  subst hV
  unfold mX12_seed at hm
  show JM G 0 [(0, .ref (vad (gV G) 0)), (1, .int x1)] [] σ v
  refine j_iloadn (pc := 0) C 1 dX12_seed_0 rfl rfl ?_
  refine j_iconst (v := 0) (pc := 1) C dX12_seed_1 (by decide) ?_
  refine j_ldcw (v := 65535) (pc := 2) C dX12_seed_2 tw_7_46 ?_
  obtain ⟨q1, hq1, hm⟩ := Option.bind_eq_some_iff.mp hm
  refine cl_X12_107 (pc := 5) C (kX12_in hq1) (by decide) (Nat.le_of_ble_eq_true rfl) dX12_seed_5 ?_
  refine j_if_ne (tgt := 13) (pc := 8) C dX12_seed_8 (by decide) hm (fun _ hm => ?_) (fun _ hm => ?_)
  · refine j_iconst (v := 0) (pc := 11) C dX12_seed_11 (by decide) ?_
    exact j_zretS (pc := 12) C rfl rfl dX12_seed_12 hm
  · refine j_aloadn (pc := 13) C 0 dX12_seed_13 rfl rfl ?_
    refine gf_X12_7 (c := 0) (pc := 14) C km_0 dX12_seed_14 ?_
    refine j_sipush (v := 211) (pc := 17) C dX12_seed_17 (by decide) ?_
    refine j_iloadn (pc := 20) C 1 dX12_seed_20 rfl rfl ?_
    refine j_iastK (c := 1) (n := 212) (k := 211) (pc := 21) C (kM_lt km_1 (by decide)) (cm_a km_1 lm_1) rfl (by decide) dX12_seed_21 hm (fun σ2 hm => ?_)
    refine j_iconst (v := 1) (pc := 22) C dX12_seed_22 (by decide) ?_
    exact j_zretS (pc := 23) C rfl rfl dX12_seed_23 hm

def mX12_keep (F : Nat) (σ : jS) : Option (Int32 × jS) := (lt (js σ 0 50 (1 : Int32)) fun σ1 => (Option.bind (mX12_copies F 1 3 σ1) fun q2 => some ((q2 1 210), q2)))
set_option maxHeartbeats 4000000 in
set_option maxRecDepth 100000 in
theorem kX12_keep {V : jV} {F : Nat} {σ : jS} {v : (Int32 × jS)} (hm : mX12_keep F σ = some v) : Ct cfM 33 V yX12_keep cX12_keep 1 (some .int) 1 [.ref (vad V 0)] σ v := by
  refine j_start (own := RX12) (by decide) rfl (Nat.le_of_ble_eq_true rfl) ?_
  intro G hV C
  subst hV
  unfold mX12_keep at hm
  show JM G 0 [(0, .ref (vad (gV G) 0))] [] σ v
  refine j_aloadn (pc := 0) C 0 dX12_keep_0 rfl rfl ?_
  refine j_iconst (v := 1) (pc := 1) C dX12_keep_1 (by decide) ?_
  refine pf_X12_416 (c := 0) (pc := 2) C km_0 rfl dX12_keep_2 hm (fun σ1 hm => ?_)
  refine j_aloadn (pc := 5) C 0 dX12_keep_5 rfl rfl ?_
  refine gf_X12_7 (c := 0) (pc := 6) C km_0 dX12_keep_6 ?_
  refine j_aloadn (pc := 9) C 0 dX12_keep_9 rfl rfl ?_
  refine gf_X12_16 (c := 0) (pc := 10) C km_0 dX12_keep_10 ?_
  obtain ⟨q2, hq2, hm⟩ := Option.bind_eq_some_iff.mp hm
  refine cl_X12_330 (pc := 13) C (kX12_copies km_1 lm_1 km_3 lm_3 hq2) (by decide) (Nat.le_of_ble_eq_true rfl) dX12_keep_13 ?_
  refine j_aloadn (pc := 16) C 0 dX12_keep_16 rfl rfl ?_
  refine gf_X12_7 (c := 0) (pc := 17) C km_0 dX12_keep_17 ?_
  refine j_sipush (v := 210) (pc := 20) C dX12_keep_20 (by decide) ?_
  refine j_ialdK (c := 1) (n := 212) (k := 210) (pc := 23) C (kM_lt km_1 (by decide)) (cm_a km_1 lm_1 _) rfl (by decide) dX12_keep_23 ?_
  exact j_iretS (pc := 24) C rfl dX12_keep_24 hm

def mX12_undo (F : Nat) (σ : jS) : Option (Int32 × jS) := (if (σ 0 50) = 0 then some ((0 : Int32), σ) else (Option.bind (mX12_copies F 3 1 σ) fun q1 => some ((1 : Int32), q1)))
set_option maxHeartbeats 4000000 in
set_option maxRecDepth 100000 in
theorem kX12_undo {V : jV} {F : Nat} {σ : jS} {v : (Int32 × jS)} (hm : mX12_undo F σ = some v) : Ct cfM 33 V yX12_undo cX12_undo 1 (some .boolean) 1 [.ref (vad V 0)] σ v := by
  refine j_start (own := RX12) (by decide) rfl (Nat.le_of_ble_eq_true rfl) ?_
  intro G hV C
  subst hV
  unfold mX12_undo at hm
  show JM G 0 [(0, .ref (vad (gV G) 0))] [] σ v
  refine j_aloadn (pc := 0) C 0 dX12_undo_0 rfl rfl ?_
  refine gf_X12_416 (c := 0) (pc := 1) C km_0 dX12_undo_1 ?_
  refine j_if_ne (tgt := 9) (pc := 4) C dX12_undo_4 (by decide) hm (fun _ hm => ?_) (fun _ hm => ?_)
  · refine j_iconst (v := 0) (pc := 7) C dX12_undo_7 (by decide) ?_
    exact j_zretS (pc := 8) C rfl rfl dX12_undo_8 hm
  · refine j_aloadn (pc := 9) C 0 dX12_undo_9 rfl rfl ?_
    refine gf_X12_16 (c := 0) (pc := 10) C km_0 dX12_undo_10 ?_
    refine j_aloadn (pc := 13) C 0 dX12_undo_13 rfl rfl ?_
    refine gf_X12_7 (c := 0) (pc := 14) C km_0 dX12_undo_14 ?_
    obtain ⟨q1, hq1, hm⟩ := Option.bind_eq_some_iff.mp hm
    refine cl_X12_330 (pc := 17) C (kX12_copies km_3 lm_3 km_1 lm_1 hq1) (by decide) (Nat.le_of_ble_eq_true rfl) dX12_undo_17 ?_
    refine j_iconst (v := 1) (pc := 20) C dX12_undo_20 (by decide) ?_
    exact j_zretS (pc := 21) C rfl rfl dX12_undo_21 hm

def lp_X12_check_28 (F : Nat) : Nat → Int32 → Int32 → jS → Option (Int32 × jS)
  | 0, _, _, _ => none
  | n + 1, x1, x2, σ => (if x2 < x1 then (Option.bind (mX12_octet F x2 σ) fun q3 => (Option.bind (mX12_isTold F x2 σ) fun q4 => (if q4 = 0 then (if q3 = (255 : Int32) then (lp_X12_check_28 F n x1 ((x2 + (1 : Int32))) σ) else some (x2, σ)) else (lt ((48 : Int32) + x2) fun y5 => (if jin y5 212 = true then (if q3 = (σ 1 y5.toNatClampNeg) then (lp_X12_check_28 F n x1 ((x2 + (1 : Int32))) σ) else some (x2, σ)) else none))))) else some ((-1 : Int32), σ))
set_option maxHeartbeats 4000000 in
set_option maxRecDepth 100000 in
theorem lp_X12_check_28_ok {G : jG} (C : jc cfM 33 G cX12_check RX12 3 (some .int) 2) (F : Nat) {v : (Int32 × jS)} : ∀ (n : Nat) (x1 : Int32) (x2 : Int32) (σ : jS), lp_X12_check_28 F n x1 x2 σ = some v → JM G 28 [(0, .ref (vad (gV G) 0)), (1, .int x1), (2, .int x2)] [] σ v := by
  intro n
  induction n with
  | zero =>
    intro x1 x2 σ hm
    rw [lp_X12_check_28] at hm
    cases hm
  | succ n ih =>
    intro x1 x2 σ hm
    rw [lp_X12_check_28] at hm
    refine j_iloadn (pc := 28) C 2 dX12_check_28 rfl rfl ?_
    refine j_iloadn (pc := 29) C 1 dX12_check_29 rfl rfl ?_
    refine j_icmp_ge (tgt := 72) (pc := 30) C dX12_check_30 (by decide) hm (fun _ hm => ?_) (fun _ hm => ?_)
    · refine j_aloadn (pc := 33) C 0 dX12_check_33 rfl rfl ?_
      refine j_iloadn (pc := 34) C 2 dX12_check_34 rfl rfl ?_
      obtain ⟨q3, hq3, hm⟩ := Option.bind_eq_some_iff.mp hm
      refine cl_X12_384 (c := 0) (pc := 35) C km_0 (kX12_octet hq3) (by decide) (Nat.le_of_ble_eq_true rfl) dX12_check_35 ?_
      refine j_aloadn (pc := 38) C 0 dX12_check_38 rfl rfl ?_
      refine j_iloadn (pc := 39) C 2 dX12_check_39 rfl rfl ?_
      obtain ⟨q4, hq4, hm⟩ := Option.bind_eq_some_iff.mp hm
      refine cl_X12_111 (c := 0) (pc := 40) C km_0 (kX12_isTold hq4) (by decide) (Nat.le_of_ble_eq_true rfl) dX12_check_40 ?_
      refine j_if_eq (tgt := 58) (pc := 43) C dX12_check_43 (by decide) hm (fun _ hm => ?_) (fun _ hm => ?_)
      · refine j_sipush (v := 255) (pc := 58) C dX12_check_58 (by decide) ?_
        refine j_icmp_eq (tgt := 66) (pc := 61) C dX12_check_61 (by decide) hm (fun _ hm => ?_) (fun _ hm => ?_)
        · refine j_iinc (v := (x2 + (1 : Int32))) (ls' := [(2, .int (x2 + (1 : Int32))), (0, .ref (vad (gV G) 0)), (1, .int x1)]) (pc := 66) C 2 dX12_check_66 rfl rfl (by decide) rfl ?_
          refine j_goto (tgt := 28) (pc := 69) C dX12_check_69 (by decide) ?_
          refine j_ls [1, 2, 0] rfl ?_
          exact ih _ _ _ hm
        · refine j_iloadn (pc := 64) C 2 dX12_check_64 rfl rfl ?_
          exact j_iretS (pc := 65) C rfl dX12_check_65 hm
      · refine j_aloadn (pc := 46) C 0 dX12_check_46 rfl rfl ?_
        refine gf_X12_7 (c := 0) (pc := 47) C km_0 dX12_check_47 ?_
        refine j_bipush (v := 48) (pc := 50) C dX12_check_50 (by decide) ?_
        refine j_iloadn (pc := 52) C 2 dX12_check_52 rfl rfl ?_
        refine j_iadd (pc := 53) C dX12_check_53 ?_
        refine j_lti hm (fun y5 hm => ?_)
        refine j_guard hm (fun hg6 hm => ?_)
        refine j_iald (c := 1) (n := 212) (pc := 54) C (kM_lt km_1 (by decide)) (cm_a km_1 lm_1 _) hg6 dX12_check_54 ?_
        refine j_goto (tgt := 61) (pc := 55) C dX12_check_55 (by decide) ?_
        refine j_icmp_eq (tgt := 66) (pc := 61) C dX12_check_61 (by decide) hm (fun _ hm => ?_) (fun _ hm => ?_)
        · refine j_iinc (v := (x2 + (1 : Int32))) (ls' := [(2, .int (x2 + (1 : Int32))), (0, .ref (vad (gV G) 0)), (1, .int x1)]) (pc := 66) C 2 dX12_check_66 rfl rfl (by decide) rfl ?_
          refine j_goto (tgt := 28) (pc := 69) C dX12_check_69 (by decide) ?_
          refine j_ls [1, 2, 0] rfl ?_
          exact ih _ _ _ hm
        · refine j_iloadn (pc := 64) C 2 dX12_check_64 rfl rfl ?_
          exact j_iretS (pc := 65) C rfl dX12_check_65 hm
    · refine j_iconst (v := -1) (pc := 72) C dX12_check_72 (by decide) ?_
      exact j_iretS (pc := 73) C rfl dX12_check_73 hm

def mX12_check (F : Nat) (x1 : Int32) (σ : jS) : Option (Int32 × jS) := (Option.bind (mX12_in F x1 (0 : Int32) (16 : Int32) σ) fun q1 => (if q1 = 0 then some ((-2 : Int32), σ) else (if (σ 0 6) < x1 then some ((-2 : Int32), σ) else (lt (js σ 0 6 (0 : Int32)) fun σ2 => (lp_X12_check_28 F F x1 (0 : Int32) σ2)))))
set_option maxHeartbeats 4000000 in
set_option maxRecDepth 100000 in
theorem kX12_check {V : jV} {F : Nat} {x1 : Int32} {σ : jS} {v : (Int32 × jS)} (hm : mX12_check F x1 σ = some v) : Ct cfM 33 V yX12_check cX12_check 3 (some .int) 2 [.ref (vad V 0), .int x1] σ v := by
  refine j_start (own := RX12) (by decide) rfl (Nat.le_of_ble_eq_true rfl) ?_
  intro G hV C
  subst hV
  unfold mX12_check at hm
  show JM G 0 [(0, .ref (vad (gV G) 0)), (1, .int x1)] [] σ v
  refine j_iloadn (pc := 0) C 1 dX12_check_0 rfl rfl ?_
  refine j_iconst (v := 0) (pc := 1) C dX12_check_1 (by decide) ?_
  refine j_bipush (v := 16) (pc := 2) C dX12_check_2 (by decide) ?_
  obtain ⟨q1, hq1, hm⟩ := Option.bind_eq_some_iff.mp hm
  refine cl_X12_107 (pc := 4) C (kX12_in hq1) (by decide) (Nat.le_of_ble_eq_true rfl) dX12_check_4 ?_
  refine j_if_eq (tgt := 18) (pc := 7) C dX12_check_7 (by decide) hm (fun _ hm => ?_) (fun _ hm => ?_)
  · refine j_bipush (v := -2) (pc := 18) C dX12_check_18 (by decide) ?_
    exact j_iretS (pc := 20) C rfl dX12_check_20 hm
  · refine j_iloadn (pc := 10) C 1 dX12_check_10 rfl rfl ?_
    refine j_aloadn (pc := 11) C 0 dX12_check_11 rfl rfl ?_
    refine gf_X12_120 (c := 0) (pc := 12) C km_0 dX12_check_12 ?_
    refine j_icmp_le (tgt := 21) (pc := 15) C dX12_check_15 (by decide) hm (fun _ hm => ?_) (fun _ hm => ?_)
    · refine j_bipush (v := -2) (pc := 18) C dX12_check_18 (by decide) ?_
      exact j_iretS (pc := 20) C rfl dX12_check_20 hm
    · refine j_aloadn (pc := 21) C 0 dX12_check_21 rfl rfl ?_
      refine j_iconst (v := 0) (pc := 22) C dX12_check_22 (by decide) ?_
      refine pf_X12_120 (c := 0) (pc := 23) C km_0 dX12_check_23 hm (fun σ2 hm => ?_)
      refine j_iconst (v := 0) (pc := 26) C dX12_check_26 (by decide) ?_
      refine j_istoren (ls' := [(2, .int (0 : Int32)), (0, .ref (vad (gV G) 0)), (1, .int x1)]) (pc := 27) C dX12_check_27 rfl (by decide) rfl ?_
      refine j_ls [1, 2, 0] rfl ?_
      exact lp_X12_check_28_ok C F  F _ _ _ hm

def lp_X12_richest_5 (F : Nat) (σ : jS) : Nat → Int32 → Int32 → Option Int32
  | 0, _, _ => none
  | n + 1, x1, x2 => (if x2 < (16 : Int32) then (Option.bind (mX12_isTold F x2 σ) fun q1 => (if q1 = 0 then (lp_X12_richest_5 F σ n x1 ((x2 + (1 : Int32)))) else (if x1 = (-2 : Int32) then (lp_X12_richest_5 F σ n x2 ((x2 + (1 : Int32)))) else (lt ((16 : Int32) + x2) fun y2 => (if jin y2 212 = true then (lt ((16 : Int32) + x1) fun y4 => (if jin y4 212 = true then (if (σ 1 y4.toNatClampNeg) < (σ 1 y2.toNatClampNeg) then (lp_X12_richest_5 F σ n x2 ((x2 + (1 : Int32)))) else (lp_X12_richest_5 F σ n x1 ((x2 + (1 : Int32))))) else none)) else none))))) else some x1)
set_option maxHeartbeats 4000000 in
set_option maxRecDepth 100000 in
theorem lp_X12_richest_5_ok {G : jG} (C : jc cfM 33 G cX12_richest RX12 3 (some .int) 2) (F : Nat) (σ : jS) {v : Int32} : ∀ (n : Nat) (x1 : Int32) (x2 : Int32), lp_X12_richest_5 F σ n x1 x2 = some v → JM G 5 [(0, .ref (vad (gV G) 0)), (1, .int x1), (2, .int x2)] [] σ (v, σ) := by
  intro n
  induction n with
  | zero =>
    intro x1 x2 hm
    rw [lp_X12_richest_5] at hm
    cases hm
  | succ n ih =>
    intro x1 x2 hm
    rw [lp_X12_richest_5] at hm
    refine j_iloadn (pc := 5) C 2 dX12_richest_5 rfl rfl ?_
    refine j_bipush (v := 16) (pc := 6) C dX12_richest_6 (by decide) ?_
    refine j_icmp_ge (tgt := 54) (pc := 8) C dX12_richest_8 (by decide) hm (fun _ hm => ?_) (fun _ hm => ?_)
    · refine j_aloadn (pc := 11) C 0 dX12_richest_11 rfl rfl ?_
      refine j_iloadn (pc := 12) C 2 dX12_richest_12 rfl rfl ?_
      obtain ⟨q1, hq1, hm⟩ := Option.bind_eq_some_iff.mp hm
      refine cl_X12_111 (c := 0) (pc := 13) C km_0 (kX12_isTold hq1) (by decide) (Nat.le_of_ble_eq_true rfl) dX12_richest_13 ?_
      refine j_if_eq (tgt := 48) (pc := 16) C dX12_richest_16 (by decide) hm (fun _ hm => ?_) (fun _ hm => ?_)
      · refine j_iinc (v := (x2 + (1 : Int32))) (ls' := [(2, .int (x2 + (1 : Int32))), (0, .ref (vad (gV G) 0)), (1, .int x1)]) (pc := 48) C 2 dX12_richest_48 rfl rfl (by decide) rfl ?_
        refine j_goto (tgt := 5) (pc := 51) C dX12_richest_51 (by decide) ?_
        refine j_ls [1, 2, 0] rfl ?_
        exact ih _ _ hm
      · refine j_iloadn (pc := 19) C 1 dX12_richest_19 rfl rfl ?_
        refine j_bipush (v := -2) (pc := 20) C dX12_richest_20 (by decide) ?_
        refine j_icmp_eq (tgt := 46) (pc := 22) C dX12_richest_22 (by decide) hm (fun _ hm => ?_) (fun _ hm => ?_)
        · refine j_iloadn (pc := 46) C 2 dX12_richest_46 rfl rfl ?_
          refine j_istoren (ls' := [(1, .int x2), (0, .ref (vad (gV G) 0)), (2, .int x2)]) (pc := 47) C dX12_richest_47 rfl (by decide) rfl ?_
          refine j_iinc (v := (x2 + (1 : Int32))) (ls' := [(2, .int (x2 + (1 : Int32))), (1, .int x2), (0, .ref (vad (gV G) 0))]) (pc := 48) C 2 dX12_richest_48 rfl rfl (by decide) rfl ?_
          refine j_goto (tgt := 5) (pc := 51) C dX12_richest_51 (by decide) ?_
          refine j_ls [2, 1, 0] rfl ?_
          exact ih _ _ hm
        · refine j_aloadn (pc := 25) C 0 dX12_richest_25 rfl rfl ?_
          refine gf_X12_7 (c := 0) (pc := 26) C km_0 dX12_richest_26 ?_
          refine j_bipush (v := 16) (pc := 29) C dX12_richest_29 (by decide) ?_
          refine j_iloadn (pc := 31) C 2 dX12_richest_31 rfl rfl ?_
          refine j_iadd (pc := 32) C dX12_richest_32 ?_
          refine j_lti hm (fun y2 hm => ?_)
          refine j_guard hm (fun hg3 hm => ?_)
          refine j_iald (c := 1) (n := 212) (pc := 33) C (kM_lt km_1 (by decide)) (cm_a km_1 lm_1 _) hg3 dX12_richest_33 ?_
          refine j_aloadn (pc := 34) C 0 dX12_richest_34 rfl rfl ?_
          refine gf_X12_7 (c := 0) (pc := 35) C km_0 dX12_richest_35 ?_
          refine j_bipush (v := 16) (pc := 38) C dX12_richest_38 (by decide) ?_
          refine j_iloadn (pc := 40) C 1 dX12_richest_40 rfl rfl ?_
          refine j_iadd (pc := 41) C dX12_richest_41 ?_
          refine j_lti hm (fun y4 hm => ?_)
          refine j_guard hm (fun hg5 hm => ?_)
          refine j_iald (c := 1) (n := 212) (pc := 42) C (kM_lt km_1 (by decide)) (cm_a km_1 lm_1 _) hg5 dX12_richest_42 ?_
          refine j_icmp_le (tgt := 48) (pc := 43) C dX12_richest_43 (by decide) hm (fun _ hm => ?_) (fun _ hm => ?_)
          · refine j_iloadn (pc := 46) C 2 dX12_richest_46 rfl rfl ?_
            refine j_istoren (ls' := [(1, .int x2), (0, .ref (vad (gV G) 0)), (2, .int x2)]) (pc := 47) C dX12_richest_47 rfl (by decide) rfl ?_
            refine j_iinc (v := (x2 + (1 : Int32))) (ls' := [(2, .int (x2 + (1 : Int32))), (1, .int x2), (0, .ref (vad (gV G) 0))]) (pc := 48) C 2 dX12_richest_48 rfl rfl (by decide) rfl ?_
            refine j_goto (tgt := 5) (pc := 51) C dX12_richest_51 (by decide) ?_
            refine j_ls [2, 1, 0] rfl ?_
            exact ih _ _ hm
          · refine j_iinc (v := (x2 + (1 : Int32))) (ls' := [(2, .int (x2 + (1 : Int32))), (0, .ref (vad (gV G) 0)), (1, .int x1)]) (pc := 48) C 2 dX12_richest_48 rfl rfl (by decide) rfl ?_
            refine j_goto (tgt := 5) (pc := 51) C dX12_richest_51 (by decide) ?_
            refine j_ls [1, 2, 0] rfl ?_
            exact ih _ _ hm
    · refine j_iloadn (pc := 54) C 1 dX12_richest_54 rfl rfl ?_
      exact j_iret (pc := 55) C rfl dX12_richest_55 hm

def mX12_richest (F : Nat) (σ : jS) : Option Int32 := (lp_X12_richest_5 F σ F (-2 : Int32) (0 : Int32))
set_option maxHeartbeats 4000000 in
set_option maxRecDepth 100000 in
theorem kX12_richest {V : jV} {F : Nat} {σ : jS} {v : Int32} (hm : mX12_richest F σ = some v) : Ct cfM 33 V yX12_richest cX12_richest 3 (some .int) 2 [.ref (vad V 0)] σ (v, σ) := by
  refine j_start (own := RX12) (by decide) rfl (Nat.le_of_ble_eq_true rfl) ?_
  intro G hV C
  subst hV
  unfold mX12_richest at hm
  show JM G 0 [(0, .ref (vad (gV G) 0))] [] σ (v, σ)
  refine j_bipush (v := -2) (pc := 0) C dX12_richest_0 (by decide) ?_
  refine j_istoren (ls' := [(1, .int (-2 : Int32)), (0, .ref (vad (gV G) 0))]) (pc := 2) C dX12_richest_2 rfl (by decide) rfl ?_
  refine j_iconst (v := 0) (pc := 3) C dX12_richest_3 (by decide) ?_
  refine j_istoren (ls' := [(2, .int (0 : Int32)), (1, .int (-2 : Int32)), (0, .ref (vad (gV G) 0))]) (pc := 4) C dX12_richest_4 rfl (by decide) rfl ?_
  refine j_ls [2, 1, 0] rfl ?_
  exact lp_X12_richest_5_ok C F σ  F _ _ hm

def mX12_count (F : Nat) (x1 : Int32) (σ : jS) : Option Int32 := (if x1 = (0 : Int32) then some (σ 1 210) else (if x1 = (1 : Int32) then (Option.bind (mX12_toldSet F σ) fun q1 => some q1) else (if x1 = (2 : Int32) then (Option.bind (mX12_livingSet F σ) fun q2 => some q2) else (if x1 = (3 : Int32) then some (σ 1 209) else (if x1 = (4 : Int32) then some (σ 1 208) else (if x1 = (5 : Int32) then some (σ 0 15) else (if x1 = (6 : Int32) then some (σ 0 6) else (if x1 = (7 : Int32) then some (σ 1 211) else (if x1 = (8 : Int32) then (Option.bind (mX12_richest F σ) fun q3 => some q3) else some (-1 : Int32))))))))))
set_option maxHeartbeats 4000000 in
set_option maxRecDepth 100000 in
theorem kX12_count {V : jV} {F : Nat} {x1 : Int32} {σ : jS} {v : Int32} (hm : mX12_count F x1 σ = some v) : Ct cfM 33 V yX12_count cX12_count 2 (some .int) 4 [.ref (vad V 0), .int x1] σ (v, σ) := by
  refine j_start (own := RX12) (by decide) rfl (Nat.le_of_ble_eq_true rfl) ?_
  intro G hV C
  subst hV
  unfold mX12_count at hm
  show JM G 0 [(0, .ref (vad (gV G) 0)), (1, .int x1)] [] σ (v, σ)
  refine j_iloadn (pc := 0) C 1 dX12_count_0 rfl rfl ?_
  refine j_sw (b := 0) hm (fun hs hm => ?_) (fun hs0 hm => ?_)
  · refine j_swIn (tgt := 52) (b := 0) (pc := 1) C dX12_count_1 hs (by decide) (by decide) rfl (by decide) ?_
    refine j_aloadn (pc := 52) C 0 dX12_count_52 rfl rfl ?_
    refine gf_X12_7 (c := 0) (pc := 53) C km_0 dX12_count_53 ?_
    refine j_sipush (v := 210) (pc := 56) C dX12_count_56 (by decide) ?_
    refine j_ialdK (c := 1) (n := 212) (k := 210) (pc := 59) C (kM_lt km_1 (by decide)) (cm_a km_1 lm_1 _) rfl (by decide) dX12_count_59 ?_
    exact j_iret (pc := 60) C rfl dX12_count_60 hm
  · refine j_sw (b := 1) hm (fun hs hm => ?_) (fun hs1 hm => ?_)
    · refine j_swIn (tgt := 61) (b := 1) (pc := 1) C dX12_count_1 hs (by decide) (by decide) rfl (by decide) ?_
      refine j_aloadn (pc := 61) C 0 dX12_count_61 rfl rfl ?_
      obtain ⟨q1, hq1, hm⟩ := Option.bind_eq_some_iff.mp hm
      refine cl_X12_354 (c := 0) (pc := 62) C km_0 (kX12_toldSet hq1) (by decide) (Nat.le_of_ble_eq_true rfl) dX12_count_62 ?_
      exact j_iret (pc := 65) C rfl dX12_count_65 hm
    · refine j_sw (b := 2) hm (fun hs hm => ?_) (fun hs2 hm => ?_)
      · refine j_swIn (tgt := 66) (b := 2) (pc := 1) C dX12_count_1 hs (by decide) (by decide) rfl (by decide) ?_
        refine j_aloadn (pc := 66) C 0 dX12_count_66 rfl rfl ?_
        obtain ⟨q2, hq2, hm⟩ := Option.bind_eq_some_iff.mp hm
        refine cl_X12_334 (c := 0) (pc := 67) C km_0 (kX12_livingSet hq2) (by decide) (Nat.le_of_ble_eq_true rfl) dX12_count_67 ?_
        exact j_iret (pc := 70) C rfl dX12_count_70 hm
      · refine j_sw (b := 3) hm (fun hs hm => ?_) (fun hs3 hm => ?_)
        · refine j_swIn (tgt := 71) (b := 3) (pc := 1) C dX12_count_1 hs (by decide) (by decide) rfl (by decide) ?_
          refine j_aloadn (pc := 71) C 0 dX12_count_71 rfl rfl ?_
          refine gf_X12_7 (c := 0) (pc := 72) C km_0 dX12_count_72 ?_
          refine j_sipush (v := 209) (pc := 75) C dX12_count_75 (by decide) ?_
          refine j_ialdK (c := 1) (n := 212) (k := 209) (pc := 78) C (kM_lt km_1 (by decide)) (cm_a km_1 lm_1 _) rfl (by decide) dX12_count_78 ?_
          exact j_iret (pc := 79) C rfl dX12_count_79 hm
        · refine j_sw (b := 4) hm (fun hs hm => ?_) (fun hs4 hm => ?_)
          · refine j_swIn (tgt := 80) (b := 4) (pc := 1) C dX12_count_1 hs (by decide) (by decide) rfl (by decide) ?_
            refine j_aloadn (pc := 80) C 0 dX12_count_80 rfl rfl ?_
            refine gf_X12_7 (c := 0) (pc := 81) C km_0 dX12_count_81 ?_
            refine j_sipush (v := 208) (pc := 84) C dX12_count_84 (by decide) ?_
            refine j_ialdK (c := 1) (n := 212) (k := 208) (pc := 87) C (kM_lt km_1 (by decide)) (cm_a km_1 lm_1 _) rfl (by decide) dX12_count_87 ?_
            exact j_iret (pc := 88) C rfl dX12_count_88 hm
          · refine j_sw (b := 5) hm (fun hs hm => ?_) (fun hs5 hm => ?_)
            · refine j_swIn (tgt := 89) (b := 5) (pc := 1) C dX12_count_1 hs (by decide) (by decide) rfl (by decide) ?_
              refine j_aloadn (pc := 89) C 0 dX12_count_89 rfl rfl ?_
              refine gf_X12_222 (c := 0) (pc := 90) C km_0 dX12_count_90 ?_
              exact j_iret (pc := 93) C rfl dX12_count_93 hm
            · refine j_sw (b := 6) hm (fun hs hm => ?_) (fun hs6 hm => ?_)
              · refine j_swIn (tgt := 94) (b := 6) (pc := 1) C dX12_count_1 hs (by decide) (by decide) rfl (by decide) ?_
                refine j_aloadn (pc := 94) C 0 dX12_count_94 rfl rfl ?_
                refine gf_X12_120 (c := 0) (pc := 95) C km_0 dX12_count_95 ?_
                exact j_iret (pc := 98) C rfl dX12_count_98 hm
              · refine j_sw (b := 7) hm (fun hs hm => ?_) (fun hs7 hm => ?_)
                · refine j_swIn (tgt := 99) (b := 7) (pc := 1) C dX12_count_1 hs (by decide) (by decide) rfl (by decide) ?_
                  refine j_aloadn (pc := 99) C 0 dX12_count_99 rfl rfl ?_
                  refine gf_X12_7 (c := 0) (pc := 100) C km_0 dX12_count_100 ?_
                  refine j_sipush (v := 211) (pc := 103) C dX12_count_103 (by decide) ?_
                  refine j_ialdK (c := 1) (n := 212) (k := 211) (pc := 106) C (kM_lt km_1 (by decide)) (cm_a km_1 lm_1 _) rfl (by decide) dX12_count_106 ?_
                  exact j_iret (pc := 107) C rfl dX12_count_107 hm
                · refine j_sw (b := 8) hm (fun hs hm => ?_) (fun hs8 hm => ?_)
                  · refine j_swIn (tgt := 108) (b := 8) (pc := 1) C dX12_count_1 hs (by decide) (by decide) rfl (by decide) ?_
                    refine j_aloadn (pc := 108) C 0 dX12_count_108 rfl rfl ?_
                    obtain ⟨q3, hq3, hm⟩ := Option.bind_eq_some_iff.mp hm
                    refine cl_X12_420 (c := 0) (pc := 109) C km_0 (kX12_richest hq3) (by decide) (Nat.le_of_ble_eq_true rfl) dX12_count_109 ?_
                    exact j_iret (pc := 112) C rfl dX12_count_112 hm
                  · refine j_swOut (tgt := 113) (pc := 1) C dX12_count_1 (by have hx := jsw_out (lo := 0) (n := 9) (by decide) (by decide) (fun i hi => by rcases i with _ | _ | _ | _ | _ | _ | _ | _ | _ | i <;> first | assumption | (exact absurd hi (by omega))); exact hx) (by decide) ?_
                    refine j_iconst (v := -1) (pc := 113) C dX12_count_113 (by decide) ?_
                    exact j_iret (pc := 114) C rfl dX12_count_114 hm

