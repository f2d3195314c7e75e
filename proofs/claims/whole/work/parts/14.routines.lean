theorem dX8_hoursOf_0 : decode cX8_hoursOf 0 = .ok (.iload_n 1, 1) := by decide +kernel
theorem dX8_hoursOf_1 : decode cX8_hoursOf 1 = .ok (.ifCond .lt 18, 3) := by decide +kernel
theorem dX8_hoursOf_4 : decode cX8_hoursOf 4 = .ok (.iload_n 1, 1) := by decide +kernel
theorem dX8_hoursOf_5 : decode cX8_hoursOf 5 = .ok (.bipush 16, 2) := by decide +kernel
theorem dX8_hoursOf_7 : decode cX8_hoursOf 7 = .ok (.if_icmp .ge 12, 3) := by decide +kernel
theorem dX8_hoursOf_10 : decode cX8_hoursOf 10 = .ok (.aload_n 0, 1) := by decide +kernel
theorem dX8_hoursOf_11 : decode cX8_hoursOf 11 = .ok (.getfield 15, 3) := by decide +kernel
theorem dX8_hoursOf_14 : decode cX8_hoursOf 14 = .ok (.iload_n 1, 1) := by decide +kernel
theorem dX8_hoursOf_15 : decode cX8_hoursOf 15 = .ok (.iaload, 1) := by decide +kernel
theorem dX8_hoursOf_16 : decode cX8_hoursOf 16 = .ok (.goto 4, 3) := by decide +kernel
theorem dX8_hoursOf_19 : decode cX8_hoursOf 19 = .ok (.iconst 0, 1) := by decide +kernel
theorem dX8_hoursOf_20 : decode cX8_hoursOf 20 = .ok (.ireturn, 1) := by decide +kernel
theorem dX8_doing_0 : decode cX8_doing 0 = .ok (.iload_n 1, 1) := by decide +kernel
theorem dX8_doing_1 : decode cX8_doing 1 = .ok (.ifCond .lt 23, 3) := by decide +kernel
theorem dX8_doing_4 : decode cX8_doing 4 = .ok (.iload_n 1, 1) := by decide +kernel
theorem dX8_doing_5 : decode cX8_doing 5 = .ok (.bipush 16, 2) := by decide +kernel
theorem dX8_doing_7 : decode cX8_doing 7 = .ok (.if_icmp .ge 17, 3) := by decide +kernel
theorem dX8_doing_10 : decode cX8_doing 10 = .ok (.iload_n 2, 1) := by decide +kernel
theorem dX8_doing_11 : decode cX8_doing 11 = .ok (.ifCond .lt 13, 3) := by decide +kernel
theorem dX8_doing_14 : decode cX8_doing 14 = .ok (.iload_n 2, 1) := by decide +kernel
theorem dX8_doing_15 : decode cX8_doing 15 = .ok (.bipush 24, 2) := by decide +kernel
theorem dX8_doing_17 : decode cX8_doing 17 = .ok (.if_icmp .ge 7, 3) := by decide +kernel
theorem dX8_doing_20 : decode cX8_doing 20 = .ok (.iconst 1, 1) := by decide +kernel
theorem dX8_doing_21 : decode cX8_doing 21 = .ok (.goto 4, 3) := by decide +kernel
theorem dX8_doing_24 : decode cX8_doing 24 = .ok (.iconst 0, 1) := by decide +kernel
theorem dX8_doing_25 : decode cX8_doing 25 = .ok (.istore_n 3, 1) := by decide +kernel
theorem dX8_doing_26 : decode cX8_doing 26 = .ok (.iload_n 3, 1) := by decide +kernel
theorem dX8_doing_27 : decode cX8_doing 27 = .ok (.ifCond .eq 17, 3) := by decide +kernel
theorem dX8_doing_30 : decode cX8_doing 30 = .ok (.aload_n 0, 1) := by decide +kernel
theorem dX8_doing_31 : decode cX8_doing 31 = .ok (.getfield 9, 3) := by decide +kernel
theorem dX8_doing_34 : decode cX8_doing 34 = .ok (.iload_n 1, 1) := by decide +kernel
theorem dX8_doing_35 : decode cX8_doing 35 = .ok (.bipush 24, 2) := by decide +kernel
theorem dX8_doing_37 : decode cX8_doing 37 = .ok (.imul, 1) := by decide +kernel
theorem dX8_doing_38 : decode cX8_doing 38 = .ok (.iload_n 2, 1) := by decide +kernel
theorem dX8_doing_39 : decode cX8_doing 39 = .ok (.iadd, 1) := by decide +kernel
theorem dX8_doing_40 : decode cX8_doing 40 = .ok (.iaload, 1) := by decide +kernel
theorem dX8_doing_41 : decode cX8_doing 41 = .ok (.goto 4, 3) := by decide +kernel
theorem dX8_doing_44 : decode cX8_doing 44 = .ok (.iconst 0, 1) := by decide +kernel
theorem dX8_doing_45 : decode cX8_doing 45 = .ok (.ireturn, 1) := by decide +kernel
theorem dX8_othersWith_0 : decode cX8_othersWith 0 = .ok (.iload_n 1, 1) := by decide +kernel
theorem dX8_othersWith_1 : decode cX8_othersWith 1 = .ok (.ifCond .lt 19, 3) := by decide +kernel
theorem dX8_othersWith_4 : decode cX8_othersWith 4 = .ok (.iload_n 1, 1) := by decide +kernel
theorem dX8_othersWith_5 : decode cX8_othersWith 5 = .ok (.bipush 16, 2) := by decide +kernel
theorem dX8_othersWith_7 : decode cX8_othersWith 7 = .ok (.if_icmp .ge 13, 3) := by decide +kernel
theorem dX8_othersWith_10 : decode cX8_othersWith 10 = .ok (.iload_n 3, 1) := by decide +kernel
theorem dX8_othersWith_11 : decode cX8_othersWith 11 = .ok (.ifCond .lt 9, 3) := by decide +kernel
theorem dX8_othersWith_14 : decode cX8_othersWith 14 = .ok (.iload_n 3, 1) := by decide +kernel
theorem dX8_othersWith_15 : decode cX8_othersWith 15 = .ok (.bipush 24, 2) := by decide +kernel
theorem dX8_othersWith_17 : decode cX8_othersWith 17 = .ok (.if_icmp .lt 5, 3) := by decide +kernel
theorem dX8_othersWith_20 : decode cX8_othersWith 20 = .ok (.iconst 0, 1) := by decide +kernel
theorem dX8_othersWith_21 : decode cX8_othersWith 21 = .ok (.ireturn, 1) := by decide +kernel
theorem dX8_othersWith_22 : decode cX8_othersWith 22 = .ok (.iconst 0, 1) := by decide +kernel
theorem dX8_othersWith_23 : decode cX8_othersWith 23 = .ok (.istore 4, 2) := by decide +kernel
theorem dX8_othersWith_25 : decode cX8_othersWith 25 = .ok (.aload_n 0, 1) := by decide +kernel
theorem dX8_othersWith_26 : decode cX8_othersWith 26 = .ok (.getfield 9, 3) := by decide +kernel
theorem dX8_othersWith_29 : decode cX8_othersWith 29 = .ok (.iload_n 1, 1) := by decide +kernel
theorem dX8_othersWith_30 : decode cX8_othersWith 30 = .ok (.bipush 24, 2) := by decide +kernel
theorem dX8_othersWith_32 : decode cX8_othersWith 32 = .ok (.imul, 1) := by decide +kernel
theorem dX8_othersWith_33 : decode cX8_othersWith 33 = .ok (.iload_n 3, 1) := by decide +kernel
theorem dX8_othersWith_34 : decode cX8_othersWith 34 = .ok (.iadd, 1) := by decide +kernel
theorem dX8_othersWith_35 : decode cX8_othersWith 35 = .ok (.iaload, 1) := by decide +kernel
theorem dX8_othersWith_36 : decode cX8_othersWith 36 = .ok (.istore 5, 2) := by decide +kernel
theorem dX8_othersWith_38 : decode cX8_othersWith 38 = .ok (.iconst 0, 1) := by decide +kernel
theorem dX8_othersWith_39 : decode cX8_othersWith 39 = .ok (.istore 6, 2) := by decide +kernel
theorem dX8_othersWith_41 : decode cX8_othersWith 41 = .ok (.iload 6, 2) := by decide +kernel
theorem dX8_othersWith_43 : decode cX8_othersWith 43 = .ok (.bipush 16, 2) := by decide +kernel
theorem dX8_othersWith_45 : decode cX8_othersWith 45 = .ok (.if_icmp .ge 44, 3) := by decide +kernel
theorem dX8_othersWith_48 : decode cX8_othersWith 48 = .ok (.iload 6, 2) := by decide +kernel
theorem dX8_othersWith_50 : decode cX8_othersWith 50 = .ok (.iload_n 1, 1) := by decide +kernel
theorem dX8_othersWith_51 : decode cX8_othersWith 51 = .ok (.if_icmp .eq 32, 3) := by decide +kernel
theorem dX8_othersWith_54 : decode cX8_othersWith 54 = .ok (.iload_n 2, 1) := by decide +kernel
theorem dX8_othersWith_55 : decode cX8_othersWith 55 = .ok (.iload 6, 2) := by decide +kernel
theorem dX8_othersWith_57 : decode cX8_othersWith 57 = .ok (.ishr, 1) := by decide +kernel
theorem dX8_othersWith_58 : decode cX8_othersWith 58 = .ok (.iconst 1, 1) := by decide +kernel
theorem dX8_othersWith_59 : decode cX8_othersWith 59 = .ok (.iand, 1) := by decide +kernel
theorem dX8_othersWith_60 : decode cX8_othersWith 60 = .ok (.ifCond .eq 23, 3) := by decide +kernel
theorem dX8_othersWith_63 : decode cX8_othersWith 63 = .ok (.aload_n 0, 1) := by decide +kernel
theorem dX8_othersWith_64 : decode cX8_othersWith 64 = .ok (.getfield 9, 3) := by decide +kernel
theorem dX8_othersWith_67 : decode cX8_othersWith 67 = .ok (.iload 6, 2) := by decide +kernel
theorem dX8_othersWith_69 : decode cX8_othersWith 69 = .ok (.bipush 24, 2) := by decide +kernel
theorem dX8_othersWith_71 : decode cX8_othersWith 71 = .ok (.imul, 1) := by decide +kernel
theorem dX8_othersWith_72 : decode cX8_othersWith 72 = .ok (.iload_n 3, 1) := by decide +kernel
theorem dX8_othersWith_73 : decode cX8_othersWith 73 = .ok (.iadd, 1) := by decide +kernel
theorem dX8_othersWith_74 : decode cX8_othersWith 74 = .ok (.iaload, 1) := by decide +kernel
theorem dX8_othersWith_75 : decode cX8_othersWith 75 = .ok (.iload 5, 2) := by decide +kernel
theorem dX8_othersWith_77 : decode cX8_othersWith 77 = .ok (.if_icmp .ne 6, 3) := by decide +kernel
theorem dX8_othersWith_80 : decode cX8_othersWith 80 = .ok (.iinc 4 1, 3) := by decide +kernel
theorem dX8_othersWith_83 : decode cX8_othersWith 83 = .ok (.iinc 6 1, 3) := by decide +kernel
theorem dX8_othersWith_86 : decode cX8_othersWith 86 = .ok (.goto (-45), 3) := by decide +kernel
theorem dX8_othersWith_89 : decode cX8_othersWith 89 = .ok (.iload 4, 2) := by decide +kernel
theorem dX8_othersWith_91 : decode cX8_othersWith 91 = .ok (.ireturn, 1) := by decide +kernel
theorem dX8_joined_0 : decode cX8_joined 0 = .ok (.iconst 0, 1) := by decide +kernel
theorem dX8_joined_1 : decode cX8_joined 1 = .ok (.istore 4, 2) := by decide +kernel
theorem dX8_joined_3 : decode cX8_joined 3 = .ok (.iconst 0, 1) := by decide +kernel
theorem dX8_joined_4 : decode cX8_joined 4 = .ok (.istore 5, 2) := by decide +kernel
theorem dX8_joined_6 : decode cX8_joined 6 = .ok (.iload 5, 2) := by decide +kernel
theorem dX8_joined_8 : decode cX8_joined 8 = .ok (.bipush 16, 2) := by decide +kernel
theorem dX8_joined_10 : decode cX8_joined 10 = .ok (.if_icmp .ge 32, 3) := by decide +kernel
theorem dX8_joined_13 : decode cX8_joined 13 = .ok (.iload_n 1, 1) := by decide +kernel
theorem dX8_joined_14 : decode cX8_joined 14 = .ok (.iload 5, 2) := by decide +kernel
theorem dX8_joined_16 : decode cX8_joined 16 = .ok (.ishr, 1) := by decide +kernel
theorem dX8_joined_17 : decode cX8_joined 17 = .ok (.iconst 1, 1) := by decide +kernel
theorem dX8_joined_18 : decode cX8_joined 18 = .ok (.iand, 1) := by decide +kernel
theorem dX8_joined_19 : decode cX8_joined 19 = .ok (.ifCond .eq 17, 3) := by decide +kernel
theorem dX8_joined_22 : decode cX8_joined 22 = .ok (.iload 4, 2) := by decide +kernel
theorem dX8_joined_24 : decode cX8_joined 24 = .ok (.iconst 1, 1) := by decide +kernel
theorem dX8_joined_25 : decode cX8_joined 25 = .ok (.aload_n 0, 1) := by decide +kernel
theorem dX8_joined_26 : decode cX8_joined 26 = .ok (.iload 5, 2) := by decide +kernel
theorem dX8_joined_28 : decode cX8_joined 28 = .ok (.iload_n 3, 1) := by decide +kernel
theorem dX8_joined_29 : decode cX8_joined 29 = .ok (.invokevirtual 29, 3) := by decide +kernel
theorem dX8_joined_32 : decode cX8_joined 32 = .ok (.ishl, 1) := by decide +kernel
theorem dX8_joined_33 : decode cX8_joined 33 = .ok (.ior, 1) := by decide +kernel
theorem dX8_joined_34 : decode cX8_joined 34 = .ok (.istore 4, 2) := by decide +kernel
theorem dX8_joined_36 : decode cX8_joined 36 = .ok (.iinc 5 1, 3) := by decide +kernel
theorem dX8_joined_39 : decode cX8_joined 39 = .ok (.goto (-33), 3) := by decide +kernel
theorem dX8_joined_42 : decode cX8_joined 42 = .ok (.iload_n 1, 1) := by decide +kernel
theorem dX8_joined_43 : decode cX8_joined 43 = .ok (.istore 5, 2) := by decide +kernel
theorem dX8_joined_45 : decode cX8_joined 45 = .ok (.iconst 0, 1) := by decide +kernel
theorem dX8_joined_46 : decode cX8_joined 46 = .ok (.istore 6, 2) := by decide +kernel
theorem dX8_joined_48 : decode cX8_joined 48 = .ok (.iload 6, 2) := by decide +kernel
theorem dX8_joined_50 : decode cX8_joined 50 = .ok (.bipush 16, 2) := by decide +kernel
theorem dX8_joined_52 : decode cX8_joined 52 = .ok (.if_icmp .ge 42, 3) := by decide +kernel
theorem dX8_joined_55 : decode cX8_joined 55 = .ok (.iload_n 2, 1) := by decide +kernel
theorem dX8_joined_56 : decode cX8_joined 56 = .ok (.iload 6, 2) := by decide +kernel
theorem dX8_joined_58 : decode cX8_joined 58 = .ok (.ishr, 1) := by decide +kernel
theorem dX8_joined_59 : decode cX8_joined 59 = .ok (.iconst 1, 1) := by decide +kernel
theorem dX8_joined_60 : decode cX8_joined 60 = .ok (.iand, 1) := by decide +kernel
theorem dX8_joined_61 : decode cX8_joined 61 = .ok (.ifCond .eq 27, 3) := by decide +kernel
theorem dX8_joined_64 : decode cX8_joined 64 = .ok (.iload 4, 2) := by decide +kernel
theorem dX8_joined_66 : decode cX8_joined 66 = .ok (.aload_n 0, 1) := by decide +kernel
theorem dX8_joined_67 : decode cX8_joined 67 = .ok (.iload 6, 2) := by decide +kernel
theorem dX8_joined_69 : decode cX8_joined 69 = .ok (.iload_n 3, 1) := by decide +kernel
theorem dX8_joined_70 : decode cX8_joined 70 = .ok (.invokevirtual 29, 3) := by decide +kernel
theorem dX8_joined_73 : decode cX8_joined 73 = .ok (.ishr, 1) := by decide +kernel
theorem dX8_joined_74 : decode cX8_joined 74 = .ok (.iconst 1, 1) := by decide +kernel
theorem dX8_joined_75 : decode cX8_joined 75 = .ok (.iand, 1) := by decide +kernel
theorem dX8_joined_76 : decode cX8_joined 76 = .ok (.ifCond .eq 12, 3) := by decide +kernel
theorem dX8_joined_79 : decode cX8_joined 79 = .ok (.iload 5, 2) := by decide +kernel
theorem dX8_joined_81 : decode cX8_joined 81 = .ok (.iconst 1, 1) := by decide +kernel
theorem dX8_joined_82 : decode cX8_joined 82 = .ok (.iload 6, 2) := by decide +kernel
theorem dX8_joined_84 : decode cX8_joined 84 = .ok (.ishl, 1) := by decide +kernel
theorem dX8_joined_85 : decode cX8_joined 85 = .ok (.ior, 1) := by decide +kernel
theorem dX8_joined_86 : decode cX8_joined 86 = .ok (.istore 5, 2) := by decide +kernel
theorem dX8_joined_88 : decode cX8_joined 88 = .ok (.iinc 6 1, 3) := by decide +kernel
theorem dX8_joined_91 : decode cX8_joined 91 = .ok (.goto (-43), 3) := by decide +kernel
theorem dX8_joined_94 : decode cX8_joined 94 = .ok (.iload 5, 2) := by decide +kernel
theorem dX8_joined_96 : decode cX8_joined 96 = .ok (.ireturn, 1) := by decide +kernel
theorem dX8_sameHours_0 : decode cX8_sameHours 0 = .ok (.iconst 0, 1) := by decide +kernel
theorem dX8_sameHours_1 : decode cX8_sameHours 1 = .ok (.istore 4, 2) := by decide +kernel
theorem dX8_sameHours_3 : decode cX8_sameHours 3 = .ok (.iconst 0, 1) := by decide +kernel
theorem dX8_sameHours_4 : decode cX8_sameHours 4 = .ok (.istore 5, 2) := by decide +kernel
theorem dX8_sameHours_6 : decode cX8_sameHours 6 = .ok (.iload 5, 2) := by decide +kernel
theorem dX8_sameHours_8 : decode cX8_sameHours 8 = .ok (.bipush 24, 2) := by decide +kernel
theorem dX8_sameHours_10 : decode cX8_sameHours 10 = .ok (.if_icmp .ge 37, 3) := by decide +kernel
theorem dX8_sameHours_13 : decode cX8_sameHours 13 = .ok (.aload_n 0, 1) := by decide +kernel
theorem dX8_sameHours_14 : decode cX8_sameHours 14 = .ok (.iload_n 1, 1) := by decide +kernel
theorem dX8_sameHours_15 : decode cX8_sameHours 15 = .ok (.iload 5, 2) := by decide +kernel
theorem dX8_sameHours_17 : decode cX8_sameHours 17 = .ok (.invokevirtual 29, 3) := by decide +kernel
theorem dX8_sameHours_20 : decode cX8_sameHours 20 = .ok (.aload_n 0, 1) := by decide +kernel
theorem dX8_sameHours_21 : decode cX8_sameHours 21 = .ok (.iload_n 2, 1) := by decide +kernel
theorem dX8_sameHours_22 : decode cX8_sameHours 22 = .ok (.iload 5, 2) := by decide +kernel
theorem dX8_sameHours_24 : decode cX8_sameHours 24 = .ok (.bipush 24, 2) := by decide +kernel
theorem dX8_sameHours_26 : decode cX8_sameHours 26 = .ok (.iadd, 1) := by decide +kernel
theorem dX8_sameHours_27 : decode cX8_sameHours 27 = .ok (.iload_n 3, 1) := by decide +kernel
theorem dX8_sameHours_28 : decode cX8_sameHours 28 = .ok (.isub, 1) := by decide +kernel
theorem dX8_sameHours_29 : decode cX8_sameHours 29 = .ok (.bipush 24, 2) := by decide +kernel
theorem dX8_sameHours_31 : decode cX8_sameHours 31 = .ok (.irem, 1) := by decide +kernel
theorem dX8_sameHours_32 : decode cX8_sameHours 32 = .ok (.invokevirtual 29, 3) := by decide +kernel
theorem dX8_sameHours_35 : decode cX8_sameHours 35 = .ok (.if_icmp .ne 6, 3) := by decide +kernel
theorem dX8_sameHours_38 : decode cX8_sameHours 38 = .ok (.iinc 4 1, 3) := by decide +kernel
theorem dX8_sameHours_41 : decode cX8_sameHours 41 = .ok (.iinc 5 1, 3) := by decide +kernel
theorem dX8_sameHours_44 : decode cX8_sameHours 44 = .ok (.goto (-38), 3) := by decide +kernel
theorem dX8_sameHours_47 : decode cX8_sameHours 47 = .ok (.iload 4, 2) := by decide +kernel
theorem dX8_sameHours_49 : decode cX8_sameHours 49 = .ok (.ireturn, 1) := by decide +kernel
theorem dX8_isMore_0 : decode cX8_isMore 0 = .ok (.iload_n 1, 1) := by decide +kernel
theorem dX8_isMore_1 : decode cX8_isMore 1 = .ok (.ifCond .ne 11, 3) := by decide +kernel
theorem dX8_isMore_4 : decode cX8_isMore 4 = .ok (.aload_n 0, 1) := by decide +kernel
theorem dX8_isMore_5 : decode cX8_isMore 5 = .ok (.getfield 25, 3) := by decide +kernel
theorem dX8_isMore_8 : decode cX8_isMore 8 = .ok (.invokevirtual 49, 3) := by decide +kernel
theorem dX8_isMore_11 : decode cX8_isMore 11 = .ok (.ireturn, 1) := by decide +kernel
theorem dX8_isMore_12 : decode cX8_isMore 12 = .ok (.aload_n 0, 1) := by decide +kernel
theorem dX8_isMore_13 : decode cX8_isMore 13 = .ok (.getfield 25, 3) := by decide +kernel
theorem dX8_isMore_16 : decode cX8_isMore 16 = .ok (.getfield 37, 3) := by decide +kernel
theorem dX8_isMore_19 : decode cX8_isMore 19 = .ok (.ifCond .ne 19, 3) := by decide +kernel
theorem dX8_isMore_22 : decode cX8_isMore 22 = .ok (.aload_n 0, 1) := by decide +kernel
theorem dX8_isMore_23 : decode cX8_isMore 23 = .ok (.getfield 25, 3) := by decide +kernel
theorem dX8_isMore_26 : decode cX8_isMore 26 = .ok (.getfield 53, 3) := by decide +kernel
theorem dX8_isMore_29 : decode cX8_isMore 29 = .ok (.bipush 41, 2) := by decide +kernel
theorem dX8_isMore_31 : decode cX8_isMore 31 = .ok (.if_icmp .eq 7, 3) := by decide +kernel
theorem dX8_isMore_34 : decode cX8_isMore 34 = .ok (.iconst 1, 1) := by decide +kernel
theorem dX8_isMore_35 : decode cX8_isMore 35 = .ok (.goto 4, 3) := by decide +kernel
theorem dX8_isMore_38 : decode cX8_isMore 38 = .ok (.iconst 0, 1) := by decide +kernel
theorem dX8_isMore_39 : decode cX8_isMore 39 = .ok (.ireturn, 1) := by decide +kernel
theorem dX8_put_0 : decode cX8_put 0 = .ok (.aload_n 0, 1) := by decide +kernel
theorem dX8_put_1 : decode cX8_put 1 = .ok (.getfield 21, 3) := by decide +kernel
theorem dX8_put_4 : decode cX8_put 4 = .ok (.ifCond .lt 22, 3) := by decide +kernel
theorem dX8_put_7 : decode cX8_put 7 = .ok (.aload_n 0, 1) := by decide +kernel
theorem dX8_put_8 : decode cX8_put 8 = .ok (.getfield 21, 3) := by decide +kernel
theorem dX8_put_11 : decode cX8_put 11 = .ok (.bipush 24, 2) := by decide +kernel
theorem dX8_put_13 : decode cX8_put 13 = .ok (.if_icmp .ge 13, 3) := by decide +kernel
theorem dX8_put_16 : decode cX8_put 16 = .ok (.aload_n 0, 1) := by decide +kernel
theorem dX8_put_17 : decode cX8_put 17 = .ok (.getfield 18, 3) := by decide +kernel
theorem dX8_put_20 : decode cX8_put 20 = .ok (.aload_n 0, 1) := by decide +kernel
theorem dX8_put_21 : decode cX8_put 21 = .ok (.getfield 21, 3) := by decide +kernel
theorem dX8_put_24 : decode cX8_put 24 = .ok (.iload_n 1, 1) := by decide +kernel
theorem dX8_put_25 : decode cX8_put 25 = .ok (.iastore, 1) := by decide +kernel
theorem dX8_put_26 : decode cX8_put 26 = .ok (.aload_n 0, 1) := by decide +kernel
theorem dX8_put_27 : decode cX8_put 27 = .ok (.dup, 1) := by decide +kernel
theorem dX8_put_28 : decode cX8_put 28 = .ok (.getfield 21, 3) := by decide +kernel
theorem dX8_put_31 : decode cX8_put 31 = .ok (.iconst 1, 1) := by decide +kernel
theorem dX8_put_32 : decode cX8_put 32 = .ok (.iadd, 1) := by decide +kernel
theorem dX8_put_33 : decode cX8_put 33 = .ok (.putfield 21, 3) := by decide +kernel
theorem dX8_put_36 : decode cX8_put 36 = .ok (.return_, 1) := by decide +kernel
theorem dX8_repeat_0 : decode cX8_repeat 0 = .ok (.aload_n 0, 1) := by decide +kernel
theorem dX8_repeat_1 : decode cX8_repeat 1 = .ok (.getfield 21, 3) := by decide +kernel
theorem dX8_repeat_4 : decode cX8_repeat 4 = .ok (.istore_n 3, 1) := by decide +kernel
theorem dX8_repeat_5 : decode cX8_repeat 5 = .ok (.iconst 1, 1) := by decide +kernel
theorem dX8_repeat_6 : decode cX8_repeat 6 = .ok (.istore 4, 2) := by decide +kernel
theorem dX8_repeat_8 : decode cX8_repeat 8 = .ok (.iload 4, 2) := by decide +kernel
theorem dX8_repeat_10 : decode cX8_repeat 10 = .ok (.iload_n 2, 1) := by decide +kernel
theorem dX8_repeat_11 : decode cX8_repeat 11 = .ok (.if_icmp .ge 51, 3) := by decide +kernel
theorem dX8_repeat_14 : decode cX8_repeat 14 = .ok (.iload_n 1, 1) := by decide +kernel
theorem dX8_repeat_15 : decode cX8_repeat 15 = .ok (.istore 5, 2) := by decide +kernel
theorem dX8_repeat_17 : decode cX8_repeat 17 = .ok (.iload 5, 2) := by decide +kernel
theorem dX8_repeat_19 : decode cX8_repeat 19 = .ok (.iload_n 3, 1) := by decide +kernel
theorem dX8_repeat_20 : decode cX8_repeat 20 = .ok (.if_icmp .ge 36, 3) := by decide +kernel
theorem dX8_repeat_23 : decode cX8_repeat 23 = .ok (.aload_n 0, 1) := by decide +kernel
theorem dX8_repeat_24 : decode cX8_repeat 24 = .ok (.iload 5, 2) := by decide +kernel
theorem dX8_repeat_26 : decode cX8_repeat 26 = .ok (.ifCond .lt 20, 3) := by decide +kernel
theorem dX8_repeat_29 : decode cX8_repeat 29 = .ok (.iload 5, 2) := by decide +kernel
theorem dX8_repeat_31 : decode cX8_repeat 31 = .ok (.bipush 24, 2) := by decide +kernel
theorem dX8_repeat_33 : decode cX8_repeat 33 = .ok (.if_icmp .ge 13, 3) := by decide +kernel
theorem dX8_repeat_36 : decode cX8_repeat 36 = .ok (.aload_n 0, 1) := by decide +kernel
theorem dX8_repeat_37 : decode cX8_repeat 37 = .ok (.getfield 18, 3) := by decide +kernel
theorem dX8_repeat_40 : decode cX8_repeat 40 = .ok (.iload 5, 2) := by decide +kernel
theorem dX8_repeat_42 : decode cX8_repeat 42 = .ok (.iaload, 1) := by decide +kernel
theorem dX8_repeat_43 : decode cX8_repeat 43 = .ok (.goto 4, 3) := by decide +kernel
theorem dX8_repeat_46 : decode cX8_repeat 46 = .ok (.iconst 0, 1) := by decide +kernel
theorem dX8_repeat_47 : decode cX8_repeat 47 = .ok (.invokevirtual 89, 3) := by decide +kernel
theorem dX8_repeat_50 : decode cX8_repeat 50 = .ok (.iinc 5 1, 3) := by decide +kernel
theorem dX8_repeat_53 : decode cX8_repeat 53 = .ok (.goto (-36), 3) := by decide +kernel
theorem dX8_repeat_56 : decode cX8_repeat 56 = .ok (.iinc 4 1, 3) := by decide +kernel
theorem dX8_repeat_59 : decode cX8_repeat 59 = .ok (.goto (-51), 3) := by decide +kernel
theorem dX8_repeat_62 : decode cX8_repeat 62 = .ok (.return_, 1) := by decide +kernel
def mX8_hoursOf (F : Nat) (x1 : Int32) (σ : jS) : Option Int32 := (if x1 < 0 then some (0 : Int32) else (if x1 < (16 : Int32) then (if jin x1 16 = true then some (σ 35 x1.toNatClampNeg) else none) else some (0 : Int32)))
set_option maxHeartbeats 4000000 in
set_option maxRecDepth 100000 in
theorem kX8_hoursOf {V : jV} {F : Nat} {x1 : Int32} {σ : jS} {v : Int32} (hm : mX8_hoursOf F x1 σ = some v) : Ct cfX 70 V yX8_hoursOf cX8_hoursOf 2 (some .int) 0 [.ref (vad V 33), .int x1] σ (v, σ) := by
  refine j_start (own := RX8) (by decide) rfl (Nat.le_of_ble_eq_true rfl) ?_
  intro G hV C
  subst hV
  unfold mX8_hoursOf at hm
  show JX G 0 [(0, .ref (vad (gV G) 33)), (1, .int x1)] [] σ (v, σ)
  refine j_iloadn (pc := 0) C 1 dX8_hoursOf_0 rfl rfl ?_
  refine j_if_lt (tgt := 19) (pc := 1) C dX8_hoursOf_1 (by decide) hm (fun _ hm => ?_) (fun _ hm => ?_)
  · refine j_iconst (v := 0) (pc := 19) C dX8_hoursOf_19 (by decide) ?_
    exact j_iret (pc := 20) C rfl dX8_hoursOf_20 hm
  · refine j_iloadn (pc := 4) C 1 dX8_hoursOf_4 rfl rfl ?_
    refine j_bipush (v := 16) (pc := 5) C dX8_hoursOf_5 (by decide) ?_
    refine j_icmp_ge (tgt := 19) (pc := 7) C dX8_hoursOf_7 (by decide) hm (fun _ hm => ?_) (fun _ hm => ?_)
    · refine j_aloadn (pc := 10) C 0 dX8_hoursOf_10 rfl rfl ?_
      refine gf_X8_15 (c := 33) (pc := 11) C kx_33 dX8_hoursOf_11 ?_
      refine j_iloadn (pc := 14) C 1 dX8_hoursOf_14 rfl rfl ?_
      refine j_guard hm (fun hg1 hm => ?_)
      refine j_iald (c := 35) (n := 16) (pc := 15) C (kX_lt kx_35 (by decide)) (cx_a kx_35 lx_35 _) hg1 dX8_hoursOf_15 ?_
      refine j_goto (tgt := 20) (pc := 16) C dX8_hoursOf_16 (by decide) ?_
      exact j_iret (pc := 20) C rfl dX8_hoursOf_20 hm
    · refine j_iconst (v := 0) (pc := 19) C dX8_hoursOf_19 (by decide) ?_
      exact j_iret (pc := 20) C rfl dX8_hoursOf_20 hm

def jn_X8_doing_25 (F : Nat) (σ : jS) (x1 : Int32) (x2 : Int32) (s0 : Int32) : Option Int32 := (if s0 = 0 then some (0 : Int32) else (lt ((x1 * (24 : Int32)) + x2) fun y1 => (if jin y1 384 = true then some (σ 34 y1.toNatClampNeg) else none)))
set_option maxHeartbeats 4000000 in
set_option maxRecDepth 100000 in
theorem jn_X8_doing_25_ok {G : jG} (C : jc cfX 70 G cX8_doing RX8 4 (some .int) 0) (F : Nat) (σ : jS) {v : Int32} : ∀ (x1 : Int32) (x2 : Int32) (s0 : Int32), jn_X8_doing_25 F σ x1 x2 s0 = some v → JX G 25 [(0, .ref (vad (gV G) 33)), (1, .int x1), (2, .int x2)] [.int s0] σ (v, σ) := by
  intro x1 x2 s0 hm
  unfold jn_X8_doing_25 at hm
  refine j_istoren (ls' := [(3, .int s0), (0, .ref (vad (gV G) 33)), (1, .int x1), (2, .int x2)]) (pc := 25) C dX8_doing_25 rfl (by decide) rfl ?_
  refine j_iloadn (pc := 26) C 0 dX8_doing_26 rfl rfl ?_
  refine j_if_eq (tgt := 44) (pc := 27) C dX8_doing_27 (by decide) hm (fun _ hm => ?_) (fun _ hm => ?_)
  · refine j_iconst (v := 0) (pc := 44) C dX8_doing_44 (by decide) ?_
    exact j_iret (pc := 45) C rfl dX8_doing_45 hm
  · refine j_aloadn (pc := 30) C 1 dX8_doing_30 rfl rfl ?_
    refine gf_X8_9 (c := 33) (pc := 31) C kx_33 dX8_doing_31 ?_
    refine j_iloadn (pc := 34) C 2 dX8_doing_34 rfl rfl ?_
    refine j_bipush (v := 24) (pc := 35) C dX8_doing_35 (by decide) ?_
    refine j_imul (pc := 37) C dX8_doing_37 ?_
    refine j_iloadn (pc := 38) C 3 dX8_doing_38 rfl rfl ?_
    refine j_iadd (pc := 39) C dX8_doing_39 ?_
    refine j_lti hm (fun y1 hm => ?_)
    refine j_guard hm (fun hg2 hm => ?_)
    refine j_iald (c := 34) (n := 384) (pc := 40) C (kX_lt kx_34 (by decide)) (cx_a kx_34 lx_34 _) hg2 dX8_doing_40 ?_
    refine j_goto (tgt := 45) (pc := 41) C dX8_doing_41 (by decide) ?_
    exact j_iret (pc := 45) C rfl dX8_doing_45 hm

def jn_X8_doing_24 (F : Nat) (σ : jS) (x1 : Int32) (x2 : Int32) : Option Int32 := (jn_X8_doing_25 F σ x1 x2 (0 : Int32))
set_option maxHeartbeats 4000000 in
set_option maxRecDepth 100000 in
theorem jn_X8_doing_24_ok {G : jG} (C : jc cfX 70 G cX8_doing RX8 4 (some .int) 0) (F : Nat) (σ : jS) {v : Int32} : ∀ (x1 : Int32) (x2 : Int32), jn_X8_doing_24 F σ x1 x2 = some v → JX G 24 [(0, .ref (vad (gV G) 33)), (1, .int x1), (2, .int x2)] [] σ (v, σ) := by
  intro x1 x2 hm
  unfold jn_X8_doing_24 at hm
  refine j_iconst (v := 0) (pc := 24) C dX8_doing_24 (by decide) ?_
  exact jn_X8_doing_25_ok C F σ  _ _ _ hm

def mX8_doing (F : Nat) (x1 : Int32) (x2 : Int32) (σ : jS) : Option Int32 := (if x1 < 0 then (jn_X8_doing_24 F σ x1 x2) else (if x1 < (16 : Int32) then (if x2 < 0 then (jn_X8_doing_24 F σ x1 x2) else (if x2 < (24 : Int32) then (jn_X8_doing_25 F σ x1 x2 (1 : Int32)) else (jn_X8_doing_24 F σ x1 x2))) else (jn_X8_doing_24 F σ x1 x2)))
set_option maxHeartbeats 4000000 in
set_option maxRecDepth 100000 in
theorem kX8_doing {V : jV} {F : Nat} {x1 : Int32} {x2 : Int32} {σ : jS} {v : Int32} (hm : mX8_doing F x1 x2 σ = some v) : Ct cfX 70 V yX8_doing cX8_doing 4 (some .int) 0 [.ref (vad V 33), .int x1, .int x2] σ (v, σ) := by
  refine j_start (own := RX8) (by decide) rfl (Nat.le_of_ble_eq_true rfl) ?_
  intro G hV C
  subst hV
  unfold mX8_doing at hm
  show JX G 0 [(0, .ref (vad (gV G) 33)), (1, .int x1), (2, .int x2)] [] σ (v, σ)
  refine j_iloadn (pc := 0) C 1 dX8_doing_0 rfl rfl ?_
  refine j_if_lt (tgt := 24) (pc := 1) C dX8_doing_1 (by decide) hm (fun _ hm => ?_) (fun _ hm => ?_)
  · exact jn_X8_doing_24_ok C F σ  _ _ hm
  · refine j_iloadn (pc := 4) C 1 dX8_doing_4 rfl rfl ?_
    refine j_bipush (v := 16) (pc := 5) C dX8_doing_5 (by decide) ?_
    refine j_icmp_ge (tgt := 24) (pc := 7) C dX8_doing_7 (by decide) hm (fun _ hm => ?_) (fun _ hm => ?_)
    · refine j_iloadn (pc := 10) C 2 dX8_doing_10 rfl rfl ?_
      refine j_if_lt (tgt := 24) (pc := 11) C dX8_doing_11 (by decide) hm (fun _ hm => ?_) (fun _ hm => ?_)
      · exact jn_X8_doing_24_ok C F σ  _ _ hm
      · refine j_iloadn (pc := 14) C 2 dX8_doing_14 rfl rfl ?_
        refine j_bipush (v := 24) (pc := 15) C dX8_doing_15 (by decide) ?_
        refine j_icmp_ge (tgt := 24) (pc := 17) C dX8_doing_17 (by decide) hm (fun _ hm => ?_) (fun _ hm => ?_)
        · refine j_iconst (v := 1) (pc := 20) C dX8_doing_20 (by decide) ?_
          refine j_goto (tgt := 25) (pc := 21) C dX8_doing_21 (by decide) ?_
          exact jn_X8_doing_25_ok C F σ  _ _ _ hm
        · exact jn_X8_doing_24_ok C F σ  _ _ hm
    · exact jn_X8_doing_24_ok C F σ  _ _ hm

def lp_X8_othersWith_41 (F : Nat) (σ : jS) : Nat → Int32 → Int32 → Int32 → Int32 → Int32 → Int32 → Option Int32
  | 0, _, _, _, _, _, _ => none
  | n + 1, x1, x2, x3, x4, x5, x6 => (if x6 < (16 : Int32) then (if x6 = x1 then (lp_X8_othersWith_41 F σ n x1 x2 x3 x4 x5 ((x6 + (1 : Int32)))) else (if ((x2 >>> (x6 &&& 31)) &&& (1 : Int32)) = 0 then (lp_X8_othersWith_41 F σ n x1 x2 x3 x4 x5 ((x6 + (1 : Int32)))) else (lt ((x6 * (24 : Int32)) + x3) fun y4 => (if jin y4 384 = true then (if (σ 34 y4.toNatClampNeg) = x5 then (lp_X8_othersWith_41 F σ n x1 x2 x3 ((x4 + (1 : Int32))) x5 ((x6 + (1 : Int32)))) else (lp_X8_othersWith_41 F σ n x1 x2 x3 x4 x5 ((x6 + (1 : Int32))))) else none)))) else some x4)
set_option maxHeartbeats 4000000 in
set_option maxRecDepth 100000 in
theorem lp_X8_othersWith_41_ok {G : jG} (C : jc cfX 70 G cX8_othersWith RX8 7 (some .int) 0) (F : Nat) (σ : jS) {v : Int32} : ∀ (n : Nat) (x1 : Int32) (x2 : Int32) (x3 : Int32) (x4 : Int32) (x5 : Int32) (x6 : Int32), lp_X8_othersWith_41 F σ n x1 x2 x3 x4 x5 x6 = some v → JX G 41 [(0, .ref (vad (gV G) 33)), (1, .int x1), (2, .int x2), (3, .int x3), (4, .int x4), (5, .int x5), (6, .int x6)] [] σ (v, σ) := by
  intro n
  induction n with
  | zero =>
    intro x1 x2 x3 x4 x5 x6 hm
    rw [lp_X8_othersWith_41] at hm
    cases hm
  | succ n ih =>
    intro x1 x2 x3 x4 x5 x6 hm
    rw [lp_X8_othersWith_41] at hm
    refine j_iload (pc := 41) C 6 dX8_othersWith_41 rfl ?_
    refine j_bipush (v := 16) (pc := 43) C dX8_othersWith_43 (by decide) ?_
    refine j_icmp_ge (tgt := 89) (pc := 45) C dX8_othersWith_45 (by decide) hm (fun _ hm => ?_) (fun _ hm => ?_)
    · refine j_iload (pc := 48) C 6 dX8_othersWith_48 rfl ?_
      refine j_iloadn (pc := 50) C 1 dX8_othersWith_50 rfl rfl ?_
      refine j_icmp_eq (tgt := 83) (pc := 51) C dX8_othersWith_51 (by decide) hm (fun _ hm => ?_) (fun _ hm => ?_)
      · refine j_iinc (v := (x6 + (1 : Int32))) (ls' := [(6, .int (x6 + (1 : Int32))), (0, .ref (vad (gV G) 33)), (1, .int x1), (2, .int x2), (3, .int x3), (4, .int x4), (5, .int x5)]) (pc := 83) C 6 dX8_othersWith_83 rfl rfl (by decide) rfl ?_
        refine j_goto (tgt := 41) (pc := 86) C dX8_othersWith_86 (by decide) ?_
        refine j_ls [1, 2, 3, 4, 5, 6, 0] rfl ?_
        exact ih _ _ _ _ _ _ hm
      · refine j_iloadn (pc := 54) C 2 dX8_othersWith_54 rfl rfl ?_
        refine j_iload (pc := 55) C 6 dX8_othersWith_55 rfl ?_
        refine j_ishr (pc := 57) C dX8_othersWith_57 ?_
        refine j_iconst (v := 1) (pc := 58) C dX8_othersWith_58 (by decide) ?_
        refine j_iand (pc := 59) C dX8_othersWith_59 ?_
        refine j_if_eq (tgt := 83) (pc := 60) C dX8_othersWith_60 (by decide) hm (fun _ hm => ?_) (fun _ hm => ?_)
        · refine j_iinc (v := (x6 + (1 : Int32))) (ls' := [(6, .int (x6 + (1 : Int32))), (0, .ref (vad (gV G) 33)), (1, .int x1), (2, .int x2), (3, .int x3), (4, .int x4), (5, .int x5)]) (pc := 83) C 6 dX8_othersWith_83 rfl rfl (by decide) rfl ?_
          refine j_goto (tgt := 41) (pc := 86) C dX8_othersWith_86 (by decide) ?_
          refine j_ls [1, 2, 3, 4, 5, 6, 0] rfl ?_
          exact ih _ _ _ _ _ _ hm
        · refine j_aloadn (pc := 63) C 0 dX8_othersWith_63 rfl rfl ?_
          refine gf_X8_9 (c := 33) (pc := 64) C kx_33 dX8_othersWith_64 ?_
          refine j_iload (pc := 67) C 6 dX8_othersWith_67 rfl ?_
          refine j_bipush (v := 24) (pc := 69) C dX8_othersWith_69 (by decide) ?_
          refine j_imul (pc := 71) C dX8_othersWith_71 ?_
          refine j_iloadn (pc := 72) C 3 dX8_othersWith_72 rfl rfl ?_
          refine j_iadd (pc := 73) C dX8_othersWith_73 ?_
          refine j_lti hm (fun y4 hm => ?_)
          refine j_guard hm (fun hg5 hm => ?_)
          refine j_iald (c := 34) (n := 384) (pc := 74) C (kX_lt kx_34 (by decide)) (cx_a kx_34 lx_34 _) hg5 dX8_othersWith_74 ?_
          refine j_iload (pc := 75) C 5 dX8_othersWith_75 rfl ?_
          refine j_icmp_ne (tgt := 83) (pc := 77) C dX8_othersWith_77 (by decide) hm (fun _ hm => ?_) (fun _ hm => ?_)
          · refine j_iinc (v := (x4 + (1 : Int32))) (ls' := [(4, .int (x4 + (1 : Int32))), (0, .ref (vad (gV G) 33)), (1, .int x1), (2, .int x2), (3, .int x3), (5, .int x5), (6, .int x6)]) (pc := 80) C 4 dX8_othersWith_80 rfl rfl (by decide) rfl ?_
            refine j_iinc (v := (x6 + (1 : Int32))) (ls' := [(6, .int (x6 + (1 : Int32))), (4, .int (x4 + (1 : Int32))), (0, .ref (vad (gV G) 33)), (1, .int x1), (2, .int x2), (3, .int x3), (5, .int x5)]) (pc := 83) C 6 dX8_othersWith_83 rfl rfl (by decide) rfl ?_
            refine j_goto (tgt := 41) (pc := 86) C dX8_othersWith_86 (by decide) ?_
            refine j_ls [2, 3, 4, 5, 1, 6, 0] rfl ?_
            exact ih _ _ _ _ _ _ hm
          · refine j_iinc (v := (x6 + (1 : Int32))) (ls' := [(6, .int (x6 + (1 : Int32))), (0, .ref (vad (gV G) 33)), (1, .int x1), (2, .int x2), (3, .int x3), (4, .int x4), (5, .int x5)]) (pc := 83) C 6 dX8_othersWith_83 rfl rfl (by decide) rfl ?_
            refine j_goto (tgt := 41) (pc := 86) C dX8_othersWith_86 (by decide) ?_
            refine j_ls [1, 2, 3, 4, 5, 6, 0] rfl ?_
            exact ih _ _ _ _ _ _ hm
    · refine j_iload (pc := 89) C 4 dX8_othersWith_89 rfl ?_
      exact j_iret (pc := 91) C rfl dX8_othersWith_91 hm

def mX8_othersWith (F : Nat) (x1 : Int32) (x2 : Int32) (x3 : Int32) (σ : jS) : Option Int32 := (if x1 < 0 then some (0 : Int32) else (if x1 < (16 : Int32) then (if x3 < 0 then some (0 : Int32) else (if x3 < (24 : Int32) then (lt ((x1 * (24 : Int32)) + x3) fun y1 => (if jin y1 384 = true then (lt (σ 34 y1.toNatClampNeg) fun y3 => (lp_X8_othersWith_41 F σ F x1 x2 x3 (0 : Int32) y3 (0 : Int32))) else none)) else some (0 : Int32))) else some (0 : Int32)))
set_option maxHeartbeats 4000000 in
set_option maxRecDepth 100000 in
theorem kX8_othersWith {V : jV} {F : Nat} {x1 : Int32} {x2 : Int32} {x3 : Int32} {σ : jS} {v : Int32} (hm : mX8_othersWith F x1 x2 x3 σ = some v) : Ct cfX 70 V yX8_othersWith cX8_othersWith 7 (some .int) 0 [.ref (vad V 33), .int x1, .int x2, .int x3] σ (v, σ) := by
  refine j_start (own := RX8) (by decide) rfl (Nat.le_of_ble_eq_true rfl) ?_
  intro G hV C
  subst hV
  unfold mX8_othersWith at hm
  show JX G 0 [(0, .ref (vad (gV G) 33)), (1, .int x1), (2, .int x2), (3, .int x3)] [] σ (v, σ)
  refine j_iloadn (pc := 0) C 1 dX8_othersWith_0 rfl rfl ?_
  refine j_if_lt (tgt := 20) (pc := 1) C dX8_othersWith_1 (by decide) hm (fun _ hm => ?_) (fun _ hm => ?_)
  · refine j_iconst (v := 0) (pc := 20) C dX8_othersWith_20 (by decide) ?_
    exact j_iret (pc := 21) C rfl dX8_othersWith_21 hm
  · refine j_iloadn (pc := 4) C 1 dX8_othersWith_4 rfl rfl ?_
    refine j_bipush (v := 16) (pc := 5) C dX8_othersWith_5 (by decide) ?_
    refine j_icmp_ge (tgt := 20) (pc := 7) C dX8_othersWith_7 (by decide) hm (fun _ hm => ?_) (fun _ hm => ?_)
    · refine j_iloadn (pc := 10) C 3 dX8_othersWith_10 rfl rfl ?_
      refine j_if_lt (tgt := 20) (pc := 11) C dX8_othersWith_11 (by decide) hm (fun _ hm => ?_) (fun _ hm => ?_)
      · refine j_iconst (v := 0) (pc := 20) C dX8_othersWith_20 (by decide) ?_
        exact j_iret (pc := 21) C rfl dX8_othersWith_21 hm
      · refine j_iloadn (pc := 14) C 3 dX8_othersWith_14 rfl rfl ?_
        refine j_bipush (v := 24) (pc := 15) C dX8_othersWith_15 (by decide) ?_
        refine j_icmp_lt (tgt := 22) (pc := 17) C dX8_othersWith_17 (by decide) hm (fun _ hm => ?_) (fun _ hm => ?_)
        · refine j_iconst (v := 0) (pc := 22) C dX8_othersWith_22 (by decide) ?_
          refine j_istore (ls' := [(4, .int (0 : Int32)), (0, .ref (vad (gV G) 33)), (1, .int x1), (2, .int x2), (3, .int x3)]) (pc := 23) C dX8_othersWith_23 (by decide) rfl ?_
          refine j_aloadn (pc := 25) C 1 dX8_othersWith_25 rfl rfl ?_
          refine gf_X8_9 (c := 33) (pc := 26) C kx_33 dX8_othersWith_26 ?_
          refine j_iloadn (pc := 29) C 2 dX8_othersWith_29 rfl rfl ?_
          refine j_bipush (v := 24) (pc := 30) C dX8_othersWith_30 (by decide) ?_
          refine j_imul (pc := 32) C dX8_othersWith_32 ?_
          refine j_iloadn (pc := 33) C 4 dX8_othersWith_33 rfl rfl ?_
          refine j_iadd (pc := 34) C dX8_othersWith_34 ?_
          refine j_lti hm (fun y1 hm => ?_)
          refine j_guard hm (fun hg2 hm => ?_)
          refine j_iald (c := 34) (n := 384) (pc := 35) C (kX_lt kx_34 (by decide)) (cx_a kx_34 lx_34 _) hg2 dX8_othersWith_35 ?_
          refine j_lti hm (fun y3 hm => ?_)
          refine j_istore (ls' := [(5, .int y3), (4, .int (0 : Int32)), (0, .ref (vad (gV G) 33)), (1, .int x1), (2, .int x2), (3, .int x3)]) (pc := 36) C dX8_othersWith_36 (by decide) rfl ?_
          refine j_iconst (v := 0) (pc := 38) C dX8_othersWith_38 (by decide) ?_
          refine j_istore (ls' := [(6, .int (0 : Int32)), (5, .int y3), (4, .int (0 : Int32)), (0, .ref (vad (gV G) 33)), (1, .int x1), (2, .int x2), (3, .int x3)]) (pc := 39) C dX8_othersWith_39 (by decide) rfl ?_
          refine j_ls [3, 4, 5, 6, 2, 1, 0] rfl ?_
          exact lp_X8_othersWith_41_ok C F σ  F _ _ _ _ _ _ hm
        · refine j_iconst (v := 0) (pc := 20) C dX8_othersWith_20 (by decide) ?_
          exact j_iret (pc := 21) C rfl dX8_othersWith_21 hm
    · refine j_iconst (v := 0) (pc := 20) C dX8_othersWith_20 (by decide) ?_
      exact j_iret (pc := 21) C rfl dX8_othersWith_21 hm

def lp_X8_joined_6 (F : Nat) (σ : jS) (k42 : Int32 → Int32 → Int32 → Int32 → Option Int32) : Nat → Int32 → Int32 → Int32 → Int32 → Int32 → Option Int32
  | 0, _, _, _, _, _ => none
  | n + 1, x1, x2, x3, x4, x5 => (if x5 < (16 : Int32) then (if ((x1 >>> (x5 &&& 31)) &&& (1 : Int32)) = 0 then (lp_X8_joined_6 F σ k42 n x1 x2 x3 x4 ((x5 + (1 : Int32)))) else (Option.bind (mX8_doing F x5 x3 σ) fun q1 => (lt (x4 ||| ((1 : Int32) <<< (q1 &&& 31))) fun y2 => (lp_X8_joined_6 F σ k42 n x1 x2 x3 y2 ((x5 + (1 : Int32))))))) else (k42 x1 x2 x3 x4))
set_option maxHeartbeats 4000000 in
set_option maxRecDepth 100000 in
theorem lp_X8_joined_6_ok {G : jG} (C : jc cfX 70 G cX8_joined RX8 7 (some .int) 1) (F : Nat) (σ : jS) {v : Int32} (k42 : Int32 → Int32 → Int32 → Int32 → Option Int32) (hk42 : ∀ (x1 : Int32) (x2 : Int32) (x3 : Int32) (x4 : Int32), k42 x1 x2 x3 x4 = some v → JX G 42 [(0, .ref (vad (gV G) 33)), (1, .int x1), (2, .int x2), (3, .int x3), (4, .int x4)] [] σ (v, σ)) : ∀ (n : Nat) (x1 : Int32) (x2 : Int32) (x3 : Int32) (x4 : Int32) (x5 : Int32), lp_X8_joined_6 F σ k42 n x1 x2 x3 x4 x5 = some v → JX G 6 [(0, .ref (vad (gV G) 33)), (1, .int x1), (2, .int x2), (3, .int x3), (4, .int x4), (5, .int x5)] [] σ (v, σ) := by
  intro n
  induction n with
  | zero =>
    intro x1 x2 x3 x4 x5 hm
    rw [lp_X8_joined_6] at hm
    cases hm
  | succ n ih =>
    intro x1 x2 x3 x4 x5 hm
    rw [lp_X8_joined_6] at hm
    refine j_iload (pc := 6) C 5 dX8_joined_6 rfl ?_
    refine j_bipush (v := 16) (pc := 8) C dX8_joined_8 (by decide) ?_
    refine j_icmp_ge (tgt := 42) (pc := 10) C dX8_joined_10 (by decide) hm (fun _ hm => ?_) (fun _ hm => ?_)
    · refine j_iloadn (pc := 13) C 1 dX8_joined_13 rfl rfl ?_
      refine j_iload (pc := 14) C 5 dX8_joined_14 rfl ?_
      refine j_ishr (pc := 16) C dX8_joined_16 ?_
      refine j_iconst (v := 1) (pc := 17) C dX8_joined_17 (by decide) ?_
      refine j_iand (pc := 18) C dX8_joined_18 ?_
      refine j_if_eq (tgt := 36) (pc := 19) C dX8_joined_19 (by decide) hm (fun _ hm => ?_) (fun _ hm => ?_)
      · refine j_iinc (v := (x5 + (1 : Int32))) (ls' := [(5, .int (x5 + (1 : Int32))), (0, .ref (vad (gV G) 33)), (1, .int x1), (2, .int x2), (3, .int x3), (4, .int x4)]) (pc := 36) C 5 dX8_joined_36 rfl rfl (by decide) rfl ?_
        refine j_goto (tgt := 6) (pc := 39) C dX8_joined_39 (by decide) ?_
        refine j_ls [1, 2, 3, 4, 5, 0] rfl ?_
        exact ih _ _ _ _ _ hm
      · refine j_iload (pc := 22) C 4 dX8_joined_22 rfl ?_
        refine j_iconst (v := 1) (pc := 24) C dX8_joined_24 (by decide) ?_
        refine j_aloadn (pc := 25) C 0 dX8_joined_25 rfl rfl ?_
        refine j_iload (pc := 26) C 5 dX8_joined_26 rfl ?_
        refine j_iloadn (pc := 28) C 3 dX8_joined_28 rfl rfl ?_
        obtain ⟨q1, hq1, hm⟩ := Option.bind_eq_some_iff.mp hm
        refine cl_X8_29 (c := 33) (pc := 29) C kx_33 (kX8_doing hq1) (by decide) (Nat.le_of_ble_eq_true rfl) dX8_joined_29 ?_
        refine j_ishl (pc := 32) C dX8_joined_32 ?_
        refine j_ior (pc := 33) C dX8_joined_33 ?_
        refine j_lti hm (fun y2 hm => ?_)
        refine j_istore (ls' := [(4, .int y2), (0, .ref (vad (gV G) 33)), (1, .int x1), (2, .int x2), (3, .int x3), (5, .int x5)]) (pc := 34) C dX8_joined_34 (by decide) rfl ?_
        refine j_iinc (v := (x5 + (1 : Int32))) (ls' := [(5, .int (x5 + (1 : Int32))), (4, .int y2), (0, .ref (vad (gV G) 33)), (1, .int x1), (2, .int x2), (3, .int x3)]) (pc := 36) C 5 dX8_joined_36 rfl rfl (by decide) rfl ?_
        refine j_goto (tgt := 6) (pc := 39) C dX8_joined_39 (by decide) ?_
        refine j_ls [2, 3, 4, 5, 1, 0] rfl ?_
        exact ih _ _ _ _ _ hm
    · refine j_ls [0, 1, 2, 3, 4] rfl ?_
      exact hk42 _ _ _ _ hm

def lp_X8_joined_48 (F : Nat) (σ : jS) : Nat → Int32 → Int32 → Int32 → Int32 → Int32 → Option Int32
  | 0, _, _, _, _, _ => none
  | n + 1, x2, x3, x4, x5, x6 => (if x6 < (16 : Int32) then (if ((x2 >>> (x6 &&& 31)) &&& (1 : Int32)) = 0 then (lp_X8_joined_48 F σ n x2 x3 x4 x5 ((x6 + (1 : Int32)))) else (Option.bind (mX8_doing F x6 x3 σ) fun q4 => (if ((x4 >>> (q4 &&& 31)) &&& (1 : Int32)) = 0 then (lp_X8_joined_48 F σ n x2 x3 x4 x5 ((x6 + (1 : Int32)))) else (lt (x5 ||| ((1 : Int32) <<< (x6 &&& 31))) fun y5 => (lp_X8_joined_48 F σ n x2 x3 x4 y5 ((x6 + (1 : Int32)))))))) else some x5)
set_option maxHeartbeats 4000000 in
set_option maxRecDepth 100000 in
theorem lp_X8_joined_48_ok {G : jG} (C : jc cfX 70 G cX8_joined RX8 7 (some .int) 1) (F : Nat) (σ : jS) {v : Int32} : ∀ (n : Nat) (x2 : Int32) (x3 : Int32) (x4 : Int32) (x5 : Int32) (x6 : Int32), lp_X8_joined_48 F σ n x2 x3 x4 x5 x6 = some v → JX G 48 [(0, .ref (vad (gV G) 33)), (2, .int x2), (3, .int x3), (4, .int x4), (5, .int x5), (6, .int x6)] [] σ (v, σ) := by
  intro n
  induction n with
  | zero =>
    intro x2 x3 x4 x5 x6 hm
    rw [lp_X8_joined_48] at hm
    cases hm
  | succ n ih =>
    intro x2 x3 x4 x5 x6 hm
    rw [lp_X8_joined_48] at hm
    refine j_iload (pc := 48) C 5 dX8_joined_48 rfl ?_
    refine j_bipush (v := 16) (pc := 50) C dX8_joined_50 (by decide) ?_
    refine j_icmp_ge (tgt := 94) (pc := 52) C dX8_joined_52 (by decide) hm (fun _ hm => ?_) (fun _ hm => ?_)
    · refine j_iloadn (pc := 55) C 1 dX8_joined_55 rfl rfl ?_
      refine j_iload (pc := 56) C 5 dX8_joined_56 rfl ?_
      refine j_ishr (pc := 58) C dX8_joined_58 ?_
      refine j_iconst (v := 1) (pc := 59) C dX8_joined_59 (by decide) ?_
      refine j_iand (pc := 60) C dX8_joined_60 ?_
      refine j_if_eq (tgt := 88) (pc := 61) C dX8_joined_61 (by decide) hm (fun _ hm => ?_) (fun _ hm => ?_)
      · refine j_iinc (v := (x6 + (1 : Int32))) (ls' := [(6, .int (x6 + (1 : Int32))), (0, .ref (vad (gV G) 33)), (2, .int x2), (3, .int x3), (4, .int x4), (5, .int x5)]) (pc := 88) C 5 dX8_joined_88 rfl rfl (by decide) rfl ?_
        refine j_goto (tgt := 48) (pc := 91) C dX8_joined_91 (by decide) ?_
        refine j_ls [1, 2, 3, 4, 5, 0] rfl ?_
        exact ih _ _ _ _ _ hm
      · refine j_iload (pc := 64) C 3 dX8_joined_64 rfl ?_
        refine j_aloadn (pc := 66) C 0 dX8_joined_66 rfl rfl ?_
        refine j_iload (pc := 67) C 5 dX8_joined_67 rfl ?_
        refine j_iloadn (pc := 69) C 2 dX8_joined_69 rfl rfl ?_
        obtain ⟨q4, hq4, hm⟩ := Option.bind_eq_some_iff.mp hm
        refine cl_X8_29 (c := 33) (pc := 70) C kx_33 (kX8_doing hq4) (by decide) (Nat.le_of_ble_eq_true rfl) dX8_joined_70 ?_
        refine j_ishr (pc := 73) C dX8_joined_73 ?_
        refine j_iconst (v := 1) (pc := 74) C dX8_joined_74 (by decide) ?_
        refine j_iand (pc := 75) C dX8_joined_75 ?_
        refine j_if_eq (tgt := 88) (pc := 76) C dX8_joined_76 (by decide) hm (fun _ hm => ?_) (fun _ hm => ?_)
        · refine j_iinc (v := (x6 + (1 : Int32))) (ls' := [(6, .int (x6 + (1 : Int32))), (0, .ref (vad (gV G) 33)), (2, .int x2), (3, .int x3), (4, .int x4), (5, .int x5)]) (pc := 88) C 5 dX8_joined_88 rfl rfl (by decide) rfl ?_
          refine j_goto (tgt := 48) (pc := 91) C dX8_joined_91 (by decide) ?_
          refine j_ls [1, 2, 3, 4, 5, 0] rfl ?_
          exact ih _ _ _ _ _ hm
        · refine j_iload (pc := 79) C 4 dX8_joined_79 rfl ?_
          refine j_iconst (v := 1) (pc := 81) C dX8_joined_81 (by decide) ?_
          refine j_iload (pc := 82) C 5 dX8_joined_82 rfl ?_
          refine j_ishl (pc := 84) C dX8_joined_84 ?_
          refine j_ior (pc := 85) C dX8_joined_85 ?_
          refine j_lti hm (fun y5 hm => ?_)
          refine j_istore (ls' := [(5, .int y5), (0, .ref (vad (gV G) 33)), (2, .int x2), (3, .int x3), (4, .int x4), (6, .int x6)]) (pc := 86) C dX8_joined_86 (by decide) rfl ?_
          refine j_iinc (v := (x6 + (1 : Int32))) (ls' := [(6, .int (x6 + (1 : Int32))), (5, .int y5), (0, .ref (vad (gV G) 33)), (2, .int x2), (3, .int x3), (4, .int x4)]) (pc := 88) C 5 dX8_joined_88 rfl rfl (by decide) rfl ?_
          refine j_goto (tgt := 48) (pc := 91) C dX8_joined_91 (by decide) ?_
          refine j_ls [2, 3, 4, 5, 1, 0] rfl ?_
          exact ih _ _ _ _ _ hm
    · refine j_iload (pc := 94) C 4 dX8_joined_94 rfl ?_
      exact j_iret (pc := 96) C rfl dX8_joined_96 hm

def mX8_joined (F : Nat) (x1 : Int32) (x2 : Int32) (x3 : Int32) (σ : jS) : Option Int32 := (lp_X8_joined_6 F σ (fun x1_3 x2_3 x3_3 x4_3 => (lp_X8_joined_48 F σ F x2_3 x3_3 x4_3 x1_3 (0 : Int32))) F x1 x2 x3 (0 : Int32) (0 : Int32))
set_option maxHeartbeats 4000000 in
set_option maxRecDepth 100000 in
theorem kX8_joined {V : jV} {F : Nat} {x1 : Int32} {x2 : Int32} {x3 : Int32} {σ : jS} {v : Int32} (hm : mX8_joined F x1 x2 x3 σ = some v) : Ct cfX 70 V yX8_joined cX8_joined 7 (some .int) 1 [.ref (vad V 33), .int x1, .int x2, .int x3] σ (v, σ) := by
  refine j_start (own := RX8) (by decide) rfl (Nat.le_of_ble_eq_true rfl) ?_
  intro G hV C
  subst hV
  unfold mX8_joined at hm
  show JX G 0 [(0, .ref (vad (gV G) 33)), (1, .int x1), (2, .int x2), (3, .int x3)] [] σ (v, σ)
  refine j_iconst (v := 0) (pc := 0) C dX8_joined_0 (by decide) ?_
  refine j_istore (ls' := [(4, .int (0 : Int32)), (0, .ref (vad (gV G) 33)), (1, .int x1), (2, .int x2), (3, .int x3)]) (pc := 1) C dX8_joined_1 (by decide) rfl ?_
  refine j_iconst (v := 0) (pc := 3) C dX8_joined_3 (by decide) ?_
  refine j_istore (ls' := [(5, .int (0 : Int32)), (4, .int (0 : Int32)), (0, .ref (vad (gV G) 33)), (1, .int x1), (2, .int x2), (3, .int x3)]) (pc := 4) C dX8_joined_4 (by decide) rfl ?_
  refine j_ls [2, 3, 4, 5, 1, 0] rfl ?_
  refine lp_X8_joined_6_ok C F σ _ (fun x1_3 x2_3 x3_3 x4_3 hm => ?_) F _ _ _ _ _ hm
  refine j_iloadn (pc := 42) C 1 dX8_joined_42 rfl rfl ?_
  refine j_istore (ls' := [(5, .int x1_3), (0, .ref (vad (gV G) 33)), (1, .int x1_3), (2, .int x2_3), (3, .int x3_3), (4, .int x4_3)]) (pc := 43) C dX8_joined_43 (by decide) rfl ?_
  refine j_iconst (v := 0) (pc := 45) C dX8_joined_45 (by decide) ?_
  refine j_istore (ls' := [(6, .int (0 : Int32)), (5, .int x1_3), (0, .ref (vad (gV G) 33)), (1, .int x1_3), (2, .int x2_3), (3, .int x3_3), (4, .int x4_3)]) (pc := 46) C dX8_joined_46 (by decide) rfl ?_
  refine j_ls [2, 4, 5, 6, 1, 0] rfl ?_
  exact lp_X8_joined_48_ok C F σ  F _ _ _ _ _ hm

def lp_X8_sameHours_6 (F : Nat) (σ : jS) : Nat → Int32 → Int32 → Int32 → Int32 → Int32 → Option Int32
  | 0, _, _, _, _, _ => none
  | n + 1, x1, x2, x3, x4, x5 => (if x5 < (24 : Int32) then (Option.bind (mX8_doing F x1 x5 σ) fun q1 => (Option.bind (mX8_doing F x2 ((irm ((x5 + (24 : Int32)) - x3) (24 : Int32))) σ) fun q3 => (if q1 = q3 then (lp_X8_sameHours_6 F σ n x1 x2 x3 ((x4 + (1 : Int32))) ((x5 + (1 : Int32)))) else (lp_X8_sameHours_6 F σ n x1 x2 x3 x4 ((x5 + (1 : Int32))))))) else some x4)
set_option maxHeartbeats 4000000 in
set_option maxRecDepth 100000 in
theorem lp_X8_sameHours_6_ok {G : jG} (C : jc cfX 70 G cX8_sameHours RX8 6 (some .int) 1) (F : Nat) (σ : jS) {v : Int32} : ∀ (n : Nat) (x1 : Int32) (x2 : Int32) (x3 : Int32) (x4 : Int32) (x5 : Int32), lp_X8_sameHours_6 F σ n x1 x2 x3 x4 x5 = some v → JX G 6 [(0, .ref (vad (gV G) 33)), (1, .int x1), (2, .int x2), (3, .int x3), (4, .int x4), (5, .int x5)] [] σ (v, σ) := by
  intro n
  induction n with
  | zero =>
    intro x1 x2 x3 x4 x5 hm
    rw [lp_X8_sameHours_6] at hm
    cases hm
  | succ n ih =>
    intro x1 x2 x3 x4 x5 hm
    rw [lp_X8_sameHours_6] at hm
    refine j_iload (pc := 6) C 5 dX8_sameHours_6 rfl ?_
    refine j_bipush (v := 24) (pc := 8) C dX8_sameHours_8 (by decide) ?_
    refine j_icmp_ge (tgt := 47) (pc := 10) C dX8_sameHours_10 (by decide) hm (fun _ hm => ?_) (fun _ hm => ?_)
    · refine j_aloadn (pc := 13) C 0 dX8_sameHours_13 rfl rfl ?_
      refine j_iloadn (pc := 14) C 1 dX8_sameHours_14 rfl rfl ?_
      refine j_iload (pc := 15) C 5 dX8_sameHours_15 rfl ?_
      obtain ⟨q1, hq1, hm⟩ := Option.bind_eq_some_iff.mp hm
      refine cl_X8_29 (c := 33) (pc := 17) C kx_33 (kX8_doing hq1) (by decide) (Nat.le_of_ble_eq_true rfl) dX8_sameHours_17 ?_
      refine j_aloadn (pc := 20) C 0 dX8_sameHours_20 rfl rfl ?_
      refine j_iloadn (pc := 21) C 2 dX8_sameHours_21 rfl rfl ?_
      refine j_iload (pc := 22) C 5 dX8_sameHours_22 rfl ?_
      refine j_bipush (v := 24) (pc := 24) C dX8_sameHours_24 (by decide) ?_
      refine j_iadd (pc := 26) C dX8_sameHours_26 ?_
      refine j_iloadn (pc := 27) C 3 dX8_sameHours_27 rfl rfl ?_
      refine j_isub (pc := 28) C dX8_sameHours_28 ?_
      refine j_bipush (v := 24) (pc := 29) C dX8_sameHours_29 (by decide) ?_
      refine j_iremK (pc := 31) C dX8_sameHours_31 (by decide) ?_
      obtain ⟨q3, hq3, hm⟩ := Option.bind_eq_some_iff.mp hm
      refine cl_X8_29 (c := 33) (pc := 32) C kx_33 (kX8_doing hq3) (by decide) (Nat.le_of_ble_eq_true rfl) dX8_sameHours_32 ?_
      refine j_icmp_ne (tgt := 41) (pc := 35) C dX8_sameHours_35 (by decide) hm (fun _ hm => ?_) (fun _ hm => ?_)
      · refine j_iinc (v := (x4 + (1 : Int32))) (ls' := [(4, .int (x4 + (1 : Int32))), (0, .ref (vad (gV G) 33)), (1, .int x1), (2, .int x2), (3, .int x3), (5, .int x5)]) (pc := 38) C 4 dX8_sameHours_38 rfl rfl (by decide) rfl ?_
        refine j_iinc (v := (x5 + (1 : Int32))) (ls' := [(5, .int (x5 + (1 : Int32))), (4, .int (x4 + (1 : Int32))), (0, .ref (vad (gV G) 33)), (1, .int x1), (2, .int x2), (3, .int x3)]) (pc := 41) C 5 dX8_sameHours_41 rfl rfl (by decide) rfl ?_
        refine j_goto (tgt := 6) (pc := 44) C dX8_sameHours_44 (by decide) ?_
        refine j_ls [2, 3, 4, 5, 1, 0] rfl ?_
        exact ih _ _ _ _ _ hm
      · refine j_iinc (v := (x5 + (1 : Int32))) (ls' := [(5, .int (x5 + (1 : Int32))), (0, .ref (vad (gV G) 33)), (1, .int x1), (2, .int x2), (3, .int x3), (4, .int x4)]) (pc := 41) C 5 dX8_sameHours_41 rfl rfl (by decide) rfl ?_
        refine j_goto (tgt := 6) (pc := 44) C dX8_sameHours_44 (by decide) ?_
        refine j_ls [1, 2, 3, 4, 5, 0] rfl ?_
        exact ih _ _ _ _ _ hm
    · refine j_iload (pc := 47) C 4 dX8_sameHours_47 rfl ?_
      exact j_iret (pc := 49) C rfl dX8_sameHours_49 hm

def mX8_sameHours (F : Nat) (x1 : Int32) (x2 : Int32) (x3 : Int32) (σ : jS) : Option Int32 := (lp_X8_sameHours_6 F σ F x1 x2 x3 (0 : Int32) (0 : Int32))
set_option maxHeartbeats 4000000 in
set_option maxRecDepth 100000 in
theorem kX8_sameHours {V : jV} {F : Nat} {x1 : Int32} {x2 : Int32} {x3 : Int32} {σ : jS} {v : Int32} (hm : mX8_sameHours F x1 x2 x3 σ = some v) : Ct cfX 70 V yX8_sameHours cX8_sameHours 6 (some .int) 1 [.ref (vad V 33), .int x1, .int x2, .int x3] σ (v, σ) := by
  refine j_start (own := RX8) (by decide) rfl (Nat.le_of_ble_eq_true rfl) ?_
  intro G hV C
  subst hV
  unfold mX8_sameHours at hm
  show JX G 0 [(0, .ref (vad (gV G) 33)), (1, .int x1), (2, .int x2), (3, .int x3)] [] σ (v, σ)
  refine j_iconst (v := 0) (pc := 0) C dX8_sameHours_0 (by decide) ?_
  refine j_istore (ls' := [(4, .int (0 : Int32)), (0, .ref (vad (gV G) 33)), (1, .int x1), (2, .int x2), (3, .int x3)]) (pc := 1) C dX8_sameHours_1 (by decide) rfl ?_
  refine j_iconst (v := 0) (pc := 3) C dX8_sameHours_3 (by decide) ?_
  refine j_istore (ls' := [(5, .int (0 : Int32)), (4, .int (0 : Int32)), (0, .ref (vad (gV G) 33)), (1, .int x1), (2, .int x2), (3, .int x3)]) (pc := 4) C dX8_sameHours_4 (by decide) rfl ?_
  refine j_ls [2, 3, 4, 5, 1, 0] rfl ?_
  exact lp_X8_sameHours_6_ok C F σ  F _ _ _ _ _ hm

def mX8_isMore (F : Nat) (x1 : Int32) (σ : jS) : Option Int32 := (if x1 = 0 then (Option.bind (mX10_goesOn F σ) fun q1 => (if jbo q1 = true then some q1 else none)) else (if (σ 1 5) = 0 then (if (σ 1 4) = (41 : Int32) then some (0 : Int32) else some (1 : Int32)) else some (0 : Int32)))
set_option maxHeartbeats 4000000 in
set_option maxRecDepth 100000 in
theorem kX8_isMore {V : jV} {F : Nat} {x1 : Int32} {σ : jS} {v : Int32} (hm : mX8_isMore F x1 σ = some v) : Ct cfX 70 V yX8_isMore cX8_isMore 2 (some .boolean) 1 [.ref (vad V 33), .int x1] σ (v, σ) := by
  refine j_start (own := RX8) (by decide) rfl (Nat.le_of_ble_eq_true rfl) ?_
  intro G hV C
  subst hV
  unfold mX8_isMore at hm
  show JX G 0 [(0, .ref (vad (gV G) 33)), (1, .int x1)] [] σ (v, σ)
  refine j_iloadn (pc := 0) C 1 dX8_isMore_0 rfl rfl ?_
  refine j_if_ne (tgt := 12) (pc := 1) C dX8_isMore_1 (by decide) hm (fun _ hm => ?_) (fun _ hm => ?_)
  · refine j_aloadn (pc := 4) C 0 dX8_isMore_4 rfl rfl ?_
    refine gf_X8_25 (c := 33) (pc := 5) C kx_33 dX8_isMore_5 ?_
    obtain ⟨q1, hq1, hm⟩ := Option.bind_eq_some_iff.mp hm
    refine cl_X8_49 (c := 1) (pc := 8) C kx_1 (kX10_goesOn hq1) (by decide) (Nat.le_of_ble_eq_true rfl) dX8_isMore_8 ?_
    refine j_guard hm (fun hb2 hm => ?_)
    exact j_zret (pc := 11) C rfl hb2 dX8_isMore_11 hm
  · refine j_aloadn (pc := 12) C 0 dX8_isMore_12 rfl rfl ?_
    refine gf_X8_25 (c := 33) (pc := 13) C kx_33 dX8_isMore_13 ?_
    refine gf_X8_37 (c := 1) (pc := 16) C kx_1 dX8_isMore_16 ?_
    refine j_if_ne (tgt := 38) (pc := 19) C dX8_isMore_19 (by decide) hm (fun _ hm => ?_) (fun _ hm => ?_)
    · refine j_aloadn (pc := 22) C 0 dX8_isMore_22 rfl rfl ?_
      refine gf_X8_25 (c := 33) (pc := 23) C kx_33 dX8_isMore_23 ?_
      refine gf_X8_53 (c := 1) (pc := 26) C kx_1 dX8_isMore_26 ?_
      refine j_bipush (v := 41) (pc := 29) C dX8_isMore_29 (by decide) ?_
      refine j_icmp_eq (tgt := 38) (pc := 31) C dX8_isMore_31 (by decide) hm (fun _ hm => ?_) (fun _ hm => ?_)
      · refine j_iconst (v := 0) (pc := 38) C dX8_isMore_38 (by decide) ?_
        exact j_zret (pc := 39) C rfl rfl dX8_isMore_39 hm
      · refine j_iconst (v := 1) (pc := 34) C dX8_isMore_34 (by decide) ?_
        refine j_goto (tgt := 39) (pc := 35) C dX8_isMore_35 (by decide) ?_
        exact j_zret (pc := 39) C rfl rfl dX8_isMore_39 hm
    · refine j_iconst (v := 0) (pc := 38) C dX8_isMore_38 (by decide) ?_
      exact j_zret (pc := 39) C rfl rfl dX8_isMore_39 hm

def mX8_put (F : Nat) (x1 : Int32) (σ : jS) : Option jS := (if (σ 33 4) < 0 then (lt (js σ 33 4 ((σ 33 4) + (1 : Int32))) fun σ1 => some σ1) else (if (σ 33 4) < (24 : Int32) then (if jin (σ 33 4) 24 = true then (lt (js σ 36 (σ 33 4).toNatClampNeg x1) fun σ2 => (lt (js σ2 33 4 ((σ2 33 4) + (1 : Int32))) fun σ4 => some σ4)) else none) else (lt (js σ 33 4 ((σ 33 4) + (1 : Int32))) fun σ5 => some σ5)))
set_option maxHeartbeats 4000000 in
set_option maxRecDepth 100000 in
theorem kX8_put {V : jV} {F : Nat} {x1 : Int32} {σ : jS} {v : jS} (hm : mX8_put F x1 σ = some v) : Ct cfX 70 V yX8_put cX8_put 2 none 0 [.ref (vad V 33), .int x1] σ (0, v) := by
  refine j_start (own := RX8) (by decide) rfl (Nat.le_of_ble_eq_true rfl) ?_
  intro G hV C
  subst hV
  unfold mX8_put at hm
  show JX G 0 [(0, .ref (vad (gV G) 33)), (1, .int x1)] [] σ (0, v)
  refine j_aloadn (pc := 0) C 0 dX8_put_0 rfl rfl ?_
  refine gf_X8_21 (c := 33) (pc := 1) C kx_33 dX8_put_1 ?_
  refine j_if_lt (tgt := 26) (pc := 4) C dX8_put_4 (by decide) hm (fun _ hm => ?_) (fun _ hm => ?_)
  · refine j_aloadn (pc := 26) C 0 dX8_put_26 rfl rfl ?_
    refine j_dup (pc := 27) C dX8_put_27 rfl ?_
    refine gf_X8_21 (c := 33) (pc := 28) C kx_33 dX8_put_28 ?_
    refine j_iconst (v := 1) (pc := 31) C dX8_put_31 (by decide) ?_
    refine j_iadd (pc := 32) C dX8_put_32 ?_
    refine pf_X8_21 (c := 33) (pc := 33) C kx_33 dX8_put_33 hm (fun σ1 hm => ?_)
    exact j_vret (pc := 36) C rfl dX8_put_36 hm
  · refine j_aloadn (pc := 7) C 0 dX8_put_7 rfl rfl ?_
    refine gf_X8_21 (c := 33) (pc := 8) C kx_33 dX8_put_8 ?_
    refine j_bipush (v := 24) (pc := 11) C dX8_put_11 (by decide) ?_
    refine j_icmp_ge (tgt := 26) (pc := 13) C dX8_put_13 (by decide) hm (fun _ hm => ?_) (fun _ hm => ?_)
    · refine j_aloadn (pc := 16) C 0 dX8_put_16 rfl rfl ?_
      refine gf_X8_18 (c := 33) (pc := 17) C kx_33 dX8_put_17 ?_
      refine j_aloadn (pc := 20) C 0 dX8_put_20 rfl rfl ?_
      refine gf_X8_21 (c := 33) (pc := 21) C kx_33 dX8_put_21 ?_
      refine j_iloadn (pc := 24) C 1 dX8_put_24 rfl rfl ?_
      refine j_guard hm (fun hg3 hm => ?_)
      refine j_iastL (c := 36) (n := 24) (pc := 25) C (kX_lt kx_36 (by decide)) (cx_a kx_36 lx_36) hg3 dX8_put_25 hm (fun σ2 hm => ?_)
      refine j_aloadn (pc := 26) C 0 dX8_put_26 rfl rfl ?_
      refine j_dup (pc := 27) C dX8_put_27 rfl ?_
      refine gf_X8_21 (c := 33) (pc := 28) C kx_33 dX8_put_28 ?_
      refine j_iconst (v := 1) (pc := 31) C dX8_put_31 (by decide) ?_
      refine j_iadd (pc := 32) C dX8_put_32 ?_
      refine pf_X8_21 (c := 33) (pc := 33) C kx_33 dX8_put_33 hm (fun σ4 hm => ?_)
      exact j_vret (pc := 36) C rfl dX8_put_36 hm
    · refine j_aloadn (pc := 26) C 0 dX8_put_26 rfl rfl ?_
      refine j_dup (pc := 27) C dX8_put_27 rfl ?_
      refine gf_X8_21 (c := 33) (pc := 28) C kx_33 dX8_put_28 ?_
      refine j_iconst (v := 1) (pc := 31) C dX8_put_31 (by decide) ?_
      refine j_iadd (pc := 32) C dX8_put_32 ?_
      refine pf_X8_21 (c := 33) (pc := 33) C kx_33 dX8_put_33 hm (fun σ5 hm => ?_)
      exact j_vret (pc := 36) C rfl dX8_put_36 hm

def lp_X8_repeat_17 (F : Nat) (k56 : Int32 → Int32 → Int32 → Int32 → jS → Option jS) : Nat → Int32 → Int32 → Int32 → Int32 → Int32 → jS → Option jS
  | 0, _, _, _, _, _, _ => none
  | n + 1, x1, x2, x3, x4, x5, σ => (if x5 < x3 then (if x5 < 0 then (Option.bind (mX8_put F (0 : Int32) σ) fun q2 => (lp_X8_repeat_17 F k56 n x1 x2 x3 x4 ((x5 + (1 : Int32))) q2)) else (if x5 < (24 : Int32) then (if jin x5 24 = true then (Option.bind (mX8_put F ((σ 36 x5.toNatClampNeg)) σ) fun q4 => (lp_X8_repeat_17 F k56 n x1 x2 x3 x4 ((x5 + (1 : Int32))) q4)) else none) else (Option.bind (mX8_put F (0 : Int32) σ) fun q5 => (lp_X8_repeat_17 F k56 n x1 x2 x3 x4 ((x5 + (1 : Int32))) q5)))) else (k56 x1 x2 x3 x4 σ))
set_option maxHeartbeats 4000000 in
set_option maxRecDepth 100000 in
theorem lp_X8_repeat_17_ok {G : jG} (C : jc cfX 70 G cX8_repeat RX8 6 none 1) (F : Nat) {v : jS} (k56 : Int32 → Int32 → Int32 → Int32 → jS → Option jS) (hk56 : ∀ (x1 : Int32) (x2 : Int32) (x3 : Int32) (x4 : Int32) (σ : jS), k56 x1 x2 x3 x4 σ = some v → JX G 56 [(0, .ref (vad (gV G) 33)), (1, .int x1), (2, .int x2), (3, .int x3), (4, .int x4)] [] σ (0, v)) : ∀ (n : Nat) (x1 : Int32) (x2 : Int32) (x3 : Int32) (x4 : Int32) (x5 : Int32) (σ : jS), lp_X8_repeat_17 F k56 n x1 x2 x3 x4 x5 σ = some v → JX G 17 [(0, .ref (vad (gV G) 33)), (1, .int x1), (2, .int x2), (3, .int x3), (4, .int x4), (5, .int x5)] [] σ (0, v) := by
  intro n
  induction n with
  | zero =>
    intro x1 x2 x3 x4 x5 σ hm
    rw [lp_X8_repeat_17] at hm
    cases hm
  | succ n ih =>
    intro x1 x2 x3 x4 x5 σ hm
    rw [lp_X8_repeat_17] at hm
    refine j_iload (pc := 17) C 5 dX8_repeat_17 rfl ?_
    refine j_iloadn (pc := 19) C 3 dX8_repeat_19 rfl rfl ?_
    refine j_icmp_ge (tgt := 56) (pc := 20) C dX8_repeat_20 (by decide) hm (fun _ hm => ?_) (fun _ hm => ?_)
    · refine j_aloadn (pc := 23) C 0 dX8_repeat_23 rfl rfl ?_
      refine j_iload (pc := 24) C 5 dX8_repeat_24 rfl ?_
      refine j_if_lt (tgt := 46) (pc := 26) C dX8_repeat_26 (by decide) hm (fun _ hm => ?_) (fun _ hm => ?_)
      · refine j_iconst (v := 0) (pc := 46) C dX8_repeat_46 (by decide) ?_
        obtain ⟨q2, hq2, hm⟩ := Option.bind_eq_some_iff.mp hm
        refine cl_X8_89 (c := 33) (pc := 47) C kx_33 (kX8_put hq2) (by decide) (Nat.le_of_ble_eq_true rfl) dX8_repeat_47 ?_
        refine j_iinc (v := (x5 + (1 : Int32))) (ls' := [(5, .int (x5 + (1 : Int32))), (0, .ref (vad (gV G) 33)), (1, .int x1), (2, .int x2), (3, .int x3), (4, .int x4)]) (pc := 50) C 5 dX8_repeat_50 rfl rfl (by decide) rfl ?_
        refine j_goto (tgt := 17) (pc := 53) C dX8_repeat_53 (by decide) ?_
        refine j_ls [1, 2, 3, 4, 5, 0] rfl ?_
        exact ih _ _ _ _ _ _ hm
      · refine j_iload (pc := 29) C 5 dX8_repeat_29 rfl ?_
        refine j_bipush (v := 24) (pc := 31) C dX8_repeat_31 (by decide) ?_
        refine j_icmp_ge (tgt := 46) (pc := 33) C dX8_repeat_33 (by decide) hm (fun _ hm => ?_) (fun _ hm => ?_)
        · refine j_aloadn (pc := 36) C 0 dX8_repeat_36 rfl rfl ?_
          refine gf_X8_18 (c := 33) (pc := 37) C kx_33 dX8_repeat_37 ?_
          refine j_iload (pc := 40) C 5 dX8_repeat_40 rfl ?_
          refine j_guard hm (fun hg3 hm => ?_)
          refine j_iald (c := 36) (n := 24) (pc := 42) C (kX_lt kx_36 (by decide)) (cx_a kx_36 lx_36 _) hg3 dX8_repeat_42 ?_
          refine j_goto (tgt := 47) (pc := 43) C dX8_repeat_43 (by decide) ?_
          obtain ⟨q4, hq4, hm⟩ := Option.bind_eq_some_iff.mp hm
          refine cl_X8_89 (c := 33) (pc := 47) C kx_33 (kX8_put hq4) (by decide) (Nat.le_of_ble_eq_true rfl) dX8_repeat_47 ?_
          refine j_iinc (v := (x5 + (1 : Int32))) (ls' := [(5, .int (x5 + (1 : Int32))), (0, .ref (vad (gV G) 33)), (1, .int x1), (2, .int x2), (3, .int x3), (4, .int x4)]) (pc := 50) C 5 dX8_repeat_50 rfl rfl (by decide) rfl ?_
          refine j_goto (tgt := 17) (pc := 53) C dX8_repeat_53 (by decide) ?_
          refine j_ls [1, 2, 3, 4, 5, 0] rfl ?_
          exact ih _ _ _ _ _ _ hm
        · refine j_iconst (v := 0) (pc := 46) C dX8_repeat_46 (by decide) ?_
          obtain ⟨q5, hq5, hm⟩ := Option.bind_eq_some_iff.mp hm
          refine cl_X8_89 (c := 33) (pc := 47) C kx_33 (kX8_put hq5) (by decide) (Nat.le_of_ble_eq_true rfl) dX8_repeat_47 ?_
          refine j_iinc (v := (x5 + (1 : Int32))) (ls' := [(5, .int (x5 + (1 : Int32))), (0, .ref (vad (gV G) 33)), (1, .int x1), (2, .int x2), (3, .int x3), (4, .int x4)]) (pc := 50) C 5 dX8_repeat_50 rfl rfl (by decide) rfl ?_
          refine j_goto (tgt := 17) (pc := 53) C dX8_repeat_53 (by decide) ?_
          refine j_ls [1, 2, 3, 4, 5, 0] rfl ?_
          exact ih _ _ _ _ _ _ hm
    · refine j_ls [0, 1, 2, 3, 4] rfl ?_
      exact hk56 _ _ _ _ _ hm

def lp_X8_repeat_8 (F : Nat) : Nat → Int32 → Int32 → Int32 → Int32 → jS → Option jS
  | 0, _, _, _, _, _ => none
  | n + 1, x1, x2, x3, x4, σ => (if x4 < x2 then (lp_X8_repeat_17 F (fun x1_6 x2_6 x3_6 x4_6 σ6 => (lp_X8_repeat_8 F n x1_6 x2_6 x3_6 ((x4_6 + (1 : Int32))) σ6)) F x1 x2 x3 x4 x1 σ) else some σ)
set_option maxHeartbeats 4000000 in
set_option maxRecDepth 100000 in
theorem lp_X8_repeat_8_ok {G : jG} (C : jc cfX 70 G cX8_repeat RX8 6 none 1) (F : Nat) {v : jS} : ∀ (n : Nat) (x1 : Int32) (x2 : Int32) (x3 : Int32) (x4 : Int32) (σ : jS), lp_X8_repeat_8 F n x1 x2 x3 x4 σ = some v → JX G 8 [(0, .ref (vad (gV G) 33)), (1, .int x1), (2, .int x2), (3, .int x3), (4, .int x4)] [] σ (0, v) := by
  intro n
  induction n with
  | zero =>
    intro x1 x2 x3 x4 σ hm
    rw [lp_X8_repeat_8] at hm
    cases hm
  | succ n ih =>
    intro x1 x2 x3 x4 σ hm
    rw [lp_X8_repeat_8] at hm
    refine j_iload (pc := 8) C 4 dX8_repeat_8 rfl ?_
    refine j_iloadn (pc := 10) C 2 dX8_repeat_10 rfl rfl ?_
    refine j_icmp_ge (tgt := 62) (pc := 11) C dX8_repeat_11 (by decide) hm (fun _ hm => ?_) (fun _ hm => ?_)
    · refine j_iloadn (pc := 14) C 1 dX8_repeat_14 rfl rfl ?_
      refine j_istore (ls' := [(5, .int x1), (0, .ref (vad (gV G) 33)), (1, .int x1), (2, .int x2), (3, .int x3), (4, .int x4)]) (pc := 15) C dX8_repeat_15 (by decide) rfl ?_
      refine j_ls [1, 2, 3, 4, 5, 0] rfl ?_
      refine lp_X8_repeat_17_ok C F _ (fun x1_6 x2_6 x3_6 x4_6 σ6 hm => ?_) F _ _ _ _ _ _ hm
      refine j_iinc (v := (x4_6 + (1 : Int32))) (ls' := [(4, .int (x4_6 + (1 : Int32))), (0, .ref (vad (gV G) 33)), (1, .int x1_6), (2, .int x2_6), (3, .int x3_6)]) (pc := 56) C 4 dX8_repeat_56 rfl rfl (by decide) rfl ?_
      refine j_goto (tgt := 8) (pc := 59) C dX8_repeat_59 (by decide) ?_
      refine j_ls [1, 2, 3, 4, 0] rfl ?_
      exact ih _ _ _ _ _ hm
    · exact j_vret (pc := 62) C rfl dX8_repeat_62 hm

def mX8_repeat (F : Nat) (x1 : Int32) (x2 : Int32) (σ : jS) : Option jS := (lt (σ 33 4) fun y1 => (lp_X8_repeat_8 F F x1 x2 y1 (1 : Int32) σ))
set_option maxHeartbeats 4000000 in
set_option maxRecDepth 100000 in
theorem kX8_repeat {V : jV} {F : Nat} {x1 : Int32} {x2 : Int32} {σ : jS} {v : jS} (hm : mX8_repeat F x1 x2 σ = some v) : Ct cfX 70 V yX8_repeat cX8_repeat 6 none 1 [.ref (vad V 33), .int x1, .int x2] σ (0, v) := by
  refine j_start (own := RX8) (by decide) rfl (Nat.le_of_ble_eq_true rfl) ?_
  intro G hV C
  subst hV
  unfold mX8_repeat at hm
  show JX G 0 [(0, .ref (vad (gV G) 33)), (1, .int x1), (2, .int x2)] [] σ (0, v)
  refine j_aloadn (pc := 0) C 0 dX8_repeat_0 rfl rfl ?_
  refine gf_X8_21 (c := 33) (pc := 1) C kx_33 dX8_repeat_1 ?_
  refine j_lti hm (fun y1 hm => ?_)
  refine j_istoren (ls' := [(3, .int y1), (0, .ref (vad (gV G) 33)), (1, .int x1), (2, .int x2)]) (pc := 4) C dX8_repeat_4 rfl (by decide) rfl ?_
  refine j_iconst (v := 1) (pc := 5) C dX8_repeat_5 (by decide) ?_
  refine j_istore (ls' := [(4, .int (1 : Int32)), (3, .int y1), (0, .ref (vad (gV G) 33)), (1, .int x1), (2, .int x2)]) (pc := 6) C dX8_repeat_6 (by decide) rfl ?_
  refine j_ls [2, 3, 4, 1, 0] rfl ?_
  exact lp_X8_repeat_8_ok C F  F _ _ _ _ _ hm

