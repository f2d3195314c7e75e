theorem dX12_in_0 : decode cX12_in 0 = .ok (.iload_n 0, 1) := by decide +kernel
theorem dX12_in_1 : decode cX12_in 1 = .ok (.iload_n 1, 1) := by decide +kernel
theorem dX12_in_2 : decode cX12_in 2 = .ok (.if_icmp .lt 12, 3) := by decide +kernel
theorem dX12_in_5 : decode cX12_in 5 = .ok (.iload_n 0, 1) := by decide +kernel
theorem dX12_in_6 : decode cX12_in 6 = .ok (.iload_n 2, 1) := by decide +kernel
theorem dX12_in_7 : decode cX12_in 7 = .ok (.if_icmp .gt 7, 3) := by decide +kernel
theorem dX12_in_10 : decode cX12_in 10 = .ok (.iconst 1, 1) := by decide +kernel
theorem dX12_in_11 : decode cX12_in 11 = .ok (.goto 4, 3) := by decide +kernel
theorem dX12_in_14 : decode cX12_in 14 = .ok (.iconst 0, 1) := by decide +kernel
theorem dX12_in_15 : decode cX12_in 15 = .ok (.ireturn, 1) := by decide +kernel
theorem dX12_min_0 : decode cX12_min 0 = .ok (.iload_n 0, 1) := by decide +kernel
theorem dX12_min_1 : decode cX12_min 1 = .ok (.iload_n 1, 1) := by decide +kernel
theorem dX12_min_2 : decode cX12_min 2 = .ok (.if_icmp .ge 7, 3) := by decide +kernel
theorem dX12_min_5 : decode cX12_min 5 = .ok (.iload_n 0, 1) := by decide +kernel
theorem dX12_min_6 : decode cX12_min 6 = .ok (.goto 4, 3) := by decide +kernel
theorem dX12_min_9 : decode cX12_min 9 = .ok (.iload_n 1, 1) := by decide +kernel
theorem dX12_min_10 : decode cX12_min 10 = .ok (.ireturn, 1) := by decide +kernel
theorem dX12_max_0 : decode cX12_max 0 = .ok (.iload_n 0, 1) := by decide +kernel
theorem dX12_max_1 : decode cX12_max 1 = .ok (.iload_n 1, 1) := by decide +kernel
theorem dX12_max_2 : decode cX12_max 2 = .ok (.if_icmp .le 7, 3) := by decide +kernel
theorem dX12_max_5 : decode cX12_max 5 = .ok (.iload_n 0, 1) := by decide +kernel
theorem dX12_max_6 : decode cX12_max 6 = .ok (.goto 4, 3) := by decide +kernel
theorem dX12_max_9 : decode cX12_max 9 = .ok (.iload_n 1, 1) := by decide +kernel
theorem dX12_max_10 : decode cX12_max 10 = .ok (.ireturn, 1) := by decide +kernel
theorem dX12_has_0 : decode cX12_has 0 = .ok (.iload_n 0, 1) := by decide +kernel
theorem dX12_has_1 : decode cX12_has 1 = .ok (.iload_n 1, 1) := by decide +kernel
theorem dX12_has_2 : decode cX12_has 2 = .ok (.ishr, 1) := by decide +kernel
theorem dX12_has_3 : decode cX12_has 3 = .ok (.iconst 1, 1) := by decide +kernel
theorem dX12_has_4 : decode cX12_has 4 = .ok (.iand, 1) := by decide +kernel
theorem dX12_has_5 : decode cX12_has 5 = .ok (.iconst 1, 1) := by decide +kernel
theorem dX12_has_6 : decode cX12_has 6 = .ok (.if_icmp .ne 7, 3) := by decide +kernel
theorem dX12_has_9 : decode cX12_has 9 = .ok (.iconst 1, 1) := by decide +kernel
theorem dX12_has_10 : decode cX12_has 10 = .ok (.goto 4, 3) := by decide +kernel
theorem dX12_has_13 : decode cX12_has 13 = .ok (.iconst 0, 1) := by decide +kernel
theorem dX12_has_14 : decode cX12_has 14 = .ok (.ireturn, 1) := by decide +kernel
theorem dX12_bits_0 : decode cX12_bits 0 = .ok (.iconst 0, 1) := by decide +kernel
theorem dX12_bits_1 : decode cX12_bits 1 = .ok (.istore_n 1, 1) := by decide +kernel
theorem dX12_bits_2 : decode cX12_bits 2 = .ok (.iconst 0, 1) := by decide +kernel
theorem dX12_bits_3 : decode cX12_bits 3 = .ok (.istore_n 2, 1) := by decide +kernel
theorem dX12_bits_4 : decode cX12_bits 4 = .ok (.iload_n 2, 1) := by decide +kernel
theorem dX12_bits_5 : decode cX12_bits 5 = .ok (.bipush 16, 2) := by decide +kernel
theorem dX12_bits_7 : decode cX12_bits 7 = .ok (.if_icmp .ge 17, 3) := by decide +kernel
theorem dX12_bits_10 : decode cX12_bits 10 = .ok (.iload_n 1, 1) := by decide +kernel
theorem dX12_bits_11 : decode cX12_bits 11 = .ok (.iload_n 0, 1) := by decide +kernel
theorem dX12_bits_12 : decode cX12_bits 12 = .ok (.iload_n 2, 1) := by decide +kernel
theorem dX12_bits_13 : decode cX12_bits 13 = .ok (.ishr, 1) := by decide +kernel
theorem dX12_bits_14 : decode cX12_bits 14 = .ok (.iconst 1, 1) := by decide +kernel
theorem dX12_bits_15 : decode cX12_bits 15 = .ok (.iand, 1) := by decide +kernel
theorem dX12_bits_16 : decode cX12_bits 16 = .ok (.iadd, 1) := by decide +kernel
theorem dX12_bits_17 : decode cX12_bits 17 = .ok (.istore_n 1, 1) := by decide +kernel
theorem dX12_bits_18 : decode cX12_bits 18 = .ok (.iinc 2 1, 3) := by decide +kernel
theorem dX12_bits_21 : decode cX12_bits 21 = .ok (.goto (-17), 3) := by decide +kernel
theorem dX12_bits_24 : decode cX12_bits 24 = .ok (.iload_n 1, 1) := by decide +kernel
theorem dX12_bits_25 : decode cX12_bits 25 = .ok (.ireturn, 1) := by decide +kernel
theorem dX12_gcd_0 : decode cX12_gcd 0 = .ok (.iload_n 0, 1) := by decide +kernel
theorem dX12_gcd_1 : decode cX12_gcd 1 = .ok (.istore_n 2, 1) := by decide +kernel
theorem dX12_gcd_2 : decode cX12_gcd 2 = .ok (.iload_n 1, 1) := by decide +kernel
theorem dX12_gcd_3 : decode cX12_gcd 3 = .ok (.istore_n 3, 1) := by decide +kernel
theorem dX12_gcd_4 : decode cX12_gcd 4 = .ok (.iload_n 3, 1) := by decide +kernel
theorem dX12_gcd_5 : decode cX12_gcd 5 = .ok (.ifCond .eq 16, 3) := by decide +kernel
theorem dX12_gcd_8 : decode cX12_gcd 8 = .ok (.iload_n 2, 1) := by decide +kernel
theorem dX12_gcd_9 : decode cX12_gcd 9 = .ok (.iload_n 3, 1) := by decide +kernel
theorem dX12_gcd_10 : decode cX12_gcd 10 = .ok (.irem, 1) := by decide +kernel
theorem dX12_gcd_11 : decode cX12_gcd 11 = .ok (.istore 4, 2) := by decide +kernel
theorem dX12_gcd_13 : decode cX12_gcd 13 = .ok (.iload_n 3, 1) := by decide +kernel
theorem dX12_gcd_14 : decode cX12_gcd 14 = .ok (.istore_n 2, 1) := by decide +kernel
theorem dX12_gcd_15 : decode cX12_gcd 15 = .ok (.iload 4, 2) := by decide +kernel
theorem dX12_gcd_17 : decode cX12_gcd 17 = .ok (.istore_n 3, 1) := by decide +kernel
theorem dX12_gcd_18 : decode cX12_gcd 18 = .ok (.goto (-14), 3) := by decide +kernel
theorem dX12_gcd_21 : decode cX12_gcd 21 = .ok (.iload_n 2, 1) := by decide +kernel
theorem dX12_gcd_22 : decode cX12_gcd 22 = .ok (.ireturn, 1) := by decide +kernel
theorem dX12_copies_0 : decode cX12_copies 0 = .ok (.iconst 0, 1) := by decide +kernel
theorem dX12_copies_1 : decode cX12_copies 1 = .ok (.istore_n 2, 1) := by decide +kernel
theorem dX12_copies_2 : decode cX12_copies 2 = .ok (.iload_n 2, 1) := by decide +kernel
theorem dX12_copies_3 : decode cX12_copies 3 = .ok (.sipush 212, 3) := by decide +kernel
theorem dX12_copies_6 : decode cX12_copies 6 = .ok (.if_icmp .ge 15, 3) := by decide +kernel
theorem dX12_copies_9 : decode cX12_copies 9 = .ok (.aload_n 1, 1) := by decide +kernel
theorem dX12_copies_10 : decode cX12_copies 10 = .ok (.iload_n 2, 1) := by decide +kernel
theorem dX12_copies_11 : decode cX12_copies 11 = .ok (.aload_n 0, 1) := by decide +kernel
theorem dX12_copies_12 : decode cX12_copies 12 = .ok (.iload_n 2, 1) := by decide +kernel
theorem dX12_copies_13 : decode cX12_copies 13 = .ok (.iaload, 1) := by decide +kernel
theorem dX12_copies_14 : decode cX12_copies 14 = .ok (.iastore, 1) := by decide +kernel
theorem dX12_copies_15 : decode cX12_copies 15 = .ok (.iinc 2 1, 3) := by decide +kernel
theorem dX12_copies_18 : decode cX12_copies 18 = .ok (.goto (-16), 3) := by decide +kernel
theorem dX12_copies_21 : decode cX12_copies 21 = .ok (.return_, 1) := by decide +kernel
theorem dX12_isTold_0 : decode cX12_isTold 0 = .ok (.iload_n 1, 1) := by decide +kernel
theorem dX12_isTold_1 : decode cX12_isTold 1 = .ok (.iconst 0, 1) := by decide +kernel
theorem dX12_isTold_2 : decode cX12_isTold 2 = .ok (.bipush 15, 2) := by decide +kernel
theorem dX12_isTold_4 : decode cX12_isTold 4 = .ok (.invokestatic 107, 3) := by decide +kernel
theorem dX12_isTold_7 : decode cX12_isTold 7 = .ok (.ifCond .eq 19, 3) := by decide +kernel
theorem dX12_isTold_10 : decode cX12_isTold 10 = .ok (.aload_n 0, 1) := by decide +kernel
theorem dX12_isTold_11 : decode cX12_isTold 11 = .ok (.getfield 7, 3) := by decide +kernel
theorem dX12_isTold_14 : decode cX12_isTold 14 = .ok (.iconst 0, 1) := by decide +kernel
theorem dX12_isTold_15 : decode cX12_isTold 15 = .ok (.iload_n 1, 1) := by decide +kernel
theorem dX12_isTold_16 : decode cX12_isTold 16 = .ok (.iadd, 1) := by decide +kernel
theorem dX12_isTold_17 : decode cX12_isTold 17 = .ok (.iaload, 1) := by decide +kernel
theorem dX12_isTold_18 : decode cX12_isTold 18 = .ok (.iconst 1, 1) := by decide +kernel
theorem dX12_isTold_19 : decode cX12_isTold 19 = .ok (.if_icmp .ne 7, 3) := by decide +kernel
theorem dX12_isTold_22 : decode cX12_isTold 22 = .ok (.iconst 1, 1) := by decide +kernel
theorem dX12_isTold_23 : decode cX12_isTold 23 = .ok (.goto 4, 3) := by decide +kernel
theorem dX12_isTold_26 : decode cX12_isTold 26 = .ok (.iconst 0, 1) := by decide +kernel
theorem dX12_isTold_27 : decode cX12_isTold 27 = .ok (.ireturn, 1) := by decide +kernel
theorem dX12_isLiving_0 : decode cX12_isLiving 0 = .ok (.aload_n 0, 1) := by decide +kernel
theorem dX12_isLiving_1 : decode cX12_isLiving 1 = .ok (.iload_n 1, 1) := by decide +kernel
theorem dX12_isLiving_2 : decode cX12_isLiving 2 = .ok (.invokevirtual 111, 3) := by decide +kernel
theorem dX12_isLiving_5 : decode cX12_isLiving 5 = .ok (.ifCond .eq 20, 3) := by decide +kernel
theorem dX12_isLiving_8 : decode cX12_isLiving 8 = .ok (.aload_n 0, 1) := by decide +kernel
theorem dX12_isLiving_9 : decode cX12_isLiving 9 = .ok (.getfield 7, 3) := by decide +kernel
theorem dX12_isLiving_12 : decode cX12_isLiving 12 = .ok (.bipush 48, 2) := by decide +kernel
theorem dX12_isLiving_14 : decode cX12_isLiving 14 = .ok (.iload_n 1, 1) := by decide +kernel
theorem dX12_isLiving_15 : decode cX12_isLiving 15 = .ok (.iadd, 1) := by decide +kernel
theorem dX12_isLiving_16 : decode cX12_isLiving 16 = .ok (.iaload, 1) := by decide +kernel
theorem dX12_isLiving_17 : decode cX12_isLiving 17 = .ok (.iconst 1, 1) := by decide +kernel
theorem dX12_isLiving_18 : decode cX12_isLiving 18 = .ok (.if_icmp .ne 7, 3) := by decide +kernel
theorem dX12_isLiving_21 : decode cX12_isLiving 21 = .ok (.iconst 1, 1) := by decide +kernel
theorem dX12_isLiving_22 : decode cX12_isLiving 22 = .ok (.goto 4, 3) := by decide +kernel
theorem dX12_isLiving_25 : decode cX12_isLiving 25 = .ok (.iconst 0, 1) := by decide +kernel
theorem dX12_isLiving_26 : decode cX12_isLiving 26 = .ok (.ireturn, 1) := by decide +kernel
theorem dX12_toldSet_0 : decode cX12_toldSet 0 = .ok (.iconst 0, 1) := by decide +kernel
theorem dX12_toldSet_1 : decode cX12_toldSet 1 = .ok (.istore_n 1, 1) := by decide +kernel
theorem dX12_toldSet_2 : decode cX12_toldSet 2 = .ok (.iconst 0, 1) := by decide +kernel
theorem dX12_toldSet_3 : decode cX12_toldSet 3 = .ok (.istore_n 2, 1) := by decide +kernel
theorem dX12_toldSet_4 : decode cX12_toldSet 4 = .ok (.iload_n 2, 1) := by decide +kernel
theorem dX12_toldSet_5 : decode cX12_toldSet 5 = .ok (.bipush 16, 2) := by decide +kernel
theorem dX12_toldSet_7 : decode cX12_toldSet 7 = .ok (.if_icmp .ge 23, 3) := by decide +kernel
theorem dX12_toldSet_10 : decode cX12_toldSet 10 = .ok (.aload_n 0, 1) := by decide +kernel
theorem dX12_toldSet_11 : decode cX12_toldSet 11 = .ok (.iload_n 2, 1) := by decide +kernel
theorem dX12_toldSet_12 : decode cX12_toldSet 12 = .ok (.invokevirtual 111, 3) := by decide +kernel
theorem dX12_toldSet_15 : decode cX12_toldSet 15 = .ok (.ifCond .eq 9, 3) := by decide +kernel
theorem dX12_toldSet_18 : decode cX12_toldSet 18 = .ok (.iload_n 1, 1) := by decide +kernel
theorem dX12_toldSet_19 : decode cX12_toldSet 19 = .ok (.iconst 1, 1) := by decide +kernel
theorem dX12_toldSet_20 : decode cX12_toldSet 20 = .ok (.iload_n 2, 1) := by decide +kernel
theorem dX12_toldSet_21 : decode cX12_toldSet 21 = .ok (.ishl, 1) := by decide +kernel
theorem dX12_toldSet_22 : decode cX12_toldSet 22 = .ok (.ior, 1) := by decide +kernel
theorem dX12_toldSet_23 : decode cX12_toldSet 23 = .ok (.istore_n 1, 1) := by decide +kernel
theorem dX12_toldSet_24 : decode cX12_toldSet 24 = .ok (.iinc 2 1, 3) := by decide +kernel
theorem dX12_toldSet_27 : decode cX12_toldSet 27 = .ok (.goto (-23), 3) := by decide +kernel
theorem dX12_toldSet_30 : decode cX12_toldSet 30 = .ok (.iload_n 1, 1) := by decide +kernel
theorem dX12_toldSet_31 : decode cX12_toldSet 31 = .ok (.ireturn, 1) := by decide +kernel
theorem dX12_livingSet_0 : decode cX12_livingSet 0 = .ok (.iconst 0, 1) := by decide +kernel
theorem dX12_livingSet_1 : decode cX12_livingSet 1 = .ok (.istore_n 1, 1) := by decide +kernel
theorem dX12_livingSet_2 : decode cX12_livingSet 2 = .ok (.iconst 0, 1) := by decide +kernel
theorem dX12_livingSet_3 : decode cX12_livingSet 3 = .ok (.istore_n 2, 1) := by decide +kernel
theorem dX12_livingSet_4 : decode cX12_livingSet 4 = .ok (.iload_n 2, 1) := by decide +kernel
theorem dX12_livingSet_5 : decode cX12_livingSet 5 = .ok (.bipush 16, 2) := by decide +kernel
theorem dX12_livingSet_7 : decode cX12_livingSet 7 = .ok (.if_icmp .ge 23, 3) := by decide +kernel
theorem dX12_livingSet_10 : decode cX12_livingSet 10 = .ok (.aload_n 0, 1) := by decide +kernel
theorem dX12_livingSet_11 : decode cX12_livingSet 11 = .ok (.iload_n 2, 1) := by decide +kernel
theorem dX12_livingSet_12 : decode cX12_livingSet 12 = .ok (.invokevirtual 115, 3) := by decide +kernel
theorem dX12_livingSet_15 : decode cX12_livingSet 15 = .ok (.ifCond .eq 9, 3) := by decide +kernel
theorem dX12_livingSet_18 : decode cX12_livingSet 18 = .ok (.iload_n 1, 1) := by decide +kernel
theorem dX12_livingSet_19 : decode cX12_livingSet 19 = .ok (.iconst 1, 1) := by decide +kernel
theorem dX12_livingSet_20 : decode cX12_livingSet 20 = .ok (.iload_n 2, 1) := by decide +kernel
theorem dX12_livingSet_21 : decode cX12_livingSet 21 = .ok (.ishl, 1) := by decide +kernel
theorem dX12_livingSet_22 : decode cX12_livingSet 22 = .ok (.ior, 1) := by decide +kernel
theorem dX12_livingSet_23 : decode cX12_livingSet 23 = .ok (.istore_n 1, 1) := by decide +kernel
theorem dX12_livingSet_24 : decode cX12_livingSet 24 = .ok (.iinc 2 1, 3) := by decide +kernel
theorem dX12_livingSet_27 : decode cX12_livingSet 27 = .ok (.goto (-23), 3) := by decide +kernel
theorem dX12_livingSet_30 : decode cX12_livingSet 30 = .ok (.iload_n 1, 1) := by decide +kernel
theorem dX12_livingSet_31 : decode cX12_livingSet 31 = .ok (.ireturn, 1) := by decide +kernel
theorem dX12_isLoan_0 : decode cX12_isLoan 0 = .ok (.iload_n 1, 1) := by decide +kernel
theorem dX12_isLoan_1 : decode cX12_isLoan 1 = .ok (.iconst 0, 1) := by decide +kernel
theorem dX12_isLoan_2 : decode cX12_isLoan 2 = .ok (.aload_n 0, 1) := by decide +kernel
theorem dX12_isLoan_3 : decode cX12_isLoan 3 = .ok (.getfield 7, 3) := by decide +kernel
theorem dX12_isLoan_6 : decode cX12_isLoan 6 = .ok (.sipush 208, 3) := by decide +kernel
theorem dX12_isLoan_9 : decode cX12_isLoan 9 = .ok (.iaload, 1) := by decide +kernel
theorem dX12_isLoan_10 : decode cX12_isLoan 10 = .ok (.iconst 1, 1) := by decide +kernel
theorem dX12_isLoan_11 : decode cX12_isLoan 11 = .ok (.isub, 1) := by decide +kernel
theorem dX12_isLoan_12 : decode cX12_isLoan 12 = .ok (.invokestatic 107, 3) := by decide +kernel
theorem dX12_isLoan_15 : decode cX12_isLoan 15 = .ok (.ireturn, 1) := by decide +kernel
theorem dX12_doing_0 : decode cX12_doing 0 = .ok (.aload_n 0, 1) := by decide +kernel
theorem dX12_doing_1 : decode cX12_doing 1 = .ok (.getfield 19, 3) := by decide +kernel
theorem dX12_doing_4 : decode cX12_doing 4 = .ok (.bipush 24, 2) := by decide +kernel
theorem dX12_doing_6 : decode cX12_doing 6 = .ok (.iload_n 1, 1) := by decide +kernel
theorem dX12_doing_7 : decode cX12_doing 7 = .ok (.imul, 1) := by decide +kernel
theorem dX12_doing_8 : decode cX12_doing 8 = .ok (.iload_n 2, 1) := by decide +kernel
theorem dX12_doing_9 : decode cX12_doing 9 = .ok (.iadd, 1) := by decide +kernel
theorem dX12_doing_10 : decode cX12_doing 10 = .ok (.iaload, 1) := by decide +kernel
theorem dX12_doing_11 : decode cX12_doing 11 = .ok (.ireturn, 1) := by decide +kernel
theorem dX12_person_0 : decode cX12_person 0 = .ok (.iload_n 1, 1) := by decide +kernel
theorem dX12_person_1 : decode cX12_person 1 = .ok (.iconst 0, 1) := by decide +kernel
theorem dX12_person_2 : decode cX12_person 2 = .ok (.bipush 15, 2) := by decide +kernel
theorem dX12_person_4 : decode cX12_person 4 = .ok (.invokestatic 107, 3) := by decide +kernel
theorem dX12_person_7 : decode cX12_person 7 = .ok (.ifCond .eq 23, 3) := by decide +kernel
theorem dX12_person_10 : decode cX12_person 10 = .ok (.iload_n 2, 1) := by decide +kernel
theorem dX12_person_11 : decode cX12_person 11 = .ok (.iconst 1, 1) := by decide +kernel
theorem dX12_person_12 : decode cX12_person 12 = .ok (.ldc 118, 2) := by decide +kernel
theorem dX12_person_14 : decode cX12_person 14 = .ok (.invokestatic 107, 3) := by decide +kernel
theorem dX12_person_17 : decode cX12_person 17 = .ok (.ifCond .eq 13, 3) := by decide +kernel
theorem dX12_person_20 : decode cX12_person 20 = .ok (.iload_n 3, 1) := by decide +kernel
theorem dX12_person_21 : decode cX12_person 21 = .ok (.iconst 0, 1) := by decide +kernel
theorem dX12_person_22 : decode cX12_person 22 = .ok (.ldc 119, 2) := by decide +kernel
theorem dX12_person_24 : decode cX12_person 24 = .ok (.invokestatic 107, 3) := by decide +kernel
theorem dX12_person_27 : decode cX12_person 27 = .ok (.ifCond .ne 5, 3) := by decide +kernel
theorem dX12_person_30 : decode cX12_person 30 = .ok (.iconst 0, 1) := by decide +kernel
theorem dX12_person_31 : decode cX12_person 31 = .ok (.ireturn, 1) := by decide +kernel
theorem dX12_person_32 : decode cX12_person 32 = .ok (.aload_n 0, 1) := by decide +kernel
theorem dX12_person_33 : decode cX12_person 33 = .ok (.getfield 7, 3) := by decide +kernel
theorem dX12_person_36 : decode cX12_person 36 = .ok (.iconst 0, 1) := by decide +kernel
theorem dX12_person_37 : decode cX12_person 37 = .ok (.iload_n 1, 1) := by decide +kernel
theorem dX12_person_38 : decode cX12_person 38 = .ok (.iadd, 1) := by decide +kernel
theorem dX12_person_39 : decode cX12_person 39 = .ok (.iconst 1, 1) := by decide +kernel
theorem dX12_person_40 : decode cX12_person 40 = .ok (.iastore, 1) := by decide +kernel
theorem dX12_person_41 : decode cX12_person 41 = .ok (.aload_n 0, 1) := by decide +kernel
theorem dX12_person_42 : decode cX12_person 42 = .ok (.getfield 7, 3) := by decide +kernel
theorem dX12_person_45 : decode cX12_person 45 = .ok (.bipush 16, 2) := by decide +kernel
theorem dX12_person_47 : decode cX12_person 47 = .ok (.iload_n 1, 1) := by decide +kernel
theorem dX12_person_48 : decode cX12_person 48 = .ok (.iadd, 1) := by decide +kernel
theorem dX12_person_49 : decode cX12_person 49 = .ok (.iload_n 2, 1) := by decide +kernel
theorem dX12_person_50 : decode cX12_person 50 = .ok (.iastore, 1) := by decide +kernel
theorem dX12_person_51 : decode cX12_person 51 = .ok (.aload_n 0, 1) := by decide +kernel
theorem dX12_person_52 : decode cX12_person 52 = .ok (.getfield 7, 3) := by decide +kernel
theorem dX12_person_55 : decode cX12_person 55 = .ok (.bipush 32, 2) := by decide +kernel
theorem dX12_person_57 : decode cX12_person 57 = .ok (.iload_n 1, 1) := by decide +kernel
theorem dX12_person_58 : decode cX12_person 58 = .ok (.iadd, 1) := by decide +kernel
theorem dX12_person_59 : decode cX12_person 59 = .ok (.iload_n 3, 1) := by decide +kernel
theorem dX12_person_60 : decode cX12_person 60 = .ok (.iastore, 1) := by decide +kernel
theorem dX12_person_61 : decode cX12_person 61 = .ok (.aload_n 0, 1) := by decide +kernel
theorem dX12_person_62 : decode cX12_person 62 = .ok (.getfield 7, 3) := by decide +kernel
theorem dX12_person_65 : decode cX12_person 65 = .ok (.bipush 48, 2) := by decide +kernel
theorem dX12_person_67 : decode cX12_person 67 = .ok (.iload_n 1, 1) := by decide +kernel
theorem dX12_person_68 : decode cX12_person 68 = .ok (.iadd, 1) := by decide +kernel
theorem dX12_person_69 : decode cX12_person 69 = .ok (.iconst 1, 1) := by decide +kernel
theorem dX12_person_70 : decode cX12_person 70 = .ok (.iastore, 1) := by decide +kernel
theorem dX12_person_71 : decode cX12_person 71 = .ok (.iconst 1, 1) := by decide +kernel
theorem dX12_person_72 : decode cX12_person 72 = .ok (.ireturn, 1) := by decide +kernel
theorem dX12_types_0 : decode cX12_types 0 = .ok (.iconst 3, 1) := by decide +kernel
theorem dX12_types_1 : decode cX12_types 1 = .ok (.istore_n 2, 1) := by decide +kernel
theorem dX12_types_2 : decode cX12_types 2 = .ok (.iload_n 2, 1) := by decide +kernel
theorem dX12_types_3 : decode cX12_types 3 = .ok (.ifCond .lt 35, 3) := by decide +kernel
theorem dX12_types_6 : decode cX12_types 6 = .ok (.aload_n 0, 1) := by decide +kernel
theorem dX12_types_7 : decode cX12_types 7 = .ok (.getfield 25, 3) := by decide +kernel
theorem dX12_types_10 : decode cX12_types 10 = .ok (.aload_n 0, 1) := by decide +kernel
theorem dX12_types_11 : decode cX12_types 11 = .ok (.getfield 120, 3) := by decide +kernel
theorem dX12_types_14 : decode cX12_types 14 = .ok (.iload_n 1, 1) := by decide +kernel
theorem dX12_types_15 : decode cX12_types 15 = .ok (.bipush 8, 2) := by decide +kernel
theorem dX12_types_17 : decode cX12_types 17 = .ok (.iload_n 2, 1) := by decide +kernel
theorem dX12_types_18 : decode cX12_types 18 = .ok (.imul, 1) := by decide +kernel
theorem dX12_types_19 : decode cX12_types 19 = .ok (.ishr, 1) := by decide +kernel
theorem dX12_types_20 : decode cX12_types 20 = .ok (.i2b, 1) := by decide +kernel
theorem dX12_types_21 : decode cX12_types 21 = .ok (.bastore, 1) := by decide +kernel
theorem dX12_types_22 : decode cX12_types 22 = .ok (.aload_n 0, 1) := by decide +kernel
theorem dX12_types_23 : decode cX12_types 23 = .ok (.aload_n 0, 1) := by decide +kernel
theorem dX12_types_24 : decode cX12_types 24 = .ok (.getfield 120, 3) := by decide +kernel
theorem dX12_types_27 : decode cX12_types 27 = .ok (.iconst 1, 1) := by decide +kernel
theorem dX12_types_28 : decode cX12_types 28 = .ok (.iadd, 1) := by decide +kernel
theorem dX12_types_29 : decode cX12_types 29 = .ok (.putfield 120, 3) := by decide +kernel
theorem dX12_types_32 : decode cX12_types 32 = .ok (.iinc 2 (-1), 3) := by decide +kernel
theorem dX12_types_35 : decode cX12_types 35 = .ok (.goto (-33), 3) := by decide +kernel
theorem dX12_types_38 : decode cX12_types 38 = .ok (.return_, 1) := by decide +kernel
theorem dX12_feed_0 : decode cX12_feed 0 = .ok (.aload_n 0, 1) := by decide +kernel
theorem dX12_feed_1 : decode cX12_feed 1 = .ok (.getfield 120, 3) := by decide +kernel
theorem dX12_feed_4 : decode cX12_feed 4 = .ok (.bipush 20, 2) := by decide +kernel
theorem dX12_feed_6 : decode cX12_feed 6 = .ok (.iadd, 1) := by decide +kernel
theorem dX12_feed_7 : decode cX12_feed 7 = .ok (.sipush 260, 3) := by decide +kernel
theorem dX12_feed_10 : decode cX12_feed 10 = .ok (.if_icmp .le 5, 3) := by decide +kernel
theorem dX12_feed_13 : decode cX12_feed 13 = .ok (.iconst (-1), 1) := by decide +kernel
theorem dX12_feed_14 : decode cX12_feed 14 = .ok (.ireturn, 1) := by decide +kernel
theorem dX12_feed_15 : decode cX12_feed 15 = .ok (.aload_n 0, 1) := by decide +kernel
theorem dX12_feed_16 : decode cX12_feed 16 = .ok (.iload_n 1, 1) := by decide +kernel
theorem dX12_feed_17 : decode cX12_feed 17 = .ok (.invokevirtual 124, 3) := by decide +kernel
theorem dX12_feed_20 : decode cX12_feed 20 = .ok (.aload_n 0, 1) := by decide +kernel
theorem dX12_feed_21 : decode cX12_feed 21 = .ok (.iload_n 2, 1) := by decide +kernel
theorem dX12_feed_22 : decode cX12_feed 22 = .ok (.invokevirtual 124, 3) := by decide +kernel
theorem dX12_feed_25 : decode cX12_feed 25 = .ok (.aload_n 0, 1) := by decide +kernel
theorem dX12_feed_26 : decode cX12_feed 26 = .ok (.iload_n 3, 1) := by decide +kernel
theorem dX12_feed_27 : decode cX12_feed 27 = .ok (.invokevirtual 124, 3) := by decide +kernel
theorem dX12_feed_30 : decode cX12_feed 30 = .ok (.aload_n 0, 1) := by decide +kernel
theorem dX12_feed_31 : decode cX12_feed 31 = .ok (.iload 4, 2) := by decide +kernel
theorem dX12_feed_33 : decode cX12_feed 33 = .ok (.invokevirtual 124, 3) := by decide +kernel
theorem dX12_feed_36 : decode cX12_feed 36 = .ok (.aload_n 0, 1) := by decide +kernel
theorem dX12_feed_37 : decode cX12_feed 37 = .ok (.iload 5, 2) := by decide +kernel
theorem dX12_feed_39 : decode cX12_feed 39 = .ok (.invokevirtual 124, 3) := by decide +kernel
theorem dX12_feed_42 : decode cX12_feed 42 = .ok (.aload_n 0, 1) := by decide +kernel
theorem dX12_feed_43 : decode cX12_feed 43 = .ok (.getfield 120, 3) := by decide +kernel
theorem dX12_feed_46 : decode cX12_feed 46 = .ok (.ireturn, 1) := by decide +kernel
theorem dX12_octet_0 : decode cX12_octet 0 = .ok (.aload_n 0, 1) := by decide +kernel
theorem dX12_octet_1 : decode cX12_octet 1 = .ok (.getfield 25, 3) := by decide +kernel
theorem dX12_octet_4 : decode cX12_octet 4 = .ok (.iload_n 1, 1) := by decide +kernel
theorem dX12_octet_5 : decode cX12_octet 5 = .ok (.baload, 1) := by decide +kernel
theorem dX12_octet_6 : decode cX12_octet 6 = .ok (.sipush 255, 3) := by decide +kernel
theorem dX12_octet_9 : decode cX12_octet 9 = .ok (.iand, 1) := by decide +kernel
theorem dX12_octet_10 : decode cX12_octet 10 = .ok (.ireturn, 1) := by decide +kernel
theorem dX12_here_0 : decode cX12_here 0 = .ok (.aload_n 0, 1) := by decide +kernel
theorem dX12_here_1 : decode cX12_here 1 = .ok (.getfield 128, 3) := by decide +kernel
theorem dX12_here_4 : decode cX12_here 4 = .ok (.aload_n 0, 1) := by decide +kernel
theorem dX12_here_5 : decode cX12_here 5 = .ok (.getfield 131, 3) := by decide +kernel
theorem dX12_here_8 : decode cX12_here 8 = .ok (.if_icmp .ge 19, 3) := by decide +kernel
theorem dX12_here_11 : decode cX12_here 11 = .ok (.aload_n 0, 1) := by decide +kernel
theorem dX12_here_12 : decode cX12_here 12 = .ok (.getfield 25, 3) := by decide +kernel
theorem dX12_here_15 : decode cX12_here 15 = .ok (.aload_n 0, 1) := by decide +kernel
theorem dX12_here_16 : decode cX12_here 16 = .ok (.getfield 128, 3) := by decide +kernel
theorem dX12_here_19 : decode cX12_here 19 = .ok (.baload, 1) := by decide +kernel
theorem dX12_here_20 : decode cX12_here 20 = .ok (.sipush 255, 3) := by decide +kernel
theorem dX12_here_23 : decode cX12_here 23 = .ok (.iand, 1) := by decide +kernel
theorem dX12_here_24 : decode cX12_here 24 = .ok (.goto 4, 3) := by decide +kernel
theorem dX12_here_27 : decode cX12_here 27 = .ok (.iconst (-1), 1) := by decide +kernel
theorem dX12_here_28 : decode cX12_here 28 = .ok (.ireturn, 1) := by decide +kernel
theorem dX12_isDigit_0 : decode cX12_isDigit 0 = .ok (.aload_n 0, 1) := by decide +kernel
theorem dX12_isDigit_1 : decode cX12_isDigit 1 = .ok (.invokevirtual 134, 3) := by decide +kernel
theorem dX12_isDigit_4 : decode cX12_isDigit 4 = .ok (.bipush 48, 2) := by decide +kernel
theorem dX12_isDigit_6 : decode cX12_isDigit 6 = .ok (.if_icmp .lt 16, 3) := by decide +kernel
theorem dX12_isDigit_9 : decode cX12_isDigit 9 = .ok (.aload_n 0, 1) := by decide +kernel
theorem dX12_isDigit_10 : decode cX12_isDigit 10 = .ok (.invokevirtual 134, 3) := by decide +kernel
theorem dX12_isDigit_13 : decode cX12_isDigit 13 = .ok (.bipush 57, 2) := by decide +kernel
theorem dX12_isDigit_15 : decode cX12_isDigit 15 = .ok (.if_icmp .gt 7, 3) := by decide +kernel
theorem dX12_isDigit_18 : decode cX12_isDigit 18 = .ok (.iconst 1, 1) := by decide +kernel
theorem dX12_isDigit_19 : decode cX12_isDigit 19 = .ok (.goto 4, 3) := by decide +kernel
theorem dX12_isDigit_22 : decode cX12_isDigit 22 = .ok (.iconst 0, 1) := by decide +kernel
theorem dX12_isDigit_23 : decode cX12_isDigit 23 = .ok (.ireturn, 1) := by decide +kernel
theorem dX12_wrongAt_0 : decode cX12_wrongAt 0 = .ok (.aload_n 0, 1) := by decide +kernel
theorem dX12_wrongAt_1 : decode cX12_wrongAt 1 = .ok (.sipush (-1000), 3) := by decide +kernel
theorem dX12_wrongAt_4 : decode cX12_wrongAt 4 = .ok (.iload_n 1, 1) := by decide +kernel
theorem dX12_wrongAt_5 : decode cX12_wrongAt 5 = .ok (.imul, 1) := by decide +kernel
theorem dX12_wrongAt_6 : decode cX12_wrongAt 6 = .ok (.iload_n 2, 1) := by decide +kernel
theorem dX12_wrongAt_7 : decode cX12_wrongAt 7 = .ok (.isub, 1) := by decide +kernel
theorem dX12_wrongAt_8 : decode cX12_wrongAt 8 = .ok (.putfield 138, 3) := by decide +kernel
theorem dX12_wrongAt_11 : decode cX12_wrongAt 11 = .ok (.iconst 0, 1) := by decide +kernel
theorem dX12_wrongAt_12 : decode cX12_wrongAt 12 = .ok (.ireturn, 1) := by decide +kernel
theorem dX12_takes_0 : decode cX12_takes 0 = .ok (.aload_n 0, 1) := by decide +kernel
theorem dX12_takes_1 : decode cX12_takes 1 = .ok (.invokevirtual 134, 3) := by decide +kernel
theorem dX12_takes_4 : decode cX12_takes 4 = .ok (.iload_n 1, 1) := by decide +kernel
theorem dX12_takes_5 : decode cX12_takes 5 = .ok (.if_icmp .eq 13, 3) := by decide +kernel
theorem dX12_takes_8 : decode cX12_takes 8 = .ok (.aload_n 0, 1) := by decide +kernel
theorem dX12_takes_9 : decode cX12_takes 9 = .ok (.iconst 1, 1) := by decide +kernel
theorem dX12_takes_10 : decode cX12_takes 10 = .ok (.aload_n 0, 1) := by decide +kernel
theorem dX12_takes_11 : decode cX12_takes 11 = .ok (.getfield 128, 3) := by decide +kernel
theorem dX12_takes_14 : decode cX12_takes 14 = .ok (.invokevirtual 141, 3) := by decide +kernel
theorem dX12_takes_17 : decode cX12_takes 17 = .ok (.ireturn, 1) := by decide +kernel
theorem dX12_takes_18 : decode cX12_takes 18 = .ok (.aload_n 0, 1) := by decide +kernel
theorem dX12_takes_19 : decode cX12_takes 19 = .ok (.aload_n 0, 1) := by decide +kernel
theorem dX12_takes_20 : decode cX12_takes 20 = .ok (.getfield 128, 3) := by decide +kernel
theorem dX12_takes_23 : decode cX12_takes 23 = .ok (.iconst 1, 1) := by decide +kernel
theorem dX12_takes_24 : decode cX12_takes 24 = .ok (.iadd, 1) := by decide +kernel
theorem dX12_takes_25 : decode cX12_takes 25 = .ok (.putfield 128, 3) := by decide +kernel
theorem dX12_takes_28 : decode cX12_takes 28 = .ok (.iconst 1, 1) := by decide +kernel
theorem dX12_takes_29 : decode cX12_takes 29 = .ok (.ireturn, 1) := by decide +kernel
theorem dX12_readsNumber_0 : decode cX12_readsNumber 0 = .ok (.aload_n 0, 1) := by decide +kernel
theorem dX12_readsNumber_1 : decode cX12_readsNumber 1 = .ok (.getfield 128, 3) := by decide +kernel
theorem dX12_readsNumber_4 : decode cX12_readsNumber 4 = .ok (.istore_n 1, 1) := by decide +kernel
theorem dX12_readsNumber_5 : decode cX12_readsNumber 5 = .ok (.aload_n 0, 1) := by decide +kernel
theorem dX12_readsNumber_6 : decode cX12_readsNumber 6 = .ok (.iconst 0, 1) := by decide +kernel
theorem dX12_readsNumber_7 : decode cX12_readsNumber 7 = .ok (.putfield 145, 3) := by decide +kernel
theorem dX12_readsNumber_10 : decode cX12_readsNumber 10 = .ok (.aload_n 0, 1) := by decide +kernel
theorem dX12_readsNumber_11 : decode cX12_readsNumber 11 = .ok (.invokevirtual 148, 3) := by decide +kernel
theorem dX12_readsNumber_14 : decode cX12_readsNumber 14 = .ok (.ifCond .eq 55, 3) := by decide +kernel
theorem dX12_readsNumber_17 : decode cX12_readsNumber 17 = .ok (.aload_n 0, 1) := by decide +kernel
theorem dX12_readsNumber_18 : decode cX12_readsNumber 18 = .ok (.getfield 128, 3) := by decide +kernel
theorem dX12_readsNumber_21 : decode cX12_readsNumber 21 = .ok (.iload_n 1, 1) := by decide +kernel
theorem dX12_readsNumber_22 : decode cX12_readsNumber 22 = .ok (.iconst 5, 1) := by decide +kernel
theorem dX12_readsNumber_23 : decode cX12_readsNumber 23 = .ok (.iadd, 1) := by decide +kernel
theorem dX12_readsNumber_24 : decode cX12_readsNumber 24 = .ok (.if_icmp .ne 13, 3) := by decide +kernel
theorem dX12_readsNumber_27 : decode cX12_readsNumber 27 = .ok (.aload_n 0, 1) := by decide +kernel
theorem dX12_readsNumber_28 : decode cX12_readsNumber 28 = .ok (.iconst 2, 1) := by decide +kernel
theorem dX12_readsNumber_29 : decode cX12_readsNumber 29 = .ok (.aload_n 0, 1) := by decide +kernel
theorem dX12_readsNumber_30 : decode cX12_readsNumber 30 = .ok (.getfield 128, 3) := by decide +kernel
theorem dX12_readsNumber_33 : decode cX12_readsNumber 33 = .ok (.invokevirtual 141, 3) := by decide +kernel
theorem dX12_readsNumber_36 : decode cX12_readsNumber 36 = .ok (.ireturn, 1) := by decide +kernel
theorem dX12_readsNumber_37 : decode cX12_readsNumber 37 = .ok (.aload_n 0, 1) := by decide +kernel
theorem dX12_readsNumber_38 : decode cX12_readsNumber 38 = .ok (.bipush 10, 2) := by decide +kernel
theorem dX12_readsNumber_40 : decode cX12_readsNumber 40 = .ok (.aload_n 0, 1) := by decide +kernel
theorem dX12_readsNumber_41 : decode cX12_readsNumber 41 = .ok (.getfield 145, 3) := by decide +kernel
theorem dX12_readsNumber_44 : decode cX12_readsNumber 44 = .ok (.imul, 1) := by decide +kernel
theorem dX12_readsNumber_45 : decode cX12_readsNumber 45 = .ok (.aload_n 0, 1) := by decide +kernel
theorem dX12_readsNumber_46 : decode cX12_readsNumber 46 = .ok (.invokevirtual 134, 3) := by decide +kernel
theorem dX12_readsNumber_49 : decode cX12_readsNumber 49 = .ok (.iadd, 1) := by decide +kernel
theorem dX12_readsNumber_50 : decode cX12_readsNumber 50 = .ok (.bipush 48, 2) := by decide +kernel
theorem dX12_readsNumber_52 : decode cX12_readsNumber 52 = .ok (.isub, 1) := by decide +kernel
theorem dX12_readsNumber_53 : decode cX12_readsNumber 53 = .ok (.putfield 145, 3) := by decide +kernel
theorem dX12_readsNumber_56 : decode cX12_readsNumber 56 = .ok (.aload_n 0, 1) := by decide +kernel
theorem dX12_readsNumber_57 : decode cX12_readsNumber 57 = .ok (.aload_n 0, 1) := by decide +kernel
theorem dX12_readsNumber_58 : decode cX12_readsNumber 58 = .ok (.getfield 128, 3) := by decide +kernel
theorem dX12_readsNumber_61 : decode cX12_readsNumber 61 = .ok (.iconst 1, 1) := by decide +kernel
theorem dX12_readsNumber_62 : decode cX12_readsNumber 62 = .ok (.iadd, 1) := by decide +kernel
theorem dX12_readsNumber_63 : decode cX12_readsNumber 63 = .ok (.putfield 128, 3) := by decide +kernel
theorem dX12_readsNumber_66 : decode cX12_readsNumber 66 = .ok (.goto (-56), 3) := by decide +kernel
theorem dX12_readsNumber_69 : decode cX12_readsNumber 69 = .ok (.iconst 1, 1) := by decide +kernel
theorem dX12_readsNumber_70 : decode cX12_readsNumber 70 = .ok (.ireturn, 1) := by decide +kernel
theorem dX12_notes_0 : decode cX12_notes 0 = .ok (.aload_n 0, 1) := by decide +kernel
theorem dX12_notes_1 : decode cX12_notes 1 = .ok (.getfield 29, 3) := by decide +kernel
theorem dX12_notes_4 : decode cX12_notes 4 = .ok (.aload_n 0, 1) := by decide +kernel
theorem dX12_notes_5 : decode cX12_notes 5 = .ok (.getfield 152, 3) := by decide +kernel
theorem dX12_notes_8 : decode cX12_notes 8 = .ok (.ldc 155, 2) := by decide +kernel
theorem dX12_notes_10 : decode cX12_notes 10 = .ok (.iload_n 1, 1) := by decide +kernel
theorem dX12_notes_11 : decode cX12_notes 11 = .ok (.imul, 1) := by decide +kernel
theorem dX12_notes_12 : decode cX12_notes 12 = .ok (.iload_n 2, 1) := by decide +kernel
theorem dX12_notes_13 : decode cX12_notes 13 = .ok (.iadd, 1) := by decide +kernel
theorem dX12_notes_14 : decode cX12_notes 14 = .ok (.iastore, 1) := by decide +kernel
theorem dX12_notes_15 : decode cX12_notes 15 = .ok (.aload_n 0, 1) := by decide +kernel
theorem dX12_notes_16 : decode cX12_notes 16 = .ok (.aload_n 0, 1) := by decide +kernel
theorem dX12_notes_17 : decode cX12_notes 17 = .ok (.getfield 152, 3) := by decide +kernel
theorem dX12_notes_20 : decode cX12_notes 20 = .ok (.iconst 1, 1) := by decide +kernel
theorem dX12_notes_21 : decode cX12_notes 21 = .ok (.iadd, 1) := by decide +kernel
theorem dX12_notes_22 : decode cX12_notes 22 = .ok (.putfield 152, 3) := by decide +kernel
theorem dX12_notes_25 : decode cX12_notes 25 = .ok (.return_, 1) := by decide +kernel
theorem dX12_opens_0 : decode cX12_opens 0 = .ok (.aload_n 0, 1) := by decide +kernel
theorem dX12_opens_1 : decode cX12_opens 1 = .ok (.getfield 156, 3) := by decide +kernel
theorem dX12_opens_4 : decode cX12_opens 4 = .ok (.bipush 6, 2) := by decide +kernel
theorem dX12_opens_6 : decode cX12_opens 6 = .ok (.if_icmp .ne 13, 3) := by decide +kernel
theorem dX12_opens_9 : decode cX12_opens 9 = .ok (.aload_n 0, 1) := by decide +kernel
theorem dX12_opens_10 : decode cX12_opens 10 = .ok (.iconst 5, 1) := by decide +kernel
theorem dX12_opens_11 : decode cX12_opens 11 = .ok (.aload_n 0, 1) := by decide +kernel
theorem dX12_opens_12 : decode cX12_opens 12 = .ok (.getfield 128, 3) := by decide +kernel
theorem dX12_opens_15 : decode cX12_opens 15 = .ok (.invokevirtual 141, 3) := by decide +kernel
theorem dX12_opens_18 : decode cX12_opens 18 = .ok (.ireturn, 1) := by decide +kernel
theorem dX12_opens_19 : decode cX12_opens 19 = .ok (.aload_n 0, 1) := by decide +kernel
theorem dX12_opens_20 : decode cX12_opens 20 = .ok (.aload_n 0, 1) := by decide +kernel
theorem dX12_opens_21 : decode cX12_opens 21 = .ok (.getfield 156, 3) := by decide +kernel
theorem dX12_opens_24 : decode cX12_opens 24 = .ok (.iconst 1, 1) := by decide +kernel
theorem dX12_opens_25 : decode cX12_opens 25 = .ok (.iadd, 1) := by decide +kernel
theorem dX12_opens_26 : decode cX12_opens 26 = .ok (.putfield 156, 3) := by decide +kernel
theorem dX12_opens_29 : decode cX12_opens 29 = .ok (.aload_n 0, 1) := by decide +kernel
theorem dX12_opens_30 : decode cX12_opens 30 = .ok (.getfield 32, 3) := by decide +kernel
theorem dX12_opens_33 : decode cX12_opens 33 = .ok (.aload_n 0, 1) := by decide +kernel
theorem dX12_opens_34 : decode cX12_opens 34 = .ok (.getfield 159, 3) := by decide +kernel
theorem dX12_opens_37 : decode cX12_opens 37 = .ok (.ldc 155, 2) := by decide +kernel
theorem dX12_opens_39 : decode cX12_opens 39 = .ok (.iload_n 1, 1) := by decide +kernel
theorem dX12_opens_40 : decode cX12_opens 40 = .ok (.imul, 1) := by decide +kernel
theorem dX12_opens_41 : decode cX12_opens 41 = .ok (.iastore, 1) := by decide +kernel
theorem dX12_opens_42 : decode cX12_opens 42 = .ok (.aload_n 0, 1) := by decide +kernel
theorem dX12_opens_43 : decode cX12_opens 43 = .ok (.aload_n 0, 1) := by decide +kernel
theorem dX12_opens_44 : decode cX12_opens 44 = .ok (.getfield 159, 3) := by decide +kernel
theorem dX12_opens_47 : decode cX12_opens 47 = .ok (.iconst 1, 1) := by decide +kernel
theorem dX12_opens_48 : decode cX12_opens 48 = .ok (.iadd, 1) := by decide +kernel
theorem dX12_opens_49 : decode cX12_opens 49 = .ok (.putfield 159, 3) := by decide +kernel
theorem dX12_opens_52 : decode cX12_opens 52 = .ok (.aload_n 0, 1) := by decide +kernel
theorem dX12_opens_53 : decode cX12_opens 53 = .ok (.aload_n 0, 1) := by decide +kernel
theorem dX12_opens_54 : decode cX12_opens 54 = .ok (.getfield 128, 3) := by decide +kernel
theorem dX12_opens_57 : decode cX12_opens 57 = .ok (.iconst 1, 1) := by decide +kernel
theorem dX12_opens_58 : decode cX12_opens 58 = .ok (.iadd, 1) := by decide +kernel
theorem dX12_opens_59 : decode cX12_opens 59 = .ok (.putfield 128, 3) := by decide +kernel
theorem dX12_opens_62 : decode cX12_opens 62 = .ok (.iconst 1, 1) := by decide +kernel
theorem dX12_opens_63 : decode cX12_opens 63 = .ok (.ireturn, 1) := by decide +kernel
theorem dX12_waitTop_0 : decode cX12_waitTop 0 = .ok (.aload_n 0, 1) := by decide +kernel
theorem dX12_waitTop_1 : decode cX12_waitTop 1 = .ok (.getfield 159, 3) := by decide +kernel
theorem dX12_waitTop_4 : decode cX12_waitTop 4 = .ok (.ifCond .ne 7, 3) := by decide +kernel
theorem dX12_waitTop_7 : decode cX12_waitTop 7 = .ok (.iconst (-1), 1) := by decide +kernel
theorem dX12_waitTop_8 : decode cX12_waitTop 8 = .ok (.goto 17, 3) := by decide +kernel
theorem dX12_waitTop_11 : decode cX12_waitTop 11 = .ok (.aload_n 0, 1) := by decide +kernel
theorem dX12_waitTop_12 : decode cX12_waitTop 12 = .ok (.getfield 32, 3) := by decide +kernel
theorem dX12_waitTop_15 : decode cX12_waitTop 15 = .ok (.aload_n 0, 1) := by decide +kernel
theorem dX12_waitTop_16 : decode cX12_waitTop 16 = .ok (.getfield 159, 3) := by decide +kernel
theorem dX12_waitTop_19 : decode cX12_waitTop 19 = .ok (.iconst 1, 1) := by decide +kernel
theorem dX12_waitTop_20 : decode cX12_waitTop 20 = .ok (.isub, 1) := by decide +kernel
theorem dX12_waitTop_21 : decode cX12_waitTop 21 = .ok (.iaload, 1) := by decide +kernel
theorem dX12_waitTop_22 : decode cX12_waitTop 22 = .ok (.ldc 155, 2) := by decide +kernel
theorem dX12_waitTop_24 : decode cX12_waitTop 24 = .ok (.idiv, 1) := by decide +kernel
theorem dX12_waitTop_25 : decode cX12_waitTop 25 = .ok (.ireturn, 1) := by decide +kernel
theorem dX12_factOf_0 : decode cX12_factOf 0 = .ok (.iload_n 0, 1) := by decide +kernel
theorem dX12_factOf_1 : decode cX12_factOf 1 = .ok (.tableswitch 128 97 119 #[113, 115, 128, 109, 128, 128, 128, 111, 128, 128, 107, 128, 119, 117, 128, 128, 128, 128, 128, 122, 128, 128, 125], 107) := by decide +kernel
theorem dX12_factOf_108 : decode cX12_factOf 108 = .ok (.iconst 0, 1) := by decide +kernel
theorem dX12_factOf_109 : decode cX12_factOf 109 = .ok (.ireturn, 1) := by decide +kernel
theorem dX12_factOf_110 : decode cX12_factOf 110 = .ok (.iconst 1, 1) := by decide +kernel
theorem dX12_factOf_111 : decode cX12_factOf 111 = .ok (.ireturn, 1) := by decide +kernel
theorem dX12_factOf_112 : decode cX12_factOf 112 = .ok (.iconst 2, 1) := by decide +kernel
theorem dX12_factOf_113 : decode cX12_factOf 113 = .ok (.ireturn, 1) := by decide +kernel
theorem dX12_factOf_114 : decode cX12_factOf 114 = .ok (.iconst 3, 1) := by decide +kernel
theorem dX12_factOf_115 : decode cX12_factOf 115 = .ok (.ireturn, 1) := by decide +kernel
theorem dX12_factOf_116 : decode cX12_factOf 116 = .ok (.iconst 4, 1) := by decide +kernel
theorem dX12_factOf_117 : decode cX12_factOf 117 = .ok (.ireturn, 1) := by decide +kernel
theorem dX12_factOf_118 : decode cX12_factOf 118 = .ok (.iconst 5, 1) := by decide +kernel
theorem dX12_factOf_119 : decode cX12_factOf 119 = .ok (.ireturn, 1) := by decide +kernel
theorem dX12_factOf_120 : decode cX12_factOf 120 = .ok (.bipush 6, 2) := by decide +kernel
theorem dX12_factOf_122 : decode cX12_factOf 122 = .ok (.ireturn, 1) := by decide +kernel
theorem dX12_factOf_123 : decode cX12_factOf 123 = .ok (.bipush 7, 2) := by decide +kernel
theorem dX12_factOf_125 : decode cX12_factOf 125 = .ok (.ireturn, 1) := by decide +kernel
theorem dX12_factOf_126 : decode cX12_factOf 126 = .ok (.bipush 8, 2) := by decide +kernel
theorem dX12_factOf_128 : decode cX12_factOf 128 = .ok (.ireturn, 1) := by decide +kernel
theorem dX12_factOf_129 : decode cX12_factOf 129 = .ok (.iconst (-1), 1) := by decide +kernel
theorem dX12_factOf_130 : decode cX12_factOf 130 = .ok (.ireturn, 1) := by decide +kernel
theorem dX12_sumSign_0 : decode cX12_sumSign 0 = .ok (.iload_n 0, 1) := by decide +kernel
theorem dX12_sumSign_1 : decode cX12_sumSign 1 = .ok (.bipush 43, 2) := by decide +kernel
theorem dX12_sumSign_3 : decode cX12_sumSign 3 = .ok (.if_icmp .ne 7, 3) := by decide +kernel
theorem dX12_sumSign_6 : decode cX12_sumSign 6 = .ok (.iconst 2, 1) := by decide +kernel
theorem dX12_sumSign_7 : decode cX12_sumSign 7 = .ok (.goto 45, 3) := by decide +kernel
theorem dX12_sumSign_10 : decode cX12_sumSign 10 = .ok (.iload_n 0, 1) := by decide +kernel
theorem dX12_sumSign_11 : decode cX12_sumSign 11 = .ok (.bipush 45, 2) := by decide +kernel
theorem dX12_sumSign_13 : decode cX12_sumSign 13 = .ok (.if_icmp .ne 7, 3) := by decide +kernel
theorem dX12_sumSign_16 : decode cX12_sumSign 16 = .ok (.iconst 3, 1) := by decide +kernel
theorem dX12_sumSign_17 : decode cX12_sumSign 17 = .ok (.goto 35, 3) := by decide +kernel
theorem dX12_sumSign_20 : decode cX12_sumSign 20 = .ok (.iload_n 0, 1) := by decide +kernel
theorem dX12_sumSign_21 : decode cX12_sumSign 21 = .ok (.bipush 42, 2) := by decide +kernel
theorem dX12_sumSign_23 : decode cX12_sumSign 23 = .ok (.if_icmp .ne 7, 3) := by decide +kernel
theorem dX12_sumSign_26 : decode cX12_sumSign 26 = .ok (.iconst 4, 1) := by decide +kernel
theorem dX12_sumSign_27 : decode cX12_sumSign 27 = .ok (.goto 25, 3) := by decide +kernel
theorem dX12_sumSign_30 : decode cX12_sumSign 30 = .ok (.iload_n 0, 1) := by decide +kernel
theorem dX12_sumSign_31 : decode cX12_sumSign 31 = .ok (.bipush 47, 2) := by decide +kernel
theorem dX12_sumSign_33 : decode cX12_sumSign 33 = .ok (.if_icmp .ne 7, 3) := by decide +kernel
theorem dX12_sumSign_36 : decode cX12_sumSign 36 = .ok (.iconst 5, 1) := by decide +kernel
theorem dX12_sumSign_37 : decode cX12_sumSign 37 = .ok (.goto 15, 3) := by decide +kernel
theorem dX12_sumSign_40 : decode cX12_sumSign 40 = .ok (.iload_n 0, 1) := by decide +kernel
theorem dX12_sumSign_41 : decode cX12_sumSign 41 = .ok (.bipush 37, 2) := by decide +kernel
theorem dX12_sumSign_43 : decode cX12_sumSign 43 = .ok (.if_icmp .ne 8, 3) := by decide +kernel
theorem dX12_sumSign_46 : decode cX12_sumSign 46 = .ok (.bipush 6, 2) := by decide +kernel
theorem dX12_sumSign_48 : decode cX12_sumSign 48 = .ok (.goto 4, 3) := by decide +kernel
theorem dX12_sumSign_51 : decode cX12_sumSign 51 = .ok (.iconst (-1), 1) := by decide +kernel
theorem dX12_sumSign_52 : decode cX12_sumSign 52 = .ok (.ireturn, 1) := by decide +kernel
theorem dX12_closesSums_0 : decode cX12_closesSums 0 = .ok (.aload_n 0, 1) := by decide +kernel
theorem dX12_closesSums_1 : decode cX12_closesSums 1 = .ok (.invokevirtual 162, 3) := by decide +kernel
theorem dX12_closesSums_4 : decode cX12_closesSums 4 = .ok (.iconst 4, 1) := by decide +kernel
theorem dX12_closesSums_5 : decode cX12_closesSums 5 = .ok (.if_icmp .lt 12, 3) := by decide +kernel
theorem dX12_closesSums_8 : decode cX12_closesSums 8 = .ok (.aload_n 0, 1) := by decide +kernel
theorem dX12_closesSums_9 : decode cX12_closesSums 9 = .ok (.invokevirtual 162, 3) := by decide +kernel
theorem dX12_closesSums_12 : decode cX12_closesSums 12 = .ok (.bipush 6, 2) := by decide +kernel
theorem dX12_closesSums_14 : decode cX12_closesSums 14 = .ok (.if_icmp .le 23, 3) := by decide +kernel
theorem dX12_closesSums_17 : decode cX12_closesSums 17 = .ok (.iload_n 1, 1) := by decide +kernel
theorem dX12_closesSums_18 : decode cX12_closesSums 18 = .ok (.ifCond .eq 41, 3) := by decide +kernel
theorem dX12_closesSums_21 : decode cX12_closesSums 21 = .ok (.aload_n 0, 1) := by decide +kernel
theorem dX12_closesSums_22 : decode cX12_closesSums 22 = .ok (.invokevirtual 162, 3) := by decide +kernel
theorem dX12_closesSums_25 : decode cX12_closesSums 25 = .ok (.iconst 2, 1) := by decide +kernel
theorem dX12_closesSums_26 : decode cX12_closesSums 26 = .ok (.if_icmp .eq 11, 3) := by decide +kernel
theorem dX12_closesSums_29 : decode cX12_closesSums 29 = .ok (.aload_n 0, 1) := by decide +kernel
theorem dX12_closesSums_30 : decode cX12_closesSums 30 = .ok (.invokevirtual 162, 3) := by decide +kernel
theorem dX12_closesSums_33 : decode cX12_closesSums 33 = .ok (.iconst 3, 1) := by decide +kernel
theorem dX12_closesSums_34 : decode cX12_closesSums 34 = .ok (.if_icmp .ne 25, 3) := by decide +kernel
theorem dX12_closesSums_37 : decode cX12_closesSums 37 = .ok (.aload_n 0, 1) := by decide +kernel
theorem dX12_closesSums_38 : decode cX12_closesSums 38 = .ok (.aload_n 0, 1) := by decide +kernel
theorem dX12_closesSums_39 : decode cX12_closesSums 39 = .ok (.invokevirtual 162, 3) := by decide +kernel
theorem dX12_closesSums_42 : decode cX12_closesSums 42 = .ok (.iconst 0, 1) := by decide +kernel
theorem dX12_closesSums_43 : decode cX12_closesSums 43 = .ok (.invokevirtual 165, 3) := by decide +kernel
theorem dX12_closesSums_46 : decode cX12_closesSums 46 = .ok (.aload_n 0, 1) := by decide +kernel
theorem dX12_closesSums_47 : decode cX12_closesSums 47 = .ok (.aload_n 0, 1) := by decide +kernel
theorem dX12_closesSums_48 : decode cX12_closesSums 48 = .ok (.getfield 159, 3) := by decide +kernel
theorem dX12_closesSums_51 : decode cX12_closesSums 51 = .ok (.iconst 1, 1) := by decide +kernel
theorem dX12_closesSums_52 : decode cX12_closesSums 52 = .ok (.isub, 1) := by decide +kernel
theorem dX12_closesSums_53 : decode cX12_closesSums 53 = .ok (.putfield 159, 3) := by decide +kernel
theorem dX12_closesSums_56 : decode cX12_closesSums 56 = .ok (.goto (-56), 3) := by decide +kernel
theorem dX12_closesSums_59 : decode cX12_closesSums 59 = .ok (.return_, 1) := by decide +kernel
theorem dX12_readsFactor_0 : decode cX12_readsFactor 0 = .ok (.aload_n 0, 1) := by decide +kernel
theorem dX12_readsFactor_1 : decode cX12_readsFactor 1 = .ok (.invokevirtual 134, 3) := by decide +kernel
theorem dX12_readsFactor_4 : decode cX12_readsFactor 4 = .ok (.bipush 91, 2) := by decide +kernel
theorem dX12_readsFactor_6 : decode cX12_readsFactor 6 = .ok (.if_icmp .ne 14, 3) := by decide +kernel
theorem dX12_readsFactor_9 : decode cX12_readsFactor 9 = .ok (.aload_n 0, 1) := by decide +kernel
theorem dX12_readsFactor_10 : decode cX12_readsFactor 10 = .ok (.bipush 14, 2) := by decide +kernel
theorem dX12_readsFactor_12 : decode cX12_readsFactor 12 = .ok (.invokevirtual 169, 3) := by decide +kernel
theorem dX12_readsFactor_15 : decode cX12_readsFactor 15 = .ok (.ifCond .ne (-15), 3) := by decide +kernel
theorem dX12_readsFactor_18 : decode cX12_readsFactor 18 = .ok (.iconst 0, 1) := by decide +kernel
theorem dX12_readsFactor_19 : decode cX12_readsFactor 19 = .ok (.ireturn, 1) := by decide +kernel
theorem dX12_readsFactor_20 : decode cX12_readsFactor 20 = .ok (.aload_n 0, 1) := by decide +kernel
theorem dX12_readsFactor_21 : decode cX12_readsFactor 21 = .ok (.invokevirtual 148, 3) := by decide +kernel
theorem dX12_readsFactor_24 : decode cX12_readsFactor 24 = .ok (.ifCond .eq 23, 3) := by decide +kernel
theorem dX12_readsFactor_27 : decode cX12_readsFactor 27 = .ok (.aload_n 0, 1) := by decide +kernel
theorem dX12_readsFactor_28 : decode cX12_readsFactor 28 = .ok (.invokevirtual 172, 3) := by decide +kernel
theorem dX12_readsFactor_31 : decode cX12_readsFactor 31 = .ok (.ifCond .ne 5, 3) := by decide +kernel
theorem dX12_readsFactor_34 : decode cX12_readsFactor 34 = .ok (.iconst 0, 1) := by decide +kernel
theorem dX12_readsFactor_35 : decode cX12_readsFactor 35 = .ok (.ireturn, 1) := by decide +kernel
theorem dX12_readsFactor_36 : decode cX12_readsFactor 36 = .ok (.aload_n 0, 1) := by decide +kernel
theorem dX12_readsFactor_37 : decode cX12_readsFactor 37 = .ok (.iconst 0, 1) := by decide +kernel
theorem dX12_readsFactor_38 : decode cX12_readsFactor 38 = .ok (.aload_n 0, 1) := by decide +kernel
theorem dX12_readsFactor_39 : decode cX12_readsFactor 39 = .ok (.getfield 145, 3) := by decide +kernel
theorem dX12_readsFactor_42 : decode cX12_readsFactor 42 = .ok (.invokevirtual 165, 3) := by decide +kernel
theorem dX12_readsFactor_45 : decode cX12_readsFactor 45 = .ok (.iconst 1, 1) := by decide +kernel
theorem dX12_readsFactor_46 : decode cX12_readsFactor 46 = .ok (.ireturn, 1) := by decide +kernel
theorem dX12_readsFactor_47 : decode cX12_readsFactor 47 = .ok (.aload_n 0, 1) := by decide +kernel
theorem dX12_readsFactor_48 : decode cX12_readsFactor 48 = .ok (.invokevirtual 134, 3) := by decide +kernel
theorem dX12_readsFactor_51 : decode cX12_readsFactor 51 = .ok (.invokestatic 175, 3) := by decide +kernel
theorem dX12_readsFactor_54 : decode cX12_readsFactor 54 = .ok (.istore_n 1, 1) := by decide +kernel
theorem dX12_readsFactor_55 : decode cX12_readsFactor 55 = .ok (.iload_n 1, 1) := by decide +kernel
theorem dX12_readsFactor_56 : decode cX12_readsFactor 56 = .ok (.iconst (-1), 1) := by decide +kernel
theorem dX12_readsFactor_57 : decode cX12_readsFactor 57 = .ok (.if_icmp .ne 13, 3) := by decide +kernel
theorem dX12_readsFactor_60 : decode cX12_readsFactor 60 = .ok (.aload_n 0, 1) := by decide +kernel
theorem dX12_readsFactor_61 : decode cX12_readsFactor 61 = .ok (.iconst 1, 1) := by decide +kernel
theorem dX12_readsFactor_62 : decode cX12_readsFactor 62 = .ok (.aload_n 0, 1) := by decide +kernel
theorem dX12_readsFactor_63 : decode cX12_readsFactor 63 = .ok (.getfield 128, 3) := by decide +kernel
theorem dX12_readsFactor_66 : decode cX12_readsFactor 66 = .ok (.invokevirtual 141, 3) := by decide +kernel
theorem dX12_readsFactor_69 : decode cX12_readsFactor 69 = .ok (.ireturn, 1) := by decide +kernel
theorem dX12_readsFactor_70 : decode cX12_readsFactor 70 = .ok (.aload_n 0, 1) := by decide +kernel
theorem dX12_readsFactor_71 : decode cX12_readsFactor 71 = .ok (.iconst 1, 1) := by decide +kernel
theorem dX12_readsFactor_72 : decode cX12_readsFactor 72 = .ok (.iload_n 1, 1) := by decide +kernel
theorem dX12_readsFactor_73 : decode cX12_readsFactor 73 = .ok (.invokevirtual 165, 3) := by decide +kernel
theorem dX12_readsFactor_76 : decode cX12_readsFactor 76 = .ok (.aload_n 0, 1) := by decide +kernel
theorem dX12_readsFactor_77 : decode cX12_readsFactor 77 = .ok (.aload_n 0, 1) := by decide +kernel
theorem dX12_readsFactor_78 : decode cX12_readsFactor 78 = .ok (.getfield 128, 3) := by decide +kernel
theorem dX12_readsFactor_81 : decode cX12_readsFactor 81 = .ok (.iconst 1, 1) := by decide +kernel
theorem dX12_readsFactor_82 : decode cX12_readsFactor 82 = .ok (.iadd, 1) := by decide +kernel
theorem dX12_readsFactor_83 : decode cX12_readsFactor 83 = .ok (.putfield 128, 3) := by decide +kernel
theorem dX12_readsFactor_86 : decode cX12_readsFactor 86 = .ok (.iconst 1, 1) := by decide +kernel
theorem dX12_readsFactor_87 : decode cX12_readsFactor 87 = .ok (.ireturn, 1) := by decide +kernel
theorem dX12_hasOpenSum_0 : decode cX12_hasOpenSum 0 = .ok (.iload_n 1, 1) := by decide +kernel
theorem dX12_hasOpenSum_1 : decode cX12_hasOpenSum 1 = .ok (.istore_n 2, 1) := by decide +kernel
theorem dX12_hasOpenSum_2 : decode cX12_hasOpenSum 2 = .ok (.iload_n 2, 1) := by decide +kernel
theorem dX12_hasOpenSum_3 : decode cX12_hasOpenSum 3 = .ok (.aload_n 0, 1) := by decide +kernel
theorem dX12_hasOpenSum_4 : decode cX12_hasOpenSum 4 = .ok (.getfield 159, 3) := by decide +kernel
theorem dX12_hasOpenSum_7 : decode cX12_hasOpenSum 7 = .ok (.if_icmp .ge 25, 3) := by decide +kernel
theorem dX12_hasOpenSum_10 : decode cX12_hasOpenSum 10 = .ok (.aload_n 0, 1) := by decide +kernel
theorem dX12_hasOpenSum_11 : decode cX12_hasOpenSum 11 = .ok (.getfield 32, 3) := by decide +kernel
theorem dX12_hasOpenSum_14 : decode cX12_hasOpenSum 14 = .ok (.iload_n 2, 1) := by decide +kernel
theorem dX12_hasOpenSum_15 : decode cX12_hasOpenSum 15 = .ok (.iaload, 1) := by decide +kernel
theorem dX12_hasOpenSum_16 : decode cX12_hasOpenSum 16 = .ok (.ldc 155, 2) := by decide +kernel
theorem dX12_hasOpenSum_18 : decode cX12_hasOpenSum 18 = .ok (.idiv, 1) := by decide +kernel
theorem dX12_hasOpenSum_19 : decode cX12_hasOpenSum 19 = .ok (.bipush 14, 2) := by decide +kernel
theorem dX12_hasOpenSum_21 : decode cX12_hasOpenSum 21 = .ok (.if_icmp .ne 5, 3) := by decide +kernel
theorem dX12_hasOpenSum_24 : decode cX12_hasOpenSum 24 = .ok (.iconst 1, 1) := by decide +kernel
theorem dX12_hasOpenSum_25 : decode cX12_hasOpenSum 25 = .ok (.ireturn, 1) := by decide +kernel
theorem dX12_hasOpenSum_26 : decode cX12_hasOpenSum 26 = .ok (.iinc 2 1, 3) := by decide +kernel
theorem dX12_hasOpenSum_29 : decode cX12_hasOpenSum 29 = .ok (.goto (-27), 3) := by decide +kernel
theorem dX12_hasOpenSum_32 : decode cX12_hasOpenSum 32 = .ok (.iconst 0, 1) := by decide +kernel
theorem dX12_hasOpenSum_33 : decode cX12_hasOpenSum 33 = .ok (.ireturn, 1) := by decide +kernel
theorem dX12_readsSum_0 : decode cX12_readsSum 0 = .ok (.aload_n 0, 1) := by decide +kernel
theorem dX12_readsSum_1 : decode cX12_readsSum 1 = .ok (.getfield 159, 3) := by decide +kernel
theorem dX12_readsSum_4 : decode cX12_readsSum 4 = .ok (.istore_n 1, 1) := by decide +kernel
theorem dX12_readsSum_5 : decode cX12_readsSum 5 = .ok (.aload_n 0, 1) := by decide +kernel
theorem dX12_readsSum_6 : decode cX12_readsSum 6 = .ok (.invokevirtual 179, 3) := by decide +kernel
theorem dX12_readsSum_9 : decode cX12_readsSum 9 = .ok (.ifCond .ne 5, 3) := by decide +kernel
theorem dX12_readsSum_12 : decode cX12_readsSum 12 = .ok (.iconst 0, 1) := by decide +kernel
theorem dX12_readsSum_13 : decode cX12_readsSum 13 = .ok (.ireturn, 1) := by decide +kernel
theorem dX12_readsSum_14 : decode cX12_readsSum 14 = .ok (.aload_n 0, 1) := by decide +kernel
theorem dX12_readsSum_15 : decode cX12_readsSum 15 = .ok (.invokevirtual 134, 3) := by decide +kernel
theorem dX12_readsSum_18 : decode cX12_readsSum 18 = .ok (.invokestatic 182, 3) := by decide +kernel
theorem dX12_readsSum_21 : decode cX12_readsSum 21 = .ok (.istore_n 2, 1) := by decide +kernel
theorem dX12_readsSum_22 : decode cX12_readsSum 22 = .ok (.iload_n 2, 1) := by decide +kernel
theorem dX12_readsSum_23 : decode cX12_readsSum 23 = .ok (.iconst (-1), 1) := by decide +kernel
theorem dX12_readsSum_24 : decode cX12_readsSum 24 = .ok (.if_icmp .eq 59, 3) := by decide +kernel
theorem dX12_readsSum_27 : decode cX12_readsSum 27 = .ok (.aload_n 0, 1) := by decide +kernel
theorem dX12_readsSum_28 : decode cX12_readsSum 28 = .ok (.iload_n 2, 1) := by decide +kernel
theorem dX12_readsSum_29 : decode cX12_readsSum 29 = .ok (.iconst 4, 1) := by decide +kernel
theorem dX12_readsSum_30 : decode cX12_readsSum 30 = .ok (.if_icmp .ge 7, 3) := by decide +kernel
theorem dX12_readsSum_33 : decode cX12_readsSum 33 = .ok (.iconst 1, 1) := by decide +kernel
theorem dX12_readsSum_34 : decode cX12_readsSum 34 = .ok (.goto 4, 3) := by decide +kernel
theorem dX12_readsSum_37 : decode cX12_readsSum 37 = .ok (.iconst 0, 1) := by decide +kernel
theorem dX12_readsSum_38 : decode cX12_readsSum 38 = .ok (.invokevirtual 185, 3) := by decide +kernel
theorem dX12_readsSum_41 : decode cX12_readsSum 41 = .ok (.aload_n 0, 1) := by decide +kernel
theorem dX12_readsSum_42 : decode cX12_readsSum 42 = .ok (.getfield 32, 3) := by decide +kernel
theorem dX12_readsSum_45 : decode cX12_readsSum 45 = .ok (.aload_n 0, 1) := by decide +kernel
theorem dX12_readsSum_46 : decode cX12_readsSum 46 = .ok (.getfield 159, 3) := by decide +kernel
theorem dX12_readsSum_49 : decode cX12_readsSum 49 = .ok (.ldc 155, 2) := by decide +kernel
theorem dX12_readsSum_51 : decode cX12_readsSum 51 = .ok (.iload_n 2, 1) := by decide +kernel
theorem dX12_readsSum_52 : decode cX12_readsSum 52 = .ok (.imul, 1) := by decide +kernel
theorem dX12_readsSum_53 : decode cX12_readsSum 53 = .ok (.iastore, 1) := by decide +kernel
theorem dX12_readsSum_54 : decode cX12_readsSum 54 = .ok (.aload_n 0, 1) := by decide +kernel
theorem dX12_readsSum_55 : decode cX12_readsSum 55 = .ok (.aload_n 0, 1) := by decide +kernel
theorem dX12_readsSum_56 : decode cX12_readsSum 56 = .ok (.getfield 159, 3) := by decide +kernel
theorem dX12_readsSum_59 : decode cX12_readsSum 59 = .ok (.iconst 1, 1) := by decide +kernel
theorem dX12_readsSum_60 : decode cX12_readsSum 60 = .ok (.iadd, 1) := by decide +kernel
theorem dX12_readsSum_61 : decode cX12_readsSum 61 = .ok (.putfield 159, 3) := by decide +kernel
theorem dX12_readsSum_64 : decode cX12_readsSum 64 = .ok (.aload_n 0, 1) := by decide +kernel
theorem dX12_readsSum_65 : decode cX12_readsSum 65 = .ok (.aload_n 0, 1) := by decide +kernel
theorem dX12_readsSum_66 : decode cX12_readsSum 66 = .ok (.getfield 128, 3) := by decide +kernel
theorem dX12_readsSum_69 : decode cX12_readsSum 69 = .ok (.iconst 1, 1) := by decide +kernel
theorem dX12_readsSum_70 : decode cX12_readsSum 70 = .ok (.iadd, 1) := by decide +kernel
theorem dX12_readsSum_71 : decode cX12_readsSum 71 = .ok (.putfield 128, 3) := by decide +kernel
theorem dX12_readsSum_74 : decode cX12_readsSum 74 = .ok (.aload_n 0, 1) := by decide +kernel
theorem dX12_readsSum_75 : decode cX12_readsSum 75 = .ok (.invokevirtual 179, 3) := by decide +kernel
theorem dX12_readsSum_78 : decode cX12_readsSum 78 = .ok (.ifCond .ne 85, 3) := by decide +kernel
theorem dX12_readsSum_81 : decode cX12_readsSum 81 = .ok (.iconst 0, 1) := by decide +kernel
theorem dX12_readsSum_82 : decode cX12_readsSum 82 = .ok (.ireturn, 1) := by decide +kernel
theorem dX12_readsSum_83 : decode cX12_readsSum 83 = .ok (.aload_n 0, 1) := by decide +kernel
theorem dX12_readsSum_84 : decode cX12_readsSum 84 = .ok (.invokevirtual 134, 3) := by decide +kernel
theorem dX12_readsSum_87 : decode cX12_readsSum 87 = .ok (.bipush 93, 2) := by decide +kernel
theorem dX12_readsSum_89 : decode cX12_readsSum 89 = .ok (.if_icmp .ne 49, 3) := by decide +kernel
theorem dX12_readsSum_92 : decode cX12_readsSum 92 = .ok (.aload_n 0, 1) := by decide +kernel
theorem dX12_readsSum_93 : decode cX12_readsSum 93 = .ok (.iload_n 1, 1) := by decide +kernel
theorem dX12_readsSum_94 : decode cX12_readsSum 94 = .ok (.invokevirtual 189, 3) := by decide +kernel
theorem dX12_readsSum_97 : decode cX12_readsSum 97 = .ok (.ifCond .eq 41, 3) := by decide +kernel
theorem dX12_readsSum_100 : decode cX12_readsSum 100 = .ok (.aload_n 0, 1) := by decide +kernel
theorem dX12_readsSum_101 : decode cX12_readsSum 101 = .ok (.iconst 1, 1) := by decide +kernel
theorem dX12_readsSum_102 : decode cX12_readsSum 102 = .ok (.invokevirtual 185, 3) := by decide +kernel
theorem dX12_readsSum_105 : decode cX12_readsSum 105 = .ok (.aload_n 0, 1) := by decide +kernel
theorem dX12_readsSum_106 : decode cX12_readsSum 106 = .ok (.aload_n 0, 1) := by decide +kernel
theorem dX12_readsSum_107 : decode cX12_readsSum 107 = .ok (.getfield 159, 3) := by decide +kernel
theorem dX12_readsSum_110 : decode cX12_readsSum 110 = .ok (.iconst 1, 1) := by decide +kernel
theorem dX12_readsSum_111 : decode cX12_readsSum 111 = .ok (.isub, 1) := by decide +kernel
theorem dX12_readsSum_112 : decode cX12_readsSum 112 = .ok (.putfield 159, 3) := by decide +kernel
theorem dX12_readsSum_115 : decode cX12_readsSum 115 = .ok (.aload_n 0, 1) := by decide +kernel
theorem dX12_readsSum_116 : decode cX12_readsSum 116 = .ok (.aload_n 0, 1) := by decide +kernel
theorem dX12_readsSum_117 : decode cX12_readsSum 117 = .ok (.getfield 156, 3) := by decide +kernel
theorem dX12_readsSum_120 : decode cX12_readsSum 120 = .ok (.iconst 1, 1) := by decide +kernel
theorem dX12_readsSum_121 : decode cX12_readsSum 121 = .ok (.isub, 1) := by decide +kernel
theorem dX12_readsSum_122 : decode cX12_readsSum 122 = .ok (.putfield 156, 3) := by decide +kernel
theorem dX12_readsSum_125 : decode cX12_readsSum 125 = .ok (.aload_n 0, 1) := by decide +kernel
theorem dX12_readsSum_126 : decode cX12_readsSum 126 = .ok (.aload_n 0, 1) := by decide +kernel
theorem dX12_readsSum_127 : decode cX12_readsSum 127 = .ok (.getfield 128, 3) := by decide +kernel
theorem dX12_readsSum_130 : decode cX12_readsSum 130 = .ok (.iconst 1, 1) := by decide +kernel
theorem dX12_readsSum_131 : decode cX12_readsSum 131 = .ok (.iadd, 1) := by decide +kernel
theorem dX12_readsSum_132 : decode cX12_readsSum 132 = .ok (.putfield 128, 3) := by decide +kernel
theorem dX12_readsSum_135 : decode cX12_readsSum 135 = .ok (.goto 28, 3) := by decide +kernel
theorem dX12_readsSum_138 : decode cX12_readsSum 138 = .ok (.aload_n 0, 1) := by decide +kernel
theorem dX12_readsSum_139 : decode cX12_readsSum 139 = .ok (.iload_n 1, 1) := by decide +kernel
theorem dX12_readsSum_140 : decode cX12_readsSum 140 = .ok (.invokevirtual 189, 3) := by decide +kernel
theorem dX12_readsSum_143 : decode cX12_readsSum 143 = .ok (.ifCond .eq 13, 3) := by decide +kernel
theorem dX12_readsSum_146 : decode cX12_readsSum 146 = .ok (.aload_n 0, 1) := by decide +kernel
theorem dX12_readsSum_147 : decode cX12_readsSum 147 = .ok (.iconst 1, 1) := by decide +kernel
theorem dX12_readsSum_148 : decode cX12_readsSum 148 = .ok (.aload_n 0, 1) := by decide +kernel
theorem dX12_readsSum_149 : decode cX12_readsSum 149 = .ok (.getfield 128, 3) := by decide +kernel
theorem dX12_readsSum_152 : decode cX12_readsSum 152 = .ok (.invokevirtual 141, 3) := by decide +kernel
theorem dX12_readsSum_155 : decode cX12_readsSum 155 = .ok (.ireturn, 1) := by decide +kernel
theorem dX12_readsSum_156 : decode cX12_readsSum 156 = .ok (.aload_n 0, 1) := by decide +kernel
theorem dX12_readsSum_157 : decode cX12_readsSum 157 = .ok (.iconst 1, 1) := by decide +kernel
theorem dX12_readsSum_158 : decode cX12_readsSum 158 = .ok (.invokevirtual 185, 3) := by decide +kernel
theorem dX12_readsSum_161 : decode cX12_readsSum 161 = .ok (.iconst 1, 1) := by decide +kernel
theorem dX12_readsSum_162 : decode cX12_readsSum 162 = .ok (.ireturn, 1) := by decide +kernel
theorem dX12_readsSum_163 : decode cX12_readsSum 163 = .ok (.goto (-149), 3) := by decide +kernel
theorem dX12_endsPiece_0 : decode cX12_endsPiece 0 = .ok (.aload_n 0, 1) := by decide +kernel
theorem dX12_endsPiece_1 : decode cX12_endsPiece 1 = .ok (.invokevirtual 162, 3) := by decide +kernel
theorem dX12_endsPiece_4 : decode cX12_endsPiece 4 = .ok (.bipush 10, 2) := by decide +kernel
theorem dX12_endsPiece_6 : decode cX12_endsPiece 6 = .ok (.if_icmp .ne 33, 3) := by decide +kernel
theorem dX12_endsPiece_9 : decode cX12_endsPiece 9 = .ok (.aload_n 0, 1) := by decide +kernel
theorem dX12_endsPiece_10 : decode cX12_endsPiece 10 = .ok (.bipush 10, 2) := by decide +kernel
theorem dX12_endsPiece_12 : decode cX12_endsPiece 12 = .ok (.iconst 0, 1) := by decide +kernel
theorem dX12_endsPiece_13 : decode cX12_endsPiece 13 = .ok (.invokevirtual 165, 3) := by decide +kernel
theorem dX12_endsPiece_16 : decode cX12_endsPiece 16 = .ok (.aload_n 0, 1) := by decide +kernel
theorem dX12_endsPiece_17 : decode cX12_endsPiece 17 = .ok (.aload_n 0, 1) := by decide +kernel
theorem dX12_endsPiece_18 : decode cX12_endsPiece 18 = .ok (.getfield 159, 3) := by decide +kernel
theorem dX12_endsPiece_21 : decode cX12_endsPiece 21 = .ok (.iconst 1, 1) := by decide +kernel
theorem dX12_endsPiece_22 : decode cX12_endsPiece 22 = .ok (.isub, 1) := by decide +kernel
theorem dX12_endsPiece_23 : decode cX12_endsPiece 23 = .ok (.putfield 159, 3) := by decide +kernel
theorem dX12_endsPiece_26 : decode cX12_endsPiece 26 = .ok (.aload_n 0, 1) := by decide +kernel
theorem dX12_endsPiece_27 : decode cX12_endsPiece 27 = .ok (.aload_n 0, 1) := by decide +kernel
theorem dX12_endsPiece_28 : decode cX12_endsPiece 28 = .ok (.getfield 156, 3) := by decide +kernel
theorem dX12_endsPiece_31 : decode cX12_endsPiece 31 = .ok (.iconst 1, 1) := by decide +kernel
theorem dX12_endsPiece_32 : decode cX12_endsPiece 32 = .ok (.isub, 1) := by decide +kernel
theorem dX12_endsPiece_33 : decode cX12_endsPiece 33 = .ok (.putfield 156, 3) := by decide +kernel
theorem dX12_endsPiece_36 : decode cX12_endsPiece 36 = .ok (.goto (-36), 3) := by decide +kernel
theorem dX12_endsPiece_39 : decode cX12_endsPiece 39 = .ok (.return_, 1) := by decide +kernel
theorem dX12_lands_0 : decode cX12_lands 0 = .ok (.aload_n 0, 1) := by decide +kernel
theorem dX12_lands_1 : decode cX12_lands 1 = .ok (.invokevirtual 162, 3) := by decide +kernel
theorem dX12_lands_4 : decode cX12_lands 4 = .ok (.bipush 11, 2) := by decide +kernel
theorem dX12_lands_6 : decode cX12_lands 6 = .ok (.if_icmp .eq 16, 3) := by decide +kernel
theorem dX12_lands_9 : decode cX12_lands 9 = .ok (.iload_n 1, 1) := by decide +kernel
theorem dX12_lands_10 : decode cX12_lands 10 = .ok (.ifCond .eq 63, 3) := by decide +kernel
theorem dX12_lands_13 : decode cX12_lands 13 = .ok (.aload_n 0, 1) := by decide +kernel
theorem dX12_lands_14 : decode cX12_lands 14 = .ok (.invokevirtual 162, 3) := by decide +kernel
theorem dX12_lands_17 : decode cX12_lands 17 = .ok (.bipush 12, 2) := by decide +kernel
theorem dX12_lands_19 : decode cX12_lands 19 = .ok (.if_icmp .ne 54, 3) := by decide +kernel
theorem dX12_lands_22 : decode cX12_lands 22 = .ok (.aload_n 0, 1) := by decide +kernel
theorem dX12_lands_23 : decode cX12_lands 23 = .ok (.getfield 32, 3) := by decide +kernel
theorem dX12_lands_26 : decode cX12_lands 26 = .ok (.aload_n 0, 1) := by decide +kernel
theorem dX12_lands_27 : decode cX12_lands 27 = .ok (.getfield 159, 3) := by decide +kernel
theorem dX12_lands_30 : decode cX12_lands 30 = .ok (.iconst 1, 1) := by decide +kernel
theorem dX12_lands_31 : decode cX12_lands 31 = .ok (.isub, 1) := by decide +kernel
theorem dX12_lands_32 : decode cX12_lands 32 = .ok (.iaload, 1) := by decide +kernel
theorem dX12_lands_33 : decode cX12_lands 33 = .ok (.ldc 155, 2) := by decide +kernel
theorem dX12_lands_35 : decode cX12_lands 35 = .ok (.irem, 1) := by decide +kernel
theorem dX12_lands_36 : decode cX12_lands 36 = .ok (.istore_n 2, 1) := by decide +kernel
theorem dX12_lands_37 : decode cX12_lands 37 = .ok (.aload_n 0, 1) := by decide +kernel
theorem dX12_lands_38 : decode cX12_lands 38 = .ok (.getfield 29, 3) := by decide +kernel
theorem dX12_lands_41 : decode cX12_lands 41 = .ok (.iload_n 2, 1) := by decide +kernel
theorem dX12_lands_42 : decode cX12_lands 42 = .ok (.ldc 155, 2) := by decide +kernel
theorem dX12_lands_44 : decode cX12_lands 44 = .ok (.aload_n 0, 1) := by decide +kernel
theorem dX12_lands_45 : decode cX12_lands 45 = .ok (.getfield 29, 3) := by decide +kernel
theorem dX12_lands_48 : decode cX12_lands 48 = .ok (.iload_n 2, 1) := by decide +kernel
theorem dX12_lands_49 : decode cX12_lands 49 = .ok (.iaload, 1) := by decide +kernel
theorem dX12_lands_50 : decode cX12_lands 50 = .ok (.ldc 155, 2) := by decide +kernel
theorem dX12_lands_52 : decode cX12_lands 52 = .ok (.idiv, 1) := by decide +kernel
theorem dX12_lands_53 : decode cX12_lands 53 = .ok (.imul, 1) := by decide +kernel
theorem dX12_lands_54 : decode cX12_lands 54 = .ok (.aload_n 0, 1) := by decide +kernel
theorem dX12_lands_55 : decode cX12_lands 55 = .ok (.getfield 152, 3) := by decide +kernel
theorem dX12_lands_58 : decode cX12_lands 58 = .ok (.iadd, 1) := by decide +kernel
theorem dX12_lands_59 : decode cX12_lands 59 = .ok (.iastore, 1) := by decide +kernel
theorem dX12_lands_60 : decode cX12_lands 60 = .ok (.aload_n 0, 1) := by decide +kernel
theorem dX12_lands_61 : decode cX12_lands 61 = .ok (.aload_n 0, 1) := by decide +kernel
theorem dX12_lands_62 : decode cX12_lands 62 = .ok (.getfield 159, 3) := by decide +kernel
theorem dX12_lands_65 : decode cX12_lands 65 = .ok (.iconst 1, 1) := by decide +kernel
theorem dX12_lands_66 : decode cX12_lands 66 = .ok (.isub, 1) := by decide +kernel
theorem dX12_lands_67 : decode cX12_lands 67 = .ok (.putfield 159, 3) := by decide +kernel
theorem dX12_lands_70 : decode cX12_lands 70 = .ok (.goto (-70), 3) := by decide +kernel
theorem dX12_lands_73 : decode cX12_lands 73 = .ok (.return_, 1) := by decide +kernel
theorem dX12_jumps_0 : decode cX12_jumps 0 = .ok (.aload_n 0, 1) := by decide +kernel
theorem dX12_jumps_1 : decode cX12_jumps 1 = .ok (.getfield 32, 3) := by decide +kernel
theorem dX12_jumps_4 : decode cX12_jumps 4 = .ok (.aload_n 0, 1) := by decide +kernel
theorem dX12_jumps_5 : decode cX12_jumps 5 = .ok (.getfield 159, 3) := by decide +kernel
theorem dX12_jumps_8 : decode cX12_jumps 8 = .ok (.ldc 155, 2) := by decide +kernel
theorem dX12_jumps_10 : decode cX12_jumps 10 = .ok (.iload_n 1, 1) := by decide +kernel
theorem dX12_jumps_11 : decode cX12_jumps 11 = .ok (.imul, 1) := by decide +kernel
theorem dX12_jumps_12 : decode cX12_jumps 12 = .ok (.aload_n 0, 1) := by decide +kernel
theorem dX12_jumps_13 : decode cX12_jumps 13 = .ok (.getfield 152, 3) := by decide +kernel
theorem dX12_jumps_16 : decode cX12_jumps 16 = .ok (.iadd, 1) := by decide +kernel
theorem dX12_jumps_17 : decode cX12_jumps 17 = .ok (.iastore, 1) := by decide +kernel
theorem dX12_jumps_18 : decode cX12_jumps 18 = .ok (.aload_n 0, 1) := by decide +kernel
theorem dX12_jumps_19 : decode cX12_jumps 19 = .ok (.aload_n 0, 1) := by decide +kernel
theorem dX12_jumps_20 : decode cX12_jumps 20 = .ok (.getfield 159, 3) := by decide +kernel
theorem dX12_jumps_23 : decode cX12_jumps 23 = .ok (.iconst 1, 1) := by decide +kernel
theorem dX12_jumps_24 : decode cX12_jumps 24 = .ok (.iadd, 1) := by decide +kernel
theorem dX12_jumps_25 : decode cX12_jumps 25 = .ok (.putfield 159, 3) := by decide +kernel
theorem dX12_jumps_28 : decode cX12_jumps 28 = .ok (.aload_n 0, 1) := by decide +kernel
theorem dX12_jumps_29 : decode cX12_jumps 29 = .ok (.iload_n 1, 1) := by decide +kernel
theorem dX12_jumps_30 : decode cX12_jumps 30 = .ok (.iconst 0, 1) := by decide +kernel
theorem dX12_jumps_31 : decode cX12_jumps 31 = .ok (.invokevirtual 165, 3) := by decide +kernel
theorem dX12_jumps_34 : decode cX12_jumps 34 = .ok (.aload_n 0, 1) := by decide +kernel
theorem dX12_jumps_35 : decode cX12_jumps 35 = .ok (.aload_n 0, 1) := by decide +kernel
theorem dX12_jumps_36 : decode cX12_jumps 36 = .ok (.getfield 128, 3) := by decide +kernel
theorem dX12_jumps_39 : decode cX12_jumps 39 = .ok (.iconst 1, 1) := by decide +kernel
theorem dX12_jumps_40 : decode cX12_jumps 40 = .ok (.iadd, 1) := by decide +kernel
theorem dX12_jumps_41 : decode cX12_jumps 41 = .ok (.putfield 128, 3) := by decide +kernel
theorem dX12_jumps_44 : decode cX12_jumps 44 = .ok (.return_, 1) := by decide +kernel
theorem dX12_readsCompared_0 : decode cX12_readsCompared 0 = .ok (.aload_n 0, 1) := by decide +kernel
theorem dX12_readsCompared_1 : decode cX12_readsCompared 1 = .ok (.invokevirtual 192, 3) := by decide +kernel
theorem dX12_readsCompared_4 : decode cX12_readsCompared 4 = .ok (.ifCond .ne 5, 3) := by decide +kernel
theorem dX12_readsCompared_7 : decode cX12_readsCompared 7 = .ok (.iconst 0, 1) := by decide +kernel
theorem dX12_readsCompared_8 : decode cX12_readsCompared 8 = .ok (.ireturn, 1) := by decide +kernel
theorem dX12_readsCompared_9 : decode cX12_readsCompared 9 = .ok (.aload_n 0, 1) := by decide +kernel
theorem dX12_readsCompared_10 : decode cX12_readsCompared 10 = .ok (.invokevirtual 134, 3) := by decide +kernel
theorem dX12_readsCompared_13 : decode cX12_readsCompared 13 = .ok (.bipush 60, 2) := by decide +kernel
theorem dX12_readsCompared_15 : decode cX12_readsCompared 15 = .ok (.if_icmp .ne 8, 3) := by decide +kernel
theorem dX12_readsCompared_18 : decode cX12_readsCompared 18 = .ok (.bipush 7, 2) := by decide +kernel
theorem dX12_readsCompared_20 : decode cX12_readsCompared 20 = .ok (.goto 32, 3) := by decide +kernel
theorem dX12_readsCompared_23 : decode cX12_readsCompared 23 = .ok (.aload_n 0, 1) := by decide +kernel
theorem dX12_readsCompared_24 : decode cX12_readsCompared 24 = .ok (.invokevirtual 134, 3) := by decide +kernel
theorem dX12_readsCompared_27 : decode cX12_readsCompared 27 = .ok (.bipush 62, 2) := by decide +kernel
theorem dX12_readsCompared_29 : decode cX12_readsCompared 29 = .ok (.if_icmp .ne 8, 3) := by decide +kernel
theorem dX12_readsCompared_32 : decode cX12_readsCompared 32 = .ok (.bipush 8, 2) := by decide +kernel
theorem dX12_readsCompared_34 : decode cX12_readsCompared 34 = .ok (.goto 18, 3) := by decide +kernel
theorem dX12_readsCompared_37 : decode cX12_readsCompared 37 = .ok (.aload_n 0, 1) := by decide +kernel
theorem dX12_readsCompared_38 : decode cX12_readsCompared 38 = .ok (.invokevirtual 134, 3) := by decide +kernel
theorem dX12_readsCompared_41 : decode cX12_readsCompared 41 = .ok (.bipush 61, 2) := by decide +kernel
theorem dX12_readsCompared_43 : decode cX12_readsCompared 43 = .ok (.if_icmp .ne 8, 3) := by decide +kernel
theorem dX12_readsCompared_46 : decode cX12_readsCompared 46 = .ok (.bipush 9, 2) := by decide +kernel
theorem dX12_readsCompared_48 : decode cX12_readsCompared 48 = .ok (.goto 4, 3) := by decide +kernel
theorem dX12_readsCompared_51 : decode cX12_readsCompared 51 = .ok (.iconst (-1), 1) := by decide +kernel
theorem dX12_readsCompared_52 : decode cX12_readsCompared 52 = .ok (.istore_n 1, 1) := by decide +kernel
theorem dX12_readsCompared_53 : decode cX12_readsCompared 53 = .ok (.iload_n 1, 1) := by decide +kernel
theorem dX12_readsCompared_54 : decode cX12_readsCompared 54 = .ok (.iconst (-1), 1) := by decide +kernel
theorem dX12_readsCompared_55 : decode cX12_readsCompared 55 = .ok (.if_icmp .ne 13, 3) := by decide +kernel
theorem dX12_readsCompared_58 : decode cX12_readsCompared 58 = .ok (.aload_n 0, 1) := by decide +kernel
theorem dX12_readsCompared_59 : decode cX12_readsCompared 59 = .ok (.iconst 1, 1) := by decide +kernel
theorem dX12_readsCompared_60 : decode cX12_readsCompared 60 = .ok (.aload_n 0, 1) := by decide +kernel
theorem dX12_readsCompared_61 : decode cX12_readsCompared 61 = .ok (.getfield 128, 3) := by decide +kernel
theorem dX12_readsCompared_64 : decode cX12_readsCompared 64 = .ok (.invokevirtual 141, 3) := by decide +kernel
theorem dX12_readsCompared_67 : decode cX12_readsCompared 67 = .ok (.ireturn, 1) := by decide +kernel
theorem dX12_readsCompared_68 : decode cX12_readsCompared 68 = .ok (.aload_n 0, 1) := by decide +kernel
theorem dX12_readsCompared_69 : decode cX12_readsCompared 69 = .ok (.aload_n 0, 1) := by decide +kernel
theorem dX12_readsCompared_70 : decode cX12_readsCompared 70 = .ok (.getfield 128, 3) := by decide +kernel
theorem dX12_readsCompared_73 : decode cX12_readsCompared 73 = .ok (.iconst 1, 1) := by decide +kernel
theorem dX12_readsCompared_74 : decode cX12_readsCompared 74 = .ok (.iadd, 1) := by decide +kernel
theorem dX12_readsCompared_75 : decode cX12_readsCompared 75 = .ok (.putfield 128, 3) := by decide +kernel
theorem dX12_readsCompared_78 : decode cX12_readsCompared 78 = .ok (.aload_n 0, 1) := by decide +kernel
theorem dX12_readsCompared_79 : decode cX12_readsCompared 79 = .ok (.invokevirtual 192, 3) := by decide +kernel
theorem dX12_readsCompared_82 : decode cX12_readsCompared 82 = .ok (.ifCond .ne 5, 3) := by decide +kernel
theorem dX12_readsCompared_85 : decode cX12_readsCompared 85 = .ok (.iconst 0, 1) := by decide +kernel
theorem dX12_readsCompared_86 : decode cX12_readsCompared 86 = .ok (.ireturn, 1) := by decide +kernel
theorem dX12_readsCompared_87 : decode cX12_readsCompared 87 = .ok (.aload_n 0, 1) := by decide +kernel
theorem dX12_readsCompared_88 : decode cX12_readsCompared 88 = .ok (.iload_n 1, 1) := by decide +kernel
theorem dX12_readsCompared_89 : decode cX12_readsCompared 89 = .ok (.iconst 0, 1) := by decide +kernel
theorem dX12_readsCompared_90 : decode cX12_readsCompared 90 = .ok (.invokevirtual 165, 3) := by decide +kernel
theorem dX12_readsCompared_93 : decode cX12_readsCompared 93 = .ok (.aload_n 0, 1) := by decide +kernel
theorem dX12_readsCompared_94 : decode cX12_readsCompared 94 = .ok (.invokevirtual 195, 3) := by decide +kernel
theorem dX12_readsCompared_97 : decode cX12_readsCompared 97 = .ok (.iconst 1, 1) := by decide +kernel
theorem dX12_readsCompared_98 : decode cX12_readsCompared 98 = .ok (.ireturn, 1) := by decide +kernel
theorem dX12_readsCondition_0 : decode cX12_readsCondition 0 = .ok (.aload_n 0, 1) := by decide +kernel
theorem dX12_readsCondition_1 : decode cX12_readsCondition 1 = .ok (.invokevirtual 134, 3) := by decide +kernel
theorem dX12_readsCondition_4 : decode cX12_readsCondition 4 = .ok (.bipush 40, 2) := by decide +kernel
theorem dX12_readsCondition_6 : decode cX12_readsCondition 6 = .ok (.if_icmp .eq 13, 3) := by decide +kernel
theorem dX12_readsCondition_9 : decode cX12_readsCondition 9 = .ok (.aload_n 0, 1) := by decide +kernel
theorem dX12_readsCondition_10 : decode cX12_readsCondition 10 = .ok (.iconst 1, 1) := by decide +kernel
theorem dX12_readsCondition_11 : decode cX12_readsCondition 11 = .ok (.aload_n 0, 1) := by decide +kernel
theorem dX12_readsCondition_12 : decode cX12_readsCondition 12 = .ok (.getfield 128, 3) := by decide +kernel
theorem dX12_readsCondition_15 : decode cX12_readsCondition 15 = .ok (.invokevirtual 141, 3) := by decide +kernel
theorem dX12_readsCondition_18 : decode cX12_readsCondition 18 = .ok (.ireturn, 1) := by decide +kernel
theorem dX12_readsCondition_19 : decode cX12_readsCondition 19 = .ok (.aload_n 0, 1) := by decide +kernel
theorem dX12_readsCondition_20 : decode cX12_readsCondition 20 = .ok (.iconst 0, 1) := by decide +kernel
theorem dX12_readsCondition_21 : decode cX12_readsCondition 21 = .ok (.putfield 156, 3) := by decide +kernel
theorem dX12_readsCondition_24 : decode cX12_readsCondition 24 = .ok (.aload_n 0, 1) := by decide +kernel
theorem dX12_readsCondition_25 : decode cX12_readsCondition 25 = .ok (.iconst 0, 1) := by decide +kernel
theorem dX12_readsCondition_26 : decode cX12_readsCondition 26 = .ok (.putfield 159, 3) := by decide +kernel
theorem dX12_readsCondition_29 : decode cX12_readsCondition 29 = .ok (.aload_n 0, 1) := by decide +kernel
theorem dX12_readsCondition_30 : decode cX12_readsCondition 30 = .ok (.bipush 13, 2) := by decide +kernel
theorem dX12_readsCondition_32 : decode cX12_readsCondition 32 = .ok (.invokevirtual 169, 3) := by decide +kernel
theorem dX12_readsCondition_35 : decode cX12_readsCondition 35 = .ok (.ifCond .ne 5, 3) := by decide +kernel
theorem dX12_readsCondition_38 : decode cX12_readsCondition 38 = .ok (.iconst 0, 1) := by decide +kernel
theorem dX12_readsCondition_39 : decode cX12_readsCondition 39 = .ok (.ireturn, 1) := by decide +kernel
theorem dX12_readsCondition_40 : decode cX12_readsCondition 40 = .ok (.aload_n 0, 1) := by decide +kernel
theorem dX12_readsCondition_41 : decode cX12_readsCondition 41 = .ok (.invokevirtual 134, 3) := by decide +kernel
theorem dX12_readsCondition_44 : decode cX12_readsCondition 44 = .ok (.bipush 33, 2) := by decide +kernel
theorem dX12_readsCondition_46 : decode cX12_readsCondition 46 = .ok (.if_icmp .eq 12, 3) := by decide +kernel
theorem dX12_readsCondition_49 : decode cX12_readsCondition 49 = .ok (.aload_n 0, 1) := by decide +kernel
theorem dX12_readsCondition_50 : decode cX12_readsCondition 50 = .ok (.invokevirtual 134, 3) := by decide +kernel
theorem dX12_readsCondition_53 : decode cX12_readsCondition 53 = .ok (.bipush 40, 2) := by decide +kernel
theorem dX12_readsCondition_55 : decode cX12_readsCondition 55 = .ok (.if_icmp .ne 28, 3) := by decide +kernel
theorem dX12_readsCondition_58 : decode cX12_readsCondition 58 = .ok (.aload_n 0, 1) := by decide +kernel
theorem dX12_readsCondition_59 : decode cX12_readsCondition 59 = .ok (.aload_n 0, 1) := by decide +kernel
theorem dX12_readsCondition_60 : decode cX12_readsCondition 60 = .ok (.invokevirtual 134, 3) := by decide +kernel
theorem dX12_readsCondition_63 : decode cX12_readsCondition 63 = .ok (.bipush 33, 2) := by decide +kernel
theorem dX12_readsCondition_65 : decode cX12_readsCondition 65 = .ok (.if_icmp .ne 8, 3) := by decide +kernel
theorem dX12_readsCondition_68 : decode cX12_readsCondition 68 = .ok (.bipush 10, 2) := by decide +kernel
theorem dX12_readsCondition_70 : decode cX12_readsCondition 70 = .ok (.goto 5, 3) := by decide +kernel
theorem dX12_readsCondition_73 : decode cX12_readsCondition 73 = .ok (.bipush 13, 2) := by decide +kernel
theorem dX12_readsCondition_75 : decode cX12_readsCondition 75 = .ok (.invokevirtual 169, 3) := by decide +kernel
theorem dX12_readsCondition_78 : decode cX12_readsCondition 78 = .ok (.ifCond .ne (-38), 3) := by decide +kernel
theorem dX12_readsCondition_81 : decode cX12_readsCondition 81 = .ok (.iconst 0, 1) := by decide +kernel
theorem dX12_readsCondition_82 : decode cX12_readsCondition 82 = .ok (.ireturn, 1) := by decide +kernel
theorem dX12_readsCondition_83 : decode cX12_readsCondition 83 = .ok (.aload_n 0, 1) := by decide +kernel
theorem dX12_readsCondition_84 : decode cX12_readsCondition 84 = .ok (.invokevirtual 198, 3) := by decide +kernel
theorem dX12_readsCondition_87 : decode cX12_readsCondition 87 = .ok (.ifCond .ne 5, 3) := by decide +kernel
theorem dX12_readsCondition_90 : decode cX12_readsCondition 90 = .ok (.iconst 0, 1) := by decide +kernel
theorem dX12_readsCondition_91 : decode cX12_readsCondition 91 = .ok (.ireturn, 1) := by decide +kernel
theorem dX12_readsCondition_92 : decode cX12_readsCondition 92 = .ok (.aload_n 0, 1) := by decide +kernel
theorem dX12_readsCondition_93 : decode cX12_readsCondition 93 = .ok (.invokevirtual 134, 3) := by decide +kernel
theorem dX12_readsCondition_96 : decode cX12_readsCondition 96 = .ok (.bipush 41, 2) := by decide +kernel
theorem dX12_readsCondition_98 : decode cX12_readsCondition 98 = .ok (.if_icmp .ne 54, 3) := by decide +kernel
theorem dX12_readsCondition_101 : decode cX12_readsCondition 101 = .ok (.aload_n 0, 1) := by decide +kernel
theorem dX12_readsCondition_102 : decode cX12_readsCondition 102 = .ok (.iconst 1, 1) := by decide +kernel
theorem dX12_readsCondition_103 : decode cX12_readsCondition 103 = .ok (.invokevirtual 201, 3) := by decide +kernel
theorem dX12_readsCondition_106 : decode cX12_readsCondition 106 = .ok (.aload_n 0, 1) := by decide +kernel
theorem dX12_readsCondition_107 : decode cX12_readsCondition 107 = .ok (.aload_n 0, 1) := by decide +kernel
theorem dX12_readsCondition_108 : decode cX12_readsCondition 108 = .ok (.getfield 159, 3) := by decide +kernel
theorem dX12_readsCondition_111 : decode cX12_readsCondition 111 = .ok (.iconst 1, 1) := by decide +kernel
theorem dX12_readsCondition_112 : decode cX12_readsCondition 112 = .ok (.isub, 1) := by decide +kernel
theorem dX12_readsCondition_113 : decode cX12_readsCondition 113 = .ok (.putfield 159, 3) := by decide +kernel
theorem dX12_readsCondition_116 : decode cX12_readsCondition 116 = .ok (.aload_n 0, 1) := by decide +kernel
theorem dX12_readsCondition_117 : decode cX12_readsCondition 117 = .ok (.aload_n 0, 1) := by decide +kernel
theorem dX12_readsCondition_118 : decode cX12_readsCondition 118 = .ok (.getfield 156, 3) := by decide +kernel
theorem dX12_readsCondition_121 : decode cX12_readsCondition 121 = .ok (.iconst 1, 1) := by decide +kernel
theorem dX12_readsCondition_122 : decode cX12_readsCondition 122 = .ok (.isub, 1) := by decide +kernel
theorem dX12_readsCondition_123 : decode cX12_readsCondition 123 = .ok (.putfield 156, 3) := by decide +kernel
theorem dX12_readsCondition_126 : decode cX12_readsCondition 126 = .ok (.aload_n 0, 1) := by decide +kernel
theorem dX12_readsCondition_127 : decode cX12_readsCondition 127 = .ok (.aload_n 0, 1) := by decide +kernel
theorem dX12_readsCondition_128 : decode cX12_readsCondition 128 = .ok (.getfield 128, 3) := by decide +kernel
theorem dX12_readsCondition_131 : decode cX12_readsCondition 131 = .ok (.iconst 1, 1) := by decide +kernel
theorem dX12_readsCondition_132 : decode cX12_readsCondition 132 = .ok (.iadd, 1) := by decide +kernel
theorem dX12_readsCondition_133 : decode cX12_readsCondition 133 = .ok (.putfield 128, 3) := by decide +kernel
theorem dX12_readsCondition_136 : decode cX12_readsCondition 136 = .ok (.aload_n 0, 1) := by decide +kernel
theorem dX12_readsCondition_137 : decode cX12_readsCondition 137 = .ok (.getfield 159, 3) := by decide +kernel
theorem dX12_readsCondition_140 : decode cX12_readsCondition 140 = .ok (.ifCond .ne 5, 3) := by decide +kernel
theorem dX12_readsCondition_143 : decode cX12_readsCondition 143 = .ok (.iconst 1, 1) := by decide +kernel
theorem dX12_readsCondition_144 : decode cX12_readsCondition 144 = .ok (.ireturn, 1) := by decide +kernel
theorem dX12_readsCondition_145 : decode cX12_readsCondition 145 = .ok (.aload_n 0, 1) := by decide +kernel
theorem dX12_readsCondition_146 : decode cX12_readsCondition 146 = .ok (.invokevirtual 195, 3) := by decide +kernel
theorem dX12_readsCondition_149 : decode cX12_readsCondition 149 = .ok (.goto (-57), 3) := by decide +kernel
theorem dX12_readsCondition_152 : decode cX12_readsCondition 152 = .ok (.aload_n 0, 1) := by decide +kernel
theorem dX12_readsCondition_153 : decode cX12_readsCondition 153 = .ok (.invokevirtual 134, 3) := by decide +kernel
theorem dX12_readsCondition_156 : decode cX12_readsCondition 156 = .ok (.bipush 38, 2) := by decide +kernel
theorem dX12_readsCondition_158 : decode cX12_readsCondition 158 = .ok (.if_icmp .eq 22, 3) := by decide +kernel
theorem dX12_readsCondition_161 : decode cX12_readsCondition 161 = .ok (.aload_n 0, 1) := by decide +kernel
theorem dX12_readsCondition_162 : decode cX12_readsCondition 162 = .ok (.invokevirtual 134, 3) := by decide +kernel
theorem dX12_readsCondition_165 : decode cX12_readsCondition 165 = .ok (.bipush 124, 2) := by decide +kernel
theorem dX12_readsCondition_167 : decode cX12_readsCondition 167 = .ok (.if_icmp .eq 13, 3) := by decide +kernel
theorem dX12_readsCondition_170 : decode cX12_readsCondition 170 = .ok (.aload_n 0, 1) := by decide +kernel
theorem dX12_readsCondition_171 : decode cX12_readsCondition 171 = .ok (.iconst 1, 1) := by decide +kernel
theorem dX12_readsCondition_172 : decode cX12_readsCondition 172 = .ok (.aload_n 0, 1) := by decide +kernel
theorem dX12_readsCondition_173 : decode cX12_readsCondition 173 = .ok (.getfield 128, 3) := by decide +kernel
theorem dX12_readsCondition_176 : decode cX12_readsCondition 176 = .ok (.invokevirtual 141, 3) := by decide +kernel
theorem dX12_readsCondition_179 : decode cX12_readsCondition 179 = .ok (.ireturn, 1) := by decide +kernel
theorem dX12_readsCondition_180 : decode cX12_readsCondition 180 = .ok (.aload_n 0, 1) := by decide +kernel
theorem dX12_readsCondition_181 : decode cX12_readsCondition 181 = .ok (.aload_n 0, 1) := by decide +kernel
theorem dX12_readsCondition_182 : decode cX12_readsCondition 182 = .ok (.invokevirtual 134, 3) := by decide +kernel
theorem dX12_readsCondition_185 : decode cX12_readsCondition 185 = .ok (.bipush 124, 2) := by decide +kernel
theorem dX12_readsCondition_187 : decode cX12_readsCondition 187 = .ok (.if_icmp .ne 7, 3) := by decide +kernel
theorem dX12_readsCondition_190 : decode cX12_readsCondition 190 = .ok (.iconst 1, 1) := by decide +kernel
theorem dX12_readsCondition_191 : decode cX12_readsCondition 191 = .ok (.goto 4, 3) := by decide +kernel
theorem dX12_readsCondition_194 : decode cX12_readsCondition 194 = .ok (.iconst 0, 1) := by decide +kernel
theorem dX12_readsCondition_195 : decode cX12_readsCondition 195 = .ok (.invokevirtual 201, 3) := by decide +kernel
theorem dX12_readsCondition_198 : decode cX12_readsCondition 198 = .ok (.aload_n 0, 1) := by decide +kernel
theorem dX12_readsCondition_199 : decode cX12_readsCondition 199 = .ok (.aload_n 0, 1) := by decide +kernel
theorem dX12_readsCondition_200 : decode cX12_readsCondition 200 = .ok (.invokevirtual 134, 3) := by decide +kernel
theorem dX12_readsCondition_203 : decode cX12_readsCondition 203 = .ok (.bipush 38, 2) := by decide +kernel
theorem dX12_readsCondition_205 : decode cX12_readsCondition 205 = .ok (.if_icmp .ne 8, 3) := by decide +kernel
theorem dX12_readsCondition_208 : decode cX12_readsCondition 208 = .ok (.bipush 11, 2) := by decide +kernel
theorem dX12_readsCondition_210 : decode cX12_readsCondition 210 = .ok (.goto 5, 3) := by decide +kernel
theorem dX12_readsCondition_213 : decode cX12_readsCondition 213 = .ok (.bipush 12, 2) := by decide +kernel
theorem dX12_readsCondition_215 : decode cX12_readsCondition 215 = .ok (.invokevirtual 204, 3) := by decide +kernel
theorem dX12_readsCondition_218 : decode cX12_readsCondition 218 = .ok (.goto (-178), 3) := by decide +kernel
theorem dX12_readsRule_0 : decode cX12_readsRule 0 = .ok (.aload_n 0, 1) := by decide +kernel
theorem dX12_readsRule_1 : decode cX12_readsRule 1 = .ok (.invokevirtual 134, 3) := by decide +kernel
theorem dX12_readsRule_4 : decode cX12_readsRule 4 = .ok (.istore_n 1, 1) := by decide +kernel
theorem dX12_readsRule_5 : decode cX12_readsRule 5 = .ok (.iload_n 1, 1) := by decide +kernel
theorem dX12_readsRule_6 : decode cX12_readsRule 6 = .ok (.bipush 112, 2) := by decide +kernel
theorem dX12_readsRule_8 : decode cX12_readsRule 8 = .ok (.if_icmp .eq 25, 3) := by decide +kernel
theorem dX12_readsRule_11 : decode cX12_readsRule 11 = .ok (.iload_n 1, 1) := by decide +kernel
theorem dX12_readsRule_12 : decode cX12_readsRule 12 = .ok (.bipush 105, 2) := by decide +kernel
theorem dX12_readsRule_14 : decode cX12_readsRule 14 = .ok (.if_icmp .eq 19, 3) := by decide +kernel
theorem dX12_readsRule_17 : decode cX12_readsRule 17 = .ok (.iload_n 1, 1) := by decide +kernel
theorem dX12_readsRule_18 : decode cX12_readsRule 18 = .ok (.bipush 120, 2) := by decide +kernel
theorem dX12_readsRule_20 : decode cX12_readsRule 20 = .ok (.if_icmp .eq 13, 3) := by decide +kernel
theorem dX12_readsRule_23 : decode cX12_readsRule 23 = .ok (.aload_n 0, 1) := by decide +kernel
theorem dX12_readsRule_24 : decode cX12_readsRule 24 = .ok (.iconst 1, 1) := by decide +kernel
theorem dX12_readsRule_25 : decode cX12_readsRule 25 = .ok (.aload_n 0, 1) := by decide +kernel
theorem dX12_readsRule_26 : decode cX12_readsRule 26 = .ok (.getfield 128, 3) := by decide +kernel
theorem dX12_readsRule_29 : decode cX12_readsRule 29 = .ok (.invokevirtual 141, 3) := by decide +kernel
theorem dX12_readsRule_32 : decode cX12_readsRule 32 = .ok (.ireturn, 1) := by decide +kernel
theorem dX12_readsRule_33 : decode cX12_readsRule 33 = .ok (.aload_n 0, 1) := by decide +kernel
theorem dX12_readsRule_34 : decode cX12_readsRule 34 = .ok (.getfield 207, 3) := by decide +kernel
theorem dX12_readsRule_37 : decode cX12_readsRule 37 = .ok (.bipush 16, 2) := by decide +kernel
theorem dX12_readsRule_39 : decode cX12_readsRule 39 = .ok (.if_icmp .ne 13, 3) := by decide +kernel
theorem dX12_readsRule_42 : decode cX12_readsRule 42 = .ok (.aload_n 0, 1) := by decide +kernel
theorem dX12_readsRule_43 : decode cX12_readsRule 43 = .ok (.iconst 4, 1) := by decide +kernel
theorem dX12_readsRule_44 : decode cX12_readsRule 44 = .ok (.aload_n 0, 1) := by decide +kernel
theorem dX12_readsRule_45 : decode cX12_readsRule 45 = .ok (.getfield 128, 3) := by decide +kernel
theorem dX12_readsRule_48 : decode cX12_readsRule 48 = .ok (.invokevirtual 141, 3) := by decide +kernel
theorem dX12_readsRule_51 : decode cX12_readsRule 51 = .ok (.ireturn, 1) := by decide +kernel
theorem dX12_readsRule_52 : decode cX12_readsRule 52 = .ok (.aload_n 0, 1) := by decide +kernel
theorem dX12_readsRule_53 : decode cX12_readsRule 53 = .ok (.getfield 35, 3) := by decide +kernel
theorem dX12_readsRule_56 : decode cX12_readsRule 56 = .ok (.aload_n 0, 1) := by decide +kernel
theorem dX12_readsRule_57 : decode cX12_readsRule 57 = .ok (.getfield 207, 3) := by decide +kernel
theorem dX12_readsRule_60 : decode cX12_readsRule 60 = .ok (.iload_n 1, 1) := by decide +kernel
theorem dX12_readsRule_61 : decode cX12_readsRule 61 = .ok (.iastore, 1) := by decide +kernel
theorem dX12_readsRule_62 : decode cX12_readsRule 62 = .ok (.aload_n 0, 1) := by decide +kernel
theorem dX12_readsRule_63 : decode cX12_readsRule 63 = .ok (.aload_n 0, 1) := by decide +kernel
theorem dX12_readsRule_64 : decode cX12_readsRule 64 = .ok (.getfield 128, 3) := by decide +kernel
theorem dX12_readsRule_67 : decode cX12_readsRule 67 = .ok (.iconst 1, 1) := by decide +kernel
theorem dX12_readsRule_68 : decode cX12_readsRule 68 = .ok (.iadd, 1) := by decide +kernel
theorem dX12_readsRule_69 : decode cX12_readsRule 69 = .ok (.putfield 128, 3) := by decide +kernel
theorem dX12_readsRule_72 : decode cX12_readsRule 72 = .ok (.aload_n 0, 1) := by decide +kernel
theorem dX12_readsRule_73 : decode cX12_readsRule 73 = .ok (.getfield 38, 3) := by decide +kernel
theorem dX12_readsRule_76 : decode cX12_readsRule 76 = .ok (.aload_n 0, 1) := by decide +kernel
theorem dX12_readsRule_77 : decode cX12_readsRule 77 = .ok (.getfield 207, 3) := by decide +kernel
theorem dX12_readsRule_80 : decode cX12_readsRule 80 = .ok (.aload_n 0, 1) := by decide +kernel
theorem dX12_readsRule_81 : decode cX12_readsRule 81 = .ok (.getfield 152, 3) := by decide +kernel
theorem dX12_readsRule_84 : decode cX12_readsRule 84 = .ok (.iastore, 1) := by decide +kernel
theorem dX12_readsRule_85 : decode cX12_readsRule 85 = .ok (.aload_n 0, 1) := by decide +kernel
theorem dX12_readsRule_86 : decode cX12_readsRule 86 = .ok (.iconst 0, 1) := by decide +kernel
theorem dX12_readsRule_87 : decode cX12_readsRule 87 = .ok (.putfield 156, 3) := by decide +kernel
theorem dX12_readsRule_90 : decode cX12_readsRule 90 = .ok (.aload_n 0, 1) := by decide +kernel
theorem dX12_readsRule_91 : decode cX12_readsRule 91 = .ok (.iconst 0, 1) := by decide +kernel
theorem dX12_readsRule_92 : decode cX12_readsRule 92 = .ok (.putfield 159, 3) := by decide +kernel
theorem dX12_readsRule_95 : decode cX12_readsRule 95 = .ok (.iload_n 1, 1) := by decide +kernel
theorem dX12_readsRule_96 : decode cX12_readsRule 96 = .ok (.bipush 120, 2) := by decide +kernel
theorem dX12_readsRule_98 : decode cX12_readsRule 98 = .ok (.if_icmp .eq 12, 3) := by decide +kernel
theorem dX12_readsRule_101 : decode cX12_readsRule 101 = .ok (.aload_n 0, 1) := by decide +kernel
theorem dX12_readsRule_102 : decode cX12_readsRule 102 = .ok (.invokevirtual 192, 3) := by decide +kernel
theorem dX12_readsRule_105 : decode cX12_readsRule 105 = .ok (.ifCond .ne 5, 3) := by decide +kernel
theorem dX12_readsRule_108 : decode cX12_readsRule 108 = .ok (.iconst 0, 1) := by decide +kernel
theorem dX12_readsRule_109 : decode cX12_readsRule 109 = .ok (.ireturn, 1) := by decide +kernel
theorem dX12_readsRule_110 : decode cX12_readsRule 110 = .ok (.aload_n 0, 1) := by decide +kernel
theorem dX12_readsRule_111 : decode cX12_readsRule 111 = .ok (.getfield 41, 3) := by decide +kernel
theorem dX12_readsRule_114 : decode cX12_readsRule 114 = .ok (.aload_n 0, 1) := by decide +kernel
theorem dX12_readsRule_115 : decode cX12_readsRule 115 = .ok (.getfield 207, 3) := by decide +kernel
theorem dX12_readsRule_118 : decode cX12_readsRule 118 = .ok (.aload_n 0, 1) := by decide +kernel
theorem dX12_readsRule_119 : decode cX12_readsRule 119 = .ok (.getfield 152, 3) := by decide +kernel
theorem dX12_readsRule_122 : decode cX12_readsRule 122 = .ok (.iastore, 1) := by decide +kernel
theorem dX12_readsRule_123 : decode cX12_readsRule 123 = .ok (.aload_n 0, 1) := by decide +kernel
theorem dX12_readsRule_124 : decode cX12_readsRule 124 = .ok (.invokevirtual 210, 3) := by decide +kernel
theorem dX12_readsRule_127 : decode cX12_readsRule 127 = .ok (.ifCond .ne 5, 3) := by decide +kernel
theorem dX12_readsRule_130 : decode cX12_readsRule 130 = .ok (.iconst 0, 1) := by decide +kernel
theorem dX12_readsRule_131 : decode cX12_readsRule 131 = .ok (.ireturn, 1) := by decide +kernel
theorem dX12_readsRule_132 : decode cX12_readsRule 132 = .ok (.aload_n 0, 1) := by decide +kernel
theorem dX12_readsRule_133 : decode cX12_readsRule 133 = .ok (.getfield 44, 3) := by decide +kernel
theorem dX12_readsRule_136 : decode cX12_readsRule 136 = .ok (.aload_n 0, 1) := by decide +kernel
theorem dX12_readsRule_137 : decode cX12_readsRule 137 = .ok (.getfield 207, 3) := by decide +kernel
theorem dX12_readsRule_140 : decode cX12_readsRule 140 = .ok (.aload_n 0, 1) := by decide +kernel
theorem dX12_readsRule_141 : decode cX12_readsRule 141 = .ok (.getfield 152, 3) := by decide +kernel
theorem dX12_readsRule_144 : decode cX12_readsRule 144 = .ok (.iastore, 1) := by decide +kernel
theorem dX12_readsRule_145 : decode cX12_readsRule 145 = .ok (.aload_n 0, 1) := by decide +kernel
theorem dX12_readsRule_146 : decode cX12_readsRule 146 = .ok (.aload_n 0, 1) := by decide +kernel
theorem dX12_readsRule_147 : decode cX12_readsRule 147 = .ok (.getfield 207, 3) := by decide +kernel
theorem dX12_readsRule_150 : decode cX12_readsRule 150 = .ok (.iconst 1, 1) := by decide +kernel
theorem dX12_readsRule_151 : decode cX12_readsRule 151 = .ok (.iadd, 1) := by decide +kernel
theorem dX12_readsRule_152 : decode cX12_readsRule 152 = .ok (.putfield 207, 3) := by decide +kernel
theorem dX12_readsRule_155 : decode cX12_readsRule 155 = .ok (.iconst 1, 1) := by decide +kernel
theorem dX12_readsRule_156 : decode cX12_readsRule 156 = .ok (.ireturn, 1) := by decide +kernel
theorem dX12_beginsText_0 : decode cX12_beginsText 0 = .ok (.aload_n 0, 1) := by decide +kernel
theorem dX12_beginsText_1 : decode cX12_beginsText 1 = .ok (.iconst 0, 1) := by decide +kernel
theorem dX12_beginsText_2 : decode cX12_beginsText 2 = .ok (.putfield 128, 3) := by decide +kernel
theorem dX12_beginsText_5 : decode cX12_beginsText 5 = .ok (.aload_n 0, 1) := by decide +kernel
theorem dX12_beginsText_6 : decode cX12_beginsText 6 = .ok (.iload_n 1, 1) := by decide +kernel
theorem dX12_beginsText_7 : decode cX12_beginsText 7 = .ok (.putfield 131, 3) := by decide +kernel
theorem dX12_beginsText_10 : decode cX12_beginsText 10 = .ok (.aload_n 0, 1) := by decide +kernel
theorem dX12_beginsText_11 : decode cX12_beginsText 11 = .ok (.iconst 0, 1) := by decide +kernel
theorem dX12_beginsText_12 : decode cX12_beginsText 12 = .ok (.putfield 152, 3) := by decide +kernel
theorem dX12_beginsText_15 : decode cX12_beginsText 15 = .ok (.aload_n 0, 1) := by decide +kernel
theorem dX12_beginsText_16 : decode cX12_beginsText 16 = .ok (.iconst 0, 1) := by decide +kernel
theorem dX12_beginsText_17 : decode cX12_beginsText 17 = .ok (.putfield 207, 3) := by decide +kernel
theorem dX12_beginsText_20 : decode cX12_beginsText 20 = .ok (.return_, 1) := by decide +kernel
theorem dX12_law_0 : decode cX12_law 0 = .ok (.iload_n 1, 1) := by decide +kernel
theorem dX12_law_1 : decode cX12_law 1 = .ok (.iconst 1, 1) := by decide +kernel
theorem dX12_law_2 : decode cX12_law 2 = .ok (.sipush 240, 3) := by decide +kernel
theorem dX12_law_5 : decode cX12_law 5 = .ok (.invokestatic 107, 3) := by decide +kernel
theorem dX12_law_8 : decode cX12_law 8 = .ok (.ifCond .eq 11, 3) := by decide +kernel
theorem dX12_law_11 : decode cX12_law 11 = .ok (.iload_n 1, 1) := by decide +kernel
theorem dX12_law_12 : decode cX12_law 12 = .ok (.aload_n 0, 1) := by decide +kernel
theorem dX12_law_13 : decode cX12_law 13 = .ok (.getfield 120, 3) := by decide +kernel
theorem dX12_law_16 : decode cX12_law 16 = .ok (.if_icmp .le 5, 3) := by decide +kernel
theorem dX12_law_19 : decode cX12_law 19 = .ok (.iconst (-1), 1) := by decide +kernel
theorem dX12_law_20 : decode cX12_law 20 = .ok (.ireturn, 1) := by decide +kernel
theorem dX12_law_21 : decode cX12_law 21 = .ok (.aload_n 0, 1) := by decide +kernel
theorem dX12_law_22 : decode cX12_law 22 = .ok (.iload_n 1, 1) := by decide +kernel
theorem dX12_law_23 : decode cX12_law 23 = .ok (.invokevirtual 213, 3) := by decide +kernel
theorem dX12_law_26 : decode cX12_law 26 = .ok (.aload_n 0, 1) := by decide +kernel
theorem dX12_law_27 : decode cX12_law 27 = .ok (.invokevirtual 216, 3) := by decide +kernel
theorem dX12_law_30 : decode cX12_law 30 = .ok (.istore_n 2, 1) := by decide +kernel
theorem dX12_law_31 : decode cX12_law 31 = .ok (.iload_n 2, 1) := by decide +kernel
theorem dX12_law_32 : decode cX12_law 32 = .ok (.ifCond .eq 39, 3) := by decide +kernel
theorem dX12_law_35 : decode cX12_law 35 = .ok (.aload_n 0, 1) := by decide +kernel
theorem dX12_law_36 : decode cX12_law 36 = .ok (.getfield 128, 3) := by decide +kernel
theorem dX12_law_39 : decode cX12_law 39 = .ok (.aload_n 0, 1) := by decide +kernel
theorem dX12_law_40 : decode cX12_law 40 = .ok (.getfield 131, 3) := by decide +kernel
theorem dX12_law_43 : decode cX12_law 43 = .ok (.if_icmp .ge 28, 3) := by decide +kernel
theorem dX12_law_46 : decode cX12_law 46 = .ok (.aload_n 0, 1) := by decide +kernel
theorem dX12_law_47 : decode cX12_law 47 = .ok (.bipush 59, 2) := by decide +kernel
theorem dX12_law_49 : decode cX12_law 49 = .ok (.invokevirtual 219, 3) := by decide +kernel
theorem dX12_law_52 : decode cX12_law 52 = .ok (.ifCond .eq 14, 3) := by decide +kernel
theorem dX12_law_55 : decode cX12_law 55 = .ok (.aload_n 0, 1) := by decide +kernel
theorem dX12_law_56 : decode cX12_law 56 = .ok (.invokevirtual 216, 3) := by decide +kernel
theorem dX12_law_59 : decode cX12_law 59 = .ok (.ifCond .eq 7, 3) := by decide +kernel
theorem dX12_law_62 : decode cX12_law 62 = .ok (.iconst 1, 1) := by decide +kernel
theorem dX12_law_63 : decode cX12_law 63 = .ok (.goto 4, 3) := by decide +kernel
theorem dX12_law_66 : decode cX12_law 66 = .ok (.iconst 0, 1) := by decide +kernel
theorem dX12_law_67 : decode cX12_law 67 = .ok (.istore_n 2, 1) := by decide +kernel
theorem dX12_law_68 : decode cX12_law 68 = .ok (.goto (-37), 3) := by decide +kernel
theorem dX12_law_71 : decode cX12_law 71 = .ok (.aload_n 0, 1) := by decide +kernel
theorem dX12_law_72 : decode cX12_law 72 = .ok (.iconst 0, 1) := by decide +kernel
theorem dX12_law_73 : decode cX12_law 73 = .ok (.putfield 120, 3) := by decide +kernel
theorem dX12_law_76 : decode cX12_law 76 = .ok (.iload_n 2, 1) := by decide +kernel
theorem dX12_law_77 : decode cX12_law 77 = .ok (.ifCond .ne 8, 3) := by decide +kernel
theorem dX12_law_80 : decode cX12_law 80 = .ok (.aload_n 0, 1) := by decide +kernel
theorem dX12_law_81 : decode cX12_law 81 = .ok (.getfield 138, 3) := by decide +kernel
theorem dX12_law_84 : decode cX12_law 84 = .ok (.ireturn, 1) := by decide +kernel
theorem dX12_law_85 : decode cX12_law 85 = .ok (.aload_n 0, 1) := by decide +kernel
theorem dX12_law_86 : decode cX12_law 86 = .ok (.aload_n 0, 1) := by decide +kernel
theorem dX12_law_87 : decode cX12_law 87 = .ok (.getfield 207, 3) := by decide +kernel
theorem dX12_law_90 : decode cX12_law 90 = .ok (.putfield 222, 3) := by decide +kernel
theorem dX12_law_93 : decode cX12_law 93 = .ok (.iconst 0, 1) := by decide +kernel
theorem dX12_law_94 : decode cX12_law 94 = .ok (.istore_n 3, 1) := by decide +kernel
theorem dX12_law_95 : decode cX12_law 95 = .ok (.iload_n 3, 1) := by decide +kernel
theorem dX12_law_96 : decode cX12_law 96 = .ok (.aload_n 0, 1) := by decide +kernel
theorem dX12_law_97 : decode cX12_law 97 = .ok (.getfield 152, 3) := by decide +kernel
theorem dX12_law_100 : decode cX12_law 100 = .ok (.if_icmp .ge 21, 3) := by decide +kernel
theorem dX12_law_103 : decode cX12_law 103 = .ok (.aload_n 0, 1) := by decide +kernel
theorem dX12_law_104 : decode cX12_law 104 = .ok (.getfield 47, 3) := by decide +kernel
theorem dX12_law_107 : decode cX12_law 107 = .ok (.iload_n 3, 1) := by decide +kernel
theorem dX12_law_108 : decode cX12_law 108 = .ok (.aload_n 0, 1) := by decide +kernel
theorem dX12_law_109 : decode cX12_law 109 = .ok (.getfield 29, 3) := by decide +kernel
theorem dX12_law_112 : decode cX12_law 112 = .ok (.iload_n 3, 1) := by decide +kernel
theorem dX12_law_113 : decode cX12_law 113 = .ok (.iaload, 1) := by decide +kernel
theorem dX12_law_114 : decode cX12_law 114 = .ok (.iastore, 1) := by decide +kernel
theorem dX12_law_115 : decode cX12_law 115 = .ok (.iinc 3 1, 3) := by decide +kernel
theorem dX12_law_118 : decode cX12_law 118 = .ok (.goto (-23), 3) := by decide +kernel
theorem dX12_law_121 : decode cX12_law 121 = .ok (.iconst 0, 1) := by decide +kernel
theorem dX12_law_122 : decode cX12_law 122 = .ok (.istore_n 3, 1) := by decide +kernel
theorem dX12_law_123 : decode cX12_law 123 = .ok (.iload_n 3, 1) := by decide +kernel
theorem dX12_law_124 : decode cX12_law 124 = .ok (.aload_n 0, 1) := by decide +kernel
theorem dX12_law_125 : decode cX12_law 125 = .ok (.getfield 207, 3) := by decide +kernel
theorem dX12_law_128 : decode cX12_law 128 = .ok (.if_icmp .ge 57, 3) := by decide +kernel
theorem dX12_law_131 : decode cX12_law 131 = .ok (.aload_n 0, 1) := by decide +kernel
theorem dX12_law_132 : decode cX12_law 132 = .ok (.getfield 50, 3) := by decide +kernel
theorem dX12_law_135 : decode cX12_law 135 = .ok (.iload_n 3, 1) := by decide +kernel
theorem dX12_law_136 : decode cX12_law 136 = .ok (.aload_n 0, 1) := by decide +kernel
theorem dX12_law_137 : decode cX12_law 137 = .ok (.getfield 35, 3) := by decide +kernel
theorem dX12_law_140 : decode cX12_law 140 = .ok (.iload_n 3, 1) := by decide +kernel
theorem dX12_law_141 : decode cX12_law 141 = .ok (.iaload, 1) := by decide +kernel
theorem dX12_law_142 : decode cX12_law 142 = .ok (.iastore, 1) := by decide +kernel
theorem dX12_law_143 : decode cX12_law 143 = .ok (.aload_n 0, 1) := by decide +kernel
theorem dX12_law_144 : decode cX12_law 144 = .ok (.getfield 53, 3) := by decide +kernel
theorem dX12_law_147 : decode cX12_law 147 = .ok (.iload_n 3, 1) := by decide +kernel
theorem dX12_law_148 : decode cX12_law 148 = .ok (.aload_n 0, 1) := by decide +kernel
theorem dX12_law_149 : decode cX12_law 149 = .ok (.getfield 38, 3) := by decide +kernel
theorem dX12_law_152 : decode cX12_law 152 = .ok (.iload_n 3, 1) := by decide +kernel
theorem dX12_law_153 : decode cX12_law 153 = .ok (.iaload, 1) := by decide +kernel
theorem dX12_law_154 : decode cX12_law 154 = .ok (.iastore, 1) := by decide +kernel
theorem dX12_law_155 : decode cX12_law 155 = .ok (.aload_n 0, 1) := by decide +kernel
theorem dX12_law_156 : decode cX12_law 156 = .ok (.getfield 56, 3) := by decide +kernel
theorem dX12_law_159 : decode cX12_law 159 = .ok (.iload_n 3, 1) := by decide +kernel
theorem dX12_law_160 : decode cX12_law 160 = .ok (.aload_n 0, 1) := by decide +kernel
theorem dX12_law_161 : decode cX12_law 161 = .ok (.getfield 41, 3) := by decide +kernel
theorem dX12_law_164 : decode cX12_law 164 = .ok (.iload_n 3, 1) := by decide +kernel
theorem dX12_law_165 : decode cX12_law 165 = .ok (.iaload, 1) := by decide +kernel
theorem dX12_law_166 : decode cX12_law 166 = .ok (.iastore, 1) := by decide +kernel
theorem dX12_law_167 : decode cX12_law 167 = .ok (.aload_n 0, 1) := by decide +kernel
theorem dX12_law_168 : decode cX12_law 168 = .ok (.getfield 59, 3) := by decide +kernel
theorem dX12_law_171 : decode cX12_law 171 = .ok (.iload_n 3, 1) := by decide +kernel
theorem dX12_law_172 : decode cX12_law 172 = .ok (.aload_n 0, 1) := by decide +kernel
theorem dX12_law_173 : decode cX12_law 173 = .ok (.getfield 44, 3) := by decide +kernel
theorem dX12_law_176 : decode cX12_law 176 = .ok (.iload_n 3, 1) := by decide +kernel
theorem dX12_law_177 : decode cX12_law 177 = .ok (.iaload, 1) := by decide +kernel
theorem dX12_law_178 : decode cX12_law 178 = .ok (.iastore, 1) := by decide +kernel
theorem dX12_law_179 : decode cX12_law 179 = .ok (.iinc 3 1, 3) := by decide +kernel
theorem dX12_law_182 : decode cX12_law 182 = .ok (.goto (-59), 3) := by decide +kernel
theorem dX12_law_185 : decode cX12_law 185 = .ok (.aload_n 0, 1) := by decide +kernel
theorem dX12_law_186 : decode cX12_law 186 = .ok (.getfield 207, 3) := by decide +kernel
theorem dX12_law_189 : decode cX12_law 189 = .ok (.ireturn, 1) := by decide +kernel
theorem dX12_reckon_0 : decode cX12_reckon 0 = .ok (.iload_n 0, 1) := by decide +kernel
theorem dX12_reckon_1 : decode cX12_reckon 1 = .ok (.tableswitch 85 2 8 #[43, 47, 51, 55, 59, 63, 74], 43) := by decide +kernel
theorem dX12_reckon_44 : decode cX12_reckon 44 = .ok (.iload_n 1, 1) := by decide +kernel
theorem dX12_reckon_45 : decode cX12_reckon 45 = .ok (.iload_n 2, 1) := by decide +kernel
theorem dX12_reckon_46 : decode cX12_reckon 46 = .ok (.iadd, 1) := by decide +kernel
theorem dX12_reckon_47 : decode cX12_reckon 47 = .ok (.ireturn, 1) := by decide +kernel
theorem dX12_reckon_48 : decode cX12_reckon 48 = .ok (.iload_n 1, 1) := by decide +kernel
theorem dX12_reckon_49 : decode cX12_reckon 49 = .ok (.iload_n 2, 1) := by decide +kernel
theorem dX12_reckon_50 : decode cX12_reckon 50 = .ok (.isub, 1) := by decide +kernel
theorem dX12_reckon_51 : decode cX12_reckon 51 = .ok (.ireturn, 1) := by decide +kernel
theorem dX12_reckon_52 : decode cX12_reckon 52 = .ok (.iload_n 1, 1) := by decide +kernel
theorem dX12_reckon_53 : decode cX12_reckon 53 = .ok (.iload_n 2, 1) := by decide +kernel
theorem dX12_reckon_54 : decode cX12_reckon 54 = .ok (.imul, 1) := by decide +kernel
theorem dX12_reckon_55 : decode cX12_reckon 55 = .ok (.ireturn, 1) := by decide +kernel
theorem dX12_reckon_56 : decode cX12_reckon 56 = .ok (.iload_n 1, 1) := by decide +kernel
theorem dX12_reckon_57 : decode cX12_reckon 57 = .ok (.iload_n 2, 1) := by decide +kernel
theorem dX12_reckon_58 : decode cX12_reckon 58 = .ok (.idiv, 1) := by decide +kernel
theorem dX12_reckon_59 : decode cX12_reckon 59 = .ok (.ireturn, 1) := by decide +kernel
theorem dX12_reckon_60 : decode cX12_reckon 60 = .ok (.iload_n 1, 1) := by decide +kernel
theorem dX12_reckon_61 : decode cX12_reckon 61 = .ok (.iload_n 2, 1) := by decide +kernel
theorem dX12_reckon_62 : decode cX12_reckon 62 = .ok (.irem, 1) := by decide +kernel
theorem dX12_reckon_63 : decode cX12_reckon 63 = .ok (.ireturn, 1) := by decide +kernel
theorem dX12_reckon_64 : decode cX12_reckon 64 = .ok (.iload_n 1, 1) := by decide +kernel
theorem dX12_reckon_65 : decode cX12_reckon 65 = .ok (.iload_n 2, 1) := by decide +kernel
theorem dX12_reckon_66 : decode cX12_reckon 66 = .ok (.if_icmp .ge 7, 3) := by decide +kernel
theorem dX12_reckon_69 : decode cX12_reckon 69 = .ok (.iconst 1, 1) := by decide +kernel
theorem dX12_reckon_70 : decode cX12_reckon 70 = .ok (.goto 4, 3) := by decide +kernel
theorem dX12_reckon_73 : decode cX12_reckon 73 = .ok (.iconst 0, 1) := by decide +kernel
theorem dX12_reckon_74 : decode cX12_reckon 74 = .ok (.ireturn, 1) := by decide +kernel
theorem dX12_reckon_75 : decode cX12_reckon 75 = .ok (.iload_n 1, 1) := by decide +kernel
theorem dX12_reckon_76 : decode cX12_reckon 76 = .ok (.iload_n 2, 1) := by decide +kernel
theorem dX12_reckon_77 : decode cX12_reckon 77 = .ok (.if_icmp .le 7, 3) := by decide +kernel
theorem dX12_reckon_80 : decode cX12_reckon 80 = .ok (.iconst 1, 1) := by decide +kernel
theorem dX12_reckon_81 : decode cX12_reckon 81 = .ok (.goto 4, 3) := by decide +kernel
theorem dX12_reckon_84 : decode cX12_reckon 84 = .ok (.iconst 0, 1) := by decide +kernel
theorem dX12_reckon_85 : decode cX12_reckon 85 = .ok (.ireturn, 1) := by decide +kernel
theorem dX12_reckon_86 : decode cX12_reckon 86 = .ok (.iload_n 1, 1) := by decide +kernel
theorem dX12_reckon_87 : decode cX12_reckon 87 = .ok (.iload_n 2, 1) := by decide +kernel
theorem dX12_reckon_88 : decode cX12_reckon 88 = .ok (.if_icmp .ne 7, 3) := by decide +kernel
theorem dX12_reckon_91 : decode cX12_reckon 91 = .ok (.iconst 1, 1) := by decide +kernel
theorem dX12_reckon_92 : decode cX12_reckon 92 = .ok (.goto 4, 3) := by decide +kernel
theorem dX12_reckon_95 : decode cX12_reckon 95 = .ok (.iconst 0, 1) := by decide +kernel
theorem dX12_reckon_96 : decode cX12_reckon 96 = .ok (.ireturn, 1) := by decide +kernel
def mX12_in (F : Nat) (x0 : Int32) (x1 : Int32) (x2 : Int32) (σ : jS) : Option Int32 := (if x0 < x1 then some (0 : Int32) else (if x2 < x0 then some (0 : Int32) else some (1 : Int32)))
set_option maxHeartbeats 4000000 in
set_option maxRecDepth 100000 in
theorem kX12_in {V : jV} {F : Nat} {x0 : Int32} {x1 : Int32} {x2 : Int32} {σ : jS} {v : Int32} (hm : mX12_in F x0 x1 x2 σ = some v) : Ct cfM 33 V yX12_in cX12_in 3 (some .boolean) 0 [.int x0, .int x1, .int x2] σ (v, σ) := by
  refine j_start (own := RX12) (by decide) rfl (Nat.le_of_ble_eq_true rfl) ?_
  intro G hV C
  subst hV
  unfold mX12_in at hm
  show JM G 0 [(0, .int x0), (1, .int x1), (2, .int x2)] [] σ (v, σ)
  refine j_iloadn (pc := 0) C 0 dX12_in_0 rfl rfl ?_
  refine j_iloadn (pc := 1) C 1 dX12_in_1 rfl rfl ?_
  refine j_icmp_lt (tgt := 14) (pc := 2) C dX12_in_2 (by decide) hm (fun _ hm => ?_) (fun _ hm => ?_)
  · refine j_iconst (v := 0) (pc := 14) C dX12_in_14 (by decide) ?_
    exact j_zret (pc := 15) C rfl rfl dX12_in_15 hm
  · refine j_iloadn (pc := 5) C 0 dX12_in_5 rfl rfl ?_
    refine j_iloadn (pc := 6) C 2 dX12_in_6 rfl rfl ?_
    refine j_icmp_gt (tgt := 14) (pc := 7) C dX12_in_7 (by decide) hm (fun _ hm => ?_) (fun _ hm => ?_)
    · refine j_iconst (v := 0) (pc := 14) C dX12_in_14 (by decide) ?_
      exact j_zret (pc := 15) C rfl rfl dX12_in_15 hm
    · refine j_iconst (v := 1) (pc := 10) C dX12_in_10 (by decide) ?_
      refine j_goto (tgt := 15) (pc := 11) C dX12_in_11 (by decide) ?_
      exact j_zret (pc := 15) C rfl rfl dX12_in_15 hm

def mX12_min (F : Nat) (x0 : Int32) (x1 : Int32) (σ : jS) : Option Int32 := (if x0 < x1 then some x0 else some x1)
set_option maxHeartbeats 4000000 in
set_option maxRecDepth 100000 in
theorem kX12_min {V : jV} {F : Nat} {x0 : Int32} {x1 : Int32} {σ : jS} {v : Int32} (hm : mX12_min F x0 x1 σ = some v) : Ct cfM 33 V yX12_min cX12_min 2 (some .int) 0 [.int x0, .int x1] σ (v, σ) := by
  refine j_start (own := RX12) (by decide) rfl (Nat.le_of_ble_eq_true rfl) ?_
  intro G hV C
  subst hV
  unfold mX12_min at hm
  show JM G 0 [(0, .int x0), (1, .int x1)] [] σ (v, σ)
  refine j_iloadn (pc := 0) C 0 dX12_min_0 rfl rfl ?_
  refine j_iloadn (pc := 1) C 1 dX12_min_1 rfl rfl ?_
  refine j_icmp_ge (tgt := 9) (pc := 2) C dX12_min_2 (by decide) hm (fun _ hm => ?_) (fun _ hm => ?_)
  · refine j_iloadn (pc := 5) C 0 dX12_min_5 rfl rfl ?_
    refine j_goto (tgt := 10) (pc := 6) C dX12_min_6 (by decide) ?_
    exact j_iret (pc := 10) C rfl dX12_min_10 hm
  · refine j_iloadn (pc := 9) C 1 dX12_min_9 rfl rfl ?_
    exact j_iret (pc := 10) C rfl dX12_min_10 hm

def mX12_max (F : Nat) (x0 : Int32) (x1 : Int32) (σ : jS) : Option Int32 := (if x1 < x0 then some x0 else some x1)
set_option maxHeartbeats 4000000 in
set_option maxRecDepth 100000 in
theorem kX12_max {V : jV} {F : Nat} {x0 : Int32} {x1 : Int32} {σ : jS} {v : Int32} (hm : mX12_max F x0 x1 σ = some v) : Ct cfM 33 V yX12_max cX12_max 2 (some .int) 0 [.int x0, .int x1] σ (v, σ) := by
  refine j_start (own := RX12) (by decide) rfl (Nat.le_of_ble_eq_true rfl) ?_
  intro G hV C
  subst hV
  unfold mX12_max at hm
  show JM G 0 [(0, .int x0), (1, .int x1)] [] σ (v, σ)
  refine j_iloadn (pc := 0) C 0 dX12_max_0 rfl rfl ?_
  refine j_iloadn (pc := 1) C 1 dX12_max_1 rfl rfl ?_
  refine j_icmp_le (tgt := 9) (pc := 2) C dX12_max_2 (by decide) hm (fun _ hm => ?_) (fun _ hm => ?_)
  · refine j_iloadn (pc := 5) C 0 dX12_max_5 rfl rfl ?_
    refine j_goto (tgt := 10) (pc := 6) C dX12_max_6 (by decide) ?_
    exact j_iret (pc := 10) C rfl dX12_max_10 hm
  · refine j_iloadn (pc := 9) C 1 dX12_max_9 rfl rfl ?_
    exact j_iret (pc := 10) C rfl dX12_max_10 hm

def mX12_has (F : Nat) (x0 : Int32) (x1 : Int32) (σ : jS) : Option Int32 := (if ((x0 >>> (x1 &&& 31)) &&& (1 : Int32)) = (1 : Int32) then some (1 : Int32) else some (0 : Int32))
set_option maxHeartbeats 4000000 in
set_option maxRecDepth 100000 in
theorem kX12_has {V : jV} {F : Nat} {x0 : Int32} {x1 : Int32} {σ : jS} {v : Int32} (hm : mX12_has F x0 x1 σ = some v) : Ct cfM 33 V yX12_has cX12_has 2 (some .boolean) 0 [.int x0, .int x1] σ (v, σ) := by
  refine j_start (own := RX12) (by decide) rfl (Nat.le_of_ble_eq_true rfl) ?_
  intro G hV C
  subst hV
  unfold mX12_has at hm
  show JM G 0 [(0, .int x0), (1, .int x1)] [] σ (v, σ)
  refine j_iloadn (pc := 0) C 0 dX12_has_0 rfl rfl ?_
  refine j_iloadn (pc := 1) C 1 dX12_has_1 rfl rfl ?_
  refine j_ishr (pc := 2) C dX12_has_2 ?_
  refine j_iconst (v := 1) (pc := 3) C dX12_has_3 (by decide) ?_
  refine j_iand (pc := 4) C dX12_has_4 ?_
  refine j_iconst (v := 1) (pc := 5) C dX12_has_5 (by decide) ?_
  refine j_icmp_ne (tgt := 13) (pc := 6) C dX12_has_6 (by decide) hm (fun _ hm => ?_) (fun _ hm => ?_)
  · refine j_iconst (v := 1) (pc := 9) C dX12_has_9 (by decide) ?_
    refine j_goto (tgt := 14) (pc := 10) C dX12_has_10 (by decide) ?_
    exact j_zret (pc := 14) C rfl rfl dX12_has_14 hm
  · refine j_iconst (v := 0) (pc := 13) C dX12_has_13 (by decide) ?_
    exact j_zret (pc := 14) C rfl rfl dX12_has_14 hm

def lp_X12_bits_4 (F : Nat) (σ : jS) : Nat → Int32 → Int32 → Int32 → Option Int32
  | 0, _, _, _ => none
  | n + 1, x0, x1, x2 => (if x2 < (16 : Int32) then (lt (x1 + ((x0 >>> (x2 &&& 31)) &&& (1 : Int32))) fun y1 => (lp_X12_bits_4 F σ n x0 y1 ((x2 + (1 : Int32))))) else some x1)
set_option maxHeartbeats 4000000 in
set_option maxRecDepth 100000 in
theorem lp_X12_bits_4_ok {G : jG} (C : jc cfM 33 G cX12_bits RX12 3 (some .int) 0) (F : Nat) (σ : jS) {v : Int32} : ∀ (n : Nat) (x0 : Int32) (x1 : Int32) (x2 : Int32), lp_X12_bits_4 F σ n x0 x1 x2 = some v → JM G 4 [(0, .int x0), (1, .int x1), (2, .int x2)] [] σ (v, σ) := by
  intro n
  induction n with
  | zero =>
    intro x0 x1 x2 hm
    rw [lp_X12_bits_4] at hm
    cases hm
  | succ n ih =>
    intro x0 x1 x2 hm
    rw [lp_X12_bits_4] at hm
    refine j_iloadn (pc := 4) C 2 dX12_bits_4 rfl rfl ?_
    refine j_bipush (v := 16) (pc := 5) C dX12_bits_5 (by decide) ?_
    refine j_icmp_ge (tgt := 24) (pc := 7) C dX12_bits_7 (by decide) hm (fun _ hm => ?_) (fun _ hm => ?_)
    · refine j_iloadn (pc := 10) C 1 dX12_bits_10 rfl rfl ?_
      refine j_iloadn (pc := 11) C 0 dX12_bits_11 rfl rfl ?_
      refine j_iloadn (pc := 12) C 2 dX12_bits_12 rfl rfl ?_
      refine j_ishr (pc := 13) C dX12_bits_13 ?_
      refine j_iconst (v := 1) (pc := 14) C dX12_bits_14 (by decide) ?_
      refine j_iand (pc := 15) C dX12_bits_15 ?_
      refine j_iadd (pc := 16) C dX12_bits_16 ?_
      refine j_lti hm (fun y1 hm => ?_)
      refine j_istoren (ls' := [(1, .int y1), (0, .int x0), (2, .int x2)]) (pc := 17) C dX12_bits_17 rfl (by decide) rfl ?_
      refine j_iinc (v := (x2 + (1 : Int32))) (ls' := [(2, .int (x2 + (1 : Int32))), (1, .int y1), (0, .int x0)]) (pc := 18) C 2 dX12_bits_18 rfl rfl (by decide) rfl ?_
      refine j_goto (tgt := 4) (pc := 21) C dX12_bits_21 (by decide) ?_
      refine j_ls [2, 1, 0] rfl ?_
      exact ih _ _ _ hm
    · refine j_iloadn (pc := 24) C 1 dX12_bits_24 rfl rfl ?_
      exact j_iret (pc := 25) C rfl dX12_bits_25 hm

def mX12_bits (F : Nat) (x0 : Int32) (σ : jS) : Option Int32 := (lp_X12_bits_4 F σ F x0 (0 : Int32) (0 : Int32))
set_option maxHeartbeats 4000000 in
set_option maxRecDepth 100000 in
theorem kX12_bits {V : jV} {F : Nat} {x0 : Int32} {σ : jS} {v : Int32} (hm : mX12_bits F x0 σ = some v) : Ct cfM 33 V yX12_bits cX12_bits 3 (some .int) 0 [.int x0] σ (v, σ) := by
  refine j_start (own := RX12) (by decide) rfl (Nat.le_of_ble_eq_true rfl) ?_
  intro G hV C
  subst hV
  unfold mX12_bits at hm
  show JM G 0 [(0, .int x0)] [] σ (v, σ)
  refine j_iconst (v := 0) (pc := 0) C dX12_bits_0 (by decide) ?_
  refine j_istoren (ls' := [(1, .int (0 : Int32)), (0, .int x0)]) (pc := 1) C dX12_bits_1 rfl (by decide) rfl ?_
  refine j_iconst (v := 0) (pc := 2) C dX12_bits_2 (by decide) ?_
  refine j_istoren (ls' := [(2, .int (0 : Int32)), (1, .int (0 : Int32)), (0, .int x0)]) (pc := 3) C dX12_bits_3 rfl (by decide) rfl ?_
  refine j_ls [2, 1, 0] rfl ?_
  exact lp_X12_bits_4_ok C F σ  F _ _ _ hm

def lp_X12_gcd_4 (F : Nat) (σ : jS) : Nat → Int32 → Int32 → Option Int32
  | 0, _, _ => none
  | n + 1, x2, x3 => (if x3 = 0 then some x2 else (if x3 = 0 then none else (lt (irm x2 x3) fun y1 => (lp_X12_gcd_4 F σ n x3 y1))))
set_option maxHeartbeats 4000000 in
set_option maxRecDepth 100000 in
theorem lp_X12_gcd_4_ok {G : jG} (C : jc cfM 33 G cX12_gcd RX12 5 (some .int) 0) (F : Nat) (σ : jS) {v : Int32} : ∀ (n : Nat) (x2 : Int32) (x3 : Int32), lp_X12_gcd_4 F σ n x2 x3 = some v → JM G 4 [(2, .int x2), (3, .int x3)] [] σ (v, σ) := by
  intro n
  induction n with
  | zero =>
    intro x2 x3 hm
    rw [lp_X12_gcd_4] at hm
    cases hm
  | succ n ih =>
    intro x2 x3 hm
    rw [lp_X12_gcd_4] at hm
    refine j_iloadn (pc := 4) C 1 dX12_gcd_4 rfl rfl ?_
    refine j_if_eq (tgt := 21) (pc := 5) C dX12_gcd_5 (by decide) hm (fun _ hm => ?_) (fun _ hm => ?_)
    · refine j_iloadn (pc := 21) C 0 dX12_gcd_21 rfl rfl ?_
      exact j_iret (pc := 22) C rfl dX12_gcd_22 hm
    · refine j_iloadn (pc := 8) C 0 dX12_gcd_8 rfl rfl ?_
      refine j_iloadn (pc := 9) C 1 dX12_gcd_9 rfl rfl ?_
      refine j_irem (pc := 10) C dX12_gcd_10 hm (fun hm => ?_)
      refine j_lti hm (fun y1 hm => ?_)
      refine j_istore (ls' := [(4, .int y1), (2, .int x2), (3, .int x3)]) (pc := 11) C dX12_gcd_11 (by decide) rfl ?_
      refine j_iloadn (pc := 13) C 2 dX12_gcd_13 rfl rfl ?_
      refine j_istoren (ls' := [(2, .int x3), (4, .int y1), (3, .int x3)]) (pc := 14) C dX12_gcd_14 rfl (by decide) rfl ?_
      refine j_iload (pc := 15) C 1 dX12_gcd_15 rfl ?_
      refine j_istoren (ls' := [(3, .int y1), (2, .int x3), (4, .int y1)]) (pc := 17) C dX12_gcd_17 rfl (by decide) rfl ?_
      refine j_goto (tgt := 4) (pc := 18) C dX12_gcd_18 (by decide) ?_
      refine j_ls [1, 0] rfl ?_
      exact ih _ _ hm

def mX12_gcd (F : Nat) (x0 : Int32) (x1 : Int32) (σ : jS) : Option Int32 := (lp_X12_gcd_4 F σ F x0 x1)
set_option maxHeartbeats 4000000 in
set_option maxRecDepth 100000 in
theorem kX12_gcd {V : jV} {F : Nat} {x0 : Int32} {x1 : Int32} {σ : jS} {v : Int32} (hm : mX12_gcd F x0 x1 σ = some v) : Ct cfM 33 V yX12_gcd cX12_gcd 5 (some .int) 0 [.int x0, .int x1] σ (v, σ) := by
  refine j_start (own := RX12) (by decide) rfl (Nat.le_of_ble_eq_true rfl) ?_
  intro G hV C
  subst hV
  unfold mX12_gcd at hm
  show JM G 0 [(0, .int x0), (1, .int x1)] [] σ (v, σ)
  refine j_iloadn (pc := 0) C 0 dX12_gcd_0 rfl rfl ?_
  refine j_istoren (ls' := [(2, .int x0), (0, .int x0), (1, .int x1)]) (pc := 1) C dX12_gcd_1 rfl (by decide) rfl ?_
  refine j_iloadn (pc := 2) C 2 dX12_gcd_2 rfl rfl ?_
  refine j_istoren (ls' := [(3, .int x1), (2, .int x0), (0, .int x0), (1, .int x1)]) (pc := 3) C dX12_gcd_3 rfl (by decide) rfl ?_
  refine j_ls [1, 0] rfl ?_
  exact lp_X12_gcd_4_ok C F σ  F _ _ hm

def lp_X12_copies_2 (F : Nat) (e0 : Nat) (e1 : Nat) : Nat → Int32 → jS → Option jS
  | 0, _, _ => none
  | n + 1, x2, σ => (if x2 < (212 : Int32) then (if jin x2 212 = true then (if jin x2 212 = true then (lt (js σ e1 x2.toNatClampNeg (σ e0 x2.toNatClampNeg)) fun σ2 => (lp_X12_copies_2 F e0 e1 n ((x2 + (1 : Int32))) σ2)) else none) else none) else some σ)
set_option maxHeartbeats 4000000 in
set_option maxRecDepth 100000 in
theorem lp_X12_copies_2_ok {G : jG} (C : jc cfM 33 G cX12_copies RX12 3 none 0) (F : Nat) (e0 : Nat) (e1 : Nat) (he0 : kM e0 = 99) (hl0 : lM e0 = 212) (he1 : kM e1 = 99) (hl1 : lM e1 = 212) {v : jS} : ∀ (n : Nat) (x2 : Int32) (σ : jS), lp_X12_copies_2 F e0 e1 n x2 σ = some v → JM G 2 [(0, .ref (vad (gV G) e0)), (1, .ref (vad (gV G) e1)), (2, .int x2)] [] σ (0, v) := by
  intro n
  induction n with
  | zero =>
    intro x2 σ hm
    rw [lp_X12_copies_2] at hm
    cases hm
  | succ n ih =>
    intro x2 σ hm
    rw [lp_X12_copies_2] at hm
    refine j_iloadn (pc := 2) C 2 dX12_copies_2 rfl rfl ?_
    refine j_sipush (v := 212) (pc := 3) C dX12_copies_3 (by decide) ?_
    refine j_icmp_ge (tgt := 21) (pc := 6) C dX12_copies_6 (by decide) hm (fun _ hm => ?_) (fun _ hm => ?_)
    · refine j_aloadn (pc := 9) C 1 dX12_copies_9 rfl rfl ?_
      refine j_iloadn (pc := 10) C 2 dX12_copies_10 rfl rfl ?_
      refine j_aloadn (pc := 11) C 0 dX12_copies_11 rfl rfl ?_
      refine j_iloadn (pc := 12) C 2 dX12_copies_12 rfl rfl ?_
      refine j_guard hm (fun hg1 hm => ?_)
      refine j_iald (c := e0) (n := 212) (pc := 13) C (kM_lt he0 (by decide)) (cm_a he0 hl0 _) hg1 dX12_copies_13 ?_
      refine j_guard hm (fun hg3 hm => ?_)
      refine j_iastL (c := e1) (n := 212) (pc := 14) C (kM_lt he1 (by decide)) (cm_a he1 hl1) hg3 dX12_copies_14 hm (fun σ2 hm => ?_)
      refine j_iinc (v := (x2 + (1 : Int32))) (ls' := [(2, .int (x2 + (1 : Int32))), (0, .ref (vad (gV G) e0)), (1, .ref (vad (gV G) e1))]) (pc := 15) C 2 dX12_copies_15 rfl rfl (by decide) rfl ?_
      refine j_goto (tgt := 2) (pc := 18) C dX12_copies_18 (by decide) ?_
      refine j_ls [1, 2, 0] rfl ?_
      exact ih _ _ hm
    · exact j_vret (pc := 21) C rfl dX12_copies_21 hm

def mX12_copies (F : Nat) (e0 : Nat) (e1 : Nat) (σ : jS) : Option jS := (lp_X12_copies_2 F e0 e1 F (0 : Int32) σ)
set_option maxHeartbeats 4000000 in
set_option maxRecDepth 100000 in
theorem kX12_copies {V : jV} {F : Nat} {e0 : Nat} {e1 : Nat} (he0 : kM e0 = 99) (hl0 : lM e0 = 212) (he1 : kM e1 = 99) (hl1 : lM e1 = 212) {σ : jS} {v : jS} (hm : mX12_copies F e0 e1 σ = some v) : Ct cfM 33 V yX12_copies cX12_copies 3 none 0 [.ref (vad V e0), .ref (vad V e1)] σ (0, v) := by
  refine j_start (own := RX12) (by decide) rfl (Nat.le_of_ble_eq_true rfl) ?_
  intro G hV C
  subst hV
  unfold mX12_copies at hm
  show JM G 0 [(0, .ref (vad (gV G) e0)), (1, .ref (vad (gV G) e1))] [] σ (0, v)
  refine j_iconst (v := 0) (pc := 0) C dX12_copies_0 (by decide) ?_
  refine j_istoren (ls' := [(2, .int (0 : Int32)), (0, .ref (vad (gV G) e0)), (1, .ref (vad (gV G) e1))]) (pc := 1) C dX12_copies_1 rfl (by decide) rfl ?_
  refine j_ls [1, 2, 0] rfl ?_
  exact lp_X12_copies_2_ok C F e0 e1 he0 hl0 he1 hl1  F _ _ hm

def mX12_isTold (F : Nat) (x1 : Int32) (σ : jS) : Option Int32 := (Option.bind (mX12_in F x1 (0 : Int32) (15 : Int32) σ) fun q1 => (if q1 = 0 then some (0 : Int32) else (lt ((0 : Int32) + x1) fun y2 => (if jin y2 212 = true then (if (σ 1 y2.toNatClampNeg) = (1 : Int32) then some (1 : Int32) else some (0 : Int32)) else none))))
set_option maxHeartbeats 4000000 in
set_option maxRecDepth 100000 in
theorem kX12_isTold {V : jV} {F : Nat} {x1 : Int32} {σ : jS} {v : Int32} (hm : mX12_isTold F x1 σ = some v) : Ct cfM 33 V yX12_isTold cX12_isTold 2 (some .boolean) 1 [.ref (vad V 0), .int x1] σ (v, σ) := by
  refine j_start (own := RX12) (by decide) rfl (Nat.le_of_ble_eq_true rfl) ?_
  intro G hV C
  subst hV
  unfold mX12_isTold at hm
  show JM G 0 [(0, .ref (vad (gV G) 0)), (1, .int x1)] [] σ (v, σ)
  refine j_iloadn (pc := 0) C 1 dX12_isTold_0 rfl rfl ?_
  refine j_iconst (v := 0) (pc := 1) C dX12_isTold_1 (by decide) ?_
  refine j_bipush (v := 15) (pc := 2) C dX12_isTold_2 (by decide) ?_
  obtain ⟨q1, hq1, hm⟩ := Option.bind_eq_some_iff.mp hm
  refine cl_X12_107 (pc := 4) C (kX12_in hq1) (by decide) (Nat.le_of_ble_eq_true rfl) dX12_isTold_4 ?_
  refine j_if_eq (tgt := 26) (pc := 7) C dX12_isTold_7 (by decide) hm (fun _ hm => ?_) (fun _ hm => ?_)
  · refine j_iconst (v := 0) (pc := 26) C dX12_isTold_26 (by decide) ?_
    exact j_zret (pc := 27) C rfl rfl dX12_isTold_27 hm
  · refine j_aloadn (pc := 10) C 0 dX12_isTold_10 rfl rfl ?_
    refine gf_X12_7 (c := 0) (pc := 11) C km_0 dX12_isTold_11 ?_
    refine j_iconst (v := 0) (pc := 14) C dX12_isTold_14 (by decide) ?_
    refine j_iloadn (pc := 15) C 1 dX12_isTold_15 rfl rfl ?_
    refine j_iadd (pc := 16) C dX12_isTold_16 ?_
    refine j_lti hm (fun y2 hm => ?_)
    refine j_guard hm (fun hg3 hm => ?_)
    refine j_iald (c := 1) (n := 212) (pc := 17) C (kM_lt km_1 (by decide)) (cm_a km_1 lm_1 _) hg3 dX12_isTold_17 ?_
    refine j_iconst (v := 1) (pc := 18) C dX12_isTold_18 (by decide) ?_
    refine j_icmp_ne (tgt := 26) (pc := 19) C dX12_isTold_19 (by decide) hm (fun _ hm => ?_) (fun _ hm => ?_)
    · refine j_iconst (v := 1) (pc := 22) C dX12_isTold_22 (by decide) ?_
      refine j_goto (tgt := 27) (pc := 23) C dX12_isTold_23 (by decide) ?_
      exact j_zret (pc := 27) C rfl rfl dX12_isTold_27 hm
    · refine j_iconst (v := 0) (pc := 26) C dX12_isTold_26 (by decide) ?_
      exact j_zret (pc := 27) C rfl rfl dX12_isTold_27 hm

def mX12_isLiving (F : Nat) (x1 : Int32) (σ : jS) : Option Int32 := (Option.bind (mX12_isTold F x1 σ) fun q1 => (if q1 = 0 then some (0 : Int32) else (lt ((48 : Int32) + x1) fun y2 => (if jin y2 212 = true then (if (σ 1 y2.toNatClampNeg) = (1 : Int32) then some (1 : Int32) else some (0 : Int32)) else none))))
set_option maxHeartbeats 4000000 in
set_option maxRecDepth 100000 in
theorem kX12_isLiving {V : jV} {F : Nat} {x1 : Int32} {σ : jS} {v : Int32} (hm : mX12_isLiving F x1 σ = some v) : Ct cfM 33 V yX12_isLiving cX12_isLiving 2 (some .boolean) 2 [.ref (vad V 0), .int x1] σ (v, σ) := by
  refine j_start (own := RX12) (by decide) rfl (Nat.le_of_ble_eq_true rfl) ?_
  intro G hV C
  subst hV
  unfold mX12_isLiving at hm
  show JM G 0 [(0, .ref (vad (gV G) 0)), (1, .int x1)] [] σ (v, σ)
  refine j_aloadn (pc := 0) C 0 dX12_isLiving_0 rfl rfl ?_
  refine j_iloadn (pc := 1) C 1 dX12_isLiving_1 rfl rfl ?_
  obtain ⟨q1, hq1, hm⟩ := Option.bind_eq_some_iff.mp hm
  refine cl_X12_111 (c := 0) (pc := 2) C km_0 (kX12_isTold hq1) (by decide) (Nat.le_of_ble_eq_true rfl) dX12_isLiving_2 ?_
  refine j_if_eq (tgt := 25) (pc := 5) C dX12_isLiving_5 (by decide) hm (fun _ hm => ?_) (fun _ hm => ?_)
  · refine j_iconst (v := 0) (pc := 25) C dX12_isLiving_25 (by decide) ?_
    exact j_zret (pc := 26) C rfl rfl dX12_isLiving_26 hm
  · refine j_aloadn (pc := 8) C 0 dX12_isLiving_8 rfl rfl ?_
    refine gf_X12_7 (c := 0) (pc := 9) C km_0 dX12_isLiving_9 ?_
    refine j_bipush (v := 48) (pc := 12) C dX12_isLiving_12 (by decide) ?_
    refine j_iloadn (pc := 14) C 1 dX12_isLiving_14 rfl rfl ?_
    refine j_iadd (pc := 15) C dX12_isLiving_15 ?_
    refine j_lti hm (fun y2 hm => ?_)
    refine j_guard hm (fun hg3 hm => ?_)
    refine j_iald (c := 1) (n := 212) (pc := 16) C (kM_lt km_1 (by decide)) (cm_a km_1 lm_1 _) hg3 dX12_isLiving_16 ?_
    refine j_iconst (v := 1) (pc := 17) C dX12_isLiving_17 (by decide) ?_
    refine j_icmp_ne (tgt := 25) (pc := 18) C dX12_isLiving_18 (by decide) hm (fun _ hm => ?_) (fun _ hm => ?_)
    · refine j_iconst (v := 1) (pc := 21) C dX12_isLiving_21 (by decide) ?_
      refine j_goto (tgt := 26) (pc := 22) C dX12_isLiving_22 (by decide) ?_
      exact j_zret (pc := 26) C rfl rfl dX12_isLiving_26 hm
    · refine j_iconst (v := 0) (pc := 25) C dX12_isLiving_25 (by decide) ?_
      exact j_zret (pc := 26) C rfl rfl dX12_isLiving_26 hm

def lp_X12_toldSet_4 (F : Nat) (σ : jS) : Nat → Int32 → Int32 → Option Int32
  | 0, _, _ => none
  | n + 1, x1, x2 => (if x2 < (16 : Int32) then (Option.bind (mX12_isTold F x2 σ) fun q1 => (if q1 = 0 then (lp_X12_toldSet_4 F σ n x1 ((x2 + (1 : Int32)))) else (lt (x1 ||| ((1 : Int32) <<< (x2 &&& 31))) fun y2 => (lp_X12_toldSet_4 F σ n y2 ((x2 + (1 : Int32))))))) else some x1)
set_option maxHeartbeats 4000000 in
set_option maxRecDepth 100000 in
theorem lp_X12_toldSet_4_ok {G : jG} (C : jc cfM 33 G cX12_toldSet RX12 3 (some .int) 2) (F : Nat) (σ : jS) {v : Int32} : ∀ (n : Nat) (x1 : Int32) (x2 : Int32), lp_X12_toldSet_4 F σ n x1 x2 = some v → JM G 4 [(0, .ref (vad (gV G) 0)), (1, .int x1), (2, .int x2)] [] σ (v, σ) := by
  intro n
  induction n with
  | zero =>
    intro x1 x2 hm
    rw [lp_X12_toldSet_4] at hm
    cases hm
  | succ n ih =>
    intro x1 x2 hm
    rw [lp_X12_toldSet_4] at hm
    refine j_iloadn (pc := 4) C 2 dX12_toldSet_4 rfl rfl ?_
    refine j_bipush (v := 16) (pc := 5) C dX12_toldSet_5 (by decide) ?_
    refine j_icmp_ge (tgt := 30) (pc := 7) C dX12_toldSet_7 (by decide) hm (fun _ hm => ?_) (fun _ hm => ?_)
    · refine j_aloadn (pc := 10) C 0 dX12_toldSet_10 rfl rfl ?_
      refine j_iloadn (pc := 11) C 2 dX12_toldSet_11 rfl rfl ?_
      obtain ⟨q1, hq1, hm⟩ := Option.bind_eq_some_iff.mp hm
      refine cl_X12_111 (c := 0) (pc := 12) C km_0 (kX12_isTold hq1) (by decide) (Nat.le_of_ble_eq_true rfl) dX12_toldSet_12 ?_
      refine j_if_eq (tgt := 24) (pc := 15) C dX12_toldSet_15 (by decide) hm (fun _ hm => ?_) (fun _ hm => ?_)
      · refine j_iinc (v := (x2 + (1 : Int32))) (ls' := [(2, .int (x2 + (1 : Int32))), (0, .ref (vad (gV G) 0)), (1, .int x1)]) (pc := 24) C 2 dX12_toldSet_24 rfl rfl (by decide) rfl ?_
        refine j_goto (tgt := 4) (pc := 27) C dX12_toldSet_27 (by decide) ?_
        refine j_ls [1, 2, 0] rfl ?_
        exact ih _ _ hm
      · refine j_iloadn (pc := 18) C 1 dX12_toldSet_18 rfl rfl ?_
        refine j_iconst (v := 1) (pc := 19) C dX12_toldSet_19 (by decide) ?_
        refine j_iloadn (pc := 20) C 2 dX12_toldSet_20 rfl rfl ?_
        refine j_ishl (pc := 21) C dX12_toldSet_21 ?_
        refine j_ior (pc := 22) C dX12_toldSet_22 ?_
        refine j_lti hm (fun y2 hm => ?_)
        refine j_istoren (ls' := [(1, .int y2), (0, .ref (vad (gV G) 0)), (2, .int x2)]) (pc := 23) C dX12_toldSet_23 rfl (by decide) rfl ?_
        refine j_iinc (v := (x2 + (1 : Int32))) (ls' := [(2, .int (x2 + (1 : Int32))), (1, .int y2), (0, .ref (vad (gV G) 0))]) (pc := 24) C 2 dX12_toldSet_24 rfl rfl (by decide) rfl ?_
        refine j_goto (tgt := 4) (pc := 27) C dX12_toldSet_27 (by decide) ?_
        refine j_ls [2, 1, 0] rfl ?_
        exact ih _ _ hm
    · refine j_iloadn (pc := 30) C 1 dX12_toldSet_30 rfl rfl ?_
      exact j_iret (pc := 31) C rfl dX12_toldSet_31 hm

def mX12_toldSet (F : Nat) (σ : jS) : Option Int32 := (lp_X12_toldSet_4 F σ F (0 : Int32) (0 : Int32))
set_option maxHeartbeats 4000000 in
set_option maxRecDepth 100000 in
theorem kX12_toldSet {V : jV} {F : Nat} {σ : jS} {v : Int32} (hm : mX12_toldSet F σ = some v) : Ct cfM 33 V yX12_toldSet cX12_toldSet 3 (some .int) 2 [.ref (vad V 0)] σ (v, σ) := by
  refine j_start (own := RX12) (by decide) rfl (Nat.le_of_ble_eq_true rfl) ?_
  intro G hV C
  subst hV
  unfold mX12_toldSet at hm
  show JM G 0 [(0, .ref (vad (gV G) 0))] [] σ (v, σ)
  refine j_iconst (v := 0) (pc := 0) C dX12_toldSet_0 (by decide) ?_
  refine j_istoren (ls' := [(1, .int (0 : Int32)), (0, .ref (vad (gV G) 0))]) (pc := 1) C dX12_toldSet_1 rfl (by decide) rfl ?_
  refine j_iconst (v := 0) (pc := 2) C dX12_toldSet_2 (by decide) ?_
  refine j_istoren (ls' := [(2, .int (0 : Int32)), (1, .int (0 : Int32)), (0, .ref (vad (gV G) 0))]) (pc := 3) C dX12_toldSet_3 rfl (by decide) rfl ?_
  refine j_ls [2, 1, 0] rfl ?_
  exact lp_X12_toldSet_4_ok C F σ  F _ _ hm

def lp_X12_livingSet_4 (F : Nat) (σ : jS) : Nat → Int32 → Int32 → Option Int32
  | 0, _, _ => none
  | n + 1, x1, x2 => (if x2 < (16 : Int32) then (Option.bind (mX12_isLiving F x2 σ) fun q1 => (if q1 = 0 then (lp_X12_livingSet_4 F σ n x1 ((x2 + (1 : Int32)))) else (lt (x1 ||| ((1 : Int32) <<< (x2 &&& 31))) fun y2 => (lp_X12_livingSet_4 F σ n y2 ((x2 + (1 : Int32))))))) else some x1)
set_option maxHeartbeats 4000000 in
set_option maxRecDepth 100000 in
theorem lp_X12_livingSet_4_ok {G : jG} (C : jc cfM 33 G cX12_livingSet RX12 3 (some .int) 3) (F : Nat) (σ : jS) {v : Int32} : ∀ (n : Nat) (x1 : Int32) (x2 : Int32), lp_X12_livingSet_4 F σ n x1 x2 = some v → JM G 4 [(0, .ref (vad (gV G) 0)), (1, .int x1), (2, .int x2)] [] σ (v, σ) := by
  intro n
  induction n with
  | zero =>
    intro x1 x2 hm
    rw [lp_X12_livingSet_4] at hm
    cases hm
  | succ n ih =>
    intro x1 x2 hm
    rw [lp_X12_livingSet_4] at hm
    refine j_iloadn (pc := 4) C 2 dX12_livingSet_4 rfl rfl ?_
    refine j_bipush (v := 16) (pc := 5) C dX12_livingSet_5 (by decide) ?_
    refine j_icmp_ge (tgt := 30) (pc := 7) C dX12_livingSet_7 (by decide) hm (fun _ hm => ?_) (fun _ hm => ?_)
    · refine j_aloadn (pc := 10) C 0 dX12_livingSet_10 rfl rfl ?_
      refine j_iloadn (pc := 11) C 2 dX12_livingSet_11 rfl rfl ?_
      obtain ⟨q1, hq1, hm⟩ := Option.bind_eq_some_iff.mp hm
      refine cl_X12_115 (c := 0) (pc := 12) C km_0 (kX12_isLiving hq1) (by decide) (Nat.le_of_ble_eq_true rfl) dX12_livingSet_12 ?_
      refine j_if_eq (tgt := 24) (pc := 15) C dX12_livingSet_15 (by decide) hm (fun _ hm => ?_) (fun _ hm => ?_)
      · refine j_iinc (v := (x2 + (1 : Int32))) (ls' := [(2, .int (x2 + (1 : Int32))), (0, .ref (vad (gV G) 0)), (1, .int x1)]) (pc := 24) C 2 dX12_livingSet_24 rfl rfl (by decide) rfl ?_
        refine j_goto (tgt := 4) (pc := 27) C dX12_livingSet_27 (by decide) ?_
        refine j_ls [1, 2, 0] rfl ?_
        exact ih _ _ hm
      · refine j_iloadn (pc := 18) C 1 dX12_livingSet_18 rfl rfl ?_
        refine j_iconst (v := 1) (pc := 19) C dX12_livingSet_19 (by decide) ?_
        refine j_iloadn (pc := 20) C 2 dX12_livingSet_20 rfl rfl ?_
        refine j_ishl (pc := 21) C dX12_livingSet_21 ?_
        refine j_ior (pc := 22) C dX12_livingSet_22 ?_
        refine j_lti hm (fun y2 hm => ?_)
        refine j_istoren (ls' := [(1, .int y2), (0, .ref (vad (gV G) 0)), (2, .int x2)]) (pc := 23) C dX12_livingSet_23 rfl (by decide) rfl ?_
        refine j_iinc (v := (x2 + (1 : Int32))) (ls' := [(2, .int (x2 + (1 : Int32))), (1, .int y2), (0, .ref (vad (gV G) 0))]) (pc := 24) C 2 dX12_livingSet_24 rfl rfl (by decide) rfl ?_
        refine j_goto (tgt := 4) (pc := 27) C dX12_livingSet_27 (by decide) ?_
        refine j_ls [2, 1, 0] rfl ?_
        exact ih _ _ hm
    · refine j_iloadn (pc := 30) C 1 dX12_livingSet_30 rfl rfl ?_
      exact j_iret (pc := 31) C rfl dX12_livingSet_31 hm

def mX12_livingSet (F : Nat) (σ : jS) : Option Int32 := (lp_X12_livingSet_4 F σ F (0 : Int32) (0 : Int32))
set_option maxHeartbeats 4000000 in
set_option maxRecDepth 100000 in
theorem kX12_livingSet {V : jV} {F : Nat} {σ : jS} {v : Int32} (hm : mX12_livingSet F σ = some v) : Ct cfM 33 V yX12_livingSet cX12_livingSet 3 (some .int) 3 [.ref (vad V 0)] σ (v, σ) := by
  refine j_start (own := RX12) (by decide) rfl (Nat.le_of_ble_eq_true rfl) ?_
  intro G hV C
  subst hV
  unfold mX12_livingSet at hm
  show JM G 0 [(0, .ref (vad (gV G) 0))] [] σ (v, σ)
  refine j_iconst (v := 0) (pc := 0) C dX12_livingSet_0 (by decide) ?_
  refine j_istoren (ls' := [(1, .int (0 : Int32)), (0, .ref (vad (gV G) 0))]) (pc := 1) C dX12_livingSet_1 rfl (by decide) rfl ?_
  refine j_iconst (v := 0) (pc := 2) C dX12_livingSet_2 (by decide) ?_
  refine j_istoren (ls' := [(2, .int (0 : Int32)), (1, .int (0 : Int32)), (0, .ref (vad (gV G) 0))]) (pc := 3) C dX12_livingSet_3 rfl (by decide) rfl ?_
  refine j_ls [2, 1, 0] rfl ?_
  exact lp_X12_livingSet_4_ok C F σ  F _ _ hm

def mX12_isLoan (F : Nat) (x1 : Int32) (σ : jS) : Option Int32 := (Option.bind (mX12_in F x1 (0 : Int32) (((σ 1 208) - (1 : Int32))) σ) fun q1 => (if jbo q1 = true then some q1 else none))
set_option maxHeartbeats 4000000 in
set_option maxRecDepth 100000 in
theorem kX12_isLoan {V : jV} {F : Nat} {x1 : Int32} {σ : jS} {v : Int32} (hm : mX12_isLoan F x1 σ = some v) : Ct cfM 33 V yX12_isLoan cX12_isLoan 2 (some .boolean) 1 [.ref (vad V 0), .int x1] σ (v, σ) := by
  refine j_start (own := RX12) (by decide) rfl (Nat.le_of_ble_eq_true rfl) ?_
  intro G hV C
  subst hV
  unfold mX12_isLoan at hm
  show JM G 0 [(0, .ref (vad (gV G) 0)), (1, .int x1)] [] σ (v, σ)
  refine j_iloadn (pc := 0) C 1 dX12_isLoan_0 rfl rfl ?_
  refine j_iconst (v := 0) (pc := 1) C dX12_isLoan_1 (by decide) ?_
  refine j_aloadn (pc := 2) C 0 dX12_isLoan_2 rfl rfl ?_
  refine gf_X12_7 (c := 0) (pc := 3) C km_0 dX12_isLoan_3 ?_
  refine j_sipush (v := 208) (pc := 6) C dX12_isLoan_6 (by decide) ?_
  refine j_ialdK (c := 1) (n := 212) (k := 208) (pc := 9) C (kM_lt km_1 (by decide)) (cm_a km_1 lm_1 _) rfl (by decide) dX12_isLoan_9 ?_
  refine j_iconst (v := 1) (pc := 10) C dX12_isLoan_10 (by decide) ?_
  refine j_isub (pc := 11) C dX12_isLoan_11 ?_
  obtain ⟨q1, hq1, hm⟩ := Option.bind_eq_some_iff.mp hm
  refine cl_X12_107 (pc := 12) C (kX12_in hq1) (by decide) (Nat.le_of_ble_eq_true rfl) dX12_isLoan_12 ?_
  refine j_guard hm (fun hb2 hm => ?_)
  exact j_zret (pc := 15) C rfl hb2 dX12_isLoan_15 hm

def mX12_doing (F : Nat) (x1 : Int32) (x2 : Int32) (σ : jS) : Option Int32 := (lt (((24 : Int32) * x1) + x2) fun y1 => (if jin y1 384 = true then some (σ 4 y1.toNatClampNeg) else none))
set_option maxHeartbeats 4000000 in
set_option maxRecDepth 100000 in
theorem kX12_doing {V : jV} {F : Nat} {x1 : Int32} {x2 : Int32} {σ : jS} {v : Int32} (hm : mX12_doing F x1 x2 σ = some v) : Ct cfM 33 V yX12_doing cX12_doing 3 (some .int) 0 [.ref (vad V 0), .int x1, .int x2] σ (v, σ) := by
  refine j_start (own := RX12) (by decide) rfl (Nat.le_of_ble_eq_true rfl) ?_
  intro G hV C
  subst hV
  unfold mX12_doing at hm
  show JM G 0 [(0, .ref (vad (gV G) 0)), (1, .int x1), (2, .int x2)] [] σ (v, σ)
  refine j_aloadn (pc := 0) C 0 dX12_doing_0 rfl rfl ?_
  refine gf_X12_19 (c := 0) (pc := 1) C km_0 dX12_doing_1 ?_
  refine j_bipush (v := 24) (pc := 4) C dX12_doing_4 (by decide) ?_
  refine j_iloadn (pc := 6) C 1 dX12_doing_6 rfl rfl ?_
  refine j_imul (pc := 7) C dX12_doing_7 ?_
  refine j_iloadn (pc := 8) C 2 dX12_doing_8 rfl rfl ?_
  refine j_iadd (pc := 9) C dX12_doing_9 ?_
  refine j_lti hm (fun y1 hm => ?_)
  refine j_guard hm (fun hg2 hm => ?_)
  refine j_iald (c := 4) (n := 384) (pc := 10) C (kM_lt km_4 (by decide)) (cm_a km_4 lm_4 _) hg2 dX12_doing_10 ?_
  exact j_iret (pc := 11) C rfl dX12_doing_11 hm

def mX12_person (F : Nat) (x1 : Int32) (x2 : Int32) (x3 : Int32) (σ : jS) : Option (Int32 × jS) := (Option.bind (mX12_in F x1 (0 : Int32) (15 : Int32) σ) fun q1 => (if q1 = 0 then some ((0 : Int32), σ) else (Option.bind (mX12_in F x2 (1 : Int32) (999999999 : Int32) σ) fun q2 => (if q2 = 0 then some ((0 : Int32), σ) else (Option.bind (mX12_in F x3 (0 : Int32) (99999 : Int32) σ) fun q3 => (if q3 = 0 then some ((0 : Int32), σ) else (if jin ((0 : Int32) + x1) 212 = true then (lt (js σ 1 ((0 : Int32) + x1).toNatClampNeg (1 : Int32)) fun σ4 => (if jin ((16 : Int32) + x1) 212 = true then (lt (js σ4 1 ((16 : Int32) + x1).toNatClampNeg x2) fun σ6 => (if jin ((32 : Int32) + x1) 212 = true then (lt (js σ6 1 ((32 : Int32) + x1).toNatClampNeg x3) fun σ8 => (if jin ((48 : Int32) + x1) 212 = true then (lt (js σ8 1 ((48 : Int32) + x1).toNatClampNeg (1 : Int32)) fun σ10 => some ((1 : Int32), σ10)) else none)) else none)) else none)) else none)))))))
set_option maxHeartbeats 4000000 in
set_option maxRecDepth 100000 in
theorem kX12_person {V : jV} {F : Nat} {x1 : Int32} {x2 : Int32} {x3 : Int32} {σ : jS} {v : (Int32 × jS)} (hm : mX12_person F x1 x2 x3 σ = some v) : Ct cfM 33 V yX12_person cX12_person 4 (some .boolean) 1 [.ref (vad V 0), .int x1, .int x2, .int x3] σ v := by
  refine j_start (own := RX12) (by decide) rfl (Nat.le_of_ble_eq_true rfl) ?_
  intro G hV C
  subst hV
  unfold mX12_person at hm
  show JM G 0 [(0, .ref (vad (gV G) 0)), (1, .int x1), (2, .int x2), (3, .int x3)] [] σ v
  refine j_iloadn (pc := 0) C 1 dX12_person_0 rfl rfl ?_
  refine j_iconst (v := 0) (pc := 1) C dX12_person_1 (by decide) ?_
  refine j_bipush (v := 15) (pc := 2) C dX12_person_2 (by decide) ?_
  obtain ⟨q1, hq1, hm⟩ := Option.bind_eq_some_iff.mp hm
  refine cl_X12_107 (pc := 4) C (kX12_in hq1) (by decide) (Nat.le_of_ble_eq_true rfl) dX12_person_4 ?_
  refine j_if_eq (tgt := 30) (pc := 7) C dX12_person_7 (by decide) hm (fun _ hm => ?_) (fun _ hm => ?_)
  · refine j_iconst (v := 0) (pc := 30) C dX12_person_30 (by decide) ?_
    exact j_zretS (pc := 31) C rfl rfl dX12_person_31 hm
  · refine j_iloadn (pc := 10) C 2 dX12_person_10 rfl rfl ?_
    refine j_iconst (v := 1) (pc := 11) C dX12_person_11 (by decide) ?_
    refine j_ldc (v := 999999999) (pc := 12) C dX12_person_12 tw_6_9 ?_
    obtain ⟨q2, hq2, hm⟩ := Option.bind_eq_some_iff.mp hm
    refine cl_X12_107 (pc := 14) C (kX12_in hq2) (by decide) (Nat.le_of_ble_eq_true rfl) dX12_person_14 ?_
    refine j_if_eq (tgt := 30) (pc := 17) C dX12_person_17 (by decide) hm (fun _ hm => ?_) (fun _ hm => ?_)
    · refine j_iconst (v := 0) (pc := 30) C dX12_person_30 (by decide) ?_
      exact j_zretS (pc := 31) C rfl rfl dX12_person_31 hm
    · refine j_iloadn (pc := 20) C 3 dX12_person_20 rfl rfl ?_
      refine j_iconst (v := 0) (pc := 21) C dX12_person_21 (by decide) ?_
      refine j_ldc (v := 99999) (pc := 22) C dX12_person_22 tw_6_10 ?_
      obtain ⟨q3, hq3, hm⟩ := Option.bind_eq_some_iff.mp hm
      refine cl_X12_107 (pc := 24) C (kX12_in hq3) (by decide) (Nat.le_of_ble_eq_true rfl) dX12_person_24 ?_
      refine j_if_ne (tgt := 32) (pc := 27) C dX12_person_27 (by decide) hm (fun _ hm => ?_) (fun _ hm => ?_)
      · refine j_iconst (v := 0) (pc := 30) C dX12_person_30 (by decide) ?_
        exact j_zretS (pc := 31) C rfl rfl dX12_person_31 hm
      · refine j_aloadn (pc := 32) C 0 dX12_person_32 rfl rfl ?_
        refine gf_X12_7 (c := 0) (pc := 33) C km_0 dX12_person_33 ?_
        refine j_iconst (v := 0) (pc := 36) C dX12_person_36 (by decide) ?_
        refine j_iloadn (pc := 37) C 1 dX12_person_37 rfl rfl ?_
        refine j_iadd (pc := 38) C dX12_person_38 ?_
        refine j_iconst (v := 1) (pc := 39) C dX12_person_39 (by decide) ?_
        refine j_guard hm (fun hg5 hm => ?_)
        refine j_iastL (c := 1) (n := 212) (pc := 40) C (kM_lt km_1 (by decide)) (cm_a km_1 lm_1) hg5 dX12_person_40 hm (fun σ4 hm => ?_)
        refine j_aloadn (pc := 41) C 0 dX12_person_41 rfl rfl ?_
        refine gf_X12_7 (c := 0) (pc := 42) C km_0 dX12_person_42 ?_
        refine j_bipush (v := 16) (pc := 45) C dX12_person_45 (by decide) ?_
        refine j_iloadn (pc := 47) C 1 dX12_person_47 rfl rfl ?_
        refine j_iadd (pc := 48) C dX12_person_48 ?_
        refine j_iloadn (pc := 49) C 2 dX12_person_49 rfl rfl ?_
        refine j_guard hm (fun hg7 hm => ?_)
        refine j_iastL (c := 1) (n := 212) (pc := 50) C (kM_lt km_1 (by decide)) (cm_a km_1 lm_1) hg7 dX12_person_50 hm (fun σ6 hm => ?_)
        refine j_aloadn (pc := 51) C 0 dX12_person_51 rfl rfl ?_
        refine gf_X12_7 (c := 0) (pc := 52) C km_0 dX12_person_52 ?_
        refine j_bipush (v := 32) (pc := 55) C dX12_person_55 (by decide) ?_
        refine j_iloadn (pc := 57) C 1 dX12_person_57 rfl rfl ?_
        refine j_iadd (pc := 58) C dX12_person_58 ?_
        refine j_iloadn (pc := 59) C 3 dX12_person_59 rfl rfl ?_
        refine j_guard hm (fun hg9 hm => ?_)
        refine j_iastL (c := 1) (n := 212) (pc := 60) C (kM_lt km_1 (by decide)) (cm_a km_1 lm_1) hg9 dX12_person_60 hm (fun σ8 hm => ?_)
        refine j_aloadn (pc := 61) C 0 dX12_person_61 rfl rfl ?_
        refine gf_X12_7 (c := 0) (pc := 62) C km_0 dX12_person_62 ?_
        refine j_bipush (v := 48) (pc := 65) C dX12_person_65 (by decide) ?_
        refine j_iloadn (pc := 67) C 1 dX12_person_67 rfl rfl ?_
        refine j_iadd (pc := 68) C dX12_person_68 ?_
        refine j_iconst (v := 1) (pc := 69) C dX12_person_69 (by decide) ?_
        refine j_guard hm (fun hg11 hm => ?_)
        refine j_iastL (c := 1) (n := 212) (pc := 70) C (kM_lt km_1 (by decide)) (cm_a km_1 lm_1) hg11 dX12_person_70 hm (fun σ10 hm => ?_)
        refine j_iconst (v := 1) (pc := 71) C dX12_person_71 (by decide) ?_
        exact j_zretS (pc := 72) C rfl rfl dX12_person_72 hm

def lp_X12_types_2 (F : Nat) : Nat → Int32 → Int32 → jS → Option jS
  | 0, _, _, _ => none
  | n + 1, x1, x2, σ => (if x2 < 0 then some σ else (if jin (σ 0 6) 260 = true then (lt (js σ 6 (σ 0 6).toNatClampNeg (vp_nar .byte ((x1 >>> (((8 : Int32) * x2) &&& 31)).toInt8.toInt32))) fun σ1 => (lt (js σ1 0 6 ((σ1 0 6) + (1 : Int32))) fun σ3 => (lp_X12_types_2 F n x1 ((x2 + (-1 : Int32))) σ3))) else none))
set_option maxHeartbeats 4000000 in
set_option maxRecDepth 100000 in
theorem lp_X12_types_2_ok {G : jG} (C : jc cfM 33 G cX12_types RX12 3 none 0) (F : Nat) {v : jS} : ∀ (n : Nat) (x1 : Int32) (x2 : Int32) (σ : jS), lp_X12_types_2 F n x1 x2 σ = some v → JM G 2 [(0, .ref (vad (gV G) 0)), (1, .int x1), (2, .int x2)] [] σ (0, v) := by
  intro n
  induction n with
  | zero =>
    intro x1 x2 σ hm
    rw [lp_X12_types_2] at hm
    cases hm
  | succ n ih =>
    intro x1 x2 σ hm
    rw [lp_X12_types_2] at hm
    refine j_iloadn (pc := 2) C 2 dX12_types_2 rfl rfl ?_
    refine j_if_lt (tgt := 38) (pc := 3) C dX12_types_3 (by decide) hm (fun _ hm => ?_) (fun _ hm => ?_)
    · exact j_vret (pc := 38) C rfl dX12_types_38 hm
    · refine j_aloadn (pc := 6) C 0 dX12_types_6 rfl rfl ?_
      refine gf_X12_25 (c := 0) (pc := 7) C km_0 dX12_types_7 ?_
      refine j_aloadn (pc := 10) C 0 dX12_types_10 rfl rfl ?_
      refine gf_X12_120 (c := 0) (pc := 11) C km_0 dX12_types_11 ?_
      refine j_iloadn (pc := 14) C 1 dX12_types_14 rfl rfl ?_
      refine j_bipush (v := 8) (pc := 15) C dX12_types_15 (by decide) ?_
      refine j_iloadn (pc := 17) C 2 dX12_types_17 rfl rfl ?_
      refine j_imul (pc := 18) C dX12_types_18 ?_
      refine j_ishr (pc := 19) C dX12_types_19 ?_
      refine j_i2b (pc := 20) C dX12_types_20 ?_
      refine j_guard hm (fun hg2 hm => ?_)
      refine j_bastL (c := 6) (n := 260) (pc := 21) C (kM_lt km_6 (by decide)) (cm_b km_6 lm_6) hg2 dX12_types_21 hm (fun σ1 hm => ?_)
      refine j_aloadn (pc := 22) C 0 dX12_types_22 rfl rfl ?_
      refine j_aloadn (pc := 23) C 0 dX12_types_23 rfl rfl ?_
      refine gf_X12_120 (c := 0) (pc := 24) C km_0 dX12_types_24 ?_
      refine j_iconst (v := 1) (pc := 27) C dX12_types_27 (by decide) ?_
      refine j_iadd (pc := 28) C dX12_types_28 ?_
      refine pf_X12_120 (c := 0) (pc := 29) C km_0 dX12_types_29 hm (fun σ3 hm => ?_)
      refine j_iinc (v := (x2 + (-1 : Int32))) (ls' := [(2, .int (x2 + (-1 : Int32))), (0, .ref (vad (gV G) 0)), (1, .int x1)]) (pc := 32) C 2 dX12_types_32 rfl rfl (by decide) rfl ?_
      refine j_goto (tgt := 2) (pc := 35) C dX12_types_35 (by decide) ?_
      refine j_ls [1, 2, 0] rfl ?_
      exact ih _ _ _ hm

def mX12_types (F : Nat) (x1 : Int32) (σ : jS) : Option jS := (lp_X12_types_2 F F x1 (3 : Int32) σ)
set_option maxHeartbeats 4000000 in
set_option maxRecDepth 100000 in
theorem kX12_types {V : jV} {F : Nat} {x1 : Int32} {σ : jS} {v : jS} (hm : mX12_types F x1 σ = some v) : Ct cfM 33 V yX12_types cX12_types 3 none 0 [.ref (vad V 0), .int x1] σ (0, v) := by
  refine j_start (own := RX12) (by decide) rfl (Nat.le_of_ble_eq_true rfl) ?_
  intro G hV C
  subst hV
  unfold mX12_types at hm
  show JM G 0 [(0, .ref (vad (gV G) 0)), (1, .int x1)] [] σ (0, v)
  refine j_iconst (v := 3) (pc := 0) C dX12_types_0 (by decide) ?_
  refine j_istoren (ls' := [(2, .int (3 : Int32)), (0, .ref (vad (gV G) 0)), (1, .int x1)]) (pc := 1) C dX12_types_1 rfl (by decide) rfl ?_
  refine j_ls [1, 2, 0] rfl ?_
  exact lp_X12_types_2_ok C F  F _ _ _ hm

def mX12_feed (F : Nat) (x1 : Int32) (x2 : Int32) (x3 : Int32) (x4 : Int32) (x5 : Int32) (σ : jS) : Option (Int32 × jS) := (if (260 : Int32) < ((σ 0 6) + (20 : Int32)) then some ((-1 : Int32), σ) else (Option.bind (mX12_types F x1 σ) fun q1 => (Option.bind (mX12_types F x2 q1) fun q2 => (Option.bind (mX12_types F x3 q2) fun q3 => (Option.bind (mX12_types F x4 q3) fun q4 => (Option.bind (mX12_types F x5 q4) fun q5 => some ((q5 0 6), q5)))))))
set_option maxHeartbeats 4000000 in
set_option maxRecDepth 100000 in
theorem kX12_feed {V : jV} {F : Nat} {x1 : Int32} {x2 : Int32} {x3 : Int32} {x4 : Int32} {x5 : Int32} {σ : jS} {v : (Int32 × jS)} (hm : mX12_feed F x1 x2 x3 x4 x5 σ = some v) : Ct cfM 33 V yX12_feed cX12_feed 6 (some .int) 1 [.ref (vad V 0), .int x1, .int x2, .int x3, .int x4, .int x5] σ v := by
  refine j_start (own := RX12) (by decide) rfl (Nat.le_of_ble_eq_true rfl) ?_
  intro G hV C
  subst hV
  unfold mX12_feed at hm
  show JM G 0 [(0, .ref (vad (gV G) 0)), (1, .int x1), (2, .int x2), (3, .int x3), (4, .int x4), (5, .int x5)] [] σ v
  refine j_aloadn (pc := 0) C 0 dX12_feed_0 rfl rfl ?_
  refine gf_X12_120 (c := 0) (pc := 1) C km_0 dX12_feed_1 ?_
  refine j_bipush (v := 20) (pc := 4) C dX12_feed_4 (by decide) ?_
  refine j_iadd (pc := 6) C dX12_feed_6 ?_
  refine j_sipush (v := 260) (pc := 7) C dX12_feed_7 (by decide) ?_
  refine j_icmp_le (tgt := 15) (pc := 10) C dX12_feed_10 (by decide) hm (fun _ hm => ?_) (fun _ hm => ?_)
  · refine j_iconst (v := -1) (pc := 13) C dX12_feed_13 (by decide) ?_
    exact j_iretS (pc := 14) C rfl dX12_feed_14 hm
  · refine j_aloadn (pc := 15) C 0 dX12_feed_15 rfl rfl ?_
    refine j_iloadn (pc := 16) C 1 dX12_feed_16 rfl rfl ?_
    obtain ⟨q1, hq1, hm⟩ := Option.bind_eq_some_iff.mp hm
    refine cl_X12_124 (c := 0) (pc := 17) C km_0 (kX12_types hq1) (by decide) (Nat.le_of_ble_eq_true rfl) dX12_feed_17 ?_
    refine j_aloadn (pc := 20) C 0 dX12_feed_20 rfl rfl ?_
    refine j_iloadn (pc := 21) C 2 dX12_feed_21 rfl rfl ?_
    obtain ⟨q2, hq2, hm⟩ := Option.bind_eq_some_iff.mp hm
    refine cl_X12_124 (c := 0) (pc := 22) C km_0 (kX12_types hq2) (by decide) (Nat.le_of_ble_eq_true rfl) dX12_feed_22 ?_
    refine j_aloadn (pc := 25) C 0 dX12_feed_25 rfl rfl ?_
    refine j_iloadn (pc := 26) C 3 dX12_feed_26 rfl rfl ?_
    obtain ⟨q3, hq3, hm⟩ := Option.bind_eq_some_iff.mp hm
    refine cl_X12_124 (c := 0) (pc := 27) C km_0 (kX12_types hq3) (by decide) (Nat.le_of_ble_eq_true rfl) dX12_feed_27 ?_
    refine j_aloadn (pc := 30) C 0 dX12_feed_30 rfl rfl ?_
    refine j_iload (pc := 31) C 4 dX12_feed_31 rfl ?_
    obtain ⟨q4, hq4, hm⟩ := Option.bind_eq_some_iff.mp hm
    refine cl_X12_124 (c := 0) (pc := 33) C km_0 (kX12_types hq4) (by decide) (Nat.le_of_ble_eq_true rfl) dX12_feed_33 ?_
    refine j_aloadn (pc := 36) C 0 dX12_feed_36 rfl rfl ?_
    refine j_iload (pc := 37) C 5 dX12_feed_37 rfl ?_
    obtain ⟨q5, hq5, hm⟩ := Option.bind_eq_some_iff.mp hm
    refine cl_X12_124 (c := 0) (pc := 39) C km_0 (kX12_types hq5) (by decide) (Nat.le_of_ble_eq_true rfl) dX12_feed_39 ?_
    refine j_aloadn (pc := 42) C 0 dX12_feed_42 rfl rfl ?_
    refine gf_X12_120 (c := 0) (pc := 43) C km_0 dX12_feed_43 ?_
    exact j_iretS (pc := 46) C rfl dX12_feed_46 hm

def mX12_octet (F : Nat) (x1 : Int32) (σ : jS) : Option Int32 := (if jin x1 260 = true then some ((σ 6 x1.toNatClampNeg) &&& (255 : Int32)) else none)
set_option maxHeartbeats 4000000 in
set_option maxRecDepth 100000 in
theorem kX12_octet {V : jV} {F : Nat} {x1 : Int32} {σ : jS} {v : Int32} (hm : mX12_octet F x1 σ = some v) : Ct cfM 33 V yX12_octet cX12_octet 2 (some .int) 0 [.ref (vad V 0), .int x1] σ (v, σ) := by
  refine j_start (own := RX12) (by decide) rfl (Nat.le_of_ble_eq_true rfl) ?_
  intro G hV C
  subst hV
  unfold mX12_octet at hm
  show JM G 0 [(0, .ref (vad (gV G) 0)), (1, .int x1)] [] σ (v, σ)
  refine j_aloadn (pc := 0) C 0 dX12_octet_0 rfl rfl ?_
  refine gf_X12_25 (c := 0) (pc := 1) C km_0 dX12_octet_1 ?_
  refine j_iloadn (pc := 4) C 1 dX12_octet_4 rfl rfl ?_
  refine j_guard hm (fun hg1 hm => ?_)
  refine j_bald (c := 6) (n := 260) (pc := 5) C (kM_lt km_6 (by decide)) (cm_b km_6 lm_6 _) hg1 dX12_octet_5 ?_
  refine j_sipush (v := 255) (pc := 6) C dX12_octet_6 (by decide) ?_
  refine j_iand (pc := 9) C dX12_octet_9 ?_
  exact j_iret (pc := 10) C rfl dX12_octet_10 hm

def mX12_here (F : Nat) (σ : jS) : Option Int32 := (if (σ 0 7) < (σ 0 8) then (lt (σ 0 7) fun y1 => (if jin y1 260 = true then some ((σ 6 y1.toNatClampNeg) &&& (255 : Int32)) else none)) else some (-1 : Int32))
set_option maxHeartbeats 4000000 in
set_option maxRecDepth 100000 in
theorem kX12_here {V : jV} {F : Nat} {σ : jS} {v : Int32} (hm : mX12_here F σ = some v) : Ct cfM 33 V yX12_here cX12_here 1 (some .int) 0 [.ref (vad V 0)] σ (v, σ) := by
  refine j_start (own := RX12) (by decide) rfl (Nat.le_of_ble_eq_true rfl) ?_
  intro G hV C
  subst hV
  unfold mX12_here at hm
  show JM G 0 [(0, .ref (vad (gV G) 0))] [] σ (v, σ)
  refine j_aloadn (pc := 0) C 0 dX12_here_0 rfl rfl ?_
  refine gf_X12_128 (c := 0) (pc := 1) C km_0 dX12_here_1 ?_
  refine j_aloadn (pc := 4) C 0 dX12_here_4 rfl rfl ?_
  refine gf_X12_131 (c := 0) (pc := 5) C km_0 dX12_here_5 ?_
  refine j_icmp_ge (tgt := 27) (pc := 8) C dX12_here_8 (by decide) hm (fun _ hm => ?_) (fun _ hm => ?_)
  · refine j_aloadn (pc := 11) C 0 dX12_here_11 rfl rfl ?_
    refine gf_X12_25 (c := 0) (pc := 12) C km_0 dX12_here_12 ?_
    refine j_aloadn (pc := 15) C 0 dX12_here_15 rfl rfl ?_
    refine gf_X12_128 (c := 0) (pc := 16) C km_0 dX12_here_16 ?_
    refine j_lti hm (fun y1 hm => ?_)
    refine j_guard hm (fun hg2 hm => ?_)
    refine j_bald (c := 6) (n := 260) (pc := 19) C (kM_lt km_6 (by decide)) (cm_b km_6 lm_6 _) hg2 dX12_here_19 ?_
    refine j_sipush (v := 255) (pc := 20) C dX12_here_20 (by decide) ?_
    refine j_iand (pc := 23) C dX12_here_23 ?_
    refine j_goto (tgt := 28) (pc := 24) C dX12_here_24 (by decide) ?_
    exact j_iret (pc := 28) C rfl dX12_here_28 hm
  · refine j_iconst (v := -1) (pc := 27) C dX12_here_27 (by decide) ?_
    exact j_iret (pc := 28) C rfl dX12_here_28 hm

def mX12_isDigit (F : Nat) (σ : jS) : Option Int32 := (Option.bind (mX12_here F σ) fun q1 => (if q1 < (48 : Int32) then some (0 : Int32) else (Option.bind (mX12_here F σ) fun q2 => (if (57 : Int32) < q2 then some (0 : Int32) else some (1 : Int32)))))
set_option maxHeartbeats 4000000 in
set_option maxRecDepth 100000 in
theorem kX12_isDigit {V : jV} {F : Nat} {σ : jS} {v : Int32} (hm : mX12_isDigit F σ = some v) : Ct cfM 33 V yX12_isDigit cX12_isDigit 1 (some .boolean) 1 [.ref (vad V 0)] σ (v, σ) := by
  refine j_start (own := RX12) (by decide) rfl (Nat.le_of_ble_eq_true rfl) ?_
  intro G hV C
  subst hV
  unfold mX12_isDigit at hm
  show JM G 0 [(0, .ref (vad (gV G) 0))] [] σ (v, σ)
  refine j_aloadn (pc := 0) C 0 dX12_isDigit_0 rfl rfl ?_
  obtain ⟨q1, hq1, hm⟩ := Option.bind_eq_some_iff.mp hm
  refine cl_X12_134 (c := 0) (pc := 1) C km_0 (kX12_here hq1) (by decide) (Nat.le_of_ble_eq_true rfl) dX12_isDigit_1 ?_
  refine j_bipush (v := 48) (pc := 4) C dX12_isDigit_4 (by decide) ?_
  refine j_icmp_lt (tgt := 22) (pc := 6) C dX12_isDigit_6 (by decide) hm (fun _ hm => ?_) (fun _ hm => ?_)
  · refine j_iconst (v := 0) (pc := 22) C dX12_isDigit_22 (by decide) ?_
    exact j_zret (pc := 23) C rfl rfl dX12_isDigit_23 hm
  · refine j_aloadn (pc := 9) C 0 dX12_isDigit_9 rfl rfl ?_
    obtain ⟨q2, hq2, hm⟩ := Option.bind_eq_some_iff.mp hm
    refine cl_X12_134 (c := 0) (pc := 10) C km_0 (kX12_here hq2) (by decide) (Nat.le_of_ble_eq_true rfl) dX12_isDigit_10 ?_
    refine j_bipush (v := 57) (pc := 13) C dX12_isDigit_13 (by decide) ?_
    refine j_icmp_gt (tgt := 22) (pc := 15) C dX12_isDigit_15 (by decide) hm (fun _ hm => ?_) (fun _ hm => ?_)
    · refine j_iconst (v := 0) (pc := 22) C dX12_isDigit_22 (by decide) ?_
      exact j_zret (pc := 23) C rfl rfl dX12_isDigit_23 hm
    · refine j_iconst (v := 1) (pc := 18) C dX12_isDigit_18 (by decide) ?_
      refine j_goto (tgt := 23) (pc := 19) C dX12_isDigit_19 (by decide) ?_
      exact j_zret (pc := 23) C rfl rfl dX12_isDigit_23 hm

def mX12_wrongAt (F : Nat) (x1 : Int32) (x2 : Int32) (σ : jS) : Option (Int32 × jS) := (lt (js σ 0 9 (((-1000 : Int32) * x1) - x2)) fun σ1 => some ((0 : Int32), σ1))
set_option maxHeartbeats 4000000 in
set_option maxRecDepth 100000 in
theorem kX12_wrongAt {V : jV} {F : Nat} {x1 : Int32} {x2 : Int32} {σ : jS} {v : (Int32 × jS)} (hm : mX12_wrongAt F x1 x2 σ = some v) : Ct cfM 33 V yX12_wrongAt cX12_wrongAt 3 (some .boolean) 0 [.ref (vad V 0), .int x1, .int x2] σ v := by
  refine j_start (own := RX12) (by decide) rfl (Nat.le_of_ble_eq_true rfl) ?_
  intro G hV C
  subst hV
  unfold mX12_wrongAt at hm
  show JM G 0 [(0, .ref (vad (gV G) 0)), (1, .int x1), (2, .int x2)] [] σ v
  refine j_aloadn (pc := 0) C 0 dX12_wrongAt_0 rfl rfl ?_
  refine j_sipush (v := -1000) (pc := 1) C dX12_wrongAt_1 (by decide) ?_
  refine j_iloadn (pc := 4) C 1 dX12_wrongAt_4 rfl rfl ?_
  refine j_imul (pc := 5) C dX12_wrongAt_5 ?_
  refine j_iloadn (pc := 6) C 2 dX12_wrongAt_6 rfl rfl ?_
  refine j_isub (pc := 7) C dX12_wrongAt_7 ?_
  refine pf_X12_138 (c := 0) (pc := 8) C km_0 dX12_wrongAt_8 hm (fun σ1 hm => ?_)
  refine j_iconst (v := 0) (pc := 11) C dX12_wrongAt_11 (by decide) ?_
  exact j_zretS (pc := 12) C rfl rfl dX12_wrongAt_12 hm

def mX12_takes (F : Nat) (x1 : Int32) (σ : jS) : Option (Int32 × jS) := (Option.bind (mX12_here F σ) fun q1 => (if q1 = x1 then (lt (js σ 0 7 ((σ 0 7) + (1 : Int32))) fun σ2 => some ((1 : Int32), σ2)) else (Option.bind (mX12_wrongAt F (1 : Int32) ((σ 0 7)) σ) fun q3 => (if jbo q3.1 = true then some (q3.1, q3.2) else none))))
set_option maxHeartbeats 4000000 in
set_option maxRecDepth 100000 in
theorem kX12_takes {V : jV} {F : Nat} {x1 : Int32} {σ : jS} {v : (Int32 × jS)} (hm : mX12_takes F x1 σ = some v) : Ct cfM 33 V yX12_takes cX12_takes 2 (some .boolean) 1 [.ref (vad V 0), .int x1] σ v := by
  refine j_start (own := RX12) (by decide) rfl (Nat.le_of_ble_eq_true rfl) ?_
  intro G hV C
  subst hV
  unfold mX12_takes at hm
  show JM G 0 [(0, .ref (vad (gV G) 0)), (1, .int x1)] [] σ v
  refine j_aloadn (pc := 0) C 0 dX12_takes_0 rfl rfl ?_
  obtain ⟨q1, hq1, hm⟩ := Option.bind_eq_some_iff.mp hm
  refine cl_X12_134 (c := 0) (pc := 1) C km_0 (kX12_here hq1) (by decide) (Nat.le_of_ble_eq_true rfl) dX12_takes_1 ?_
  refine j_iloadn (pc := 4) C 1 dX12_takes_4 rfl rfl ?_
  refine j_icmp_eq (tgt := 18) (pc := 5) C dX12_takes_5 (by decide) hm (fun _ hm => ?_) (fun _ hm => ?_)
  · refine j_aloadn (pc := 18) C 0 dX12_takes_18 rfl rfl ?_
    refine j_aloadn (pc := 19) C 0 dX12_takes_19 rfl rfl ?_
    refine gf_X12_128 (c := 0) (pc := 20) C km_0 dX12_takes_20 ?_
    refine j_iconst (v := 1) (pc := 23) C dX12_takes_23 (by decide) ?_
    refine j_iadd (pc := 24) C dX12_takes_24 ?_
    refine pf_X12_128 (c := 0) (pc := 25) C km_0 dX12_takes_25 hm (fun σ2 hm => ?_)
    refine j_iconst (v := 1) (pc := 28) C dX12_takes_28 (by decide) ?_
    exact j_zretS (pc := 29) C rfl rfl dX12_takes_29 hm
  · refine j_aloadn (pc := 8) C 0 dX12_takes_8 rfl rfl ?_
    refine j_iconst (v := 1) (pc := 9) C dX12_takes_9 (by decide) ?_
    refine j_aloadn (pc := 10) C 0 dX12_takes_10 rfl rfl ?_
    refine gf_X12_128 (c := 0) (pc := 11) C km_0 dX12_takes_11 ?_
    obtain ⟨q3, hq3, hm⟩ := Option.bind_eq_some_iff.mp hm
    refine cl_X12_141 (c := 0) (pc := 14) C km_0 (kX12_wrongAt hq3) (by decide) (Nat.le_of_ble_eq_true rfl) dX12_takes_14 ?_
    refine j_guard hm (fun hb4 hm => ?_)
    exact j_zretS (pc := 17) C rfl hb4 dX12_takes_17 hm

def lp_X12_readsNumber_10 (F : Nat) : Nat → Int32 → jS → Option (Int32 × jS)
  | 0, _, _ => none
  | n + 1, x1, σ => (Option.bind (mX12_isDigit F σ) fun q3 => (if q3 = 0 then some ((1 : Int32), σ) else (if (σ 0 7) = (x1 + (5 : Int32)) then (Option.bind (mX12_wrongAt F (2 : Int32) ((σ 0 7)) σ) fun q4 => (if jbo q4.1 = true then some (q4.1, q4.2) else none)) else (Option.bind (mX12_here F σ) fun q6 => (lt (js σ 0 10 ((((10 : Int32) * (σ 0 10)) + q6) - (48 : Int32))) fun σ7 => (lt (js σ7 0 7 ((σ7 0 7) + (1 : Int32))) fun σ8 => (lp_X12_readsNumber_10 F n x1 σ8)))))))
set_option maxHeartbeats 4000000 in
set_option maxRecDepth 100000 in
theorem lp_X12_readsNumber_10_ok {G : jG} (C : jc cfM 33 G cX12_readsNumber RX12 2 (some .boolean) 2) (F : Nat) {v : (Int32 × jS)} : ∀ (n : Nat) (x1 : Int32) (σ : jS), lp_X12_readsNumber_10 F n x1 σ = some v → JM G 10 [(0, .ref (vad (gV G) 0)), (1, .int x1)] [] σ v := by
  intro n
  induction n with
  | zero =>
    intro x1 σ hm
    rw [lp_X12_readsNumber_10] at hm
    cases hm
  | succ n ih =>
    intro x1 σ hm
    rw [lp_X12_readsNumber_10] at hm
    refine j_aloadn (pc := 10) C 0 dX12_readsNumber_10 rfl rfl ?_
    obtain ⟨q3, hq3, hm⟩ := Option.bind_eq_some_iff.mp hm
    refine cl_X12_148 (c := 0) (pc := 11) C km_0 (kX12_isDigit hq3) (by decide) (Nat.le_of_ble_eq_true rfl) dX12_readsNumber_11 ?_
    refine j_if_eq (tgt := 69) (pc := 14) C dX12_readsNumber_14 (by decide) hm (fun _ hm => ?_) (fun _ hm => ?_)
    · refine j_iconst (v := 1) (pc := 69) C dX12_readsNumber_69 (by decide) ?_
      exact j_zretS (pc := 70) C rfl rfl dX12_readsNumber_70 hm
    · refine j_aloadn (pc := 17) C 0 dX12_readsNumber_17 rfl rfl ?_
      refine gf_X12_128 (c := 0) (pc := 18) C km_0 dX12_readsNumber_18 ?_
      refine j_iloadn (pc := 21) C 1 dX12_readsNumber_21 rfl rfl ?_
      refine j_iconst (v := 5) (pc := 22) C dX12_readsNumber_22 (by decide) ?_
      refine j_iadd (pc := 23) C dX12_readsNumber_23 ?_
      refine j_icmp_ne (tgt := 37) (pc := 24) C dX12_readsNumber_24 (by decide) hm (fun _ hm => ?_) (fun _ hm => ?_)
      · refine j_aloadn (pc := 27) C 0 dX12_readsNumber_27 rfl rfl ?_
        refine j_iconst (v := 2) (pc := 28) C dX12_readsNumber_28 (by decide) ?_
        refine j_aloadn (pc := 29) C 0 dX12_readsNumber_29 rfl rfl ?_
        refine gf_X12_128 (c := 0) (pc := 30) C km_0 dX12_readsNumber_30 ?_
        obtain ⟨q4, hq4, hm⟩ := Option.bind_eq_some_iff.mp hm
        refine cl_X12_141 (c := 0) (pc := 33) C km_0 (kX12_wrongAt hq4) (by decide) (Nat.le_of_ble_eq_true rfl) dX12_readsNumber_33 ?_
        refine j_guard hm (fun hb5 hm => ?_)
        exact j_zretS (pc := 36) C rfl hb5 dX12_readsNumber_36 hm
      · refine j_aloadn (pc := 37) C 0 dX12_readsNumber_37 rfl rfl ?_
        refine j_bipush (v := 10) (pc := 38) C dX12_readsNumber_38 (by decide) ?_
        refine j_aloadn (pc := 40) C 0 dX12_readsNumber_40 rfl rfl ?_
        refine gf_X12_145 (c := 0) (pc := 41) C km_0 dX12_readsNumber_41 ?_
        refine j_imul (pc := 44) C dX12_readsNumber_44 ?_
        refine j_aloadn (pc := 45) C 0 dX12_readsNumber_45 rfl rfl ?_
        obtain ⟨q6, hq6, hm⟩ := Option.bind_eq_some_iff.mp hm
        refine cl_X12_134 (c := 0) (pc := 46) C km_0 (kX12_here hq6) (by decide) (Nat.le_of_ble_eq_true rfl) dX12_readsNumber_46 ?_
        refine j_iadd (pc := 49) C dX12_readsNumber_49 ?_
        refine j_bipush (v := 48) (pc := 50) C dX12_readsNumber_50 (by decide) ?_
        refine j_isub (pc := 52) C dX12_readsNumber_52 ?_
        refine pf_X12_145 (c := 0) (pc := 53) C km_0 dX12_readsNumber_53 hm (fun σ7 hm => ?_)
        refine j_aloadn (pc := 56) C 0 dX12_readsNumber_56 rfl rfl ?_
        refine j_aloadn (pc := 57) C 0 dX12_readsNumber_57 rfl rfl ?_
        refine gf_X12_128 (c := 0) (pc := 58) C km_0 dX12_readsNumber_58 ?_
        refine j_iconst (v := 1) (pc := 61) C dX12_readsNumber_61 (by decide) ?_
        refine j_iadd (pc := 62) C dX12_readsNumber_62 ?_
        refine pf_X12_128 (c := 0) (pc := 63) C km_0 dX12_readsNumber_63 hm (fun σ8 hm => ?_)
        refine j_goto (tgt := 10) (pc := 66) C dX12_readsNumber_66 (by decide) ?_
        exact ih _ _ hm

def mX12_readsNumber (F : Nat) (σ : jS) : Option (Int32 × jS) := (lt (σ 0 7) fun y1 => (lt (js σ 0 10 (0 : Int32)) fun σ2 => (lp_X12_readsNumber_10 F F y1 σ2)))
set_option maxHeartbeats 4000000 in
set_option maxRecDepth 100000 in
theorem kX12_readsNumber {V : jV} {F : Nat} {σ : jS} {v : (Int32 × jS)} (hm : mX12_readsNumber F σ = some v) : Ct cfM 33 V yX12_readsNumber cX12_readsNumber 2 (some .boolean) 2 [.ref (vad V 0)] σ v := by
  refine j_start (own := RX12) (by decide) rfl (Nat.le_of_ble_eq_true rfl) ?_
  intro G hV C
  subst hV
  unfold mX12_readsNumber at hm
  show JM G 0 [(0, .ref (vad (gV G) 0))] [] σ v
  refine j_aloadn (pc := 0) C 0 dX12_readsNumber_0 rfl rfl ?_
  refine gf_X12_128 (c := 0) (pc := 1) C km_0 dX12_readsNumber_1 ?_
  refine j_lti hm (fun y1 hm => ?_)
  refine j_istoren (ls' := [(1, .int y1), (0, .ref (vad (gV G) 0))]) (pc := 4) C dX12_readsNumber_4 rfl (by decide) rfl ?_
  refine j_aloadn (pc := 5) C 1 dX12_readsNumber_5 rfl rfl ?_
  refine j_iconst (v := 0) (pc := 6) C dX12_readsNumber_6 (by decide) ?_
  refine pf_X12_145 (c := 0) (pc := 7) C km_0 dX12_readsNumber_7 hm (fun σ2 hm => ?_)
  refine j_ls [1, 0] rfl ?_
  exact lp_X12_readsNumber_10_ok C F  F _ _ hm

def mX12_notes (F : Nat) (x1 : Int32) (x2 : Int32) (σ : jS) : Option jS := (if jin (σ 0 12) 260 = true then (lt (js σ 7 (σ 0 12).toNatClampNeg (((1048576 : Int32) * x1) + x2)) fun σ1 => (lt (js σ1 0 12 ((σ1 0 12) + (1 : Int32))) fun σ3 => some σ3)) else none)
set_option maxHeartbeats 4000000 in
set_option maxRecDepth 100000 in
theorem kX12_notes {V : jV} {F : Nat} {x1 : Int32} {x2 : Int32} {σ : jS} {v : jS} (hm : mX12_notes F x1 x2 σ = some v) : Ct cfM 33 V yX12_notes cX12_notes 3 none 0 [.ref (vad V 0), .int x1, .int x2] σ (0, v) := by
  refine j_start (own := RX12) (by decide) rfl (Nat.le_of_ble_eq_true rfl) ?_
  intro G hV C
  subst hV
  unfold mX12_notes at hm
  show JM G 0 [(0, .ref (vad (gV G) 0)), (1, .int x1), (2, .int x2)] [] σ (0, v)
  refine j_aloadn (pc := 0) C 0 dX12_notes_0 rfl rfl ?_
  refine gf_X12_29 (c := 0) (pc := 1) C km_0 dX12_notes_1 ?_
  refine j_aloadn (pc := 4) C 0 dX12_notes_4 rfl rfl ?_
  refine gf_X12_152 (c := 0) (pc := 5) C km_0 dX12_notes_5 ?_
  refine j_ldc (v := 1048576) (pc := 8) C dX12_notes_8 tw_6_51 ?_
  refine j_iloadn (pc := 10) C 1 dX12_notes_10 rfl rfl ?_
  refine j_imul (pc := 11) C dX12_notes_11 ?_
  refine j_iloadn (pc := 12) C 2 dX12_notes_12 rfl rfl ?_
  refine j_iadd (pc := 13) C dX12_notes_13 ?_
  refine j_guard hm (fun hg2 hm => ?_)
  refine j_iastL (c := 7) (n := 260) (pc := 14) C (kM_lt km_7 (by decide)) (cm_a km_7 lm_7) hg2 dX12_notes_14 hm (fun σ1 hm => ?_)
  refine j_aloadn (pc := 15) C 0 dX12_notes_15 rfl rfl ?_
  refine j_aloadn (pc := 16) C 0 dX12_notes_16 rfl rfl ?_
  refine gf_X12_152 (c := 0) (pc := 17) C km_0 dX12_notes_17 ?_
  refine j_iconst (v := 1) (pc := 20) C dX12_notes_20 (by decide) ?_
  refine j_iadd (pc := 21) C dX12_notes_21 ?_
  refine pf_X12_152 (c := 0) (pc := 22) C km_0 dX12_notes_22 hm (fun σ3 hm => ?_)
  exact j_vret (pc := 25) C rfl dX12_notes_25 hm

def mX12_opens (F : Nat) (x1 : Int32) (σ : jS) : Option (Int32 × jS) := (if (σ 0 11) = (6 : Int32) then (Option.bind (mX12_wrongAt F (5 : Int32) ((σ 0 7)) σ) fun q1 => (if jbo q1.1 = true then some (q1.1, q1.2) else none)) else (lt (js σ 0 11 ((σ 0 11) + (1 : Int32))) fun σ3 => (if jin (σ3 0 13) 260 = true then (lt (js σ3 8 (σ3 0 13).toNatClampNeg ((1048576 : Int32) * x1)) fun σ4 => (lt (js σ4 0 13 ((σ4 0 13) + (1 : Int32))) fun σ6 => (lt (js σ6 0 7 ((σ6 0 7) + (1 : Int32))) fun σ7 => some ((1 : Int32), σ7)))) else none)))
set_option maxHeartbeats 4000000 in
set_option maxRecDepth 100000 in
theorem kX12_opens {V : jV} {F : Nat} {x1 : Int32} {σ : jS} {v : (Int32 × jS)} (hm : mX12_opens F x1 σ = some v) : Ct cfM 33 V yX12_opens cX12_opens 2 (some .boolean) 1 [.ref (vad V 0), .int x1] σ v := by
  refine j_start (own := RX12) (by decide) rfl (Nat.le_of_ble_eq_true rfl) ?_
  intro G hV C
  subst hV
  unfold mX12_opens at hm
  show JM G 0 [(0, .ref (vad (gV G) 0)), (1, .int x1)] [] σ v
  refine j_aloadn (pc := 0) C 0 dX12_opens_0 rfl rfl ?_
  refine gf_X12_156 (c := 0) (pc := 1) C km_0 dX12_opens_1 ?_
  refine j_bipush (v := 6) (pc := 4) C dX12_opens_4 (by decide) ?_
  refine j_icmp_ne (tgt := 19) (pc := 6) C dX12_opens_6 (by decide) hm (fun _ hm => ?_) (fun _ hm => ?_)
  · refine j_aloadn (pc := 9) C 0 dX12_opens_9 rfl rfl ?_
    refine j_iconst (v := 5) (pc := 10) C dX12_opens_10 (by decide) ?_
    refine j_aloadn (pc := 11) C 0 dX12_opens_11 rfl rfl ?_
    refine gf_X12_128 (c := 0) (pc := 12) C km_0 dX12_opens_12 ?_
    obtain ⟨q1, hq1, hm⟩ := Option.bind_eq_some_iff.mp hm
    refine cl_X12_141 (c := 0) (pc := 15) C km_0 (kX12_wrongAt hq1) (by decide) (Nat.le_of_ble_eq_true rfl) dX12_opens_15 ?_
    refine j_guard hm (fun hb2 hm => ?_)
    exact j_zretS (pc := 18) C rfl hb2 dX12_opens_18 hm
  · refine j_aloadn (pc := 19) C 0 dX12_opens_19 rfl rfl ?_
    refine j_aloadn (pc := 20) C 0 dX12_opens_20 rfl rfl ?_
    refine gf_X12_156 (c := 0) (pc := 21) C km_0 dX12_opens_21 ?_
    refine j_iconst (v := 1) (pc := 24) C dX12_opens_24 (by decide) ?_
    refine j_iadd (pc := 25) C dX12_opens_25 ?_
    refine pf_X12_156 (c := 0) (pc := 26) C km_0 dX12_opens_26 hm (fun σ3 hm => ?_)
    refine j_aloadn (pc := 29) C 0 dX12_opens_29 rfl rfl ?_
    refine gf_X12_32 (c := 0) (pc := 30) C km_0 dX12_opens_30 ?_
    refine j_aloadn (pc := 33) C 0 dX12_opens_33 rfl rfl ?_
    refine gf_X12_159 (c := 0) (pc := 34) C km_0 dX12_opens_34 ?_
    refine j_ldc (v := 1048576) (pc := 37) C dX12_opens_37 tw_6_51 ?_
    refine j_iloadn (pc := 39) C 1 dX12_opens_39 rfl rfl ?_
    refine j_imul (pc := 40) C dX12_opens_40 ?_
    refine j_guard hm (fun hg5 hm => ?_)
    refine j_iastL (c := 8) (n := 260) (pc := 41) C (kM_lt km_8 (by decide)) (cm_a km_8 lm_8) hg5 dX12_opens_41 hm (fun σ4 hm => ?_)
    refine j_aloadn (pc := 42) C 0 dX12_opens_42 rfl rfl ?_
    refine j_aloadn (pc := 43) C 0 dX12_opens_43 rfl rfl ?_
    refine gf_X12_159 (c := 0) (pc := 44) C km_0 dX12_opens_44 ?_
    refine j_iconst (v := 1) (pc := 47) C dX12_opens_47 (by decide) ?_
    refine j_iadd (pc := 48) C dX12_opens_48 ?_
    refine pf_X12_159 (c := 0) (pc := 49) C km_0 dX12_opens_49 hm (fun σ6 hm => ?_)
    refine j_aloadn (pc := 52) C 0 dX12_opens_52 rfl rfl ?_
    refine j_aloadn (pc := 53) C 0 dX12_opens_53 rfl rfl ?_
    refine gf_X12_128 (c := 0) (pc := 54) C km_0 dX12_opens_54 ?_
    refine j_iconst (v := 1) (pc := 57) C dX12_opens_57 (by decide) ?_
    refine j_iadd (pc := 58) C dX12_opens_58 ?_
    refine pf_X12_128 (c := 0) (pc := 59) C km_0 dX12_opens_59 hm (fun σ7 hm => ?_)
    refine j_iconst (v := 1) (pc := 62) C dX12_opens_62 (by decide) ?_
    exact j_zretS (pc := 63) C rfl rfl dX12_opens_63 hm

def mX12_waitTop (F : Nat) (σ : jS) : Option Int32 := (if (σ 0 13) = 0 then some (-1 : Int32) else (lt ((σ 0 13) - (1 : Int32)) fun y1 => (if jin y1 260 = true then some ((σ 8 y1.toNatClampNeg) / (1048576 : Int32)) else none)))
set_option maxHeartbeats 4000000 in
set_option maxRecDepth 100000 in
theorem kX12_waitTop {V : jV} {F : Nat} {σ : jS} {v : Int32} (hm : mX12_waitTop F σ = some v) : Ct cfM 33 V yX12_waitTop cX12_waitTop 1 (some .int) 0 [.ref (vad V 0)] σ (v, σ) := by
  refine j_start (own := RX12) (by decide) rfl (Nat.le_of_ble_eq_true rfl) ?_
  intro G hV C
  subst hV
  unfold mX12_waitTop at hm
  show JM G 0 [(0, .ref (vad (gV G) 0))] [] σ (v, σ)
  refine j_aloadn (pc := 0) C 0 dX12_waitTop_0 rfl rfl ?_
  refine gf_X12_159 (c := 0) (pc := 1) C km_0 dX12_waitTop_1 ?_
  refine j_if_ne (tgt := 11) (pc := 4) C dX12_waitTop_4 (by decide) hm (fun _ hm => ?_) (fun _ hm => ?_)
  · refine j_iconst (v := -1) (pc := 7) C dX12_waitTop_7 (by decide) ?_
    refine j_goto (tgt := 25) (pc := 8) C dX12_waitTop_8 (by decide) ?_
    exact j_iret (pc := 25) C rfl dX12_waitTop_25 hm
  · refine j_aloadn (pc := 11) C 0 dX12_waitTop_11 rfl rfl ?_
    refine gf_X12_32 (c := 0) (pc := 12) C km_0 dX12_waitTop_12 ?_
    refine j_aloadn (pc := 15) C 0 dX12_waitTop_15 rfl rfl ?_
    refine gf_X12_159 (c := 0) (pc := 16) C km_0 dX12_waitTop_16 ?_
    refine j_iconst (v := 1) (pc := 19) C dX12_waitTop_19 (by decide) ?_
    refine j_isub (pc := 20) C dX12_waitTop_20 ?_
    refine j_lti hm (fun y1 hm => ?_)
    refine j_guard hm (fun hg2 hm => ?_)
    refine j_iald (c := 8) (n := 260) (pc := 21) C (kM_lt km_8 (by decide)) (cm_a km_8 lm_8 _) hg2 dX12_waitTop_21 ?_
    refine j_ldc (v := 1048576) (pc := 22) C dX12_waitTop_22 tw_6_51 ?_
    refine j_idivK (pc := 24) C dX12_waitTop_24 (by decide) ?_
    exact j_iret (pc := 25) C rfl dX12_waitTop_25 hm

def mX12_factOf (F : Nat) (x0 : Int32) (σ : jS) : Option Int32 := (if x0 = (97 : Int32) then some (3 : Int32) else (if x0 = (98 : Int32) then some (4 : Int32) else (if x0 = (99 : Int32) then some (-1 : Int32) else (if x0 = (100 : Int32) then some (1 : Int32) else (if x0 = (101 : Int32) then some (-1 : Int32) else (if x0 = (102 : Int32) then some (-1 : Int32) else (if x0 = (103 : Int32) then some (-1 : Int32) else (if x0 = (104 : Int32) then some (2 : Int32) else (if x0 = (105 : Int32) then some (-1 : Int32) else (if x0 = (106 : Int32) then some (-1 : Int32) else (if x0 = (107 : Int32) then some (0 : Int32) else (if x0 = (108 : Int32) then some (-1 : Int32) else (if x0 = (109 : Int32) then some (6 : Int32) else (if x0 = (110 : Int32) then some (5 : Int32) else (if x0 = (111 : Int32) then some (-1 : Int32) else (if x0 = (112 : Int32) then some (-1 : Int32) else (if x0 = (113 : Int32) then some (-1 : Int32) else (if x0 = (114 : Int32) then some (-1 : Int32) else (if x0 = (115 : Int32) then some (-1 : Int32) else (if x0 = (116 : Int32) then some (7 : Int32) else (if x0 = (117 : Int32) then some (-1 : Int32) else (if x0 = (118 : Int32) then some (-1 : Int32) else (if x0 = (119 : Int32) then some (8 : Int32) else some (-1 : Int32))))))))))))))))))))))))
set_option maxHeartbeats 4000000 in
set_option maxRecDepth 100000 in
theorem kX12_factOf {V : jV} {F : Nat} {x0 : Int32} {σ : jS} {v : Int32} (hm : mX12_factOf F x0 σ = some v) : Ct cfM 33 V yX12_factOf cX12_factOf 1 (some .int) 0 [.int x0] σ (v, σ) := by
  refine j_start (own := RX12) (by decide) rfl (Nat.le_of_ble_eq_true rfl) ?_
  intro G hV C
  subst hV
  unfold mX12_factOf at hm
  show JM G 0 [(0, .int x0)] [] σ (v, σ)
  refine j_iloadn (pc := 0) C 0 dX12_factOf_0 rfl rfl ?_
  refine j_sw (b := 97) hm (fun hs hm => ?_) (fun hs0 hm => ?_)
  · refine j_swIn (tgt := 114) (b := 97) (pc := 1) C dX12_factOf_1 hs (by decide) (by decide) rfl (by decide) ?_
    refine j_iconst (v := 3) (pc := 114) C dX12_factOf_114 (by decide) ?_
    exact j_iret (pc := 115) C rfl dX12_factOf_115 hm
  · refine j_sw (b := 98) hm (fun hs hm => ?_) (fun hs1 hm => ?_)
    · refine j_swIn (tgt := 116) (b := 98) (pc := 1) C dX12_factOf_1 hs (by decide) (by decide) rfl (by decide) ?_
      refine j_iconst (v := 4) (pc := 116) C dX12_factOf_116 (by decide) ?_
      exact j_iret (pc := 117) C rfl dX12_factOf_117 hm
    · refine j_sw (b := 99) hm (fun hs hm => ?_) (fun hs2 hm => ?_)
      · refine j_swIn (tgt := 129) (b := 99) (pc := 1) C dX12_factOf_1 hs (by decide) (by decide) rfl (by decide) ?_
        refine j_iconst (v := -1) (pc := 129) C dX12_factOf_129 (by decide) ?_
        exact j_iret (pc := 130) C rfl dX12_factOf_130 hm
      · refine j_sw (b := 100) hm (fun hs hm => ?_) (fun hs3 hm => ?_)
        · refine j_swIn (tgt := 110) (b := 100) (pc := 1) C dX12_factOf_1 hs (by decide) (by decide) rfl (by decide) ?_
          refine j_iconst (v := 1) (pc := 110) C dX12_factOf_110 (by decide) ?_
          exact j_iret (pc := 111) C rfl dX12_factOf_111 hm
        · refine j_sw (b := 101) hm (fun hs hm => ?_) (fun hs4 hm => ?_)
          · refine j_swIn (tgt := 129) (b := 101) (pc := 1) C dX12_factOf_1 hs (by decide) (by decide) rfl (by decide) ?_
            refine j_iconst (v := -1) (pc := 129) C dX12_factOf_129 (by decide) ?_
            exact j_iret (pc := 130) C rfl dX12_factOf_130 hm
          · refine j_sw (b := 102) hm (fun hs hm => ?_) (fun hs5 hm => ?_)
            · refine j_swIn (tgt := 129) (b := 102) (pc := 1) C dX12_factOf_1 hs (by decide) (by decide) rfl (by decide) ?_
              refine j_iconst (v := -1) (pc := 129) C dX12_factOf_129 (by decide) ?_
              exact j_iret (pc := 130) C rfl dX12_factOf_130 hm
            · refine j_sw (b := 103) hm (fun hs hm => ?_) (fun hs6 hm => ?_)
              · refine j_swIn (tgt := 129) (b := 103) (pc := 1) C dX12_factOf_1 hs (by decide) (by decide) rfl (by decide) ?_
                refine j_iconst (v := -1) (pc := 129) C dX12_factOf_129 (by decide) ?_
                exact j_iret (pc := 130) C rfl dX12_factOf_130 hm
              · refine j_sw (b := 104) hm (fun hs hm => ?_) (fun hs7 hm => ?_)
                · refine j_swIn (tgt := 112) (b := 104) (pc := 1) C dX12_factOf_1 hs (by decide) (by decide) rfl (by decide) ?_
                  refine j_iconst (v := 2) (pc := 112) C dX12_factOf_112 (by decide) ?_
                  exact j_iret (pc := 113) C rfl dX12_factOf_113 hm
                · refine j_sw (b := 105) hm (fun hs hm => ?_) (fun hs8 hm => ?_)
                  · refine j_swIn (tgt := 129) (b := 105) (pc := 1) C dX12_factOf_1 hs (by decide) (by decide) rfl (by decide) ?_
                    refine j_iconst (v := -1) (pc := 129) C dX12_factOf_129 (by decide) ?_
                    exact j_iret (pc := 130) C rfl dX12_factOf_130 hm
                  · refine j_sw (b := 106) hm (fun hs hm => ?_) (fun hs9 hm => ?_)
                    · refine j_swIn (tgt := 129) (b := 106) (pc := 1) C dX12_factOf_1 hs (by decide) (by decide) rfl (by decide) ?_
                      refine j_iconst (v := -1) (pc := 129) C dX12_factOf_129 (by decide) ?_
                      exact j_iret (pc := 130) C rfl dX12_factOf_130 hm
                    · refine j_sw (b := 107) hm (fun hs hm => ?_) (fun hs10 hm => ?_)
                      · refine j_swIn (tgt := 108) (b := 107) (pc := 1) C dX12_factOf_1 hs (by decide) (by decide) rfl (by decide) ?_
                        refine j_iconst (v := 0) (pc := 108) C dX12_factOf_108 (by decide) ?_
                        exact j_iret (pc := 109) C rfl dX12_factOf_109 hm
                      · refine j_sw (b := 108) hm (fun hs hm => ?_) (fun hs11 hm => ?_)
                        · refine j_swIn (tgt := 129) (b := 108) (pc := 1) C dX12_factOf_1 hs (by decide) (by decide) rfl (by decide) ?_
                          refine j_iconst (v := -1) (pc := 129) C dX12_factOf_129 (by decide) ?_
                          exact j_iret (pc := 130) C rfl dX12_factOf_130 hm
                        · refine j_sw (b := 109) hm (fun hs hm => ?_) (fun hs12 hm => ?_)
                          · refine j_swIn (tgt := 120) (b := 109) (pc := 1) C dX12_factOf_1 hs (by decide) (by decide) rfl (by decide) ?_
                            refine j_bipush (v := 6) (pc := 120) C dX12_factOf_120 (by decide) ?_
                            exact j_iret (pc := 122) C rfl dX12_factOf_122 hm
                          · refine j_sw (b := 110) hm (fun hs hm => ?_) (fun hs13 hm => ?_)
                            · refine j_swIn (tgt := 118) (b := 110) (pc := 1) C dX12_factOf_1 hs (by decide) (by decide) rfl (by decide) ?_
                              refine j_iconst (v := 5) (pc := 118) C dX12_factOf_118 (by decide) ?_
                              exact j_iret (pc := 119) C rfl dX12_factOf_119 hm
                            · refine j_sw (b := 111) hm (fun hs hm => ?_) (fun hs14 hm => ?_)
                              · refine j_swIn (tgt := 129) (b := 111) (pc := 1) C dX12_factOf_1 hs (by decide) (by decide) rfl (by decide) ?_
                                refine j_iconst (v := -1) (pc := 129) C dX12_factOf_129 (by decide) ?_
                                exact j_iret (pc := 130) C rfl dX12_factOf_130 hm
                              · refine j_sw (b := 112) hm (fun hs hm => ?_) (fun hs15 hm => ?_)
                                · refine j_swIn (tgt := 129) (b := 112) (pc := 1) C dX12_factOf_1 hs (by decide) (by decide) rfl (by decide) ?_
                                  refine j_iconst (v := -1) (pc := 129) C dX12_factOf_129 (by decide) ?_
                                  exact j_iret (pc := 130) C rfl dX12_factOf_130 hm
                                · refine j_sw (b := 113) hm (fun hs hm => ?_) (fun hs16 hm => ?_)
                                  · refine j_swIn (tgt := 129) (b := 113) (pc := 1) C dX12_factOf_1 hs (by decide) (by decide) rfl (by decide) ?_
                                    refine j_iconst (v := -1) (pc := 129) C dX12_factOf_129 (by decide) ?_
                                    exact j_iret (pc := 130) C rfl dX12_factOf_130 hm
                                  · refine j_sw (b := 114) hm (fun hs hm => ?_) (fun hs17 hm => ?_)
                                    · refine j_swIn (tgt := 129) (b := 114) (pc := 1) C dX12_factOf_1 hs (by decide) (by decide) rfl (by decide) ?_
                                      refine j_iconst (v := -1) (pc := 129) C dX12_factOf_129 (by decide) ?_
                                      exact j_iret (pc := 130) C rfl dX12_factOf_130 hm
                                    · refine j_sw (b := 115) hm (fun hs hm => ?_) (fun hs18 hm => ?_)
                                      · refine j_swIn (tgt := 129) (b := 115) (pc := 1) C dX12_factOf_1 hs (by decide) (by decide) rfl (by decide) ?_
                                        refine j_iconst (v := -1) (pc := 129) C dX12_factOf_129 (by decide) ?_
                                        exact j_iret (pc := 130) C rfl dX12_factOf_130 hm
                                      · refine j_sw (b := 116) hm (fun hs hm => ?_) (fun hs19 hm => ?_)
                                        · refine j_swIn (tgt := 123) (b := 116) (pc := 1) C dX12_factOf_1 hs (by decide) (by decide) rfl (by decide) ?_
                                          refine j_bipush (v := 7) (pc := 123) C dX12_factOf_123 (by decide) ?_
                                          exact j_iret (pc := 125) C rfl dX12_factOf_125 hm
                                        · refine j_sw (b := 117) hm (fun hs hm => ?_) (fun hs20 hm => ?_)
                                          · refine j_swIn (tgt := 129) (b := 117) (pc := 1) C dX12_factOf_1 hs (by decide) (by decide) rfl (by decide) ?_
                                            refine j_iconst (v := -1) (pc := 129) C dX12_factOf_129 (by decide) ?_
                                            exact j_iret (pc := 130) C rfl dX12_factOf_130 hm
                                          · refine j_sw (b := 118) hm (fun hs hm => ?_) (fun hs21 hm => ?_)
                                            · refine j_swIn (tgt := 129) (b := 118) (pc := 1) C dX12_factOf_1 hs (by decide) (by decide) rfl (by decide) ?_
                                              refine j_iconst (v := -1) (pc := 129) C dX12_factOf_129 (by decide) ?_
                                              exact j_iret (pc := 130) C rfl dX12_factOf_130 hm
                                            · refine j_sw (b := 119) hm (fun hs hm => ?_) (fun hs22 hm => ?_)
                                              · refine j_swIn (tgt := 126) (b := 119) (pc := 1) C dX12_factOf_1 hs (by decide) (by decide) rfl (by decide) ?_
                                                refine j_bipush (v := 8) (pc := 126) C dX12_factOf_126 (by decide) ?_
                                                exact j_iret (pc := 128) C rfl dX12_factOf_128 hm
                                              · refine j_swOut (tgt := 129) (pc := 1) C dX12_factOf_1 (by have hx := jsw_out (lo := 97) (n := 23) (by decide) (by decide) (fun i hi => by rcases i with _ | _ | _ | _ | _ | _ | _ | _ | _ | _ | _ | _ | _ | _ | _ | _ | _ | _ | _ | _ | _ | _ | _ | i <;> first | assumption | (exact absurd hi (by omega))); exact hx) (by decide) ?_
                                                refine j_iconst (v := -1) (pc := 129) C dX12_factOf_129 (by decide) ?_
                                                exact j_iret (pc := 130) C rfl dX12_factOf_130 hm

def mX12_sumSign (F : Nat) (x0 : Int32) (σ : jS) : Option Int32 := (if x0 = (43 : Int32) then some (2 : Int32) else (if x0 = (45 : Int32) then some (3 : Int32) else (if x0 = (42 : Int32) then some (4 : Int32) else (if x0 = (47 : Int32) then some (5 : Int32) else (if x0 = (37 : Int32) then some (6 : Int32) else some (-1 : Int32))))))
set_option maxHeartbeats 4000000 in
set_option maxRecDepth 100000 in
theorem kX12_sumSign {V : jV} {F : Nat} {x0 : Int32} {σ : jS} {v : Int32} (hm : mX12_sumSign F x0 σ = some v) : Ct cfM 33 V yX12_sumSign cX12_sumSign 1 (some .int) 0 [.int x0] σ (v, σ) := by
  refine j_start (own := RX12) (by decide) rfl (Nat.le_of_ble_eq_true rfl) ?_
  intro G hV C
  subst hV
  unfold mX12_sumSign at hm
  show JM G 0 [(0, .int x0)] [] σ (v, σ)
  refine j_iloadn (pc := 0) C 0 dX12_sumSign_0 rfl rfl ?_
  refine j_bipush (v := 43) (pc := 1) C dX12_sumSign_1 (by decide) ?_
  refine j_icmp_ne (tgt := 10) (pc := 3) C dX12_sumSign_3 (by decide) hm (fun _ hm => ?_) (fun _ hm => ?_)
  · refine j_iconst (v := 2) (pc := 6) C dX12_sumSign_6 (by decide) ?_
    refine j_goto (tgt := 52) (pc := 7) C dX12_sumSign_7 (by decide) ?_
    exact j_iret (pc := 52) C rfl dX12_sumSign_52 hm
  · refine j_iloadn (pc := 10) C 0 dX12_sumSign_10 rfl rfl ?_
    refine j_bipush (v := 45) (pc := 11) C dX12_sumSign_11 (by decide) ?_
    refine j_icmp_ne (tgt := 20) (pc := 13) C dX12_sumSign_13 (by decide) hm (fun _ hm => ?_) (fun _ hm => ?_)
    · refine j_iconst (v := 3) (pc := 16) C dX12_sumSign_16 (by decide) ?_
      refine j_goto (tgt := 52) (pc := 17) C dX12_sumSign_17 (by decide) ?_
      exact j_iret (pc := 52) C rfl dX12_sumSign_52 hm
    · refine j_iloadn (pc := 20) C 0 dX12_sumSign_20 rfl rfl ?_
      refine j_bipush (v := 42) (pc := 21) C dX12_sumSign_21 (by decide) ?_
      refine j_icmp_ne (tgt := 30) (pc := 23) C dX12_sumSign_23 (by decide) hm (fun _ hm => ?_) (fun _ hm => ?_)
      · refine j_iconst (v := 4) (pc := 26) C dX12_sumSign_26 (by decide) ?_
        refine j_goto (tgt := 52) (pc := 27) C dX12_sumSign_27 (by decide) ?_
        exact j_iret (pc := 52) C rfl dX12_sumSign_52 hm
      · refine j_iloadn (pc := 30) C 0 dX12_sumSign_30 rfl rfl ?_
        refine j_bipush (v := 47) (pc := 31) C dX12_sumSign_31 (by decide) ?_
        refine j_icmp_ne (tgt := 40) (pc := 33) C dX12_sumSign_33 (by decide) hm (fun _ hm => ?_) (fun _ hm => ?_)
        · refine j_iconst (v := 5) (pc := 36) C dX12_sumSign_36 (by decide) ?_
          refine j_goto (tgt := 52) (pc := 37) C dX12_sumSign_37 (by decide) ?_
          exact j_iret (pc := 52) C rfl dX12_sumSign_52 hm
        · refine j_iloadn (pc := 40) C 0 dX12_sumSign_40 rfl rfl ?_
          refine j_bipush (v := 37) (pc := 41) C dX12_sumSign_41 (by decide) ?_
          refine j_icmp_ne (tgt := 51) (pc := 43) C dX12_sumSign_43 (by decide) hm (fun _ hm => ?_) (fun _ hm => ?_)
          · refine j_bipush (v := 6) (pc := 46) C dX12_sumSign_46 (by decide) ?_
            refine j_goto (tgt := 52) (pc := 48) C dX12_sumSign_48 (by decide) ?_
            exact j_iret (pc := 52) C rfl dX12_sumSign_52 hm
          · refine j_iconst (v := -1) (pc := 51) C dX12_sumSign_51 (by decide) ?_
            exact j_iret (pc := 52) C rfl dX12_sumSign_52 hm

def jn_X12_closesSums_37 (F : Nat) (k0 : Int32 → jS → Option jS) (x1 : Int32) (σ : jS) : Option jS := (Option.bind (mX12_waitTop F σ) fun q3 => (Option.bind (mX12_notes F q3 (0 : Int32) σ) fun q4 => (lt (js q4 0 13 ((q4 0 13) - (1 : Int32))) fun σ5 => (k0 x1 σ5))))
set_option maxHeartbeats 4000000 in
set_option maxRecDepth 100000 in
theorem jn_X12_closesSums_37_ok {G : jG} (C : jc cfM 33 G cX12_closesSums RX12 2 none 1) (F : Nat) {v : jS} (k0 : Int32 → jS → Option jS) (hk0 : ∀ (x1 : Int32) (σ : jS), k0 x1 σ = some v → JM G 0 [(0, .ref (vad (gV G) 0)), (1, .int x1)] [] σ (0, v)) : ∀ (x1 : Int32) (σ : jS), jn_X12_closesSums_37 F k0 x1 σ = some v → JM G 37 [(0, .ref (vad (gV G) 0)), (1, .int x1)] [] σ (0, v) := by
  intro x1 σ hm
  unfold jn_X12_closesSums_37 at hm
  refine j_aloadn (pc := 37) C 0 dX12_closesSums_37 rfl rfl ?_
  refine j_aloadn (pc := 38) C 0 dX12_closesSums_38 rfl rfl ?_
  obtain ⟨q3, hq3, hm⟩ := Option.bind_eq_some_iff.mp hm
  refine cl_X12_162 (c := 0) (pc := 39) C km_0 (kX12_waitTop hq3) (by decide) (Nat.le_of_ble_eq_true rfl) dX12_closesSums_39 ?_
  refine j_iconst (v := 0) (pc := 42) C dX12_closesSums_42 (by decide) ?_
  obtain ⟨q4, hq4, hm⟩ := Option.bind_eq_some_iff.mp hm
  refine cl_X12_165 (c := 0) (pc := 43) C km_0 (kX12_notes hq4) (by decide) (Nat.le_of_ble_eq_true rfl) dX12_closesSums_43 ?_
  refine j_aloadn (pc := 46) C 0 dX12_closesSums_46 rfl rfl ?_
  refine j_aloadn (pc := 47) C 0 dX12_closesSums_47 rfl rfl ?_
  refine gf_X12_159 (c := 0) (pc := 48) C km_0 dX12_closesSums_48 ?_
  refine j_iconst (v := 1) (pc := 51) C dX12_closesSums_51 (by decide) ?_
  refine j_isub (pc := 52) C dX12_closesSums_52 ?_
  refine pf_X12_159 (c := 0) (pc := 53) C km_0 dX12_closesSums_53 hm (fun σ5 hm => ?_)
  refine j_goto (tgt := 0) (pc := 56) C dX12_closesSums_56 (by decide) ?_
  exact hk0 _ _ hm

def jn_X12_closesSums_17 (F : Nat) (k0 : Int32 → jS → Option jS) (x1 : Int32) (σ : jS) : Option jS := (if x1 = 0 then some σ else (Option.bind (mX12_waitTop F σ) fun q2 => (if q2 = (2 : Int32) then (jn_X12_closesSums_37 F (k0) x1 σ) else (Option.bind (mX12_waitTop F σ) fun q6 => (if q6 = (3 : Int32) then (jn_X12_closesSums_37 F (k0) x1 σ) else some σ)))))
set_option maxHeartbeats 4000000 in
set_option maxRecDepth 100000 in
theorem jn_X12_closesSums_17_ok {G : jG} (C : jc cfM 33 G cX12_closesSums RX12 2 none 1) (F : Nat) {v : jS} (k0 : Int32 → jS → Option jS) (hk0 : ∀ (x1 : Int32) (σ : jS), k0 x1 σ = some v → JM G 0 [(0, .ref (vad (gV G) 0)), (1, .int x1)] [] σ (0, v)) : ∀ (x1 : Int32) (σ : jS), jn_X12_closesSums_17 F k0 x1 σ = some v → JM G 17 [(0, .ref (vad (gV G) 0)), (1, .int x1)] [] σ (0, v) := by
  intro x1 σ hm
  unfold jn_X12_closesSums_17 at hm
  refine j_iloadn (pc := 17) C 1 dX12_closesSums_17 rfl rfl ?_
  refine j_if_eq (tgt := 59) (pc := 18) C dX12_closesSums_18 (by decide) hm (fun _ hm => ?_) (fun _ hm => ?_)
  · exact j_vret (pc := 59) C rfl dX12_closesSums_59 hm
  · refine j_aloadn (pc := 21) C 0 dX12_closesSums_21 rfl rfl ?_
    obtain ⟨q2, hq2, hm⟩ := Option.bind_eq_some_iff.mp hm
    refine cl_X12_162 (c := 0) (pc := 22) C km_0 (kX12_waitTop hq2) (by decide) (Nat.le_of_ble_eq_true rfl) dX12_closesSums_22 ?_
    refine j_iconst (v := 2) (pc := 25) C dX12_closesSums_25 (by decide) ?_
    refine j_icmp_eq (tgt := 37) (pc := 26) C dX12_closesSums_26 (by decide) hm (fun _ hm => ?_) (fun _ hm => ?_)
    · exact jn_X12_closesSums_37_ok C F _ (fun _ _ hm => hk0 _ _ hm) _ _ hm
    · refine j_aloadn (pc := 29) C 0 dX12_closesSums_29 rfl rfl ?_
      obtain ⟨q6, hq6, hm⟩ := Option.bind_eq_some_iff.mp hm
      refine cl_X12_162 (c := 0) (pc := 30) C km_0 (kX12_waitTop hq6) (by decide) (Nat.le_of_ble_eq_true rfl) dX12_closesSums_30 ?_
      refine j_iconst (v := 3) (pc := 33) C dX12_closesSums_33 (by decide) ?_
      refine j_icmp_ne (tgt := 59) (pc := 34) C dX12_closesSums_34 (by decide) hm (fun _ hm => ?_) (fun _ hm => ?_)
      · exact jn_X12_closesSums_37_ok C F _ (fun _ _ hm => hk0 _ _ hm) _ _ hm
      · exact j_vret (pc := 59) C rfl dX12_closesSums_59 hm

def lp_X12_closesSums_0 (F : Nat) : Nat → Int32 → jS → Option jS
  | 0, _, _ => none
  | n + 1, x1, σ => (Option.bind (mX12_waitTop F σ) fun q1 => (if q1 < (4 : Int32) then (jn_X12_closesSums_17 F (lp_X12_closesSums_0 F n) x1 σ) else (Option.bind (mX12_waitTop F σ) fun q7 => (if (6 : Int32) < q7 then (jn_X12_closesSums_17 F (lp_X12_closesSums_0 F n) x1 σ) else (jn_X12_closesSums_37 F (lp_X12_closesSums_0 F n) x1 σ)))))
set_option maxHeartbeats 4000000 in
set_option maxRecDepth 100000 in
theorem lp_X12_closesSums_0_ok {G : jG} (C : jc cfM 33 G cX12_closesSums RX12 2 none 1) (F : Nat) {v : jS} : ∀ (n : Nat) (x1 : Int32) (σ : jS), lp_X12_closesSums_0 F n x1 σ = some v → JM G 0 [(0, .ref (vad (gV G) 0)), (1, .int x1)] [] σ (0, v) := by
  intro n
  induction n with
  | zero =>
    intro x1 σ hm
    rw [lp_X12_closesSums_0] at hm
    cases hm
  | succ n ih =>
    intro x1 σ hm
    rw [lp_X12_closesSums_0] at hm
    refine j_aloadn (pc := 0) C 0 dX12_closesSums_0 rfl rfl ?_
    obtain ⟨q1, hq1, hm⟩ := Option.bind_eq_some_iff.mp hm
    refine cl_X12_162 (c := 0) (pc := 1) C km_0 (kX12_waitTop hq1) (by decide) (Nat.le_of_ble_eq_true rfl) dX12_closesSums_1 ?_
    refine j_iconst (v := 4) (pc := 4) C dX12_closesSums_4 (by decide) ?_
    refine j_icmp_lt (tgt := 17) (pc := 5) C dX12_closesSums_5 (by decide) hm (fun _ hm => ?_) (fun _ hm => ?_)
    · exact jn_X12_closesSums_17_ok C F _ (fun _ _ hm => ih _ _ hm) _ _ hm
    · refine j_aloadn (pc := 8) C 0 dX12_closesSums_8 rfl rfl ?_
      obtain ⟨q7, hq7, hm⟩ := Option.bind_eq_some_iff.mp hm
      refine cl_X12_162 (c := 0) (pc := 9) C km_0 (kX12_waitTop hq7) (by decide) (Nat.le_of_ble_eq_true rfl) dX12_closesSums_9 ?_
      refine j_bipush (v := 6) (pc := 12) C dX12_closesSums_12 (by decide) ?_
      refine j_icmp_le (tgt := 37) (pc := 14) C dX12_closesSums_14 (by decide) hm (fun _ hm => ?_) (fun _ hm => ?_)
      · exact jn_X12_closesSums_17_ok C F _ (fun _ _ hm => ih _ _ hm) _ _ hm
      · exact jn_X12_closesSums_37_ok C F _ (fun _ _ hm => ih _ _ hm) _ _ hm

def mX12_closesSums (F : Nat) (x1 : Int32) (σ : jS) : Option jS := (lp_X12_closesSums_0 F F x1 σ)
set_option maxHeartbeats 4000000 in
set_option maxRecDepth 100000 in
theorem kX12_closesSums {V : jV} {F : Nat} {x1 : Int32} {σ : jS} {v : jS} (hm : mX12_closesSums F x1 σ = some v) : Ct cfM 33 V yX12_closesSums cX12_closesSums 2 none 1 [.ref (vad V 0), .int x1] σ (0, v) := by
  refine j_start (own := RX12) (by decide) rfl (Nat.le_of_ble_eq_true rfl) ?_
  intro G hV C
  subst hV
  unfold mX12_closesSums at hm
  show JM G 0 [(0, .ref (vad (gV G) 0)), (1, .int x1)] [] σ (0, v)
  exact lp_X12_closesSums_0_ok C F  F _ _ hm

def lp_X12_readsFactor_0 (F : Nat) (k20 : jS → Option (Int32 × jS)) : Nat → jS → Option (Int32 × jS)
  | 0, _ => none
  | n + 1, σ => (Option.bind (mX12_here F σ) fun q1 => (if q1 = (91 : Int32) then (Option.bind (mX12_opens F (14 : Int32) σ) fun q2 => (if q2.1 = 0 then some ((0 : Int32), q2.2) else (lp_X12_readsFactor_0 F k20 n q2.2))) else (k20 σ)))
set_option maxHeartbeats 4000000 in
set_option maxRecDepth 100000 in
theorem lp_X12_readsFactor_0_ok {G : jG} (C : jc cfM 33 G cX12_readsFactor RX12 2 (some .boolean) 3) (F : Nat) {v : (Int32 × jS)} (k20 : jS → Option (Int32 × jS)) (hk20 : ∀ (σ : jS), k20 σ = some v → JM G 20 [(0, .ref (vad (gV G) 0))] [] σ v) : ∀ (n : Nat) (σ : jS), lp_X12_readsFactor_0 F k20 n σ = some v → JM G 0 [(0, .ref (vad (gV G) 0))] [] σ v := by
  intro n
  induction n with
  | zero =>
    intro σ hm
    rw [lp_X12_readsFactor_0] at hm
    cases hm
  | succ n ih =>
    intro σ hm
    rw [lp_X12_readsFactor_0] at hm
    refine j_aloadn (pc := 0) C 0 dX12_readsFactor_0 rfl rfl ?_
    obtain ⟨q1, hq1, hm⟩ := Option.bind_eq_some_iff.mp hm
    refine cl_X12_134 (c := 0) (pc := 1) C km_0 (kX12_here hq1) (by decide) (Nat.le_of_ble_eq_true rfl) dX12_readsFactor_1 ?_
    refine j_bipush (v := 91) (pc := 4) C dX12_readsFactor_4 (by decide) ?_
    refine j_icmp_ne (tgt := 20) (pc := 6) C dX12_readsFactor_6 (by decide) hm (fun _ hm => ?_) (fun _ hm => ?_)
    · refine j_aloadn (pc := 9) C 0 dX12_readsFactor_9 rfl rfl ?_
      refine j_bipush (v := 14) (pc := 10) C dX12_readsFactor_10 (by decide) ?_
      obtain ⟨q2, hq2, hm⟩ := Option.bind_eq_some_iff.mp hm
      refine cl_X12_169 (c := 0) (pc := 12) C km_0 (kX12_opens hq2) (by decide) (Nat.le_of_ble_eq_true rfl) dX12_readsFactor_12 ?_
      refine j_if_ne (tgt := 0) (pc := 15) C dX12_readsFactor_15 (by decide) hm (fun _ hm => ?_) (fun _ hm => ?_)
      · refine j_iconst (v := 0) (pc := 18) C dX12_readsFactor_18 (by decide) ?_
        exact j_zretS (pc := 19) C rfl rfl dX12_readsFactor_19 hm
      · exact ih _ hm
    · exact hk20 _ hm

def mX12_readsFactor (F : Nat) (σ : jS) : Option (Int32 × jS) := (lp_X12_readsFactor_0 F (fun σ3 => (Option.bind (mX12_isDigit F σ3) fun q4 => (if q4 = 0 then (Option.bind (mX12_here F σ3) fun q5 => (Option.bind (mX12_factOf F q5 σ3) fun q6 => (if q6 = (-1 : Int32) then (Option.bind (mX12_wrongAt F (1 : Int32) ((σ3 0 7)) σ3) fun q7 => (if jbo q7.1 = true then some (q7.1, q7.2) else none)) else (Option.bind (mX12_notes F (1 : Int32) q6 σ3) fun q9 => (lt (js q9 0 7 ((q9 0 7) + (1 : Int32))) fun σ10 => some ((1 : Int32), σ10)))))) else (Option.bind (mX12_readsNumber F σ3) fun q11 => (if q11.1 = 0 then some ((0 : Int32), q11.2) else (Option.bind (mX12_notes F (0 : Int32) ((q11.2 0 10)) q11.2) fun q12 => some ((1 : Int32), q12))))))) F σ)
set_option maxHeartbeats 4000000 in
set_option maxRecDepth 100000 in
theorem kX12_readsFactor {V : jV} {F : Nat} {σ : jS} {v : (Int32 × jS)} (hm : mX12_readsFactor F σ = some v) : Ct cfM 33 V yX12_readsFactor cX12_readsFactor 2 (some .boolean) 3 [.ref (vad V 0)] σ v := by
  refine j_start (own := RX12) (by decide) rfl (Nat.le_of_ble_eq_true rfl) ?_
  intro G hV C
  subst hV
  unfold mX12_readsFactor at hm
  show JM G 0 [(0, .ref (vad (gV G) 0))] [] σ v
  refine lp_X12_readsFactor_0_ok C F _ (fun σ3 hm => ?_) F _ hm
  refine j_aloadn (pc := 20) C 0 dX12_readsFactor_20 rfl rfl ?_
  obtain ⟨q4, hq4, hm⟩ := Option.bind_eq_some_iff.mp hm
  refine cl_X12_148 (c := 0) (pc := 21) C km_0 (kX12_isDigit hq4) (by decide) (Nat.le_of_ble_eq_true rfl) dX12_readsFactor_21 ?_
  refine j_if_eq (tgt := 47) (pc := 24) C dX12_readsFactor_24 (by decide) hm (fun _ hm => ?_) (fun _ hm => ?_)
  · refine j_aloadn (pc := 47) C 0 dX12_readsFactor_47 rfl rfl ?_
    obtain ⟨q5, hq5, hm⟩ := Option.bind_eq_some_iff.mp hm
    refine cl_X12_134 (c := 0) (pc := 48) C km_0 (kX12_here hq5) (by decide) (Nat.le_of_ble_eq_true rfl) dX12_readsFactor_48 ?_
    obtain ⟨q6, hq6, hm⟩ := Option.bind_eq_some_iff.mp hm
    refine cl_X12_175 (pc := 51) C (kX12_factOf hq6) (by decide) (Nat.le_of_ble_eq_true rfl) dX12_readsFactor_51 ?_
    refine j_istoren (ls' := [(1, .int q6), (0, .ref (vad (gV G) 0))]) (pc := 54) C dX12_readsFactor_54 rfl (by decide) rfl ?_
    refine j_iloadn (pc := 55) C 0 dX12_readsFactor_55 rfl rfl ?_
    refine j_iconst (v := -1) (pc := 56) C dX12_readsFactor_56 (by decide) ?_
    refine j_icmp_ne (tgt := 70) (pc := 57) C dX12_readsFactor_57 (by decide) hm (fun _ hm => ?_) (fun _ hm => ?_)
    · refine j_aloadn (pc := 60) C 1 dX12_readsFactor_60 rfl rfl ?_
      refine j_iconst (v := 1) (pc := 61) C dX12_readsFactor_61 (by decide) ?_
      refine j_aloadn (pc := 62) C 1 dX12_readsFactor_62 rfl rfl ?_
      refine gf_X12_128 (c := 0) (pc := 63) C km_0 dX12_readsFactor_63 ?_
      obtain ⟨q7, hq7, hm⟩ := Option.bind_eq_some_iff.mp hm
      refine cl_X12_141 (c := 0) (pc := 66) C km_0 (kX12_wrongAt hq7) (by decide) (Nat.le_of_ble_eq_true rfl) dX12_readsFactor_66 ?_
      refine j_guard hm (fun hb8 hm => ?_)
      exact j_zretS (pc := 69) C rfl hb8 dX12_readsFactor_69 hm
    · refine j_aloadn (pc := 70) C 1 dX12_readsFactor_70 rfl rfl ?_
      refine j_iconst (v := 1) (pc := 71) C dX12_readsFactor_71 (by decide) ?_
      refine j_iloadn (pc := 72) C 0 dX12_readsFactor_72 rfl rfl ?_
      obtain ⟨q9, hq9, hm⟩ := Option.bind_eq_some_iff.mp hm
      refine cl_X12_165 (c := 0) (pc := 73) C km_0 (kX12_notes hq9) (by decide) (Nat.le_of_ble_eq_true rfl) dX12_readsFactor_73 ?_
      refine j_aloadn (pc := 76) C 1 dX12_readsFactor_76 rfl rfl ?_
      refine j_aloadn (pc := 77) C 1 dX12_readsFactor_77 rfl rfl ?_
      refine gf_X12_128 (c := 0) (pc := 78) C km_0 dX12_readsFactor_78 ?_
      refine j_iconst (v := 1) (pc := 81) C dX12_readsFactor_81 (by decide) ?_
      refine j_iadd (pc := 82) C dX12_readsFactor_82 ?_
      refine pf_X12_128 (c := 0) (pc := 83) C km_0 dX12_readsFactor_83 hm (fun σ10 hm => ?_)
      refine j_iconst (v := 1) (pc := 86) C dX12_readsFactor_86 (by decide) ?_
      exact j_zretS (pc := 87) C rfl rfl dX12_readsFactor_87 hm
  · refine j_aloadn (pc := 27) C 0 dX12_readsFactor_27 rfl rfl ?_
    obtain ⟨q11, hq11, hm⟩ := Option.bind_eq_some_iff.mp hm
    refine cl_X12_172 (c := 0) (pc := 28) C km_0 (kX12_readsNumber hq11) (by decide) (Nat.le_of_ble_eq_true rfl) dX12_readsFactor_28 ?_
    refine j_if_ne (tgt := 36) (pc := 31) C dX12_readsFactor_31 (by decide) hm (fun _ hm => ?_) (fun _ hm => ?_)
    · refine j_iconst (v := 0) (pc := 34) C dX12_readsFactor_34 (by decide) ?_
      exact j_zretS (pc := 35) C rfl rfl dX12_readsFactor_35 hm
    · refine j_aloadn (pc := 36) C 0 dX12_readsFactor_36 rfl rfl ?_
      refine j_iconst (v := 0) (pc := 37) C dX12_readsFactor_37 (by decide) ?_
      refine j_aloadn (pc := 38) C 0 dX12_readsFactor_38 rfl rfl ?_
      refine gf_X12_145 (c := 0) (pc := 39) C km_0 dX12_readsFactor_39 ?_
      obtain ⟨q12, hq12, hm⟩ := Option.bind_eq_some_iff.mp hm
      refine cl_X12_165 (c := 0) (pc := 42) C km_0 (kX12_notes hq12) (by decide) (Nat.le_of_ble_eq_true rfl) dX12_readsFactor_42 ?_
      refine j_iconst (v := 1) (pc := 45) C dX12_readsFactor_45 (by decide) ?_
      exact j_zretS (pc := 46) C rfl rfl dX12_readsFactor_46 hm

def lp_X12_hasOpenSum_2 (F : Nat) (σ : jS) : Nat → Int32 → Option Int32
  | 0, _ => none
  | n + 1, x2 => (if x2 < (σ 0 13) then (if jin x2 260 = true then (if ((σ 8 x2.toNatClampNeg) / (1048576 : Int32)) = (14 : Int32) then some (1 : Int32) else (lp_X12_hasOpenSum_2 F σ n ((x2 + (1 : Int32))))) else none) else some (0 : Int32))
set_option maxHeartbeats 4000000 in
set_option maxRecDepth 100000 in
theorem lp_X12_hasOpenSum_2_ok {G : jG} (C : jc cfM 33 G cX12_hasOpenSum RX12 3 (some .boolean) 0) (F : Nat) (σ : jS) {v : Int32} : ∀ (n : Nat) (x2 : Int32), lp_X12_hasOpenSum_2 F σ n x2 = some v → JM G 2 [(0, .ref (vad (gV G) 0)), (2, .int x2)] [] σ (v, σ) := by
  intro n
  induction n with
  | zero =>
    intro x2 hm
    rw [lp_X12_hasOpenSum_2] at hm
    cases hm
  | succ n ih =>
    intro x2 hm
    rw [lp_X12_hasOpenSum_2] at hm
    refine j_iloadn (pc := 2) C 1 dX12_hasOpenSum_2 rfl rfl ?_
    refine j_aloadn (pc := 3) C 0 dX12_hasOpenSum_3 rfl rfl ?_
    refine gf_X12_159 (c := 0) (pc := 4) C km_0 dX12_hasOpenSum_4 ?_
    refine j_icmp_ge (tgt := 32) (pc := 7) C dX12_hasOpenSum_7 (by decide) hm (fun _ hm => ?_) (fun _ hm => ?_)
    · refine j_aloadn (pc := 10) C 0 dX12_hasOpenSum_10 rfl rfl ?_
      refine gf_X12_32 (c := 0) (pc := 11) C km_0 dX12_hasOpenSum_11 ?_
      refine j_iloadn (pc := 14) C 1 dX12_hasOpenSum_14 rfl rfl ?_
      refine j_guard hm (fun hg1 hm => ?_)
      refine j_iald (c := 8) (n := 260) (pc := 15) C (kM_lt km_8 (by decide)) (cm_a km_8 lm_8 _) hg1 dX12_hasOpenSum_15 ?_
      refine j_ldc (v := 1048576) (pc := 16) C dX12_hasOpenSum_16 tw_6_51 ?_
      refine j_idivK (pc := 18) C dX12_hasOpenSum_18 (by decide) ?_
      refine j_bipush (v := 14) (pc := 19) C dX12_hasOpenSum_19 (by decide) ?_
      refine j_icmp_ne (tgt := 26) (pc := 21) C dX12_hasOpenSum_21 (by decide) hm (fun _ hm => ?_) (fun _ hm => ?_)
      · refine j_iconst (v := 1) (pc := 24) C dX12_hasOpenSum_24 (by decide) ?_
        exact j_zret (pc := 25) C rfl rfl dX12_hasOpenSum_25 hm
      · refine j_iinc (v := (x2 + (1 : Int32))) (ls' := [(2, .int (x2 + (1 : Int32))), (0, .ref (vad (gV G) 0))]) (pc := 26) C 1 dX12_hasOpenSum_26 rfl rfl (by decide) rfl ?_
        refine j_goto (tgt := 2) (pc := 29) C dX12_hasOpenSum_29 (by decide) ?_
        refine j_ls [1, 0] rfl ?_
        exact ih _ hm
    · refine j_iconst (v := 0) (pc := 32) C dX12_hasOpenSum_32 (by decide) ?_
      exact j_zret (pc := 33) C rfl rfl dX12_hasOpenSum_33 hm

def mX12_hasOpenSum (F : Nat) (x1 : Int32) (σ : jS) : Option Int32 := (lp_X12_hasOpenSum_2 F σ F x1)
set_option maxHeartbeats 4000000 in
set_option maxRecDepth 100000 in
theorem kX12_hasOpenSum {V : jV} {F : Nat} {x1 : Int32} {σ : jS} {v : Int32} (hm : mX12_hasOpenSum F x1 σ = some v) : Ct cfM 33 V yX12_hasOpenSum cX12_hasOpenSum 3 (some .boolean) 0 [.ref (vad V 0), .int x1] σ (v, σ) := by
  refine j_start (own := RX12) (by decide) rfl (Nat.le_of_ble_eq_true rfl) ?_
  intro G hV C
  subst hV
  unfold mX12_hasOpenSum at hm
  show JM G 0 [(0, .ref (vad (gV G) 0)), (1, .int x1)] [] σ (v, σ)
  refine j_iloadn (pc := 0) C 1 dX12_hasOpenSum_0 rfl rfl ?_
  refine j_istoren (ls' := [(2, .int x1), (0, .ref (vad (gV G) 0)), (1, .int x1)]) (pc := 1) C dX12_hasOpenSum_1 rfl (by decide) rfl ?_
  refine j_ls [1, 0] rfl ?_
  exact lp_X12_hasOpenSum_2_ok C F σ  F _ hm

def jn_X12_readsSum_38 (F : Nat) (k14 : Int32 → jS → Option (Int32 × jS)) (x1 : Int32) (x2 : Int32) (s1 : Int32) (σ : jS) : Option (Int32 × jS) := (Option.bind (mX12_closesSums F s1 σ) fun q11 => (if jin (q11 0 13) 260 = true then (lt (js q11 8 (q11 0 13).toNatClampNeg ((1048576 : Int32) * x2)) fun σ12 => (lt (js σ12 0 13 ((σ12 0 13) + (1 : Int32))) fun σ14 => (lt (js σ14 0 7 ((σ14 0 7) + (1 : Int32))) fun σ15 => (Option.bind (mX12_readsFactor F σ15) fun q16 => (if q16.1 = 0 then some ((0 : Int32), q16.2) else (k14 x1 q16.2)))))) else none))
set_option maxHeartbeats 4000000 in
set_option maxRecDepth 100000 in
theorem jn_X12_readsSum_38_ok {G : jG} (C : jc cfM 33 G cX12_readsSum RX12 3 (some .boolean) 4) (F : Nat) {v : (Int32 × jS)} (k14 : Int32 → jS → Option (Int32 × jS)) (hk14 : ∀ (x1 : Int32) (σ : jS), k14 x1 σ = some v → JM G 14 [(0, .ref (vad (gV G) 0)), (1, .int x1)] [] σ v) : ∀ (x1 : Int32) (x2 : Int32) (s1 : Int32) (σ : jS), jn_X12_readsSum_38 F k14 x1 x2 s1 σ = some v → JM G 38 [(0, .ref (vad (gV G) 0)), (1, .int x1), (2, .int x2)] [.int s1, .ref (vad (gV G) 0)] σ v := by
  intro x1 x2 s1 σ hm
  unfold jn_X12_readsSum_38 at hm
  obtain ⟨q11, hq11, hm⟩ := Option.bind_eq_some_iff.mp hm
  refine cl_X12_185 (c := 0) (pc := 38) C km_0 (kX12_closesSums hq11) (by decide) (Nat.le_of_ble_eq_true rfl) dX12_readsSum_38 ?_
  refine j_aloadn (pc := 41) C 0 dX12_readsSum_41 rfl rfl ?_
  refine gf_X12_32 (c := 0) (pc := 42) C km_0 dX12_readsSum_42 ?_
  refine j_aloadn (pc := 45) C 0 dX12_readsSum_45 rfl rfl ?_
  refine gf_X12_159 (c := 0) (pc := 46) C km_0 dX12_readsSum_46 ?_
  refine j_ldc (v := 1048576) (pc := 49) C dX12_readsSum_49 tw_6_51 ?_
  refine j_iloadn (pc := 51) C 2 dX12_readsSum_51 rfl rfl ?_
  refine j_imul (pc := 52) C dX12_readsSum_52 ?_
  refine j_guard hm (fun hg13 hm => ?_)
  refine j_iastL (c := 8) (n := 260) (pc := 53) C (kM_lt km_8 (by decide)) (cm_a km_8 lm_8) hg13 dX12_readsSum_53 hm (fun σ12 hm => ?_)
  refine j_aloadn (pc := 54) C 0 dX12_readsSum_54 rfl rfl ?_
  refine j_aloadn (pc := 55) C 0 dX12_readsSum_55 rfl rfl ?_
  refine gf_X12_159 (c := 0) (pc := 56) C km_0 dX12_readsSum_56 ?_
  refine j_iconst (v := 1) (pc := 59) C dX12_readsSum_59 (by decide) ?_
  refine j_iadd (pc := 60) C dX12_readsSum_60 ?_
  refine pf_X12_159 (c := 0) (pc := 61) C km_0 dX12_readsSum_61 hm (fun σ14 hm => ?_)
  refine j_aloadn (pc := 64) C 0 dX12_readsSum_64 rfl rfl ?_
  refine j_aloadn (pc := 65) C 0 dX12_readsSum_65 rfl rfl ?_
  refine gf_X12_128 (c := 0) (pc := 66) C km_0 dX12_readsSum_66 ?_
  refine j_iconst (v := 1) (pc := 69) C dX12_readsSum_69 (by decide) ?_
  refine j_iadd (pc := 70) C dX12_readsSum_70 ?_
  refine pf_X12_128 (c := 0) (pc := 71) C km_0 dX12_readsSum_71 hm (fun σ15 hm => ?_)
  refine j_aloadn (pc := 74) C 0 dX12_readsSum_74 rfl rfl ?_
  obtain ⟨q16, hq16, hm⟩ := Option.bind_eq_some_iff.mp hm
  refine cl_X12_179 (c := 0) (pc := 75) C km_0 (kX12_readsFactor hq16) (by decide) (Nat.le_of_ble_eq_true rfl) dX12_readsSum_75 ?_
  refine j_if_ne (tgt := 163) (pc := 78) C dX12_readsSum_78 (by decide) hm (fun _ hm => ?_) (fun _ hm => ?_)
  · refine j_iconst (v := 0) (pc := 81) C dX12_readsSum_81 (by decide) ?_
    exact j_zretS (pc := 82) C rfl rfl dX12_readsSum_82 hm
  · refine j_goto (tgt := 14) (pc := 163) C dX12_readsSum_163 (by decide) ?_
    refine j_ls [0, 1] rfl ?_
    exact hk14 _ _ hm

def lp_X12_readsSum_14 (F : Nat) (k138 : Int32 → jS → Option (Int32 × jS)) : Nat → Int32 → jS → Option (Int32 × jS)
  | 0, _, _ => none
  | n + 1, x1, σ => (Option.bind (mX12_here F σ) fun q3 => (Option.bind (mX12_sumSign F q3 σ) fun q4 => (if q4 = (-1 : Int32) then (Option.bind (mX12_here F σ) fun q5 => (if q5 = (93 : Int32) then (Option.bind (mX12_hasOpenSum F x1 σ) fun q6 => (if q6 = 0 then (k138 x1 σ) else (Option.bind (mX12_closesSums F (1 : Int32) σ) fun q7 => (lt (js q7 0 13 ((q7 0 13) - (1 : Int32))) fun σ8 => (lt (js σ8 0 11 ((σ8 0 11) - (1 : Int32))) fun σ9 => (lt (js σ9 0 7 ((σ9 0 7) + (1 : Int32))) fun σ10 => (lp_X12_readsSum_14 F k138 n x1 σ10))))))) else (k138 x1 σ))) else (if q4 < (4 : Int32) then (jn_X12_readsSum_38 F (lp_X12_readsSum_14 F k138 n) x1 q4 (1 : Int32) σ) else (jn_X12_readsSum_38 F (lp_X12_readsSum_14 F k138 n) x1 q4 (0 : Int32) σ)))))
set_option maxHeartbeats 4000000 in
set_option maxRecDepth 100000 in
theorem lp_X12_readsSum_14_ok {G : jG} (C : jc cfM 33 G cX12_readsSum RX12 3 (some .boolean) 4) (F : Nat) {v : (Int32 × jS)} (k138 : Int32 → jS → Option (Int32 × jS)) (hk138 : ∀ (x1 : Int32) (σ : jS), k138 x1 σ = some v → JM G 138 [(0, .ref (vad (gV G) 0)), (1, .int x1)] [] σ v) : ∀ (n : Nat) (x1 : Int32) (σ : jS), lp_X12_readsSum_14 F k138 n x1 σ = some v → JM G 14 [(0, .ref (vad (gV G) 0)), (1, .int x1)] [] σ v := by
  intro n
  induction n with
  | zero =>
    intro x1 σ hm
    rw [lp_X12_readsSum_14] at hm
    cases hm
  | succ n ih =>
    intro x1 σ hm
    rw [lp_X12_readsSum_14] at hm
    refine j_aloadn (pc := 14) C 0 dX12_readsSum_14 rfl rfl ?_
    obtain ⟨q3, hq3, hm⟩ := Option.bind_eq_some_iff.mp hm
    refine cl_X12_134 (c := 0) (pc := 15) C km_0 (kX12_here hq3) (by decide) (Nat.le_of_ble_eq_true rfl) dX12_readsSum_15 ?_
    obtain ⟨q4, hq4, hm⟩ := Option.bind_eq_some_iff.mp hm
    refine cl_X12_182 (pc := 18) C (kX12_sumSign hq4) (by decide) (Nat.le_of_ble_eq_true rfl) dX12_readsSum_18 ?_
    refine j_istoren (ls' := [(2, .int q4), (0, .ref (vad (gV G) 0)), (1, .int x1)]) (pc := 21) C dX12_readsSum_21 rfl (by decide) rfl ?_
    refine j_iloadn (pc := 22) C 0 dX12_readsSum_22 rfl rfl ?_
    refine j_iconst (v := -1) (pc := 23) C dX12_readsSum_23 (by decide) ?_
    refine j_icmp_eq (tgt := 83) (pc := 24) C dX12_readsSum_24 (by decide) hm (fun _ hm => ?_) (fun _ hm => ?_)
    · refine j_aloadn (pc := 83) C 1 dX12_readsSum_83 rfl rfl ?_
      obtain ⟨q5, hq5, hm⟩ := Option.bind_eq_some_iff.mp hm
      refine cl_X12_134 (c := 0) (pc := 84) C km_0 (kX12_here hq5) (by decide) (Nat.le_of_ble_eq_true rfl) dX12_readsSum_84 ?_
      refine j_bipush (v := 93) (pc := 87) C dX12_readsSum_87 (by decide) ?_
      refine j_icmp_ne (tgt := 138) (pc := 89) C dX12_readsSum_89 (by decide) hm (fun _ hm => ?_) (fun _ hm => ?_)
      · refine j_aloadn (pc := 92) C 1 dX12_readsSum_92 rfl rfl ?_
        refine j_iloadn (pc := 93) C 2 dX12_readsSum_93 rfl rfl ?_
        obtain ⟨q6, hq6, hm⟩ := Option.bind_eq_some_iff.mp hm
        refine cl_X12_189 (c := 0) (pc := 94) C km_0 (kX12_hasOpenSum hq6) (by decide) (Nat.le_of_ble_eq_true rfl) dX12_readsSum_94 ?_
        refine j_if_eq (tgt := 138) (pc := 97) C dX12_readsSum_97 (by decide) hm (fun _ hm => ?_) (fun _ hm => ?_)
        · refine j_ls [1, 2] rfl ?_
          exact hk138 _ _ hm
        · refine j_aloadn (pc := 100) C 1 dX12_readsSum_100 rfl rfl ?_
          refine j_iconst (v := 1) (pc := 101) C dX12_readsSum_101 (by decide) ?_
          obtain ⟨q7, hq7, hm⟩ := Option.bind_eq_some_iff.mp hm
          refine cl_X12_185 (c := 0) (pc := 102) C km_0 (kX12_closesSums hq7) (by decide) (Nat.le_of_ble_eq_true rfl) dX12_readsSum_102 ?_
          refine j_aloadn (pc := 105) C 1 dX12_readsSum_105 rfl rfl ?_
          refine j_aloadn (pc := 106) C 1 dX12_readsSum_106 rfl rfl ?_
          refine gf_X12_159 (c := 0) (pc := 107) C km_0 dX12_readsSum_107 ?_
          refine j_iconst (v := 1) (pc := 110) C dX12_readsSum_110 (by decide) ?_
          refine j_isub (pc := 111) C dX12_readsSum_111 ?_
          refine pf_X12_159 (c := 0) (pc := 112) C km_0 dX12_readsSum_112 hm (fun σ8 hm => ?_)
          refine j_aloadn (pc := 115) C 1 dX12_readsSum_115 rfl rfl ?_
          refine j_aloadn (pc := 116) C 1 dX12_readsSum_116 rfl rfl ?_
          refine gf_X12_156 (c := 0) (pc := 117) C km_0 dX12_readsSum_117 ?_
          refine j_iconst (v := 1) (pc := 120) C dX12_readsSum_120 (by decide) ?_
          refine j_isub (pc := 121) C dX12_readsSum_121 ?_
          refine pf_X12_156 (c := 0) (pc := 122) C km_0 dX12_readsSum_122 hm (fun σ9 hm => ?_)
          refine j_aloadn (pc := 125) C 1 dX12_readsSum_125 rfl rfl ?_
          refine j_aloadn (pc := 126) C 1 dX12_readsSum_126 rfl rfl ?_
          refine gf_X12_128 (c := 0) (pc := 127) C km_0 dX12_readsSum_127 ?_
          refine j_iconst (v := 1) (pc := 130) C dX12_readsSum_130 (by decide) ?_
          refine j_iadd (pc := 131) C dX12_readsSum_131 ?_
          refine pf_X12_128 (c := 0) (pc := 132) C km_0 dX12_readsSum_132 hm (fun σ10 hm => ?_)
          refine j_goto (tgt := 163) (pc := 135) C dX12_readsSum_135 (by decide) ?_
          refine j_goto (tgt := 14) (pc := 163) C dX12_readsSum_163 (by decide) ?_
          refine j_ls [1, 2] rfl ?_
          exact ih _ _ hm
      · refine j_ls [1, 2] rfl ?_
        exact hk138 _ _ hm
    · refine j_aloadn (pc := 27) C 1 dX12_readsSum_27 rfl rfl ?_
      refine j_iloadn (pc := 28) C 0 dX12_readsSum_28 rfl rfl ?_
      refine j_iconst (v := 4) (pc := 29) C dX12_readsSum_29 (by decide) ?_
      refine j_icmp_ge (tgt := 37) (pc := 30) C dX12_readsSum_30 (by decide) hm (fun _ hm => ?_) (fun _ hm => ?_)
      · refine j_iconst (v := 1) (pc := 33) C dX12_readsSum_33 (by decide) ?_
        refine j_goto (tgt := 38) (pc := 34) C dX12_readsSum_34 (by decide) ?_
        refine j_ls [1, 2, 0] rfl ?_
        exact jn_X12_readsSum_38_ok C F _ (fun _ _ hm => ih _ _ hm) _ _ _ _ hm
      · refine j_iconst (v := 0) (pc := 37) C dX12_readsSum_37 (by decide) ?_
        refine j_ls [1, 2, 0] rfl ?_
        exact jn_X12_readsSum_38_ok C F _ (fun _ _ hm => ih _ _ hm) _ _ _ _ hm

def jn_X12_readsSum_138 (F : Nat) (x1 : Int32) (σ : jS) : Option (Int32 × jS) := (Option.bind (mX12_hasOpenSum F x1 σ) fun q18 => (if q18 = 0 then (Option.bind (mX12_closesSums F (1 : Int32) σ) fun q19 => some ((1 : Int32), q19)) else (Option.bind (mX12_wrongAt F (1 : Int32) ((σ 0 7)) σ) fun q20 => (if jbo q20.1 = true then some (q20.1, q20.2) else none))))
set_option maxHeartbeats 4000000 in
set_option maxRecDepth 100000 in
theorem jn_X12_readsSum_138_ok {G : jG} (C : jc cfM 33 G cX12_readsSum RX12 3 (some .boolean) 4) (F : Nat) {v : (Int32 × jS)} : ∀ (x1 : Int32) (σ : jS), jn_X12_readsSum_138 F x1 σ = some v → JM G 138 [(0, .ref (vad (gV G) 0)), (1, .int x1)] [] σ v := by
  intro x1 σ hm
  unfold jn_X12_readsSum_138 at hm
  refine j_aloadn (pc := 138) C 0 dX12_readsSum_138 rfl rfl ?_
  refine j_iloadn (pc := 139) C 1 dX12_readsSum_139 rfl rfl ?_
  obtain ⟨q18, hq18, hm⟩ := Option.bind_eq_some_iff.mp hm
  refine cl_X12_189 (c := 0) (pc := 140) C km_0 (kX12_hasOpenSum hq18) (by decide) (Nat.le_of_ble_eq_true rfl) dX12_readsSum_140 ?_
  refine j_if_eq (tgt := 156) (pc := 143) C dX12_readsSum_143 (by decide) hm (fun _ hm => ?_) (fun _ hm => ?_)
  · refine j_aloadn (pc := 156) C 0 dX12_readsSum_156 rfl rfl ?_
    refine j_iconst (v := 1) (pc := 157) C dX12_readsSum_157 (by decide) ?_
    obtain ⟨q19, hq19, hm⟩ := Option.bind_eq_some_iff.mp hm
    refine cl_X12_185 (c := 0) (pc := 158) C km_0 (kX12_closesSums hq19) (by decide) (Nat.le_of_ble_eq_true rfl) dX12_readsSum_158 ?_
    refine j_iconst (v := 1) (pc := 161) C dX12_readsSum_161 (by decide) ?_
    exact j_zretS (pc := 162) C rfl rfl dX12_readsSum_162 hm
  · refine j_aloadn (pc := 146) C 0 dX12_readsSum_146 rfl rfl ?_
    refine j_iconst (v := 1) (pc := 147) C dX12_readsSum_147 (by decide) ?_
    refine j_aloadn (pc := 148) C 0 dX12_readsSum_148 rfl rfl ?_
    refine gf_X12_128 (c := 0) (pc := 149) C km_0 dX12_readsSum_149 ?_
    obtain ⟨q20, hq20, hm⟩ := Option.bind_eq_some_iff.mp hm
    refine cl_X12_141 (c := 0) (pc := 152) C km_0 (kX12_wrongAt hq20) (by decide) (Nat.le_of_ble_eq_true rfl) dX12_readsSum_152 ?_
    refine j_guard hm (fun hb21 hm => ?_)
    exact j_zretS (pc := 155) C rfl hb21 dX12_readsSum_155 hm

def mX12_readsSum (F : Nat) (σ : jS) : Option (Int32 × jS) := (lt (σ 0 13) fun y1 => (Option.bind (mX12_readsFactor F σ) fun q2 => (if q2.1 = 0 then some ((0 : Int32), q2.2) else (lp_X12_readsSum_14 F (fun x1_17 σ17 => (jn_X12_readsSum_138 F x1_17 σ17)) F y1 q2.2))))
set_option maxHeartbeats 4000000 in
set_option maxRecDepth 100000 in
theorem kX12_readsSum {V : jV} {F : Nat} {σ : jS} {v : (Int32 × jS)} (hm : mX12_readsSum F σ = some v) : Ct cfM 33 V yX12_readsSum cX12_readsSum 3 (some .boolean) 4 [.ref (vad V 0)] σ v := by
  refine j_start (own := RX12) (by decide) rfl (Nat.le_of_ble_eq_true rfl) ?_
  intro G hV C
  subst hV
  unfold mX12_readsSum at hm
  show JM G 0 [(0, .ref (vad (gV G) 0))] [] σ v
  refine j_aloadn (pc := 0) C 0 dX12_readsSum_0 rfl rfl ?_
  refine gf_X12_159 (c := 0) (pc := 1) C km_0 dX12_readsSum_1 ?_
  refine j_lti hm (fun y1 hm => ?_)
  refine j_istoren (ls' := [(1, .int y1), (0, .ref (vad (gV G) 0))]) (pc := 4) C dX12_readsSum_4 rfl (by decide) rfl ?_
  refine j_aloadn (pc := 5) C 1 dX12_readsSum_5 rfl rfl ?_
  obtain ⟨q2, hq2, hm⟩ := Option.bind_eq_some_iff.mp hm
  refine cl_X12_179 (c := 0) (pc := 6) C km_0 (kX12_readsFactor hq2) (by decide) (Nat.le_of_ble_eq_true rfl) dX12_readsSum_6 ?_
  refine j_if_ne (tgt := 14) (pc := 9) C dX12_readsSum_9 (by decide) hm (fun _ hm => ?_) (fun _ hm => ?_)
  · refine j_iconst (v := 0) (pc := 12) C dX12_readsSum_12 (by decide) ?_
    exact j_zretS (pc := 13) C rfl rfl dX12_readsSum_13 hm
  · refine j_ls [1, 0] rfl ?_
    refine lp_X12_readsSum_14_ok C F _ (fun x1_17 σ17 hm => ?_) F _ _ hm
    exact jn_X12_readsSum_138_ok C F  _ _ hm

def lp_X12_endsPiece_0 (F : Nat) : Nat → jS → Option jS
  | 0, _ => none
  | n + 1, σ => (Option.bind (mX12_waitTop F σ) fun q1 => (if q1 = (10 : Int32) then (Option.bind (mX12_notes F (10 : Int32) (0 : Int32) σ) fun q2 => (lt (js q2 0 13 ((q2 0 13) - (1 : Int32))) fun σ3 => (lt (js σ3 0 11 ((σ3 0 11) - (1 : Int32))) fun σ4 => (lp_X12_endsPiece_0 F n σ4)))) else some σ))
set_option maxHeartbeats 4000000 in
set_option maxRecDepth 100000 in
theorem lp_X12_endsPiece_0_ok {G : jG} (C : jc cfM 33 G cX12_endsPiece RX12 1 none 1) (F : Nat) {v : jS} : ∀ (n : Nat) (σ : jS), lp_X12_endsPiece_0 F n σ = some v → JM G 0 [(0, .ref (vad (gV G) 0))] [] σ (0, v) := by
  intro n
  induction n with
  | zero =>
    intro σ hm
    rw [lp_X12_endsPiece_0] at hm
    cases hm
  | succ n ih =>
    intro σ hm
    rw [lp_X12_endsPiece_0] at hm
    refine j_aloadn (pc := 0) C 0 dX12_endsPiece_0 rfl rfl ?_
    obtain ⟨q1, hq1, hm⟩ := Option.bind_eq_some_iff.mp hm
    refine cl_X12_162 (c := 0) (pc := 1) C km_0 (kX12_waitTop hq1) (by decide) (Nat.le_of_ble_eq_true rfl) dX12_endsPiece_1 ?_
    refine j_bipush (v := 10) (pc := 4) C dX12_endsPiece_4 (by decide) ?_
    refine j_icmp_ne (tgt := 39) (pc := 6) C dX12_endsPiece_6 (by decide) hm (fun _ hm => ?_) (fun _ hm => ?_)
    · refine j_aloadn (pc := 9) C 0 dX12_endsPiece_9 rfl rfl ?_
      refine j_bipush (v := 10) (pc := 10) C dX12_endsPiece_10 (by decide) ?_
      refine j_iconst (v := 0) (pc := 12) C dX12_endsPiece_12 (by decide) ?_
      obtain ⟨q2, hq2, hm⟩ := Option.bind_eq_some_iff.mp hm
      refine cl_X12_165 (c := 0) (pc := 13) C km_0 (kX12_notes hq2) (by decide) (Nat.le_of_ble_eq_true rfl) dX12_endsPiece_13 ?_
      refine j_aloadn (pc := 16) C 0 dX12_endsPiece_16 rfl rfl ?_
      refine j_aloadn (pc := 17) C 0 dX12_endsPiece_17 rfl rfl ?_
      refine gf_X12_159 (c := 0) (pc := 18) C km_0 dX12_endsPiece_18 ?_
      refine j_iconst (v := 1) (pc := 21) C dX12_endsPiece_21 (by decide) ?_
      refine j_isub (pc := 22) C dX12_endsPiece_22 ?_
      refine pf_X12_159 (c := 0) (pc := 23) C km_0 dX12_endsPiece_23 hm (fun σ3 hm => ?_)
      refine j_aloadn (pc := 26) C 0 dX12_endsPiece_26 rfl rfl ?_
      refine j_aloadn (pc := 27) C 0 dX12_endsPiece_27 rfl rfl ?_
      refine gf_X12_156 (c := 0) (pc := 28) C km_0 dX12_endsPiece_28 ?_
      refine j_iconst (v := 1) (pc := 31) C dX12_endsPiece_31 (by decide) ?_
      refine j_isub (pc := 32) C dX12_endsPiece_32 ?_
      refine pf_X12_156 (c := 0) (pc := 33) C km_0 dX12_endsPiece_33 hm (fun σ4 hm => ?_)
      refine j_goto (tgt := 0) (pc := 36) C dX12_endsPiece_36 (by decide) ?_
      exact ih _ hm
    · exact j_vret (pc := 39) C rfl dX12_endsPiece_39 hm

def mX12_endsPiece (F : Nat) (σ : jS) : Option jS := (lp_X12_endsPiece_0 F F σ)
set_option maxHeartbeats 4000000 in
set_option maxRecDepth 100000 in
theorem kX12_endsPiece {V : jV} {F : Nat} {σ : jS} {v : jS} (hm : mX12_endsPiece F σ = some v) : Ct cfM 33 V yX12_endsPiece cX12_endsPiece 1 none 1 [.ref (vad V 0)] σ (0, v) := by
  refine j_start (own := RX12) (by decide) rfl (Nat.le_of_ble_eq_true rfl) ?_
  intro G hV C
  subst hV
  unfold mX12_endsPiece at hm
  show JM G 0 [(0, .ref (vad (gV G) 0))] [] σ (0, v)
  exact lp_X12_endsPiece_0_ok C F  F _ hm

def jn_X12_lands_22 (F : Nat) (k0 : Int32 → jS → Option jS) (x1 : Int32) (σ : jS) : Option jS := (lt ((σ 0 13) - (1 : Int32)) fun y2 => (if jin y2 260 = true then (lt (irm (σ 8 y2.toNatClampNeg) (1048576 : Int32)) fun y5 => (if jin y5 260 = true then (if jin y5 260 = true then (lt (js σ 7 y5.toNatClampNeg (((1048576 : Int32) * ((σ 7 y5.toNatClampNeg) / (1048576 : Int32))) + (σ 0 12))) fun σ8 => (lt (js σ8 0 13 ((σ8 0 13) - (1 : Int32))) fun σ10 => (k0 x1 σ10))) else none) else none)) else none))
set_option maxHeartbeats 4000000 in
set_option maxRecDepth 100000 in
theorem jn_X12_lands_22_ok {G : jG} (C : jc cfM 33 G cX12_lands RX12 3 none 1) (F : Nat) {v : jS} (k0 : Int32 → jS → Option jS) (hk0 : ∀ (x1 : Int32) (σ : jS), k0 x1 σ = some v → JM G 0 [(0, .ref (vad (gV G) 0)), (1, .int x1)] [] σ (0, v)) : ∀ (x1 : Int32) (σ : jS), jn_X12_lands_22 F k0 x1 σ = some v → JM G 22 [(0, .ref (vad (gV G) 0)), (1, .int x1)] [] σ (0, v) := by
  intro x1 σ hm
  unfold jn_X12_lands_22 at hm
  refine j_aloadn (pc := 22) C 0 dX12_lands_22 rfl rfl ?_
  refine gf_X12_32 (c := 0) (pc := 23) C km_0 dX12_lands_23 ?_
  refine j_aloadn (pc := 26) C 0 dX12_lands_26 rfl rfl ?_
  refine gf_X12_159 (c := 0) (pc := 27) C km_0 dX12_lands_27 ?_
  refine j_iconst (v := 1) (pc := 30) C dX12_lands_30 (by decide) ?_
  refine j_isub (pc := 31) C dX12_lands_31 ?_
  refine j_lti hm (fun y2 hm => ?_)
  refine j_guard hm (fun hg3 hm => ?_)
  refine j_iald (c := 8) (n := 260) (pc := 32) C (kM_lt km_8 (by decide)) (cm_a km_8 lm_8 _) hg3 dX12_lands_32 ?_
  refine j_ldc (v := 1048576) (pc := 33) C dX12_lands_33 tw_6_51 ?_
  refine j_iremK (pc := 35) C dX12_lands_35 (by decide) ?_
  refine j_lti hm (fun y5 hm => ?_)
  refine j_istoren (ls' := [(2, .int y5), (0, .ref (vad (gV G) 0)), (1, .int x1)]) (pc := 36) C dX12_lands_36 rfl (by decide) rfl ?_
  refine j_aloadn (pc := 37) C 1 dX12_lands_37 rfl rfl ?_
  refine gf_X12_29 (c := 0) (pc := 38) C km_0 dX12_lands_38 ?_
  refine j_iloadn (pc := 41) C 0 dX12_lands_41 rfl rfl ?_
  refine j_ldc (v := 1048576) (pc := 42) C dX12_lands_42 tw_6_51 ?_
  refine j_aloadn (pc := 44) C 1 dX12_lands_44 rfl rfl ?_
  refine gf_X12_29 (c := 0) (pc := 45) C km_0 dX12_lands_45 ?_
  refine j_iloadn (pc := 48) C 0 dX12_lands_48 rfl rfl ?_
  refine j_guard hm (fun hg6 hm => ?_)
  refine j_iald (c := 7) (n := 260) (pc := 49) C (kM_lt km_7 (by decide)) (cm_a km_7 lm_7 _) hg6 dX12_lands_49 ?_
  refine j_ldc (v := 1048576) (pc := 50) C dX12_lands_50 tw_6_51 ?_
  refine j_idivK (pc := 52) C dX12_lands_52 (by decide) ?_
  refine j_imul (pc := 53) C dX12_lands_53 ?_
  refine j_aloadn (pc := 54) C 1 dX12_lands_54 rfl rfl ?_
  refine gf_X12_152 (c := 0) (pc := 55) C km_0 dX12_lands_55 ?_
  refine j_iadd (pc := 58) C dX12_lands_58 ?_
  refine j_guard hm (fun hg9 hm => ?_)
  refine j_iastL (c := 7) (n := 260) (pc := 59) C (kM_lt km_7 (by decide)) (cm_a km_7 lm_7) hg9 dX12_lands_59 hm (fun σ8 hm => ?_)
  refine j_aloadn (pc := 60) C 1 dX12_lands_60 rfl rfl ?_
  refine j_aloadn (pc := 61) C 1 dX12_lands_61 rfl rfl ?_
  refine gf_X12_159 (c := 0) (pc := 62) C km_0 dX12_lands_62 ?_
  refine j_iconst (v := 1) (pc := 65) C dX12_lands_65 (by decide) ?_
  refine j_isub (pc := 66) C dX12_lands_66 ?_
  refine pf_X12_159 (c := 0) (pc := 67) C km_0 dX12_lands_67 hm (fun σ10 hm => ?_)
  refine j_goto (tgt := 0) (pc := 70) C dX12_lands_70 (by decide) ?_
  refine j_ls [1, 2] rfl ?_
  exact hk0 _ _ hm

def lp_X12_lands_0 (F : Nat) : Nat → Int32 → jS → Option jS
  | 0, _, _ => none
  | n + 1, x1, σ => (Option.bind (mX12_waitTop F σ) fun q1 => (if q1 = (11 : Int32) then (jn_X12_lands_22 F (lp_X12_lands_0 F n) x1 σ) else (if x1 = 0 then some σ else (Option.bind (mX12_waitTop F σ) fun q11 => (if q11 = (12 : Int32) then (jn_X12_lands_22 F (lp_X12_lands_0 F n) x1 σ) else some σ)))))
set_option maxHeartbeats 4000000 in
set_option maxRecDepth 100000 in
theorem lp_X12_lands_0_ok {G : jG} (C : jc cfM 33 G cX12_lands RX12 3 none 1) (F : Nat) {v : jS} : ∀ (n : Nat) (x1 : Int32) (σ : jS), lp_X12_lands_0 F n x1 σ = some v → JM G 0 [(0, .ref (vad (gV G) 0)), (1, .int x1)] [] σ (0, v) := by
  intro n
  induction n with
  | zero =>
    intro x1 σ hm
    rw [lp_X12_lands_0] at hm
    cases hm
  | succ n ih =>
    intro x1 σ hm
    rw [lp_X12_lands_0] at hm
    refine j_aloadn (pc := 0) C 0 dX12_lands_0 rfl rfl ?_
    obtain ⟨q1, hq1, hm⟩ := Option.bind_eq_some_iff.mp hm
    refine cl_X12_162 (c := 0) (pc := 1) C km_0 (kX12_waitTop hq1) (by decide) (Nat.le_of_ble_eq_true rfl) dX12_lands_1 ?_
    refine j_bipush (v := 11) (pc := 4) C dX12_lands_4 (by decide) ?_
    refine j_icmp_eq (tgt := 22) (pc := 6) C dX12_lands_6 (by decide) hm (fun _ hm => ?_) (fun _ hm => ?_)
    · exact jn_X12_lands_22_ok C F _ (fun _ _ hm => ih _ _ hm) _ _ hm
    · refine j_iloadn (pc := 9) C 1 dX12_lands_9 rfl rfl ?_
      refine j_if_eq (tgt := 73) (pc := 10) C dX12_lands_10 (by decide) hm (fun _ hm => ?_) (fun _ hm => ?_)
      · exact j_vret (pc := 73) C rfl dX12_lands_73 hm
      · refine j_aloadn (pc := 13) C 0 dX12_lands_13 rfl rfl ?_
        obtain ⟨q11, hq11, hm⟩ := Option.bind_eq_some_iff.mp hm
        refine cl_X12_162 (c := 0) (pc := 14) C km_0 (kX12_waitTop hq11) (by decide) (Nat.le_of_ble_eq_true rfl) dX12_lands_14 ?_
        refine j_bipush (v := 12) (pc := 17) C dX12_lands_17 (by decide) ?_
        refine j_icmp_ne (tgt := 73) (pc := 19) C dX12_lands_19 (by decide) hm (fun _ hm => ?_) (fun _ hm => ?_)
        · exact jn_X12_lands_22_ok C F _ (fun _ _ hm => ih _ _ hm) _ _ hm
        · exact j_vret (pc := 73) C rfl dX12_lands_73 hm

def mX12_lands (F : Nat) (x1 : Int32) (σ : jS) : Option jS := (lp_X12_lands_0 F F x1 σ)
set_option maxHeartbeats 4000000 in
set_option maxRecDepth 100000 in
theorem kX12_lands {V : jV} {F : Nat} {x1 : Int32} {σ : jS} {v : jS} (hm : mX12_lands F x1 σ = some v) : Ct cfM 33 V yX12_lands cX12_lands 3 none 1 [.ref (vad V 0), .int x1] σ (0, v) := by
  refine j_start (own := RX12) (by decide) rfl (Nat.le_of_ble_eq_true rfl) ?_
  intro G hV C
  subst hV
  unfold mX12_lands at hm
  show JM G 0 [(0, .ref (vad (gV G) 0)), (1, .int x1)] [] σ (0, v)
  exact lp_X12_lands_0_ok C F  F _ _ hm

def mX12_jumps (F : Nat) (x1 : Int32) (σ : jS) : Option jS := (if jin (σ 0 13) 260 = true then (lt (js σ 8 (σ 0 13).toNatClampNeg (((1048576 : Int32) * x1) + (σ 0 12))) fun σ1 => (lt (js σ1 0 13 ((σ1 0 13) + (1 : Int32))) fun σ3 => (Option.bind (mX12_notes F x1 (0 : Int32) σ3) fun q4 => (lt (js q4 0 7 ((q4 0 7) + (1 : Int32))) fun σ5 => some σ5)))) else none)
set_option maxHeartbeats 4000000 in
set_option maxRecDepth 100000 in
theorem kX12_jumps {V : jV} {F : Nat} {x1 : Int32} {σ : jS} {v : jS} (hm : mX12_jumps F x1 σ = some v) : Ct cfM 33 V yX12_jumps cX12_jumps 2 none 1 [.ref (vad V 0), .int x1] σ (0, v) := by
  refine j_start (own := RX12) (by decide) rfl (Nat.le_of_ble_eq_true rfl) ?_
  intro G hV C
  subst hV
  unfold mX12_jumps at hm
  show JM G 0 [(0, .ref (vad (gV G) 0)), (1, .int x1)] [] σ (0, v)
  refine j_aloadn (pc := 0) C 0 dX12_jumps_0 rfl rfl ?_
  refine gf_X12_32 (c := 0) (pc := 1) C km_0 dX12_jumps_1 ?_
  refine j_aloadn (pc := 4) C 0 dX12_jumps_4 rfl rfl ?_
  refine gf_X12_159 (c := 0) (pc := 5) C km_0 dX12_jumps_5 ?_
  refine j_ldc (v := 1048576) (pc := 8) C dX12_jumps_8 tw_6_51 ?_
  refine j_iloadn (pc := 10) C 1 dX12_jumps_10 rfl rfl ?_
  refine j_imul (pc := 11) C dX12_jumps_11 ?_
  refine j_aloadn (pc := 12) C 0 dX12_jumps_12 rfl rfl ?_
  refine gf_X12_152 (c := 0) (pc := 13) C km_0 dX12_jumps_13 ?_
  refine j_iadd (pc := 16) C dX12_jumps_16 ?_
  refine j_guard hm (fun hg2 hm => ?_)
  refine j_iastL (c := 8) (n := 260) (pc := 17) C (kM_lt km_8 (by decide)) (cm_a km_8 lm_8) hg2 dX12_jumps_17 hm (fun σ1 hm => ?_)
  refine j_aloadn (pc := 18) C 0 dX12_jumps_18 rfl rfl ?_
  refine j_aloadn (pc := 19) C 0 dX12_jumps_19 rfl rfl ?_
  refine gf_X12_159 (c := 0) (pc := 20) C km_0 dX12_jumps_20 ?_
  refine j_iconst (v := 1) (pc := 23) C dX12_jumps_23 (by decide) ?_
  refine j_iadd (pc := 24) C dX12_jumps_24 ?_
  refine pf_X12_159 (c := 0) (pc := 25) C km_0 dX12_jumps_25 hm (fun σ3 hm => ?_)
  refine j_aloadn (pc := 28) C 0 dX12_jumps_28 rfl rfl ?_
  refine j_iloadn (pc := 29) C 1 dX12_jumps_29 rfl rfl ?_
  refine j_iconst (v := 0) (pc := 30) C dX12_jumps_30 (by decide) ?_
  obtain ⟨q4, hq4, hm⟩ := Option.bind_eq_some_iff.mp hm
  refine cl_X12_165 (c := 0) (pc := 31) C km_0 (kX12_notes hq4) (by decide) (Nat.le_of_ble_eq_true rfl) dX12_jumps_31 ?_
  refine j_aloadn (pc := 34) C 0 dX12_jumps_34 rfl rfl ?_
  refine j_aloadn (pc := 35) C 0 dX12_jumps_35 rfl rfl ?_
  refine gf_X12_128 (c := 0) (pc := 36) C km_0 dX12_jumps_36 ?_
  refine j_iconst (v := 1) (pc := 39) C dX12_jumps_39 (by decide) ?_
  refine j_iadd (pc := 40) C dX12_jumps_40 ?_
  refine pf_X12_128 (c := 0) (pc := 41) C km_0 dX12_jumps_41 hm (fun σ5 hm => ?_)
  exact j_vret (pc := 44) C rfl dX12_jumps_44 hm

def jn_X12_readsCompared_52 (F : Nat) (s0 : Int32) (σ : jS) : Option (Int32 × jS) := (if s0 = (-1 : Int32) then (Option.bind (mX12_wrongAt F (1 : Int32) ((σ 0 7)) σ) fun q3 => (if jbo q3.1 = true then some (q3.1, q3.2) else none)) else (lt (js σ 0 7 ((σ 0 7) + (1 : Int32))) fun σ5 => (Option.bind (mX12_readsSum F σ5) fun q6 => (if q6.1 = 0 then some ((0 : Int32), q6.2) else (Option.bind (mX12_notes F s0 (0 : Int32) q6.2) fun q7 => (Option.bind (mX12_endsPiece F q7) fun q8 => some ((1 : Int32), q8)))))))
set_option maxHeartbeats 4000000 in
set_option maxRecDepth 100000 in
theorem jn_X12_readsCompared_52_ok {G : jG} (C : jc cfM 33 G cX12_readsCompared RX12 2 (some .boolean) 5) (F : Nat) {v : (Int32 × jS)} : ∀ (s0 : Int32) (σ : jS), jn_X12_readsCompared_52 F s0 σ = some v → JM G 52 [(0, .ref (vad (gV G) 0))] [.int s0] σ v := by
  intro s0 σ hm
  unfold jn_X12_readsCompared_52 at hm
  refine j_istoren (ls' := [(1, .int s0), (0, .ref (vad (gV G) 0))]) (pc := 52) C dX12_readsCompared_52 rfl (by decide) rfl ?_
  refine j_iloadn (pc := 53) C 0 dX12_readsCompared_53 rfl rfl ?_
  refine j_iconst (v := -1) (pc := 54) C dX12_readsCompared_54 (by decide) ?_
  refine j_icmp_ne (tgt := 68) (pc := 55) C dX12_readsCompared_55 (by decide) hm (fun _ hm => ?_) (fun _ hm => ?_)
  · refine j_aloadn (pc := 58) C 1 dX12_readsCompared_58 rfl rfl ?_
    refine j_iconst (v := 1) (pc := 59) C dX12_readsCompared_59 (by decide) ?_
    refine j_aloadn (pc := 60) C 1 dX12_readsCompared_60 rfl rfl ?_
    refine gf_X12_128 (c := 0) (pc := 61) C km_0 dX12_readsCompared_61 ?_
    obtain ⟨q3, hq3, hm⟩ := Option.bind_eq_some_iff.mp hm
    refine cl_X12_141 (c := 0) (pc := 64) C km_0 (kX12_wrongAt hq3) (by decide) (Nat.le_of_ble_eq_true rfl) dX12_readsCompared_64 ?_
    refine j_guard hm (fun hb4 hm => ?_)
    exact j_zretS (pc := 67) C rfl hb4 dX12_readsCompared_67 hm
  · refine j_aloadn (pc := 68) C 1 dX12_readsCompared_68 rfl rfl ?_
    refine j_aloadn (pc := 69) C 1 dX12_readsCompared_69 rfl rfl ?_
    refine gf_X12_128 (c := 0) (pc := 70) C km_0 dX12_readsCompared_70 ?_
    refine j_iconst (v := 1) (pc := 73) C dX12_readsCompared_73 (by decide) ?_
    refine j_iadd (pc := 74) C dX12_readsCompared_74 ?_
    refine pf_X12_128 (c := 0) (pc := 75) C km_0 dX12_readsCompared_75 hm (fun σ5 hm => ?_)
    refine j_aloadn (pc := 78) C 1 dX12_readsCompared_78 rfl rfl ?_
    obtain ⟨q6, hq6, hm⟩ := Option.bind_eq_some_iff.mp hm
    refine cl_X12_192 (c := 0) (pc := 79) C km_0 (kX12_readsSum hq6) (by decide) (Nat.le_of_ble_eq_true rfl) dX12_readsCompared_79 ?_
    refine j_if_ne (tgt := 87) (pc := 82) C dX12_readsCompared_82 (by decide) hm (fun _ hm => ?_) (fun _ hm => ?_)
    · refine j_iconst (v := 0) (pc := 85) C dX12_readsCompared_85 (by decide) ?_
      exact j_zretS (pc := 86) C rfl rfl dX12_readsCompared_86 hm
    · refine j_aloadn (pc := 87) C 1 dX12_readsCompared_87 rfl rfl ?_
      refine j_iloadn (pc := 88) C 0 dX12_readsCompared_88 rfl rfl ?_
      refine j_iconst (v := 0) (pc := 89) C dX12_readsCompared_89 (by decide) ?_
      obtain ⟨q7, hq7, hm⟩ := Option.bind_eq_some_iff.mp hm
      refine cl_X12_165 (c := 0) (pc := 90) C km_0 (kX12_notes hq7) (by decide) (Nat.le_of_ble_eq_true rfl) dX12_readsCompared_90 ?_
      refine j_aloadn (pc := 93) C 1 dX12_readsCompared_93 rfl rfl ?_
      obtain ⟨q8, hq8, hm⟩ := Option.bind_eq_some_iff.mp hm
      refine cl_X12_195 (c := 0) (pc := 94) C km_0 (kX12_endsPiece hq8) (by decide) (Nat.le_of_ble_eq_true rfl) dX12_readsCompared_94 ?_
      refine j_iconst (v := 1) (pc := 97) C dX12_readsCompared_97 (by decide) ?_
      exact j_zretS (pc := 98) C rfl rfl dX12_readsCompared_98 hm

def mX12_readsCompared (F : Nat) (σ : jS) : Option (Int32 × jS) := (Option.bind (mX12_readsSum F σ) fun q1 => (if q1.1 = 0 then some ((0 : Int32), q1.2) else (Option.bind (mX12_here F q1.2) fun q2 => (if q2 = (60 : Int32) then (jn_X12_readsCompared_52 F (7 : Int32) q1.2) else (Option.bind (mX12_here F q1.2) fun q9 => (if q9 = (62 : Int32) then (jn_X12_readsCompared_52 F (8 : Int32) q1.2) else (Option.bind (mX12_here F q1.2) fun q10 => (if q10 = (61 : Int32) then (jn_X12_readsCompared_52 F (9 : Int32) q1.2) else (jn_X12_readsCompared_52 F (-1 : Int32) q1.2)))))))))
set_option maxHeartbeats 4000000 in
set_option maxRecDepth 100000 in
theorem kX12_readsCompared {V : jV} {F : Nat} {σ : jS} {v : (Int32 × jS)} (hm : mX12_readsCompared F σ = some v) : Ct cfM 33 V yX12_readsCompared cX12_readsCompared 2 (some .boolean) 5 [.ref (vad V 0)] σ v := by
  refine j_start (own := RX12) (by decide) rfl (Nat.le_of_ble_eq_true rfl) ?_
  intro G hV C
  subst hV
  unfold mX12_readsCompared at hm
  show JM G 0 [(0, .ref (vad (gV G) 0))] [] σ v
  refine j_aloadn (pc := 0) C 0 dX12_readsCompared_0 rfl rfl ?_
  obtain ⟨q1, hq1, hm⟩ := Option.bind_eq_some_iff.mp hm
  refine cl_X12_192 (c := 0) (pc := 1) C km_0 (kX12_readsSum hq1) (by decide) (Nat.le_of_ble_eq_true rfl) dX12_readsCompared_1 ?_
  refine j_if_ne (tgt := 9) (pc := 4) C dX12_readsCompared_4 (by decide) hm (fun _ hm => ?_) (fun _ hm => ?_)
  · refine j_iconst (v := 0) (pc := 7) C dX12_readsCompared_7 (by decide) ?_
    exact j_zretS (pc := 8) C rfl rfl dX12_readsCompared_8 hm
  · refine j_aloadn (pc := 9) C 0 dX12_readsCompared_9 rfl rfl ?_
    obtain ⟨q2, hq2, hm⟩ := Option.bind_eq_some_iff.mp hm
    refine cl_X12_134 (c := 0) (pc := 10) C km_0 (kX12_here hq2) (by decide) (Nat.le_of_ble_eq_true rfl) dX12_readsCompared_10 ?_
    refine j_bipush (v := 60) (pc := 13) C dX12_readsCompared_13 (by decide) ?_
    refine j_icmp_ne (tgt := 23) (pc := 15) C dX12_readsCompared_15 (by decide) hm (fun _ hm => ?_) (fun _ hm => ?_)
    · refine j_bipush (v := 7) (pc := 18) C dX12_readsCompared_18 (by decide) ?_
      refine j_goto (tgt := 52) (pc := 20) C dX12_readsCompared_20 (by decide) ?_
      exact jn_X12_readsCompared_52_ok C F  _ _ hm
    · refine j_aloadn (pc := 23) C 0 dX12_readsCompared_23 rfl rfl ?_
      obtain ⟨q9, hq9, hm⟩ := Option.bind_eq_some_iff.mp hm
      refine cl_X12_134 (c := 0) (pc := 24) C km_0 (kX12_here hq9) (by decide) (Nat.le_of_ble_eq_true rfl) dX12_readsCompared_24 ?_
      refine j_bipush (v := 62) (pc := 27) C dX12_readsCompared_27 (by decide) ?_
      refine j_icmp_ne (tgt := 37) (pc := 29) C dX12_readsCompared_29 (by decide) hm (fun _ hm => ?_) (fun _ hm => ?_)
      · refine j_bipush (v := 8) (pc := 32) C dX12_readsCompared_32 (by decide) ?_
        refine j_goto (tgt := 52) (pc := 34) C dX12_readsCompared_34 (by decide) ?_
        exact jn_X12_readsCompared_52_ok C F  _ _ hm
      · refine j_aloadn (pc := 37) C 0 dX12_readsCompared_37 rfl rfl ?_
        obtain ⟨q10, hq10, hm⟩ := Option.bind_eq_some_iff.mp hm
        refine cl_X12_134 (c := 0) (pc := 38) C km_0 (kX12_here hq10) (by decide) (Nat.le_of_ble_eq_true rfl) dX12_readsCompared_38 ?_
        refine j_bipush (v := 61) (pc := 41) C dX12_readsCompared_41 (by decide) ?_
        refine j_icmp_ne (tgt := 51) (pc := 43) C dX12_readsCompared_43 (by decide) hm (fun _ hm => ?_) (fun _ hm => ?_)
        · refine j_bipush (v := 9) (pc := 46) C dX12_readsCompared_46 (by decide) ?_
          refine j_goto (tgt := 52) (pc := 48) C dX12_readsCompared_48 (by decide) ?_
          exact jn_X12_readsCompared_52_ok C F  _ _ hm
        · refine j_iconst (v := -1) (pc := 51) C dX12_readsCompared_51 (by decide) ?_
          exact jn_X12_readsCompared_52_ok C F  _ _ hm

def jn_X12_readsCondition_58 (F : Nat) (k40 : jS → Option (Int32 × jS)) (σ : jS) : Option (Int32 × jS) := (Option.bind (mX12_here F σ) fun q6 => (if q6 = (33 : Int32) then (Option.bind (mX12_opens F (10 : Int32) σ) fun q7 => (if q7.1 = 0 then some ((0 : Int32), q7.2) else (k40 q7.2))) else (Option.bind (mX12_opens F (13 : Int32) σ) fun q8 => (if q8.1 = 0 then some ((0 : Int32), q8.2) else (k40 q8.2)))))
set_option maxHeartbeats 4000000 in
set_option maxRecDepth 100000 in
theorem jn_X12_readsCondition_58_ok {G : jG} (C : jc cfM 33 G cX12_readsCondition RX12 1 (some .boolean) 6) (F : Nat) {v : (Int32 × jS)} (k40 : jS → Option (Int32 × jS)) (hk40 : ∀ (σ : jS), k40 σ = some v → JM G 40 [(0, .ref (vad (gV G) 0))] [] σ v) : ∀ (σ : jS), jn_X12_readsCondition_58 F k40 σ = some v → JM G 58 [(0, .ref (vad (gV G) 0))] [] σ v := by
  intro σ hm
  unfold jn_X12_readsCondition_58 at hm
  refine j_aloadn (pc := 58) C 0 dX12_readsCondition_58 rfl rfl ?_
  refine j_aloadn (pc := 59) C 0 dX12_readsCondition_59 rfl rfl ?_
  obtain ⟨q6, hq6, hm⟩ := Option.bind_eq_some_iff.mp hm
  refine cl_X12_134 (c := 0) (pc := 60) C km_0 (kX12_here hq6) (by decide) (Nat.le_of_ble_eq_true rfl) dX12_readsCondition_60 ?_
  refine j_bipush (v := 33) (pc := 63) C dX12_readsCondition_63 (by decide) ?_
  refine j_icmp_ne (tgt := 73) (pc := 65) C dX12_readsCondition_65 (by decide) hm (fun _ hm => ?_) (fun _ hm => ?_)
  · refine j_bipush (v := 10) (pc := 68) C dX12_readsCondition_68 (by decide) ?_
    refine j_goto (tgt := 75) (pc := 70) C dX12_readsCondition_70 (by decide) ?_
    obtain ⟨q7, hq7, hm⟩ := Option.bind_eq_some_iff.mp hm
    refine cl_X12_169 (c := 0) (pc := 75) C km_0 (kX12_opens hq7) (by decide) (Nat.le_of_ble_eq_true rfl) dX12_readsCondition_75 ?_
    refine j_if_ne (tgt := 40) (pc := 78) C dX12_readsCondition_78 (by decide) hm (fun _ hm => ?_) (fun _ hm => ?_)
    · refine j_iconst (v := 0) (pc := 81) C dX12_readsCondition_81 (by decide) ?_
      exact j_zretS (pc := 82) C rfl rfl dX12_readsCondition_82 hm
    · exact hk40 _ hm
  · refine j_bipush (v := 13) (pc := 73) C dX12_readsCondition_73 (by decide) ?_
    obtain ⟨q8, hq8, hm⟩ := Option.bind_eq_some_iff.mp hm
    refine cl_X12_169 (c := 0) (pc := 75) C km_0 (kX12_opens hq8) (by decide) (Nat.le_of_ble_eq_true rfl) dX12_readsCondition_75 ?_
    refine j_if_ne (tgt := 40) (pc := 78) C dX12_readsCondition_78 (by decide) hm (fun _ hm => ?_) (fun _ hm => ?_)
    · refine j_iconst (v := 0) (pc := 81) C dX12_readsCondition_81 (by decide) ?_
      exact j_zretS (pc := 82) C rfl rfl dX12_readsCondition_82 hm
    · exact hk40 _ hm

def lp_X12_readsCondition_92 (F : Nat) (k152 : jS → Option (Int32 × jS)) : Nat → jS → Option (Int32 × jS)
  | 0, _ => none
  | n + 1, σ => (Option.bind (mX12_here F σ) fun q11 => (if q11 = (41 : Int32) then (Option.bind (mX12_lands F (1 : Int32) σ) fun q12 => (lt (js q12 0 13 ((q12 0 13) - (1 : Int32))) fun σ13 => (lt (js σ13 0 11 ((σ13 0 11) - (1 : Int32))) fun σ14 => (lt (js σ14 0 7 ((σ14 0 7) + (1 : Int32))) fun σ15 => (if (σ15 0 13) = 0 then some ((1 : Int32), σ15) else (Option.bind (mX12_endsPiece F σ15) fun q16 => (lp_X12_readsCondition_92 F k152 n q16))))))) else (k152 σ)))
set_option maxHeartbeats 4000000 in
set_option maxRecDepth 100000 in
theorem lp_X12_readsCondition_92_ok {G : jG} (C : jc cfM 33 G cX12_readsCondition RX12 1 (some .boolean) 6) (F : Nat) {v : (Int32 × jS)} (k152 : jS → Option (Int32 × jS)) (hk152 : ∀ (σ : jS), k152 σ = some v → JM G 152 [(0, .ref (vad (gV G) 0))] [] σ v) : ∀ (n : Nat) (σ : jS), lp_X12_readsCondition_92 F k152 n σ = some v → JM G 92 [(0, .ref (vad (gV G) 0))] [] σ v := by
  intro n
  induction n with
  | zero =>
    intro σ hm
    rw [lp_X12_readsCondition_92] at hm
    cases hm
  | succ n ih =>
    intro σ hm
    rw [lp_X12_readsCondition_92] at hm
    refine j_aloadn (pc := 92) C 0 dX12_readsCondition_92 rfl rfl ?_
    obtain ⟨q11, hq11, hm⟩ := Option.bind_eq_some_iff.mp hm
    refine cl_X12_134 (c := 0) (pc := 93) C km_0 (kX12_here hq11) (by decide) (Nat.le_of_ble_eq_true rfl) dX12_readsCondition_93 ?_
    refine j_bipush (v := 41) (pc := 96) C dX12_readsCondition_96 (by decide) ?_
    refine j_icmp_ne (tgt := 152) (pc := 98) C dX12_readsCondition_98 (by decide) hm (fun _ hm => ?_) (fun _ hm => ?_)
    · refine j_aloadn (pc := 101) C 0 dX12_readsCondition_101 rfl rfl ?_
      refine j_iconst (v := 1) (pc := 102) C dX12_readsCondition_102 (by decide) ?_
      obtain ⟨q12, hq12, hm⟩ := Option.bind_eq_some_iff.mp hm
      refine cl_X12_201 (c := 0) (pc := 103) C km_0 (kX12_lands hq12) (by decide) (Nat.le_of_ble_eq_true rfl) dX12_readsCondition_103 ?_
      refine j_aloadn (pc := 106) C 0 dX12_readsCondition_106 rfl rfl ?_
      refine j_aloadn (pc := 107) C 0 dX12_readsCondition_107 rfl rfl ?_
      refine gf_X12_159 (c := 0) (pc := 108) C km_0 dX12_readsCondition_108 ?_
      refine j_iconst (v := 1) (pc := 111) C dX12_readsCondition_111 (by decide) ?_
      refine j_isub (pc := 112) C dX12_readsCondition_112 ?_
      refine pf_X12_159 (c := 0) (pc := 113) C km_0 dX12_readsCondition_113 hm (fun σ13 hm => ?_)
      refine j_aloadn (pc := 116) C 0 dX12_readsCondition_116 rfl rfl ?_
      refine j_aloadn (pc := 117) C 0 dX12_readsCondition_117 rfl rfl ?_
      refine gf_X12_156 (c := 0) (pc := 118) C km_0 dX12_readsCondition_118 ?_
      refine j_iconst (v := 1) (pc := 121) C dX12_readsCondition_121 (by decide) ?_
      refine j_isub (pc := 122) C dX12_readsCondition_122 ?_
      refine pf_X12_156 (c := 0) (pc := 123) C km_0 dX12_readsCondition_123 hm (fun σ14 hm => ?_)
      refine j_aloadn (pc := 126) C 0 dX12_readsCondition_126 rfl rfl ?_
      refine j_aloadn (pc := 127) C 0 dX12_readsCondition_127 rfl rfl ?_
      refine gf_X12_128 (c := 0) (pc := 128) C km_0 dX12_readsCondition_128 ?_
      refine j_iconst (v := 1) (pc := 131) C dX12_readsCondition_131 (by decide) ?_
      refine j_iadd (pc := 132) C dX12_readsCondition_132 ?_
      refine pf_X12_128 (c := 0) (pc := 133) C km_0 dX12_readsCondition_133 hm (fun σ15 hm => ?_)
      refine j_aloadn (pc := 136) C 0 dX12_readsCondition_136 rfl rfl ?_
      refine gf_X12_159 (c := 0) (pc := 137) C km_0 dX12_readsCondition_137 ?_
      refine j_if_ne (tgt := 145) (pc := 140) C dX12_readsCondition_140 (by decide) hm (fun _ hm => ?_) (fun _ hm => ?_)
      · refine j_iconst (v := 1) (pc := 143) C dX12_readsCondition_143 (by decide) ?_
        exact j_zretS (pc := 144) C rfl rfl dX12_readsCondition_144 hm
      · refine j_aloadn (pc := 145) C 0 dX12_readsCondition_145 rfl rfl ?_
        obtain ⟨q16, hq16, hm⟩ := Option.bind_eq_some_iff.mp hm
        refine cl_X12_195 (c := 0) (pc := 146) C km_0 (kX12_endsPiece hq16) (by decide) (Nat.le_of_ble_eq_true rfl) dX12_readsCondition_146 ?_
        refine j_goto (tgt := 92) (pc := 149) C dX12_readsCondition_149 (by decide) ?_
        exact ih _ hm
    · exact hk152 _ hm

def jn_X12_readsCondition_195 (F : Nat) (k40 : jS → Option (Int32 × jS)) (s1 : Int32) (σ : jS) : Option (Int32 × jS) := (Option.bind (mX12_lands F s1 σ) fun q20 => (Option.bind (mX12_here F q20) fun q21 => (if q21 = (38 : Int32) then (Option.bind (mX12_jumps F (11 : Int32) q20) fun q22 => (k40 q22)) else (Option.bind (mX12_jumps F (12 : Int32) q20) fun q23 => (k40 q23)))))
set_option maxHeartbeats 4000000 in
set_option maxRecDepth 100000 in
theorem jn_X12_readsCondition_195_ok {G : jG} (C : jc cfM 33 G cX12_readsCondition RX12 1 (some .boolean) 6) (F : Nat) {v : (Int32 × jS)} (k40 : jS → Option (Int32 × jS)) (hk40 : ∀ (σ : jS), k40 σ = some v → JM G 40 [(0, .ref (vad (gV G) 0))] [] σ v) : ∀ (s1 : Int32) (σ : jS), jn_X12_readsCondition_195 F k40 s1 σ = some v → JM G 195 [(0, .ref (vad (gV G) 0))] [.int s1, .ref (vad (gV G) 0)] σ v := by
  intro s1 σ hm
  unfold jn_X12_readsCondition_195 at hm
  obtain ⟨q20, hq20, hm⟩ := Option.bind_eq_some_iff.mp hm
  refine cl_X12_201 (c := 0) (pc := 195) C km_0 (kX12_lands hq20) (by decide) (Nat.le_of_ble_eq_true rfl) dX12_readsCondition_195 ?_
  refine j_aloadn (pc := 198) C 0 dX12_readsCondition_198 rfl rfl ?_
  refine j_aloadn (pc := 199) C 0 dX12_readsCondition_199 rfl rfl ?_
  obtain ⟨q21, hq21, hm⟩ := Option.bind_eq_some_iff.mp hm
  refine cl_X12_134 (c := 0) (pc := 200) C km_0 (kX12_here hq21) (by decide) (Nat.le_of_ble_eq_true rfl) dX12_readsCondition_200 ?_
  refine j_bipush (v := 38) (pc := 203) C dX12_readsCondition_203 (by decide) ?_
  refine j_icmp_ne (tgt := 213) (pc := 205) C dX12_readsCondition_205 (by decide) hm (fun _ hm => ?_) (fun _ hm => ?_)
  · refine j_bipush (v := 11) (pc := 208) C dX12_readsCondition_208 (by decide) ?_
    refine j_goto (tgt := 215) (pc := 210) C dX12_readsCondition_210 (by decide) ?_
    obtain ⟨q22, hq22, hm⟩ := Option.bind_eq_some_iff.mp hm
    refine cl_X12_204 (c := 0) (pc := 215) C km_0 (kX12_jumps hq22) (by decide) (Nat.le_of_ble_eq_true rfl) dX12_readsCondition_215 ?_
    refine j_goto (tgt := 40) (pc := 218) C dX12_readsCondition_218 (by decide) ?_
    exact hk40 _ hm
  · refine j_bipush (v := 12) (pc := 213) C dX12_readsCondition_213 (by decide) ?_
    obtain ⟨q23, hq23, hm⟩ := Option.bind_eq_some_iff.mp hm
    refine cl_X12_204 (c := 0) (pc := 215) C km_0 (kX12_jumps hq23) (by decide) (Nat.le_of_ble_eq_true rfl) dX12_readsCondition_215 ?_
    refine j_goto (tgt := 40) (pc := 218) C dX12_readsCondition_218 (by decide) ?_
    exact hk40 _ hm

def jn_X12_readsCondition_180 (F : Nat) (k40 : jS → Option (Int32 × jS)) (σ : jS) : Option (Int32 × jS) := (Option.bind (mX12_here F σ) fun q19 => (if q19 = (124 : Int32) then (jn_X12_readsCondition_195 F (k40) (1 : Int32) σ) else (jn_X12_readsCondition_195 F (k40) (0 : Int32) σ)))
set_option maxHeartbeats 4000000 in
set_option maxRecDepth 100000 in
theorem jn_X12_readsCondition_180_ok {G : jG} (C : jc cfM 33 G cX12_readsCondition RX12 1 (some .boolean) 6) (F : Nat) {v : (Int32 × jS)} (k40 : jS → Option (Int32 × jS)) (hk40 : ∀ (σ : jS), k40 σ = some v → JM G 40 [(0, .ref (vad (gV G) 0))] [] σ v) : ∀ (σ : jS), jn_X12_readsCondition_180 F k40 σ = some v → JM G 180 [(0, .ref (vad (gV G) 0))] [] σ v := by
  intro σ hm
  unfold jn_X12_readsCondition_180 at hm
  refine j_aloadn (pc := 180) C 0 dX12_readsCondition_180 rfl rfl ?_
  refine j_aloadn (pc := 181) C 0 dX12_readsCondition_181 rfl rfl ?_
  obtain ⟨q19, hq19, hm⟩ := Option.bind_eq_some_iff.mp hm
  refine cl_X12_134 (c := 0) (pc := 182) C km_0 (kX12_here hq19) (by decide) (Nat.le_of_ble_eq_true rfl) dX12_readsCondition_182 ?_
  refine j_bipush (v := 124) (pc := 185) C dX12_readsCondition_185 (by decide) ?_
  refine j_icmp_ne (tgt := 194) (pc := 187) C dX12_readsCondition_187 (by decide) hm (fun _ hm => ?_) (fun _ hm => ?_)
  · refine j_iconst (v := 1) (pc := 190) C dX12_readsCondition_190 (by decide) ?_
    refine j_goto (tgt := 195) (pc := 191) C dX12_readsCondition_191 (by decide) ?_
    exact jn_X12_readsCondition_195_ok C F _ (fun _ hm => hk40 _ hm) _ _ hm
  · refine j_iconst (v := 0) (pc := 194) C dX12_readsCondition_194 (by decide) ?_
    exact jn_X12_readsCondition_195_ok C F _ (fun _ hm => hk40 _ hm) _ _ hm

def lp_X12_readsCondition_40 (F : Nat) : Nat → jS → Option (Int32 × jS)
  | 0, _ => none
  | n + 1, σ => (Option.bind (mX12_here F σ) fun q5 => (if q5 = (33 : Int32) then (jn_X12_readsCondition_58 F (lp_X12_readsCondition_40 F n) σ) else (Option.bind (mX12_here F σ) fun q9 => (if q9 = (40 : Int32) then (jn_X12_readsCondition_58 F (lp_X12_readsCondition_40 F n) σ) else (Option.bind (mX12_readsCompared F σ) fun q10 => (if q10.1 = 0 then some ((0 : Int32), q10.2) else (lp_X12_readsCondition_92 F (fun σ17 => (Option.bind (mX12_here F σ17) fun q18 => (if q18 = (38 : Int32) then (jn_X12_readsCondition_180 F (lp_X12_readsCondition_40 F n) σ17) else (Option.bind (mX12_here F σ17) fun q24 => (if q24 = (124 : Int32) then (jn_X12_readsCondition_180 F (lp_X12_readsCondition_40 F n) σ17) else (Option.bind (mX12_wrongAt F (1 : Int32) ((σ17 0 7)) σ17) fun q25 => (if jbo q25.1 = true then some (q25.1, q25.2) else none))))))) F q10.2)))))))
set_option maxHeartbeats 4000000 in
set_option maxRecDepth 100000 in
theorem lp_X12_readsCondition_40_ok {G : jG} (C : jc cfM 33 G cX12_readsCondition RX12 1 (some .boolean) 6) (F : Nat) {v : (Int32 × jS)} : ∀ (n : Nat) (σ : jS), lp_X12_readsCondition_40 F n σ = some v → JM G 40 [(0, .ref (vad (gV G) 0))] [] σ v := by
  intro n
  induction n with
  | zero =>
    intro σ hm
    rw [lp_X12_readsCondition_40] at hm
    cases hm
  | succ n ih =>
    intro σ hm
    rw [lp_X12_readsCondition_40] at hm
    refine j_aloadn (pc := 40) C 0 dX12_readsCondition_40 rfl rfl ?_
    obtain ⟨q5, hq5, hm⟩ := Option.bind_eq_some_iff.mp hm
    refine cl_X12_134 (c := 0) (pc := 41) C km_0 (kX12_here hq5) (by decide) (Nat.le_of_ble_eq_true rfl) dX12_readsCondition_41 ?_
    refine j_bipush (v := 33) (pc := 44) C dX12_readsCondition_44 (by decide) ?_
    refine j_icmp_eq (tgt := 58) (pc := 46) C dX12_readsCondition_46 (by decide) hm (fun _ hm => ?_) (fun _ hm => ?_)
    · exact jn_X12_readsCondition_58_ok C F _ (fun _ hm => ih _ hm) _ hm
    · refine j_aloadn (pc := 49) C 0 dX12_readsCondition_49 rfl rfl ?_
      obtain ⟨q9, hq9, hm⟩ := Option.bind_eq_some_iff.mp hm
      refine cl_X12_134 (c := 0) (pc := 50) C km_0 (kX12_here hq9) (by decide) (Nat.le_of_ble_eq_true rfl) dX12_readsCondition_50 ?_
      refine j_bipush (v := 40) (pc := 53) C dX12_readsCondition_53 (by decide) ?_
      refine j_icmp_ne (tgt := 83) (pc := 55) C dX12_readsCondition_55 (by decide) hm (fun _ hm => ?_) (fun _ hm => ?_)
      · exact jn_X12_readsCondition_58_ok C F _ (fun _ hm => ih _ hm) _ hm
      · refine j_aloadn (pc := 83) C 0 dX12_readsCondition_83 rfl rfl ?_
        obtain ⟨q10, hq10, hm⟩ := Option.bind_eq_some_iff.mp hm
        refine cl_X12_198 (c := 0) (pc := 84) C km_0 (kX12_readsCompared hq10) (by decide) (Nat.le_of_ble_eq_true rfl) dX12_readsCondition_84 ?_
        refine j_if_ne (tgt := 92) (pc := 87) C dX12_readsCondition_87 (by decide) hm (fun _ hm => ?_) (fun _ hm => ?_)
        · refine j_iconst (v := 0) (pc := 90) C dX12_readsCondition_90 (by decide) ?_
          exact j_zretS (pc := 91) C rfl rfl dX12_readsCondition_91 hm
        · refine lp_X12_readsCondition_92_ok C F _ (fun σ17 hm => ?_) F _ hm
          refine j_aloadn (pc := 152) C 0 dX12_readsCondition_152 rfl rfl ?_
          obtain ⟨q18, hq18, hm⟩ := Option.bind_eq_some_iff.mp hm
          refine cl_X12_134 (c := 0) (pc := 153) C km_0 (kX12_here hq18) (by decide) (Nat.le_of_ble_eq_true rfl) dX12_readsCondition_153 ?_
          refine j_bipush (v := 38) (pc := 156) C dX12_readsCondition_156 (by decide) ?_
          refine j_icmp_eq (tgt := 180) (pc := 158) C dX12_readsCondition_158 (by decide) hm (fun _ hm => ?_) (fun _ hm => ?_)
          · exact jn_X12_readsCondition_180_ok C F _ (fun _ hm => ih _ hm) _ hm
          · refine j_aloadn (pc := 161) C 0 dX12_readsCondition_161 rfl rfl ?_
            obtain ⟨q24, hq24, hm⟩ := Option.bind_eq_some_iff.mp hm
            refine cl_X12_134 (c := 0) (pc := 162) C km_0 (kX12_here hq24) (by decide) (Nat.le_of_ble_eq_true rfl) dX12_readsCondition_162 ?_
            refine j_bipush (v := 124) (pc := 165) C dX12_readsCondition_165 (by decide) ?_
            refine j_icmp_eq (tgt := 180) (pc := 167) C dX12_readsCondition_167 (by decide) hm (fun _ hm => ?_) (fun _ hm => ?_)
            · exact jn_X12_readsCondition_180_ok C F _ (fun _ hm => ih _ hm) _ hm
            · refine j_aloadn (pc := 170) C 0 dX12_readsCondition_170 rfl rfl ?_
              refine j_iconst (v := 1) (pc := 171) C dX12_readsCondition_171 (by decide) ?_
              refine j_aloadn (pc := 172) C 0 dX12_readsCondition_172 rfl rfl ?_
              refine gf_X12_128 (c := 0) (pc := 173) C km_0 dX12_readsCondition_173 ?_
              obtain ⟨q25, hq25, hm⟩ := Option.bind_eq_some_iff.mp hm
              refine cl_X12_141 (c := 0) (pc := 176) C km_0 (kX12_wrongAt hq25) (by decide) (Nat.le_of_ble_eq_true rfl) dX12_readsCondition_176 ?_
              refine j_guard hm (fun hb26 hm => ?_)
              exact j_zretS (pc := 179) C rfl hb26 dX12_readsCondition_179 hm

def mX12_readsCondition (F : Nat) (σ : jS) : Option (Int32 × jS) := (Option.bind (mX12_here F σ) fun q1 => (if q1 = (40 : Int32) then (lt (js σ 0 11 (0 : Int32)) fun σ2 => (lt (js σ2 0 13 (0 : Int32)) fun σ3 => (Option.bind (mX12_opens F (13 : Int32) σ3) fun q4 => (if q4.1 = 0 then some ((0 : Int32), q4.2) else (lp_X12_readsCondition_40 F F q4.2))))) else (Option.bind (mX12_wrongAt F (1 : Int32) ((σ 0 7)) σ) fun q27 => (if jbo q27.1 = true then some (q27.1, q27.2) else none))))
set_option maxHeartbeats 4000000 in
set_option maxRecDepth 100000 in
theorem kX12_readsCondition {V : jV} {F : Nat} {σ : jS} {v : (Int32 × jS)} (hm : mX12_readsCondition F σ = some v) : Ct cfM 33 V yX12_readsCondition cX12_readsCondition 1 (some .boolean) 6 [.ref (vad V 0)] σ v := by
  refine j_start (own := RX12) (by decide) rfl (Nat.le_of_ble_eq_true rfl) ?_
  intro G hV C
  subst hV
  unfold mX12_readsCondition at hm
  show JM G 0 [(0, .ref (vad (gV G) 0))] [] σ v
  refine j_aloadn (pc := 0) C 0 dX12_readsCondition_0 rfl rfl ?_
  obtain ⟨q1, hq1, hm⟩ := Option.bind_eq_some_iff.mp hm
  refine cl_X12_134 (c := 0) (pc := 1) C km_0 (kX12_here hq1) (by decide) (Nat.le_of_ble_eq_true rfl) dX12_readsCondition_1 ?_
  refine j_bipush (v := 40) (pc := 4) C dX12_readsCondition_4 (by decide) ?_
  refine j_icmp_eq (tgt := 19) (pc := 6) C dX12_readsCondition_6 (by decide) hm (fun _ hm => ?_) (fun _ hm => ?_)
  · refine j_aloadn (pc := 19) C 0 dX12_readsCondition_19 rfl rfl ?_
    refine j_iconst (v := 0) (pc := 20) C dX12_readsCondition_20 (by decide) ?_
    refine pf_X12_156 (c := 0) (pc := 21) C km_0 dX12_readsCondition_21 hm (fun σ2 hm => ?_)
    refine j_aloadn (pc := 24) C 0 dX12_readsCondition_24 rfl rfl ?_
    refine j_iconst (v := 0) (pc := 25) C dX12_readsCondition_25 (by decide) ?_
    refine pf_X12_159 (c := 0) (pc := 26) C km_0 dX12_readsCondition_26 hm (fun σ3 hm => ?_)
    refine j_aloadn (pc := 29) C 0 dX12_readsCondition_29 rfl rfl ?_
    refine j_bipush (v := 13) (pc := 30) C dX12_readsCondition_30 (by decide) ?_
    obtain ⟨q4, hq4, hm⟩ := Option.bind_eq_some_iff.mp hm
    refine cl_X12_169 (c := 0) (pc := 32) C km_0 (kX12_opens hq4) (by decide) (Nat.le_of_ble_eq_true rfl) dX12_readsCondition_32 ?_
    refine j_if_ne (tgt := 40) (pc := 35) C dX12_readsCondition_35 (by decide) hm (fun _ hm => ?_) (fun _ hm => ?_)
    · refine j_iconst (v := 0) (pc := 38) C dX12_readsCondition_38 (by decide) ?_
      exact j_zretS (pc := 39) C rfl rfl dX12_readsCondition_39 hm
    · exact lp_X12_readsCondition_40_ok C F  F _ hm
  · refine j_aloadn (pc := 9) C 0 dX12_readsCondition_9 rfl rfl ?_
    refine j_iconst (v := 1) (pc := 10) C dX12_readsCondition_10 (by decide) ?_
    refine j_aloadn (pc := 11) C 0 dX12_readsCondition_11 rfl rfl ?_
    refine gf_X12_128 (c := 0) (pc := 12) C km_0 dX12_readsCondition_12 ?_
    obtain ⟨q27, hq27, hm⟩ := Option.bind_eq_some_iff.mp hm
    refine cl_X12_141 (c := 0) (pc := 15) C km_0 (kX12_wrongAt hq27) (by decide) (Nat.le_of_ble_eq_true rfl) dX12_readsCondition_15 ?_
    refine j_guard hm (fun hb28 hm => ?_)
    exact j_zretS (pc := 18) C rfl hb28 dX12_readsCondition_18 hm

def jn_X12_readsRule_110 (F : Nat) (σ : jS) : Option (Int32 × jS) := (if jin (σ 0 14) 16 = true then (lt (js σ 11 (σ 0 14).toNatClampNeg (σ 0 12)) fun σ11 => (Option.bind (mX12_readsCondition F σ11) fun q13 => (if q13.1 = 0 then some ((0 : Int32), q13.2) else (if jin (q13.2 0 14) 16 = true then (lt (js q13.2 12 (q13.2 0 14).toNatClampNeg (q13.2 0 12)) fun σ14 => (lt (js σ14 0 14 ((σ14 0 14) + (1 : Int32))) fun σ16 => some ((1 : Int32), σ16))) else none)))) else none)
set_option maxHeartbeats 4000000 in
set_option maxRecDepth 100000 in
theorem jn_X12_readsRule_110_ok {G : jG} (C : jc cfM 33 G cX12_readsRule RX12 2 (some .boolean) 7) (F : Nat) {v : (Int32 × jS)} : ∀ (σ : jS), jn_X12_readsRule_110 F σ = some v → JM G 110 [(0, .ref (vad (gV G) 0))] [] σ v := by
  intro σ hm
  unfold jn_X12_readsRule_110 at hm
  refine j_aloadn (pc := 110) C 0 dX12_readsRule_110 rfl rfl ?_
  refine gf_X12_41 (c := 0) (pc := 111) C km_0 dX12_readsRule_111 ?_
  refine j_aloadn (pc := 114) C 0 dX12_readsRule_114 rfl rfl ?_
  refine gf_X12_207 (c := 0) (pc := 115) C km_0 dX12_readsRule_115 ?_
  refine j_aloadn (pc := 118) C 0 dX12_readsRule_118 rfl rfl ?_
  refine gf_X12_152 (c := 0) (pc := 119) C km_0 dX12_readsRule_119 ?_
  refine j_guard hm (fun hg12 hm => ?_)
  refine j_iastL (c := 11) (n := 16) (pc := 122) C (kM_lt km_11 (by decide)) (cm_a km_11 lm_11) hg12 dX12_readsRule_122 hm (fun σ11 hm => ?_)
  refine j_aloadn (pc := 123) C 0 dX12_readsRule_123 rfl rfl ?_
  obtain ⟨q13, hq13, hm⟩ := Option.bind_eq_some_iff.mp hm
  refine cl_X12_210 (c := 0) (pc := 124) C km_0 (kX12_readsCondition hq13) (by decide) (Nat.le_of_ble_eq_true rfl) dX12_readsRule_124 ?_
  refine j_if_ne (tgt := 132) (pc := 127) C dX12_readsRule_127 (by decide) hm (fun _ hm => ?_) (fun _ hm => ?_)
  · refine j_iconst (v := 0) (pc := 130) C dX12_readsRule_130 (by decide) ?_
    exact j_zretS (pc := 131) C rfl rfl dX12_readsRule_131 hm
  · refine j_aloadn (pc := 132) C 0 dX12_readsRule_132 rfl rfl ?_
    refine gf_X12_44 (c := 0) (pc := 133) C km_0 dX12_readsRule_133 ?_
    refine j_aloadn (pc := 136) C 0 dX12_readsRule_136 rfl rfl ?_
    refine gf_X12_207 (c := 0) (pc := 137) C km_0 dX12_readsRule_137 ?_
    refine j_aloadn (pc := 140) C 0 dX12_readsRule_140 rfl rfl ?_
    refine gf_X12_152 (c := 0) (pc := 141) C km_0 dX12_readsRule_141 ?_
    refine j_guard hm (fun hg15 hm => ?_)
    refine j_iastL (c := 12) (n := 16) (pc := 144) C (kM_lt km_12 (by decide)) (cm_a km_12 lm_12) hg15 dX12_readsRule_144 hm (fun σ14 hm => ?_)
    refine j_aloadn (pc := 145) C 0 dX12_readsRule_145 rfl rfl ?_
    refine j_aloadn (pc := 146) C 0 dX12_readsRule_146 rfl rfl ?_
    refine gf_X12_207 (c := 0) (pc := 147) C km_0 dX12_readsRule_147 ?_
    refine j_iconst (v := 1) (pc := 150) C dX12_readsRule_150 (by decide) ?_
    refine j_iadd (pc := 151) C dX12_readsRule_151 ?_
    refine pf_X12_207 (c := 0) (pc := 152) C km_0 dX12_readsRule_152 hm (fun σ16 hm => ?_)
    refine j_iconst (v := 1) (pc := 155) C dX12_readsRule_155 (by decide) ?_
    exact j_zretS (pc := 156) C rfl rfl dX12_readsRule_156 hm

def jn_X12_readsRule_33 (F : Nat) (x1 : Int32) (σ : jS) : Option (Int32 × jS) := (if (σ 0 14) = (16 : Int32) then (Option.bind (mX12_wrongAt F (4 : Int32) ((σ 0 7)) σ) fun q2 => (if jbo q2.1 = true then some (q2.1, q2.2) else none)) else (if jin (σ 0 14) 16 = true then (lt (js σ 9 (σ 0 14).toNatClampNeg x1) fun σ4 => (lt (js σ4 0 7 ((σ4 0 7) + (1 : Int32))) fun σ6 => (if jin (σ6 0 14) 16 = true then (lt (js σ6 10 (σ6 0 14).toNatClampNeg (σ6 0 12)) fun σ7 => (lt (js σ7 0 11 (0 : Int32)) fun σ9 => (lt (js σ9 0 13 (0 : Int32)) fun σ10 => (if x1 = (120 : Int32) then (jn_X12_readsRule_110 F σ10) else (Option.bind (mX12_readsSum F σ10) fun q17 => (if q17.1 = 0 then some ((0 : Int32), q17.2) else (jn_X12_readsRule_110 F q17.2))))))) else none))) else none))
set_option maxHeartbeats 4000000 in
set_option maxRecDepth 100000 in
theorem jn_X12_readsRule_33_ok {G : jG} (C : jc cfM 33 G cX12_readsRule RX12 2 (some .boolean) 7) (F : Nat) {v : (Int32 × jS)} : ∀ (x1 : Int32) (σ : jS), jn_X12_readsRule_33 F x1 σ = some v → JM G 33 [(0, .ref (vad (gV G) 0)), (1, .int x1)] [] σ v := by
  intro x1 σ hm
  unfold jn_X12_readsRule_33 at hm
  refine j_aloadn (pc := 33) C 0 dX12_readsRule_33 rfl rfl ?_
  refine gf_X12_207 (c := 0) (pc := 34) C km_0 dX12_readsRule_34 ?_
  refine j_bipush (v := 16) (pc := 37) C dX12_readsRule_37 (by decide) ?_
  refine j_icmp_ne (tgt := 52) (pc := 39) C dX12_readsRule_39 (by decide) hm (fun _ hm => ?_) (fun _ hm => ?_)
  · refine j_aloadn (pc := 42) C 0 dX12_readsRule_42 rfl rfl ?_
    refine j_iconst (v := 4) (pc := 43) C dX12_readsRule_43 (by decide) ?_
    refine j_aloadn (pc := 44) C 0 dX12_readsRule_44 rfl rfl ?_
    refine gf_X12_128 (c := 0) (pc := 45) C km_0 dX12_readsRule_45 ?_
    obtain ⟨q2, hq2, hm⟩ := Option.bind_eq_some_iff.mp hm
    refine cl_X12_141 (c := 0) (pc := 48) C km_0 (kX12_wrongAt hq2) (by decide) (Nat.le_of_ble_eq_true rfl) dX12_readsRule_48 ?_
    refine j_guard hm (fun hb3 hm => ?_)
    exact j_zretS (pc := 51) C rfl hb3 dX12_readsRule_51 hm
  · refine j_aloadn (pc := 52) C 0 dX12_readsRule_52 rfl rfl ?_
    refine gf_X12_35 (c := 0) (pc := 53) C km_0 dX12_readsRule_53 ?_
    refine j_aloadn (pc := 56) C 0 dX12_readsRule_56 rfl rfl ?_
    refine gf_X12_207 (c := 0) (pc := 57) C km_0 dX12_readsRule_57 ?_
    refine j_iloadn (pc := 60) C 1 dX12_readsRule_60 rfl rfl ?_
    refine j_guard hm (fun hg5 hm => ?_)
    refine j_iastL (c := 9) (n := 16) (pc := 61) C (kM_lt km_9 (by decide)) (cm_a km_9 lm_9) hg5 dX12_readsRule_61 hm (fun σ4 hm => ?_)
    refine j_aloadn (pc := 62) C 0 dX12_readsRule_62 rfl rfl ?_
    refine j_aloadn (pc := 63) C 0 dX12_readsRule_63 rfl rfl ?_
    refine gf_X12_128 (c := 0) (pc := 64) C km_0 dX12_readsRule_64 ?_
    refine j_iconst (v := 1) (pc := 67) C dX12_readsRule_67 (by decide) ?_
    refine j_iadd (pc := 68) C dX12_readsRule_68 ?_
    refine pf_X12_128 (c := 0) (pc := 69) C km_0 dX12_readsRule_69 hm (fun σ6 hm => ?_)
    refine j_aloadn (pc := 72) C 0 dX12_readsRule_72 rfl rfl ?_
    refine gf_X12_38 (c := 0) (pc := 73) C km_0 dX12_readsRule_73 ?_
    refine j_aloadn (pc := 76) C 0 dX12_readsRule_76 rfl rfl ?_
    refine gf_X12_207 (c := 0) (pc := 77) C km_0 dX12_readsRule_77 ?_
    refine j_aloadn (pc := 80) C 0 dX12_readsRule_80 rfl rfl ?_
    refine gf_X12_152 (c := 0) (pc := 81) C km_0 dX12_readsRule_81 ?_
    refine j_guard hm (fun hg8 hm => ?_)
    refine j_iastL (c := 10) (n := 16) (pc := 84) C (kM_lt km_10 (by decide)) (cm_a km_10 lm_10) hg8 dX12_readsRule_84 hm (fun σ7 hm => ?_)
    refine j_aloadn (pc := 85) C 0 dX12_readsRule_85 rfl rfl ?_
    refine j_iconst (v := 0) (pc := 86) C dX12_readsRule_86 (by decide) ?_
    refine pf_X12_156 (c := 0) (pc := 87) C km_0 dX12_readsRule_87 hm (fun σ9 hm => ?_)
    refine j_aloadn (pc := 90) C 0 dX12_readsRule_90 rfl rfl ?_
    refine j_iconst (v := 0) (pc := 91) C dX12_readsRule_91 (by decide) ?_
    refine pf_X12_159 (c := 0) (pc := 92) C km_0 dX12_readsRule_92 hm (fun σ10 hm => ?_)
    refine j_iloadn (pc := 95) C 1 dX12_readsRule_95 rfl rfl ?_
    refine j_bipush (v := 120) (pc := 96) C dX12_readsRule_96 (by decide) ?_
    refine j_icmp_eq (tgt := 110) (pc := 98) C dX12_readsRule_98 (by decide) hm (fun _ hm => ?_) (fun _ hm => ?_)
    · refine j_ls [0] rfl ?_
      exact jn_X12_readsRule_110_ok C F  _ hm
    · refine j_aloadn (pc := 101) C 0 dX12_readsRule_101 rfl rfl ?_
      obtain ⟨q17, hq17, hm⟩ := Option.bind_eq_some_iff.mp hm
      refine cl_X12_192 (c := 0) (pc := 102) C km_0 (kX12_readsSum hq17) (by decide) (Nat.le_of_ble_eq_true rfl) dX12_readsRule_102 ?_
      refine j_if_ne (tgt := 110) (pc := 105) C dX12_readsRule_105 (by decide) hm (fun _ hm => ?_) (fun _ hm => ?_)
      · refine j_iconst (v := 0) (pc := 108) C dX12_readsRule_108 (by decide) ?_
        exact j_zretS (pc := 109) C rfl rfl dX12_readsRule_109 hm
      · refine j_ls [0] rfl ?_
        exact jn_X12_readsRule_110_ok C F  _ hm

def mX12_readsRule (F : Nat) (σ : jS) : Option (Int32 × jS) := (Option.bind (mX12_here F σ) fun q1 => (if q1 = (112 : Int32) then (jn_X12_readsRule_33 F q1 σ) else (if q1 = (105 : Int32) then (jn_X12_readsRule_33 F q1 σ) else (if q1 = (120 : Int32) then (jn_X12_readsRule_33 F q1 σ) else (Option.bind (mX12_wrongAt F (1 : Int32) ((σ 0 7)) σ) fun q18 => (if jbo q18.1 = true then some (q18.1, q18.2) else none))))))
set_option maxHeartbeats 4000000 in
set_option maxRecDepth 100000 in
theorem kX12_readsRule {V : jV} {F : Nat} {σ : jS} {v : (Int32 × jS)} (hm : mX12_readsRule F σ = some v) : Ct cfM 33 V yX12_readsRule cX12_readsRule 2 (some .boolean) 7 [.ref (vad V 0)] σ v := by
  refine j_start (own := RX12) (by decide) rfl (Nat.le_of_ble_eq_true rfl) ?_
  intro G hV C
  subst hV
  unfold mX12_readsRule at hm
  show JM G 0 [(0, .ref (vad (gV G) 0))] [] σ v
  refine j_aloadn (pc := 0) C 0 dX12_readsRule_0 rfl rfl ?_
  obtain ⟨q1, hq1, hm⟩ := Option.bind_eq_some_iff.mp hm
  refine cl_X12_134 (c := 0) (pc := 1) C km_0 (kX12_here hq1) (by decide) (Nat.le_of_ble_eq_true rfl) dX12_readsRule_1 ?_
  refine j_istoren (ls' := [(1, .int q1), (0, .ref (vad (gV G) 0))]) (pc := 4) C dX12_readsRule_4 rfl (by decide) rfl ?_
  refine j_iloadn (pc := 5) C 0 dX12_readsRule_5 rfl rfl ?_
  refine j_bipush (v := 112) (pc := 6) C dX12_readsRule_6 (by decide) ?_
  refine j_icmp_eq (tgt := 33) (pc := 8) C dX12_readsRule_8 (by decide) hm (fun _ hm => ?_) (fun _ hm => ?_)
  · refine j_ls [1, 0] rfl ?_
    exact jn_X12_readsRule_33_ok C F  _ _ hm
  · refine j_iloadn (pc := 11) C 0 dX12_readsRule_11 rfl rfl ?_
    refine j_bipush (v := 105) (pc := 12) C dX12_readsRule_12 (by decide) ?_
    refine j_icmp_eq (tgt := 33) (pc := 14) C dX12_readsRule_14 (by decide) hm (fun _ hm => ?_) (fun _ hm => ?_)
    · refine j_ls [1, 0] rfl ?_
      exact jn_X12_readsRule_33_ok C F  _ _ hm
    · refine j_iloadn (pc := 17) C 0 dX12_readsRule_17 rfl rfl ?_
      refine j_bipush (v := 120) (pc := 18) C dX12_readsRule_18 (by decide) ?_
      refine j_icmp_eq (tgt := 33) (pc := 20) C dX12_readsRule_20 (by decide) hm (fun _ hm => ?_) (fun _ hm => ?_)
      · refine j_ls [1, 0] rfl ?_
        exact jn_X12_readsRule_33_ok C F  _ _ hm
      · refine j_aloadn (pc := 23) C 1 dX12_readsRule_23 rfl rfl ?_
        refine j_iconst (v := 1) (pc := 24) C dX12_readsRule_24 (by decide) ?_
        refine j_aloadn (pc := 25) C 1 dX12_readsRule_25 rfl rfl ?_
        refine gf_X12_128 (c := 0) (pc := 26) C km_0 dX12_readsRule_26 ?_
        obtain ⟨q18, hq18, hm⟩ := Option.bind_eq_some_iff.mp hm
        refine cl_X12_141 (c := 0) (pc := 29) C km_0 (kX12_wrongAt hq18) (by decide) (Nat.le_of_ble_eq_true rfl) dX12_readsRule_29 ?_
        refine j_guard hm (fun hb19 hm => ?_)
        exact j_zretS (pc := 32) C rfl hb19 dX12_readsRule_32 hm

def mX12_beginsText (F : Nat) (x1 : Int32) (σ : jS) : Option jS := (lt (js σ 0 7 (0 : Int32)) fun σ1 => (lt (js σ1 0 8 x1) fun σ2 => (lt (js σ2 0 12 (0 : Int32)) fun σ3 => (lt (js σ3 0 14 (0 : Int32)) fun σ4 => some σ4))))
set_option maxHeartbeats 4000000 in
set_option maxRecDepth 100000 in
theorem kX12_beginsText {V : jV} {F : Nat} {x1 : Int32} {σ : jS} {v : jS} (hm : mX12_beginsText F x1 σ = some v) : Ct cfM 33 V yX12_beginsText cX12_beginsText 2 none 0 [.ref (vad V 0), .int x1] σ (0, v) := by
  refine j_start (own := RX12) (by decide) rfl (Nat.le_of_ble_eq_true rfl) ?_
  intro G hV C
  subst hV
  unfold mX12_beginsText at hm
  show JM G 0 [(0, .ref (vad (gV G) 0)), (1, .int x1)] [] σ (0, v)
  refine j_aloadn (pc := 0) C 0 dX12_beginsText_0 rfl rfl ?_
  refine j_iconst (v := 0) (pc := 1) C dX12_beginsText_1 (by decide) ?_
  refine pf_X12_128 (c := 0) (pc := 2) C km_0 dX12_beginsText_2 hm (fun σ1 hm => ?_)
  refine j_aloadn (pc := 5) C 0 dX12_beginsText_5 rfl rfl ?_
  refine j_iloadn (pc := 6) C 1 dX12_beginsText_6 rfl rfl ?_
  refine pf_X12_131 (c := 0) (pc := 7) C km_0 dX12_beginsText_7 hm (fun σ2 hm => ?_)
  refine j_aloadn (pc := 10) C 0 dX12_beginsText_10 rfl rfl ?_
  refine j_iconst (v := 0) (pc := 11) C dX12_beginsText_11 (by decide) ?_
  refine pf_X12_152 (c := 0) (pc := 12) C km_0 dX12_beginsText_12 hm (fun σ3 hm => ?_)
  refine j_aloadn (pc := 15) C 0 dX12_beginsText_15 rfl rfl ?_
  refine j_iconst (v := 0) (pc := 16) C dX12_beginsText_16 (by decide) ?_
  refine pf_X12_207 (c := 0) (pc := 17) C km_0 dX12_beginsText_17 hm (fun σ4 hm => ?_)
  exact j_vret (pc := 20) C rfl dX12_beginsText_20 hm

def lp_X12_law_31 (F : Nat) (k71 : Int32 → jS → Option (Int32 × jS)) : Nat → Int32 → jS → Option (Int32 × jS)
  | 0, _, _ => none
  | n + 1, x2, σ => (if x2 = 0 then (k71 x2 σ) else (if (σ 0 7) < (σ 0 8) then (Option.bind (mX12_takes F (59 : Int32) σ) fun q4 => (if q4.1 = 0 then (lp_X12_law_31 F k71 n (0 : Int32) q4.2) else (Option.bind (mX12_readsRule F q4.2) fun q5 => (if q5.1 = 0 then (lp_X12_law_31 F k71 n (0 : Int32) q5.2) else (lp_X12_law_31 F k71 n (1 : Int32) q5.2))))) else (k71 x2 σ)))
set_option maxHeartbeats 4000000 in
set_option maxRecDepth 100000 in
theorem lp_X12_law_31_ok {G : jG} (C : jc cfM 33 G cX12_law RX12 4 (some .int) 8) (F : Nat) {v : (Int32 × jS)} (k71 : Int32 → jS → Option (Int32 × jS)) (hk71 : ∀ (x2 : Int32) (σ : jS), k71 x2 σ = some v → JM G 71 [(0, .ref (vad (gV G) 0)), (2, .int x2)] [] σ v) : ∀ (n : Nat) (x2 : Int32) (σ : jS), lp_X12_law_31 F k71 n x2 σ = some v → JM G 31 [(0, .ref (vad (gV G) 0)), (2, .int x2)] [] σ v := by
  intro n
  induction n with
  | zero =>
    intro x2 σ hm
    rw [lp_X12_law_31] at hm
    cases hm
  | succ n ih =>
    intro x2 σ hm
    rw [lp_X12_law_31] at hm
    refine j_iloadn (pc := 31) C 1 dX12_law_31 rfl rfl ?_
    refine j_if_eq (tgt := 71) (pc := 32) C dX12_law_32 (by decide) hm (fun _ hm => ?_) (fun _ hm => ?_)
    · exact hk71 _ _ hm
    · refine j_aloadn (pc := 35) C 0 dX12_law_35 rfl rfl ?_
      refine gf_X12_128 (c := 0) (pc := 36) C km_0 dX12_law_36 ?_
      refine j_aloadn (pc := 39) C 0 dX12_law_39 rfl rfl ?_
      refine gf_X12_131 (c := 0) (pc := 40) C km_0 dX12_law_40 ?_
      refine j_icmp_ge (tgt := 71) (pc := 43) C dX12_law_43 (by decide) hm (fun _ hm => ?_) (fun _ hm => ?_)
      · refine j_aloadn (pc := 46) C 0 dX12_law_46 rfl rfl ?_
        refine j_bipush (v := 59) (pc := 47) C dX12_law_47 (by decide) ?_
        obtain ⟨q4, hq4, hm⟩ := Option.bind_eq_some_iff.mp hm
        refine cl_X12_219 (c := 0) (pc := 49) C km_0 (kX12_takes hq4) (by decide) (Nat.le_of_ble_eq_true rfl) dX12_law_49 ?_
        refine j_if_eq (tgt := 66) (pc := 52) C dX12_law_52 (by decide) hm (fun _ hm => ?_) (fun _ hm => ?_)
        · refine j_iconst (v := 0) (pc := 66) C dX12_law_66 (by decide) ?_
          refine j_istoren (ls' := [(2, .int (0 : Int32)), (0, .ref (vad (gV G) 0))]) (pc := 67) C dX12_law_67 rfl (by decide) rfl ?_
          refine j_goto (tgt := 31) (pc := 68) C dX12_law_68 (by decide) ?_
          refine j_ls [1, 0] rfl ?_
          exact ih _ _ hm
        · refine j_aloadn (pc := 55) C 0 dX12_law_55 rfl rfl ?_
          obtain ⟨q5, hq5, hm⟩ := Option.bind_eq_some_iff.mp hm
          refine cl_X12_216 (c := 0) (pc := 56) C km_0 (kX12_readsRule hq5) (by decide) (Nat.le_of_ble_eq_true rfl) dX12_law_56 ?_
          refine j_if_eq (tgt := 66) (pc := 59) C dX12_law_59 (by decide) hm (fun _ hm => ?_) (fun _ hm => ?_)
          · refine j_iconst (v := 0) (pc := 66) C dX12_law_66 (by decide) ?_
            refine j_istoren (ls' := [(2, .int (0 : Int32)), (0, .ref (vad (gV G) 0))]) (pc := 67) C dX12_law_67 rfl (by decide) rfl ?_
            refine j_goto (tgt := 31) (pc := 68) C dX12_law_68 (by decide) ?_
            refine j_ls [1, 0] rfl ?_
            exact ih _ _ hm
          · refine j_iconst (v := 1) (pc := 62) C dX12_law_62 (by decide) ?_
            refine j_goto (tgt := 67) (pc := 63) C dX12_law_63 (by decide) ?_
            refine j_istoren (ls' := [(2, .int (1 : Int32)), (0, .ref (vad (gV G) 0))]) (pc := 67) C dX12_law_67 rfl (by decide) rfl ?_
            refine j_goto (tgt := 31) (pc := 68) C dX12_law_68 (by decide) ?_
            refine j_ls [1, 0] rfl ?_
            exact ih _ _ hm
      · exact hk71 _ _ hm

def lp_X12_law_95 (F : Nat) (k121 : jS → Option (Int32 × jS)) : Nat → Int32 → jS → Option (Int32 × jS)
  | 0, _, _ => none
  | n + 1, x3, σ => (if x3 < (σ 0 12) then (if jin x3 260 = true then (if jin x3 260 = true then (lt (js σ 13 x3.toNatClampNeg (σ 7 x3.toNatClampNeg)) fun σ10 => (lp_X12_law_95 F k121 n ((x3 + (1 : Int32))) σ10)) else none) else none) else (k121 σ))
set_option maxHeartbeats 4000000 in
set_option maxRecDepth 100000 in
theorem lp_X12_law_95_ok {G : jG} (C : jc cfM 33 G cX12_law RX12 4 (some .int) 8) (F : Nat) {v : (Int32 × jS)} (k121 : jS → Option (Int32 × jS)) (hk121 : ∀ (σ : jS), k121 σ = some v → JM G 121 [(0, .ref (vad (gV G) 0))] [] σ v) : ∀ (n : Nat) (x3 : Int32) (σ : jS), lp_X12_law_95 F k121 n x3 σ = some v → JM G 95 [(0, .ref (vad (gV G) 0)), (3, .int x3)] [] σ v := by
  intro n
  induction n with
  | zero =>
    intro x3 σ hm
    rw [lp_X12_law_95] at hm
    cases hm
  | succ n ih =>
    intro x3 σ hm
    rw [lp_X12_law_95] at hm
    refine j_iloadn (pc := 95) C 1 dX12_law_95 rfl rfl ?_
    refine j_aloadn (pc := 96) C 0 dX12_law_96 rfl rfl ?_
    refine gf_X12_152 (c := 0) (pc := 97) C km_0 dX12_law_97 ?_
    refine j_icmp_ge (tgt := 121) (pc := 100) C dX12_law_100 (by decide) hm (fun _ hm => ?_) (fun _ hm => ?_)
    · refine j_aloadn (pc := 103) C 0 dX12_law_103 rfl rfl ?_
      refine gf_X12_47 (c := 0) (pc := 104) C km_0 dX12_law_104 ?_
      refine j_iloadn (pc := 107) C 1 dX12_law_107 rfl rfl ?_
      refine j_aloadn (pc := 108) C 0 dX12_law_108 rfl rfl ?_
      refine gf_X12_29 (c := 0) (pc := 109) C km_0 dX12_law_109 ?_
      refine j_iloadn (pc := 112) C 1 dX12_law_112 rfl rfl ?_
      refine j_guard hm (fun hg9 hm => ?_)
      refine j_iald (c := 7) (n := 260) (pc := 113) C (kM_lt km_7 (by decide)) (cm_a km_7 lm_7 _) hg9 dX12_law_113 ?_
      refine j_guard hm (fun hg11 hm => ?_)
      refine j_iastL (c := 13) (n := 260) (pc := 114) C (kM_lt km_13 (by decide)) (cm_a km_13 lm_13) hg11 dX12_law_114 hm (fun σ10 hm => ?_)
      refine j_iinc (v := (x3 + (1 : Int32))) (ls' := [(3, .int (x3 + (1 : Int32))), (0, .ref (vad (gV G) 0))]) (pc := 115) C 1 dX12_law_115 rfl rfl (by decide) rfl ?_
      refine j_goto (tgt := 95) (pc := 118) C dX12_law_118 (by decide) ?_
      refine j_ls [1, 0] rfl ?_
      exact ih _ _ hm
    · refine j_ls [0] rfl ?_
      exact hk121 _ hm

def lp_X12_law_123 (F : Nat) : Nat → Int32 → jS → Option (Int32 × jS)
  | 0, _, _ => none
  | n + 1, x3, σ => (if x3 < (σ 0 14) then (if jin x3 16 = true then (if jin x3 16 = true then (lt (js σ 14 x3.toNatClampNeg (σ 9 x3.toNatClampNeg)) fun σ14 => (if jin x3 16 = true then (if jin x3 16 = true then (lt (js σ14 15 x3.toNatClampNeg (σ14 10 x3.toNatClampNeg)) fun σ17 => (if jin x3 16 = true then (if jin x3 16 = true then (lt (js σ17 16 x3.toNatClampNeg (σ17 11 x3.toNatClampNeg)) fun σ20 => (if jin x3 16 = true then (if jin x3 16 = true then (lt (js σ20 17 x3.toNatClampNeg (σ20 12 x3.toNatClampNeg)) fun σ23 => (lp_X12_law_123 F n ((x3 + (1 : Int32))) σ23)) else none) else none)) else none) else none)) else none) else none)) else none) else none) else some ((σ 0 14), σ))
set_option maxHeartbeats 4000000 in
set_option maxRecDepth 100000 in
theorem lp_X12_law_123_ok {G : jG} (C : jc cfM 33 G cX12_law RX12 4 (some .int) 8) (F : Nat) {v : (Int32 × jS)} : ∀ (n : Nat) (x3 : Int32) (σ : jS), lp_X12_law_123 F n x3 σ = some v → JM G 123 [(0, .ref (vad (gV G) 0)), (3, .int x3)] [] σ v := by
  intro n
  induction n with
  | zero =>
    intro x3 σ hm
    rw [lp_X12_law_123] at hm
    cases hm
  | succ n ih =>
    intro x3 σ hm
    rw [lp_X12_law_123] at hm
    refine j_iloadn (pc := 123) C 1 dX12_law_123 rfl rfl ?_
    refine j_aloadn (pc := 124) C 0 dX12_law_124 rfl rfl ?_
    refine gf_X12_207 (c := 0) (pc := 125) C km_0 dX12_law_125 ?_
    refine j_icmp_ge (tgt := 185) (pc := 128) C dX12_law_128 (by decide) hm (fun _ hm => ?_) (fun _ hm => ?_)
    · refine j_aloadn (pc := 131) C 0 dX12_law_131 rfl rfl ?_
      refine gf_X12_50 (c := 0) (pc := 132) C km_0 dX12_law_132 ?_
      refine j_iloadn (pc := 135) C 1 dX12_law_135 rfl rfl ?_
      refine j_aloadn (pc := 136) C 0 dX12_law_136 rfl rfl ?_
      refine gf_X12_35 (c := 0) (pc := 137) C km_0 dX12_law_137 ?_
      refine j_iloadn (pc := 140) C 1 dX12_law_140 rfl rfl ?_
      refine j_guard hm (fun hg13 hm => ?_)
      refine j_iald (c := 9) (n := 16) (pc := 141) C (kM_lt km_9 (by decide)) (cm_a km_9 lm_9 _) hg13 dX12_law_141 ?_
      refine j_guard hm (fun hg15 hm => ?_)
      refine j_iastL (c := 14) (n := 16) (pc := 142) C (kM_lt km_14 (by decide)) (cm_a km_14 lm_14) hg15 dX12_law_142 hm (fun σ14 hm => ?_)
      refine j_aloadn (pc := 143) C 0 dX12_law_143 rfl rfl ?_
      refine gf_X12_53 (c := 0) (pc := 144) C km_0 dX12_law_144 ?_
      refine j_iloadn (pc := 147) C 1 dX12_law_147 rfl rfl ?_
      refine j_aloadn (pc := 148) C 0 dX12_law_148 rfl rfl ?_
      refine gf_X12_38 (c := 0) (pc := 149) C km_0 dX12_law_149 ?_
      refine j_iloadn (pc := 152) C 1 dX12_law_152 rfl rfl ?_
      refine j_guard hm (fun hg16 hm => ?_)
      refine j_iald (c := 10) (n := 16) (pc := 153) C (kM_lt km_10 (by decide)) (cm_a km_10 lm_10 _) hg16 dX12_law_153 ?_
      refine j_guard hm (fun hg18 hm => ?_)
      refine j_iastL (c := 15) (n := 16) (pc := 154) C (kM_lt km_15 (by decide)) (cm_a km_15 lm_15) hg18 dX12_law_154 hm (fun σ17 hm => ?_)
      refine j_aloadn (pc := 155) C 0 dX12_law_155 rfl rfl ?_
      refine gf_X12_56 (c := 0) (pc := 156) C km_0 dX12_law_156 ?_
      refine j_iloadn (pc := 159) C 1 dX12_law_159 rfl rfl ?_
      refine j_aloadn (pc := 160) C 0 dX12_law_160 rfl rfl ?_
      refine gf_X12_41 (c := 0) (pc := 161) C km_0 dX12_law_161 ?_
      refine j_iloadn (pc := 164) C 1 dX12_law_164 rfl rfl ?_
      refine j_guard hm (fun hg19 hm => ?_)
      refine j_iald (c := 11) (n := 16) (pc := 165) C (kM_lt km_11 (by decide)) (cm_a km_11 lm_11 _) hg19 dX12_law_165 ?_
      refine j_guard hm (fun hg21 hm => ?_)
      refine j_iastL (c := 16) (n := 16) (pc := 166) C (kM_lt km_16 (by decide)) (cm_a km_16 lm_16) hg21 dX12_law_166 hm (fun σ20 hm => ?_)
      refine j_aloadn (pc := 167) C 0 dX12_law_167 rfl rfl ?_
      refine gf_X12_59 (c := 0) (pc := 168) C km_0 dX12_law_168 ?_
      refine j_iloadn (pc := 171) C 1 dX12_law_171 rfl rfl ?_
      refine j_aloadn (pc := 172) C 0 dX12_law_172 rfl rfl ?_
      refine gf_X12_44 (c := 0) (pc := 173) C km_0 dX12_law_173 ?_
      refine j_iloadn (pc := 176) C 1 dX12_law_176 rfl rfl ?_
      refine j_guard hm (fun hg22 hm => ?_)
      refine j_iald (c := 12) (n := 16) (pc := 177) C (kM_lt km_12 (by decide)) (cm_a km_12 lm_12 _) hg22 dX12_law_177 ?_
      refine j_guard hm (fun hg24 hm => ?_)
      refine j_iastL (c := 17) (n := 16) (pc := 178) C (kM_lt km_17 (by decide)) (cm_a km_17 lm_17) hg24 dX12_law_178 hm (fun σ23 hm => ?_)
      refine j_iinc (v := (x3 + (1 : Int32))) (ls' := [(3, .int (x3 + (1 : Int32))), (0, .ref (vad (gV G) 0))]) (pc := 179) C 1 dX12_law_179 rfl rfl (by decide) rfl ?_
      refine j_goto (tgt := 123) (pc := 182) C dX12_law_182 (by decide) ?_
      refine j_ls [1, 0] rfl ?_
      exact ih _ _ hm
    · refine j_aloadn (pc := 185) C 0 dX12_law_185 rfl rfl ?_
      refine gf_X12_207 (c := 0) (pc := 186) C km_0 dX12_law_186 ?_
      exact j_iretS (pc := 189) C rfl dX12_law_189 hm

def jn_X12_law_71 (F : Nat) (x2 : Int32) (σ : jS) : Option (Int32 × jS) := (lt (js σ 0 6 (0 : Int32)) fun σ7 => (if x2 = 0 then some ((σ7 0 9), σ7) else (lt (js σ7 0 15 (σ7 0 14)) fun σ8 => (lp_X12_law_95 F (fun σ12 => (lp_X12_law_123 F F (0 : Int32) σ12)) F (0 : Int32) σ8))))
set_option maxHeartbeats 4000000 in
set_option maxRecDepth 100000 in
theorem jn_X12_law_71_ok {G : jG} (C : jc cfM 33 G cX12_law RX12 4 (some .int) 8) (F : Nat) {v : (Int32 × jS)} : ∀ (x2 : Int32) (σ : jS), jn_X12_law_71 F x2 σ = some v → JM G 71 [(0, .ref (vad (gV G) 0)), (2, .int x2)] [] σ v := by
  intro x2 σ hm
  unfold jn_X12_law_71 at hm
  refine j_aloadn (pc := 71) C 0 dX12_law_71 rfl rfl ?_
  refine j_iconst (v := 0) (pc := 72) C dX12_law_72 (by decide) ?_
  refine pf_X12_120 (c := 0) (pc := 73) C km_0 dX12_law_73 hm (fun σ7 hm => ?_)
  refine j_iloadn (pc := 76) C 1 dX12_law_76 rfl rfl ?_
  refine j_if_ne (tgt := 85) (pc := 77) C dX12_law_77 (by decide) hm (fun _ hm => ?_) (fun _ hm => ?_)
  · refine j_aloadn (pc := 80) C 0 dX12_law_80 rfl rfl ?_
    refine gf_X12_138 (c := 0) (pc := 81) C km_0 dX12_law_81 ?_
    exact j_iretS (pc := 84) C rfl dX12_law_84 hm
  · refine j_aloadn (pc := 85) C 0 dX12_law_85 rfl rfl ?_
    refine j_aloadn (pc := 86) C 0 dX12_law_86 rfl rfl ?_
    refine gf_X12_207 (c := 0) (pc := 87) C km_0 dX12_law_87 ?_
    refine pf_X12_222 (c := 0) (pc := 90) C km_0 dX12_law_90 hm (fun σ8 hm => ?_)
    refine j_iconst (v := 0) (pc := 93) C dX12_law_93 (by decide) ?_
    refine j_istoren (ls' := [(3, .int (0 : Int32)), (0, .ref (vad (gV G) 0)), (2, .int x2)]) (pc := 94) C dX12_law_94 rfl (by decide) rfl ?_
    refine j_ls [1, 0] rfl ?_
    refine lp_X12_law_95_ok C F _ (fun σ12 hm => ?_) F _ _ hm
    refine j_iconst (v := 0) (pc := 121) C dX12_law_121 (by decide) ?_
    refine j_istoren (ls' := [(3, .int (0 : Int32)), (0, .ref (vad (gV G) 0))]) (pc := 122) C dX12_law_122 rfl (by decide) rfl ?_
    refine j_ls [1, 0] rfl ?_
    exact lp_X12_law_123_ok C F  F _ _ hm

def mX12_law (F : Nat) (x1 : Int32) (σ : jS) : Option (Int32 × jS) := (Option.bind (mX12_in F x1 (1 : Int32) (240 : Int32) σ) fun q1 => (if q1 = 0 then some ((-1 : Int32), σ) else (if (σ 0 6) < x1 then some ((-1 : Int32), σ) else (Option.bind (mX12_beginsText F x1 σ) fun q2 => (Option.bind (mX12_readsRule F q2) fun q3 => (lp_X12_law_31 F (fun x2_6 σ6 => (jn_X12_law_71 F x2_6 σ6)) F q3.1 q3.2))))))
set_option maxHeartbeats 4000000 in
set_option maxRecDepth 100000 in
theorem kX12_law {V : jV} {F : Nat} {x1 : Int32} {σ : jS} {v : (Int32 × jS)} (hm : mX12_law F x1 σ = some v) : Ct cfM 33 V yX12_law cX12_law 4 (some .int) 8 [.ref (vad V 0), .int x1] σ v := by
  refine j_start (own := RX12) (by decide) rfl (Nat.le_of_ble_eq_true rfl) ?_
  intro G hV C
  subst hV
  unfold mX12_law at hm
  show JM G 0 [(0, .ref (vad (gV G) 0)), (1, .int x1)] [] σ v
  refine j_iloadn (pc := 0) C 1 dX12_law_0 rfl rfl ?_
  refine j_iconst (v := 1) (pc := 1) C dX12_law_1 (by decide) ?_
  refine j_sipush (v := 240) (pc := 2) C dX12_law_2 (by decide) ?_
  obtain ⟨q1, hq1, hm⟩ := Option.bind_eq_some_iff.mp hm
  refine cl_X12_107 (pc := 5) C (kX12_in hq1) (by decide) (Nat.le_of_ble_eq_true rfl) dX12_law_5 ?_
  refine j_if_eq (tgt := 19) (pc := 8) C dX12_law_8 (by decide) hm (fun _ hm => ?_) (fun _ hm => ?_)
  · refine j_iconst (v := -1) (pc := 19) C dX12_law_19 (by decide) ?_
    exact j_iretS (pc := 20) C rfl dX12_law_20 hm
  · refine j_iloadn (pc := 11) C 1 dX12_law_11 rfl rfl ?_
    refine j_aloadn (pc := 12) C 0 dX12_law_12 rfl rfl ?_
    refine gf_X12_120 (c := 0) (pc := 13) C km_0 dX12_law_13 ?_
    refine j_icmp_le (tgt := 21) (pc := 16) C dX12_law_16 (by decide) hm (fun _ hm => ?_) (fun _ hm => ?_)
    · refine j_iconst (v := -1) (pc := 19) C dX12_law_19 (by decide) ?_
      exact j_iretS (pc := 20) C rfl dX12_law_20 hm
    · refine j_aloadn (pc := 21) C 0 dX12_law_21 rfl rfl ?_
      refine j_iloadn (pc := 22) C 1 dX12_law_22 rfl rfl ?_
      obtain ⟨q2, hq2, hm⟩ := Option.bind_eq_some_iff.mp hm
      refine cl_X12_213 (c := 0) (pc := 23) C km_0 (kX12_beginsText hq2) (by decide) (Nat.le_of_ble_eq_true rfl) dX12_law_23 ?_
      refine j_aloadn (pc := 26) C 0 dX12_law_26 rfl rfl ?_
      obtain ⟨q3, hq3, hm⟩ := Option.bind_eq_some_iff.mp hm
      refine cl_X12_216 (c := 0) (pc := 27) C km_0 (kX12_readsRule hq3) (by decide) (Nat.le_of_ble_eq_true rfl) dX12_law_27 ?_
      refine j_istoren (ls' := [(2, .int q3.1), (0, .ref (vad (gV G) 0)), (1, .int x1)]) (pc := 30) C dX12_law_30 rfl (by decide) rfl ?_
      refine j_ls [1, 0] rfl ?_
      refine lp_X12_law_31_ok C F _ (fun x2_6 σ6 hm => ?_) F _ _ hm
      exact jn_X12_law_71_ok C F  _ _ hm

def mX12_reckon (F : Nat) (x0 : Int32) (x1 : Int32) (x2 : Int32) (σ : jS) : Option Int32 := (if x0 = (2 : Int32) then some (x1 + x2) else (if x0 = (3 : Int32) then some (x1 - x2) else (if x0 = (4 : Int32) then some (x1 * x2) else (if x0 = (5 : Int32) then (if x2 = 0 then none else some (x1 / x2)) else (if x0 = (6 : Int32) then (if x2 = 0 then none else some (irm x1 x2)) else (if x0 = (7 : Int32) then (if x1 < x2 then some (1 : Int32) else some (0 : Int32)) else (if x0 = (8 : Int32) then (if x2 < x1 then some (1 : Int32) else some (0 : Int32)) else (if x1 = x2 then some (1 : Int32) else some (0 : Int32)))))))))
set_option maxHeartbeats 4000000 in
set_option maxRecDepth 100000 in
theorem kX12_reckon {V : jV} {F : Nat} {x0 : Int32} {x1 : Int32} {x2 : Int32} {σ : jS} {v : Int32} (hm : mX12_reckon F x0 x1 x2 σ = some v) : Ct cfM 33 V yX12_reckon cX12_reckon 3 (some .int) 0 [.int x0, .int x1, .int x2] σ (v, σ) := by
  refine j_start (own := RX12) (by decide) rfl (Nat.le_of_ble_eq_true rfl) ?_
  intro G hV C
  subst hV
  unfold mX12_reckon at hm
  show JM G 0 [(0, .int x0), (1, .int x1), (2, .int x2)] [] σ (v, σ)
  refine j_iloadn (pc := 0) C 0 dX12_reckon_0 rfl rfl ?_
  refine j_sw (b := 2) hm (fun hs hm => ?_) (fun hs0 hm => ?_)
  · refine j_swIn (tgt := 44) (b := 2) (pc := 1) C dX12_reckon_1 hs (by decide) (by decide) rfl (by decide) ?_
    refine j_iloadn (pc := 44) C 1 dX12_reckon_44 rfl rfl ?_
    refine j_iloadn (pc := 45) C 2 dX12_reckon_45 rfl rfl ?_
    refine j_iadd (pc := 46) C dX12_reckon_46 ?_
    exact j_iret (pc := 47) C rfl dX12_reckon_47 hm
  · refine j_sw (b := 3) hm (fun hs hm => ?_) (fun hs1 hm => ?_)
    · refine j_swIn (tgt := 48) (b := 3) (pc := 1) C dX12_reckon_1 hs (by decide) (by decide) rfl (by decide) ?_
      refine j_iloadn (pc := 48) C 1 dX12_reckon_48 rfl rfl ?_
      refine j_iloadn (pc := 49) C 2 dX12_reckon_49 rfl rfl ?_
      refine j_isub (pc := 50) C dX12_reckon_50 ?_
      exact j_iret (pc := 51) C rfl dX12_reckon_51 hm
    · refine j_sw (b := 4) hm (fun hs hm => ?_) (fun hs2 hm => ?_)
      · refine j_swIn (tgt := 52) (b := 4) (pc := 1) C dX12_reckon_1 hs (by decide) (by decide) rfl (by decide) ?_
        refine j_iloadn (pc := 52) C 1 dX12_reckon_52 rfl rfl ?_
        refine j_iloadn (pc := 53) C 2 dX12_reckon_53 rfl rfl ?_
        refine j_imul (pc := 54) C dX12_reckon_54 ?_
        exact j_iret (pc := 55) C rfl dX12_reckon_55 hm
      · refine j_sw (b := 5) hm (fun hs hm => ?_) (fun hs3 hm => ?_)
        · refine j_swIn (tgt := 56) (b := 5) (pc := 1) C dX12_reckon_1 hs (by decide) (by decide) rfl (by decide) ?_
          refine j_iloadn (pc := 56) C 1 dX12_reckon_56 rfl rfl ?_
          refine j_iloadn (pc := 57) C 2 dX12_reckon_57 rfl rfl ?_
          refine j_idiv (pc := 58) C dX12_reckon_58 hm (fun hm => ?_)
          exact j_iret (pc := 59) C rfl dX12_reckon_59 hm
        · refine j_sw (b := 6) hm (fun hs hm => ?_) (fun hs4 hm => ?_)
          · refine j_swIn (tgt := 60) (b := 6) (pc := 1) C dX12_reckon_1 hs (by decide) (by decide) rfl (by decide) ?_
            refine j_iloadn (pc := 60) C 1 dX12_reckon_60 rfl rfl ?_
            refine j_iloadn (pc := 61) C 2 dX12_reckon_61 rfl rfl ?_
            refine j_irem (pc := 62) C dX12_reckon_62 hm (fun hm => ?_)
            exact j_iret (pc := 63) C rfl dX12_reckon_63 hm
          · refine j_sw (b := 7) hm (fun hs hm => ?_) (fun hs5 hm => ?_)
            · refine j_swIn (tgt := 64) (b := 7) (pc := 1) C dX12_reckon_1 hs (by decide) (by decide) rfl (by decide) ?_
              refine j_iloadn (pc := 64) C 1 dX12_reckon_64 rfl rfl ?_
              refine j_iloadn (pc := 65) C 2 dX12_reckon_65 rfl rfl ?_
              refine j_icmp_ge (tgt := 73) (pc := 66) C dX12_reckon_66 (by decide) hm (fun _ hm => ?_) (fun _ hm => ?_)
              · refine j_iconst (v := 1) (pc := 69) C dX12_reckon_69 (by decide) ?_
                refine j_goto (tgt := 74) (pc := 70) C dX12_reckon_70 (by decide) ?_
                exact j_iret (pc := 74) C rfl dX12_reckon_74 hm
              · refine j_iconst (v := 0) (pc := 73) C dX12_reckon_73 (by decide) ?_
                exact j_iret (pc := 74) C rfl dX12_reckon_74 hm
            · refine j_sw (b := 8) hm (fun hs hm => ?_) (fun hs6 hm => ?_)
              · refine j_swIn (tgt := 75) (b := 8) (pc := 1) C dX12_reckon_1 hs (by decide) (by decide) rfl (by decide) ?_
                refine j_iloadn (pc := 75) C 1 dX12_reckon_75 rfl rfl ?_
                refine j_iloadn (pc := 76) C 2 dX12_reckon_76 rfl rfl ?_
                refine j_icmp_le (tgt := 84) (pc := 77) C dX12_reckon_77 (by decide) hm (fun _ hm => ?_) (fun _ hm => ?_)
                · refine j_iconst (v := 1) (pc := 80) C dX12_reckon_80 (by decide) ?_
                  refine j_goto (tgt := 85) (pc := 81) C dX12_reckon_81 (by decide) ?_
                  exact j_iret (pc := 85) C rfl dX12_reckon_85 hm
                · refine j_iconst (v := 0) (pc := 84) C dX12_reckon_84 (by decide) ?_
                  exact j_iret (pc := 85) C rfl dX12_reckon_85 hm
              · refine j_swOut (tgt := 86) (pc := 1) C dX12_reckon_1 (by have hx := jsw_out (lo := 2) (n := 7) (by decide) (by decide) (fun i hi => by rcases i with _ | _ | _ | _ | _ | _ | _ | i <;> first | assumption | (exact absurd hi (by omega))); exact hx) (by decide) ?_
                refine j_iloadn (pc := 86) C 1 dX12_reckon_86 rfl rfl ?_
                refine j_iloadn (pc := 87) C 2 dX12_reckon_87 rfl rfl ?_
                refine j_icmp_ne (tgt := 95) (pc := 88) C dX12_reckon_88 (by decide) hm (fun _ hm => ?_) (fun _ hm => ?_)
                · refine j_iconst (v := 1) (pc := 91) C dX12_reckon_91 (by decide) ?_
                  refine j_goto (tgt := 96) (pc := 92) C dX12_reckon_92 (by decide) ?_
                  exact j_iret (pc := 96) C rfl dX12_reckon_96 hm
                · refine j_iconst (v := 0) (pc := 95) C dX12_reckon_95 (by decide) ?_
                  exact j_iret (pc := 96) C rfl dX12_reckon_96 hm

