theorem dX10_add_0 : decode cX10_add 0 = .ok (.bipush 24, 2) := by decide +kernel
theorem dX10_add_2 : decode cX10_add 2 = .ok (.istore_n 2, 1) := by decide +kernel
theorem dX10_add_3 : decode cX10_add 3 = .ok (.iload_n 2, 1) := by decide +kernel
theorem dX10_add_4 : decode cX10_add 4 = .ok (.ifCond .lt 47, 3) := by decide +kernel
theorem dX10_add_7 : decode cX10_add 7 = .ok (.aload_n 0, 1) := by decide +kernel
theorem dX10_add_8 : decode cX10_add 8 = .ok (.getfield 15, 3) := by decide +kernel
theorem dX10_add_11 : decode cX10_add 11 = .ok (.aload_n 0, 1) := by decide +kernel
theorem dX10_add_12 : decode cX10_add 12 = .ok (.getfield 9, 3) := by decide +kernel
theorem dX10_add_15 : decode cX10_add 15 = .ok (.arraylength, 1) := by decide +kernel
theorem dX10_add_16 : decode cX10_add 16 = .ok (.if_icmp .ge 35, 3) := by decide +kernel
theorem dX10_add_19 : decode cX10_add 19 = .ok (.aload_n 0, 1) := by decide +kernel
theorem dX10_add_20 : decode cX10_add 20 = .ok (.getfield 9, 3) := by decide +kernel
theorem dX10_add_23 : decode cX10_add 23 = .ok (.aload_n 0, 1) := by decide +kernel
theorem dX10_add_24 : decode cX10_add 24 = .ok (.getfield 15, 3) := by decide +kernel
theorem dX10_add_27 : decode cX10_add 27 = .ok (.iload_n 1, 1) := by decide +kernel
theorem dX10_add_28 : decode cX10_add 28 = .ok (.iload_n 2, 1) := by decide +kernel
theorem dX10_add_29 : decode cX10_add 29 = .ok (.iushr, 1) := by decide +kernel
theorem dX10_add_30 : decode cX10_add 30 = .ok (.sipush 255, 3) := by decide +kernel
theorem dX10_add_33 : decode cX10_add 33 = .ok (.iand, 1) := by decide +kernel
theorem dX10_add_34 : decode cX10_add 34 = .ok (.iastore, 1) := by decide +kernel
theorem dX10_add_35 : decode cX10_add 35 = .ok (.aload_n 0, 1) := by decide +kernel
theorem dX10_add_36 : decode cX10_add 36 = .ok (.dup, 1) := by decide +kernel
theorem dX10_add_37 : decode cX10_add 37 = .ok (.getfield 15, 3) := by decide +kernel
theorem dX10_add_40 : decode cX10_add 40 = .ok (.iconst 1, 1) := by decide +kernel
theorem dX10_add_41 : decode cX10_add 41 = .ok (.iadd, 1) := by decide +kernel
theorem dX10_add_42 : decode cX10_add 42 = .ok (.putfield 15, 3) := by decide +kernel
theorem dX10_add_45 : decode cX10_add 45 = .ok (.iinc 2 (-8), 3) := by decide +kernel
theorem dX10_add_48 : decode cX10_add 48 = .ok (.goto (-45), 3) := by decide +kernel
theorem dX10_add_51 : decode cX10_add 51 = .ok (.return_, 1) := by decide +kernel
theorem dX10_has_0 : decode cX10_has 0 = .ok (.iload_n 1, 1) := by decide +kernel
theorem dX10_has_1 : decode cX10_has 1 = .ok (.aload_n 0, 1) := by decide +kernel
theorem dX10_has_2 : decode cX10_has 2 = .ok (.getfield 15, 3) := by decide +kernel
theorem dX10_has_5 : decode cX10_has 5 = .ok (.if_icmp .gt 7, 3) := by decide +kernel
theorem dX10_has_8 : decode cX10_has 8 = .ok (.iconst 1, 1) := by decide +kernel
theorem dX10_has_9 : decode cX10_has 9 = .ok (.goto 4, 3) := by decide +kernel
theorem dX10_has_12 : decode cX10_has 12 = .ok (.iconst 0, 1) := by decide +kernel
theorem dX10_has_13 : decode cX10_has 13 = .ok (.ireturn, 1) := by decide +kernel
theorem dX10_open_0 : decode cX10_open 0 = .ok (.aload_n 0, 1) := by decide +kernel
theorem dX10_open_1 : decode cX10_open 1 = .ok (.iload_n 1, 1) := by decide +kernel
theorem dX10_open_2 : decode cX10_open 2 = .ok (.aload_n 0, 1) := by decide +kernel
theorem dX10_open_3 : decode cX10_open 3 = .ok (.getfield 9, 3) := by decide +kernel
theorem dX10_open_6 : decode cX10_open 6 = .ok (.arraylength, 1) := by decide +kernel
theorem dX10_open_7 : decode cX10_open 7 = .ok (.invokestatic 31, 3) := by decide +kernel
theorem dX10_open_10 : decode cX10_open 10 = .ok (.putfield 19, 3) := by decide +kernel
theorem dX10_open_13 : decode cX10_open 13 = .ok (.aload_n 0, 1) := by decide +kernel
theorem dX10_open_14 : decode cX10_open 14 = .ok (.iconst 0, 1) := by decide +kernel
theorem dX10_open_15 : decode cX10_open 15 = .ok (.putfield 22, 3) := by decide +kernel
theorem dX10_open_18 : decode cX10_open 18 = .ok (.aload_n 0, 1) := by decide +kernel
theorem dX10_open_19 : decode cX10_open 19 = .ok (.aload_n 0, 1) := by decide +kernel
theorem dX10_open_20 : decode cX10_open 20 = .ok (.getfield 19, 3) := by decide +kernel
theorem dX10_open_23 : decode cX10_open 23 = .ok (.ifCond .le 12, 3) := by decide +kernel
theorem dX10_open_26 : decode cX10_open 26 = .ok (.aload_n 0, 1) := by decide +kernel
theorem dX10_open_27 : decode cX10_open 27 = .ok (.getfield 9, 3) := by decide +kernel
theorem dX10_open_30 : decode cX10_open 30 = .ok (.iconst 0, 1) := by decide +kernel
theorem dX10_open_31 : decode cX10_open 31 = .ok (.iaload, 1) := by decide +kernel
theorem dX10_open_32 : decode cX10_open 32 = .ok (.goto 4, 3) := by decide +kernel
theorem dX10_open_35 : decode cX10_open 35 = .ok (.iconst (-1), 1) := by decide +kernel
theorem dX10_open_36 : decode cX10_open 36 = .ok (.putfield 25, 3) := by decide +kernel
theorem dX10_open_39 : decode cX10_open 39 = .ok (.aload_n 0, 1) := by decide +kernel
theorem dX10_open_40 : decode cX10_open 40 = .ok (.iconst 0, 1) := by decide +kernel
theorem dX10_open_41 : decode cX10_open 41 = .ok (.putfield 28, 3) := by decide +kernel
theorem dX10_open_44 : decode cX10_open 44 = .ok (.aload_n 0, 1) := by decide +kernel
theorem dX10_open_45 : decode cX10_open 45 = .ok (.iconst 0, 1) := by decide +kernel
theorem dX10_open_46 : decode cX10_open 46 = .ok (.putfield 15, 3) := by decide +kernel
theorem dX10_open_49 : decode cX10_open 49 = .ok (.return_, 1) := by decide +kernel
theorem dX10_byteAt_0 : decode cX10_byteAt 0 = .ok (.iload_n 1, 1) := by decide +kernel
theorem dX10_byteAt_1 : decode cX10_byteAt 1 = .ok (.ifCond .lt 21, 3) := by decide +kernel
theorem dX10_byteAt_4 : decode cX10_byteAt 4 = .ok (.iload_n 1, 1) := by decide +kernel
theorem dX10_byteAt_5 : decode cX10_byteAt 5 = .ok (.aload_n 0, 1) := by decide +kernel
theorem dX10_byteAt_6 : decode cX10_byteAt 6 = .ok (.getfield 9, 3) := by decide +kernel
theorem dX10_byteAt_9 : decode cX10_byteAt 9 = .ok (.arraylength, 1) := by decide +kernel
theorem dX10_byteAt_10 : decode cX10_byteAt 10 = .ok (.if_icmp .ge 12, 3) := by decide +kernel
theorem dX10_byteAt_13 : decode cX10_byteAt 13 = .ok (.aload_n 0, 1) := by decide +kernel
theorem dX10_byteAt_14 : decode cX10_byteAt 14 = .ok (.getfield 9, 3) := by decide +kernel
theorem dX10_byteAt_17 : decode cX10_byteAt 17 = .ok (.iload_n 1, 1) := by decide +kernel
theorem dX10_byteAt_18 : decode cX10_byteAt 18 = .ok (.iaload, 1) := by decide +kernel
theorem dX10_byteAt_19 : decode cX10_byteAt 19 = .ok (.goto 4, 3) := by decide +kernel
theorem dX10_byteAt_22 : decode cX10_byteAt 22 = .ok (.iconst 0, 1) := by decide +kernel
theorem dX10_byteAt_23 : decode cX10_byteAt 23 = .ok (.ireturn, 1) := by decide +kernel
theorem dX10_wordAt_0 : decode cX10_wordAt 0 = .ok (.aload_n 0, 1) := by decide +kernel
theorem dX10_wordAt_1 : decode cX10_wordAt 1 = .ok (.iconst 2, 1) := by decide +kernel
theorem dX10_wordAt_2 : decode cX10_wordAt 2 = .ok (.iload_n 1, 1) := by decide +kernel
theorem dX10_wordAt_3 : decode cX10_wordAt 3 = .ok (.imul, 1) := by decide +kernel
theorem dX10_wordAt_4 : decode cX10_wordAt 4 = .ok (.invokevirtual 37, 3) := by decide +kernel
theorem dX10_wordAt_7 : decode cX10_wordAt 7 = .ok (.sipush 256, 3) := by decide +kernel
theorem dX10_wordAt_10 : decode cX10_wordAt 10 = .ok (.imul, 1) := by decide +kernel
theorem dX10_wordAt_11 : decode cX10_wordAt 11 = .ok (.aload_n 0, 1) := by decide +kernel
theorem dX10_wordAt_12 : decode cX10_wordAt 12 = .ok (.iconst 2, 1) := by decide +kernel
theorem dX10_wordAt_13 : decode cX10_wordAt 13 = .ok (.iload_n 1, 1) := by decide +kernel
theorem dX10_wordAt_14 : decode cX10_wordAt 14 = .ok (.imul, 1) := by decide +kernel
theorem dX10_wordAt_15 : decode cX10_wordAt 15 = .ok (.iconst 1, 1) := by decide +kernel
theorem dX10_wordAt_16 : decode cX10_wordAt 16 = .ok (.iadd, 1) := by decide +kernel
theorem dX10_wordAt_17 : decode cX10_wordAt 17 = .ok (.invokevirtual 37, 3) := by decide +kernel
theorem dX10_wordAt_20 : decode cX10_wordAt 20 = .ok (.iadd, 1) := by decide +kernel
theorem dX10_wordAt_21 : decode cX10_wordAt 21 = .ok (.ireturn, 1) := by decide +kernel
theorem dX10_step_0 : decode cX10_step 0 = .ok (.aload_n 0, 1) := by decide +kernel
theorem dX10_step_1 : decode cX10_step 1 = .ok (.getfield 22, 3) := by decide +kernel
theorem dX10_step_4 : decode cX10_step 4 = .ok (.aload_n 0, 1) := by decide +kernel
theorem dX10_step_5 : decode cX10_step 5 = .ok (.getfield 19, 3) := by decide +kernel
theorem dX10_step_8 : decode cX10_step 8 = .ok (.if_icmp .ge 13, 3) := by decide +kernel
theorem dX10_step_11 : decode cX10_step 11 = .ok (.aload_n 0, 1) := by decide +kernel
theorem dX10_step_12 : decode cX10_step 12 = .ok (.dup, 1) := by decide +kernel
theorem dX10_step_13 : decode cX10_step 13 = .ok (.getfield 22, 3) := by decide +kernel
theorem dX10_step_16 : decode cX10_step 16 = .ok (.iconst 1, 1) := by decide +kernel
theorem dX10_step_17 : decode cX10_step 17 = .ok (.iadd, 1) := by decide +kernel
theorem dX10_step_18 : decode cX10_step 18 = .ok (.putfield 22, 3) := by decide +kernel
theorem dX10_step_21 : decode cX10_step 21 = .ok (.aload_n 0, 1) := by decide +kernel
theorem dX10_step_22 : decode cX10_step 22 = .ok (.aload_n 0, 1) := by decide +kernel
theorem dX10_step_23 : decode cX10_step 23 = .ok (.getfield 22, 3) := by decide +kernel
theorem dX10_step_26 : decode cX10_step 26 = .ok (.ifCond .lt 26, 3) := by decide +kernel
theorem dX10_step_29 : decode cX10_step 29 = .ok (.aload_n 0, 1) := by decide +kernel
theorem dX10_step_30 : decode cX10_step 30 = .ok (.getfield 22, 3) := by decide +kernel
theorem dX10_step_33 : decode cX10_step 33 = .ok (.aload_n 0, 1) := by decide +kernel
theorem dX10_step_34 : decode cX10_step 34 = .ok (.getfield 19, 3) := by decide +kernel
theorem dX10_step_37 : decode cX10_step 37 = .ok (.if_icmp .ge 15, 3) := by decide +kernel
theorem dX10_step_40 : decode cX10_step 40 = .ok (.aload_n 0, 1) := by decide +kernel
theorem dX10_step_41 : decode cX10_step 41 = .ok (.getfield 9, 3) := by decide +kernel
theorem dX10_step_44 : decode cX10_step 44 = .ok (.aload_n 0, 1) := by decide +kernel
theorem dX10_step_45 : decode cX10_step 45 = .ok (.getfield 22, 3) := by decide +kernel
theorem dX10_step_48 : decode cX10_step 48 = .ok (.iaload, 1) := by decide +kernel
theorem dX10_step_49 : decode cX10_step 49 = .ok (.goto 4, 3) := by decide +kernel
theorem dX10_step_52 : decode cX10_step 52 = .ok (.iconst (-1), 1) := by decide +kernel
theorem dX10_step_53 : decode cX10_step 53 = .ok (.putfield 25, 3) := by decide +kernel
theorem dX10_step_56 : decode cX10_step 56 = .ok (.return_, 1) := by decide +kernel
theorem dX10_fail_0 : decode cX10_fail 0 = .ok (.aload_n 0, 1) := by decide +kernel
theorem dX10_fail_1 : decode cX10_fail 1 = .ok (.getfield 28, 3) := by decide +kernel
theorem dX10_fail_4 : decode cX10_fail 4 = .ok (.ifCond .ne 14, 3) := by decide +kernel
theorem dX10_fail_7 : decode cX10_fail 7 = .ok (.aload_n 0, 1) := by decide +kernel
theorem dX10_fail_8 : decode cX10_fail 8 = .ok (.sipush (-1000), 3) := by decide +kernel
theorem dX10_fail_11 : decode cX10_fail 11 = .ok (.iload_n 1, 1) := by decide +kernel
theorem dX10_fail_12 : decode cX10_fail 12 = .ok (.imul, 1) := by decide +kernel
theorem dX10_fail_13 : decode cX10_fail 13 = .ok (.iload_n 2, 1) := by decide +kernel
theorem dX10_fail_14 : decode cX10_fail 14 = .ok (.isub, 1) := by decide +kernel
theorem dX10_fail_15 : decode cX10_fail 15 = .ok (.putfield 28, 3) := by decide +kernel
theorem dX10_fail_18 : decode cX10_fail 18 = .ok (.return_, 1) := by decide +kernel
theorem dX10_goesOn_0 : decode cX10_goesOn 0 = .ok (.aload_n 0, 1) := by decide +kernel
theorem dX10_goesOn_1 : decode cX10_goesOn 1 = .ok (.getfield 28, 3) := by decide +kernel
theorem dX10_goesOn_4 : decode cX10_goesOn 4 = .ok (.ifCond .ne 18, 3) := by decide +kernel
theorem dX10_goesOn_7 : decode cX10_goesOn 7 = .ok (.aload_n 0, 1) := by decide +kernel
theorem dX10_goesOn_8 : decode cX10_goesOn 8 = .ok (.getfield 22, 3) := by decide +kernel
theorem dX10_goesOn_11 : decode cX10_goesOn 11 = .ok (.aload_n 0, 1) := by decide +kernel
theorem dX10_goesOn_12 : decode cX10_goesOn 12 = .ok (.getfield 19, 3) := by decide +kernel
theorem dX10_goesOn_15 : decode cX10_goesOn 15 = .ok (.if_icmp .ge 7, 3) := by decide +kernel
theorem dX10_goesOn_18 : decode cX10_goesOn 18 = .ok (.iconst 1, 1) := by decide +kernel
theorem dX10_goesOn_19 : decode cX10_goesOn 19 = .ok (.goto 4, 3) := by decide +kernel
theorem dX10_goesOn_22 : decode cX10_goesOn 22 = .ok (.iconst 0, 1) := by decide +kernel
theorem dX10_goesOn_23 : decode cX10_goesOn 23 = .ok (.ireturn, 1) := by decide +kernel
theorem dX10_stands_0 : decode cX10_stands 0 = .ok (.aload_n 0, 1) := by decide +kernel
theorem dX10_stands_1 : decode cX10_stands 1 = .ok (.getfield 28, 3) := by decide +kernel
theorem dX10_stands_4 : decode cX10_stands 4 = .ok (.ifCond .ne 15, 3) := by decide +kernel
theorem dX10_stands_7 : decode cX10_stands 7 = .ok (.aload_n 0, 1) := by decide +kernel
theorem dX10_stands_8 : decode cX10_stands 8 = .ok (.getfield 25, 3) := by decide +kernel
theorem dX10_stands_11 : decode cX10_stands 11 = .ok (.iload_n 1, 1) := by decide +kernel
theorem dX10_stands_12 : decode cX10_stands 12 = .ok (.if_icmp .ne 7, 3) := by decide +kernel
theorem dX10_stands_15 : decode cX10_stands 15 = .ok (.iconst 1, 1) := by decide +kernel
theorem dX10_stands_16 : decode cX10_stands 16 = .ok (.goto 4, 3) := by decide +kernel
theorem dX10_stands_19 : decode cX10_stands 19 = .ok (.iconst 0, 1) := by decide +kernel
theorem dX10_stands_20 : decode cX10_stands 20 = .ok (.ireturn, 1) := by decide +kernel
theorem dX10_take_0 : decode cX10_take 0 = .ok (.aload_n 0, 1) := by decide +kernel
theorem dX10_take_1 : decode cX10_take 1 = .ok (.getfield 25, 3) := by decide +kernel
theorem dX10_take_4 : decode cX10_take 4 = .ok (.iload_n 1, 1) := by decide +kernel
theorem dX10_take_5 : decode cX10_take 5 = .ok (.if_icmp .ne 10, 3) := by decide +kernel
theorem dX10_take_8 : decode cX10_take 8 = .ok (.aload_n 0, 1) := by decide +kernel
theorem dX10_take_9 : decode cX10_take 9 = .ok (.invokevirtual 41, 3) := by decide +kernel
theorem dX10_take_12 : decode cX10_take 12 = .ok (.goto 12, 3) := by decide +kernel
theorem dX10_take_15 : decode cX10_take 15 = .ok (.aload_n 0, 1) := by decide +kernel
theorem dX10_take_16 : decode cX10_take 16 = .ok (.iconst 1, 1) := by decide +kernel
theorem dX10_take_17 : decode cX10_take 17 = .ok (.aload_n 0, 1) := by decide +kernel
theorem dX10_take_18 : decode cX10_take 18 = .ok (.getfield 22, 3) := by decide +kernel
theorem dX10_take_21 : decode cX10_take 21 = .ok (.invokevirtual 44, 3) := by decide +kernel
theorem dX10_take_24 : decode cX10_take 24 = .ok (.return_, 1) := by decide +kernel
theorem dX10_number_0 : decode cX10_number 0 = .ok (.iconst 0, 1) := by decide +kernel
theorem dX10_number_1 : decode cX10_number 1 = .ok (.istore_n 2, 1) := by decide +kernel
theorem dX10_number_2 : decode cX10_number 2 = .ok (.iconst 0, 1) := by decide +kernel
theorem dX10_number_3 : decode cX10_number 3 = .ok (.istore_n 3, 1) := by decide +kernel
theorem dX10_number_4 : decode cX10_number 4 = .ok (.iload_n 3, 1) := by decide +kernel
theorem dX10_number_5 : decode cX10_number 5 = .ok (.iload_n 1, 1) := by decide +kernel
theorem dX10_number_6 : decode cX10_number 6 = .ok (.if_icmp .ge 44, 3) := by decide +kernel
theorem dX10_number_9 : decode cX10_number 9 = .ok (.aload_n 0, 1) := by decide +kernel
theorem dX10_number_10 : decode cX10_number 10 = .ok (.getfield 25, 3) := by decide +kernel
theorem dX10_number_13 : decode cX10_number 13 = .ok (.bipush 48, 2) := by decide +kernel
theorem dX10_number_15 : decode cX10_number 15 = .ok (.if_icmp .lt 35, 3) := by decide +kernel
theorem dX10_number_18 : decode cX10_number 18 = .ok (.aload_n 0, 1) := by decide +kernel
theorem dX10_number_19 : decode cX10_number 19 = .ok (.getfield 25, 3) := by decide +kernel
theorem dX10_number_22 : decode cX10_number 22 = .ok (.bipush 57, 2) := by decide +kernel
theorem dX10_number_24 : decode cX10_number 24 = .ok (.if_icmp .gt 26, 3) := by decide +kernel
theorem dX10_number_27 : decode cX10_number 27 = .ok (.iload_n 2, 1) := by decide +kernel
theorem dX10_number_28 : decode cX10_number 28 = .ok (.bipush 10, 2) := by decide +kernel
theorem dX10_number_30 : decode cX10_number 30 = .ok (.imul, 1) := by decide +kernel
theorem dX10_number_31 : decode cX10_number 31 = .ok (.aload_n 0, 1) := by decide +kernel
theorem dX10_number_32 : decode cX10_number 32 = .ok (.getfield 25, 3) := by decide +kernel
theorem dX10_number_35 : decode cX10_number 35 = .ok (.iadd, 1) := by decide +kernel
theorem dX10_number_36 : decode cX10_number 36 = .ok (.bipush 48, 2) := by decide +kernel
theorem dX10_number_38 : decode cX10_number 38 = .ok (.isub, 1) := by decide +kernel
theorem dX10_number_39 : decode cX10_number 39 = .ok (.istore_n 2, 1) := by decide +kernel
theorem dX10_number_40 : decode cX10_number 40 = .ok (.iinc 3 1, 3) := by decide +kernel
theorem dX10_number_43 : decode cX10_number 43 = .ok (.aload_n 0, 1) := by decide +kernel
theorem dX10_number_44 : decode cX10_number 44 = .ok (.invokevirtual 41, 3) := by decide +kernel
theorem dX10_number_47 : decode cX10_number 47 = .ok (.goto (-43), 3) := by decide +kernel
theorem dX10_number_50 : decode cX10_number 50 = .ok (.iload_n 3, 1) := by decide +kernel
theorem dX10_number_51 : decode cX10_number 51 = .ok (.ifCond .ne 15, 3) := by decide +kernel
theorem dX10_number_54 : decode cX10_number 54 = .ok (.aload_n 0, 1) := by decide +kernel
theorem dX10_number_55 : decode cX10_number 55 = .ok (.iconst 1, 1) := by decide +kernel
theorem dX10_number_56 : decode cX10_number 56 = .ok (.aload_n 0, 1) := by decide +kernel
theorem dX10_number_57 : decode cX10_number 57 = .ok (.getfield 22, 3) := by decide +kernel
theorem dX10_number_60 : decode cX10_number 60 = .ok (.invokevirtual 44, 3) := by decide +kernel
theorem dX10_number_63 : decode cX10_number 63 = .ok (.goto 30, 3) := by decide +kernel
theorem dX10_number_66 : decode cX10_number 66 = .ok (.aload_n 0, 1) := by decide +kernel
theorem dX10_number_67 : decode cX10_number 67 = .ok (.getfield 25, 3) := by decide +kernel
theorem dX10_number_70 : decode cX10_number 70 = .ok (.bipush 48, 2) := by decide +kernel
theorem dX10_number_72 : decode cX10_number 72 = .ok (.if_icmp .lt 21, 3) := by decide +kernel
theorem dX10_number_75 : decode cX10_number 75 = .ok (.aload_n 0, 1) := by decide +kernel
theorem dX10_number_76 : decode cX10_number 76 = .ok (.getfield 25, 3) := by decide +kernel
theorem dX10_number_79 : decode cX10_number 79 = .ok (.bipush 57, 2) := by decide +kernel
theorem dX10_number_81 : decode cX10_number 81 = .ok (.if_icmp .gt 12, 3) := by decide +kernel
theorem dX10_number_84 : decode cX10_number 84 = .ok (.aload_n 0, 1) := by decide +kernel
theorem dX10_number_85 : decode cX10_number 85 = .ok (.iconst 2, 1) := by decide +kernel
theorem dX10_number_86 : decode cX10_number 86 = .ok (.aload_n 0, 1) := by decide +kernel
theorem dX10_number_87 : decode cX10_number 87 = .ok (.getfield 22, 3) := by decide +kernel
theorem dX10_number_90 : decode cX10_number 90 = .ok (.invokevirtual 44, 3) := by decide +kernel
theorem dX10_number_93 : decode cX10_number 93 = .ok (.iload_n 2, 1) := by decide +kernel
theorem dX10_number_94 : decode cX10_number 94 = .ok (.ireturn, 1) := by decide +kernel
def lp_X10_add_3 (F : Nat) : Nat → Int32 → Int32 → jS → Option jS
  | 0, _, _, _ => none
  | n + 1, x1, x2, σ => (if x2 < 0 then some σ else (if (σ 1 1) < (260 : Int32) then (if jin (σ 1 1) 260 = true then (lt (js σ 2 (σ 1 1).toNatClampNeg (((x1.toUInt32 >>> (x2.toUInt32 &&& Int32.toUInt32 31)).toInt32) &&& (255 : Int32))) fun σ1 => (lt (js σ1 1 1 ((σ1 1 1) + (1 : Int32))) fun σ3 => (lp_X10_add_3 F n x1 ((x2 + (-8 : Int32))) σ3))) else none) else some σ))
set_option maxHeartbeats 4000000 in
set_option maxRecDepth 100000 in
theorem lp_X10_add_3_ok {G : jG} (C : jc cfX 70 G cX10_add RX10 3 none 0) (F : Nat) {v : jS} : ∀ (n : Nat) (x1 : Int32) (x2 : Int32) (σ : jS), lp_X10_add_3 F n x1 x2 σ = some v → JX G 3 [(0, .ref (vad (gV G) 1)), (1, .int x1), (2, .int x2)] [] σ (0, v) := by
  intro n
  induction n with
  | zero =>
    intro x1 x2 σ hm
    rw [lp_X10_add_3] at hm
    cases hm
  | succ n ih =>
    intro x1 x2 σ hm
    rw [lp_X10_add_3] at hm
    refine j_iloadn (pc := 3) C 2 dX10_add_3 rfl rfl ?_
    refine j_if_lt (tgt := 51) (pc := 4) C dX10_add_4 (by decide) hm (fun _ hm => ?_) (fun _ hm => ?_)
    · exact j_vret (pc := 51) C rfl dX10_add_51 hm
    · refine j_aloadn (pc := 7) C 0 dX10_add_7 rfl rfl ?_
      refine gf_X10_15 (c := 1) (pc := 8) C kx_1 dX10_add_8 ?_
      refine j_aloadn (pc := 11) C 0 dX10_add_11 rfl rfl ?_
      refine gf_X10_9 (c := 1) (pc := 12) C kx_1 dX10_add_12 ?_
      refine j_alen (c := 2) (n := 260) (v := 260) (pc := 15) C (kX_lt kx_2 (by decide)) (cx_a kx_2 lx_2 _) (by decide) dX10_add_15 ?_
      refine j_icmp_ge (tgt := 51) (pc := 16) C dX10_add_16 (by decide) hm (fun _ hm => ?_) (fun _ hm => ?_)
      · refine j_aloadn (pc := 19) C 0 dX10_add_19 rfl rfl ?_
        refine gf_X10_9 (c := 1) (pc := 20) C kx_1 dX10_add_20 ?_
        refine j_aloadn (pc := 23) C 0 dX10_add_23 rfl rfl ?_
        refine gf_X10_15 (c := 1) (pc := 24) C kx_1 dX10_add_24 ?_
        refine j_iloadn (pc := 27) C 1 dX10_add_27 rfl rfl ?_
        refine j_iloadn (pc := 28) C 2 dX10_add_28 rfl rfl ?_
        refine j_iushr (pc := 29) C dX10_add_29 ?_
        refine j_sipush (v := 255) (pc := 30) C dX10_add_30 (by decide) ?_
        refine j_iand (pc := 33) C dX10_add_33 ?_
        refine j_guard hm (fun hg2 hm => ?_)
        refine j_iastL (c := 2) (n := 260) (pc := 34) C (kX_lt kx_2 (by decide)) (cx_a kx_2 lx_2) hg2 dX10_add_34 hm (fun σ1 hm => ?_)
        refine j_aloadn (pc := 35) C 0 dX10_add_35 rfl rfl ?_
        refine j_dup (pc := 36) C dX10_add_36 rfl ?_
        refine gf_X10_15 (c := 1) (pc := 37) C kx_1 dX10_add_37 ?_
        refine j_iconst (v := 1) (pc := 40) C dX10_add_40 (by decide) ?_
        refine j_iadd (pc := 41) C dX10_add_41 ?_
        refine pf_X10_15 (c := 1) (pc := 42) C kx_1 dX10_add_42 hm (fun σ3 hm => ?_)
        refine j_iinc (v := (x2 + (-8 : Int32))) (ls' := [(2, .int (x2 + (-8 : Int32))), (0, .ref (vad (gV G) 1)), (1, .int x1)]) (pc := 45) C 2 dX10_add_45 rfl rfl (by decide) rfl ?_
        refine j_goto (tgt := 3) (pc := 48) C dX10_add_48 (by decide) ?_
        refine j_ls [1, 2, 0] rfl ?_
        exact ih _ _ _ hm
      · exact j_vret (pc := 51) C rfl dX10_add_51 hm

def mX10_add (F : Nat) (x1 : Int32) (σ : jS) : Option jS := (lp_X10_add_3 F F x1 (24 : Int32) σ)
set_option maxHeartbeats 4000000 in
set_option maxRecDepth 100000 in
theorem kX10_add {V : jV} {F : Nat} {x1 : Int32} {σ : jS} {v : jS} (hm : mX10_add F x1 σ = some v) : Ct cfX 70 V yX10_add cX10_add 3 none 0 [.ref (vad V 1), .int x1] σ (0, v) := by
  refine j_start (own := RX10) (by decide) rfl (Nat.le_of_ble_eq_true rfl) ?_
  intro G hV C
  subst hV
  unfold mX10_add at hm
  show JX G 0 [(0, .ref (vad (gV G) 1)), (1, .int x1)] [] σ (0, v)
  refine j_bipush (v := 24) (pc := 0) C dX10_add_0 (by decide) ?_
  refine j_istoren (ls' := [(2, .int (24 : Int32)), (0, .ref (vad (gV G) 1)), (1, .int x1)]) (pc := 2) C dX10_add_2 rfl (by decide) rfl ?_
  refine j_ls [1, 2, 0] rfl ?_
  exact lp_X10_add_3_ok C F  F _ _ _ hm

def mX10_has (F : Nat) (x1 : Int32) (σ : jS) : Option Int32 := (if (σ 1 1) < x1 then some (0 : Int32) else some (1 : Int32))
set_option maxHeartbeats 4000000 in
set_option maxRecDepth 100000 in
theorem kX10_has {V : jV} {F : Nat} {x1 : Int32} {σ : jS} {v : Int32} (hm : mX10_has F x1 σ = some v) : Ct cfX 70 V yX10_has cX10_has 2 (some .boolean) 0 [.ref (vad V 1), .int x1] σ (v, σ) := by
  refine j_start (own := RX10) (by decide) rfl (Nat.le_of_ble_eq_true rfl) ?_
  intro G hV C
  subst hV
  unfold mX10_has at hm
  show JX G 0 [(0, .ref (vad (gV G) 1)), (1, .int x1)] [] σ (v, σ)
  refine j_iloadn (pc := 0) C 1 dX10_has_0 rfl rfl ?_
  refine j_aloadn (pc := 1) C 0 dX10_has_1 rfl rfl ?_
  refine gf_X10_15 (c := 1) (pc := 2) C kx_1 dX10_has_2 ?_
  refine j_icmp_gt (tgt := 12) (pc := 5) C dX10_has_5 (by decide) hm (fun _ hm => ?_) (fun _ hm => ?_)
  · refine j_iconst (v := 0) (pc := 12) C dX10_has_12 (by decide) ?_
    exact j_zret (pc := 13) C rfl rfl dX10_has_13 hm
  · refine j_iconst (v := 1) (pc := 8) C dX10_has_8 (by decide) ?_
    refine j_goto (tgt := 13) (pc := 9) C dX10_has_9 (by decide) ?_
    exact j_zret (pc := 13) C rfl rfl dX10_has_13 hm

def mX10_open (F : Nat) (x1 : Int32) (σ : jS) : Option jS := (lt (js σ 1 2 (imin x1 (260 : Int32))) fun σ1 => (lt (js σ1 1 3 (0 : Int32)) fun σ2 => (if 0 < (σ2 1 2) then (lt (js σ2 1 4 (σ2 2 0)) fun σ3 => (lt (js σ3 1 5 (0 : Int32)) fun σ4 => (lt (js σ4 1 1 (0 : Int32)) fun σ5 => some σ5))) else (lt (js σ2 1 4 (-1 : Int32)) fun σ6 => (lt (js σ6 1 5 (0 : Int32)) fun σ7 => (lt (js σ7 1 1 (0 : Int32)) fun σ8 => some σ8))))))
set_option maxHeartbeats 4000000 in
set_option maxRecDepth 100000 in
theorem kX10_open {V : jV} {F : Nat} {x1 : Int32} {σ : jS} {v : jS} (hm : mX10_open F x1 σ = some v) : Ct cfX 70 V yX10_open cX10_open 2 none 1 [.ref (vad V 1), .int x1] σ (0, v) := by
  refine j_start (own := RX10) (by decide) rfl (Nat.le_of_ble_eq_true rfl) ?_
  intro G hV C
  subst hV
  unfold mX10_open at hm
  show JX G 0 [(0, .ref (vad (gV G) 1)), (1, .int x1)] [] σ (0, v)
  refine j_aloadn (pc := 0) C 0 dX10_open_0 rfl rfl ?_
  refine j_iloadn (pc := 1) C 1 dX10_open_1 rfl rfl ?_
  refine j_aloadn (pc := 2) C 0 dX10_open_2 rfl rfl ?_
  refine gf_X10_9 (c := 1) (pc := 3) C kx_1 dX10_open_3 ?_
  refine j_alen (c := 2) (n := 260) (v := 260) (pc := 6) C (kX_lt kx_2 (by decide)) (cx_a kx_2 lx_2 _) (by decide) dX10_open_6 ?_
  refine j_mminD (pc := 7) C tw_2_161 tw_2_162 tw_1_14 tw_2_163 (by decide) (Nat.le_of_ble_eq_true rfl) dX10_open_7 ?_
  refine pf_X10_19 (c := 1) (pc := 10) C kx_1 dX10_open_10 hm (fun σ1 hm => ?_)
  refine j_aloadn (pc := 13) C 0 dX10_open_13 rfl rfl ?_
  refine j_iconst (v := 0) (pc := 14) C dX10_open_14 (by decide) ?_
  refine pf_X10_22 (c := 1) (pc := 15) C kx_1 dX10_open_15 hm (fun σ2 hm => ?_)
  refine j_aloadn (pc := 18) C 0 dX10_open_18 rfl rfl ?_
  refine j_aloadn (pc := 19) C 0 dX10_open_19 rfl rfl ?_
  refine gf_X10_19 (c := 1) (pc := 20) C kx_1 dX10_open_20 ?_
  refine j_if_le (tgt := 35) (pc := 23) C dX10_open_23 (by decide) hm (fun _ hm => ?_) (fun _ hm => ?_)
  · refine j_aloadn (pc := 26) C 0 dX10_open_26 rfl rfl ?_
    refine gf_X10_9 (c := 1) (pc := 27) C kx_1 dX10_open_27 ?_
    refine j_iconst (v := 0) (pc := 30) C dX10_open_30 (by decide) ?_
    refine j_ialdK (c := 2) (n := 260) (k := 0) (pc := 31) C (kX_lt kx_2 (by decide)) (cx_a kx_2 lx_2 _) rfl (by decide) dX10_open_31 ?_
    refine j_goto (tgt := 36) (pc := 32) C dX10_open_32 (by decide) ?_
    refine pf_X10_25 (c := 1) (pc := 36) C kx_1 dX10_open_36 hm (fun σ3 hm => ?_)
    refine j_aloadn (pc := 39) C 0 dX10_open_39 rfl rfl ?_
    refine j_iconst (v := 0) (pc := 40) C dX10_open_40 (by decide) ?_
    refine pf_X10_28 (c := 1) (pc := 41) C kx_1 dX10_open_41 hm (fun σ4 hm => ?_)
    refine j_aloadn (pc := 44) C 0 dX10_open_44 rfl rfl ?_
    refine j_iconst (v := 0) (pc := 45) C dX10_open_45 (by decide) ?_
    refine pf_X10_15 (c := 1) (pc := 46) C kx_1 dX10_open_46 hm (fun σ5 hm => ?_)
    exact j_vret (pc := 49) C rfl dX10_open_49 hm
  · refine j_iconst (v := -1) (pc := 35) C dX10_open_35 (by decide) ?_
    refine pf_X10_25 (c := 1) (pc := 36) C kx_1 dX10_open_36 hm (fun σ6 hm => ?_)
    refine j_aloadn (pc := 39) C 0 dX10_open_39 rfl rfl ?_
    refine j_iconst (v := 0) (pc := 40) C dX10_open_40 (by decide) ?_
    refine pf_X10_28 (c := 1) (pc := 41) C kx_1 dX10_open_41 hm (fun σ7 hm => ?_)
    refine j_aloadn (pc := 44) C 0 dX10_open_44 rfl rfl ?_
    refine j_iconst (v := 0) (pc := 45) C dX10_open_45 (by decide) ?_
    refine pf_X10_15 (c := 1) (pc := 46) C kx_1 dX10_open_46 hm (fun σ8 hm => ?_)
    exact j_vret (pc := 49) C rfl dX10_open_49 hm

def mX10_byteAt (F : Nat) (x1 : Int32) (σ : jS) : Option Int32 := (if x1 < 0 then some (0 : Int32) else (if x1 < (260 : Int32) then (if jin x1 260 = true then some (σ 2 x1.toNatClampNeg) else none) else some (0 : Int32)))
set_option maxHeartbeats 4000000 in
set_option maxRecDepth 100000 in
theorem kX10_byteAt {V : jV} {F : Nat} {x1 : Int32} {σ : jS} {v : Int32} (hm : mX10_byteAt F x1 σ = some v) : Ct cfX 70 V yX10_byteAt cX10_byteAt 2 (some .int) 0 [.ref (vad V 1), .int x1] σ (v, σ) := by
  refine j_start (own := RX10) (by decide) rfl (Nat.le_of_ble_eq_true rfl) ?_
  intro G hV C
  subst hV
  unfold mX10_byteAt at hm
  show JX G 0 [(0, .ref (vad (gV G) 1)), (1, .int x1)] [] σ (v, σ)
  refine j_iloadn (pc := 0) C 1 dX10_byteAt_0 rfl rfl ?_
  refine j_if_lt (tgt := 22) (pc := 1) C dX10_byteAt_1 (by decide) hm (fun _ hm => ?_) (fun _ hm => ?_)
  · refine j_iconst (v := 0) (pc := 22) C dX10_byteAt_22 (by decide) ?_
    exact j_iret (pc := 23) C rfl dX10_byteAt_23 hm
  · refine j_iloadn (pc := 4) C 1 dX10_byteAt_4 rfl rfl ?_
    refine j_aloadn (pc := 5) C 0 dX10_byteAt_5 rfl rfl ?_
    refine gf_X10_9 (c := 1) (pc := 6) C kx_1 dX10_byteAt_6 ?_
    refine j_alen (c := 2) (n := 260) (v := 260) (pc := 9) C (kX_lt kx_2 (by decide)) (cx_a kx_2 lx_2 _) (by decide) dX10_byteAt_9 ?_
    refine j_icmp_ge (tgt := 22) (pc := 10) C dX10_byteAt_10 (by decide) hm (fun _ hm => ?_) (fun _ hm => ?_)
    · refine j_aloadn (pc := 13) C 0 dX10_byteAt_13 rfl rfl ?_
      refine gf_X10_9 (c := 1) (pc := 14) C kx_1 dX10_byteAt_14 ?_
      refine j_iloadn (pc := 17) C 1 dX10_byteAt_17 rfl rfl ?_
      refine j_guard hm (fun hg1 hm => ?_)
      refine j_iald (c := 2) (n := 260) (pc := 18) C (kX_lt kx_2 (by decide)) (cx_a kx_2 lx_2 _) hg1 dX10_byteAt_18 ?_
      refine j_goto (tgt := 23) (pc := 19) C dX10_byteAt_19 (by decide) ?_
      exact j_iret (pc := 23) C rfl dX10_byteAt_23 hm
    · refine j_iconst (v := 0) (pc := 22) C dX10_byteAt_22 (by decide) ?_
      exact j_iret (pc := 23) C rfl dX10_byteAt_23 hm

def mX10_wordAt (F : Nat) (x1 : Int32) (σ : jS) : Option Int32 := (Option.bind (mX10_byteAt F (((2 : Int32) * x1)) σ) fun q1 => (Option.bind (mX10_byteAt F ((((2 : Int32) * x1) + (1 : Int32))) σ) fun q2 => some ((q1 * (256 : Int32)) + q2)))
set_option maxHeartbeats 4000000 in
set_option maxRecDepth 100000 in
theorem kX10_wordAt {V : jV} {F : Nat} {x1 : Int32} {σ : jS} {v : Int32} (hm : mX10_wordAt F x1 σ = some v) : Ct cfX 70 V yX10_wordAt cX10_wordAt 2 (some .int) 1 [.ref (vad V 1), .int x1] σ (v, σ) := by
  refine j_start (own := RX10) (by decide) rfl (Nat.le_of_ble_eq_true rfl) ?_
  intro G hV C
  subst hV
  unfold mX10_wordAt at hm
  show JX G 0 [(0, .ref (vad (gV G) 1)), (1, .int x1)] [] σ (v, σ)
  refine j_aloadn (pc := 0) C 0 dX10_wordAt_0 rfl rfl ?_
  refine j_iconst (v := 2) (pc := 1) C dX10_wordAt_1 (by decide) ?_
  refine j_iloadn (pc := 2) C 1 dX10_wordAt_2 rfl rfl ?_
  refine j_imul (pc := 3) C dX10_wordAt_3 ?_
  obtain ⟨q1, hq1, hm⟩ := Option.bind_eq_some_iff.mp hm
  refine cl_X10_37 (c := 1) (pc := 4) C kx_1 (kX10_byteAt hq1) (by decide) (Nat.le_of_ble_eq_true rfl) dX10_wordAt_4 ?_
  refine j_sipush (v := 256) (pc := 7) C dX10_wordAt_7 (by decide) ?_
  refine j_imul (pc := 10) C dX10_wordAt_10 ?_
  refine j_aloadn (pc := 11) C 0 dX10_wordAt_11 rfl rfl ?_
  refine j_iconst (v := 2) (pc := 12) C dX10_wordAt_12 (by decide) ?_
  refine j_iloadn (pc := 13) C 1 dX10_wordAt_13 rfl rfl ?_
  refine j_imul (pc := 14) C dX10_wordAt_14 ?_
  refine j_iconst (v := 1) (pc := 15) C dX10_wordAt_15 (by decide) ?_
  refine j_iadd (pc := 16) C dX10_wordAt_16 ?_
  obtain ⟨q2, hq2, hm⟩ := Option.bind_eq_some_iff.mp hm
  refine cl_X10_37 (c := 1) (pc := 17) C kx_1 (kX10_byteAt hq2) (by decide) (Nat.le_of_ble_eq_true rfl) dX10_wordAt_17 ?_
  refine j_iadd (pc := 20) C dX10_wordAt_20 ?_
  exact j_iret (pc := 21) C rfl dX10_wordAt_21 hm

def jn_X10_step_21 (F : Nat) (σ : jS) : Option jS := (if (σ 1 3) < 0 then (lt (js σ 1 4 (-1 : Int32)) fun σ2 => some σ2) else (if (σ 1 3) < (σ 1 2) then (lt (σ 1 3) fun y3 => (if jin y3 260 = true then (lt (js σ 1 4 (σ 2 y3.toNatClampNeg)) fun σ5 => some σ5) else none)) else (lt (js σ 1 4 (-1 : Int32)) fun σ6 => some σ6)))
set_option maxHeartbeats 4000000 in
set_option maxRecDepth 100000 in
theorem jn_X10_step_21_ok {G : jG} (C : jc cfX 70 G cX10_step RX10 1 none 0) (F : Nat) {v : jS} : ∀ (σ : jS), jn_X10_step_21 F σ = some v → JX G 21 [(0, .ref (vad (gV G) 1))] [] σ (0, v) := by
  intro σ hm
  unfold jn_X10_step_21 at hm
  refine j_aloadn (pc := 21) C 0 dX10_step_21 rfl rfl ?_
  refine j_aloadn (pc := 22) C 0 dX10_step_22 rfl rfl ?_
  refine gf_X10_22 (c := 1) (pc := 23) C kx_1 dX10_step_23 ?_
  refine j_if_lt (tgt := 52) (pc := 26) C dX10_step_26 (by decide) hm (fun _ hm => ?_) (fun _ hm => ?_)
  · refine j_iconst (v := -1) (pc := 52) C dX10_step_52 (by decide) ?_
    refine pf_X10_25 (c := 1) (pc := 53) C kx_1 dX10_step_53 hm (fun σ2 hm => ?_)
    exact j_vret (pc := 56) C rfl dX10_step_56 hm
  · refine j_aloadn (pc := 29) C 0 dX10_step_29 rfl rfl ?_
    refine gf_X10_22 (c := 1) (pc := 30) C kx_1 dX10_step_30 ?_
    refine j_aloadn (pc := 33) C 0 dX10_step_33 rfl rfl ?_
    refine gf_X10_19 (c := 1) (pc := 34) C kx_1 dX10_step_34 ?_
    refine j_icmp_ge (tgt := 52) (pc := 37) C dX10_step_37 (by decide) hm (fun _ hm => ?_) (fun _ hm => ?_)
    · refine j_aloadn (pc := 40) C 0 dX10_step_40 rfl rfl ?_
      refine gf_X10_9 (c := 1) (pc := 41) C kx_1 dX10_step_41 ?_
      refine j_aloadn (pc := 44) C 0 dX10_step_44 rfl rfl ?_
      refine gf_X10_22 (c := 1) (pc := 45) C kx_1 dX10_step_45 ?_
      refine j_lti hm (fun y3 hm => ?_)
      refine j_guard hm (fun hg4 hm => ?_)
      refine j_iald (c := 2) (n := 260) (pc := 48) C (kX_lt kx_2 (by decide)) (cx_a kx_2 lx_2 _) hg4 dX10_step_48 ?_
      refine j_goto (tgt := 53) (pc := 49) C dX10_step_49 (by decide) ?_
      refine pf_X10_25 (c := 1) (pc := 53) C kx_1 dX10_step_53 hm (fun σ5 hm => ?_)
      exact j_vret (pc := 56) C rfl dX10_step_56 hm
    · refine j_iconst (v := -1) (pc := 52) C dX10_step_52 (by decide) ?_
      refine pf_X10_25 (c := 1) (pc := 53) C kx_1 dX10_step_53 hm (fun σ6 hm => ?_)
      exact j_vret (pc := 56) C rfl dX10_step_56 hm

def mX10_step (F : Nat) (σ : jS) : Option jS := (if (σ 1 3) < (σ 1 2) then (lt (js σ 1 3 ((σ 1 3) + (1 : Int32))) fun σ1 => (jn_X10_step_21 F σ1)) else (jn_X10_step_21 F σ))
set_option maxHeartbeats 4000000 in
set_option maxRecDepth 100000 in
theorem kX10_step {V : jV} {F : Nat} {σ : jS} {v : jS} (hm : mX10_step F σ = some v) : Ct cfX 70 V yX10_step cX10_step 1 none 0 [.ref (vad V 1)] σ (0, v) := by
  refine j_start (own := RX10) (by decide) rfl (Nat.le_of_ble_eq_true rfl) ?_
  intro G hV C
  subst hV
  unfold mX10_step at hm
  show JX G 0 [(0, .ref (vad (gV G) 1))] [] σ (0, v)
  refine j_aloadn (pc := 0) C 0 dX10_step_0 rfl rfl ?_
  refine gf_X10_22 (c := 1) (pc := 1) C kx_1 dX10_step_1 ?_
  refine j_aloadn (pc := 4) C 0 dX10_step_4 rfl rfl ?_
  refine gf_X10_19 (c := 1) (pc := 5) C kx_1 dX10_step_5 ?_
  refine j_icmp_ge (tgt := 21) (pc := 8) C dX10_step_8 (by decide) hm (fun _ hm => ?_) (fun _ hm => ?_)
  · refine j_aloadn (pc := 11) C 0 dX10_step_11 rfl rfl ?_
    refine j_dup (pc := 12) C dX10_step_12 rfl ?_
    refine gf_X10_22 (c := 1) (pc := 13) C kx_1 dX10_step_13 ?_
    refine j_iconst (v := 1) (pc := 16) C dX10_step_16 (by decide) ?_
    refine j_iadd (pc := 17) C dX10_step_17 ?_
    refine pf_X10_22 (c := 1) (pc := 18) C kx_1 dX10_step_18 hm (fun σ1 hm => ?_)
    exact jn_X10_step_21_ok C F  _ hm
  · exact jn_X10_step_21_ok C F  _ hm

def mX10_fail (F : Nat) (x1 : Int32) (x2 : Int32) (σ : jS) : Option jS := (if (σ 1 5) = 0 then (lt (js σ 1 5 (((-1000 : Int32) * x1) - x2)) fun σ1 => some σ1) else some σ)
set_option maxHeartbeats 4000000 in
set_option maxRecDepth 100000 in
theorem kX10_fail {V : jV} {F : Nat} {x1 : Int32} {x2 : Int32} {σ : jS} {v : jS} (hm : mX10_fail F x1 x2 σ = some v) : Ct cfX 70 V yX10_fail cX10_fail 3 none 0 [.ref (vad V 1), .int x1, .int x2] σ (0, v) := by
  refine j_start (own := RX10) (by decide) rfl (Nat.le_of_ble_eq_true rfl) ?_
  intro G hV C
  subst hV
  unfold mX10_fail at hm
  show JX G 0 [(0, .ref (vad (gV G) 1)), (1, .int x1), (2, .int x2)] [] σ (0, v)
  refine j_aloadn (pc := 0) C 0 dX10_fail_0 rfl rfl ?_
  refine gf_X10_28 (c := 1) (pc := 1) C kx_1 dX10_fail_1 ?_
  refine j_if_ne (tgt := 18) (pc := 4) C dX10_fail_4 (by decide) hm (fun _ hm => ?_) (fun _ hm => ?_)
  · refine j_aloadn (pc := 7) C 0 dX10_fail_7 rfl rfl ?_
    refine j_sipush (v := -1000) (pc := 8) C dX10_fail_8 (by decide) ?_
    refine j_iloadn (pc := 11) C 1 dX10_fail_11 rfl rfl ?_
    refine j_imul (pc := 12) C dX10_fail_12 ?_
    refine j_iloadn (pc := 13) C 2 dX10_fail_13 rfl rfl ?_
    refine j_isub (pc := 14) C dX10_fail_14 ?_
    refine pf_X10_28 (c := 1) (pc := 15) C kx_1 dX10_fail_15 hm (fun σ1 hm => ?_)
    exact j_vret (pc := 18) C rfl dX10_fail_18 hm
  · exact j_vret (pc := 18) C rfl dX10_fail_18 hm

def mX10_goesOn (F : Nat) (σ : jS) : Option Int32 := (if (σ 1 5) = 0 then (if (σ 1 3) < (σ 1 2) then some (1 : Int32) else some (0 : Int32)) else some (0 : Int32))
set_option maxHeartbeats 4000000 in
set_option maxRecDepth 100000 in
theorem kX10_goesOn {V : jV} {F : Nat} {σ : jS} {v : Int32} (hm : mX10_goesOn F σ = some v) : Ct cfX 70 V yX10_goesOn cX10_goesOn 1 (some .boolean) 0 [.ref (vad V 1)] σ (v, σ) := by
  refine j_start (own := RX10) (by decide) rfl (Nat.le_of_ble_eq_true rfl) ?_
  intro G hV C
  subst hV
  unfold mX10_goesOn at hm
  show JX G 0 [(0, .ref (vad (gV G) 1))] [] σ (v, σ)
  refine j_aloadn (pc := 0) C 0 dX10_goesOn_0 rfl rfl ?_
  refine gf_X10_28 (c := 1) (pc := 1) C kx_1 dX10_goesOn_1 ?_
  refine j_if_ne (tgt := 22) (pc := 4) C dX10_goesOn_4 (by decide) hm (fun _ hm => ?_) (fun _ hm => ?_)
  · refine j_aloadn (pc := 7) C 0 dX10_goesOn_7 rfl rfl ?_
    refine gf_X10_22 (c := 1) (pc := 8) C kx_1 dX10_goesOn_8 ?_
    refine j_aloadn (pc := 11) C 0 dX10_goesOn_11 rfl rfl ?_
    refine gf_X10_19 (c := 1) (pc := 12) C kx_1 dX10_goesOn_12 ?_
    refine j_icmp_ge (tgt := 22) (pc := 15) C dX10_goesOn_15 (by decide) hm (fun _ hm => ?_) (fun _ hm => ?_)
    · refine j_iconst (v := 1) (pc := 18) C dX10_goesOn_18 (by decide) ?_
      refine j_goto (tgt := 23) (pc := 19) C dX10_goesOn_19 (by decide) ?_
      exact j_zret (pc := 23) C rfl rfl dX10_goesOn_23 hm
    · refine j_iconst (v := 0) (pc := 22) C dX10_goesOn_22 (by decide) ?_
      exact j_zret (pc := 23) C rfl rfl dX10_goesOn_23 hm
  · refine j_iconst (v := 0) (pc := 22) C dX10_goesOn_22 (by decide) ?_
    exact j_zret (pc := 23) C rfl rfl dX10_goesOn_23 hm

def mX10_stands (F : Nat) (x1 : Int32) (σ : jS) : Option Int32 := (if (σ 1 5) = 0 then (if (σ 1 4) = x1 then some (1 : Int32) else some (0 : Int32)) else some (0 : Int32))
set_option maxHeartbeats 4000000 in
set_option maxRecDepth 100000 in
theorem kX10_stands {V : jV} {F : Nat} {x1 : Int32} {σ : jS} {v : Int32} (hm : mX10_stands F x1 σ = some v) : Ct cfX 70 V yX10_stands cX10_stands 2 (some .boolean) 0 [.ref (vad V 1), .int x1] σ (v, σ) := by
  refine j_start (own := RX10) (by decide) rfl (Nat.le_of_ble_eq_true rfl) ?_
  intro G hV C
  subst hV
  unfold mX10_stands at hm
  show JX G 0 [(0, .ref (vad (gV G) 1)), (1, .int x1)] [] σ (v, σ)
  refine j_aloadn (pc := 0) C 0 dX10_stands_0 rfl rfl ?_
  refine gf_X10_28 (c := 1) (pc := 1) C kx_1 dX10_stands_1 ?_
  refine j_if_ne (tgt := 19) (pc := 4) C dX10_stands_4 (by decide) hm (fun _ hm => ?_) (fun _ hm => ?_)
  · refine j_aloadn (pc := 7) C 0 dX10_stands_7 rfl rfl ?_
    refine gf_X10_25 (c := 1) (pc := 8) C kx_1 dX10_stands_8 ?_
    refine j_iloadn (pc := 11) C 1 dX10_stands_11 rfl rfl ?_
    refine j_icmp_ne (tgt := 19) (pc := 12) C dX10_stands_12 (by decide) hm (fun _ hm => ?_) (fun _ hm => ?_)
    · refine j_iconst (v := 1) (pc := 15) C dX10_stands_15 (by decide) ?_
      refine j_goto (tgt := 20) (pc := 16) C dX10_stands_16 (by decide) ?_
      exact j_zret (pc := 20) C rfl rfl dX10_stands_20 hm
    · refine j_iconst (v := 0) (pc := 19) C dX10_stands_19 (by decide) ?_
      exact j_zret (pc := 20) C rfl rfl dX10_stands_20 hm
  · refine j_iconst (v := 0) (pc := 19) C dX10_stands_19 (by decide) ?_
    exact j_zret (pc := 20) C rfl rfl dX10_stands_20 hm

def mX10_take (F : Nat) (x1 : Int32) (σ : jS) : Option jS := (if (σ 1 4) = x1 then (Option.bind (mX10_step F σ) fun q1 => some q1) else (Option.bind (mX10_fail F (1 : Int32) ((σ 1 3)) σ) fun q2 => some q2))
set_option maxHeartbeats 4000000 in
set_option maxRecDepth 100000 in
theorem kX10_take {V : jV} {F : Nat} {x1 : Int32} {σ : jS} {v : jS} (hm : mX10_take F x1 σ = some v) : Ct cfX 70 V yX10_take cX10_take 2 none 1 [.ref (vad V 1), .int x1] σ (0, v) := by
  refine j_start (own := RX10) (by decide) rfl (Nat.le_of_ble_eq_true rfl) ?_
  intro G hV C
  subst hV
  unfold mX10_take at hm
  show JX G 0 [(0, .ref (vad (gV G) 1)), (1, .int x1)] [] σ (0, v)
  refine j_aloadn (pc := 0) C 0 dX10_take_0 rfl rfl ?_
  refine gf_X10_25 (c := 1) (pc := 1) C kx_1 dX10_take_1 ?_
  refine j_iloadn (pc := 4) C 1 dX10_take_4 rfl rfl ?_
  refine j_icmp_ne (tgt := 15) (pc := 5) C dX10_take_5 (by decide) hm (fun _ hm => ?_) (fun _ hm => ?_)
  · refine j_aloadn (pc := 8) C 0 dX10_take_8 rfl rfl ?_
    obtain ⟨q1, hq1, hm⟩ := Option.bind_eq_some_iff.mp hm
    refine cl_X10_41 (c := 1) (pc := 9) C kx_1 (kX10_step hq1) (by decide) (Nat.le_of_ble_eq_true rfl) dX10_take_9 ?_
    refine j_goto (tgt := 24) (pc := 12) C dX10_take_12 (by decide) ?_
    exact j_vret (pc := 24) C rfl dX10_take_24 hm
  · refine j_aloadn (pc := 15) C 0 dX10_take_15 rfl rfl ?_
    refine j_iconst (v := 1) (pc := 16) C dX10_take_16 (by decide) ?_
    refine j_aloadn (pc := 17) C 0 dX10_take_17 rfl rfl ?_
    refine gf_X10_22 (c := 1) (pc := 18) C kx_1 dX10_take_18 ?_
    obtain ⟨q2, hq2, hm⟩ := Option.bind_eq_some_iff.mp hm
    refine cl_X10_44 (c := 1) (pc := 21) C kx_1 (kX10_fail hq2) (by decide) (Nat.le_of_ble_eq_true rfl) dX10_take_21 ?_
    exact j_vret (pc := 24) C rfl dX10_take_24 hm

def lp_X10_number_4 (F : Nat) (k50 : Int32 → Int32 → jS → Option (Int32 × jS)) : Nat → Int32 → Int32 → Int32 → jS → Option (Int32 × jS)
  | 0, _, _, _, _ => none
  | n + 1, x1, x2, x3, σ => (if x3 < x1 then (if (σ 1 4) < (48 : Int32) then (k50 x2 x3 σ) else (if (57 : Int32) < (σ 1 4) then (k50 x2 x3 σ) else (lt (((x2 * (10 : Int32)) + (σ 1 4)) - (48 : Int32)) fun y1 => (Option.bind (mX10_step F σ) fun q2 => (lp_X10_number_4 F k50 n x1 y1 ((x3 + (1 : Int32))) q2))))) else (k50 x2 x3 σ))
set_option maxHeartbeats 4000000 in
set_option maxRecDepth 100000 in
theorem lp_X10_number_4_ok {G : jG} (C : jc cfX 70 G cX10_number RX10 4 (some .int) 1) (F : Nat) {v : (Int32 × jS)} (k50 : Int32 → Int32 → jS → Option (Int32 × jS)) (hk50 : ∀ (x2 : Int32) (x3 : Int32) (σ : jS), k50 x2 x3 σ = some v → JX G 50 [(0, .ref (vad (gV G) 1)), (2, .int x2), (3, .int x3)] [] σ v) : ∀ (n : Nat) (x1 : Int32) (x2 : Int32) (x3 : Int32) (σ : jS), lp_X10_number_4 F k50 n x1 x2 x3 σ = some v → JX G 4 [(0, .ref (vad (gV G) 1)), (1, .int x1), (2, .int x2), (3, .int x3)] [] σ v := by
  intro n
  induction n with
  | zero =>
    intro x1 x2 x3 σ hm
    rw [lp_X10_number_4] at hm
    cases hm
  | succ n ih =>
    intro x1 x2 x3 σ hm
    rw [lp_X10_number_4] at hm
    refine j_iloadn (pc := 4) C 3 dX10_number_4 rfl rfl ?_
    refine j_iloadn (pc := 5) C 1 dX10_number_5 rfl rfl ?_
    refine j_icmp_ge (tgt := 50) (pc := 6) C dX10_number_6 (by decide) hm (fun _ hm => ?_) (fun _ hm => ?_)
    · refine j_aloadn (pc := 9) C 0 dX10_number_9 rfl rfl ?_
      refine gf_X10_25 (c := 1) (pc := 10) C kx_1 dX10_number_10 ?_
      refine j_bipush (v := 48) (pc := 13) C dX10_number_13 (by decide) ?_
      refine j_icmp_lt (tgt := 50) (pc := 15) C dX10_number_15 (by decide) hm (fun _ hm => ?_) (fun _ hm => ?_)
      · refine j_ls [0, 2, 3] rfl ?_
        exact hk50 _ _ _ hm
      · refine j_aloadn (pc := 18) C 0 dX10_number_18 rfl rfl ?_
        refine gf_X10_25 (c := 1) (pc := 19) C kx_1 dX10_number_19 ?_
        refine j_bipush (v := 57) (pc := 22) C dX10_number_22 (by decide) ?_
        refine j_icmp_gt (tgt := 50) (pc := 24) C dX10_number_24 (by decide) hm (fun _ hm => ?_) (fun _ hm => ?_)
        · refine j_ls [0, 2, 3] rfl ?_
          exact hk50 _ _ _ hm
        · refine j_iloadn (pc := 27) C 2 dX10_number_27 rfl rfl ?_
          refine j_bipush (v := 10) (pc := 28) C dX10_number_28 (by decide) ?_
          refine j_imul (pc := 30) C dX10_number_30 ?_
          refine j_aloadn (pc := 31) C 0 dX10_number_31 rfl rfl ?_
          refine gf_X10_25 (c := 1) (pc := 32) C kx_1 dX10_number_32 ?_
          refine j_iadd (pc := 35) C dX10_number_35 ?_
          refine j_bipush (v := 48) (pc := 36) C dX10_number_36 (by decide) ?_
          refine j_isub (pc := 38) C dX10_number_38 ?_
          refine j_lti hm (fun y1 hm => ?_)
          refine j_istoren (ls' := [(2, .int y1), (0, .ref (vad (gV G) 1)), (1, .int x1), (3, .int x3)]) (pc := 39) C dX10_number_39 rfl (by decide) rfl ?_
          refine j_iinc (v := (x3 + (1 : Int32))) (ls' := [(3, .int (x3 + (1 : Int32))), (2, .int y1), (0, .ref (vad (gV G) 1)), (1, .int x1)]) (pc := 40) C 3 dX10_number_40 rfl rfl (by decide) rfl ?_
          refine j_aloadn (pc := 43) C 2 dX10_number_43 rfl rfl ?_
          obtain ⟨q2, hq2, hm⟩ := Option.bind_eq_some_iff.mp hm
          refine cl_X10_41 (c := 1) (pc := 44) C kx_1 (kX10_step hq2) (by decide) (Nat.le_of_ble_eq_true rfl) dX10_number_44 ?_
          refine j_goto (tgt := 4) (pc := 47) C dX10_number_47 (by decide) ?_
          refine j_ls [2, 3, 1, 0] rfl ?_
          exact ih _ _ _ _ hm
    · refine j_ls [0, 2, 3] rfl ?_
      exact hk50 _ _ _ hm

def jn_X10_number_50 (F : Nat) (x2 : Int32) (x3 : Int32) (σ : jS) : Option (Int32 × jS) := (if x3 = 0 then (Option.bind (mX10_fail F (1 : Int32) ((σ 1 3)) σ) fun q4 => some (x2, q4)) else (if (σ 1 4) < (48 : Int32) then some (x2, σ) else (if (57 : Int32) < (σ 1 4) then some (x2, σ) else (Option.bind (mX10_fail F (2 : Int32) ((σ 1 3)) σ) fun q5 => some (x2, q5)))))
set_option maxHeartbeats 4000000 in
set_option maxRecDepth 100000 in
theorem jn_X10_number_50_ok {G : jG} (C : jc cfX 70 G cX10_number RX10 4 (some .int) 1) (F : Nat) {v : (Int32 × jS)} : ∀ (x2 : Int32) (x3 : Int32) (σ : jS), jn_X10_number_50 F x2 x3 σ = some v → JX G 50 [(0, .ref (vad (gV G) 1)), (2, .int x2), (3, .int x3)] [] σ v := by
  intro x2 x3 σ hm
  unfold jn_X10_number_50 at hm
  refine j_iloadn (pc := 50) C 2 dX10_number_50 rfl rfl ?_
  refine j_if_ne (tgt := 66) (pc := 51) C dX10_number_51 (by decide) hm (fun _ hm => ?_) (fun _ hm => ?_)
  · refine j_aloadn (pc := 54) C 0 dX10_number_54 rfl rfl ?_
    refine j_iconst (v := 1) (pc := 55) C dX10_number_55 (by decide) ?_
    refine j_aloadn (pc := 56) C 0 dX10_number_56 rfl rfl ?_
    refine gf_X10_22 (c := 1) (pc := 57) C kx_1 dX10_number_57 ?_
    obtain ⟨q4, hq4, hm⟩ := Option.bind_eq_some_iff.mp hm
    refine cl_X10_44 (c := 1) (pc := 60) C kx_1 (kX10_fail hq4) (by decide) (Nat.le_of_ble_eq_true rfl) dX10_number_60 ?_
    refine j_goto (tgt := 93) (pc := 63) C dX10_number_63 (by decide) ?_
    refine j_iloadn (pc := 93) C 1 dX10_number_93 rfl rfl ?_
    exact j_iretS (pc := 94) C rfl dX10_number_94 hm
  · refine j_aloadn (pc := 66) C 0 dX10_number_66 rfl rfl ?_
    refine gf_X10_25 (c := 1) (pc := 67) C kx_1 dX10_number_67 ?_
    refine j_bipush (v := 48) (pc := 70) C dX10_number_70 (by decide) ?_
    refine j_icmp_lt (tgt := 93) (pc := 72) C dX10_number_72 (by decide) hm (fun _ hm => ?_) (fun _ hm => ?_)
    · refine j_iloadn (pc := 93) C 1 dX10_number_93 rfl rfl ?_
      exact j_iretS (pc := 94) C rfl dX10_number_94 hm
    · refine j_aloadn (pc := 75) C 0 dX10_number_75 rfl rfl ?_
      refine gf_X10_25 (c := 1) (pc := 76) C kx_1 dX10_number_76 ?_
      refine j_bipush (v := 57) (pc := 79) C dX10_number_79 (by decide) ?_
      refine j_icmp_gt (tgt := 93) (pc := 81) C dX10_number_81 (by decide) hm (fun _ hm => ?_) (fun _ hm => ?_)
      · refine j_iloadn (pc := 93) C 1 dX10_number_93 rfl rfl ?_
        exact j_iretS (pc := 94) C rfl dX10_number_94 hm
      · refine j_aloadn (pc := 84) C 0 dX10_number_84 rfl rfl ?_
        refine j_iconst (v := 2) (pc := 85) C dX10_number_85 (by decide) ?_
        refine j_aloadn (pc := 86) C 0 dX10_number_86 rfl rfl ?_
        refine gf_X10_22 (c := 1) (pc := 87) C kx_1 dX10_number_87 ?_
        obtain ⟨q5, hq5, hm⟩ := Option.bind_eq_some_iff.mp hm
        refine cl_X10_44 (c := 1) (pc := 90) C kx_1 (kX10_fail hq5) (by decide) (Nat.le_of_ble_eq_true rfl) dX10_number_90 ?_
        refine j_iloadn (pc := 93) C 1 dX10_number_93 rfl rfl ?_
        exact j_iretS (pc := 94) C rfl dX10_number_94 hm

def mX10_number (F : Nat) (x1 : Int32) (σ : jS) : Option (Int32 × jS) := (lp_X10_number_4 F (fun x2_3 x3_3 σ3 => (jn_X10_number_50 F x2_3 x3_3 σ3)) F x1 (0 : Int32) (0 : Int32) σ)
set_option maxHeartbeats 4000000 in
set_option maxRecDepth 100000 in
theorem kX10_number {V : jV} {F : Nat} {x1 : Int32} {σ : jS} {v : (Int32 × jS)} (hm : mX10_number F x1 σ = some v) : Ct cfX 70 V yX10_number cX10_number 4 (some .int) 1 [.ref (vad V 1), .int x1] σ v := by
  refine j_start (own := RX10) (by decide) rfl (Nat.le_of_ble_eq_true rfl) ?_
  intro G hV C
  subst hV
  unfold mX10_number at hm
  show JX G 0 [(0, .ref (vad (gV G) 1)), (1, .int x1)] [] σ v
  refine j_iconst (v := 0) (pc := 0) C dX10_number_0 (by decide) ?_
  refine j_istoren (ls' := [(2, .int (0 : Int32)), (0, .ref (vad (gV G) 1)), (1, .int x1)]) (pc := 1) C dX10_number_1 rfl (by decide) rfl ?_
  refine j_iconst (v := 0) (pc := 2) C dX10_number_2 (by decide) ?_
  refine j_istoren (ls' := [(3, .int (0 : Int32)), (2, .int (0 : Int32)), (0, .ref (vad (gV G) 1)), (1, .int x1)]) (pc := 3) C dX10_number_3 rfl (by decide) rfl ?_
  refine j_ls [2, 3, 1, 0] rfl ?_
  refine lp_X10_number_4_ok C F _ (fun x2_3 x3_3 σ3 hm => ?_) F _ _ _ _ hm
  exact jn_X10_number_50_ok C F  _ _ _ hm

