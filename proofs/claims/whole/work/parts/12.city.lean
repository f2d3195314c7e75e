theorem dX0_copy_0 : decode cX0_copy 0 = .ok (.aload_n 1, 1) := by decide +kernel
theorem dX0_copy_1 : decode cX0_copy 1 = .ok (.getfield 9, 3) := by decide +kernel
theorem dX0_copy_4 : decode cX0_copy 4 = .ok (.iconst 0, 1) := by decide +kernel
theorem dX0_copy_5 : decode cX0_copy 5 = .ok (.aload_n 0, 1) := by decide +kernel
theorem dX0_copy_6 : decode cX0_copy 6 = .ok (.getfield 9, 3) := by decide +kernel
theorem dX0_copy_9 : decode cX0_copy 9 = .ok (.iconst 0, 1) := by decide +kernel
theorem dX0_copy_10 : decode cX0_copy 10 = .ok (.bipush 16, 2) := by decide +kernel
theorem dX0_copy_12 : decode cX0_copy 12 = .ok (.invokestatic 41, 3) := by decide +kernel
theorem dX0_copy_15 : decode cX0_copy 15 = .ok (.aload_n 1, 1) := by decide +kernel
theorem dX0_copy_16 : decode cX0_copy 16 = .ok (.getfield 15, 3) := by decide +kernel
theorem dX0_copy_19 : decode cX0_copy 19 = .ok (.iconst 0, 1) := by decide +kernel
theorem dX0_copy_20 : decode cX0_copy 20 = .ok (.aload_n 0, 1) := by decide +kernel
theorem dX0_copy_21 : decode cX0_copy 21 = .ok (.getfield 15, 3) := by decide +kernel
theorem dX0_copy_24 : decode cX0_copy 24 = .ok (.iconst 0, 1) := by decide +kernel
theorem dX0_copy_25 : decode cX0_copy 25 = .ok (.bipush 16, 2) := by decide +kernel
theorem dX0_copy_27 : decode cX0_copy 27 = .ok (.invokestatic 41, 3) := by decide +kernel
theorem dX0_copy_30 : decode cX0_copy 30 = .ok (.aload_n 0, 1) := by decide +kernel
theorem dX0_copy_31 : decode cX0_copy 31 = .ok (.getfield 21, 3) := by decide +kernel
theorem dX0_copy_34 : decode cX0_copy 34 = .ok (.aload_n 1, 1) := by decide +kernel
theorem dX0_copy_35 : decode cX0_copy 35 = .ok (.getfield 21, 3) := by decide +kernel
theorem dX0_copy_38 : decode cX0_copy 38 = .ok (.invokevirtual 47, 3) := by decide +kernel
theorem dX0_copy_41 : decode cX0_copy 41 = .ok (.aload_n 0, 1) := by decide +kernel
theorem dX0_copy_42 : decode cX0_copy 42 = .ok (.aload_n 1, 1) := by decide +kernel
theorem dX0_copy_43 : decode cX0_copy 43 = .ok (.getfield 25, 3) := by decide +kernel
theorem dX0_copy_46 : decode cX0_copy 46 = .ok (.putfield 25, 3) := by decide +kernel
theorem dX0_copy_49 : decode cX0_copy 49 = .ok (.aload_n 0, 1) := by decide +kernel
theorem dX0_copy_50 : decode cX0_copy 50 = .ok (.aload_n 1, 1) := by decide +kernel
theorem dX0_copy_51 : decode cX0_copy 51 = .ok (.getfield 29, 3) := by decide +kernel
theorem dX0_copy_54 : decode cX0_copy 54 = .ok (.putfield 29, 3) := by decide +kernel
theorem dX0_copy_57 : decode cX0_copy 57 = .ok (.aload_n 0, 1) := by decide +kernel
theorem dX0_copy_58 : decode cX0_copy 58 = .ok (.aload_n 1, 1) := by decide +kernel
theorem dX0_copy_59 : decode cX0_copy 59 = .ok (.getfield 32, 3) := by decide +kernel
theorem dX0_copy_62 : decode cX0_copy 62 = .ok (.putfield 32, 3) := by decide +kernel
theorem dX0_copy_65 : decode cX0_copy 65 = .ok (.aload_n 0, 1) := by decide +kernel
theorem dX0_copy_66 : decode cX0_copy 66 = .ok (.aload_n 1, 1) := by decide +kernel
theorem dX0_copy_67 : decode cX0_copy 67 = .ok (.getfield 35, 3) := by decide +kernel
theorem dX0_copy_70 : decode cX0_copy 70 = .ok (.putfield 35, 3) := by decide +kernel
theorem dX0_copy_73 : decode cX0_copy 73 = .ok (.aload_n 0, 1) := by decide +kernel
theorem dX0_copy_74 : decode cX0_copy 74 = .ok (.aload_n 1, 1) := by decide +kernel
theorem dX0_copy_75 : decode cX0_copy 75 = .ok (.getfield 38, 3) := by decide +kernel
theorem dX0_copy_78 : decode cX0_copy 78 = .ok (.putfield 38, 3) := by decide +kernel
theorem dX0_copy_81 : decode cX0_copy 81 = .ok (.return_, 1) := by decide +kernel
theorem dX0_isTold_0 : decode cX0_isTold 0 = .ok (.iload_n 1, 1) := by decide +kernel
theorem dX0_isTold_1 : decode cX0_isTold 1 = .ok (.ifCond .lt 24, 3) := by decide +kernel
theorem dX0_isTold_4 : decode cX0_isTold 4 = .ok (.iload_n 1, 1) := by decide +kernel
theorem dX0_isTold_5 : decode cX0_isTold 5 = .ok (.bipush 16, 2) := by decide +kernel
theorem dX0_isTold_7 : decode cX0_isTold 7 = .ok (.if_icmp .ge 18, 3) := by decide +kernel
theorem dX0_isTold_10 : decode cX0_isTold 10 = .ok (.aload_n 0, 1) := by decide +kernel
theorem dX0_isTold_11 : decode cX0_isTold 11 = .ok (.getfield 25, 3) := by decide +kernel
theorem dX0_isTold_14 : decode cX0_isTold 14 = .ok (.iload_n 1, 1) := by decide +kernel
theorem dX0_isTold_15 : decode cX0_isTold 15 = .ok (.ishr, 1) := by decide +kernel
theorem dX0_isTold_16 : decode cX0_isTold 16 = .ok (.iconst 1, 1) := by decide +kernel
theorem dX0_isTold_17 : decode cX0_isTold 17 = .ok (.iand, 1) := by decide +kernel
theorem dX0_isTold_18 : decode cX0_isTold 18 = .ok (.ifCond .eq 7, 3) := by decide +kernel
theorem dX0_isTold_21 : decode cX0_isTold 21 = .ok (.iconst 1, 1) := by decide +kernel
theorem dX0_isTold_22 : decode cX0_isTold 22 = .ok (.goto 4, 3) := by decide +kernel
theorem dX0_isTold_25 : decode cX0_isTold 25 = .ok (.iconst 0, 1) := by decide +kernel
theorem dX0_isTold_26 : decode cX0_isTold 26 = .ok (.ireturn, 1) := by decide +kernel
theorem dX0_isLiving_0 : decode cX0_isLiving 0 = .ok (.iload_n 1, 1) := by decide +kernel
theorem dX0_isLiving_1 : decode cX0_isLiving 1 = .ok (.ifCond .lt 24, 3) := by decide +kernel
theorem dX0_isLiving_4 : decode cX0_isLiving 4 = .ok (.iload_n 1, 1) := by decide +kernel
theorem dX0_isLiving_5 : decode cX0_isLiving 5 = .ok (.bipush 16, 2) := by decide +kernel
theorem dX0_isLiving_7 : decode cX0_isLiving 7 = .ok (.if_icmp .ge 18, 3) := by decide +kernel
theorem dX0_isLiving_10 : decode cX0_isLiving 10 = .ok (.aload_n 0, 1) := by decide +kernel
theorem dX0_isLiving_11 : decode cX0_isLiving 11 = .ok (.getfield 29, 3) := by decide +kernel
theorem dX0_isLiving_14 : decode cX0_isLiving 14 = .ok (.iload_n 1, 1) := by decide +kernel
theorem dX0_isLiving_15 : decode cX0_isLiving 15 = .ok (.ishr, 1) := by decide +kernel
theorem dX0_isLiving_16 : decode cX0_isLiving 16 = .ok (.iconst 1, 1) := by decide +kernel
theorem dX0_isLiving_17 : decode cX0_isLiving 17 = .ok (.iand, 1) := by decide +kernel
theorem dX0_isLiving_18 : decode cX0_isLiving 18 = .ok (.ifCond .eq 7, 3) := by decide +kernel
theorem dX0_isLiving_21 : decode cX0_isLiving 21 = .ok (.iconst 1, 1) := by decide +kernel
theorem dX0_isLiving_22 : decode cX0_isLiving 22 = .ok (.goto 4, 3) := by decide +kernel
theorem dX0_isLiving_25 : decode cX0_isLiving 25 = .ok (.iconst 0, 1) := by decide +kernel
theorem dX0_isLiving_26 : decode cX0_isLiving 26 = .ok (.ireturn, 1) := by decide +kernel
theorem dX0_beatsOf_0 : decode cX0_beatsOf 0 = .ok (.iload_n 1, 1) := by decide +kernel
theorem dX0_beatsOf_1 : decode cX0_beatsOf 1 = .ok (.ifCond .lt 18, 3) := by decide +kernel
theorem dX0_beatsOf_4 : decode cX0_beatsOf 4 = .ok (.iload_n 1, 1) := by decide +kernel
theorem dX0_beatsOf_5 : decode cX0_beatsOf 5 = .ok (.bipush 16, 2) := by decide +kernel
theorem dX0_beatsOf_7 : decode cX0_beatsOf 7 = .ok (.if_icmp .ge 12, 3) := by decide +kernel
theorem dX0_beatsOf_10 : decode cX0_beatsOf 10 = .ok (.aload_n 0, 1) := by decide +kernel
theorem dX0_beatsOf_11 : decode cX0_beatsOf 11 = .ok (.getfield 9, 3) := by decide +kernel
theorem dX0_beatsOf_14 : decode cX0_beatsOf 14 = .ok (.iload_n 1, 1) := by decide +kernel
theorem dX0_beatsOf_15 : decode cX0_beatsOf 15 = .ok (.iaload, 1) := by decide +kernel
theorem dX0_beatsOf_16 : decode cX0_beatsOf 16 = .ok (.goto 4, 3) := by decide +kernel
theorem dX0_beatsOf_19 : decode cX0_beatsOf 19 = .ok (.iconst 0, 1) := by decide +kernel
theorem dX0_beatsOf_20 : decode cX0_beatsOf 20 = .ok (.ireturn, 1) := by decide +kernel
theorem dX0_ageOf_0 : decode cX0_ageOf 0 = .ok (.iload_n 1, 1) := by decide +kernel
theorem dX0_ageOf_1 : decode cX0_ageOf 1 = .ok (.ifCond .lt 18, 3) := by decide +kernel
theorem dX0_ageOf_4 : decode cX0_ageOf 4 = .ok (.iload_n 1, 1) := by decide +kernel
theorem dX0_ageOf_5 : decode cX0_ageOf 5 = .ok (.bipush 16, 2) := by decide +kernel
theorem dX0_ageOf_7 : decode cX0_ageOf 7 = .ok (.if_icmp .ge 12, 3) := by decide +kernel
theorem dX0_ageOf_10 : decode cX0_ageOf 10 = .ok (.aload_n 0, 1) := by decide +kernel
theorem dX0_ageOf_11 : decode cX0_ageOf 11 = .ok (.getfield 15, 3) := by decide +kernel
theorem dX0_ageOf_14 : decode cX0_ageOf 14 = .ok (.iload_n 1, 1) := by decide +kernel
theorem dX0_ageOf_15 : decode cX0_ageOf 15 = .ok (.iaload, 1) := by decide +kernel
theorem dX0_ageOf_16 : decode cX0_ageOf 16 = .ok (.goto 4, 3) := by decide +kernel
theorem dX0_ageOf_19 : decode cX0_ageOf 19 = .ok (.iconst 0, 1) := by decide +kernel
theorem dX0_ageOf_20 : decode cX0_ageOf 20 = .ok (.ireturn, 1) := by decide +kernel
theorem dX0_richest_0 : decode cX0_richest 0 = .ok (.bipush (-2), 2) := by decide +kernel
theorem dX0_richest_2 : decode cX0_richest 2 = .ok (.istore_n 1, 1) := by decide +kernel
theorem dX0_richest_3 : decode cX0_richest 3 = .ok (.iconst (-1), 1) := by decide +kernel
theorem dX0_richest_4 : decode cX0_richest 4 = .ok (.istore_n 2, 1) := by decide +kernel
theorem dX0_richest_5 : decode cX0_richest 5 = .ok (.iconst 0, 1) := by decide +kernel
theorem dX0_richest_6 : decode cX0_richest 6 = .ok (.istore_n 3, 1) := by decide +kernel
theorem dX0_richest_7 : decode cX0_richest 7 = .ok (.iload_n 3, 1) := by decide +kernel
theorem dX0_richest_8 : decode cX0_richest 8 = .ok (.bipush 16, 2) := by decide +kernel
theorem dX0_richest_10 : decode cX0_richest 10 = .ok (.if_icmp .ge 36, 3) := by decide +kernel
theorem dX0_richest_13 : decode cX0_richest 13 = .ok (.aload_n 0, 1) := by decide +kernel
theorem dX0_richest_14 : decode cX0_richest 14 = .ok (.iload_n 3, 1) := by decide +kernel
theorem dX0_richest_15 : decode cX0_richest 15 = .ok (.invokevirtual 51, 3) := by decide +kernel
theorem dX0_richest_18 : decode cX0_richest 18 = .ok (.ifCond .eq 22, 3) := by decide +kernel
theorem dX0_richest_21 : decode cX0_richest 21 = .ok (.aload_n 0, 1) := by decide +kernel
theorem dX0_richest_22 : decode cX0_richest 22 = .ok (.getfield 9, 3) := by decide +kernel
theorem dX0_richest_25 : decode cX0_richest 25 = .ok (.iload_n 3, 1) := by decide +kernel
theorem dX0_richest_26 : decode cX0_richest 26 = .ok (.iaload, 1) := by decide +kernel
theorem dX0_richest_27 : decode cX0_richest 27 = .ok (.iload_n 2, 1) := by decide +kernel
theorem dX0_richest_28 : decode cX0_richest 28 = .ok (.if_icmp .le 12, 3) := by decide +kernel
theorem dX0_richest_31 : decode cX0_richest 31 = .ok (.aload_n 0, 1) := by decide +kernel
theorem dX0_richest_32 : decode cX0_richest 32 = .ok (.getfield 9, 3) := by decide +kernel
theorem dX0_richest_35 : decode cX0_richest 35 = .ok (.iload_n 3, 1) := by decide +kernel
theorem dX0_richest_36 : decode cX0_richest 36 = .ok (.iaload, 1) := by decide +kernel
theorem dX0_richest_37 : decode cX0_richest 37 = .ok (.istore_n 2, 1) := by decide +kernel
theorem dX0_richest_38 : decode cX0_richest 38 = .ok (.iload_n 3, 1) := by decide +kernel
theorem dX0_richest_39 : decode cX0_richest 39 = .ok (.istore_n 1, 1) := by decide +kernel
theorem dX0_richest_40 : decode cX0_richest 40 = .ok (.iinc 3 1, 3) := by decide +kernel
theorem dX0_richest_43 : decode cX0_richest 43 = .ok (.goto (-36), 3) := by decide +kernel
theorem dX0_richest_46 : decode cX0_richest 46 = .ok (.iload_n 1, 1) := by decide +kernel
theorem dX0_richest_47 : decode cX0_richest 47 = .ok (.ireturn, 1) := by decide +kernel
theorem dX0_draw_0 : decode cX0_draw 0 = .ok (.aload_n 0, 1) := by decide +kernel
theorem dX0_draw_1 : decode cX0_draw 1 = .ok (.sipush 25173, 3) := by decide +kernel
theorem dX0_draw_4 : decode cX0_draw 4 = .ok (.aload_n 0, 1) := by decide +kernel
theorem dX0_draw_5 : decode cX0_draw 5 = .ok (.getfield 38, 3) := by decide +kernel
theorem dX0_draw_8 : decode cX0_draw 8 = .ok (.imul, 1) := by decide +kernel
theorem dX0_draw_9 : decode cX0_draw 9 = .ok (.sipush 13849, 3) := by decide +kernel
theorem dX0_draw_12 : decode cX0_draw 12 = .ok (.iadd, 1) := by decide +kernel
theorem dX0_draw_13 : decode cX0_draw 13 = .ok (.ldc 55, 2) := by decide +kernel
theorem dX0_draw_15 : decode cX0_draw 15 = .ok (.irem, 1) := by decide +kernel
theorem dX0_draw_16 : decode cX0_draw 16 = .ok (.putfield 38, 3) := by decide +kernel
theorem dX0_draw_19 : decode cX0_draw 19 = .ok (.aload_n 0, 1) := by decide +kernel
theorem dX0_draw_20 : decode cX0_draw 20 = .ok (.getfield 38, 3) := by decide +kernel
theorem dX0_draw_23 : decode cX0_draw 23 = .ok (.bipush 10, 2) := by decide +kernel
theorem dX0_draw_25 : decode cX0_draw 25 = .ok (.irem, 1) := by decide +kernel
theorem dX0_draw_26 : decode cX0_draw 26 = .ok (.ireturn, 1) := by decide +kernel
theorem dX0_bury_0 : decode cX0_bury 0 = .ok (.aload_n 0, 1) := by decide +kernel
theorem dX0_bury_1 : decode cX0_bury 1 = .ok (.iload_n 1, 1) := by decide +kernel
theorem dX0_bury_2 : decode cX0_bury 2 = .ok (.invokevirtual 56, 3) := by decide +kernel
theorem dX0_bury_5 : decode cX0_bury 5 = .ok (.ifCond .eq 44, 3) := by decide +kernel
theorem dX0_bury_8 : decode cX0_bury 8 = .ok (.aload_n 0, 1) := by decide +kernel
theorem dX0_bury_9 : decode cX0_bury 9 = .ok (.ldc 59, 2) := by decide +kernel
theorem dX0_bury_11 : decode cX0_bury 11 = .ok (.aload_n 0, 1) := by decide +kernel
theorem dX0_bury_12 : decode cX0_bury 12 = .ok (.getfield 32, 3) := by decide +kernel
theorem dX0_bury_15 : decode cX0_bury 15 = .ok (.aload_n 0, 1) := by decide +kernel
theorem dX0_bury_16 : decode cX0_bury 16 = .ok (.getfield 9, 3) := by decide +kernel
theorem dX0_bury_19 : decode cX0_bury 19 = .ok (.iload_n 1, 1) := by decide +kernel
theorem dX0_bury_20 : decode cX0_bury 20 = .ok (.iaload, 1) := by decide +kernel
theorem dX0_bury_21 : decode cX0_bury 21 = .ok (.iadd, 1) := by decide +kernel
theorem dX0_bury_22 : decode cX0_bury 22 = .ok (.invokestatic 60, 3) := by decide +kernel
theorem dX0_bury_25 : decode cX0_bury 25 = .ok (.putfield 32, 3) := by decide +kernel
theorem dX0_bury_28 : decode cX0_bury 28 = .ok (.aload_n 0, 1) := by decide +kernel
theorem dX0_bury_29 : decode cX0_bury 29 = .ok (.getfield 9, 3) := by decide +kernel
theorem dX0_bury_32 : decode cX0_bury 32 = .ok (.iload_n 1, 1) := by decide +kernel
theorem dX0_bury_33 : decode cX0_bury 33 = .ok (.iconst 0, 1) := by decide +kernel
theorem dX0_bury_34 : decode cX0_bury 34 = .ok (.iastore, 1) := by decide +kernel
theorem dX0_bury_35 : decode cX0_bury 35 = .ok (.aload_n 0, 1) := by decide +kernel
theorem dX0_bury_36 : decode cX0_bury 36 = .ok (.dup, 1) := by decide +kernel
theorem dX0_bury_37 : decode cX0_bury 37 = .ok (.getfield 29, 3) := by decide +kernel
theorem dX0_bury_40 : decode cX0_bury 40 = .ok (.iconst 1, 1) := by decide +kernel
theorem dX0_bury_41 : decode cX0_bury 41 = .ok (.iload_n 1, 1) := by decide +kernel
theorem dX0_bury_42 : decode cX0_bury 42 = .ok (.ishl, 1) := by decide +kernel
theorem dX0_bury_43 : decode cX0_bury 43 = .ok (.iconst (-1), 1) := by decide +kernel
theorem dX0_bury_44 : decode cX0_bury 44 = .ok (.ixor, 1) := by decide +kernel
theorem dX0_bury_45 : decode cX0_bury 45 = .ok (.iand, 1) := by decide +kernel
theorem dX0_bury_46 : decode cX0_bury 46 = .ok (.putfield 29, 3) := by decide +kernel
theorem dX0_bury_49 : decode cX0_bury 49 = .ok (.return_, 1) := by decide +kernel
theorem dX0_spend_0 : decode cX0_spend 0 = .ok (.aload_n 0, 1) := by decide +kernel
theorem dX0_spend_1 : decode cX0_spend 1 = .ok (.iload_n 1, 1) := by decide +kernel
theorem dX0_spend_2 : decode cX0_spend 2 = .ok (.invokevirtual 56, 3) := by decide +kernel
theorem dX0_spend_5 : decode cX0_spend 5 = .ok (.ifCond .eq 35, 3) := by decide +kernel
theorem dX0_spend_8 : decode cX0_spend 8 = .ok (.aload_n 0, 1) := by decide +kernel
theorem dX0_spend_9 : decode cX0_spend 9 = .ok (.getfield 9, 3) := by decide +kernel
theorem dX0_spend_12 : decode cX0_spend 12 = .ok (.iload_n 1, 1) := by decide +kernel
theorem dX0_spend_13 : decode cX0_spend 13 = .ok (.iconst 0, 1) := by decide +kernel
theorem dX0_spend_14 : decode cX0_spend 14 = .ok (.aload_n 0, 1) := by decide +kernel
theorem dX0_spend_15 : decode cX0_spend 15 = .ok (.getfield 9, 3) := by decide +kernel
theorem dX0_spend_18 : decode cX0_spend 18 = .ok (.iload_n 1, 1) := by decide +kernel
theorem dX0_spend_19 : decode cX0_spend 19 = .ok (.iaload, 1) := by decide +kernel
theorem dX0_spend_20 : decode cX0_spend 20 = .ok (.iload_n 2, 1) := by decide +kernel
theorem dX0_spend_21 : decode cX0_spend 21 = .ok (.isub, 1) := by decide +kernel
theorem dX0_spend_22 : decode cX0_spend 22 = .ok (.invokestatic 66, 3) := by decide +kernel
theorem dX0_spend_25 : decode cX0_spend 25 = .ok (.iastore, 1) := by decide +kernel
theorem dX0_spend_26 : decode cX0_spend 26 = .ok (.aload_n 0, 1) := by decide +kernel
theorem dX0_spend_27 : decode cX0_spend 27 = .ok (.getfield 9, 3) := by decide +kernel
theorem dX0_spend_30 : decode cX0_spend 30 = .ok (.iload_n 1, 1) := by decide +kernel
theorem dX0_spend_31 : decode cX0_spend 31 = .ok (.iaload, 1) := by decide +kernel
theorem dX0_spend_32 : decode cX0_spend 32 = .ok (.ifCond .ne 8, 3) := by decide +kernel
theorem dX0_spend_35 : decode cX0_spend 35 = .ok (.aload_n 0, 1) := by decide +kernel
theorem dX0_spend_36 : decode cX0_spend 36 = .ok (.iload_n 1, 1) := by decide +kernel
theorem dX0_spend_37 : decode cX0_spend 37 = .ok (.invokevirtual 69, 3) := by decide +kernel
theorem dX0_spend_40 : decode cX0_spend 40 = .ok (.return_, 1) := by decide +kernel
theorem dX0_give_0 : decode cX0_give 0 = .ok (.aload_n 0, 1) := by decide +kernel
theorem dX0_give_1 : decode cX0_give 1 = .ok (.iload_n 1, 1) := by decide +kernel
theorem dX0_give_2 : decode cX0_give 2 = .ok (.invokevirtual 56, 3) := by decide +kernel
theorem dX0_give_5 : decode cX0_give 5 = .ok (.ifCond .eq 44, 3) := by decide +kernel
theorem dX0_give_8 : decode cX0_give 8 = .ok (.iload_n 2, 1) := by decide +kernel
theorem dX0_give_9 : decode cX0_give 9 = .ok (.aload_n 0, 1) := by decide +kernel
theorem dX0_give_10 : decode cX0_give 10 = .ok (.getfield 32, 3) := by decide +kernel
theorem dX0_give_13 : decode cX0_give 13 = .ok (.invokestatic 60, 3) := by decide +kernel
theorem dX0_give_16 : decode cX0_give 16 = .ok (.ldc 59, 2) := by decide +kernel
theorem dX0_give_18 : decode cX0_give 18 = .ok (.aload_n 0, 1) := by decide +kernel
theorem dX0_give_19 : decode cX0_give 19 = .ok (.getfield 9, 3) := by decide +kernel
theorem dX0_give_22 : decode cX0_give 22 = .ok (.iload_n 1, 1) := by decide +kernel
theorem dX0_give_23 : decode cX0_give 23 = .ok (.iaload, 1) := by decide +kernel
theorem dX0_give_24 : decode cX0_give 24 = .ok (.isub, 1) := by decide +kernel
theorem dX0_give_25 : decode cX0_give 25 = .ok (.invokestatic 60, 3) := by decide +kernel
theorem dX0_give_28 : decode cX0_give 28 = .ok (.istore_n 3, 1) := by decide +kernel
theorem dX0_give_29 : decode cX0_give 29 = .ok (.aload_n 0, 1) := by decide +kernel
theorem dX0_give_30 : decode cX0_give 30 = .ok (.getfield 9, 3) := by decide +kernel
theorem dX0_give_33 : decode cX0_give 33 = .ok (.iload_n 1, 1) := by decide +kernel
theorem dX0_give_34 : decode cX0_give 34 = .ok (.dup2, 1) := by decide +kernel
theorem dX0_give_35 : decode cX0_give 35 = .ok (.iaload, 1) := by decide +kernel
theorem dX0_give_36 : decode cX0_give 36 = .ok (.iload_n 3, 1) := by decide +kernel
theorem dX0_give_37 : decode cX0_give 37 = .ok (.iadd, 1) := by decide +kernel
theorem dX0_give_38 : decode cX0_give 38 = .ok (.iastore, 1) := by decide +kernel
theorem dX0_give_39 : decode cX0_give 39 = .ok (.aload_n 0, 1) := by decide +kernel
theorem dX0_give_40 : decode cX0_give 40 = .ok (.dup, 1) := by decide +kernel
theorem dX0_give_41 : decode cX0_give 41 = .ok (.getfield 32, 3) := by decide +kernel
theorem dX0_give_44 : decode cX0_give 44 = .ok (.iload_n 3, 1) := by decide +kernel
theorem dX0_give_45 : decode cX0_give 45 = .ok (.isub, 1) := by decide +kernel
theorem dX0_give_46 : decode cX0_give 46 = .ok (.putfield 32, 3) := by decide +kernel
theorem dX0_give_49 : decode cX0_give 49 = .ok (.return_, 1) := by decide +kernel
theorem dX0_payLoans_0 : decode cX0_payLoans 0 = .ok (.iconst 0, 1) := by decide +kernel
theorem dX0_payLoans_1 : decode cX0_payLoans 1 = .ok (.istore_n 1, 1) := by decide +kernel
theorem dX0_payLoans_2 : decode cX0_payLoans 2 = .ok (.iload_n 1, 1) := by decide +kernel
theorem dX0_payLoans_3 : decode cX0_payLoans 3 = .ok (.aload_n 0, 1) := by decide +kernel
theorem dX0_payLoans_4 : decode cX0_payLoans 4 = .ok (.getfield 21, 3) := by decide +kernel
theorem dX0_payLoans_7 : decode cX0_payLoans 7 = .ok (.getfield 73, 3) := by decide +kernel
theorem dX0_payLoans_10 : decode cX0_payLoans 10 = .ok (.if_icmp .ge 142, 3) := by decide +kernel
theorem dX0_payLoans_13 : decode cX0_payLoans 13 = .ok (.iload_n 1, 1) := by decide +kernel
theorem dX0_payLoans_14 : decode cX0_payLoans 14 = .ok (.bipush 24, 2) := by decide +kernel
theorem dX0_payLoans_16 : decode cX0_payLoans 16 = .ok (.if_icmp .ge 136, 3) := by decide +kernel
theorem dX0_payLoans_19 : decode cX0_payLoans 19 = .ok (.aload_n 0, 1) := by decide +kernel
theorem dX0_payLoans_20 : decode cX0_payLoans 20 = .ok (.getfield 21, 3) := by decide +kernel
theorem dX0_payLoans_23 : decode cX0_payLoans 23 = .ok (.getfield 76, 3) := by decide +kernel
theorem dX0_payLoans_26 : decode cX0_payLoans 26 = .ok (.iload_n 1, 1) := by decide +kernel
theorem dX0_payLoans_27 : decode cX0_payLoans 27 = .ok (.iaload, 1) := by decide +kernel
theorem dX0_payLoans_28 : decode cX0_payLoans 28 = .ok (.istore_n 2, 1) := by decide +kernel
theorem dX0_payLoans_29 : decode cX0_payLoans 29 = .ok (.aload_n 0, 1) := by decide +kernel
theorem dX0_payLoans_30 : decode cX0_payLoans 30 = .ok (.getfield 21, 3) := by decide +kernel
theorem dX0_payLoans_33 : decode cX0_payLoans 33 = .ok (.getfield 79, 3) := by decide +kernel
theorem dX0_payLoans_36 : decode cX0_payLoans 36 = .ok (.iload_n 1, 1) := by decide +kernel
theorem dX0_payLoans_37 : decode cX0_payLoans 37 = .ok (.iaload, 1) := by decide +kernel
theorem dX0_payLoans_38 : decode cX0_payLoans 38 = .ok (.istore_n 3, 1) := by decide +kernel
theorem dX0_payLoans_39 : decode cX0_payLoans 39 = .ok (.aload_n 0, 1) := by decide +kernel
theorem dX0_payLoans_40 : decode cX0_payLoans 40 = .ok (.iload_n 2, 1) := by decide +kernel
theorem dX0_payLoans_41 : decode cX0_payLoans 41 = .ok (.invokevirtual 56, 3) := by decide +kernel
theorem dX0_payLoans_44 : decode cX0_payLoans 44 = .ok (.ifCond .eq 102, 3) := by decide +kernel
theorem dX0_payLoans_47 : decode cX0_payLoans 47 = .ok (.aload_n 0, 1) := by decide +kernel
theorem dX0_payLoans_48 : decode cX0_payLoans 48 = .ok (.iload_n 3, 1) := by decide +kernel
theorem dX0_payLoans_49 : decode cX0_payLoans 49 = .ok (.invokevirtual 56, 3) := by decide +kernel
theorem dX0_payLoans_52 : decode cX0_payLoans 52 = .ok (.ifCond .eq 94, 3) := by decide +kernel
theorem dX0_payLoans_55 : decode cX0_payLoans 55 = .ok (.aload_n 0, 1) := by decide +kernel
theorem dX0_payLoans_56 : decode cX0_payLoans 56 = .ok (.getfield 21, 3) := by decide +kernel
theorem dX0_payLoans_59 : decode cX0_payLoans 59 = .ok (.iload_n 1, 1) := by decide +kernel
theorem dX0_payLoans_60 : decode cX0_payLoans 60 = .ok (.aload_n 0, 1) := by decide +kernel
theorem dX0_payLoans_61 : decode cX0_payLoans 61 = .ok (.getfield 21, 3) := by decide +kernel
theorem dX0_payLoans_64 : decode cX0_payLoans 64 = .ok (.getfield 82, 3) := by decide +kernel
theorem dX0_payLoans_67 : decode cX0_payLoans 67 = .ok (.iload_n 1, 1) := by decide +kernel
theorem dX0_payLoans_68 : decode cX0_payLoans 68 = .ok (.iaload, 1) := by decide +kernel
theorem dX0_payLoans_69 : decode cX0_payLoans 69 = .ok (.invokevirtual 85, 3) := by decide +kernel
theorem dX0_payLoans_72 : decode cX0_payLoans 72 = .ok (.istore 4, 2) := by decide +kernel
theorem dX0_payLoans_74 : decode cX0_payLoans 74 = .ok (.aload_n 0, 1) := by decide +kernel
theorem dX0_payLoans_75 : decode cX0_payLoans 75 = .ok (.getfield 21, 3) := by decide +kernel
theorem dX0_payLoans_78 : decode cX0_payLoans 78 = .ok (.getfield 88, 3) := by decide +kernel
theorem dX0_payLoans_81 : decode cX0_payLoans 81 = .ok (.iload_n 1, 1) := by decide +kernel
theorem dX0_payLoans_82 : decode cX0_payLoans 82 = .ok (.iaload, 1) := by decide +kernel
theorem dX0_payLoans_83 : decode cX0_payLoans 83 = .ok (.iload 4, 2) := by decide +kernel
theorem dX0_payLoans_85 : decode cX0_payLoans 85 = .ok (.invokestatic 60, 3) := by decide +kernel
theorem dX0_payLoans_88 : decode cX0_payLoans 88 = .ok (.aload_n 0, 1) := by decide +kernel
theorem dX0_payLoans_89 : decode cX0_payLoans 89 = .ok (.getfield 9, 3) := by decide +kernel
theorem dX0_payLoans_92 : decode cX0_payLoans 92 = .ok (.iload_n 3, 1) := by decide +kernel
theorem dX0_payLoans_93 : decode cX0_payLoans 93 = .ok (.iaload, 1) := by decide +kernel
theorem dX0_payLoans_94 : decode cX0_payLoans 94 = .ok (.iconst 1, 1) := by decide +kernel
theorem dX0_payLoans_95 : decode cX0_payLoans 95 = .ok (.isub, 1) := by decide +kernel
theorem dX0_payLoans_96 : decode cX0_payLoans 96 = .ok (.invokestatic 60, 3) := by decide +kernel
theorem dX0_payLoans_99 : decode cX0_payLoans 99 = .ok (.istore 5, 2) := by decide +kernel
theorem dX0_payLoans_101 : decode cX0_payLoans 101 = .ok (.aload_n 0, 1) := by decide +kernel
theorem dX0_payLoans_102 : decode cX0_payLoans 102 = .ok (.getfield 21, 3) := by decide +kernel
theorem dX0_payLoans_105 : decode cX0_payLoans 105 = .ok (.getfield 82, 3) := by decide +kernel
theorem dX0_payLoans_108 : decode cX0_payLoans 108 = .ok (.iload_n 1, 1) := by decide +kernel
theorem dX0_payLoans_109 : decode cX0_payLoans 109 = .ok (.iload 4, 2) := by decide +kernel
theorem dX0_payLoans_111 : decode cX0_payLoans 111 = .ok (.iload 5, 2) := by decide +kernel
theorem dX0_payLoans_113 : decode cX0_payLoans 113 = .ok (.isub, 1) := by decide +kernel
theorem dX0_payLoans_114 : decode cX0_payLoans 114 = .ok (.iastore, 1) := by decide +kernel
theorem dX0_payLoans_115 : decode cX0_payLoans 115 = .ok (.aload_n 0, 1) := by decide +kernel
theorem dX0_payLoans_116 : decode cX0_payLoans 116 = .ok (.getfield 9, 3) := by decide +kernel
theorem dX0_payLoans_119 : decode cX0_payLoans 119 = .ok (.iload_n 3, 1) := by decide +kernel
theorem dX0_payLoans_120 : decode cX0_payLoans 120 = .ok (.dup2, 1) := by decide +kernel
theorem dX0_payLoans_121 : decode cX0_payLoans 121 = .ok (.iaload, 1) := by decide +kernel
theorem dX0_payLoans_122 : decode cX0_payLoans 122 = .ok (.iload 5, 2) := by decide +kernel
theorem dX0_payLoans_124 : decode cX0_payLoans 124 = .ok (.isub, 1) := by decide +kernel
theorem dX0_payLoans_125 : decode cX0_payLoans 125 = .ok (.iastore, 1) := by decide +kernel
theorem dX0_payLoans_126 : decode cX0_payLoans 126 = .ok (.aload_n 0, 1) := by decide +kernel
theorem dX0_payLoans_127 : decode cX0_payLoans 127 = .ok (.getfield 9, 3) := by decide +kernel
theorem dX0_payLoans_130 : decode cX0_payLoans 130 = .ok (.iload_n 2, 1) := by decide +kernel
theorem dX0_payLoans_131 : decode cX0_payLoans 131 = .ok (.ldc 59, 2) := by decide +kernel
theorem dX0_payLoans_133 : decode cX0_payLoans 133 = .ok (.aload_n 0, 1) := by decide +kernel
theorem dX0_payLoans_134 : decode cX0_payLoans 134 = .ok (.getfield 9, 3) := by decide +kernel
theorem dX0_payLoans_137 : decode cX0_payLoans 137 = .ok (.iload_n 2, 1) := by decide +kernel
theorem dX0_payLoans_138 : decode cX0_payLoans 138 = .ok (.iaload, 1) := by decide +kernel
theorem dX0_payLoans_139 : decode cX0_payLoans 139 = .ok (.iload 5, 2) := by decide +kernel
theorem dX0_payLoans_141 : decode cX0_payLoans 141 = .ok (.iadd, 1) := by decide +kernel
theorem dX0_payLoans_142 : decode cX0_payLoans 142 = .ok (.invokestatic 60, 3) := by decide +kernel
theorem dX0_payLoans_145 : decode cX0_payLoans 145 = .ok (.iastore, 1) := by decide +kernel
theorem dX0_payLoans_146 : decode cX0_payLoans 146 = .ok (.iinc 1 1, 3) := by decide +kernel
theorem dX0_payLoans_149 : decode cX0_payLoans 149 = .ok (.goto (-147), 3) := by decide +kernel
theorem dX0_payLoans_152 : decode cX0_payLoans 152 = .ok (.return_, 1) := by decide +kernel
theorem dX0_growOlder_0 : decode cX0_growOlder 0 = .ok (.iconst 0, 1) := by decide +kernel
theorem dX0_growOlder_1 : decode cX0_growOlder 1 = .ok (.istore_n 1, 1) := by decide +kernel
theorem dX0_growOlder_2 : decode cX0_growOlder 2 = .ok (.iload_n 1, 1) := by decide +kernel
theorem dX0_growOlder_3 : decode cX0_growOlder 3 = .ok (.bipush 16, 2) := by decide +kernel
theorem dX0_growOlder_5 : decode cX0_growOlder 5 = .ok (.if_icmp .ge 36, 3) := by decide +kernel
theorem dX0_growOlder_8 : decode cX0_growOlder 8 = .ok (.aload_n 0, 1) := by decide +kernel
theorem dX0_growOlder_9 : decode cX0_growOlder 9 = .ok (.iload_n 1, 1) := by decide +kernel
theorem dX0_growOlder_10 : decode cX0_growOlder 10 = .ok (.invokevirtual 56, 3) := by decide +kernel
theorem dX0_growOlder_13 : decode cX0_growOlder 13 = .ok (.ifCond .eq 22, 3) := by decide +kernel
theorem dX0_growOlder_16 : decode cX0_growOlder 16 = .ok (.aload_n 0, 1) := by decide +kernel
theorem dX0_growOlder_17 : decode cX0_growOlder 17 = .ok (.getfield 15, 3) := by decide +kernel
theorem dX0_growOlder_20 : decode cX0_growOlder 20 = .ok (.iload_n 1, 1) := by decide +kernel
theorem dX0_growOlder_21 : decode cX0_growOlder 21 = .ok (.ldc 91, 2) := by decide +kernel
theorem dX0_growOlder_23 : decode cX0_growOlder 23 = .ok (.aload_n 0, 1) := by decide +kernel
theorem dX0_growOlder_24 : decode cX0_growOlder 24 = .ok (.getfield 15, 3) := by decide +kernel
theorem dX0_growOlder_27 : decode cX0_growOlder 27 = .ok (.iload_n 1, 1) := by decide +kernel
theorem dX0_growOlder_28 : decode cX0_growOlder 28 = .ok (.iaload, 1) := by decide +kernel
theorem dX0_growOlder_29 : decode cX0_growOlder 29 = .ok (.iconst 1, 1) := by decide +kernel
theorem dX0_growOlder_30 : decode cX0_growOlder 30 = .ok (.iadd, 1) := by decide +kernel
theorem dX0_growOlder_31 : decode cX0_growOlder 31 = .ok (.invokestatic 60, 3) := by decide +kernel
theorem dX0_growOlder_34 : decode cX0_growOlder 34 = .ok (.iastore, 1) := by decide +kernel
theorem dX0_growOlder_35 : decode cX0_growOlder 35 = .ok (.iinc 1 1, 3) := by decide +kernel
theorem dX0_growOlder_38 : decode cX0_growOlder 38 = .ok (.goto (-36), 3) := by decide +kernel
theorem dX0_growOlder_41 : decode cX0_growOlder 41 = .ok (.aload_n 0, 1) := by decide +kernel
theorem dX0_growOlder_42 : decode cX0_growOlder 42 = .ok (.sipush 9999, 3) := by decide +kernel
theorem dX0_growOlder_45 : decode cX0_growOlder 45 = .ok (.aload_n 0, 1) := by decide +kernel
theorem dX0_growOlder_46 : decode cX0_growOlder 46 = .ok (.getfield 35, 3) := by decide +kernel
theorem dX0_growOlder_49 : decode cX0_growOlder 49 = .ok (.iconst 1, 1) := by decide +kernel
theorem dX0_growOlder_50 : decode cX0_growOlder 50 = .ok (.iadd, 1) := by decide +kernel
theorem dX0_growOlder_51 : decode cX0_growOlder 51 = .ok (.invokestatic 60, 3) := by decide +kernel
theorem dX0_growOlder_54 : decode cX0_growOlder 54 = .ok (.putfield 35, 3) := by decide +kernel
theorem dX0_growOlder_57 : decode cX0_growOlder 57 = .ok (.return_, 1) := by decide +kernel
def mX0_copy (F : Nat) (c : Nat) (e1 : Nat) (σ : jS) : Option jS := (lt (jcp σ (e1 + 1) (c + 1) 16) fun σ1 => (lt (jcp σ1 (e1 + 2) (c + 2) 16) fun σ2 => (Option.bind (mX6_copy F (c + 3) (e1 + 3) σ2) fun q3 => (lt (js q3 c 3 (q3 e1 3)) fun σ4 => (lt (js σ4 c 4 (σ4 e1 4)) fun σ5 => (lt (js σ5 c 5 (σ5 e1 5)) fun σ6 => (lt (js σ6 c 6 (σ6 e1 6)) fun σ7 => (lt (js σ7 c 7 (σ7 e1 7)) fun σ8 => some σ8))))))))
set_option maxHeartbeats 4000000 in
set_option maxRecDepth 100000 in
theorem kX0_copy {V : jV} {F : Nat} {c : Nat} {e1 : Nat} (hc : kX c = 0) (he1 : kX e1 = 0) {σ : jS} {v : jS} (hm : mX0_copy F c e1 σ = some v) : Ct cfX 70 V yX0_copy cX0_copy 2 none 2 [.ref (vad V c), .ref (vad V e1)] σ (0, v) := by
  refine j_start (own := RX0) (by decide) rfl (Nat.le_of_ble_eq_true rfl) ?_
  intro G hV C
  subst hV
  unfold mX0_copy at hm
  show JX G 0 [(0, .ref (vad (gV G) c)), (1, .ref (vad (gV G) e1))] [] σ (0, v)
  refine j_aloadn (pc := 0) C 1 dX0_copy_0 rfl rfl ?_
  refine gf_X0_9 (c := e1) (pc := 1) C he1 dX0_copy_1 ?_
  refine j_iconst (v := 0) (pc := 4) C dX0_copy_4 (by decide) ?_
  refine j_aloadn (pc := 5) C 0 dX0_copy_5 rfl rfl ?_
  refine gf_X0_9 (c := c) (pc := 6) C hc dX0_copy_6 ?_
  refine j_iconst (v := 0) (pc := 9) C dX0_copy_9 (by decide) ?_
  refine j_bipush (v := 16) (pc := 10) C dX0_copy_10 (by decide) ?_
  refine j_acopy (c0 := (e1 + 1)) (c1 := (c + 1)) (n0 := 16) (n1 := 16) (k := 16) (pc := 12) C tw_4_64 tw_3_174 tw_3_173 tw_1_20 (kX_lt (of_0_1 he1) (by decide)) (kX_lt (of_0_1 hc) (by decide)) (cx_a (of_0_1 he1) (ol_0_1 he1)) (cx_a (of_0_1 hc) (ol_0_1 hc)) (by decide) (by decide) (by decide) (by decide) (by decide) (Nat.le_of_ble_eq_true rfl) dX0_copy_12 hm (fun σ1 hm => ?_)
  refine j_aloadn (pc := 15) C 1 dX0_copy_15 rfl rfl ?_
  refine gf_X0_15 (c := e1) (pc := 16) C he1 dX0_copy_16 ?_
  refine j_iconst (v := 0) (pc := 19) C dX0_copy_19 (by decide) ?_
  refine j_aloadn (pc := 20) C 0 dX0_copy_20 rfl rfl ?_
  refine gf_X0_15 (c := c) (pc := 21) C hc dX0_copy_21 ?_
  refine j_iconst (v := 0) (pc := 24) C dX0_copy_24 (by decide) ?_
  refine j_bipush (v := 16) (pc := 25) C dX0_copy_25 (by decide) ?_
  refine j_acopy (c0 := (e1 + 2)) (c1 := (c + 2)) (n0 := 16) (n1 := 16) (k := 16) (pc := 27) C tw_4_64 tw_3_174 tw_3_173 tw_1_20 (kX_lt (of_0_2 he1) (by decide)) (kX_lt (of_0_2 hc) (by decide)) (cx_a (of_0_2 he1) (ol_0_2 he1)) (cx_a (of_0_2 hc) (ol_0_2 hc)) (by decide) (by decide) (by decide) (by decide) (by decide) (Nat.le_of_ble_eq_true rfl) dX0_copy_27 hm (fun σ2 hm => ?_)
  refine j_aloadn (pc := 30) C 0 dX0_copy_30 rfl rfl ?_
  refine gf_X0_21 (c := c) (pc := 31) C hc dX0_copy_31 ?_
  refine j_aloadn (pc := 34) C 1 dX0_copy_34 rfl rfl ?_
  refine gf_X0_21 (c := e1) (pc := 35) C he1 dX0_copy_35 ?_
  obtain ⟨q3, hq3, hm⟩ := Option.bind_eq_some_iff.mp hm
  refine cl_X0_47 (c := (c + 3)) (pc := 38) C (of_0_3 hc) (kX6_copy (of_0_3 hc) (of_0_3 he1) hq3) (by decide) (Nat.le_of_ble_eq_true rfl) dX0_copy_38 ?_
  refine j_aloadn (pc := 41) C 0 dX0_copy_41 rfl rfl ?_
  refine j_aloadn (pc := 42) C 1 dX0_copy_42 rfl rfl ?_
  refine gf_X0_25 (c := e1) (pc := 43) C he1 dX0_copy_43 ?_
  refine pf_X0_25 (c := c) (pc := 46) C hc dX0_copy_46 hm (fun σ4 hm => ?_)
  refine j_aloadn (pc := 49) C 0 dX0_copy_49 rfl rfl ?_
  refine j_aloadn (pc := 50) C 1 dX0_copy_50 rfl rfl ?_
  refine gf_X0_29 (c := e1) (pc := 51) C he1 dX0_copy_51 ?_
  refine pf_X0_29 (c := c) (pc := 54) C hc dX0_copy_54 hm (fun σ5 hm => ?_)
  refine j_aloadn (pc := 57) C 0 dX0_copy_57 rfl rfl ?_
  refine j_aloadn (pc := 58) C 1 dX0_copy_58 rfl rfl ?_
  refine gf_X0_32 (c := e1) (pc := 59) C he1 dX0_copy_59 ?_
  refine pf_X0_32 (c := c) (pc := 62) C hc dX0_copy_62 hm (fun σ6 hm => ?_)
  refine j_aloadn (pc := 65) C 0 dX0_copy_65 rfl rfl ?_
  refine j_aloadn (pc := 66) C 1 dX0_copy_66 rfl rfl ?_
  refine gf_X0_35 (c := e1) (pc := 67) C he1 dX0_copy_67 ?_
  refine pf_X0_35 (c := c) (pc := 70) C hc dX0_copy_70 hm (fun σ7 hm => ?_)
  refine j_aloadn (pc := 73) C 0 dX0_copy_73 rfl rfl ?_
  refine j_aloadn (pc := 74) C 1 dX0_copy_74 rfl rfl ?_
  refine gf_X0_38 (c := e1) (pc := 75) C he1 dX0_copy_75 ?_
  refine pf_X0_38 (c := c) (pc := 78) C hc dX0_copy_78 hm (fun σ8 hm => ?_)
  exact j_vret (pc := 81) C rfl dX0_copy_81 hm

def mX0_isTold (F : Nat) (c : Nat) (x1 : Int32) (σ : jS) : Option Int32 := (if x1 < 0 then some (0 : Int32) else (if x1 < (16 : Int32) then (if (((σ c 3) >>> (x1 &&& 31)) &&& (1 : Int32)) = 0 then some (0 : Int32) else some (1 : Int32)) else some (0 : Int32)))
set_option maxHeartbeats 4000000 in
set_option maxRecDepth 100000 in
theorem kX0_isTold {V : jV} {F : Nat} {c : Nat} (hc : kX c = 0) {x1 : Int32} {σ : jS} {v : Int32} (hm : mX0_isTold F c x1 σ = some v) : Ct cfX 70 V yX0_isTold cX0_isTold 2 (some .boolean) 0 [.ref (vad V c), .int x1] σ (v, σ) := by
  refine j_start (own := RX0) (by decide) rfl (Nat.le_of_ble_eq_true rfl) ?_
  intro G hV C
  subst hV
  unfold mX0_isTold at hm
  show JX G 0 [(0, .ref (vad (gV G) c)), (1, .int x1)] [] σ (v, σ)
  refine j_iloadn (pc := 0) C 1 dX0_isTold_0 rfl rfl ?_
  refine j_if_lt (tgt := 25) (pc := 1) C dX0_isTold_1 (by decide) hm (fun _ hm => ?_) (fun _ hm => ?_)
  · refine j_iconst (v := 0) (pc := 25) C dX0_isTold_25 (by decide) ?_
    exact j_zret (pc := 26) C rfl rfl dX0_isTold_26 hm
  · refine j_iloadn (pc := 4) C 1 dX0_isTold_4 rfl rfl ?_
    refine j_bipush (v := 16) (pc := 5) C dX0_isTold_5 (by decide) ?_
    refine j_icmp_ge (tgt := 25) (pc := 7) C dX0_isTold_7 (by decide) hm (fun _ hm => ?_) (fun _ hm => ?_)
    · refine j_aloadn (pc := 10) C 0 dX0_isTold_10 rfl rfl ?_
      refine gf_X0_25 (c := c) (pc := 11) C hc dX0_isTold_11 ?_
      refine j_iloadn (pc := 14) C 1 dX0_isTold_14 rfl rfl ?_
      refine j_ishr (pc := 15) C dX0_isTold_15 ?_
      refine j_iconst (v := 1) (pc := 16) C dX0_isTold_16 (by decide) ?_
      refine j_iand (pc := 17) C dX0_isTold_17 ?_
      refine j_if_eq (tgt := 25) (pc := 18) C dX0_isTold_18 (by decide) hm (fun _ hm => ?_) (fun _ hm => ?_)
      · refine j_iconst (v := 0) (pc := 25) C dX0_isTold_25 (by decide) ?_
        exact j_zret (pc := 26) C rfl rfl dX0_isTold_26 hm
      · refine j_iconst (v := 1) (pc := 21) C dX0_isTold_21 (by decide) ?_
        refine j_goto (tgt := 26) (pc := 22) C dX0_isTold_22 (by decide) ?_
        exact j_zret (pc := 26) C rfl rfl dX0_isTold_26 hm
    · refine j_iconst (v := 0) (pc := 25) C dX0_isTold_25 (by decide) ?_
      exact j_zret (pc := 26) C rfl rfl dX0_isTold_26 hm

def mX0_isLiving (F : Nat) (c : Nat) (x1 : Int32) (σ : jS) : Option Int32 := (if x1 < 0 then some (0 : Int32) else (if x1 < (16 : Int32) then (if (((σ c 4) >>> (x1 &&& 31)) &&& (1 : Int32)) = 0 then some (0 : Int32) else some (1 : Int32)) else some (0 : Int32)))
set_option maxHeartbeats 4000000 in
set_option maxRecDepth 100000 in
theorem kX0_isLiving {V : jV} {F : Nat} {c : Nat} (hc : kX c = 0) {x1 : Int32} {σ : jS} {v : Int32} (hm : mX0_isLiving F c x1 σ = some v) : Ct cfX 70 V yX0_isLiving cX0_isLiving 2 (some .boolean) 0 [.ref (vad V c), .int x1] σ (v, σ) := by
  refine j_start (own := RX0) (by decide) rfl (Nat.le_of_ble_eq_true rfl) ?_
  intro G hV C
  subst hV
  unfold mX0_isLiving at hm
  show JX G 0 [(0, .ref (vad (gV G) c)), (1, .int x1)] [] σ (v, σ)
  refine j_iloadn (pc := 0) C 1 dX0_isLiving_0 rfl rfl ?_
  refine j_if_lt (tgt := 25) (pc := 1) C dX0_isLiving_1 (by decide) hm (fun _ hm => ?_) (fun _ hm => ?_)
  · refine j_iconst (v := 0) (pc := 25) C dX0_isLiving_25 (by decide) ?_
    exact j_zret (pc := 26) C rfl rfl dX0_isLiving_26 hm
  · refine j_iloadn (pc := 4) C 1 dX0_isLiving_4 rfl rfl ?_
    refine j_bipush (v := 16) (pc := 5) C dX0_isLiving_5 (by decide) ?_
    refine j_icmp_ge (tgt := 25) (pc := 7) C dX0_isLiving_7 (by decide) hm (fun _ hm => ?_) (fun _ hm => ?_)
    · refine j_aloadn (pc := 10) C 0 dX0_isLiving_10 rfl rfl ?_
      refine gf_X0_29 (c := c) (pc := 11) C hc dX0_isLiving_11 ?_
      refine j_iloadn (pc := 14) C 1 dX0_isLiving_14 rfl rfl ?_
      refine j_ishr (pc := 15) C dX0_isLiving_15 ?_
      refine j_iconst (v := 1) (pc := 16) C dX0_isLiving_16 (by decide) ?_
      refine j_iand (pc := 17) C dX0_isLiving_17 ?_
      refine j_if_eq (tgt := 25) (pc := 18) C dX0_isLiving_18 (by decide) hm (fun _ hm => ?_) (fun _ hm => ?_)
      · refine j_iconst (v := 0) (pc := 25) C dX0_isLiving_25 (by decide) ?_
        exact j_zret (pc := 26) C rfl rfl dX0_isLiving_26 hm
      · refine j_iconst (v := 1) (pc := 21) C dX0_isLiving_21 (by decide) ?_
        refine j_goto (tgt := 26) (pc := 22) C dX0_isLiving_22 (by decide) ?_
        exact j_zret (pc := 26) C rfl rfl dX0_isLiving_26 hm
    · refine j_iconst (v := 0) (pc := 25) C dX0_isLiving_25 (by decide) ?_
      exact j_zret (pc := 26) C rfl rfl dX0_isLiving_26 hm

def mX0_beatsOf (F : Nat) (c : Nat) (x1 : Int32) (σ : jS) : Option Int32 := (if x1 < 0 then some (0 : Int32) else (if x1 < (16 : Int32) then (if jin x1 16 = true then some (σ (c + 1) x1.toNatClampNeg) else none) else some (0 : Int32)))
set_option maxHeartbeats 4000000 in
set_option maxRecDepth 100000 in
theorem kX0_beatsOf {V : jV} {F : Nat} {c : Nat} (hc : kX c = 0) {x1 : Int32} {σ : jS} {v : Int32} (hm : mX0_beatsOf F c x1 σ = some v) : Ct cfX 70 V yX0_beatsOf cX0_beatsOf 2 (some .int) 0 [.ref (vad V c), .int x1] σ (v, σ) := by
  refine j_start (own := RX0) (by decide) rfl (Nat.le_of_ble_eq_true rfl) ?_
  intro G hV C
  subst hV
  unfold mX0_beatsOf at hm
  show JX G 0 [(0, .ref (vad (gV G) c)), (1, .int x1)] [] σ (v, σ)
  refine j_iloadn (pc := 0) C 1 dX0_beatsOf_0 rfl rfl ?_
  refine j_if_lt (tgt := 19) (pc := 1) C dX0_beatsOf_1 (by decide) hm (fun _ hm => ?_) (fun _ hm => ?_)
  · refine j_iconst (v := 0) (pc := 19) C dX0_beatsOf_19 (by decide) ?_
    exact j_iret (pc := 20) C rfl dX0_beatsOf_20 hm
  · refine j_iloadn (pc := 4) C 1 dX0_beatsOf_4 rfl rfl ?_
    refine j_bipush (v := 16) (pc := 5) C dX0_beatsOf_5 (by decide) ?_
    refine j_icmp_ge (tgt := 19) (pc := 7) C dX0_beatsOf_7 (by decide) hm (fun _ hm => ?_) (fun _ hm => ?_)
    · refine j_aloadn (pc := 10) C 0 dX0_beatsOf_10 rfl rfl ?_
      refine gf_X0_9 (c := c) (pc := 11) C hc dX0_beatsOf_11 ?_
      refine j_iloadn (pc := 14) C 1 dX0_beatsOf_14 rfl rfl ?_
      refine j_guard hm (fun hg1 hm => ?_)
      refine j_iald (c := (c + 1)) (n := 16) (pc := 15) C (kX_lt (of_0_1 hc) (by decide)) (cx_a (of_0_1 hc) (ol_0_1 hc) _) hg1 dX0_beatsOf_15 ?_
      refine j_goto (tgt := 20) (pc := 16) C dX0_beatsOf_16 (by decide) ?_
      exact j_iret (pc := 20) C rfl dX0_beatsOf_20 hm
    · refine j_iconst (v := 0) (pc := 19) C dX0_beatsOf_19 (by decide) ?_
      exact j_iret (pc := 20) C rfl dX0_beatsOf_20 hm

def mX0_ageOf (F : Nat) (c : Nat) (x1 : Int32) (σ : jS) : Option Int32 := (if x1 < 0 then some (0 : Int32) else (if x1 < (16 : Int32) then (if jin x1 16 = true then some (σ (c + 2) x1.toNatClampNeg) else none) else some (0 : Int32)))
set_option maxHeartbeats 4000000 in
set_option maxRecDepth 100000 in
theorem kX0_ageOf {V : jV} {F : Nat} {c : Nat} (hc : kX c = 0) {x1 : Int32} {σ : jS} {v : Int32} (hm : mX0_ageOf F c x1 σ = some v) : Ct cfX 70 V yX0_ageOf cX0_ageOf 2 (some .int) 0 [.ref (vad V c), .int x1] σ (v, σ) := by
  refine j_start (own := RX0) (by decide) rfl (Nat.le_of_ble_eq_true rfl) ?_
  intro G hV C
  subst hV
  unfold mX0_ageOf at hm
  show JX G 0 [(0, .ref (vad (gV G) c)), (1, .int x1)] [] σ (v, σ)
  refine j_iloadn (pc := 0) C 1 dX0_ageOf_0 rfl rfl ?_
  refine j_if_lt (tgt := 19) (pc := 1) C dX0_ageOf_1 (by decide) hm (fun _ hm => ?_) (fun _ hm => ?_)
  · refine j_iconst (v := 0) (pc := 19) C dX0_ageOf_19 (by decide) ?_
    exact j_iret (pc := 20) C rfl dX0_ageOf_20 hm
  · refine j_iloadn (pc := 4) C 1 dX0_ageOf_4 rfl rfl ?_
    refine j_bipush (v := 16) (pc := 5) C dX0_ageOf_5 (by decide) ?_
    refine j_icmp_ge (tgt := 19) (pc := 7) C dX0_ageOf_7 (by decide) hm (fun _ hm => ?_) (fun _ hm => ?_)
    · refine j_aloadn (pc := 10) C 0 dX0_ageOf_10 rfl rfl ?_
      refine gf_X0_15 (c := c) (pc := 11) C hc dX0_ageOf_11 ?_
      refine j_iloadn (pc := 14) C 1 dX0_ageOf_14 rfl rfl ?_
      refine j_guard hm (fun hg1 hm => ?_)
      refine j_iald (c := (c + 2)) (n := 16) (pc := 15) C (kX_lt (of_0_2 hc) (by decide)) (cx_a (of_0_2 hc) (ol_0_2 hc) _) hg1 dX0_ageOf_15 ?_
      refine j_goto (tgt := 20) (pc := 16) C dX0_ageOf_16 (by decide) ?_
      exact j_iret (pc := 20) C rfl dX0_ageOf_20 hm
    · refine j_iconst (v := 0) (pc := 19) C dX0_ageOf_19 (by decide) ?_
      exact j_iret (pc := 20) C rfl dX0_ageOf_20 hm

def lp_X0_richest_7 (F : Nat) (c : Nat) (σ : jS) : Nat → Int32 → Int32 → Int32 → Option Int32
  | 0, _, _, _ => none
  | n + 1, x1, x2, x3 => (if x3 < (16 : Int32) then (Option.bind (mX0_isTold F c x3 σ) fun q1 => (if q1 = 0 then (lp_X0_richest_7 F c σ n x1 x2 ((x3 + (1 : Int32)))) else (if jin x3 16 = true then (if x2 < (σ (c + 1) x3.toNatClampNeg) then (if jin x3 16 = true then (lt (σ (c + 1) x3.toNatClampNeg) fun y4 => (lp_X0_richest_7 F c σ n x3 y4 ((x3 + (1 : Int32))))) else none) else (lp_X0_richest_7 F c σ n x1 x2 ((x3 + (1 : Int32))))) else none))) else some x1)
set_option maxHeartbeats 4000000 in
set_option maxRecDepth 100000 in
theorem lp_X0_richest_7_ok {G : jG} (C : jc cfX 70 G cX0_richest RX0 4 (some .int) 1) (F : Nat) (c : Nat) (hc : kX c = 0) (σ : jS) {v : Int32} : ∀ (n : Nat) (x1 : Int32) (x2 : Int32) (x3 : Int32), lp_X0_richest_7 F c σ n x1 x2 x3 = some v → JX G 7 [(0, .ref (vad (gV G) c)), (1, .int x1), (2, .int x2), (3, .int x3)] [] σ (v, σ) := by
  intro n
  induction n with
  | zero =>
    intro x1 x2 x3 hm
    rw [lp_X0_richest_7] at hm
    cases hm
  | succ n ih =>
    intro x1 x2 x3 hm
    rw [lp_X0_richest_7] at hm
    refine j_iloadn (pc := 7) C 3 dX0_richest_7 rfl rfl ?_
    refine j_bipush (v := 16) (pc := 8) C dX0_richest_8 (by decide) ?_
    refine j_icmp_ge (tgt := 46) (pc := 10) C dX0_richest_10 (by decide) hm (fun _ hm => ?_) (fun _ hm => ?_)
    · refine j_aloadn (pc := 13) C 0 dX0_richest_13 rfl rfl ?_
      refine j_iloadn (pc := 14) C 3 dX0_richest_14 rfl rfl ?_
      obtain ⟨q1, hq1, hm⟩ := Option.bind_eq_some_iff.mp hm
      refine cl_X0_51 (c := c) (pc := 15) C hc (kX0_isTold hc hq1) (by decide) (Nat.le_of_ble_eq_true rfl) dX0_richest_15 ?_
      refine j_if_eq (tgt := 40) (pc := 18) C dX0_richest_18 (by decide) hm (fun _ hm => ?_) (fun _ hm => ?_)
      · refine j_iinc (v := (x3 + (1 : Int32))) (ls' := [(3, .int (x3 + (1 : Int32))), (0, .ref (vad (gV G) c)), (1, .int x1), (2, .int x2)]) (pc := 40) C 3 dX0_richest_40 rfl rfl (by decide) rfl ?_
        refine j_goto (tgt := 7) (pc := 43) C dX0_richest_43 (by decide) ?_
        refine j_ls [1, 2, 3, 0] rfl ?_
        exact ih _ _ _ hm
      · refine j_aloadn (pc := 21) C 0 dX0_richest_21 rfl rfl ?_
        refine gf_X0_9 (c := c) (pc := 22) C hc dX0_richest_22 ?_
        refine j_iloadn (pc := 25) C 3 dX0_richest_25 rfl rfl ?_
        refine j_guard hm (fun hg2 hm => ?_)
        refine j_iald (c := (c + 1)) (n := 16) (pc := 26) C (kX_lt (of_0_1 hc) (by decide)) (cx_a (of_0_1 hc) (ol_0_1 hc) _) hg2 dX0_richest_26 ?_
        refine j_iloadn (pc := 27) C 2 dX0_richest_27 rfl rfl ?_
        refine j_icmp_le (tgt := 40) (pc := 28) C dX0_richest_28 (by decide) hm (fun _ hm => ?_) (fun _ hm => ?_)
        · refine j_aloadn (pc := 31) C 0 dX0_richest_31 rfl rfl ?_
          refine gf_X0_9 (c := c) (pc := 32) C hc dX0_richest_32 ?_
          refine j_iloadn (pc := 35) C 3 dX0_richest_35 rfl rfl ?_
          refine j_guard hm (fun hg3 hm => ?_)
          refine j_iald (c := (c + 1)) (n := 16) (pc := 36) C (kX_lt (of_0_1 hc) (by decide)) (cx_a (of_0_1 hc) (ol_0_1 hc) _) hg3 dX0_richest_36 ?_
          refine j_lti hm (fun y4 hm => ?_)
          refine j_istoren (ls' := [(2, .int y4), (0, .ref (vad (gV G) c)), (1, .int x1), (3, .int x3)]) (pc := 37) C dX0_richest_37 rfl (by decide) rfl ?_
          refine j_iloadn (pc := 38) C 3 dX0_richest_38 rfl rfl ?_
          refine j_istoren (ls' := [(1, .int x3), (2, .int y4), (0, .ref (vad (gV G) c)), (3, .int x3)]) (pc := 39) C dX0_richest_39 rfl (by decide) rfl ?_
          refine j_iinc (v := (x3 + (1 : Int32))) (ls' := [(3, .int (x3 + (1 : Int32))), (1, .int x3), (2, .int y4), (0, .ref (vad (gV G) c))]) (pc := 40) C 3 dX0_richest_40 rfl rfl (by decide) rfl ?_
          refine j_goto (tgt := 7) (pc := 43) C dX0_richest_43 (by decide) ?_
          refine j_ls [3, 1, 2, 0] rfl ?_
          exact ih _ _ _ hm
        · refine j_iinc (v := (x3 + (1 : Int32))) (ls' := [(3, .int (x3 + (1 : Int32))), (0, .ref (vad (gV G) c)), (1, .int x1), (2, .int x2)]) (pc := 40) C 3 dX0_richest_40 rfl rfl (by decide) rfl ?_
          refine j_goto (tgt := 7) (pc := 43) C dX0_richest_43 (by decide) ?_
          refine j_ls [1, 2, 3, 0] rfl ?_
          exact ih _ _ _ hm
    · refine j_iloadn (pc := 46) C 1 dX0_richest_46 rfl rfl ?_
      exact j_iret (pc := 47) C rfl dX0_richest_47 hm

def mX0_richest (F : Nat) (c : Nat) (σ : jS) : Option Int32 := (lp_X0_richest_7 F c σ F (-2 : Int32) (-1 : Int32) (0 : Int32))
set_option maxHeartbeats 4000000 in
set_option maxRecDepth 100000 in
theorem kX0_richest {V : jV} {F : Nat} {c : Nat} (hc : kX c = 0) {σ : jS} {v : Int32} (hm : mX0_richest F c σ = some v) : Ct cfX 70 V yX0_richest cX0_richest 4 (some .int) 1 [.ref (vad V c)] σ (v, σ) := by
  refine j_start (own := RX0) (by decide) rfl (Nat.le_of_ble_eq_true rfl) ?_
  intro G hV C
  subst hV
  unfold mX0_richest at hm
  show JX G 0 [(0, .ref (vad (gV G) c))] [] σ (v, σ)
  refine j_bipush (v := -2) (pc := 0) C dX0_richest_0 (by decide) ?_
  refine j_istoren (ls' := [(1, .int (-2 : Int32)), (0, .ref (vad (gV G) c))]) (pc := 2) C dX0_richest_2 rfl (by decide) rfl ?_
  refine j_iconst (v := -1) (pc := 3) C dX0_richest_3 (by decide) ?_
  refine j_istoren (ls' := [(2, .int (-1 : Int32)), (1, .int (-2 : Int32)), (0, .ref (vad (gV G) c))]) (pc := 4) C dX0_richest_4 rfl (by decide) rfl ?_
  refine j_iconst (v := 0) (pc := 5) C dX0_richest_5 (by decide) ?_
  refine j_istoren (ls' := [(3, .int (0 : Int32)), (2, .int (-1 : Int32)), (1, .int (-2 : Int32)), (0, .ref (vad (gV G) c))]) (pc := 6) C dX0_richest_6 rfl (by decide) rfl ?_
  refine j_ls [3, 2, 1, 0] rfl ?_
  exact lp_X0_richest_7_ok C F c hc σ  F _ _ _ hm

def mX0_draw (F : Nat) (c : Nat) (σ : jS) : Option (Int32 × jS) := (lt (js σ c 7 (irm (((25173 : Int32) * (σ c 7)) + (13849 : Int32)) (65536 : Int32))) fun σ2 => some ((irm (σ2 c 7) (10 : Int32)), σ2))
set_option maxHeartbeats 4000000 in
set_option maxRecDepth 100000 in
theorem kX0_draw {V : jV} {F : Nat} {c : Nat} (hc : kX c = 0) {σ : jS} {v : (Int32 × jS)} (hm : mX0_draw F c σ = some v) : Ct cfX 70 V yX0_draw cX0_draw 1 (some .int) 0 [.ref (vad V c)] σ v := by
  refine j_start (own := RX0) (by decide) rfl (Nat.le_of_ble_eq_true rfl) ?_
  intro G hV C
  subst hV
  unfold mX0_draw at hm
  show JX G 0 [(0, .ref (vad (gV G) c))] [] σ v
  refine j_aloadn (pc := 0) C 0 dX0_draw_0 rfl rfl ?_
  refine j_sipush (v := 25173) (pc := 1) C dX0_draw_1 (by decide) ?_
  refine j_aloadn (pc := 4) C 0 dX0_draw_4 rfl rfl ?_
  refine gf_X0_38 (c := c) (pc := 5) C hc dX0_draw_5 ?_
  refine j_imul (pc := 8) C dX0_draw_8 ?_
  refine j_sipush (v := 13849) (pc := 9) C dX0_draw_9 (by decide) ?_
  refine j_iadd (pc := 12) C dX0_draw_12 ?_
  refine j_ldc (v := 65536) (pc := 13) C dX0_draw_13 tw_3_205 ?_
  refine j_iremK (pc := 15) C dX0_draw_15 (by decide) ?_
  refine pf_X0_38 (c := c) (pc := 16) C hc dX0_draw_16 hm (fun σ2 hm => ?_)
  refine j_aloadn (pc := 19) C 0 dX0_draw_19 rfl rfl ?_
  refine gf_X0_38 (c := c) (pc := 20) C hc dX0_draw_20 ?_
  refine j_bipush (v := 10) (pc := 23) C dX0_draw_23 (by decide) ?_
  refine j_iremK (pc := 25) C dX0_draw_25 (by decide) ?_
  exact j_iretS (pc := 26) C rfl dX0_draw_26 hm

def mX0_bury (F : Nat) (c : Nat) (x1 : Int32) (σ : jS) : Option jS := (Option.bind (mX0_isLiving F c x1 σ) fun q1 => (if q1 = 0 then some σ else (if jin x1 16 = true then (lt (js σ c 5 (imin (999999999 : Int32) ((σ c 5) + (σ (c + 1) x1.toNatClampNeg)))) fun σ3 => (if jin x1 16 = true then (lt (js σ3 (c + 1) x1.toNatClampNeg (0 : Int32)) fun σ4 => (lt (js σ4 c 4 ((σ4 c 4) &&& (((1 : Int32) <<< (x1 &&& 31)) ^^^ (-1 : Int32)))) fun σ6 => some σ6)) else none)) else none)))
set_option maxHeartbeats 4000000 in
set_option maxRecDepth 100000 in
theorem kX0_bury {V : jV} {F : Nat} {c : Nat} (hc : kX c = 0) {x1 : Int32} {σ : jS} {v : jS} (hm : mX0_bury F c x1 σ = some v) : Ct cfX 70 V yX0_bury cX0_bury 2 none 1 [.ref (vad V c), .int x1] σ (0, v) := by
  refine j_start (own := RX0) (by decide) rfl (Nat.le_of_ble_eq_true rfl) ?_
  intro G hV C
  subst hV
  unfold mX0_bury at hm
  show JX G 0 [(0, .ref (vad (gV G) c)), (1, .int x1)] [] σ (0, v)
  refine j_aloadn (pc := 0) C 0 dX0_bury_0 rfl rfl ?_
  refine j_iloadn (pc := 1) C 1 dX0_bury_1 rfl rfl ?_
  obtain ⟨q1, hq1, hm⟩ := Option.bind_eq_some_iff.mp hm
  refine cl_X0_56 (c := c) (pc := 2) C hc (kX0_isLiving hc hq1) (by decide) (Nat.le_of_ble_eq_true rfl) dX0_bury_2 ?_
  refine j_if_eq (tgt := 49) (pc := 5) C dX0_bury_5 (by decide) hm (fun _ hm => ?_) (fun _ hm => ?_)
  · exact j_vret (pc := 49) C rfl dX0_bury_49 hm
  · refine j_aloadn (pc := 8) C 0 dX0_bury_8 rfl rfl ?_
    refine j_ldc (v := 999999999) (pc := 9) C dX0_bury_9 tw_4_16 ?_
    refine j_aloadn (pc := 11) C 0 dX0_bury_11 rfl rfl ?_
    refine gf_X0_32 (c := c) (pc := 12) C hc dX0_bury_12 ?_
    refine j_aloadn (pc := 15) C 0 dX0_bury_15 rfl rfl ?_
    refine gf_X0_9 (c := c) (pc := 16) C hc dX0_bury_16 ?_
    refine j_iloadn (pc := 19) C 1 dX0_bury_19 rfl rfl ?_
    refine j_guard hm (fun hg2 hm => ?_)
    refine j_iald (c := (c + 1)) (n := 16) (pc := 20) C (kX_lt (of_0_1 hc) (by decide)) (cx_a (of_0_1 hc) (ol_0_1 hc) _) hg2 dX0_bury_20 ?_
    refine j_iadd (pc := 21) C dX0_bury_21 ?_
    refine j_mminD (pc := 22) C tw_4_17 tw_2_162 tw_1_14 tw_2_163 (by decide) (Nat.le_of_ble_eq_true rfl) dX0_bury_22 ?_
    refine pf_X0_32 (c := c) (pc := 25) C hc dX0_bury_25 hm (fun σ3 hm => ?_)
    refine j_aloadn (pc := 28) C 0 dX0_bury_28 rfl rfl ?_
    refine gf_X0_9 (c := c) (pc := 29) C hc dX0_bury_29 ?_
    refine j_iloadn (pc := 32) C 1 dX0_bury_32 rfl rfl ?_
    refine j_iconst (v := 0) (pc := 33) C dX0_bury_33 (by decide) ?_
    refine j_guard hm (fun hg5 hm => ?_)
    refine j_iastL (c := (c + 1)) (n := 16) (pc := 34) C (kX_lt (of_0_1 hc) (by decide)) (cx_a (of_0_1 hc) (ol_0_1 hc)) hg5 dX0_bury_34 hm (fun σ4 hm => ?_)
    refine j_aloadn (pc := 35) C 0 dX0_bury_35 rfl rfl ?_
    refine j_dup (pc := 36) C dX0_bury_36 rfl ?_
    refine gf_X0_29 (c := c) (pc := 37) C hc dX0_bury_37 ?_
    refine j_iconst (v := 1) (pc := 40) C dX0_bury_40 (by decide) ?_
    refine j_iloadn (pc := 41) C 1 dX0_bury_41 rfl rfl ?_
    refine j_ishl (pc := 42) C dX0_bury_42 ?_
    refine j_iconst (v := -1) (pc := 43) C dX0_bury_43 (by decide) ?_
    refine j_ixor (pc := 44) C dX0_bury_44 ?_
    refine j_iand (pc := 45) C dX0_bury_45 ?_
    refine pf_X0_29 (c := c) (pc := 46) C hc dX0_bury_46 hm (fun σ6 hm => ?_)
    exact j_vret (pc := 49) C rfl dX0_bury_49 hm

def mX0_spend (F : Nat) (c : Nat) (x1 : Int32) (x2 : Int32) (σ : jS) : Option jS := (Option.bind (mX0_isLiving F c x1 σ) fun q1 => (if q1 = 0 then some σ else (if jin x1 16 = true then (if jin x1 16 = true then (lt (js σ (c + 1) x1.toNatClampNeg (imax (0 : Int32) ((σ (c + 1) x1.toNatClampNeg) - x2))) fun σ3 => (if jin x1 16 = true then (if (σ3 (c + 1) x1.toNatClampNeg) = 0 then (Option.bind (mX0_bury F c x1 σ3) fun q6 => some q6) else some σ3) else none)) else none) else none)))
set_option maxHeartbeats 4000000 in
set_option maxRecDepth 100000 in
theorem kX0_spend {V : jV} {F : Nat} {c : Nat} (hc : kX c = 0) {x1 : Int32} {x2 : Int32} {σ : jS} {v : jS} (hm : mX0_spend F c x1 x2 σ = some v) : Ct cfX 70 V yX0_spend cX0_spend 3 none 2 [.ref (vad V c), .int x1, .int x2] σ (0, v) := by
  refine j_start (own := RX0) (by decide) rfl (Nat.le_of_ble_eq_true rfl) ?_
  intro G hV C
  subst hV
  unfold mX0_spend at hm
  show JX G 0 [(0, .ref (vad (gV G) c)), (1, .int x1), (2, .int x2)] [] σ (0, v)
  refine j_aloadn (pc := 0) C 0 dX0_spend_0 rfl rfl ?_
  refine j_iloadn (pc := 1) C 1 dX0_spend_1 rfl rfl ?_
  obtain ⟨q1, hq1, hm⟩ := Option.bind_eq_some_iff.mp hm
  refine cl_X0_56 (c := c) (pc := 2) C hc (kX0_isLiving hc hq1) (by decide) (Nat.le_of_ble_eq_true rfl) dX0_spend_2 ?_
  refine j_if_eq (tgt := 40) (pc := 5) C dX0_spend_5 (by decide) hm (fun _ hm => ?_) (fun _ hm => ?_)
  · exact j_vret (pc := 40) C rfl dX0_spend_40 hm
  · refine j_aloadn (pc := 8) C 0 dX0_spend_8 rfl rfl ?_
    refine gf_X0_9 (c := c) (pc := 9) C hc dX0_spend_9 ?_
    refine j_iloadn (pc := 12) C 1 dX0_spend_12 rfl rfl ?_
    refine j_iconst (v := 0) (pc := 13) C dX0_spend_13 (by decide) ?_
    refine j_aloadn (pc := 14) C 0 dX0_spend_14 rfl rfl ?_
    refine gf_X0_9 (c := c) (pc := 15) C hc dX0_spend_15 ?_
    refine j_iloadn (pc := 18) C 1 dX0_spend_18 rfl rfl ?_
    refine j_guard hm (fun hg2 hm => ?_)
    refine j_iald (c := (c + 1)) (n := 16) (pc := 19) C (kX_lt (of_0_1 hc) (by decide)) (cx_a (of_0_1 hc) (ol_0_1 hc) _) hg2 dX0_spend_19 ?_
    refine j_iloadn (pc := 20) C 2 dX0_spend_20 rfl rfl ?_
    refine j_isub (pc := 21) C dX0_spend_21 ?_
    refine j_mmaxD (pc := 22) C tw_4_22 tw_2_230 tw_1_14 tw_2_231 (by decide) (Nat.le_of_ble_eq_true rfl) dX0_spend_22 ?_
    refine j_guard hm (fun hg4 hm => ?_)
    refine j_iastL (c := (c + 1)) (n := 16) (pc := 25) C (kX_lt (of_0_1 hc) (by decide)) (cx_a (of_0_1 hc) (ol_0_1 hc)) hg4 dX0_spend_25 hm (fun σ3 hm => ?_)
    refine j_aloadn (pc := 26) C 0 dX0_spend_26 rfl rfl ?_
    refine gf_X0_9 (c := c) (pc := 27) C hc dX0_spend_27 ?_
    refine j_iloadn (pc := 30) C 1 dX0_spend_30 rfl rfl ?_
    refine j_guard hm (fun hg5 hm => ?_)
    refine j_iald (c := (c + 1)) (n := 16) (pc := 31) C (kX_lt (of_0_1 hc) (by decide)) (cx_a (of_0_1 hc) (ol_0_1 hc) _) hg5 dX0_spend_31 ?_
    refine j_if_ne (tgt := 40) (pc := 32) C dX0_spend_32 (by decide) hm (fun _ hm => ?_) (fun _ hm => ?_)
    · refine j_aloadn (pc := 35) C 0 dX0_spend_35 rfl rfl ?_
      refine j_iloadn (pc := 36) C 1 dX0_spend_36 rfl rfl ?_
      obtain ⟨q6, hq6, hm⟩ := Option.bind_eq_some_iff.mp hm
      refine cl_X0_69 (c := c) (pc := 37) C hc (kX0_bury hc hq6) (by decide) (Nat.le_of_ble_eq_true rfl) dX0_spend_37 ?_
      exact j_vret (pc := 40) C rfl dX0_spend_40 hm
    · exact j_vret (pc := 40) C rfl dX0_spend_40 hm

def mX0_give (F : Nat) (c : Nat) (x1 : Int32) (x2 : Int32) (σ : jS) : Option jS := (Option.bind (mX0_isLiving F c x1 σ) fun q1 => (if q1 = 0 then some σ else (if jin x1 16 = true then (lt (imin (imin x2 (σ c 5)) ((999999999 : Int32) - (σ (c + 1) x1.toNatClampNeg))) fun y3 => (if jin x1 16 = true then (if jin x1 16 = true then (lt (js σ (c + 1) x1.toNatClampNeg ((σ (c + 1) x1.toNatClampNeg) + y3)) fun σ5 => (lt (js σ5 c 5 ((σ5 c 5) - y3)) fun σ7 => some σ7)) else none) else none)) else none)))
set_option maxHeartbeats 4000000 in
set_option maxRecDepth 100000 in
theorem kX0_give {V : jV} {F : Nat} {c : Nat} (hc : kX c = 0) {x1 : Int32} {x2 : Int32} {σ : jS} {v : jS} (hm : mX0_give F c x1 x2 σ = some v) : Ct cfX 70 V yX0_give cX0_give 4 none 1 [.ref (vad V c), .int x1, .int x2] σ (0, v) := by
  refine j_start (own := RX0) (by decide) rfl (Nat.le_of_ble_eq_true rfl) ?_
  intro G hV C
  subst hV
  unfold mX0_give at hm
  show JX G 0 [(0, .ref (vad (gV G) c)), (1, .int x1), (2, .int x2)] [] σ (0, v)
  refine j_aloadn (pc := 0) C 0 dX0_give_0 rfl rfl ?_
  refine j_iloadn (pc := 1) C 1 dX0_give_1 rfl rfl ?_
  obtain ⟨q1, hq1, hm⟩ := Option.bind_eq_some_iff.mp hm
  refine cl_X0_56 (c := c) (pc := 2) C hc (kX0_isLiving hc hq1) (by decide) (Nat.le_of_ble_eq_true rfl) dX0_give_2 ?_
  refine j_if_eq (tgt := 49) (pc := 5) C dX0_give_5 (by decide) hm (fun _ hm => ?_) (fun _ hm => ?_)
  · exact j_vret (pc := 49) C rfl dX0_give_49 hm
  · refine j_iloadn (pc := 8) C 2 dX0_give_8 rfl rfl ?_
    refine j_aloadn (pc := 9) C 0 dX0_give_9 rfl rfl ?_
    refine gf_X0_32 (c := c) (pc := 10) C hc dX0_give_10 ?_
    refine j_mminD (pc := 13) C tw_4_17 tw_2_162 tw_1_14 tw_2_163 (by decide) (Nat.le_of_ble_eq_true rfl) dX0_give_13 ?_
    refine j_ldc (v := 999999999) (pc := 16) C dX0_give_16 tw_4_16 ?_
    refine j_aloadn (pc := 18) C 0 dX0_give_18 rfl rfl ?_
    refine gf_X0_9 (c := c) (pc := 19) C hc dX0_give_19 ?_
    refine j_iloadn (pc := 22) C 1 dX0_give_22 rfl rfl ?_
    refine j_guard hm (fun hg2 hm => ?_)
    refine j_iald (c := (c + 1)) (n := 16) (pc := 23) C (kX_lt (of_0_1 hc) (by decide)) (cx_a (of_0_1 hc) (ol_0_1 hc) _) hg2 dX0_give_23 ?_
    refine j_isub (pc := 24) C dX0_give_24 ?_
    refine j_mminD (pc := 25) C tw_4_17 tw_2_162 tw_1_14 tw_2_163 (by decide) (Nat.le_of_ble_eq_true rfl) dX0_give_25 ?_
    refine j_lti hm (fun y3 hm => ?_)
    refine j_istoren (ls' := [(3, .int y3), (0, .ref (vad (gV G) c)), (1, .int x1), (2, .int x2)]) (pc := 28) C dX0_give_28 rfl (by decide) rfl ?_
    refine j_aloadn (pc := 29) C 1 dX0_give_29 rfl rfl ?_
    refine gf_X0_9 (c := c) (pc := 30) C hc dX0_give_30 ?_
    refine j_iloadn (pc := 33) C 2 dX0_give_33 rfl rfl ?_
    refine j_dup2 (pc := 34) C dX0_give_34 rfl rfl ?_
    refine j_guard hm (fun hg4 hm => ?_)
    refine j_iald (c := (c + 1)) (n := 16) (pc := 35) C (kX_lt (of_0_1 hc) (by decide)) (cx_a (of_0_1 hc) (ol_0_1 hc) _) hg4 dX0_give_35 ?_
    refine j_iloadn (pc := 36) C 0 dX0_give_36 rfl rfl ?_
    refine j_iadd (pc := 37) C dX0_give_37 ?_
    refine j_guard hm (fun hg6 hm => ?_)
    refine j_iastL (c := (c + 1)) (n := 16) (pc := 38) C (kX_lt (of_0_1 hc) (by decide)) (cx_a (of_0_1 hc) (ol_0_1 hc)) hg6 dX0_give_38 hm (fun σ5 hm => ?_)
    refine j_aloadn (pc := 39) C 1 dX0_give_39 rfl rfl ?_
    refine j_dup (pc := 40) C dX0_give_40 rfl ?_
    refine gf_X0_32 (c := c) (pc := 41) C hc dX0_give_41 ?_
    refine j_iloadn (pc := 44) C 0 dX0_give_44 rfl rfl ?_
    refine j_isub (pc := 45) C dX0_give_45 ?_
    refine pf_X0_32 (c := c) (pc := 46) C hc dX0_give_46 hm (fun σ7 hm => ?_)
    exact j_vret (pc := 49) C rfl dX0_give_49 hm

def lp_X0_payLoans_2 (F : Nat) (c : Nat) : Nat → Int32 → jS → Option jS
  | 0, _, _ => none
  | n + 1, x1, σ => (if x1 < (σ (c + 3) 6) then (if x1 < (24 : Int32) then (if jin x1 24 = true then (lt (σ ((c + 3) + 1) x1.toNatClampNeg) fun y2 => (if jin x1 24 = true then (lt (σ ((c + 3) + 2) x1.toNatClampNeg) fun y4 => (Option.bind (mX0_isLiving F c y2 σ) fun q5 => (if q5 = 0 then (lp_X0_payLoans_2 F c n ((x1 + (1 : Int32))) σ) else (Option.bind (mX0_isLiving F c y4 σ) fun q6 => (if q6 = 0 then (lp_X0_payLoans_2 F c n ((x1 + (1 : Int32))) σ) else (if jin x1 24 = true then (Option.bind (mX6_grown F (c + 3) x1 ((σ ((c + 3) + 6) x1.toNatClampNeg)) σ) fun q8 => (if jin x1 24 = true then (if jin y4 16 = true then (lt (imin (imin (σ ((c + 3) + 5) x1.toNatClampNeg) q8) ((σ (c + 1) y4.toNatClampNeg) - (1 : Int32))) fun y11 => (if jin x1 24 = true then (lt (js σ ((c + 3) + 6) x1.toNatClampNeg (q8 - y11)) fun σ12 => (if jin y4 16 = true then (if jin y4 16 = true then (lt (js σ12 (c + 1) y4.toNatClampNeg ((σ12 (c + 1) y4.toNatClampNeg) - y11)) fun σ15 => (if jin y2 16 = true then (if jin y2 16 = true then (lt (js σ15 (c + 1) y2.toNatClampNeg (imin (999999999 : Int32) ((σ15 (c + 1) y2.toNatClampNeg) + y11))) fun σ18 => (lp_X0_payLoans_2 F c n ((x1 + (1 : Int32))) σ18)) else none) else none)) else none) else none)) else none)) else none) else none)) else none)))))) else none)) else none) else some σ) else some σ)
set_option maxHeartbeats 4000000 in
set_option maxRecDepth 100000 in
theorem lp_X0_payLoans_2_ok {G : jG} (C : jc cfX 70 G cX0_payLoans RX0 6 none 2) (F : Nat) (c : Nat) (hc : kX c = 0) {v : jS} : ∀ (n : Nat) (x1 : Int32) (σ : jS), lp_X0_payLoans_2 F c n x1 σ = some v → JX G 2 [(0, .ref (vad (gV G) c)), (1, .int x1)] [] σ (0, v) := by
  intro n
  induction n with
  | zero =>
    intro x1 σ hm
    rw [lp_X0_payLoans_2] at hm
    cases hm
  | succ n ih =>
    intro x1 σ hm
    rw [lp_X0_payLoans_2] at hm
    refine j_iloadn (pc := 2) C 1 dX0_payLoans_2 rfl rfl ?_
    refine j_aloadn (pc := 3) C 0 dX0_payLoans_3 rfl rfl ?_
    refine gf_X0_21 (c := c) (pc := 4) C hc dX0_payLoans_4 ?_
    refine gf_X0_73 (c := (c + 3)) (pc := 7) C (of_0_3 hc) dX0_payLoans_7 ?_
    refine j_icmp_ge (tgt := 152) (pc := 10) C dX0_payLoans_10 (by decide) hm (fun _ hm => ?_) (fun _ hm => ?_)
    · refine j_iloadn (pc := 13) C 1 dX0_payLoans_13 rfl rfl ?_
      refine j_bipush (v := 24) (pc := 14) C dX0_payLoans_14 (by decide) ?_
      refine j_icmp_ge (tgt := 152) (pc := 16) C dX0_payLoans_16 (by decide) hm (fun _ hm => ?_) (fun _ hm => ?_)
      · refine j_aloadn (pc := 19) C 0 dX0_payLoans_19 rfl rfl ?_
        refine gf_X0_21 (c := c) (pc := 20) C hc dX0_payLoans_20 ?_
        refine gf_X0_76 (c := (c + 3)) (pc := 23) C (of_0_3 hc) dX0_payLoans_23 ?_
        refine j_iloadn (pc := 26) C 1 dX0_payLoans_26 rfl rfl ?_
        refine j_guard hm (fun hg1 hm => ?_)
        refine j_iald (c := ((c + 3) + 1)) (n := 24) (pc := 27) C (kX_lt (of_6_1 (of_0_3 hc)) (by decide)) (cx_a (of_6_1 (of_0_3 hc)) (ol_6_1 (of_0_3 hc)) _) hg1 dX0_payLoans_27 ?_
        refine j_lti hm (fun y2 hm => ?_)
        refine j_istoren (ls' := [(2, .int y2), (0, .ref (vad (gV G) c)), (1, .int x1)]) (pc := 28) C dX0_payLoans_28 rfl (by decide) rfl ?_
        refine j_aloadn (pc := 29) C 1 dX0_payLoans_29 rfl rfl ?_
        refine gf_X0_21 (c := c) (pc := 30) C hc dX0_payLoans_30 ?_
        refine gf_X0_79 (c := (c + 3)) (pc := 33) C (of_0_3 hc) dX0_payLoans_33 ?_
        refine j_iloadn (pc := 36) C 2 dX0_payLoans_36 rfl rfl ?_
        refine j_guard hm (fun hg3 hm => ?_)
        refine j_iald (c := ((c + 3) + 2)) (n := 24) (pc := 37) C (kX_lt (of_6_2 (of_0_3 hc)) (by decide)) (cx_a (of_6_2 (of_0_3 hc)) (ol_6_2 (of_0_3 hc)) _) hg3 dX0_payLoans_37 ?_
        refine j_lti hm (fun y4 hm => ?_)
        refine j_istoren (ls' := [(3, .int y4), (2, .int y2), (0, .ref (vad (gV G) c)), (1, .int x1)]) (pc := 38) C dX0_payLoans_38 rfl (by decide) rfl ?_
        refine j_aloadn (pc := 39) C 2 dX0_payLoans_39 rfl rfl ?_
        refine j_iloadn (pc := 40) C 1 dX0_payLoans_40 rfl rfl ?_
        obtain ⟨q5, hq5, hm⟩ := Option.bind_eq_some_iff.mp hm
        refine cl_X0_56 (c := c) (pc := 41) C hc (kX0_isLiving hc hq5) (by decide) (Nat.le_of_ble_eq_true rfl) dX0_payLoans_41 ?_
        refine j_if_eq (tgt := 146) (pc := 44) C dX0_payLoans_44 (by decide) hm (fun _ hm => ?_) (fun _ hm => ?_)
        · refine j_iinc (v := (x1 + (1 : Int32))) (ls' := [(1, .int (x1 + (1 : Int32))), (3, .int y4), (2, .int y2), (0, .ref (vad (gV G) c))]) (pc := 146) C 3 dX0_payLoans_146 rfl rfl (by decide) rfl ?_
          refine j_goto (tgt := 2) (pc := 149) C dX0_payLoans_149 (by decide) ?_
          refine j_ls [3, 0] rfl ?_
          exact ih _ _ hm
        · refine j_aloadn (pc := 47) C 2 dX0_payLoans_47 rfl rfl ?_
          refine j_iloadn (pc := 48) C 0 dX0_payLoans_48 rfl rfl ?_
          obtain ⟨q6, hq6, hm⟩ := Option.bind_eq_some_iff.mp hm
          refine cl_X0_56 (c := c) (pc := 49) C hc (kX0_isLiving hc hq6) (by decide) (Nat.le_of_ble_eq_true rfl) dX0_payLoans_49 ?_
          refine j_if_eq (tgt := 146) (pc := 52) C dX0_payLoans_52 (by decide) hm (fun _ hm => ?_) (fun _ hm => ?_)
          · refine j_iinc (v := (x1 + (1 : Int32))) (ls' := [(1, .int (x1 + (1 : Int32))), (3, .int y4), (2, .int y2), (0, .ref (vad (gV G) c))]) (pc := 146) C 3 dX0_payLoans_146 rfl rfl (by decide) rfl ?_
            refine j_goto (tgt := 2) (pc := 149) C dX0_payLoans_149 (by decide) ?_
            refine j_ls [3, 0] rfl ?_
            exact ih _ _ hm
          · refine j_aloadn (pc := 55) C 2 dX0_payLoans_55 rfl rfl ?_
            refine gf_X0_21 (c := c) (pc := 56) C hc dX0_payLoans_56 ?_
            refine j_iloadn (pc := 59) C 3 dX0_payLoans_59 rfl rfl ?_
            refine j_aloadn (pc := 60) C 2 dX0_payLoans_60 rfl rfl ?_
            refine gf_X0_21 (c := c) (pc := 61) C hc dX0_payLoans_61 ?_
            refine gf_X0_82 (c := (c + 3)) (pc := 64) C (of_0_3 hc) dX0_payLoans_64 ?_
            refine j_iloadn (pc := 67) C 3 dX0_payLoans_67 rfl rfl ?_
            refine j_guard hm (fun hg7 hm => ?_)
            refine j_iald (c := ((c + 3) + 6)) (n := 24) (pc := 68) C (kX_lt (of_6_6 (of_0_3 hc)) (by decide)) (cx_a (of_6_6 (of_0_3 hc)) (ol_6_6 (of_0_3 hc)) _) hg7 dX0_payLoans_68 ?_
            obtain ⟨q8, hq8, hm⟩ := Option.bind_eq_some_iff.mp hm
            refine cl_X0_85 (c := (c + 3)) (pc := 69) C (of_0_3 hc) (kX6_grown (of_0_3 hc) hq8) (by decide) (Nat.le_of_ble_eq_true rfl) dX0_payLoans_69 ?_
            refine j_istore (ls' := [(4, .int q8), (3, .int y4), (2, .int y2), (0, .ref (vad (gV G) c)), (1, .int x1)]) (pc := 72) C dX0_payLoans_72 (by decide) rfl ?_
            refine j_aloadn (pc := 74) C 3 dX0_payLoans_74 rfl rfl ?_
            refine gf_X0_21 (c := c) (pc := 75) C hc dX0_payLoans_75 ?_
            refine gf_X0_88 (c := (c + 3)) (pc := 78) C (of_0_3 hc) dX0_payLoans_78 ?_
            refine j_iloadn (pc := 81) C 4 dX0_payLoans_81 rfl rfl ?_
            refine j_guard hm (fun hg9 hm => ?_)
            refine j_iald (c := ((c + 3) + 5)) (n := 24) (pc := 82) C (kX_lt (of_6_5 (of_0_3 hc)) (by decide)) (cx_a (of_6_5 (of_0_3 hc)) (ol_6_5 (of_0_3 hc)) _) hg9 dX0_payLoans_82 ?_
            refine j_iload (pc := 83) C 0 dX0_payLoans_83 rfl ?_
            refine j_mminD (pc := 85) C tw_4_17 tw_2_162 tw_1_14 tw_2_163 (by decide) (Nat.le_of_ble_eq_true rfl) dX0_payLoans_85 ?_
            refine j_aloadn (pc := 88) C 3 dX0_payLoans_88 rfl rfl ?_
            refine gf_X0_9 (c := c) (pc := 89) C hc dX0_payLoans_89 ?_
            refine j_iloadn (pc := 92) C 1 dX0_payLoans_92 rfl rfl ?_
            refine j_guard hm (fun hg10 hm => ?_)
            refine j_iald (c := (c + 1)) (n := 16) (pc := 93) C (kX_lt (of_0_1 hc) (by decide)) (cx_a (of_0_1 hc) (ol_0_1 hc) _) hg10 dX0_payLoans_93 ?_
            refine j_iconst (v := 1) (pc := 94) C dX0_payLoans_94 (by decide) ?_
            refine j_isub (pc := 95) C dX0_payLoans_95 ?_
            refine j_mminD (pc := 96) C tw_4_17 tw_2_162 tw_1_14 tw_2_163 (by decide) (Nat.le_of_ble_eq_true rfl) dX0_payLoans_96 ?_
            refine j_lti hm (fun y11 hm => ?_)
            refine j_istore (ls' := [(5, .int y11), (4, .int q8), (3, .int y4), (2, .int y2), (0, .ref (vad (gV G) c)), (1, .int x1)]) (pc := 99) C dX0_payLoans_99 (by decide) rfl ?_
            refine j_aloadn (pc := 101) C 4 dX0_payLoans_101 rfl rfl ?_
            refine gf_X0_21 (c := c) (pc := 102) C hc dX0_payLoans_102 ?_
            refine gf_X0_82 (c := (c + 3)) (pc := 105) C (of_0_3 hc) dX0_payLoans_105 ?_
            refine j_iloadn (pc := 108) C 5 dX0_payLoans_108 rfl rfl ?_
            refine j_iload (pc := 109) C 1 dX0_payLoans_109 rfl ?_
            refine j_iload (pc := 111) C 0 dX0_payLoans_111 rfl ?_
            refine j_isub (pc := 113) C dX0_payLoans_113 ?_
            refine j_guard hm (fun hg13 hm => ?_)
            refine j_iastL (c := ((c + 3) + 6)) (n := 24) (pc := 114) C (kX_lt (of_6_6 (of_0_3 hc)) (by decide)) (cx_a (of_6_6 (of_0_3 hc)) (ol_6_6 (of_0_3 hc))) hg13 dX0_payLoans_114 hm (fun σ12 hm => ?_)
            refine j_aloadn (pc := 115) C 4 dX0_payLoans_115 rfl rfl ?_
            refine gf_X0_9 (c := c) (pc := 116) C hc dX0_payLoans_116 ?_
            refine j_iloadn (pc := 119) C 2 dX0_payLoans_119 rfl rfl ?_
            refine j_dup2 (pc := 120) C dX0_payLoans_120 rfl rfl ?_
            refine j_guard hm (fun hg14 hm => ?_)
            refine j_iald (c := (c + 1)) (n := 16) (pc := 121) C (kX_lt (of_0_1 hc) (by decide)) (cx_a (of_0_1 hc) (ol_0_1 hc) _) hg14 dX0_payLoans_121 ?_
            refine j_iload (pc := 122) C 0 dX0_payLoans_122 rfl ?_
            refine j_isub (pc := 124) C dX0_payLoans_124 ?_
            refine j_guard hm (fun hg16 hm => ?_)
            refine j_iastL (c := (c + 1)) (n := 16) (pc := 125) C (kX_lt (of_0_1 hc) (by decide)) (cx_a (of_0_1 hc) (ol_0_1 hc)) hg16 dX0_payLoans_125 hm (fun σ15 hm => ?_)
            refine j_aloadn (pc := 126) C 4 dX0_payLoans_126 rfl rfl ?_
            refine gf_X0_9 (c := c) (pc := 127) C hc dX0_payLoans_127 ?_
            refine j_iloadn (pc := 130) C 3 dX0_payLoans_130 rfl rfl ?_
            refine j_ldc (v := 999999999) (pc := 131) C dX0_payLoans_131 tw_4_16 ?_
            refine j_aloadn (pc := 133) C 4 dX0_payLoans_133 rfl rfl ?_
            refine gf_X0_9 (c := c) (pc := 134) C hc dX0_payLoans_134 ?_
            refine j_iloadn (pc := 137) C 3 dX0_payLoans_137 rfl rfl ?_
            refine j_guard hm (fun hg17 hm => ?_)
            refine j_iald (c := (c + 1)) (n := 16) (pc := 138) C (kX_lt (of_0_1 hc) (by decide)) (cx_a (of_0_1 hc) (ol_0_1 hc) _) hg17 dX0_payLoans_138 ?_
            refine j_iload (pc := 139) C 0 dX0_payLoans_139 rfl ?_
            refine j_iadd (pc := 141) C dX0_payLoans_141 ?_
            refine j_mminD (pc := 142) C tw_4_17 tw_2_162 tw_1_14 tw_2_163 (by decide) (Nat.le_of_ble_eq_true rfl) dX0_payLoans_142 ?_
            refine j_guard hm (fun hg19 hm => ?_)
            refine j_iastL (c := (c + 1)) (n := 16) (pc := 145) C (kX_lt (of_0_1 hc) (by decide)) (cx_a (of_0_1 hc) (ol_0_1 hc)) hg19 dX0_payLoans_145 hm (fun σ18 hm => ?_)
            refine j_iinc (v := (x1 + (1 : Int32))) (ls' := [(1, .int (x1 + (1 : Int32))), (5, .int y11), (4, .int q8), (3, .int y4), (2, .int y2), (0, .ref (vad (gV G) c))]) (pc := 146) C 5 dX0_payLoans_146 rfl rfl (by decide) rfl ?_
            refine j_goto (tgt := 2) (pc := 149) C dX0_payLoans_149 (by decide) ?_
            refine j_ls [5, 0] rfl ?_
            exact ih _ _ hm
      · exact j_vret (pc := 152) C rfl dX0_payLoans_152 hm
    · exact j_vret (pc := 152) C rfl dX0_payLoans_152 hm

def mX0_payLoans (F : Nat) (c : Nat) (σ : jS) : Option jS := (lp_X0_payLoans_2 F c F (0 : Int32) σ)
set_option maxHeartbeats 4000000 in
set_option maxRecDepth 100000 in
theorem kX0_payLoans {V : jV} {F : Nat} {c : Nat} (hc : kX c = 0) {σ : jS} {v : jS} (hm : mX0_payLoans F c σ = some v) : Ct cfX 70 V yX0_payLoans cX0_payLoans 6 none 2 [.ref (vad V c)] σ (0, v) := by
  refine j_start (own := RX0) (by decide) rfl (Nat.le_of_ble_eq_true rfl) ?_
  intro G hV C
  subst hV
  unfold mX0_payLoans at hm
  show JX G 0 [(0, .ref (vad (gV G) c))] [] σ (0, v)
  refine j_iconst (v := 0) (pc := 0) C dX0_payLoans_0 (by decide) ?_
  refine j_istoren (ls' := [(1, .int (0 : Int32)), (0, .ref (vad (gV G) c))]) (pc := 1) C dX0_payLoans_1 rfl (by decide) rfl ?_
  refine j_ls [1, 0] rfl ?_
  exact lp_X0_payLoans_2_ok C F c hc  F _ _ hm

def lp_X0_growOlder_2 (F : Nat) (c : Nat) (k41 : jS → Option jS) : Nat → Int32 → jS → Option jS
  | 0, _, _ => none
  | n + 1, x1, σ => (if x1 < (16 : Int32) then (Option.bind (mX0_isLiving F c x1 σ) fun q1 => (if q1 = 0 then (lp_X0_growOlder_2 F c k41 n ((x1 + (1 : Int32))) σ) else (if jin x1 16 = true then (if jin x1 16 = true then (lt (js σ (c + 2) x1.toNatClampNeg (imin (99999 : Int32) ((σ (c + 2) x1.toNatClampNeg) + (1 : Int32)))) fun σ3 => (lp_X0_growOlder_2 F c k41 n ((x1 + (1 : Int32))) σ3)) else none) else none))) else (k41 σ))
set_option maxHeartbeats 4000000 in
set_option maxRecDepth 100000 in
theorem lp_X0_growOlder_2_ok {G : jG} (C : jc cfX 70 G cX0_growOlder RX0 2 none 1) (F : Nat) (c : Nat) (hc : kX c = 0) {v : jS} (k41 : jS → Option jS) (hk41 : ∀ (σ : jS), k41 σ = some v → JX G 41 [(0, .ref (vad (gV G) c))] [] σ (0, v)) : ∀ (n : Nat) (x1 : Int32) (σ : jS), lp_X0_growOlder_2 F c k41 n x1 σ = some v → JX G 2 [(0, .ref (vad (gV G) c)), (1, .int x1)] [] σ (0, v) := by
  intro n
  induction n with
  | zero =>
    intro x1 σ hm
    rw [lp_X0_growOlder_2] at hm
    cases hm
  | succ n ih =>
    intro x1 σ hm
    rw [lp_X0_growOlder_2] at hm
    refine j_iloadn (pc := 2) C 1 dX0_growOlder_2 rfl rfl ?_
    refine j_bipush (v := 16) (pc := 3) C dX0_growOlder_3 (by decide) ?_
    refine j_icmp_ge (tgt := 41) (pc := 5) C dX0_growOlder_5 (by decide) hm (fun _ hm => ?_) (fun _ hm => ?_)
    · refine j_aloadn (pc := 8) C 0 dX0_growOlder_8 rfl rfl ?_
      refine j_iloadn (pc := 9) C 1 dX0_growOlder_9 rfl rfl ?_
      obtain ⟨q1, hq1, hm⟩ := Option.bind_eq_some_iff.mp hm
      refine cl_X0_56 (c := c) (pc := 10) C hc (kX0_isLiving hc hq1) (by decide) (Nat.le_of_ble_eq_true rfl) dX0_growOlder_10 ?_
      refine j_if_eq (tgt := 35) (pc := 13) C dX0_growOlder_13 (by decide) hm (fun _ hm => ?_) (fun _ hm => ?_)
      · refine j_iinc (v := (x1 + (1 : Int32))) (ls' := [(1, .int (x1 + (1 : Int32))), (0, .ref (vad (gV G) c))]) (pc := 35) C 1 dX0_growOlder_35 rfl rfl (by decide) rfl ?_
        refine j_goto (tgt := 2) (pc := 38) C dX0_growOlder_38 (by decide) ?_
        refine j_ls [1, 0] rfl ?_
        exact ih _ _ hm
      · refine j_aloadn (pc := 16) C 0 dX0_growOlder_16 rfl rfl ?_
        refine gf_X0_15 (c := c) (pc := 17) C hc dX0_growOlder_17 ?_
        refine j_iloadn (pc := 20) C 1 dX0_growOlder_20 rfl rfl ?_
        refine j_ldc (v := 99999) (pc := 21) C dX0_growOlder_21 tw_4_50 ?_
        refine j_aloadn (pc := 23) C 0 dX0_growOlder_23 rfl rfl ?_
        refine gf_X0_15 (c := c) (pc := 24) C hc dX0_growOlder_24 ?_
        refine j_iloadn (pc := 27) C 1 dX0_growOlder_27 rfl rfl ?_
        refine j_guard hm (fun hg2 hm => ?_)
        refine j_iald (c := (c + 2)) (n := 16) (pc := 28) C (kX_lt (of_0_2 hc) (by decide)) (cx_a (of_0_2 hc) (ol_0_2 hc) _) hg2 dX0_growOlder_28 ?_
        refine j_iconst (v := 1) (pc := 29) C dX0_growOlder_29 (by decide) ?_
        refine j_iadd (pc := 30) C dX0_growOlder_30 ?_
        refine j_mminD (pc := 31) C tw_4_17 tw_2_162 tw_1_14 tw_2_163 (by decide) (Nat.le_of_ble_eq_true rfl) dX0_growOlder_31 ?_
        refine j_guard hm (fun hg4 hm => ?_)
        refine j_iastL (c := (c + 2)) (n := 16) (pc := 34) C (kX_lt (of_0_2 hc) (by decide)) (cx_a (of_0_2 hc) (ol_0_2 hc)) hg4 dX0_growOlder_34 hm (fun σ3 hm => ?_)
        refine j_iinc (v := (x1 + (1 : Int32))) (ls' := [(1, .int (x1 + (1 : Int32))), (0, .ref (vad (gV G) c))]) (pc := 35) C 1 dX0_growOlder_35 rfl rfl (by decide) rfl ?_
        refine j_goto (tgt := 2) (pc := 38) C dX0_growOlder_38 (by decide) ?_
        refine j_ls [1, 0] rfl ?_
        exact ih _ _ hm
    · refine j_ls [0] rfl ?_
      exact hk41 _ hm

def mX0_growOlder (F : Nat) (c : Nat) (σ : jS) : Option jS := (lp_X0_growOlder_2 F c (fun σ5 => (lt (js σ5 c 6 (imin (9999 : Int32) ((σ5 c 6) + (1 : Int32)))) fun σ6 => some σ6)) F (0 : Int32) σ)
set_option maxHeartbeats 4000000 in
set_option maxRecDepth 100000 in
theorem kX0_growOlder {V : jV} {F : Nat} {c : Nat} (hc : kX c = 0) {σ : jS} {v : jS} (hm : mX0_growOlder F c σ = some v) : Ct cfX 70 V yX0_growOlder cX0_growOlder 2 none 1 [.ref (vad V c)] σ (0, v) := by
  refine j_start (own := RX0) (by decide) rfl (Nat.le_of_ble_eq_true rfl) ?_
  intro G hV C
  subst hV
  unfold mX0_growOlder at hm
  show JX G 0 [(0, .ref (vad (gV G) c))] [] σ (0, v)
  refine j_iconst (v := 0) (pc := 0) C dX0_growOlder_0 (by decide) ?_
  refine j_istoren (ls' := [(1, .int (0 : Int32)), (0, .ref (vad (gV G) c))]) (pc := 1) C dX0_growOlder_1 rfl (by decide) rfl ?_
  refine j_ls [1, 0] rfl ?_
  refine lp_X0_growOlder_2_ok C F c hc _ (fun σ5 hm => ?_) F _ _ hm
  refine j_aloadn (pc := 41) C 0 dX0_growOlder_41 rfl rfl ?_
  refine j_sipush (v := 9999) (pc := 42) C dX0_growOlder_42 (by decide) ?_
  refine j_aloadn (pc := 45) C 0 dX0_growOlder_45 rfl rfl ?_
  refine gf_X0_35 (c := c) (pc := 46) C hc dX0_growOlder_46 ?_
  refine j_iconst (v := 1) (pc := 49) C dX0_growOlder_49 (by decide) ?_
  refine j_iadd (pc := 50) C dX0_growOlder_50 ?_
  refine j_mminD (pc := 51) C tw_4_17 tw_2_162 tw_1_14 tw_2_163 (by decide) (Nat.le_of_ble_eq_true rfl) dX0_growOlder_51 ?_
  refine pf_X0_35 (c := c) (pc := 54) C hc dX0_growOlder_54 hm (fun σ6 hm => ?_)
  exact j_vret (pc := 57) C rfl dX0_growOlder_57 hm

