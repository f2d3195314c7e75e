theorem dX2_sit_0 : decode cX2_sit 0 = .ok (.aload_n 0, 1) := by decide +kernel
theorem dX2_sit_1 : decode cX2_sit 1 = .ok (.aload_n 1, 1) := by decide +kernel
theorem dX2_sit_2 : decode cX2_sit 2 = .ok (.putfield 39, 3) := by decide +kernel
theorem dX2_sit_5 : decode cX2_sit 5 = .ok (.aload_n 0, 1) := by decide +kernel
theorem dX2_sit_6 : decode cX2_sit 6 = .ok (.aload_n 2, 1) := by decide +kernel
theorem dX2_sit_7 : decode cX2_sit 7 = .ok (.putfield 43, 3) := by decide +kernel
theorem dX2_sit_10 : decode cX2_sit 10 = .ok (.return_, 1) := by decide +kernel
theorem dX2_turnTo_0 : decode cX2_turnTo 0 = .ok (.aload_n 0, 1) := by decide +kernel
theorem dX2_turnTo_1 : decode cX2_turnTo 1 = .ok (.iload_n 1, 1) := by decide +kernel
theorem dX2_turnTo_2 : decode cX2_turnTo 2 = .ok (.putfield 15, 3) := by decide +kernel
theorem dX2_turnTo_5 : decode cX2_turnTo 5 = .ok (.aload_n 0, 1) := by decide +kernel
theorem dX2_turnTo_6 : decode cX2_turnTo 6 = .ok (.iload_n 2, 1) := by decide +kernel
theorem dX2_turnTo_7 : decode cX2_turnTo 7 = .ok (.putfield 19, 3) := by decide +kernel
theorem dX2_turnTo_10 : decode cX2_turnTo 10 = .ok (.aload_n 0, 1) := by decide +kernel
theorem dX2_turnTo_11 : decode cX2_turnTo 11 = .ok (.iload_n 3, 1) := by decide +kernel
theorem dX2_turnTo_12 : decode cX2_turnTo 12 = .ok (.putfield 22, 3) := by decide +kernel
theorem dX2_turnTo_15 : decode cX2_turnTo 15 = .ok (.aload_n 0, 1) := by decide +kernel
theorem dX2_turnTo_16 : decode cX2_turnTo 16 = .ok (.iload 4, 2) := by decide +kernel
theorem dX2_turnTo_18 : decode cX2_turnTo 18 = .ok (.putfield 25, 3) := by decide +kernel
theorem dX2_turnTo_21 : decode cX2_turnTo 21 = .ok (.return_, 1) := by decide +kernel
theorem dX2_compared_0 : decode cX2_compared 0 = .ok (.iload_n 0, 1) := by decide +kernel
theorem dX2_compared_1 : decode cX2_compared 1 = .ok (.bipush 10, 2) := by decide +kernel
theorem dX2_compared_3 : decode cX2_compared 3 = .ok (.if_icmp .ne 14, 3) := by decide +kernel
theorem dX2_compared_6 : decode cX2_compared 6 = .ok (.iload_n 1, 1) := by decide +kernel
theorem dX2_compared_7 : decode cX2_compared 7 = .ok (.iload_n 2, 1) := by decide +kernel
theorem dX2_compared_8 : decode cX2_compared 8 = .ok (.if_icmp .ge 7, 3) := by decide +kernel
theorem dX2_compared_11 : decode cX2_compared 11 = .ok (.iconst 1, 1) := by decide +kernel
theorem dX2_compared_12 : decode cX2_compared 12 = .ok (.goto 4, 3) := by decide +kernel
theorem dX2_compared_15 : decode cX2_compared 15 = .ok (.iconst 0, 1) := by decide +kernel
theorem dX2_compared_16 : decode cX2_compared 16 = .ok (.ireturn, 1) := by decide +kernel
theorem dX2_compared_17 : decode cX2_compared 17 = .ok (.iload_n 0, 1) := by decide +kernel
theorem dX2_compared_18 : decode cX2_compared 18 = .ok (.bipush 11, 2) := by decide +kernel
theorem dX2_compared_20 : decode cX2_compared 20 = .ok (.if_icmp .ne 16, 3) := by decide +kernel
theorem dX2_compared_23 : decode cX2_compared 23 = .ok (.iload_n 1, 1) := by decide +kernel
theorem dX2_compared_24 : decode cX2_compared 24 = .ok (.iload_n 2, 1) := by decide +kernel
theorem dX2_compared_25 : decode cX2_compared 25 = .ok (.if_icmp .le 7, 3) := by decide +kernel
theorem dX2_compared_28 : decode cX2_compared 28 = .ok (.iconst 1, 1) := by decide +kernel
theorem dX2_compared_29 : decode cX2_compared 29 = .ok (.goto 17, 3) := by decide +kernel
theorem dX2_compared_32 : decode cX2_compared 32 = .ok (.iconst 0, 1) := by decide +kernel
theorem dX2_compared_33 : decode cX2_compared 33 = .ok (.goto 13, 3) := by decide +kernel
theorem dX2_compared_36 : decode cX2_compared 36 = .ok (.iload_n 1, 1) := by decide +kernel
theorem dX2_compared_37 : decode cX2_compared 37 = .ok (.iload_n 2, 1) := by decide +kernel
theorem dX2_compared_38 : decode cX2_compared 38 = .ok (.if_icmp .ne 7, 3) := by decide +kernel
theorem dX2_compared_41 : decode cX2_compared 41 = .ok (.iconst 1, 1) := by decide +kernel
theorem dX2_compared_42 : decode cX2_compared 42 = .ok (.goto 4, 3) := by decide +kernel
theorem dX2_compared_45 : decode cX2_compared 45 = .ok (.iconst 0, 1) := by decide +kernel
theorem dX2_compared_46 : decode cX2_compared 46 = .ok (.ireturn, 1) := by decide +kernel
theorem dX2_reckoned_0 : decode cX2_reckoned 0 = .ok (.iload_n 1, 1) := by decide +kernel
theorem dX2_reckoned_1 : decode cX2_reckoned 1 = .ok (.tableswitch 39 5 7 #[27, 31, 35], 27) := by decide +kernel
theorem dX2_reckoned_28 : decode cX2_reckoned 28 = .ok (.iload_n 2, 1) := by decide +kernel
theorem dX2_reckoned_29 : decode cX2_reckoned 29 = .ok (.iload_n 3, 1) := by decide +kernel
theorem dX2_reckoned_30 : decode cX2_reckoned 30 = .ok (.iadd, 1) := by decide +kernel
theorem dX2_reckoned_31 : decode cX2_reckoned 31 = .ok (.ireturn, 1) := by decide +kernel
theorem dX2_reckoned_32 : decode cX2_reckoned 32 = .ok (.iload_n 2, 1) := by decide +kernel
theorem dX2_reckoned_33 : decode cX2_reckoned 33 = .ok (.iload_n 3, 1) := by decide +kernel
theorem dX2_reckoned_34 : decode cX2_reckoned 34 = .ok (.isub, 1) := by decide +kernel
theorem dX2_reckoned_35 : decode cX2_reckoned 35 = .ok (.ireturn, 1) := by decide +kernel
theorem dX2_reckoned_36 : decode cX2_reckoned 36 = .ok (.iload_n 2, 1) := by decide +kernel
theorem dX2_reckoned_37 : decode cX2_reckoned 37 = .ok (.iload_n 3, 1) := by decide +kernel
theorem dX2_reckoned_38 : decode cX2_reckoned 38 = .ok (.imul, 1) := by decide +kernel
theorem dX2_reckoned_39 : decode cX2_reckoned 39 = .ok (.ireturn, 1) := by decide +kernel
theorem dX2_reckoned_40 : decode cX2_reckoned 40 = .ok (.iload_n 3, 1) := by decide +kernel
theorem dX2_reckoned_41 : decode cX2_reckoned 41 = .ok (.ifCond .ne 10, 3) := by decide +kernel
theorem dX2_reckoned_44 : decode cX2_reckoned 44 = .ok (.aload_n 0, 1) := by decide +kernel
theorem dX2_reckoned_45 : decode cX2_reckoned 45 = .ok (.iconst 1, 1) := by decide +kernel
theorem dX2_reckoned_46 : decode cX2_reckoned 46 = .ok (.putfield 32, 3) := by decide +kernel
theorem dX2_reckoned_49 : decode cX2_reckoned 49 = .ok (.iconst 0, 1) := by decide +kernel
theorem dX2_reckoned_50 : decode cX2_reckoned 50 = .ok (.ireturn, 1) := by decide +kernel
theorem dX2_reckoned_51 : decode cX2_reckoned 51 = .ok (.iload_n 1, 1) := by decide +kernel
theorem dX2_reckoned_52 : decode cX2_reckoned 52 = .ok (.bipush 8, 2) := by decide +kernel
theorem dX2_reckoned_54 : decode cX2_reckoned 54 = .ok (.if_icmp .ne 9, 3) := by decide +kernel
theorem dX2_reckoned_57 : decode cX2_reckoned 57 = .ok (.iload_n 2, 1) := by decide +kernel
theorem dX2_reckoned_58 : decode cX2_reckoned 58 = .ok (.iload_n 3, 1) := by decide +kernel
theorem dX2_reckoned_59 : decode cX2_reckoned 59 = .ok (.idiv, 1) := by decide +kernel
theorem dX2_reckoned_60 : decode cX2_reckoned 60 = .ok (.goto 6, 3) := by decide +kernel
theorem dX2_reckoned_63 : decode cX2_reckoned 63 = .ok (.iload_n 2, 1) := by decide +kernel
theorem dX2_reckoned_64 : decode cX2_reckoned 64 = .ok (.iload_n 3, 1) := by decide +kernel
theorem dX2_reckoned_65 : decode cX2_reckoned 65 = .ok (.irem, 1) := by decide +kernel
theorem dX2_reckoned_66 : decode cX2_reckoned 66 = .ok (.ireturn, 1) := by decide +kernel
theorem dX2_letter_0 : decode cX2_letter 0 = .ok (.aload_n 0, 1) := by decide +kernel
theorem dX2_letter_1 : decode cX2_letter 1 = .ok (.getfield 19, 3) := by decide +kernel
theorem dX2_letter_4 : decode cX2_letter 4 = .ok (.bipush 23, 2) := by decide +kernel
theorem dX2_letter_6 : decode cX2_letter 6 = .ok (.invokestatic 68, 3) := by decide +kernel
theorem dX2_letter_9 : decode cX2_letter 9 = .ok (.istore_n 2, 1) := by decide +kernel
theorem dX2_letter_10 : decode cX2_letter 10 = .ok (.iload_n 1, 1) := by decide +kernel
theorem dX2_letter_11 : decode cX2_letter 11 = .ok (.tableswitch 157 0 7 #[45, 50, 63, 68, 84, 100, 131, 146], 45) := by decide +kernel
theorem dX2_letter_56 : decode cX2_letter 56 = .ok (.aload_n 0, 1) := by decide +kernel
theorem dX2_letter_57 : decode cX2_letter 57 = .ok (.getfield 15, 3) := by decide +kernel
theorem dX2_letter_60 : decode cX2_letter 60 = .ok (.ireturn, 1) := by decide +kernel
theorem dX2_letter_61 : decode cX2_letter 61 = .ok (.aload_n 0, 1) := by decide +kernel
theorem dX2_letter_62 : decode cX2_letter 62 = .ok (.getfield 35, 3) := by decide +kernel
theorem dX2_letter_65 : decode cX2_letter 65 = .ok (.aload_n 0, 1) := by decide +kernel
theorem dX2_letter_66 : decode cX2_letter 66 = .ok (.getfield 15, 3) := by decide +kernel
theorem dX2_letter_69 : decode cX2_letter 69 = .ok (.iload_n 2, 1) := by decide +kernel
theorem dX2_letter_70 : decode cX2_letter 70 = .ok (.invokevirtual 92, 3) := by decide +kernel
theorem dX2_letter_73 : decode cX2_letter 73 = .ok (.ireturn, 1) := by decide +kernel
theorem dX2_letter_74 : decode cX2_letter 74 = .ok (.aload_n 0, 1) := by decide +kernel
theorem dX2_letter_75 : decode cX2_letter 75 = .ok (.getfield 19, 3) := by decide +kernel
theorem dX2_letter_78 : decode cX2_letter 78 = .ok (.ireturn, 1) := by decide +kernel
theorem dX2_letter_79 : decode cX2_letter 79 = .ok (.aload_n 0, 1) := by decide +kernel
theorem dX2_letter_80 : decode cX2_letter 80 = .ok (.getfield 39, 3) := by decide +kernel
theorem dX2_letter_83 : decode cX2_letter 83 = .ok (.aload_n 0, 1) := by decide +kernel
theorem dX2_letter_84 : decode cX2_letter 84 = .ok (.getfield 15, 3) := by decide +kernel
theorem dX2_letter_87 : decode cX2_letter 87 = .ok (.invokevirtual 97, 3) := by decide +kernel
theorem dX2_letter_90 : decode cX2_letter 90 = .ok (.sipush 365, 3) := by decide +kernel
theorem dX2_letter_93 : decode cX2_letter 93 = .ok (.idiv, 1) := by decide +kernel
theorem dX2_letter_94 : decode cX2_letter 94 = .ok (.ireturn, 1) := by decide +kernel
theorem dX2_letter_95 : decode cX2_letter 95 = .ok (.aload_n 0, 1) := by decide +kernel
theorem dX2_letter_96 : decode cX2_letter 96 = .ok (.getfield 39, 3) := by decide +kernel
theorem dX2_letter_99 : decode cX2_letter 99 = .ok (.aload_n 0, 1) := by decide +kernel
theorem dX2_letter_100 : decode cX2_letter 100 = .ok (.getfield 15, 3) := by decide +kernel
theorem dX2_letter_103 : decode cX2_letter 103 = .ok (.invokevirtual 102, 3) := by decide +kernel
theorem dX2_letter_106 : decode cX2_letter 106 = .ok (.sipush 1000, 3) := by decide +kernel
theorem dX2_letter_109 : decode cX2_letter 109 = .ok (.idiv, 1) := by decide +kernel
theorem dX2_letter_110 : decode cX2_letter 110 = .ok (.ireturn, 1) := by decide +kernel
theorem dX2_letter_111 : decode cX2_letter 111 = .ok (.aload_n 0, 1) := by decide +kernel
theorem dX2_letter_112 : decode cX2_letter 112 = .ok (.getfield 25, 3) := by decide +kernel
theorem dX2_letter_115 : decode cX2_letter 115 = .ok (.ifCond .eq 25, 3) := by decide +kernel
theorem dX2_letter_118 : decode cX2_letter 118 = .ok (.aload_n 0, 1) := by decide +kernel
theorem dX2_letter_119 : decode cX2_letter 119 = .ok (.getfield 35, 3) := by decide +kernel
theorem dX2_letter_122 : decode cX2_letter 122 = .ok (.aload_n 0, 1) := by decide +kernel
theorem dX2_letter_123 : decode cX2_letter 123 = .ok (.getfield 15, 3) := by decide +kernel
theorem dX2_letter_126 : decode cX2_letter 126 = .ok (.aload_n 0, 1) := by decide +kernel
theorem dX2_letter_127 : decode cX2_letter 127 = .ok (.getfield 39, 3) := by decide +kernel
theorem dX2_letter_130 : decode cX2_letter 130 = .ok (.getfield 105, 3) := by decide +kernel
theorem dX2_letter_133 : decode cX2_letter 133 = .ok (.iload_n 2, 1) := by decide +kernel
theorem dX2_letter_134 : decode cX2_letter 134 = .ok (.invokevirtual 108, 3) := by decide +kernel
theorem dX2_letter_137 : decode cX2_letter 137 = .ok (.goto 4, 3) := by decide +kernel
theorem dX2_letter_140 : decode cX2_letter 140 = .ok (.iconst 0, 1) := by decide +kernel
theorem dX2_letter_141 : decode cX2_letter 141 = .ok (.ireturn, 1) := by decide +kernel
theorem dX2_letter_142 : decode cX2_letter 142 = .ok (.aload_n 0, 1) := by decide +kernel
theorem dX2_letter_143 : decode cX2_letter 143 = .ok (.getfield 39, 3) := by decide +kernel
theorem dX2_letter_146 : decode cX2_letter 146 = .ok (.getfield 111, 3) := by decide +kernel
theorem dX2_letter_149 : decode cX2_letter 149 = .ok (.aload_n 0, 1) := by decide +kernel
theorem dX2_letter_150 : decode cX2_letter 150 = .ok (.getfield 15, 3) := by decide +kernel
theorem dX2_letter_153 : decode cX2_letter 153 = .ok (.invokevirtual 115, 3) := by decide +kernel
theorem dX2_letter_156 : decode cX2_letter 156 = .ok (.ireturn, 1) := by decide +kernel
theorem dX2_letter_157 : decode cX2_letter 157 = .ok (.aload_n 0, 1) := by decide +kernel
theorem dX2_letter_158 : decode cX2_letter 158 = .ok (.getfield 39, 3) := by decide +kernel
theorem dX2_letter_161 : decode cX2_letter 161 = .ok (.getfield 120, 3) := by decide +kernel
theorem dX2_letter_164 : decode cX2_letter 164 = .ok (.bipush 100, 2) := by decide +kernel
theorem dX2_letter_166 : decode cX2_letter 166 = .ok (.irem, 1) := by decide +kernel
theorem dX2_letter_167 : decode cX2_letter 167 = .ok (.ireturn, 1) := by decide +kernel
theorem dX2_letter_168 : decode cX2_letter 168 = .ok (.aload_n 0, 1) := by decide +kernel
theorem dX2_letter_169 : decode cX2_letter 169 = .ok (.getfield 22, 3) := by decide +kernel
theorem dX2_letter_172 : decode cX2_letter 172 = .ok (.ireturn, 1) := by decide +kernel
theorem dX2_reckon_0 : decode cX2_reckon 0 = .ok (.aload_n 0, 1) := by decide +kernel
theorem dX2_reckon_1 : decode cX2_reckon 1 = .ok (.iconst 0, 1) := by decide +kernel
theorem dX2_reckon_2 : decode cX2_reckon 2 = .ok (.putfield 29, 3) := by decide +kernel
theorem dX2_reckon_5 : decode cX2_reckon 5 = .ok (.aload_n 0, 1) := by decide +kernel
theorem dX2_reckon_6 : decode cX2_reckon 6 = .ok (.iconst 0, 1) := by decide +kernel
theorem dX2_reckon_7 : decode cX2_reckon 7 = .ok (.putfield 32, 3) := by decide +kernel
theorem dX2_reckon_10 : decode cX2_reckon 10 = .ok (.iconst 0, 1) := by decide +kernel
theorem dX2_reckon_11 : decode cX2_reckon 11 = .ok (.istore_n 3, 1) := by decide +kernel
theorem dX2_reckon_12 : decode cX2_reckon 12 = .ok (.iconst 0, 1) := by decide +kernel
theorem dX2_reckon_13 : decode cX2_reckon 13 = .ok (.iload_n 1, 1) := by decide +kernel
theorem dX2_reckon_14 : decode cX2_reckon 14 = .ok (.invokestatic 74, 3) := by decide +kernel
theorem dX2_reckon_17 : decode cX2_reckon 17 = .ok (.istore 4, 2) := by decide +kernel
theorem dX2_reckon_19 : decode cX2_reckon 19 = .ok (.iload 4, 2) := by decide +kernel
theorem dX2_reckon_21 : decode cX2_reckon 21 = .ok (.iload_n 2, 1) := by decide +kernel
theorem dX2_reckon_22 : decode cX2_reckon 22 = .ok (.if_icmp .ge 235, 3) := by decide +kernel
theorem dX2_reckon_25 : decode cX2_reckon 25 = .ok (.iload 4, 2) := by decide +kernel
theorem dX2_reckon_27 : decode cX2_reckon 27 = .ok (.sipush 240, 3) := by decide +kernel
theorem dX2_reckon_30 : decode cX2_reckon 30 = .ok (.if_icmp .ge 227, 3) := by decide +kernel
theorem dX2_reckon_33 : decode cX2_reckon 33 = .ok (.aload_n 0, 1) := by decide +kernel
theorem dX2_reckon_34 : decode cX2_reckon 34 = .ok (.getfield 32, 3) := by decide +kernel
theorem dX2_reckon_37 : decode cX2_reckon 37 = .ok (.ifCond .ne 220, 3) := by decide +kernel
theorem dX2_reckon_40 : decode cX2_reckon 40 = .ok (.aload_n 0, 1) := by decide +kernel
theorem dX2_reckon_41 : decode cX2_reckon 41 = .ok (.getfield 43, 3) := by decide +kernel
theorem dX2_reckon_44 : decode cX2_reckon 44 = .ok (.getfield 77, 3) := by decide +kernel
theorem dX2_reckon_47 : decode cX2_reckon 47 = .ok (.iload 4, 2) := by decide +kernel
theorem dX2_reckon_49 : decode cX2_reckon 49 = .ok (.iaload, 1) := by decide +kernel
theorem dX2_reckon_50 : decode cX2_reckon 50 = .ok (.bipush 15, 2) := by decide +kernel
theorem dX2_reckon_52 : decode cX2_reckon 52 = .ok (.iand, 1) := by decide +kernel
theorem dX2_reckon_53 : decode cX2_reckon 53 = .ok (.istore 5, 2) := by decide +kernel
theorem dX2_reckon_55 : decode cX2_reckon 55 = .ok (.aload_n 0, 1) := by decide +kernel
theorem dX2_reckon_56 : decode cX2_reckon 56 = .ok (.getfield 43, 3) := by decide +kernel
theorem dX2_reckon_59 : decode cX2_reckon 59 = .ok (.getfield 77, 3) := by decide +kernel
theorem dX2_reckon_62 : decode cX2_reckon 62 = .ok (.iload 4, 2) := by decide +kernel
theorem dX2_reckon_64 : decode cX2_reckon 64 = .ok (.iaload, 1) := by decide +kernel
theorem dX2_reckon_65 : decode cX2_reckon 65 = .ok (.iconst 4, 1) := by decide +kernel
theorem dX2_reckon_66 : decode cX2_reckon 66 = .ok (.ishr, 1) := by decide +kernel
theorem dX2_reckon_67 : decode cX2_reckon 67 = .ok (.istore 6, 2) := by decide +kernel
theorem dX2_reckon_69 : decode cX2_reckon 69 = .ok (.iinc 4 1, 3) := by decide +kernel
theorem dX2_reckon_72 : decode cX2_reckon 72 = .ok (.iload 5, 2) := by decide +kernel
theorem dX2_reckon_74 : decode cX2_reckon 74 = .ok (.ifCond .eq 9, 3) := by decide +kernel
theorem dX2_reckon_77 : decode cX2_reckon 77 = .ok (.iload 5, 2) := by decide +kernel
theorem dX2_reckon_79 : decode cX2_reckon 79 = .ok (.iconst 1, 1) := by decide +kernel
theorem dX2_reckon_80 : decode cX2_reckon 80 = .ok (.if_icmp .ne 37, 3) := by decide +kernel
theorem dX2_reckon_83 : decode cX2_reckon 83 = .ok (.iload_n 3, 1) := by decide +kernel
theorem dX2_reckon_84 : decode cX2_reckon 84 = .ok (.bipush 32, 2) := by decide +kernel
theorem dX2_reckon_86 : decode cX2_reckon 86 = .ok (.if_icmp .ge 168, 3) := by decide +kernel
theorem dX2_reckon_89 : decode cX2_reckon 89 = .ok (.aload_n 0, 1) := by decide +kernel
theorem dX2_reckon_90 : decode cX2_reckon 90 = .ok (.getfield 11, 3) := by decide +kernel
theorem dX2_reckon_93 : decode cX2_reckon 93 = .ok (.iload_n 3, 1) := by decide +kernel
theorem dX2_reckon_94 : decode cX2_reckon 94 = .ok (.iload 5, 2) := by decide +kernel
theorem dX2_reckon_96 : decode cX2_reckon 96 = .ok (.ifCond .ne 8, 3) := by decide +kernel
theorem dX2_reckon_99 : decode cX2_reckon 99 = .ok (.iload 6, 2) := by decide +kernel
theorem dX2_reckon_101 : decode cX2_reckon 101 = .ok (.goto 9, 3) := by decide +kernel
theorem dX2_reckon_104 : decode cX2_reckon 104 = .ok (.aload_n 0, 1) := by decide +kernel
theorem dX2_reckon_105 : decode cX2_reckon 105 = .ok (.iload 6, 2) := by decide +kernel
theorem dX2_reckon_107 : decode cX2_reckon 107 = .ok (.invokevirtual 80, 3) := by decide +kernel
theorem dX2_reckon_110 : decode cX2_reckon 110 = .ok (.iastore, 1) := by decide +kernel
theorem dX2_reckon_111 : decode cX2_reckon 111 = .ok (.iinc 3 1, 3) := by decide +kernel
theorem dX2_reckon_114 : decode cX2_reckon 114 = .ok (.goto 140, 3) := by decide +kernel
theorem dX2_reckon_117 : decode cX2_reckon 117 = .ok (.iload 5, 2) := by decide +kernel
theorem dX2_reckon_119 : decode cX2_reckon 119 = .ok (.iconst 2, 1) := by decide +kernel
theorem dX2_reckon_120 : decode cX2_reckon 120 = .ok (.if_icmp .ne 22, 3) := by decide +kernel
theorem dX2_reckon_123 : decode cX2_reckon 123 = .ok (.aload_n 0, 1) := by decide +kernel
theorem dX2_reckon_124 : decode cX2_reckon 124 = .ok (.aload_n 0, 1) := by decide +kernel
theorem dX2_reckon_125 : decode cX2_reckon 125 = .ok (.getfield 29, 3) := by decide +kernel
theorem dX2_reckon_128 : decode cX2_reckon 128 = .ok (.ifCond .ne 7, 3) := by decide +kernel
theorem dX2_reckon_131 : decode cX2_reckon 131 = .ok (.iconst 1, 1) := by decide +kernel
theorem dX2_reckon_132 : decode cX2_reckon 132 = .ok (.goto 4, 3) := by decide +kernel
theorem dX2_reckon_135 : decode cX2_reckon 135 = .ok (.iconst 0, 1) := by decide +kernel
theorem dX2_reckon_136 : decode cX2_reckon 136 = .ok (.putfield 29, 3) := by decide +kernel
theorem dX2_reckon_139 : decode cX2_reckon 139 = .ok (.goto 115, 3) := by decide +kernel
theorem dX2_reckon_142 : decode cX2_reckon 142 = .ok (.iload 5, 2) := by decide +kernel
theorem dX2_reckon_144 : decode cX2_reckon 144 = .ok (.iconst 3, 1) := by decide +kernel
theorem dX2_reckon_145 : decode cX2_reckon 145 = .ok (.if_icmp .eq 9, 3) := by decide +kernel
theorem dX2_reckon_148 : decode cX2_reckon 148 = .ok (.iload 5, 2) := by decide +kernel
theorem dX2_reckon_150 : decode cX2_reckon 150 = .ok (.iconst 4, 1) := by decide +kernel
theorem dX2_reckon_151 : decode cX2_reckon 151 = .ok (.if_icmp .ne 33, 3) := by decide +kernel
theorem dX2_reckon_154 : decode cX2_reckon 154 = .ok (.aload_n 0, 1) := by decide +kernel
theorem dX2_reckon_155 : decode cX2_reckon 155 = .ok (.getfield 29, 3) := by decide +kernel
theorem dX2_reckon_158 : decode cX2_reckon 158 = .ok (.iload 5, 2) := by decide +kernel
theorem dX2_reckon_160 : decode cX2_reckon 160 = .ok (.iconst 3, 1) := by decide +kernel
theorem dX2_reckon_161 : decode cX2_reckon 161 = .ok (.if_icmp .ne 7, 3) := by decide +kernel
theorem dX2_reckon_164 : decode cX2_reckon 164 = .ok (.iconst 1, 1) := by decide +kernel
theorem dX2_reckon_165 : decode cX2_reckon 165 = .ok (.goto 4, 3) := by decide +kernel
theorem dX2_reckon_168 : decode cX2_reckon 168 = .ok (.iconst 0, 1) := by decide +kernel
theorem dX2_reckon_169 : decode cX2_reckon 169 = .ok (.if_icmp .ne 85, 3) := by decide +kernel
theorem dX2_reckon_172 : decode cX2_reckon 172 = .ok (.iload 4, 2) := by decide +kernel
theorem dX2_reckon_174 : decode cX2_reckon 174 = .ok (.iload 6, 2) := by decide +kernel
theorem dX2_reckon_176 : decode cX2_reckon 176 = .ok (.invokestatic 74, 3) := by decide +kernel
theorem dX2_reckon_179 : decode cX2_reckon 179 = .ok (.istore 4, 2) := by decide +kernel
theorem dX2_reckon_181 : decode cX2_reckon 181 = .ok (.goto 73, 3) := by decide +kernel
theorem dX2_reckon_184 : decode cX2_reckon 184 = .ok (.iload_n 3, 1) := by decide +kernel
theorem dX2_reckon_185 : decode cX2_reckon 185 = .ok (.iconst 2, 1) := by decide +kernel
theorem dX2_reckon_186 : decode cX2_reckon 186 = .ok (.if_icmp .lt 68, 3) := by decide +kernel
theorem dX2_reckon_189 : decode cX2_reckon 189 = .ok (.iinc 3 (-2), 3) := by decide +kernel
theorem dX2_reckon_192 : decode cX2_reckon 192 = .ok (.iload 5, 2) := by decide +kernel
theorem dX2_reckon_194 : decode cX2_reckon 194 = .ok (.bipush 10, 2) := by decide +kernel
theorem dX2_reckon_196 : decode cX2_reckon 196 = .ok (.if_icmp .lt 29, 3) := by decide +kernel
theorem dX2_reckon_199 : decode cX2_reckon 199 = .ok (.aload_n 0, 1) := by decide +kernel
theorem dX2_reckon_200 : decode cX2_reckon 200 = .ok (.iload 5, 2) := by decide +kernel
theorem dX2_reckon_202 : decode cX2_reckon 202 = .ok (.aload_n 0, 1) := by decide +kernel
theorem dX2_reckon_203 : decode cX2_reckon 203 = .ok (.getfield 11, 3) := by decide +kernel
theorem dX2_reckon_206 : decode cX2_reckon 206 = .ok (.iload_n 3, 1) := by decide +kernel
theorem dX2_reckon_207 : decode cX2_reckon 207 = .ok (.iaload, 1) := by decide +kernel
theorem dX2_reckon_208 : decode cX2_reckon 208 = .ok (.aload_n 0, 1) := by decide +kernel
theorem dX2_reckon_209 : decode cX2_reckon 209 = .ok (.getfield 11, 3) := by decide +kernel
theorem dX2_reckon_212 : decode cX2_reckon 212 = .ok (.iload_n 3, 1) := by decide +kernel
theorem dX2_reckon_213 : decode cX2_reckon 213 = .ok (.iconst 1, 1) := by decide +kernel
theorem dX2_reckon_214 : decode cX2_reckon 214 = .ok (.iadd, 1) := by decide +kernel
theorem dX2_reckon_215 : decode cX2_reckon 215 = .ok (.iaload, 1) := by decide +kernel
theorem dX2_reckon_216 : decode cX2_reckon 216 = .ok (.invokestatic 84, 3) := by decide +kernel
theorem dX2_reckon_219 : decode cX2_reckon 219 = .ok (.putfield 29, 3) := by decide +kernel
theorem dX2_reckon_222 : decode cX2_reckon 222 = .ok (.goto 32, 3) := by decide +kernel
theorem dX2_reckon_225 : decode cX2_reckon 225 = .ok (.aload_n 0, 1) := by decide +kernel
theorem dX2_reckon_226 : decode cX2_reckon 226 = .ok (.getfield 11, 3) := by decide +kernel
theorem dX2_reckon_229 : decode cX2_reckon 229 = .ok (.iload_n 3, 1) := by decide +kernel
theorem dX2_reckon_230 : decode cX2_reckon 230 = .ok (.aload_n 0, 1) := by decide +kernel
theorem dX2_reckon_231 : decode cX2_reckon 231 = .ok (.iload 5, 2) := by decide +kernel
theorem dX2_reckon_233 : decode cX2_reckon 233 = .ok (.aload_n 0, 1) := by decide +kernel
theorem dX2_reckon_234 : decode cX2_reckon 234 = .ok (.getfield 11, 3) := by decide +kernel
theorem dX2_reckon_237 : decode cX2_reckon 237 = .ok (.iload_n 3, 1) := by decide +kernel
theorem dX2_reckon_238 : decode cX2_reckon 238 = .ok (.iaload, 1) := by decide +kernel
theorem dX2_reckon_239 : decode cX2_reckon 239 = .ok (.aload_n 0, 1) := by decide +kernel
theorem dX2_reckon_240 : decode cX2_reckon 240 = .ok (.getfield 11, 3) := by decide +kernel
theorem dX2_reckon_243 : decode cX2_reckon 243 = .ok (.iload_n 3, 1) := by decide +kernel
theorem dX2_reckon_244 : decode cX2_reckon 244 = .ok (.iconst 1, 1) := by decide +kernel
theorem dX2_reckon_245 : decode cX2_reckon 245 = .ok (.iadd, 1) := by decide +kernel
theorem dX2_reckon_246 : decode cX2_reckon 246 = .ok (.iaload, 1) := by decide +kernel
theorem dX2_reckon_247 : decode cX2_reckon 247 = .ok (.invokevirtual 88, 3) := by decide +kernel
theorem dX2_reckon_250 : decode cX2_reckon 250 = .ok (.iastore, 1) := by decide +kernel
theorem dX2_reckon_251 : decode cX2_reckon 251 = .ok (.iinc 3 1, 3) := by decide +kernel
theorem dX2_reckon_254 : decode cX2_reckon 254 = .ok (.goto (-235), 3) := by decide +kernel
theorem dX2_reckon_257 : decode cX2_reckon 257 = .ok (.return_, 1) := by decide +kernel
theorem dX2_worth_0 : decode cX2_worth 0 = .ok (.iconst 0, 1) := by decide +kernel
theorem dX2_worth_1 : decode cX2_worth 1 = .ok (.istore 5, 2) := by decide +kernel
theorem dX2_worth_3 : decode cX2_worth 3 = .ok (.iload 5, 2) := by decide +kernel
theorem dX2_worth_5 : decode cX2_worth 5 = .ok (.aload_n 0, 1) := by decide +kernel
theorem dX2_worth_6 : decode cX2_worth 6 = .ok (.getfield 43, 3) := by decide +kernel
theorem dX2_worth_9 : decode cX2_worth 9 = .ok (.getfield 47, 3) := by decide +kernel
theorem dX2_worth_12 : decode cX2_worth 12 = .ok (.if_icmp .ge 123, 3) := by decide +kernel
theorem dX2_worth_15 : decode cX2_worth 15 = .ok (.iload 5, 2) := by decide +kernel
theorem dX2_worth_17 : decode cX2_worth 17 = .ok (.bipush 16, 2) := by decide +kernel
theorem dX2_worth_19 : decode cX2_worth 19 = .ok (.if_icmp .ge 116, 3) := by decide +kernel
theorem dX2_worth_22 : decode cX2_worth 22 = .ok (.aload_n 0, 1) := by decide +kernel
theorem dX2_worth_23 : decode cX2_worth 23 = .ok (.getfield 43, 3) := by decide +kernel
theorem dX2_worth_26 : decode cX2_worth 26 = .ok (.getfield 52, 3) := by decide +kernel
theorem dX2_worth_29 : decode cX2_worth 29 = .ok (.iload 5, 2) := by decide +kernel
theorem dX2_worth_31 : decode cX2_worth 31 = .ok (.iaload, 1) := by decide +kernel
theorem dX2_worth_32 : decode cX2_worth 32 = .ok (.iload_n 1, 1) := by decide +kernel
theorem dX2_worth_33 : decode cX2_worth 33 = .ok (.if_icmp .ne 96, 3) := by decide +kernel
theorem dX2_worth_36 : decode cX2_worth 36 = .ok (.aload_n 0, 1) := by decide +kernel
theorem dX2_worth_37 : decode cX2_worth 37 = .ok (.aload_n 0, 1) := by decide +kernel
theorem dX2_worth_38 : decode cX2_worth 38 = .ok (.getfield 43, 3) := by decide +kernel
theorem dX2_worth_41 : decode cX2_worth 41 = .ok (.getfield 55, 3) := by decide +kernel
theorem dX2_worth_44 : decode cX2_worth 44 = .ok (.iload 5, 2) := by decide +kernel
theorem dX2_worth_46 : decode cX2_worth 46 = .ok (.iaload, 1) := by decide +kernel
theorem dX2_worth_47 : decode cX2_worth 47 = .ok (.aload_n 0, 1) := by decide +kernel
theorem dX2_worth_48 : decode cX2_worth 48 = .ok (.getfield 43, 3) := by decide +kernel
theorem dX2_worth_51 : decode cX2_worth 51 = .ok (.getfield 58, 3) := by decide +kernel
theorem dX2_worth_54 : decode cX2_worth 54 = .ok (.iload 5, 2) := by decide +kernel
theorem dX2_worth_56 : decode cX2_worth 56 = .ok (.iaload, 1) := by decide +kernel
theorem dX2_worth_57 : decode cX2_worth 57 = .ok (.invokevirtual 61, 3) := by decide +kernel
theorem dX2_worth_60 : decode cX2_worth 60 = .ok (.aload_n 0, 1) := by decide +kernel
theorem dX2_worth_61 : decode cX2_worth 61 = .ok (.getfield 29, 3) := by decide +kernel
theorem dX2_worth_64 : decode cX2_worth 64 = .ok (.ifCond .eq 65, 3) := by decide +kernel
theorem dX2_worth_67 : decode cX2_worth 67 = .ok (.aload_n 0, 1) := by decide +kernel
theorem dX2_worth_68 : decode cX2_worth 68 = .ok (.getfield 32, 3) := by decide +kernel
theorem dX2_worth_71 : decode cX2_worth 71 = .ok (.ifCond .ne 58, 3) := by decide +kernel
theorem dX2_worth_74 : decode cX2_worth 74 = .ok (.aload_n 0, 1) := by decide +kernel
theorem dX2_worth_75 : decode cX2_worth 75 = .ok (.aload_n 0, 1) := by decide +kernel
theorem dX2_worth_76 : decode cX2_worth 76 = .ok (.getfield 43, 3) := by decide +kernel
theorem dX2_worth_79 : decode cX2_worth 79 = .ok (.getfield 65, 3) := by decide +kernel
theorem dX2_worth_82 : decode cX2_worth 82 = .ok (.iload 5, 2) := by decide +kernel
theorem dX2_worth_84 : decode cX2_worth 84 = .ok (.iaload, 1) := by decide +kernel
theorem dX2_worth_85 : decode cX2_worth 85 = .ok (.aload_n 0, 1) := by decide +kernel
theorem dX2_worth_86 : decode cX2_worth 86 = .ok (.getfield 43, 3) := by decide +kernel
theorem dX2_worth_89 : decode cX2_worth 89 = .ok (.getfield 55, 3) := by decide +kernel
theorem dX2_worth_92 : decode cX2_worth 92 = .ok (.iload 5, 2) := by decide +kernel
theorem dX2_worth_94 : decode cX2_worth 94 = .ok (.iaload, 1) := by decide +kernel
theorem dX2_worth_95 : decode cX2_worth 95 = .ok (.invokevirtual 61, 3) := by decide +kernel
theorem dX2_worth_98 : decode cX2_worth 98 = .ok (.aload_n 0, 1) := by decide +kernel
theorem dX2_worth_99 : decode cX2_worth 99 = .ok (.getfield 32, 3) := by decide +kernel
theorem dX2_worth_102 : decode cX2_worth 102 = .ok (.ifCond .eq 7, 3) := by decide +kernel
theorem dX2_worth_105 : decode cX2_worth 105 = .ok (.iconst 0, 1) := by decide +kernel
theorem dX2_worth_106 : decode cX2_worth 106 = .ok (.goto 9, 3) := by decide +kernel
theorem dX2_worth_109 : decode cX2_worth 109 = .ok (.aload_n 0, 1) := by decide +kernel
theorem dX2_worth_110 : decode cX2_worth 110 = .ok (.getfield 11, 3) := by decide +kernel
theorem dX2_worth_113 : decode cX2_worth 113 = .ok (.iconst 0, 1) := by decide +kernel
theorem dX2_worth_114 : decode cX2_worth 114 = .ok (.iaload, 1) := by decide +kernel
theorem dX2_worth_115 : decode cX2_worth 115 = .ok (.istore 6, 2) := by decide +kernel
theorem dX2_worth_117 : decode cX2_worth 117 = .ok (.iload_n 3, 1) := by decide +kernel
theorem dX2_worth_118 : decode cX2_worth 118 = .ok (.iload 4, 2) := by decide +kernel
theorem dX2_worth_120 : decode cX2_worth 120 = .ok (.iload 6, 2) := by decide +kernel
theorem dX2_worth_122 : decode cX2_worth 122 = .ok (.invokestatic 68, 3) := by decide +kernel
theorem dX2_worth_125 : decode cX2_worth 125 = .ok (.invokestatic 74, 3) := by decide +kernel
theorem dX2_worth_128 : decode cX2_worth 128 = .ok (.ireturn, 1) := by decide +kernel
theorem dX2_worth_129 : decode cX2_worth 129 = .ok (.iinc 5 1, 3) := by decide +kernel
theorem dX2_worth_132 : decode cX2_worth 132 = .ok (.goto (-129), 3) := by decide +kernel
theorem dX2_worth_135 : decode cX2_worth 135 = .ok (.iload_n 2, 1) := by decide +kernel
theorem dX2_worth_136 : decode cX2_worth 136 = .ok (.ireturn, 1) := by decide +kernel
def mX2_sit (F : Nat) (e1 : Nat) (e2 : Nat) (σ : jS) : Option jS := (lt (js σ 58 2 (nI e1)) fun σ1 => (lt (js σ1 58 3 (nI e2)) fun σ2 => some σ2))
set_option maxHeartbeats 4000000 in
set_option maxRecDepth 100000 in
theorem kX2_sit {V : jV} {F : Nat} {e1 : Nat} {e2 : Nat} (he1 : kX e1 = 0) (he2 : kX e2 = 3) {σ : jS} {v : jS} (hm : mX2_sit F e1 e2 σ = some v) : Ct cfX 70 V yX2_sit cX2_sit 3 none 0 [.ref (vad V 58), .ref (vad V e1), .ref (vad V e2)] σ (0, v) := by
  refine j_start (own := RX2) (by decide) rfl (Nat.le_of_ble_eq_true rfl) ?_
  intro G hV C
  subst hV
  unfold mX2_sit at hm
  show JX G 0 [(0, .ref (vad (gV G) 58)), (1, .ref (vad (gV G) e1)), (2, .ref (vad (gV G) e2))] [] σ (0, v)
  refine j_aloadn (pc := 0) C 0 dX2_sit_0 rfl rfl ?_
  refine j_aloadn (pc := 1) C 1 dX2_sit_1 rfl rfl ?_
  refine pf_X2_39 (c := 58) (pc := 2) C kx_58 (Nat.lt_trans (kX_lt he1 (by decide)) (by decide)) dX2_sit_2 hm (fun σ1 hm => ?_)
  refine j_aloadn (pc := 5) C 0 dX2_sit_5 rfl rfl ?_
  refine j_aloadn (pc := 6) C 2 dX2_sit_6 rfl rfl ?_
  refine pf_X2_43 (c := 58) (pc := 7) C kx_58 (Nat.lt_trans (kX_lt he2 (by decide)) (by decide)) dX2_sit_7 hm (fun σ2 hm => ?_)
  exact j_vret (pc := 10) C rfl dX2_sit_10 hm

def mX2_turnTo (F : Nat) (x1 : Int32) (x2 : Int32) (x3 : Int32) (x4 : Int32) (σ : jS) : Option jS := (lt (js σ 58 4 x1) fun σ1 => (lt (js σ1 58 5 x2) fun σ2 => (lt (js σ2 58 6 x3) fun σ3 => (if jbo x4 = true then (lt (js σ3 58 7 x4) fun σ4 => some σ4) else none))))
set_option maxHeartbeats 4000000 in
set_option maxRecDepth 100000 in
theorem kX2_turnTo {V : jV} {F : Nat} {x1 : Int32} {x2 : Int32} {x3 : Int32} {x4 : Int32} {σ : jS} {v : jS} (hm : mX2_turnTo F x1 x2 x3 x4 σ = some v) : Ct cfX 70 V yX2_turnTo cX2_turnTo 5 none 0 [.ref (vad V 58), .int x1, .int x2, .int x3, .int x4] σ (0, v) := by
  refine j_start (own := RX2) (by decide) rfl (Nat.le_of_ble_eq_true rfl) ?_
  intro G hV C
  subst hV
  unfold mX2_turnTo at hm
  show JX G 0 [(0, .ref (vad (gV G) 58)), (1, .int x1), (2, .int x2), (3, .int x3), (4, .int x4)] [] σ (0, v)
  refine j_aloadn (pc := 0) C 0 dX2_turnTo_0 rfl rfl ?_
  refine j_iloadn (pc := 1) C 1 dX2_turnTo_1 rfl rfl ?_
  refine pf_X2_15 (c := 58) (pc := 2) C kx_58 dX2_turnTo_2 hm (fun σ1 hm => ?_)
  refine j_aloadn (pc := 5) C 0 dX2_turnTo_5 rfl rfl ?_
  refine j_iloadn (pc := 6) C 2 dX2_turnTo_6 rfl rfl ?_
  refine pf_X2_19 (c := 58) (pc := 7) C kx_58 dX2_turnTo_7 hm (fun σ2 hm => ?_)
  refine j_aloadn (pc := 10) C 0 dX2_turnTo_10 rfl rfl ?_
  refine j_iloadn (pc := 11) C 3 dX2_turnTo_11 rfl rfl ?_
  refine pf_X2_22 (c := 58) (pc := 12) C kx_58 dX2_turnTo_12 hm (fun σ3 hm => ?_)
  refine j_aloadn (pc := 15) C 0 dX2_turnTo_15 rfl rfl ?_
  refine j_iload (pc := 16) C 4 dX2_turnTo_16 rfl ?_
  refine j_guard hm (fun hb5 hm => ?_)
  refine pf_X2_25 (c := 58) (pc := 18) C kx_58 hb5 dX2_turnTo_18 hm (fun σ4 hm => ?_)
  exact j_vret (pc := 21) C rfl dX2_turnTo_21 hm

def mX2_compared (F : Nat) (x0 : Int32) (x1 : Int32) (x2 : Int32) (σ : jS) : Option Int32 := (if x0 = (10 : Int32) then (if x1 < x2 then some (1 : Int32) else some (0 : Int32)) else (if x0 = (11 : Int32) then (if x2 < x1 then some (1 : Int32) else some (0 : Int32)) else (if x1 = x2 then some (1 : Int32) else some (0 : Int32))))
set_option maxHeartbeats 4000000 in
set_option maxRecDepth 100000 in
theorem kX2_compared {V : jV} {F : Nat} {x0 : Int32} {x1 : Int32} {x2 : Int32} {σ : jS} {v : Int32} (hm : mX2_compared F x0 x1 x2 σ = some v) : Ct cfX 70 V yX2_compared cX2_compared 3 (some .boolean) 0 [.int x0, .int x1, .int x2] σ (v, σ) := by
  refine j_start (own := RX2) (by decide) rfl (Nat.le_of_ble_eq_true rfl) ?_
  intro G hV C
  subst hV
  unfold mX2_compared at hm
  show JX G 0 [(0, .int x0), (1, .int x1), (2, .int x2)] [] σ (v, σ)
  refine j_iloadn (pc := 0) C 0 dX2_compared_0 rfl rfl ?_
  refine j_bipush (v := 10) (pc := 1) C dX2_compared_1 (by decide) ?_
  refine j_icmp_ne (tgt := 17) (pc := 3) C dX2_compared_3 (by decide) hm (fun _ hm => ?_) (fun _ hm => ?_)
  · refine j_iloadn (pc := 6) C 1 dX2_compared_6 rfl rfl ?_
    refine j_iloadn (pc := 7) C 2 dX2_compared_7 rfl rfl ?_
    refine j_icmp_ge (tgt := 15) (pc := 8) C dX2_compared_8 (by decide) hm (fun _ hm => ?_) (fun _ hm => ?_)
    · refine j_iconst (v := 1) (pc := 11) C dX2_compared_11 (by decide) ?_
      refine j_goto (tgt := 16) (pc := 12) C dX2_compared_12 (by decide) ?_
      exact j_zret (pc := 16) C rfl rfl dX2_compared_16 hm
    · refine j_iconst (v := 0) (pc := 15) C dX2_compared_15 (by decide) ?_
      exact j_zret (pc := 16) C rfl rfl dX2_compared_16 hm
  · refine j_iloadn (pc := 17) C 0 dX2_compared_17 rfl rfl ?_
    refine j_bipush (v := 11) (pc := 18) C dX2_compared_18 (by decide) ?_
    refine j_icmp_ne (tgt := 36) (pc := 20) C dX2_compared_20 (by decide) hm (fun _ hm => ?_) (fun _ hm => ?_)
    · refine j_iloadn (pc := 23) C 1 dX2_compared_23 rfl rfl ?_
      refine j_iloadn (pc := 24) C 2 dX2_compared_24 rfl rfl ?_
      refine j_icmp_le (tgt := 32) (pc := 25) C dX2_compared_25 (by decide) hm (fun _ hm => ?_) (fun _ hm => ?_)
      · refine j_iconst (v := 1) (pc := 28) C dX2_compared_28 (by decide) ?_
        refine j_goto (tgt := 46) (pc := 29) C dX2_compared_29 (by decide) ?_
        exact j_zret (pc := 46) C rfl rfl dX2_compared_46 hm
      · refine j_iconst (v := 0) (pc := 32) C dX2_compared_32 (by decide) ?_
        refine j_goto (tgt := 46) (pc := 33) C dX2_compared_33 (by decide) ?_
        exact j_zret (pc := 46) C rfl rfl dX2_compared_46 hm
    · refine j_iloadn (pc := 36) C 1 dX2_compared_36 rfl rfl ?_
      refine j_iloadn (pc := 37) C 2 dX2_compared_37 rfl rfl ?_
      refine j_icmp_ne (tgt := 45) (pc := 38) C dX2_compared_38 (by decide) hm (fun _ hm => ?_) (fun _ hm => ?_)
      · refine j_iconst (v := 1) (pc := 41) C dX2_compared_41 (by decide) ?_
        refine j_goto (tgt := 46) (pc := 42) C dX2_compared_42 (by decide) ?_
        exact j_zret (pc := 46) C rfl rfl dX2_compared_46 hm
      · refine j_iconst (v := 0) (pc := 45) C dX2_compared_45 (by decide) ?_
        exact j_zret (pc := 46) C rfl rfl dX2_compared_46 hm

def mX2_reckoned (F : Nat) (x1 : Int32) (x2 : Int32) (x3 : Int32) (σ : jS) : Option (Int32 × jS) := (if x1 = (5 : Int32) then some ((x2 + x3), σ) else (if x1 = (6 : Int32) then some ((x2 - x3), σ) else (if x1 = (7 : Int32) then some ((x2 * x3), σ) else (if x3 = 0 then (lt (js σ 58 9 (1 : Int32)) fun σ1 => some ((0 : Int32), σ1)) else (if x1 = (8 : Int32) then (if x3 = 0 then none else some ((x2 / x3), σ)) else (if x3 = 0 then none else some ((irm x2 x3), σ)))))))
set_option maxHeartbeats 4000000 in
set_option maxRecDepth 100000 in
theorem kX2_reckoned {V : jV} {F : Nat} {x1 : Int32} {x2 : Int32} {x3 : Int32} {σ : jS} {v : (Int32 × jS)} (hm : mX2_reckoned F x1 x2 x3 σ = some v) : Ct cfX 70 V yX2_reckoned cX2_reckoned 4 (some .int) 0 [.ref (vad V 58), .int x1, .int x2, .int x3] σ v := by
  refine j_start (own := RX2) (by decide) rfl (Nat.le_of_ble_eq_true rfl) ?_
  intro G hV C
  subst hV
  unfold mX2_reckoned at hm
  show JX G 0 [(0, .ref (vad (gV G) 58)), (1, .int x1), (2, .int x2), (3, .int x3)] [] σ v
  refine j_iloadn (pc := 0) C 1 dX2_reckoned_0 rfl rfl ?_
  refine j_sw (b := 5) hm (fun hs hm => ?_) (fun hs0 hm => ?_)
  · refine j_swIn (tgt := 28) (b := 5) (pc := 1) C dX2_reckoned_1 hs (by decide) (by decide) rfl (by decide) ?_
    refine j_iloadn (pc := 28) C 2 dX2_reckoned_28 rfl rfl ?_
    refine j_iloadn (pc := 29) C 3 dX2_reckoned_29 rfl rfl ?_
    refine j_iadd (pc := 30) C dX2_reckoned_30 ?_
    exact j_iretS (pc := 31) C rfl dX2_reckoned_31 hm
  · refine j_sw (b := 6) hm (fun hs hm => ?_) (fun hs1 hm => ?_)
    · refine j_swIn (tgt := 32) (b := 6) (pc := 1) C dX2_reckoned_1 hs (by decide) (by decide) rfl (by decide) ?_
      refine j_iloadn (pc := 32) C 2 dX2_reckoned_32 rfl rfl ?_
      refine j_iloadn (pc := 33) C 3 dX2_reckoned_33 rfl rfl ?_
      refine j_isub (pc := 34) C dX2_reckoned_34 ?_
      exact j_iretS (pc := 35) C rfl dX2_reckoned_35 hm
    · refine j_sw (b := 7) hm (fun hs hm => ?_) (fun hs2 hm => ?_)
      · refine j_swIn (tgt := 36) (b := 7) (pc := 1) C dX2_reckoned_1 hs (by decide) (by decide) rfl (by decide) ?_
        refine j_iloadn (pc := 36) C 2 dX2_reckoned_36 rfl rfl ?_
        refine j_iloadn (pc := 37) C 3 dX2_reckoned_37 rfl rfl ?_
        refine j_imul (pc := 38) C dX2_reckoned_38 ?_
        exact j_iretS (pc := 39) C rfl dX2_reckoned_39 hm
      · refine j_swOut (tgt := 40) (pc := 1) C dX2_reckoned_1 (by have hx := jsw_out (lo := 5) (n := 3) (by decide) (by decide) (fun i hi => by rcases i with _ | _ | _ | i <;> first | assumption | (exact absurd hi (by omega))); exact hx) (by decide) ?_
        refine j_iloadn (pc := 40) C 3 dX2_reckoned_40 rfl rfl ?_
        refine j_if_ne (tgt := 51) (pc := 41) C dX2_reckoned_41 (by decide) hm (fun _ hm => ?_) (fun _ hm => ?_)
        · refine j_aloadn (pc := 44) C 0 dX2_reckoned_44 rfl rfl ?_
          refine j_iconst (v := 1) (pc := 45) C dX2_reckoned_45 (by decide) ?_
          refine pf_X2_32 (c := 58) (pc := 46) C kx_58 rfl dX2_reckoned_46 hm (fun σ1 hm => ?_)
          refine j_iconst (v := 0) (pc := 49) C dX2_reckoned_49 (by decide) ?_
          exact j_iretS (pc := 50) C rfl dX2_reckoned_50 hm
        · refine j_iloadn (pc := 51) C 1 dX2_reckoned_51 rfl rfl ?_
          refine j_bipush (v := 8) (pc := 52) C dX2_reckoned_52 (by decide) ?_
          refine j_icmp_ne (tgt := 63) (pc := 54) C dX2_reckoned_54 (by decide) hm (fun _ hm => ?_) (fun _ hm => ?_)
          · refine j_iloadn (pc := 57) C 2 dX2_reckoned_57 rfl rfl ?_
            refine j_iloadn (pc := 58) C 3 dX2_reckoned_58 rfl rfl ?_
            refine j_idiv (pc := 59) C dX2_reckoned_59 hm (fun hm => ?_)
            refine j_goto (tgt := 66) (pc := 60) C dX2_reckoned_60 (by decide) ?_
            exact j_iretS (pc := 66) C rfl dX2_reckoned_66 hm
          · refine j_iloadn (pc := 63) C 2 dX2_reckoned_63 rfl rfl ?_
            refine j_iloadn (pc := 64) C 3 dX2_reckoned_64 rfl rfl ?_
            refine j_irem (pc := 65) C dX2_reckoned_65 hm (fun hm => ?_)
            exact j_iretS (pc := 66) C rfl dX2_reckoned_66 hm

def mX2_letter (F : Nat) (x1 : Int32) (σ : jS) : Option Int32 := (lt (imin (σ 58 5) (23 : Int32)) fun y1 => (if x1 = (0 : Int32) then some (σ 58 4) else (if x1 = (1 : Int32) then (Option.bind (mX8_doing F ((σ 58 4)) y1 σ) fun q2 => some q2) else (if x1 = (2 : Int32) then some (σ 58 5) else (if x1 = (3 : Int32) then (lt (σ 58 2).toNatClampNeg fun e3 => if kX e3 = 0 then (Option.bind (mX0_ageOf F e3 ((σ 58 4)) σ) fun q4 => some (q4 / (365 : Int32))) else none) else (if x1 = (4 : Int32) then (lt (σ 58 2).toNatClampNeg fun e5 => if kX e5 = 0 then (Option.bind (mX0_beatsOf F e5 ((σ 58 4)) σ) fun q6 => some (q6 / (1000 : Int32))) else none) else (if x1 = (5 : Int32) then (if (σ 58 7) = 0 then some (0 : Int32) else (lt (σ 58 2).toNatClampNeg fun e7 => if kX e7 = 0 then (Option.bind (mX8_othersWith F ((σ 58 4)) ((σ e7 4)) y1 σ) fun q8 => some q8) else none)) else (if x1 = (6 : Int32) then (lt (σ 58 2).toNatClampNeg fun e9 => if kX e9 = 0 then (Option.bind (mX6_owedBy F (e9 + 3) ((σ 58 4)) σ) fun q10 => some q10) else none) else (if x1 = (7 : Int32) then (lt (σ 58 2).toNatClampNeg fun e11 => if kX e11 = 0 then some (irm (σ e11 6) (100 : Int32)) else none) else some (σ 58 6))))))))))
set_option maxHeartbeats 4000000 in
set_option maxRecDepth 100000 in
theorem kX2_letter {V : jV} {F : Nat} {x1 : Int32} {σ : jS} {v : Int32} (hm : mX2_letter F x1 σ = some v) : Ct cfX 70 V yX2_letter cX2_letter 3 (some .int) 1 [.ref (vad V 58), .int x1] σ (v, σ) := by
  refine j_start (own := RX2) (by decide) rfl (Nat.le_of_ble_eq_true rfl) ?_
  intro G hV C
  subst hV
  unfold mX2_letter at hm
  show JX G 0 [(0, .ref (vad (gV G) 58)), (1, .int x1)] [] σ (v, σ)
  refine j_aloadn (pc := 0) C 0 dX2_letter_0 rfl rfl ?_
  refine gf_X2_19 (c := 58) (pc := 1) C kx_58 dX2_letter_1 ?_
  refine j_bipush (v := 23) (pc := 4) C dX2_letter_4 (by decide) ?_
  refine j_mminD (pc := 6) C tw_3_223 tw_2_162 tw_1_14 tw_2_163 (by decide) (Nat.le_of_ble_eq_true rfl) dX2_letter_6 ?_
  refine j_lti hm (fun y1 hm => ?_)
  refine j_istoren (ls' := [(2, .int y1), (0, .ref (vad (gV G) 58)), (1, .int x1)]) (pc := 9) C dX2_letter_9 rfl (by decide) rfl ?_
  refine j_iloadn (pc := 10) C 2 dX2_letter_10 rfl rfl ?_
  refine j_sw (b := 0) hm (fun hs hm => ?_) (fun hs0 hm => ?_)
  · refine j_swIn (tgt := 56) (b := 0) (pc := 11) C dX2_letter_11 hs (by decide) (by decide) rfl (by decide) ?_
    refine j_aloadn (pc := 56) C 1 dX2_letter_56 rfl rfl ?_
    refine gf_X2_15 (c := 58) (pc := 57) C kx_58 dX2_letter_57 ?_
    exact j_iret (pc := 60) C rfl dX2_letter_60 hm
  · refine j_sw (b := 1) hm (fun hs hm => ?_) (fun hs1 hm => ?_)
    · refine j_swIn (tgt := 61) (b := 1) (pc := 11) C dX2_letter_11 hs (by decide) (by decide) rfl (by decide) ?_
      refine j_aloadn (pc := 61) C 1 dX2_letter_61 rfl rfl ?_
      refine gf_X2_35 (c := 58) (pc := 62) C kx_58 dX2_letter_62 ?_
      refine j_aloadn (pc := 65) C 1 dX2_letter_65 rfl rfl ?_
      refine gf_X2_15 (c := 58) (pc := 66) C kx_58 dX2_letter_66 ?_
      refine j_iloadn (pc := 69) C 0 dX2_letter_69 rfl rfl ?_
      obtain ⟨q2, hq2, hm⟩ := Option.bind_eq_some_iff.mp hm
      refine cl_X2_92 (c := 33) (pc := 70) C kx_33 (kX8_doing hq2) (by decide) (Nat.le_of_ble_eq_true rfl) dX2_letter_70 ?_
      exact j_iret (pc := 73) C rfl dX2_letter_73 hm
    · refine j_sw (b := 2) hm (fun hs hm => ?_) (fun hs2 hm => ?_)
      · refine j_swIn (tgt := 74) (b := 2) (pc := 11) C dX2_letter_11 hs (by decide) (by decide) rfl (by decide) ?_
        refine j_aloadn (pc := 74) C 1 dX2_letter_74 rfl rfl ?_
        refine gf_X2_19 (c := 58) (pc := 75) C kx_58 dX2_letter_75 ?_
        exact j_iret (pc := 78) C rfl dX2_letter_78 hm
      · refine j_sw (b := 3) hm (fun hs hm => ?_) (fun hs3 hm => ?_)
        · refine j_swIn (tgt := 79) (b := 3) (pc := 11) C dX2_letter_11 hs (by decide) (by decide) rfl (by decide) ?_
          refine j_aloadn (pc := 79) C 1 dX2_letter_79 rfl rfl ?_
          refine gf_X2_39 (c := 58) (pc := 80) C kx_58 dX2_letter_80 ?_
          refine j_ltn hm (fun e3 hm => ?_)
          refine j_guardN hm (fun he3 hm => ?_)
          refine j_aloadn (pc := 83) C 1 dX2_letter_83 rfl rfl ?_
          refine gf_X2_15 (c := 58) (pc := 84) C kx_58 dX2_letter_84 ?_
          obtain ⟨q4, hq4, hm⟩ := Option.bind_eq_some_iff.mp hm
          refine cl_X2_97 (c := e3) (pc := 87) C he3 (kX0_ageOf he3 hq4) (by decide) (Nat.le_of_ble_eq_true rfl) dX2_letter_87 ?_
          refine j_sipush (v := 365) (pc := 90) C dX2_letter_90 (by decide) ?_
          refine j_idivK (pc := 93) C dX2_letter_93 (by decide) ?_
          exact j_iret (pc := 94) C rfl dX2_letter_94 hm
        · refine j_sw (b := 4) hm (fun hs hm => ?_) (fun hs4 hm => ?_)
          · refine j_swIn (tgt := 95) (b := 4) (pc := 11) C dX2_letter_11 hs (by decide) (by decide) rfl (by decide) ?_
            refine j_aloadn (pc := 95) C 1 dX2_letter_95 rfl rfl ?_
            refine gf_X2_39 (c := 58) (pc := 96) C kx_58 dX2_letter_96 ?_
            refine j_ltn hm (fun e5 hm => ?_)
            refine j_guardN hm (fun he5 hm => ?_)
            refine j_aloadn (pc := 99) C 1 dX2_letter_99 rfl rfl ?_
            refine gf_X2_15 (c := 58) (pc := 100) C kx_58 dX2_letter_100 ?_
            obtain ⟨q6, hq6, hm⟩ := Option.bind_eq_some_iff.mp hm
            refine cl_X2_102 (c := e5) (pc := 103) C he5 (kX0_beatsOf he5 hq6) (by decide) (Nat.le_of_ble_eq_true rfl) dX2_letter_103 ?_
            refine j_sipush (v := 1000) (pc := 106) C dX2_letter_106 (by decide) ?_
            refine j_idivK (pc := 109) C dX2_letter_109 (by decide) ?_
            exact j_iret (pc := 110) C rfl dX2_letter_110 hm
          · refine j_sw (b := 5) hm (fun hs hm => ?_) (fun hs5 hm => ?_)
            · refine j_swIn (tgt := 111) (b := 5) (pc := 11) C dX2_letter_11 hs (by decide) (by decide) rfl (by decide) ?_
              refine j_aloadn (pc := 111) C 1 dX2_letter_111 rfl rfl ?_
              refine gf_X2_25 (c := 58) (pc := 112) C kx_58 dX2_letter_112 ?_
              refine j_if_eq (tgt := 140) (pc := 115) C dX2_letter_115 (by decide) hm (fun _ hm => ?_) (fun _ hm => ?_)
              · refine j_iconst (v := 0) (pc := 140) C dX2_letter_140 (by decide) ?_
                exact j_iret (pc := 141) C rfl dX2_letter_141 hm
              · refine j_aloadn (pc := 118) C 1 dX2_letter_118 rfl rfl ?_
                refine gf_X2_35 (c := 58) (pc := 119) C kx_58 dX2_letter_119 ?_
                refine j_aloadn (pc := 122) C 1 dX2_letter_122 rfl rfl ?_
                refine gf_X2_15 (c := 58) (pc := 123) C kx_58 dX2_letter_123 ?_
                refine j_aloadn (pc := 126) C 1 dX2_letter_126 rfl rfl ?_
                refine gf_X2_39 (c := 58) (pc := 127) C kx_58 dX2_letter_127 ?_
                refine j_ltn hm (fun e7 hm => ?_)
                refine j_guardN hm (fun he7 hm => ?_)
                refine gf_X2_105 (c := e7) (pc := 130) C he7 dX2_letter_130 ?_
                refine j_iloadn (pc := 133) C 0 dX2_letter_133 rfl rfl ?_
                obtain ⟨q8, hq8, hm⟩ := Option.bind_eq_some_iff.mp hm
                refine cl_X2_108 (c := 33) (pc := 134) C kx_33 (kX8_othersWith hq8) (by decide) (Nat.le_of_ble_eq_true rfl) dX2_letter_134 ?_
                refine j_goto (tgt := 141) (pc := 137) C dX2_letter_137 (by decide) ?_
                exact j_iret (pc := 141) C rfl dX2_letter_141 hm
            · refine j_sw (b := 6) hm (fun hs hm => ?_) (fun hs6 hm => ?_)
              · refine j_swIn (tgt := 142) (b := 6) (pc := 11) C dX2_letter_11 hs (by decide) (by decide) rfl (by decide) ?_
                refine j_aloadn (pc := 142) C 1 dX2_letter_142 rfl rfl ?_
                refine gf_X2_39 (c := 58) (pc := 143) C kx_58 dX2_letter_143 ?_
                refine j_ltn hm (fun e9 hm => ?_)
                refine j_guardN hm (fun he9 hm => ?_)
                refine gf_X2_111 (c := e9) (pc := 146) C he9 dX2_letter_146 ?_
                refine j_aloadn (pc := 149) C 1 dX2_letter_149 rfl rfl ?_
                refine gf_X2_15 (c := 58) (pc := 150) C kx_58 dX2_letter_150 ?_
                obtain ⟨q10, hq10, hm⟩ := Option.bind_eq_some_iff.mp hm
                refine cl_X2_115 (c := (e9 + 3)) (pc := 153) C (of_0_3 he9) (kX6_owedBy (of_0_3 he9) hq10) (by decide) (Nat.le_of_ble_eq_true rfl) dX2_letter_153 ?_
                exact j_iret (pc := 156) C rfl dX2_letter_156 hm
              · refine j_sw (b := 7) hm (fun hs hm => ?_) (fun hs7 hm => ?_)
                · refine j_swIn (tgt := 157) (b := 7) (pc := 11) C dX2_letter_11 hs (by decide) (by decide) rfl (by decide) ?_
                  refine j_aloadn (pc := 157) C 1 dX2_letter_157 rfl rfl ?_
                  refine gf_X2_39 (c := 58) (pc := 158) C kx_58 dX2_letter_158 ?_
                  refine j_ltn hm (fun e11 hm => ?_)
                  refine j_guardN hm (fun he11 hm => ?_)
                  refine gf_X2_120 (c := e11) (pc := 161) C he11 dX2_letter_161 ?_
                  refine j_bipush (v := 100) (pc := 164) C dX2_letter_164 (by decide) ?_
                  refine j_iremK (pc := 166) C dX2_letter_166 (by decide) ?_
                  exact j_iret (pc := 167) C rfl dX2_letter_167 hm
                · refine j_swOut (tgt := 168) (pc := 11) C dX2_letter_11 (by have hx := jsw_out (lo := 0) (n := 8) (by decide) (by decide) (fun i hi => by rcases i with _ | _ | _ | _ | _ | _ | _ | _ | i <;> first | assumption | (exact absurd hi (by omega))); exact hx) (by decide) ?_
                  refine j_aloadn (pc := 168) C 1 dX2_letter_168 rfl rfl ?_
                  refine gf_X2_22 (c := 58) (pc := 169) C kx_58 dX2_letter_169 ?_
                  exact j_iret (pc := 172) C rfl dX2_letter_172 hm

def jn_X2_reckon_83 (F : Nat) (k19 : Int32 → Int32 → Int32 → jS → Option jS) (x2 : Int32) (x3 : Int32) (x4 : Int32) (x5 : Int32) (x6 : Int32) (σ : jS) : Option jS := (if x3 < (32 : Int32) then (if x5 = 0 then (if jin x3 32 = true then (lt (js σ 59 x3.toNatClampNeg x6) fun σ10 => (k19 x2 ((x3 + (1 : Int32))) x4 σ10)) else none) else (Option.bind (mX2_letter F x6 σ) fun q12 => (if jin x3 32 = true then (lt (js σ 59 x3.toNatClampNeg q12) fun σ13 => (k19 x2 ((x3 + (1 : Int32))) x4 σ13)) else none))) else (k19 x2 x3 x4 σ))
set_option maxHeartbeats 4000000 in
set_option maxRecDepth 100000 in
theorem jn_X2_reckon_83_ok {G : jG} (C : jc cfX 70 G cX2_reckon RX2 7 none 2) (F : Nat) {v : jS} (k19 : Int32 → Int32 → Int32 → jS → Option jS) (hk19 : ∀ (x2 : Int32) (x3 : Int32) (x4 : Int32) (σ : jS), k19 x2 x3 x4 σ = some v → JX G 19 [(0, .ref (vad (gV G) 58)), (2, .int x2), (3, .int x3), (4, .int x4)] [] σ (0, v)) : ∀ (x2 : Int32) (x3 : Int32) (x4 : Int32) (x5 : Int32) (x6 : Int32) (σ : jS), jn_X2_reckon_83 F k19 x2 x3 x4 x5 x6 σ = some v → JX G 83 [(0, .ref (vad (gV G) 58)), (2, .int x2), (3, .int x3), (4, .int x4), (5, .int x5), (6, .int x6)] [] σ (0, v) := by
  intro x2 x3 x4 x5 x6 σ hm
  unfold jn_X2_reckon_83 at hm
  refine j_iloadn (pc := 83) C 2 dX2_reckon_83 rfl rfl ?_
  refine j_bipush (v := 32) (pc := 84) C dX2_reckon_84 (by decide) ?_
  refine j_icmp_ge (tgt := 254) (pc := 86) C dX2_reckon_86 (by decide) hm (fun _ hm => ?_) (fun _ hm => ?_)
  · refine j_aloadn (pc := 89) C 0 dX2_reckon_89 rfl rfl ?_
    refine gf_X2_11 (c := 58) (pc := 90) C kx_58 dX2_reckon_90 ?_
    refine j_iloadn (pc := 93) C 2 dX2_reckon_93 rfl rfl ?_
    refine j_iload (pc := 94) C 4 dX2_reckon_94 rfl ?_
    refine j_if_ne (tgt := 104) (pc := 96) C dX2_reckon_96 (by decide) hm (fun _ hm => ?_) (fun _ hm => ?_)
    · refine j_iload (pc := 99) C 5 dX2_reckon_99 rfl ?_
      refine j_goto (tgt := 110) (pc := 101) C dX2_reckon_101 (by decide) ?_
      refine j_guard hm (fun hg11 hm => ?_)
      refine j_iastL (c := 59) (n := 32) (pc := 110) C (kX_lt kx_59 (by decide)) (cx_a kx_59 lx_59) hg11 dX2_reckon_110 hm (fun σ10 hm => ?_)
      refine j_iinc (v := (x3 + (1 : Int32))) (ls' := [(3, .int (x3 + (1 : Int32))), (0, .ref (vad (gV G) 58)), (2, .int x2), (4, .int x4), (5, .int x5), (6, .int x6)]) (pc := 111) C 2 dX2_reckon_111 rfl rfl (by decide) rfl ?_
      refine j_goto (tgt := 254) (pc := 114) C dX2_reckon_114 (by decide) ?_
      refine j_goto (tgt := 19) (pc := 254) C dX2_reckon_254 (by decide) ?_
      refine j_ls [1, 2, 0, 3] rfl ?_
      exact hk19 _ _ _ _ hm
    · refine j_aloadn (pc := 104) C 0 dX2_reckon_104 rfl rfl ?_
      refine j_iload (pc := 105) C 5 dX2_reckon_105 rfl ?_
      obtain ⟨q12, hq12, hm⟩ := Option.bind_eq_some_iff.mp hm
      refine cl_X2_80 (c := 58) (pc := 107) C kx_58 (kX2_letter hq12) (by decide) (Nat.le_of_ble_eq_true rfl) dX2_reckon_107 ?_
      refine j_guard hm (fun hg14 hm => ?_)
      refine j_iastL (c := 59) (n := 32) (pc := 110) C (kX_lt kx_59 (by decide)) (cx_a kx_59 lx_59) hg14 dX2_reckon_110 hm (fun σ13 hm => ?_)
      refine j_iinc (v := (x3 + (1 : Int32))) (ls' := [(3, .int (x3 + (1 : Int32))), (0, .ref (vad (gV G) 58)), (2, .int x2), (4, .int x4), (5, .int x5), (6, .int x6)]) (pc := 111) C 2 dX2_reckon_111 rfl rfl (by decide) rfl ?_
      refine j_goto (tgt := 254) (pc := 114) C dX2_reckon_114 (by decide) ?_
      refine j_goto (tgt := 19) (pc := 254) C dX2_reckon_254 (by decide) ?_
      refine j_ls [1, 2, 0, 3] rfl ?_
      exact hk19 _ _ _ _ hm
  · refine j_goto (tgt := 19) (pc := 254) C dX2_reckon_254 (by decide) ?_
    refine j_ls [0, 1, 2, 3] rfl ?_
    exact hk19 _ _ _ _ hm

def jn_X2_reckon_154 (F : Nat) (k19 : Int32 → Int32 → Int32 → jS → Option jS) (x2 : Int32) (x3 : Int32) (x4 : Int32) (x5 : Int32) (x6 : Int32) (σ : jS) : Option jS := (if x5 = (3 : Int32) then (if (σ 58 8) = (1 : Int32) then (lt (imax x4 x6) fun y17 => (k19 x2 x3 y17 σ)) else (k19 x2 x3 x4 σ)) else (if (σ 58 8) = (0 : Int32) then (lt (imax x4 x6) fun y18 => (k19 x2 x3 y18 σ)) else (k19 x2 x3 x4 σ)))
set_option maxHeartbeats 4000000 in
set_option maxRecDepth 100000 in
theorem jn_X2_reckon_154_ok {G : jG} (C : jc cfX 70 G cX2_reckon RX2 7 none 2) (F : Nat) {v : jS} (k19 : Int32 → Int32 → Int32 → jS → Option jS) (hk19 : ∀ (x2 : Int32) (x3 : Int32) (x4 : Int32) (σ : jS), k19 x2 x3 x4 σ = some v → JX G 19 [(0, .ref (vad (gV G) 58)), (2, .int x2), (3, .int x3), (4, .int x4)] [] σ (0, v)) : ∀ (x2 : Int32) (x3 : Int32) (x4 : Int32) (x5 : Int32) (x6 : Int32) (σ : jS), jn_X2_reckon_154 F k19 x2 x3 x4 x5 x6 σ = some v → JX G 154 [(0, .ref (vad (gV G) 58)), (2, .int x2), (3, .int x3), (4, .int x4), (5, .int x5), (6, .int x6)] [] σ (0, v) := by
  intro x2 x3 x4 x5 x6 σ hm
  unfold jn_X2_reckon_154 at hm
  refine j_aloadn (pc := 154) C 0 dX2_reckon_154 rfl rfl ?_
  refine gf_X2_29 (c := 58) (pc := 155) C kx_58 dX2_reckon_155 ?_
  refine j_iload (pc := 158) C 4 dX2_reckon_158 rfl ?_
  refine j_iconst (v := 3) (pc := 160) C dX2_reckon_160 (by decide) ?_
  refine j_icmp_ne (tgt := 168) (pc := 161) C dX2_reckon_161 (by decide) hm (fun _ hm => ?_) (fun _ hm => ?_)
  · refine j_iconst (v := 1) (pc := 164) C dX2_reckon_164 (by decide) ?_
    refine j_goto (tgt := 169) (pc := 165) C dX2_reckon_165 (by decide) ?_
    refine j_icmp_ne (tgt := 254) (pc := 169) C dX2_reckon_169 (by decide) hm (fun _ hm => ?_) (fun _ hm => ?_)
    · refine j_iload (pc := 172) C 3 dX2_reckon_172 rfl ?_
      refine j_iload (pc := 174) C 5 dX2_reckon_174 rfl ?_
      refine j_mmaxD (pc := 176) C tw_3_218 tw_2_230 tw_1_14 tw_2_231 (by decide) (Nat.le_of_ble_eq_true rfl) dX2_reckon_176 ?_
      refine j_lti hm (fun y17 hm => ?_)
      refine j_istore (ls' := [(4, .int y17), (0, .ref (vad (gV G) 58)), (2, .int x2), (3, .int x3), (5, .int x5), (6, .int x6)]) (pc := 179) C dX2_reckon_179 (by decide) rfl ?_
      refine j_goto (tgt := 254) (pc := 181) C dX2_reckon_181 (by decide) ?_
      refine j_goto (tgt := 19) (pc := 254) C dX2_reckon_254 (by decide) ?_
      refine j_ls [1, 2, 3, 0] rfl ?_
      exact hk19 _ _ _ _ hm
    · refine j_goto (tgt := 19) (pc := 254) C dX2_reckon_254 (by decide) ?_
      refine j_ls [0, 1, 2, 3] rfl ?_
      exact hk19 _ _ _ _ hm
  · refine j_iconst (v := 0) (pc := 168) C dX2_reckon_168 (by decide) ?_
    refine j_icmp_ne (tgt := 254) (pc := 169) C dX2_reckon_169 (by decide) hm (fun _ hm => ?_) (fun _ hm => ?_)
    · refine j_iload (pc := 172) C 3 dX2_reckon_172 rfl ?_
      refine j_iload (pc := 174) C 5 dX2_reckon_174 rfl ?_
      refine j_mmaxD (pc := 176) C tw_3_218 tw_2_230 tw_1_14 tw_2_231 (by decide) (Nat.le_of_ble_eq_true rfl) dX2_reckon_176 ?_
      refine j_lti hm (fun y18 hm => ?_)
      refine j_istore (ls' := [(4, .int y18), (0, .ref (vad (gV G) 58)), (2, .int x2), (3, .int x3), (5, .int x5), (6, .int x6)]) (pc := 179) C dX2_reckon_179 (by decide) rfl ?_
      refine j_goto (tgt := 254) (pc := 181) C dX2_reckon_181 (by decide) ?_
      refine j_goto (tgt := 19) (pc := 254) C dX2_reckon_254 (by decide) ?_
      refine j_ls [1, 2, 3, 0] rfl ?_
      exact hk19 _ _ _ _ hm
    · refine j_goto (tgt := 19) (pc := 254) C dX2_reckon_254 (by decide) ?_
      refine j_ls [0, 1, 2, 3] rfl ?_
      exact hk19 _ _ _ _ hm

def lp_X2_reckon_19 (F : Nat) : Nat → Int32 → Int32 → Int32 → jS → Option jS
  | 0, _, _, _, _ => none
  | n + 1, x2, x3, x4, σ => (if x4 < x2 then (if x4 < (240 : Int32) then (if (σ 58 9) = 0 then (lt (σ 58 3).toNatClampNeg fun e4 => if kX e4 = 3 then (if jin x4 240 = true then (lt ((σ (e4 + 1) x4.toNatClampNeg) &&& (15 : Int32)) fun y6 => (lt (σ 58 3).toNatClampNeg fun e7 => if kX e7 = 3 then (if jin x4 240 = true then (lt ((σ (e7 + 1) x4.toNatClampNeg) >>> ((4 : Int32) &&& 31)) fun y9 => (if y6 = 0 then (jn_X2_reckon_83 F (lp_X2_reckon_19 F n) x2 x3 ((x4 + (1 : Int32))) y6 y9 σ) else (if y6 = (1 : Int32) then (jn_X2_reckon_83 F (lp_X2_reckon_19 F n) x2 x3 ((x4 + (1 : Int32))) y6 y9 σ) else (if y6 = (2 : Int32) then (if (σ 58 8) = 0 then (lt (js σ 58 8 (1 : Int32)) fun σ15 => (lp_X2_reckon_19 F n x2 x3 ((x4 + (1 : Int32))) σ15)) else (lt (js σ 58 8 (0 : Int32)) fun σ16 => (lp_X2_reckon_19 F n x2 x3 ((x4 + (1 : Int32))) σ16))) else (if y6 = (3 : Int32) then (jn_X2_reckon_154 F (lp_X2_reckon_19 F n) x2 x3 ((x4 + (1 : Int32))) y6 y9 σ) else (if y6 = (4 : Int32) then (jn_X2_reckon_154 F (lp_X2_reckon_19 F n) x2 x3 ((x4 + (1 : Int32))) y6 y9 σ) else (if x3 < (2 : Int32) then (lp_X2_reckon_19 F n x2 x3 ((x4 + (1 : Int32))) σ) else (if y6 < (10 : Int32) then (lt (x3 + (-2 : Int32)) fun y19 => (if jin y19 32 = true then (lt ((x3 + (-2 : Int32)) + (1 : Int32)) fun y21 => (if jin y21 32 = true then (Option.bind (mX2_reckoned F y6 ((σ 59 y19.toNatClampNeg)) ((σ 59 y21.toNatClampNeg)) σ) fun q23 => (if jin (x3 + (-2 : Int32)) 32 = true then (lt (js q23.2 59 (x3 + (-2 : Int32)).toNatClampNeg q23.1) fun σ24 => (lp_X2_reckon_19 F n x2 (((x3 + (-2 : Int32)) + (1 : Int32))) ((x4 + (1 : Int32))) σ24)) else none)) else none)) else none)) else (lt (x3 + (-2 : Int32)) fun y26 => (if jin y26 32 = true then (lt ((x3 + (-2 : Int32)) + (1 : Int32)) fun y28 => (if jin y28 32 = true then (Option.bind (mX2_compared F y6 ((σ 59 y26.toNatClampNeg)) ((σ 59 y28.toNatClampNeg)) σ) fun q30 => (if jbo q30 = true then (lt (js σ 58 8 q30) fun σ31 => (lp_X2_reckon_19 F n x2 ((x3 + (-2 : Int32))) ((x4 + (1 : Int32))) σ31)) else none)) else none)) else none)))))))))) else none) else none)) else none) else none) else some σ) else some σ) else some σ)
set_option maxHeartbeats 4000000 in
set_option maxRecDepth 100000 in
theorem lp_X2_reckon_19_ok {G : jG} (C : jc cfX 70 G cX2_reckon RX2 7 none 2) (F : Nat) {v : jS} : ∀ (n : Nat) (x2 : Int32) (x3 : Int32) (x4 : Int32) (σ : jS), lp_X2_reckon_19 F n x2 x3 x4 σ = some v → JX G 19 [(0, .ref (vad (gV G) 58)), (2, .int x2), (3, .int x3), (4, .int x4)] [] σ (0, v) := by
  intro n
  induction n with
  | zero =>
    intro x2 x3 x4 σ hm
    rw [lp_X2_reckon_19] at hm
    cases hm
  | succ n ih =>
    intro x2 x3 x4 σ hm
    rw [lp_X2_reckon_19] at hm
    refine j_iload (pc := 19) C 3 dX2_reckon_19 rfl ?_
    refine j_iloadn (pc := 21) C 1 dX2_reckon_21 rfl rfl ?_
    refine j_icmp_ge (tgt := 257) (pc := 22) C dX2_reckon_22 (by decide) hm (fun _ hm => ?_) (fun _ hm => ?_)
    · refine j_iload (pc := 25) C 3 dX2_reckon_25 rfl ?_
      refine j_sipush (v := 240) (pc := 27) C dX2_reckon_27 (by decide) ?_
      refine j_icmp_ge (tgt := 257) (pc := 30) C dX2_reckon_30 (by decide) hm (fun _ hm => ?_) (fun _ hm => ?_)
      · refine j_aloadn (pc := 33) C 0 dX2_reckon_33 rfl rfl ?_
        refine gf_X2_32 (c := 58) (pc := 34) C kx_58 dX2_reckon_34 ?_
        refine j_if_ne (tgt := 257) (pc := 37) C dX2_reckon_37 (by decide) hm (fun _ hm => ?_) (fun _ hm => ?_)
        · refine j_aloadn (pc := 40) C 0 dX2_reckon_40 rfl rfl ?_
          refine gf_X2_43 (c := 58) (pc := 41) C kx_58 dX2_reckon_41 ?_
          refine j_ltn hm (fun e4 hm => ?_)
          refine j_guardN hm (fun he4 hm => ?_)
          refine gf_X2_77 (c := e4) (pc := 44) C he4 dX2_reckon_44 ?_
          refine j_iload (pc := 47) C 3 dX2_reckon_47 rfl ?_
          refine j_guard hm (fun hg5 hm => ?_)
          refine j_iald (c := (e4 + 1)) (n := 240) (pc := 49) C (kX_lt (of_3_1 he4) (by decide)) (cx_a (of_3_1 he4) (ol_3_1 he4) _) hg5 dX2_reckon_49 ?_
          refine j_bipush (v := 15) (pc := 50) C dX2_reckon_50 (by decide) ?_
          refine j_iand (pc := 52) C dX2_reckon_52 ?_
          refine j_lti hm (fun y6 hm => ?_)
          refine j_istore (ls' := [(5, .int y6), (0, .ref (vad (gV G) 58)), (2, .int x2), (3, .int x3), (4, .int x4)]) (pc := 53) C dX2_reckon_53 (by decide) rfl ?_
          refine j_aloadn (pc := 55) C 1 dX2_reckon_55 rfl rfl ?_
          refine gf_X2_43 (c := 58) (pc := 56) C kx_58 dX2_reckon_56 ?_
          refine j_ltn hm (fun e7 hm => ?_)
          refine j_guardN hm (fun he7 hm => ?_)
          refine gf_X2_77 (c := e7) (pc := 59) C he7 dX2_reckon_59 ?_
          refine j_iload (pc := 62) C 4 dX2_reckon_62 rfl ?_
          refine j_guard hm (fun hg8 hm => ?_)
          refine j_iald (c := (e7 + 1)) (n := 240) (pc := 64) C (kX_lt (of_3_1 he7) (by decide)) (cx_a (of_3_1 he7) (ol_3_1 he7) _) hg8 dX2_reckon_64 ?_
          refine j_iconst (v := 4) (pc := 65) C dX2_reckon_65 (by decide) ?_
          refine j_ishr (pc := 66) C dX2_reckon_66 ?_
          refine j_lti hm (fun y9 hm => ?_)
          refine j_istore (ls' := [(6, .int y9), (5, .int y6), (0, .ref (vad (gV G) 58)), (2, .int x2), (3, .int x3), (4, .int x4)]) (pc := 67) C dX2_reckon_67 (by decide) rfl ?_
          refine j_iinc (v := (x4 + (1 : Int32))) (ls' := [(4, .int (x4 + (1 : Int32))), (6, .int y9), (5, .int y6), (0, .ref (vad (gV G) 58)), (2, .int x2), (3, .int x3)]) (pc := 69) C 5 dX2_reckon_69 rfl rfl (by decide) rfl ?_
          refine j_iload (pc := 72) C 2 dX2_reckon_72 rfl ?_
          refine j_if_eq (tgt := 83) (pc := 74) C dX2_reckon_74 (by decide) hm (fun _ hm => ?_) (fun _ hm => ?_)
          · refine j_ls [3, 4, 5, 0, 2, 1] rfl ?_
            exact jn_X2_reckon_83_ok C F _ (fun _ _ _ _ hm => ih _ _ _ _ hm) _ _ _ _ _ _ hm
          · refine j_iload (pc := 77) C 2 dX2_reckon_77 rfl ?_
            refine j_iconst (v := 1) (pc := 79) C dX2_reckon_79 (by decide) ?_
            refine j_icmp_ne (tgt := 117) (pc := 80) C dX2_reckon_80 (by decide) hm (fun _ hm => ?_) (fun _ hm => ?_)
            · refine j_ls [3, 4, 5, 0, 2, 1] rfl ?_
              exact jn_X2_reckon_83_ok C F _ (fun _ _ _ _ hm => ih _ _ _ _ hm) _ _ _ _ _ _ hm
            · refine j_iload (pc := 117) C 2 dX2_reckon_117 rfl ?_
              refine j_iconst (v := 2) (pc := 119) C dX2_reckon_119 (by decide) ?_
              refine j_icmp_ne (tgt := 142) (pc := 120) C dX2_reckon_120 (by decide) hm (fun _ hm => ?_) (fun _ hm => ?_)
              · refine j_aloadn (pc := 123) C 3 dX2_reckon_123 rfl rfl ?_
                refine j_aloadn (pc := 124) C 3 dX2_reckon_124 rfl rfl ?_
                refine gf_X2_29 (c := 58) (pc := 125) C kx_58 dX2_reckon_125 ?_
                refine j_if_ne (tgt := 135) (pc := 128) C dX2_reckon_128 (by decide) hm (fun _ hm => ?_) (fun _ hm => ?_)
                · refine j_iconst (v := 1) (pc := 131) C dX2_reckon_131 (by decide) ?_
                  refine j_goto (tgt := 136) (pc := 132) C dX2_reckon_132 (by decide) ?_
                  refine pf_X2_29 (c := 58) (pc := 136) C kx_58 rfl dX2_reckon_136 hm (fun σ15 hm => ?_)
                  refine j_goto (tgt := 254) (pc := 139) C dX2_reckon_139 (by decide) ?_
                  refine j_goto (tgt := 19) (pc := 254) C dX2_reckon_254 (by decide) ?_
                  refine j_ls [3, 4, 5, 0] rfl ?_
                  exact ih _ _ _ _ hm
                · refine j_iconst (v := 0) (pc := 135) C dX2_reckon_135 (by decide) ?_
                  refine pf_X2_29 (c := 58) (pc := 136) C kx_58 rfl dX2_reckon_136 hm (fun σ16 hm => ?_)
                  refine j_goto (tgt := 254) (pc := 139) C dX2_reckon_139 (by decide) ?_
                  refine j_goto (tgt := 19) (pc := 254) C dX2_reckon_254 (by decide) ?_
                  refine j_ls [3, 4, 5, 0] rfl ?_
                  exact ih _ _ _ _ hm
              · refine j_iload (pc := 142) C 2 dX2_reckon_142 rfl ?_
                refine j_iconst (v := 3) (pc := 144) C dX2_reckon_144 (by decide) ?_
                refine j_icmp_eq (tgt := 154) (pc := 145) C dX2_reckon_145 (by decide) hm (fun _ hm => ?_) (fun _ hm => ?_)
                · refine j_ls [3, 4, 5, 0, 2, 1] rfl ?_
                  exact jn_X2_reckon_154_ok C F _ (fun _ _ _ _ hm => ih _ _ _ _ hm) _ _ _ _ _ _ hm
                · refine j_iload (pc := 148) C 2 dX2_reckon_148 rfl ?_
                  refine j_iconst (v := 4) (pc := 150) C dX2_reckon_150 (by decide) ?_
                  refine j_icmp_ne (tgt := 184) (pc := 151) C dX2_reckon_151 (by decide) hm (fun _ hm => ?_) (fun _ hm => ?_)
                  · refine j_ls [3, 4, 5, 0, 2, 1] rfl ?_
                    exact jn_X2_reckon_154_ok C F _ (fun _ _ _ _ hm => ih _ _ _ _ hm) _ _ _ _ _ _ hm
                  · refine j_iloadn (pc := 184) C 5 dX2_reckon_184 rfl rfl ?_
                    refine j_iconst (v := 2) (pc := 185) C dX2_reckon_185 (by decide) ?_
                    refine j_icmp_lt (tgt := 254) (pc := 186) C dX2_reckon_186 (by decide) hm (fun _ hm => ?_) (fun _ hm => ?_)
                    · refine j_goto (tgt := 19) (pc := 254) C dX2_reckon_254 (by decide) ?_
                      refine j_ls [3, 4, 5, 0] rfl ?_
                      exact ih _ _ _ _ hm
                    · refine j_iinc (v := (x3 + (-2 : Int32))) (ls' := [(3, .int (x3 + (-2 : Int32))), (4, .int (x4 + (1 : Int32))), (6, .int y9), (5, .int y6), (0, .ref (vad (gV G) 58)), (2, .int x2)]) (pc := 189) C 5 dX2_reckon_189 rfl rfl (by decide) rfl ?_
                      refine j_iload (pc := 192) C 3 dX2_reckon_192 rfl ?_
                      refine j_bipush (v := 10) (pc := 194) C dX2_reckon_194 (by decide) ?_
                      refine j_icmp_lt (tgt := 225) (pc := 196) C dX2_reckon_196 (by decide) hm (fun _ hm => ?_) (fun _ hm => ?_)
                      · refine j_aloadn (pc := 225) C 4 dX2_reckon_225 rfl rfl ?_
                        refine gf_X2_11 (c := 58) (pc := 226) C kx_58 dX2_reckon_226 ?_
                        refine j_iloadn (pc := 229) C 0 dX2_reckon_229 rfl rfl ?_
                        refine j_aloadn (pc := 230) C 4 dX2_reckon_230 rfl rfl ?_
                        refine j_iload (pc := 231) C 3 dX2_reckon_231 rfl ?_
                        refine j_aloadn (pc := 233) C 4 dX2_reckon_233 rfl rfl ?_
                        refine gf_X2_11 (c := 58) (pc := 234) C kx_58 dX2_reckon_234 ?_
                        refine j_iloadn (pc := 237) C 0 dX2_reckon_237 rfl rfl ?_
                        refine j_lti hm (fun y19 hm => ?_)
                        refine j_guard hm (fun hg20 hm => ?_)
                        refine j_iald (c := 59) (n := 32) (pc := 238) C (kX_lt kx_59 (by decide)) (cx_a kx_59 lx_59 _) hg20 dX2_reckon_238 ?_
                        refine j_aloadn (pc := 239) C 4 dX2_reckon_239 rfl rfl ?_
                        refine gf_X2_11 (c := 58) (pc := 240) C kx_58 dX2_reckon_240 ?_
                        refine j_iloadn (pc := 243) C 0 dX2_reckon_243 rfl rfl ?_
                        refine j_iconst (v := 1) (pc := 244) C dX2_reckon_244 (by decide) ?_
                        refine j_iadd (pc := 245) C dX2_reckon_245 ?_
                        refine j_lti hm (fun y21 hm => ?_)
                        refine j_guard hm (fun hg22 hm => ?_)
                        refine j_iald (c := 59) (n := 32) (pc := 246) C (kX_lt kx_59 (by decide)) (cx_a kx_59 lx_59 _) hg22 dX2_reckon_246 ?_
                        obtain ⟨q23, hq23, hm⟩ := Option.bind_eq_some_iff.mp hm
                        refine cl_X2_88 (c := 58) (pc := 247) C kx_58 (kX2_reckoned hq23) (by decide) (Nat.le_of_ble_eq_true rfl) dX2_reckon_247 ?_
                        refine j_guard hm (fun hg25 hm => ?_)
                        refine j_iastL (c := 59) (n := 32) (pc := 250) C (kX_lt kx_59 (by decide)) (cx_a kx_59 lx_59) hg25 dX2_reckon_250 hm (fun σ24 hm => ?_)
                        refine j_iinc (v := ((x3 + (-2 : Int32)) + (1 : Int32))) (ls' := [(3, .int ((x3 + (-2 : Int32)) + (1 : Int32))), (4, .int (x4 + (1 : Int32))), (6, .int y9), (5, .int y6), (0, .ref (vad (gV G) 58)), (2, .int x2)]) (pc := 251) C 0 dX2_reckon_251 rfl rfl (by decide) rfl ?_
                        refine j_goto (tgt := 19) (pc := 254) C dX2_reckon_254 (by decide) ?_
                        refine j_ls [4, 5, 0, 1] rfl ?_
                        exact ih _ _ _ _ hm
                      · refine j_aloadn (pc := 199) C 4 dX2_reckon_199 rfl rfl ?_
                        refine j_iload (pc := 200) C 3 dX2_reckon_200 rfl ?_
                        refine j_aloadn (pc := 202) C 4 dX2_reckon_202 rfl rfl ?_
                        refine gf_X2_11 (c := 58) (pc := 203) C kx_58 dX2_reckon_203 ?_
                        refine j_iloadn (pc := 206) C 0 dX2_reckon_206 rfl rfl ?_
                        refine j_lti hm (fun y26 hm => ?_)
                        refine j_guard hm (fun hg27 hm => ?_)
                        refine j_iald (c := 59) (n := 32) (pc := 207) C (kX_lt kx_59 (by decide)) (cx_a kx_59 lx_59 _) hg27 dX2_reckon_207 ?_
                        refine j_aloadn (pc := 208) C 4 dX2_reckon_208 rfl rfl ?_
                        refine gf_X2_11 (c := 58) (pc := 209) C kx_58 dX2_reckon_209 ?_
                        refine j_iloadn (pc := 212) C 0 dX2_reckon_212 rfl rfl ?_
                        refine j_iconst (v := 1) (pc := 213) C dX2_reckon_213 (by decide) ?_
                        refine j_iadd (pc := 214) C dX2_reckon_214 ?_
                        refine j_lti hm (fun y28 hm => ?_)
                        refine j_guard hm (fun hg29 hm => ?_)
                        refine j_iald (c := 59) (n := 32) (pc := 215) C (kX_lt kx_59 (by decide)) (cx_a kx_59 lx_59 _) hg29 dX2_reckon_215 ?_
                        obtain ⟨q30, hq30, hm⟩ := Option.bind_eq_some_iff.mp hm
                        refine cl_X2_84 (pc := 216) C (kX2_compared hq30) (by decide) (Nat.le_of_ble_eq_true rfl) dX2_reckon_216 ?_
                        refine j_guard hm (fun hb32 hm => ?_)
                        refine pf_X2_29 (c := 58) (pc := 219) C kx_58 hb32 dX2_reckon_219 hm (fun σ31 hm => ?_)
                        refine j_goto (tgt := 254) (pc := 222) C dX2_reckon_222 (by decide) ?_
                        refine j_goto (tgt := 19) (pc := 254) C dX2_reckon_254 (by decide) ?_
                        refine j_ls [4, 5, 0, 1] rfl ?_
                        exact ih _ _ _ _ hm
        · exact j_vret (pc := 257) C rfl dX2_reckon_257 hm
      · exact j_vret (pc := 257) C rfl dX2_reckon_257 hm
    · exact j_vret (pc := 257) C rfl dX2_reckon_257 hm

def mX2_reckon (F : Nat) (x1 : Int32) (x2 : Int32) (σ : jS) : Option jS := (lt (js σ 58 8 (0 : Int32)) fun σ1 => (lt (js σ1 58 9 (0 : Int32)) fun σ2 => (lt (imax (0 : Int32) x1) fun y3 => (lp_X2_reckon_19 F F x2 (0 : Int32) y3 σ2))))
set_option maxHeartbeats 4000000 in
set_option maxRecDepth 100000 in
theorem kX2_reckon {V : jV} {F : Nat} {x1 : Int32} {x2 : Int32} {σ : jS} {v : jS} (hm : mX2_reckon F x1 x2 σ = some v) : Ct cfX 70 V yX2_reckon cX2_reckon 7 none 2 [.ref (vad V 58), .int x1, .int x2] σ (0, v) := by
  refine j_start (own := RX2) (by decide) rfl (Nat.le_of_ble_eq_true rfl) ?_
  intro G hV C
  subst hV
  unfold mX2_reckon at hm
  show JX G 0 [(0, .ref (vad (gV G) 58)), (1, .int x1), (2, .int x2)] [] σ (0, v)
  refine j_aloadn (pc := 0) C 0 dX2_reckon_0 rfl rfl ?_
  refine j_iconst (v := 0) (pc := 1) C dX2_reckon_1 (by decide) ?_
  refine pf_X2_29 (c := 58) (pc := 2) C kx_58 rfl dX2_reckon_2 hm (fun σ1 hm => ?_)
  refine j_aloadn (pc := 5) C 0 dX2_reckon_5 rfl rfl ?_
  refine j_iconst (v := 0) (pc := 6) C dX2_reckon_6 (by decide) ?_
  refine pf_X2_32 (c := 58) (pc := 7) C kx_58 rfl dX2_reckon_7 hm (fun σ2 hm => ?_)
  refine j_iconst (v := 0) (pc := 10) C dX2_reckon_10 (by decide) ?_
  refine j_istoren (ls' := [(3, .int (0 : Int32)), (0, .ref (vad (gV G) 58)), (1, .int x1), (2, .int x2)]) (pc := 11) C dX2_reckon_11 rfl (by decide) rfl ?_
  refine j_iconst (v := 0) (pc := 12) C dX2_reckon_12 (by decide) ?_
  refine j_iloadn (pc := 13) C 2 dX2_reckon_13 rfl rfl ?_
  refine j_mmaxD (pc := 14) C tw_3_218 tw_2_230 tw_1_14 tw_2_231 (by decide) (Nat.le_of_ble_eq_true rfl) dX2_reckon_14 ?_
  refine j_lti hm (fun y3 hm => ?_)
  refine j_istore (ls' := [(4, .int y3), (3, .int (0 : Int32)), (0, .ref (vad (gV G) 58)), (1, .int x1), (2, .int x2)]) (pc := 17) C dX2_reckon_17 (by decide) rfl ?_
  refine j_ls [2, 4, 1, 0] rfl ?_
  exact lp_X2_reckon_19_ok C F  F _ _ _ _ hm

def lp_X2_worth_3 (F : Nat) (k74 : Int32 → Int32 → Int32 → jS → Option (Int32 × jS)) : Nat → Int32 → Int32 → Int32 → Int32 → Int32 → jS → Option (Int32 × jS)
  | 0, _, _, _, _, _, _ => none
  | n + 1, x1, x2, x3, x4, x5, σ => (lt (σ 58 3).toNatClampNeg fun e1 => if kX e1 = 3 then (if x5 < (σ e1 6) then (if x5 < (16 : Int32) then (lt (σ 58 3).toNatClampNeg fun e2 => if kX e2 = 3 then (if jin x5 16 = true then (if (σ (e2 + 2) x5.toNatClampNeg) = x1 then (lt (σ 58 3).toNatClampNeg fun e4 => if kX e4 = 3 then (if jin x5 16 = true then (lt (σ 58 3).toNatClampNeg fun e6 => if kX e6 = 3 then (if jin x5 16 = true then (Option.bind (mX2_reckon F ((σ (e4 + 4) x5.toNatClampNeg)) ((σ (e6 + 5) x5.toNatClampNeg)) σ) fun q8 => (if (q8 58 8) = 0 then (lp_X2_worth_3 F k74 n x1 x2 x3 x4 ((x5 + (1 : Int32))) q8) else (if (q8 58 9) = 0 then (k74 x3 x4 x5 q8) else (lp_X2_worth_3 F k74 n x1 x2 x3 x4 ((x5 + (1 : Int32))) q8)))) else none) else none) else none) else none) else (lp_X2_worth_3 F k74 n x1 x2 x3 x4 ((x5 + (1 : Int32))) σ)) else none) else none) else some (x2, σ)) else some (x2, σ)) else none)
set_option maxHeartbeats 4000000 in
set_option maxRecDepth 100000 in
theorem lp_X2_worth_3_ok {G : jG} (C : jc cfX 70 G cX2_worth RX2 7 (some .int) 3) (F : Nat) {v : (Int32 × jS)} (k74 : Int32 → Int32 → Int32 → jS → Option (Int32 × jS)) (hk74 : ∀ (x3 : Int32) (x4 : Int32) (x5 : Int32) (σ : jS), k74 x3 x4 x5 σ = some v → JX G 74 [(0, .ref (vad (gV G) 58)), (3, .int x3), (4, .int x4), (5, .int x5)] [] σ v) : ∀ (n : Nat) (x1 : Int32) (x2 : Int32) (x3 : Int32) (x4 : Int32) (x5 : Int32) (σ : jS), lp_X2_worth_3 F k74 n x1 x2 x3 x4 x5 σ = some v → JX G 3 [(0, .ref (vad (gV G) 58)), (1, .int x1), (2, .int x2), (3, .int x3), (4, .int x4), (5, .int x5)] [] σ v := by
  intro n
  induction n with
  | zero =>
    intro x1 x2 x3 x4 x5 σ hm
    rw [lp_X2_worth_3] at hm
    cases hm
  | succ n ih =>
    intro x1 x2 x3 x4 x5 σ hm
    rw [lp_X2_worth_3] at hm
    refine j_iload (pc := 3) C 5 dX2_worth_3 rfl ?_
    refine j_aloadn (pc := 5) C 0 dX2_worth_5 rfl rfl ?_
    refine gf_X2_43 (c := 58) (pc := 6) C kx_58 dX2_worth_6 ?_
    refine j_ltn hm (fun e1 hm => ?_)
    refine j_guardN hm (fun he1 hm => ?_)
    refine gf_X2_47 (c := e1) (pc := 9) C he1 dX2_worth_9 ?_
    refine j_icmp_ge (tgt := 135) (pc := 12) C dX2_worth_12 (by decide) hm (fun _ hm => ?_) (fun _ hm => ?_)
    · refine j_iload (pc := 15) C 5 dX2_worth_15 rfl ?_
      refine j_bipush (v := 16) (pc := 17) C dX2_worth_17 (by decide) ?_
      refine j_icmp_ge (tgt := 135) (pc := 19) C dX2_worth_19 (by decide) hm (fun _ hm => ?_) (fun _ hm => ?_)
      · refine j_aloadn (pc := 22) C 0 dX2_worth_22 rfl rfl ?_
        refine gf_X2_43 (c := 58) (pc := 23) C kx_58 dX2_worth_23 ?_
        refine j_ltn hm (fun e2 hm => ?_)
        refine j_guardN hm (fun he2 hm => ?_)
        refine gf_X2_52 (c := e2) (pc := 26) C he2 dX2_worth_26 ?_
        refine j_iload (pc := 29) C 5 dX2_worth_29 rfl ?_
        refine j_guard hm (fun hg3 hm => ?_)
        refine j_iald (c := (e2 + 2)) (n := 16) (pc := 31) C (kX_lt (of_3_2 he2) (by decide)) (cx_a (of_3_2 he2) (ol_3_2 he2) _) hg3 dX2_worth_31 ?_
        refine j_iloadn (pc := 32) C 1 dX2_worth_32 rfl rfl ?_
        refine j_icmp_ne (tgt := 129) (pc := 33) C dX2_worth_33 (by decide) hm (fun _ hm => ?_) (fun _ hm => ?_)
        · refine j_aloadn (pc := 36) C 0 dX2_worth_36 rfl rfl ?_
          refine j_aloadn (pc := 37) C 0 dX2_worth_37 rfl rfl ?_
          refine gf_X2_43 (c := 58) (pc := 38) C kx_58 dX2_worth_38 ?_
          refine j_ltn hm (fun e4 hm => ?_)
          refine j_guardN hm (fun he4 hm => ?_)
          refine gf_X2_55 (c := e4) (pc := 41) C he4 dX2_worth_41 ?_
          refine j_iload (pc := 44) C 5 dX2_worth_44 rfl ?_
          refine j_guard hm (fun hg5 hm => ?_)
          refine j_iald (c := (e4 + 4)) (n := 16) (pc := 46) C (kX_lt (of_3_4 he4) (by decide)) (cx_a (of_3_4 he4) (ol_3_4 he4) _) hg5 dX2_worth_46 ?_
          refine j_aloadn (pc := 47) C 0 dX2_worth_47 rfl rfl ?_
          refine gf_X2_43 (c := 58) (pc := 48) C kx_58 dX2_worth_48 ?_
          refine j_ltn hm (fun e6 hm => ?_)
          refine j_guardN hm (fun he6 hm => ?_)
          refine gf_X2_58 (c := e6) (pc := 51) C he6 dX2_worth_51 ?_
          refine j_iload (pc := 54) C 5 dX2_worth_54 rfl ?_
          refine j_guard hm (fun hg7 hm => ?_)
          refine j_iald (c := (e6 + 5)) (n := 16) (pc := 56) C (kX_lt (of_3_5 he6) (by decide)) (cx_a (of_3_5 he6) (ol_3_5 he6) _) hg7 dX2_worth_56 ?_
          obtain ⟨q8, hq8, hm⟩ := Option.bind_eq_some_iff.mp hm
          refine cl_X2_61 (c := 58) (pc := 57) C kx_58 (kX2_reckon hq8) (by decide) (Nat.le_of_ble_eq_true rfl) dX2_worth_57 ?_
          refine j_aloadn (pc := 60) C 0 dX2_worth_60 rfl rfl ?_
          refine gf_X2_29 (c := 58) (pc := 61) C kx_58 dX2_worth_61 ?_
          refine j_if_eq (tgt := 129) (pc := 64) C dX2_worth_64 (by decide) hm (fun _ hm => ?_) (fun _ hm => ?_)
          · refine j_iinc (v := (x5 + (1 : Int32))) (ls' := [(5, .int (x5 + (1 : Int32))), (0, .ref (vad (gV G) 58)), (1, .int x1), (2, .int x2), (3, .int x3), (4, .int x4)]) (pc := 129) C 5 dX2_worth_129 rfl rfl (by decide) rfl ?_
            refine j_goto (tgt := 3) (pc := 132) C dX2_worth_132 (by decide) ?_
            refine j_ls [1, 2, 3, 4, 5, 0] rfl ?_
            exact ih _ _ _ _ _ _ hm
          · refine j_aloadn (pc := 67) C 0 dX2_worth_67 rfl rfl ?_
            refine gf_X2_32 (c := 58) (pc := 68) C kx_58 dX2_worth_68 ?_
            refine j_if_ne (tgt := 129) (pc := 71) C dX2_worth_71 (by decide) hm (fun _ hm => ?_) (fun _ hm => ?_)
            · refine j_ls [0, 3, 4, 5] rfl ?_
              exact hk74 _ _ _ _ hm
            · refine j_iinc (v := (x5 + (1 : Int32))) (ls' := [(5, .int (x5 + (1 : Int32))), (0, .ref (vad (gV G) 58)), (1, .int x1), (2, .int x2), (3, .int x3), (4, .int x4)]) (pc := 129) C 5 dX2_worth_129 rfl rfl (by decide) rfl ?_
              refine j_goto (tgt := 3) (pc := 132) C dX2_worth_132 (by decide) ?_
              refine j_ls [1, 2, 3, 4, 5, 0] rfl ?_
              exact ih _ _ _ _ _ _ hm
        · refine j_iinc (v := (x5 + (1 : Int32))) (ls' := [(5, .int (x5 + (1 : Int32))), (0, .ref (vad (gV G) 58)), (1, .int x1), (2, .int x2), (3, .int x3), (4, .int x4)]) (pc := 129) C 5 dX2_worth_129 rfl rfl (by decide) rfl ?_
          refine j_goto (tgt := 3) (pc := 132) C dX2_worth_132 (by decide) ?_
          refine j_ls [1, 2, 3, 4, 5, 0] rfl ?_
          exact ih _ _ _ _ _ _ hm
      · refine j_iloadn (pc := 135) C 2 dX2_worth_135 rfl rfl ?_
        exact j_iretS (pc := 136) C rfl dX2_worth_136 hm
    · refine j_iloadn (pc := 135) C 2 dX2_worth_135 rfl rfl ?_
      exact j_iretS (pc := 136) C rfl dX2_worth_136 hm

def mX2_worth (F : Nat) (x1 : Int32) (x2 : Int32) (x3 : Int32) (x4 : Int32) (σ : jS) : Option (Int32 × jS) := (lp_X2_worth_3 F (fun x3_9 x4_9 x5_9 σ9 => (lt (σ9 58 3).toNatClampNeg fun e10 => if kX e10 = 3 then (if jin x5_9 16 = true then (lt (σ9 58 3).toNatClampNeg fun e12 => if kX e12 = 3 then (if jin x5_9 16 = true then (Option.bind (mX2_reckon F ((σ9 (e10 + 3) x5_9.toNatClampNeg)) ((σ9 (e12 + 4) x5_9.toNatClampNeg)) σ9) fun q14 => (if (q14 58 9) = 0 then (lt (q14 59 0) fun y15 => some ((imax x3_9 (imin x4_9 y15)), q14)) else some ((imax x3_9 (imin x4_9 (0 : Int32))), q14))) else none) else none) else none) else none)) F x1 x2 x3 x4 (0 : Int32) σ)
set_option maxHeartbeats 4000000 in
set_option maxRecDepth 100000 in
theorem kX2_worth {V : jV} {F : Nat} {x1 : Int32} {x2 : Int32} {x3 : Int32} {x4 : Int32} {σ : jS} {v : (Int32 × jS)} (hm : mX2_worth F x1 x2 x3 x4 σ = some v) : Ct cfX 70 V yX2_worth cX2_worth 7 (some .int) 3 [.ref (vad V 58), .int x1, .int x2, .int x3, .int x4] σ v := by
  refine j_start (own := RX2) (by decide) rfl (Nat.le_of_ble_eq_true rfl) ?_
  intro G hV C
  subst hV
  unfold mX2_worth at hm
  show JX G 0 [(0, .ref (vad (gV G) 58)), (1, .int x1), (2, .int x2), (3, .int x3), (4, .int x4)] [] σ v
  refine j_iconst (v := 0) (pc := 0) C dX2_worth_0 (by decide) ?_
  refine j_istore (ls' := [(5, .int (0 : Int32)), (0, .ref (vad (gV G) 58)), (1, .int x1), (2, .int x2), (3, .int x3), (4, .int x4)]) (pc := 1) C dX2_worth_1 (by decide) rfl ?_
  refine j_ls [1, 2, 3, 4, 5, 0] rfl ?_
  refine lp_X2_worth_3_ok C F _ (fun x3_9 x4_9 x5_9 σ9 hm => ?_) F _ _ _ _ _ _ hm
  refine j_aloadn (pc := 74) C 0 dX2_worth_74 rfl rfl ?_
  refine j_aloadn (pc := 75) C 0 dX2_worth_75 rfl rfl ?_
  refine gf_X2_43 (c := 58) (pc := 76) C kx_58 dX2_worth_76 ?_
  refine j_ltn hm (fun e10 hm => ?_)
  refine j_guardN hm (fun he10 hm => ?_)
  refine gf_X2_65 (c := e10) (pc := 79) C he10 dX2_worth_79 ?_
  refine j_iload (pc := 82) C 3 dX2_worth_82 rfl ?_
  refine j_guard hm (fun hg11 hm => ?_)
  refine j_iald (c := (e10 + 3)) (n := 16) (pc := 84) C (kX_lt (of_3_3 he10) (by decide)) (cx_a (of_3_3 he10) (ol_3_3 he10) _) hg11 dX2_worth_84 ?_
  refine j_aloadn (pc := 85) C 0 dX2_worth_85 rfl rfl ?_
  refine gf_X2_43 (c := 58) (pc := 86) C kx_58 dX2_worth_86 ?_
  refine j_ltn hm (fun e12 hm => ?_)
  refine j_guardN hm (fun he12 hm => ?_)
  refine gf_X2_55 (c := e12) (pc := 89) C he12 dX2_worth_89 ?_
  refine j_iload (pc := 92) C 3 dX2_worth_92 rfl ?_
  refine j_guard hm (fun hg13 hm => ?_)
  refine j_iald (c := (e12 + 4)) (n := 16) (pc := 94) C (kX_lt (of_3_4 he12) (by decide)) (cx_a (of_3_4 he12) (ol_3_4 he12) _) hg13 dX2_worth_94 ?_
  obtain ⟨q14, hq14, hm⟩ := Option.bind_eq_some_iff.mp hm
  refine cl_X2_61 (c := 58) (pc := 95) C kx_58 (kX2_reckon hq14) (by decide) (Nat.le_of_ble_eq_true rfl) dX2_worth_95 ?_
  refine j_aloadn (pc := 98) C 0 dX2_worth_98 rfl rfl ?_
  refine gf_X2_32 (c := 58) (pc := 99) C kx_58 dX2_worth_99 ?_
  refine j_if_eq (tgt := 109) (pc := 102) C dX2_worth_102 (by decide) hm (fun _ hm => ?_) (fun _ hm => ?_)
  · refine j_aloadn (pc := 109) C 0 dX2_worth_109 rfl rfl ?_
    refine gf_X2_11 (c := 58) (pc := 110) C kx_58 dX2_worth_110 ?_
    refine j_iconst (v := 0) (pc := 113) C dX2_worth_113 (by decide) ?_
    refine j_ialdK (c := 59) (n := 32) (k := 0) (pc := 114) C (kX_lt kx_59 (by decide)) (cx_a kx_59 lx_59 _) rfl (by decide) dX2_worth_114 ?_
    refine j_lti hm (fun y15 hm => ?_)
    refine j_istore (ls' := [(6, .int y15), (0, .ref (vad (gV G) 58)), (3, .int x3_9), (4, .int x4_9), (5, .int x5_9)]) (pc := 115) C dX2_worth_115 (by decide) rfl ?_
    refine j_iloadn (pc := 117) C 2 dX2_worth_117 rfl rfl ?_
    refine j_iload (pc := 118) C 3 dX2_worth_118 rfl ?_
    refine j_iload (pc := 120) C 0 dX2_worth_120 rfl ?_
    refine j_mminD (pc := 122) C tw_3_223 tw_2_162 tw_1_14 tw_2_163 (by decide) (Nat.le_of_ble_eq_true rfl) dX2_worth_122 ?_
    refine j_mmaxD (pc := 125) C tw_3_218 tw_2_230 tw_1_14 tw_2_231 (by decide) (Nat.le_of_ble_eq_true rfl) dX2_worth_125 ?_
    exact j_iretS (pc := 128) C rfl dX2_worth_128 hm
  · refine j_iconst (v := 0) (pc := 105) C dX2_worth_105 (by decide) ?_
    refine j_goto (tgt := 115) (pc := 106) C dX2_worth_106 (by decide) ?_
    refine j_istore (ls' := [(6, .int (0 : Int32)), (0, .ref (vad (gV G) 58)), (3, .int x3_9), (4, .int x4_9), (5, .int x5_9)]) (pc := 115) C dX2_worth_115 (by decide) rfl ?_
    refine j_iloadn (pc := 117) C 2 dX2_worth_117 rfl rfl ?_
    refine j_iload (pc := 118) C 3 dX2_worth_118 rfl ?_
    refine j_iload (pc := 120) C 0 dX2_worth_120 rfl ?_
    refine j_mminD (pc := 122) C tw_3_223 tw_2_162 tw_1_14 tw_2_163 (by decide) (Nat.le_of_ble_eq_true rfl) dX2_worth_122 ?_
    refine j_mmaxD (pc := 125) C tw_3_218 tw_2_230 tw_1_14 tw_2_231 (by decide) (Nat.le_of_ble_eq_true rfl) dX2_worth_125 ?_
    exact j_iretS (pc := 128) C rfl dX2_worth_128 hm

