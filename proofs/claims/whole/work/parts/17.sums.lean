theorem dX9_netAt_0 : decode cX9_netAt 0 = .ok (.aload_n 0, 1) := by decide +kernel
theorem dX9_netAt_1 : decode cX9_netAt 1 = .ok (.getfield 18, 3) := by decide +kernel
theorem dX9_netAt_4 : decode cX9_netAt 4 = .ok (.iload_n 1, 1) := by decide +kernel
theorem dX9_netAt_5 : decode cX9_netAt 5 = .ok (.invokevirtual 22, 3) := by decide +kernel
theorem dX9_netAt_8 : decode cX9_netAt 8 = .ok (.ldc 28, 2) := by decide +kernel
theorem dX9_netAt_10 : decode cX9_netAt 10 = .ok (.isub, 1) := by decide +kernel
theorem dX9_netAt_11 : decode cX9_netAt 11 = .ok (.ireturn, 1) := by decide +kernel
theorem dX9_paidInAll_0 : decode cX9_paidInAll 0 = .ok (.iconst 0, 1) := by decide +kernel
theorem dX9_paidInAll_1 : decode cX9_paidInAll 1 = .ok (.istore_n 2, 1) := by decide +kernel
theorem dX9_paidInAll_2 : decode cX9_paidInAll 2 = .ok (.iconst 0, 1) := by decide +kernel
theorem dX9_paidInAll_3 : decode cX9_paidInAll 3 = .ok (.istore_n 3, 1) := by decide +kernel
theorem dX9_paidInAll_4 : decode cX9_paidInAll 4 = .ok (.iconst 0, 1) := by decide +kernel
theorem dX9_paidInAll_5 : decode cX9_paidInAll 5 = .ok (.istore 4, 2) := by decide +kernel
theorem dX9_paidInAll_7 : decode cX9_paidInAll 7 = .ok (.iload 4, 2) := by decide +kernel
theorem dX9_paidInAll_9 : decode cX9_paidInAll 9 = .ok (.iload_n 1, 1) := by decide +kernel
theorem dX9_paidInAll_10 : decode cX9_paidInAll 10 = .ok (.if_icmp .ge 31, 3) := by decide +kernel
theorem dX9_paidInAll_13 : decode cX9_paidInAll 13 = .ok (.iload_n 2, 1) := by decide +kernel
theorem dX9_paidInAll_14 : decode cX9_paidInAll 14 = .ok (.aload_n 0, 1) := by decide +kernel
theorem dX9_paidInAll_15 : decode cX9_paidInAll 15 = .ok (.iload 4, 2) := by decide +kernel
theorem dX9_paidInAll_17 : decode cX9_paidInAll 17 = .ok (.invokevirtual 29, 3) := by decide +kernel
theorem dX9_paidInAll_20 : decode cX9_paidInAll 20 = .ok (.iadd, 1) := by decide +kernel
theorem dX9_paidInAll_21 : decode cX9_paidInAll 21 = .ok (.istore_n 2, 1) := by decide +kernel
theorem dX9_paidInAll_22 : decode cX9_paidInAll 22 = .ok (.iload_n 3, 1) := by decide +kernel
theorem dX9_paidInAll_23 : decode cX9_paidInAll 23 = .ok (.iconst 0, 1) := by decide +kernel
theorem dX9_paidInAll_24 : decode cX9_paidInAll 24 = .ok (.aload_n 0, 1) := by decide +kernel
theorem dX9_paidInAll_25 : decode cX9_paidInAll 25 = .ok (.iload 4, 2) := by decide +kernel
theorem dX9_paidInAll_27 : decode cX9_paidInAll 27 = .ok (.invokevirtual 29, 3) := by decide +kernel
theorem dX9_paidInAll_30 : decode cX9_paidInAll 30 = .ok (.invokestatic 32, 3) := by decide +kernel
theorem dX9_paidInAll_33 : decode cX9_paidInAll 33 = .ok (.iadd, 1) := by decide +kernel
theorem dX9_paidInAll_34 : decode cX9_paidInAll 34 = .ok (.istore_n 3, 1) := by decide +kernel
theorem dX9_paidInAll_35 : decode cX9_paidInAll 35 = .ok (.iinc 4 1, 3) := by decide +kernel
theorem dX9_paidInAll_38 : decode cX9_paidInAll 38 = .ok (.goto (-31), 3) := by decide +kernel
theorem dX9_paidInAll_41 : decode cX9_paidInAll 41 = .ok (.iload_n 2, 1) := by decide +kernel
theorem dX9_paidInAll_42 : decode cX9_paidInAll 42 = .ok (.ifCond .ne 7, 3) := by decide +kernel
theorem dX9_paidInAll_45 : decode cX9_paidInAll 45 = .ok (.iload_n 3, 1) := by decide +kernel
theorem dX9_paidInAll_46 : decode cX9_paidInAll 46 = .ok (.goto 5, 3) := by decide +kernel
theorem dX9_paidInAll_49 : decode cX9_paidInAll 49 = .ok (.bipush (-2), 2) := by decide +kernel
theorem dX9_paidInAll_51 : decode cX9_paidInAll 51 = .ok (.ireturn, 1) := by decide +kernel
theorem dX9_payments_0 : decode cX9_payments 0 = .ok (.iload_n 1, 1) := by decide +kernel
theorem dX9_payments_1 : decode cX9_payments 1 = .ok (.ifCond .lt 19, 3) := by decide +kernel
theorem dX9_payments_4 : decode cX9_payments 4 = .ok (.iload_n 1, 1) := by decide +kernel
theorem dX9_payments_5 : decode cX9_payments 5 = .ok (.bipush 8, 2) := by decide +kernel
theorem dX9_payments_7 : decode cX9_payments 7 = .ok (.if_icmp .gt 13, 3) := by decide +kernel
theorem dX9_payments_10 : decode cX9_payments 10 = .ok (.aload_n 0, 1) := by decide +kernel
theorem dX9_payments_11 : decode cX9_payments 11 = .ok (.iload_n 1, 1) := by decide +kernel
theorem dX9_payments_12 : decode cX9_payments 12 = .ok (.invokevirtual 38, 3) := by decide +kernel
theorem dX9_payments_15 : decode cX9_payments 15 = .ok (.bipush (-2), 2) := by decide +kernel
theorem dX9_payments_17 : decode cX9_payments 17 = .ok (.if_icmp .ne 6, 3) := by decide +kernel
theorem dX9_payments_20 : decode cX9_payments 20 = .ok (.bipush (-2), 2) := by decide +kernel
theorem dX9_payments_22 : decode cX9_payments 22 = .ok (.ireturn, 1) := by decide +kernel
theorem dX9_payments_23 : decode cX9_payments 23 = .ok (.iconst 1, 1) := by decide +kernel
theorem dX9_payments_24 : decode cX9_payments 24 = .ok (.iload_n 1, 1) := by decide +kernel
theorem dX9_payments_25 : decode cX9_payments 25 = .ok (.ishl, 1) := by decide +kernel
theorem dX9_payments_26 : decode cX9_payments 26 = .ok (.iconst 1, 1) := by decide +kernel
theorem dX9_payments_27 : decode cX9_payments 27 = .ok (.isub, 1) := by decide +kernel
theorem dX9_payments_28 : decode cX9_payments 28 = .ok (.istore_n 2, 1) := by decide +kernel
theorem dX9_payments_29 : decode cX9_payments 29 = .ok (.aload_n 0, 1) := by decide +kernel
theorem dX9_payments_30 : decode cX9_payments 30 = .ok (.getfield 11, 3) := by decide +kernel
theorem dX9_payments_33 : decode cX9_payments 33 = .ok (.iconst 0, 1) := by decide +kernel
theorem dX9_payments_34 : decode cX9_payments 34 = .ok (.iconst 0, 1) := by decide +kernel
theorem dX9_payments_35 : decode cX9_payments 35 = .ok (.iastore, 1) := by decide +kernel
theorem dX9_payments_36 : decode cX9_payments 36 = .ok (.aload_n 0, 1) := by decide +kernel
theorem dX9_payments_37 : decode cX9_payments 37 = .ok (.getfield 15, 3) := by decide +kernel
theorem dX9_payments_40 : decode cX9_payments 40 = .ok (.iconst 0, 1) := by decide +kernel
theorem dX9_payments_41 : decode cX9_payments 41 = .ok (.iconst 0, 1) := by decide +kernel
theorem dX9_payments_42 : decode cX9_payments 42 = .ok (.iastore, 1) := by decide +kernel
theorem dX9_payments_43 : decode cX9_payments 43 = .ok (.iconst 1, 1) := by decide +kernel
theorem dX9_payments_44 : decode cX9_payments 44 = .ok (.istore_n 3, 1) := by decide +kernel
theorem dX9_payments_45 : decode cX9_payments 45 = .ok (.iload_n 3, 1) := by decide +kernel
theorem dX9_payments_46 : decode cX9_payments 46 = .ok (.iload_n 2, 1) := by decide +kernel
theorem dX9_payments_47 : decode cX9_payments 47 = .ok (.if_icmp .gt 112, 3) := by decide +kernel
theorem dX9_payments_50 : decode cX9_payments 50 = .ok (.iload_n 3, 1) := by decide +kernel
theorem dX9_payments_51 : decode cX9_payments 51 = .ok (.sipush 256, 3) := by decide +kernel
theorem dX9_payments_54 : decode cX9_payments 54 = .ok (.if_icmp .ge 105, 3) := by decide +kernel
theorem dX9_payments_57 : decode cX9_payments 57 = .ok (.iconst 0, 1) := by decide +kernel
theorem dX9_payments_58 : decode cX9_payments 58 = .ok (.istore 4, 2) := by decide +kernel
theorem dX9_payments_60 : decode cX9_payments 60 = .ok (.iconst 0, 1) := by decide +kernel
theorem dX9_payments_61 : decode cX9_payments 61 = .ok (.istore 5, 2) := by decide +kernel
theorem dX9_payments_63 : decode cX9_payments 63 = .ok (.iconst 0, 1) := by decide +kernel
theorem dX9_payments_64 : decode cX9_payments 64 = .ok (.istore 6, 2) := by decide +kernel
theorem dX9_payments_66 : decode cX9_payments 66 = .ok (.iload 6, 2) := by decide +kernel
theorem dX9_payments_68 : decode cX9_payments 68 = .ok (.iload_n 1, 1) := by decide +kernel
theorem dX9_payments_69 : decode cX9_payments 69 = .ok (.if_icmp .ge 56, 3) := by decide +kernel
theorem dX9_payments_72 : decode cX9_payments 72 = .ok (.iload_n 3, 1) := by decide +kernel
theorem dX9_payments_73 : decode cX9_payments 73 = .ok (.iload 6, 2) := by decide +kernel
theorem dX9_payments_75 : decode cX9_payments 75 = .ok (.ishr, 1) := by decide +kernel
theorem dX9_payments_76 : decode cX9_payments 76 = .ok (.iconst 1, 1) := by decide +kernel
theorem dX9_payments_77 : decode cX9_payments 77 = .ok (.iand, 1) := by decide +kernel
theorem dX9_payments_78 : decode cX9_payments 78 = .ok (.ifCond .eq 41, 3) := by decide +kernel
theorem dX9_payments_81 : decode cX9_payments 81 = .ok (.iload_n 3, 1) := by decide +kernel
theorem dX9_payments_82 : decode cX9_payments 82 = .ok (.iconst 1, 1) := by decide +kernel
theorem dX9_payments_83 : decode cX9_payments 83 = .ok (.iload 6, 2) := by decide +kernel
theorem dX9_payments_85 : decode cX9_payments 85 = .ok (.ishl, 1) := by decide +kernel
theorem dX9_payments_86 : decode cX9_payments 86 = .ok (.ixor, 1) := by decide +kernel
theorem dX9_payments_87 : decode cX9_payments 87 = .ok (.istore 7, 2) := by decide +kernel
theorem dX9_payments_89 : decode cX9_payments 89 = .ok (.aload_n 0, 1) := by decide +kernel
theorem dX9_payments_90 : decode cX9_payments 90 = .ok (.getfield 11, 3) := by decide +kernel
theorem dX9_payments_93 : decode cX9_payments 93 = .ok (.iload 7, 2) := by decide +kernel
theorem dX9_payments_95 : decode cX9_payments 95 = .ok (.iaload, 1) := by decide +kernel
theorem dX9_payments_96 : decode cX9_payments 96 = .ok (.aload_n 0, 1) := by decide +kernel
theorem dX9_payments_97 : decode cX9_payments 97 = .ok (.iload 6, 2) := by decide +kernel
theorem dX9_payments_99 : decode cX9_payments 99 = .ok (.invokevirtual 29, 3) := by decide +kernel
theorem dX9_payments_102 : decode cX9_payments 102 = .ok (.iadd, 1) := by decide +kernel
theorem dX9_payments_103 : decode cX9_payments 103 = .ok (.istore 5, 2) := by decide +kernel
theorem dX9_payments_105 : decode cX9_payments 105 = .ok (.iload 4, 2) := by decide +kernel
theorem dX9_payments_107 : decode cX9_payments 107 = .ok (.aload_n 0, 1) := by decide +kernel
theorem dX9_payments_108 : decode cX9_payments 108 = .ok (.getfield 15, 3) := by decide +kernel
theorem dX9_payments_111 : decode cX9_payments 111 = .ok (.iload 7, 2) := by decide +kernel
theorem dX9_payments_113 : decode cX9_payments 113 = .ok (.iaload, 1) := by decide +kernel
theorem dX9_payments_114 : decode cX9_payments 114 = .ok (.invokestatic 32, 3) := by decide +kernel
theorem dX9_payments_117 : decode cX9_payments 117 = .ok (.istore 4, 2) := by decide +kernel
theorem dX9_payments_119 : decode cX9_payments 119 = .ok (.iinc 6 1, 3) := by decide +kernel
theorem dX9_payments_122 : decode cX9_payments 122 = .ok (.goto (-56), 3) := by decide +kernel
theorem dX9_payments_125 : decode cX9_payments 125 = .ok (.aload_n 0, 1) := by decide +kernel
theorem dX9_payments_126 : decode cX9_payments 126 = .ok (.getfield 11, 3) := by decide +kernel
theorem dX9_payments_129 : decode cX9_payments 129 = .ok (.iload_n 3, 1) := by decide +kernel
theorem dX9_payments_130 : decode cX9_payments 130 = .ok (.iload 5, 2) := by decide +kernel
theorem dX9_payments_132 : decode cX9_payments 132 = .ok (.iastore, 1) := by decide +kernel
theorem dX9_payments_133 : decode cX9_payments 133 = .ok (.aload_n 0, 1) := by decide +kernel
theorem dX9_payments_134 : decode cX9_payments 134 = .ok (.getfield 15, 3) := by decide +kernel
theorem dX9_payments_137 : decode cX9_payments 137 = .ok (.iload_n 3, 1) := by decide +kernel
theorem dX9_payments_138 : decode cX9_payments 138 = .ok (.iload 5, 2) := by decide +kernel
theorem dX9_payments_140 : decode cX9_payments 140 = .ok (.ifCond .ne 10, 3) := by decide +kernel
theorem dX9_payments_143 : decode cX9_payments 143 = .ok (.iload 4, 2) := by decide +kernel
theorem dX9_payments_145 : decode cX9_payments 145 = .ok (.iconst 1, 1) := by decide +kernel
theorem dX9_payments_146 : decode cX9_payments 146 = .ok (.iadd, 1) := by decide +kernel
theorem dX9_payments_147 : decode cX9_payments 147 = .ok (.goto 5, 3) := by decide +kernel
theorem dX9_payments_150 : decode cX9_payments 150 = .ok (.iload 4, 2) := by decide +kernel
theorem dX9_payments_152 : decode cX9_payments 152 = .ok (.iastore, 1) := by decide +kernel
theorem dX9_payments_153 : decode cX9_payments 153 = .ok (.iinc 3 1, 3) := by decide +kernel
theorem dX9_payments_156 : decode cX9_payments 156 = .ok (.goto (-111), 3) := by decide +kernel
theorem dX9_payments_159 : decode cX9_payments 159 = .ok (.iload_n 2, 1) := by decide +kernel
theorem dX9_payments_160 : decode cX9_payments 160 = .ok (.sipush 256, 3) := by decide +kernel
theorem dX9_payments_163 : decode cX9_payments 163 = .ok (.if_icmp .ge 14, 3) := by decide +kernel
theorem dX9_payments_166 : decode cX9_payments 166 = .ok (.iload_n 1, 1) := by decide +kernel
theorem dX9_payments_167 : decode cX9_payments 167 = .ok (.aload_n 0, 1) := by decide +kernel
theorem dX9_payments_168 : decode cX9_payments 168 = .ok (.getfield 15, 3) := by decide +kernel
theorem dX9_payments_171 : decode cX9_payments 171 = .ok (.iload_n 2, 1) := by decide +kernel
theorem dX9_payments_172 : decode cX9_payments 172 = .ok (.iaload, 1) := by decide +kernel
theorem dX9_payments_173 : decode cX9_payments 173 = .ok (.isub, 1) := by decide +kernel
theorem dX9_payments_174 : decode cX9_payments 174 = .ok (.goto 5, 3) := by decide +kernel
theorem dX9_payments_177 : decode cX9_payments 177 = .ok (.bipush (-2), 2) := by decide +kernel
theorem dX9_payments_179 : decode cX9_payments 179 = .ok (.ireturn, 1) := by decide +kernel
theorem dX9_bankRun_0 : decode cX9_bankRun 0 = .ok (.iconst 0, 1) := by decide +kernel
theorem dX9_bankRun_1 : decode cX9_bankRun 1 = .ok (.istore_n 3, 1) := by decide +kernel
theorem dX9_bankRun_2 : decode cX9_bankRun 2 = .ok (.iload_n 3, 1) := by decide +kernel
theorem dX9_bankRun_3 : decode cX9_bankRun 3 = .ok (.iload_n 1, 1) := by decide +kernel
theorem dX9_bankRun_4 : decode cX9_bankRun 4 = .ok (.if_icmp .ge 25, 3) := by decide +kernel
theorem dX9_bankRun_7 : decode cX9_bankRun 7 = .ok (.aload_n 0, 1) := by decide +kernel
theorem dX9_bankRun_8 : decode cX9_bankRun 8 = .ok (.getfield 18, 3) := by decide +kernel
theorem dX9_bankRun_11 : decode cX9_bankRun 11 = .ok (.iload_n 3, 1) := by decide +kernel
theorem dX9_bankRun_12 : decode cX9_bankRun 12 = .ok (.invokevirtual 41, 3) := by decide +kernel
theorem dX9_bankRun_15 : decode cX9_bankRun 15 = .ok (.bipush 16, 2) := by decide +kernel
theorem dX9_bankRun_17 : decode cX9_bankRun 17 = .ok (.if_icmp .le 6, 3) := by decide +kernel
theorem dX9_bankRun_20 : decode cX9_bankRun 20 = .ok (.bipush (-2), 2) := by decide +kernel
theorem dX9_bankRun_22 : decode cX9_bankRun 22 = .ok (.ireturn, 1) := by decide +kernel
theorem dX9_bankRun_23 : decode cX9_bankRun 23 = .ok (.iinc 3 1, 3) := by decide +kernel
theorem dX9_bankRun_26 : decode cX9_bankRun 26 = .ok (.goto (-24), 3) := by decide +kernel
theorem dX9_bankRun_29 : decode cX9_bankRun 29 = .ok (.iconst 0, 1) := by decide +kernel
theorem dX9_bankRun_30 : decode cX9_bankRun 30 = .ok (.istore_n 3, 1) := by decide +kernel
theorem dX9_bankRun_31 : decode cX9_bankRun 31 = .ok (.iconst 0, 1) := by decide +kernel
theorem dX9_bankRun_32 : decode cX9_bankRun 32 = .ok (.istore 4, 2) := by decide +kernel
theorem dX9_bankRun_34 : decode cX9_bankRun 34 = .ok (.iconst 0, 1) := by decide +kernel
theorem dX9_bankRun_35 : decode cX9_bankRun 35 = .ok (.istore 5, 2) := by decide +kernel
theorem dX9_bankRun_37 : decode cX9_bankRun 37 = .ok (.iload 5, 2) := by decide +kernel
theorem dX9_bankRun_39 : decode cX9_bankRun 39 = .ok (.iload_n 1, 1) := by decide +kernel
theorem dX9_bankRun_40 : decode cX9_bankRun 40 = .ok (.if_icmp .ge 62, 3) := by decide +kernel
theorem dX9_bankRun_43 : decode cX9_bankRun 43 = .ok (.iconst 0, 1) := by decide +kernel
theorem dX9_bankRun_44 : decode cX9_bankRun 44 = .ok (.istore 6, 2) := by decide +kernel
theorem dX9_bankRun_46 : decode cX9_bankRun 46 = .ok (.iconst 0, 1) := by decide +kernel
theorem dX9_bankRun_47 : decode cX9_bankRun 47 = .ok (.istore 7, 2) := by decide +kernel
theorem dX9_bankRun_49 : decode cX9_bankRun 49 = .ok (.iload 7, 2) := by decide +kernel
theorem dX9_bankRun_51 : decode cX9_bankRun 51 = .ok (.iload_n 1, 1) := by decide +kernel
theorem dX9_bankRun_52 : decode cX9_bankRun 52 = .ok (.if_icmp .ge 32, 3) := by decide +kernel
theorem dX9_bankRun_55 : decode cX9_bankRun 55 = .ok (.iload 6, 2) := by decide +kernel
theorem dX9_bankRun_57 : decode cX9_bankRun 57 = .ok (.aload_n 0, 1) := by decide +kernel
theorem dX9_bankRun_58 : decode cX9_bankRun 58 = .ok (.getfield 18, 3) := by decide +kernel
theorem dX9_bankRun_61 : decode cX9_bankRun 61 = .ok (.iload 7, 2) := by decide +kernel
theorem dX9_bankRun_63 : decode cX9_bankRun 63 = .ok (.invokevirtual 41, 3) := by decide +kernel
theorem dX9_bankRun_66 : decode cX9_bankRun 66 = .ok (.iload_n 3, 1) := by decide +kernel
theorem dX9_bankRun_67 : decode cX9_bankRun 67 = .ok (.if_icmp .gt 7, 3) := by decide +kernel
theorem dX9_bankRun_70 : decode cX9_bankRun 70 = .ok (.iconst 1, 1) := by decide +kernel
theorem dX9_bankRun_71 : decode cX9_bankRun 71 = .ok (.goto 4, 3) := by decide +kernel
theorem dX9_bankRun_74 : decode cX9_bankRun 74 = .ok (.iconst 0, 1) := by decide +kernel
theorem dX9_bankRun_75 : decode cX9_bankRun 75 = .ok (.iadd, 1) := by decide +kernel
theorem dX9_bankRun_76 : decode cX9_bankRun 76 = .ok (.istore 6, 2) := by decide +kernel
theorem dX9_bankRun_78 : decode cX9_bankRun 78 = .ok (.iinc 7 1, 3) := by decide +kernel
theorem dX9_bankRun_81 : decode cX9_bankRun 81 = .ok (.goto (-32), 3) := by decide +kernel
theorem dX9_bankRun_84 : decode cX9_bankRun 84 = .ok (.iload 6, 2) := by decide +kernel
theorem dX9_bankRun_86 : decode cX9_bankRun 86 = .ok (.iload_n 3, 1) := by decide +kernel
theorem dX9_bankRun_87 : decode cX9_bankRun 87 = .ok (.if_icmp .le 9, 3) := by decide +kernel
theorem dX9_bankRun_90 : decode cX9_bankRun 90 = .ok (.iload 6, 2) := by decide +kernel
theorem dX9_bankRun_92 : decode cX9_bankRun 92 = .ok (.istore_n 3, 1) := by decide +kernel
theorem dX9_bankRun_93 : decode cX9_bankRun 93 = .ok (.iinc 4 1, 3) := by decide +kernel
theorem dX9_bankRun_96 : decode cX9_bankRun 96 = .ok (.iinc 5 1, 3) := by decide +kernel
theorem dX9_bankRun_99 : decode cX9_bankRun 99 = .ok (.goto (-62), 3) := by decide +kernel
theorem dX9_bankRun_102 : decode cX9_bankRun 102 = .ok (.iload_n 2, 1) := by decide +kernel
theorem dX9_bankRun_103 : decode cX9_bankRun 103 = .ok (.ifCond .ne 7, 3) := by decide +kernel
theorem dX9_bankRun_106 : decode cX9_bankRun 106 = .ok (.iload_n 3, 1) := by decide +kernel
theorem dX9_bankRun_107 : decode cX9_bankRun 107 = .ok (.goto 5, 3) := by decide +kernel
theorem dX9_bankRun_110 : decode cX9_bankRun 110 = .ok (.iload 4, 2) := by decide +kernel
theorem dX9_bankRun_112 : decode cX9_bankRun 112 = .ok (.ireturn, 1) := by decide +kernel
theorem dX9_isLifeTable_0 : decode cX9_isLifeTable 0 = .ok (.aload_n 0, 1) := by decide +kernel
theorem dX9_isLifeTable_1 : decode cX9_isLifeTable 1 = .ok (.getfield 18, 3) := by decide +kernel
theorem dX9_isLifeTable_4 : decode cX9_isLifeTable 4 = .ok (.iconst 0, 1) := by decide +kernel
theorem dX9_isLifeTable_5 : decode cX9_isLifeTable 5 = .ok (.invokevirtual 41, 3) := by decide +kernel
theorem dX9_isLifeTable_8 : decode cX9_isLifeTable 8 = .ok (.ifCond .le 7, 3) := by decide +kernel
theorem dX9_isLifeTable_11 : decode cX9_isLifeTable 11 = .ok (.iconst 1, 1) := by decide +kernel
theorem dX9_isLifeTable_12 : decode cX9_isLifeTable 12 = .ok (.goto 4, 3) := by decide +kernel
theorem dX9_isLifeTable_15 : decode cX9_isLifeTable 15 = .ok (.iconst 0, 1) := by decide +kernel
theorem dX9_isLifeTable_16 : decode cX9_isLifeTable 16 = .ok (.istore_n 2, 1) := by decide +kernel
theorem dX9_isLifeTable_17 : decode cX9_isLifeTable 17 = .ok (.iconst 1, 1) := by decide +kernel
theorem dX9_isLifeTable_18 : decode cX9_isLifeTable 18 = .ok (.istore_n 3, 1) := by decide +kernel
theorem dX9_isLifeTable_19 : decode cX9_isLifeTable 19 = .ok (.iload_n 3, 1) := by decide +kernel
theorem dX9_isLifeTable_20 : decode cX9_isLifeTable 20 = .ok (.iload_n 1, 1) := by decide +kernel
theorem dX9_isLifeTable_21 : decode cX9_isLifeTable 21 = .ok (.if_icmp .ge 40, 3) := by decide +kernel
theorem dX9_isLifeTable_24 : decode cX9_isLifeTable 24 = .ok (.iload_n 2, 1) := by decide +kernel
theorem dX9_isLifeTable_25 : decode cX9_isLifeTable 25 = .ok (.ifCond .eq 28, 3) := by decide +kernel
theorem dX9_isLifeTable_28 : decode cX9_isLifeTable 28 = .ok (.aload_n 0, 1) := by decide +kernel
theorem dX9_isLifeTable_29 : decode cX9_isLifeTable 29 = .ok (.getfield 18, 3) := by decide +kernel
theorem dX9_isLifeTable_32 : decode cX9_isLifeTable 32 = .ok (.iload_n 3, 1) := by decide +kernel
theorem dX9_isLifeTable_33 : decode cX9_isLifeTable 33 = .ok (.invokevirtual 41, 3) := by decide +kernel
theorem dX9_isLifeTable_36 : decode cX9_isLifeTable 36 = .ok (.aload_n 0, 1) := by decide +kernel
theorem dX9_isLifeTable_37 : decode cX9_isLifeTable 37 = .ok (.getfield 18, 3) := by decide +kernel
theorem dX9_isLifeTable_40 : decode cX9_isLifeTable 40 = .ok (.iload_n 3, 1) := by decide +kernel
theorem dX9_isLifeTable_41 : decode cX9_isLifeTable 41 = .ok (.iconst 1, 1) := by decide +kernel
theorem dX9_isLifeTable_42 : decode cX9_isLifeTable 42 = .ok (.isub, 1) := by decide +kernel
theorem dX9_isLifeTable_43 : decode cX9_isLifeTable 43 = .ok (.invokevirtual 41, 3) := by decide +kernel
theorem dX9_isLifeTable_46 : decode cX9_isLifeTable 46 = .ok (.if_icmp .gt 7, 3) := by decide +kernel
theorem dX9_isLifeTable_49 : decode cX9_isLifeTable 49 = .ok (.iconst 1, 1) := by decide +kernel
theorem dX9_isLifeTable_50 : decode cX9_isLifeTable 50 = .ok (.goto 4, 3) := by decide +kernel
theorem dX9_isLifeTable_53 : decode cX9_isLifeTable 53 = .ok (.iconst 0, 1) := by decide +kernel
theorem dX9_isLifeTable_54 : decode cX9_isLifeTable 54 = .ok (.istore_n 2, 1) := by decide +kernel
theorem dX9_isLifeTable_55 : decode cX9_isLifeTable 55 = .ok (.iinc 3 1, 3) := by decide +kernel
theorem dX9_isLifeTable_58 : decode cX9_isLifeTable 58 = .ok (.goto (-39), 3) := by decide +kernel
theorem dX9_isLifeTable_61 : decode cX9_isLifeTable 61 = .ok (.iload_n 2, 1) := by decide +kernel
theorem dX9_isLifeTable_62 : decode cX9_isLifeTable 62 = .ok (.ireturn, 1) := by decide +kernel
theorem dX9_ageOfMostDeaths_0 : decode cX9_ageOfMostDeaths 0 = .ok (.iconst (-1), 1) := by decide +kernel
theorem dX9_ageOfMostDeaths_1 : decode cX9_ageOfMostDeaths 1 = .ok (.istore_n 2, 1) := by decide +kernel
theorem dX9_ageOfMostDeaths_2 : decode cX9_ageOfMostDeaths 2 = .ok (.iconst 0, 1) := by decide +kernel
theorem dX9_ageOfMostDeaths_3 : decode cX9_ageOfMostDeaths 3 = .ok (.istore_n 3, 1) := by decide +kernel
theorem dX9_ageOfMostDeaths_4 : decode cX9_ageOfMostDeaths 4 = .ok (.iconst 0, 1) := by decide +kernel
theorem dX9_ageOfMostDeaths_5 : decode cX9_ageOfMostDeaths 5 = .ok (.istore 4, 2) := by decide +kernel
theorem dX9_ageOfMostDeaths_7 : decode cX9_ageOfMostDeaths 7 = .ok (.iload 4, 2) := by decide +kernel
theorem dX9_ageOfMostDeaths_9 : decode cX9_ageOfMostDeaths 9 = .ok (.iload_n 1, 1) := by decide +kernel
theorem dX9_ageOfMostDeaths_10 : decode cX9_ageOfMostDeaths 10 = .ok (.if_icmp .ge 60, 3) := by decide +kernel
theorem dX9_ageOfMostDeaths_13 : decode cX9_ageOfMostDeaths 13 = .ok (.iload 4, 2) := by decide +kernel
theorem dX9_ageOfMostDeaths_15 : decode cX9_ageOfMostDeaths 15 = .ok (.iconst 1, 1) := by decide +kernel
theorem dX9_ageOfMostDeaths_16 : decode cX9_ageOfMostDeaths 16 = .ok (.iadd, 1) := by decide +kernel
theorem dX9_ageOfMostDeaths_17 : decode cX9_ageOfMostDeaths 17 = .ok (.iload_n 1, 1) := by decide +kernel
theorem dX9_ageOfMostDeaths_18 : decode cX9_ageOfMostDeaths 18 = .ok (.if_icmp .ge 17, 3) := by decide +kernel
theorem dX9_ageOfMostDeaths_21 : decode cX9_ageOfMostDeaths 21 = .ok (.aload_n 0, 1) := by decide +kernel
theorem dX9_ageOfMostDeaths_22 : decode cX9_ageOfMostDeaths 22 = .ok (.getfield 18, 3) := by decide +kernel
theorem dX9_ageOfMostDeaths_25 : decode cX9_ageOfMostDeaths 25 = .ok (.iload 4, 2) := by decide +kernel
theorem dX9_ageOfMostDeaths_27 : decode cX9_ageOfMostDeaths 27 = .ok (.iconst 1, 1) := by decide +kernel
theorem dX9_ageOfMostDeaths_28 : decode cX9_ageOfMostDeaths 28 = .ok (.iadd, 1) := by decide +kernel
theorem dX9_ageOfMostDeaths_29 : decode cX9_ageOfMostDeaths 29 = .ok (.invokevirtual 41, 3) := by decide +kernel
theorem dX9_ageOfMostDeaths_32 : decode cX9_ageOfMostDeaths 32 = .ok (.goto 4, 3) := by decide +kernel
theorem dX9_ageOfMostDeaths_35 : decode cX9_ageOfMostDeaths 35 = .ok (.iconst 0, 1) := by decide +kernel
theorem dX9_ageOfMostDeaths_36 : decode cX9_ageOfMostDeaths 36 = .ok (.istore 5, 2) := by decide +kernel
theorem dX9_ageOfMostDeaths_38 : decode cX9_ageOfMostDeaths 38 = .ok (.aload_n 0, 1) := by decide +kernel
theorem dX9_ageOfMostDeaths_39 : decode cX9_ageOfMostDeaths 39 = .ok (.getfield 18, 3) := by decide +kernel
theorem dX9_ageOfMostDeaths_42 : decode cX9_ageOfMostDeaths 42 = .ok (.iload 4, 2) := by decide +kernel
theorem dX9_ageOfMostDeaths_44 : decode cX9_ageOfMostDeaths 44 = .ok (.invokevirtual 41, 3) := by decide +kernel
theorem dX9_ageOfMostDeaths_47 : decode cX9_ageOfMostDeaths 47 = .ok (.iload 5, 2) := by decide +kernel
theorem dX9_ageOfMostDeaths_49 : decode cX9_ageOfMostDeaths 49 = .ok (.isub, 1) := by decide +kernel
theorem dX9_ageOfMostDeaths_50 : decode cX9_ageOfMostDeaths 50 = .ok (.istore 6, 2) := by decide +kernel
theorem dX9_ageOfMostDeaths_52 : decode cX9_ageOfMostDeaths 52 = .ok (.iload 6, 2) := by decide +kernel
theorem dX9_ageOfMostDeaths_54 : decode cX9_ageOfMostDeaths 54 = .ok (.iload_n 2, 1) := by decide +kernel
theorem dX9_ageOfMostDeaths_55 : decode cX9_ageOfMostDeaths 55 = .ok (.if_icmp .le 9, 3) := by decide +kernel
theorem dX9_ageOfMostDeaths_58 : decode cX9_ageOfMostDeaths 58 = .ok (.iload 6, 2) := by decide +kernel
theorem dX9_ageOfMostDeaths_60 : decode cX9_ageOfMostDeaths 60 = .ok (.istore_n 2, 1) := by decide +kernel
theorem dX9_ageOfMostDeaths_61 : decode cX9_ageOfMostDeaths 61 = .ok (.iload 4, 2) := by decide +kernel
theorem dX9_ageOfMostDeaths_63 : decode cX9_ageOfMostDeaths 63 = .ok (.istore_n 3, 1) := by decide +kernel
theorem dX9_ageOfMostDeaths_64 : decode cX9_ageOfMostDeaths 64 = .ok (.iinc 4 1, 3) := by decide +kernel
theorem dX9_ageOfMostDeaths_67 : decode cX9_ageOfMostDeaths 67 = .ok (.goto (-60), 3) := by decide +kernel
theorem dX9_ageOfMostDeaths_70 : decode cX9_ageOfMostDeaths 70 = .ok (.iload_n 3, 1) := by decide +kernel
theorem dX9_ageOfMostDeaths_71 : decode cX9_ageOfMostDeaths 71 = .ok (.ireturn, 1) := by decide +kernel
theorem dX9_commonDivisor_0 : decode cX9_commonDivisor 0 = .ok (.iload_n 0, 1) := by decide +kernel
theorem dX9_commonDivisor_1 : decode cX9_commonDivisor 1 = .ok (.istore_n 2, 1) := by decide +kernel
theorem dX9_commonDivisor_2 : decode cX9_commonDivisor 2 = .ok (.iload_n 1, 1) := by decide +kernel
theorem dX9_commonDivisor_3 : decode cX9_commonDivisor 3 = .ok (.istore_n 3, 1) := by decide +kernel
theorem dX9_commonDivisor_4 : decode cX9_commonDivisor 4 = .ok (.iconst 0, 1) := by decide +kernel
theorem dX9_commonDivisor_5 : decode cX9_commonDivisor 5 = .ok (.istore 4, 2) := by decide +kernel
theorem dX9_commonDivisor_7 : decode cX9_commonDivisor 7 = .ok (.iload 4, 2) := by decide +kernel
theorem dX9_commonDivisor_9 : decode cX9_commonDivisor 9 = .ok (.bipush 64, 2) := by decide +kernel
theorem dX9_commonDivisor_11 : decode cX9_commonDivisor 11 = .ok (.if_icmp .ge 23, 3) := by decide +kernel
theorem dX9_commonDivisor_14 : decode cX9_commonDivisor 14 = .ok (.iload_n 3, 1) := by decide +kernel
theorem dX9_commonDivisor_15 : decode cX9_commonDivisor 15 = .ok (.ifCond .eq 19, 3) := by decide +kernel
theorem dX9_commonDivisor_18 : decode cX9_commonDivisor 18 = .ok (.iload_n 2, 1) := by decide +kernel
theorem dX9_commonDivisor_19 : decode cX9_commonDivisor 19 = .ok (.iload_n 3, 1) := by decide +kernel
theorem dX9_commonDivisor_20 : decode cX9_commonDivisor 20 = .ok (.irem, 1) := by decide +kernel
theorem dX9_commonDivisor_21 : decode cX9_commonDivisor 21 = .ok (.istore 5, 2) := by decide +kernel
theorem dX9_commonDivisor_23 : decode cX9_commonDivisor 23 = .ok (.iload_n 3, 1) := by decide +kernel
theorem dX9_commonDivisor_24 : decode cX9_commonDivisor 24 = .ok (.istore_n 2, 1) := by decide +kernel
theorem dX9_commonDivisor_25 : decode cX9_commonDivisor 25 = .ok (.iload 5, 2) := by decide +kernel
theorem dX9_commonDivisor_27 : decode cX9_commonDivisor 27 = .ok (.istore_n 3, 1) := by decide +kernel
theorem dX9_commonDivisor_28 : decode cX9_commonDivisor 28 = .ok (.iinc 4 1, 3) := by decide +kernel
theorem dX9_commonDivisor_31 : decode cX9_commonDivisor 31 = .ok (.goto (-24), 3) := by decide +kernel
theorem dX9_commonDivisor_34 : decode cX9_commonDivisor 34 = .ok (.iload_n 2, 1) := by decide +kernel
theorem dX9_commonDivisor_35 : decode cX9_commonDivisor 35 = .ok (.ireturn, 1) := by decide +kernel
theorem dX9_expected_0 : decode cX9_expected 0 = .ok (.aload_n 0, 1) := by decide +kernel
theorem dX9_expected_1 : decode cX9_expected 1 = .ok (.getfield 18, 3) := by decide +kernel
theorem dX9_expected_4 : decode cX9_expected 4 = .ok (.iload_n 2, 1) := by decide +kernel
theorem dX9_expected_5 : decode cX9_expected 5 = .ok (.invokevirtual 41, 3) := by decide +kernel
theorem dX9_expected_8 : decode cX9_expected 8 = .ok (.istore 4, 2) := by decide +kernel
theorem dX9_expected_10 : decode cX9_expected 10 = .ok (.iload 4, 2) := by decide +kernel
theorem dX9_expected_12 : decode cX9_expected 12 = .ok (.ifCond .ne 6, 3) := by decide +kernel
theorem dX9_expected_15 : decode cX9_expected 15 = .ok (.bipush (-2), 2) := by decide +kernel
theorem dX9_expected_17 : decode cX9_expected 17 = .ok (.ireturn, 1) := by decide +kernel
theorem dX9_expected_18 : decode cX9_expected 18 = .ok (.iconst 0, 1) := by decide +kernel
theorem dX9_expected_19 : decode cX9_expected 19 = .ok (.istore 5, 2) := by decide +kernel
theorem dX9_expected_21 : decode cX9_expected 21 = .ok (.iload_n 2, 1) := by decide +kernel
theorem dX9_expected_22 : decode cX9_expected 22 = .ok (.iconst 1, 1) := by decide +kernel
theorem dX9_expected_23 : decode cX9_expected 23 = .ok (.iadd, 1) := by decide +kernel
theorem dX9_expected_24 : decode cX9_expected 24 = .ok (.istore 6, 2) := by decide +kernel
theorem dX9_expected_26 : decode cX9_expected 26 = .ok (.iload 6, 2) := by decide +kernel
theorem dX9_expected_28 : decode cX9_expected 28 = .ok (.iload_n 1, 1) := by decide +kernel
theorem dX9_expected_29 : decode cX9_expected 29 = .ok (.if_icmp .ge 23, 3) := by decide +kernel
theorem dX9_expected_32 : decode cX9_expected 32 = .ok (.iload 5, 2) := by decide +kernel
theorem dX9_expected_34 : decode cX9_expected 34 = .ok (.aload_n 0, 1) := by decide +kernel
theorem dX9_expected_35 : decode cX9_expected 35 = .ok (.getfield 18, 3) := by decide +kernel
theorem dX9_expected_38 : decode cX9_expected 38 = .ok (.iload 6, 2) := by decide +kernel
theorem dX9_expected_40 : decode cX9_expected 40 = .ok (.invokevirtual 41, 3) := by decide +kernel
theorem dX9_expected_43 : decode cX9_expected 43 = .ok (.iadd, 1) := by decide +kernel
theorem dX9_expected_44 : decode cX9_expected 44 = .ok (.istore 5, 2) := by decide +kernel
theorem dX9_expected_46 : decode cX9_expected 46 = .ok (.iinc 6 1, 3) := by decide +kernel
theorem dX9_expected_49 : decode cX9_expected 49 = .ok (.goto (-23), 3) := by decide +kernel
theorem dX9_expected_52 : decode cX9_expected 52 = .ok (.iload 5, 2) := by decide +kernel
theorem dX9_expected_54 : decode cX9_expected 54 = .ok (.iload 4, 2) := by decide +kernel
theorem dX9_expected_56 : decode cX9_expected 56 = .ok (.invokestatic 44, 3) := by decide +kernel
theorem dX9_expected_59 : decode cX9_expected 59 = .ok (.istore 6, 2) := by decide +kernel
theorem dX9_expected_61 : decode cX9_expected 61 = .ok (.iload 6, 2) := by decide +kernel
theorem dX9_expected_63 : decode cX9_expected 63 = .ok (.ifCond .ne 6, 3) := by decide +kernel
theorem dX9_expected_66 : decode cX9_expected 66 = .ok (.bipush (-2), 2) := by decide +kernel
theorem dX9_expected_68 : decode cX9_expected 68 = .ok (.ireturn, 1) := by decide +kernel
theorem dX9_expected_69 : decode cX9_expected 69 = .ok (.iload_n 3, 1) := by decide +kernel
theorem dX9_expected_70 : decode cX9_expected 70 = .ok (.ifCond .eq 11, 3) := by decide +kernel
theorem dX9_expected_73 : decode cX9_expected 73 = .ok (.iload 5, 2) := by decide +kernel
theorem dX9_expected_75 : decode cX9_expected 75 = .ok (.iload 6, 2) := by decide +kernel
theorem dX9_expected_77 : decode cX9_expected 77 = .ok (.idiv, 1) := by decide +kernel
theorem dX9_expected_78 : decode cX9_expected 78 = .ok (.goto 8, 3) := by decide +kernel
theorem dX9_expected_81 : decode cX9_expected 81 = .ok (.iload 4, 2) := by decide +kernel
theorem dX9_expected_83 : decode cX9_expected 83 = .ok (.iload 6, 2) := by decide +kernel
theorem dX9_expected_85 : decode cX9_expected 85 = .ok (.idiv, 1) := by decide +kernel
theorem dX9_expected_86 : decode cX9_expected 86 = .ok (.ireturn, 1) := by decide +kernel
theorem dX9_firstTogether_0 : decode cX9_firstTogether 0 = .ok (.aload_n 0, 1) := by decide +kernel
theorem dX9_firstTogether_1 : decode cX9_firstTogether 1 = .ok (.getfield 18, 3) := by decide +kernel
theorem dX9_firstTogether_4 : decode cX9_firstTogether 4 = .ok (.iconst 0, 1) := by decide +kernel
theorem dX9_firstTogether_5 : decode cX9_firstTogether 5 = .ok (.invokevirtual 41, 3) := by decide +kernel
theorem dX9_firstTogether_8 : decode cX9_firstTogether 8 = .ok (.istore_n 1, 1) := by decide +kernel
theorem dX9_firstTogether_9 : decode cX9_firstTogether 9 = .ok (.aload_n 0, 1) := by decide +kernel
theorem dX9_firstTogether_10 : decode cX9_firstTogether 10 = .ok (.getfield 18, 3) := by decide +kernel
theorem dX9_firstTogether_13 : decode cX9_firstTogether 13 = .ok (.iconst 1, 1) := by decide +kernel
theorem dX9_firstTogether_14 : decode cX9_firstTogether 14 = .ok (.invokevirtual 41, 3) := by decide +kernel
theorem dX9_firstTogether_17 : decode cX9_firstTogether 17 = .ok (.istore_n 2, 1) := by decide +kernel
theorem dX9_firstTogether_18 : decode cX9_firstTogether 18 = .ok (.aload_n 0, 1) := by decide +kernel
theorem dX9_firstTogether_19 : decode cX9_firstTogether 19 = .ok (.getfield 18, 3) := by decide +kernel
theorem dX9_firstTogether_22 : decode cX9_firstTogether 22 = .ok (.iconst 2, 1) := by decide +kernel
theorem dX9_firstTogether_23 : decode cX9_firstTogether 23 = .ok (.invokevirtual 41, 3) := by decide +kernel
theorem dX9_firstTogether_26 : decode cX9_firstTogether 26 = .ok (.istore_n 3, 1) := by decide +kernel
theorem dX9_firstTogether_27 : decode cX9_firstTogether 27 = .ok (.aload_n 0, 1) := by decide +kernel
theorem dX9_firstTogether_28 : decode cX9_firstTogether 28 = .ok (.getfield 18, 3) := by decide +kernel
theorem dX9_firstTogether_31 : decode cX9_firstTogether 31 = .ok (.iconst 3, 1) := by decide +kernel
theorem dX9_firstTogether_32 : decode cX9_firstTogether 32 = .ok (.invokevirtual 41, 3) := by decide +kernel
theorem dX9_firstTogether_35 : decode cX9_firstTogether 35 = .ok (.istore 4, 2) := by decide +kernel
theorem dX9_firstTogether_37 : decode cX9_firstTogether 37 = .ok (.iload 4, 2) := by decide +kernel
theorem dX9_firstTogether_39 : decode cX9_firstTogether 39 = .ok (.ifCond .ne 6, 3) := by decide +kernel
theorem dX9_firstTogether_42 : decode cX9_firstTogether 42 = .ok (.bipush (-2), 2) := by decide +kernel
theorem dX9_firstTogether_44 : decode cX9_firstTogether 44 = .ok (.ireturn, 1) := by decide +kernel
theorem dX9_firstTogether_45 : decode cX9_firstTogether 45 = .ok (.iconst 0, 1) := by decide +kernel
theorem dX9_firstTogether_46 : decode cX9_firstTogether 46 = .ok (.istore 5, 2) := by decide +kernel
theorem dX9_firstTogether_48 : decode cX9_firstTogether 48 = .ok (.iload 5, 2) := by decide +kernel
theorem dX9_firstTogether_50 : decode cX9_firstTogether 50 = .ok (.sipush 512, 3) := by decide +kernel
theorem dX9_firstTogether_53 : decode cX9_firstTogether 53 = .ok (.if_icmp .ge 29, 3) := by decide +kernel
theorem dX9_firstTogether_56 : decode cX9_firstTogether 56 = .ok (.iload_n 1, 1) := by decide +kernel
theorem dX9_firstTogether_57 : decode cX9_firstTogether 57 = .ok (.iload_n 3, 1) := by decide +kernel
theorem dX9_firstTogether_58 : decode cX9_firstTogether 58 = .ok (.if_icmp .lt 14, 3) := by decide +kernel
theorem dX9_firstTogether_61 : decode cX9_firstTogether 61 = .ok (.iload_n 1, 1) := by decide +kernel
theorem dX9_firstTogether_62 : decode cX9_firstTogether 62 = .ok (.iload_n 3, 1) := by decide +kernel
theorem dX9_firstTogether_63 : decode cX9_firstTogether 63 = .ok (.isub, 1) := by decide +kernel
theorem dX9_firstTogether_64 : decode cX9_firstTogether 64 = .ok (.iload 4, 2) := by decide +kernel
theorem dX9_firstTogether_66 : decode cX9_firstTogether 66 = .ok (.irem, 1) := by decide +kernel
theorem dX9_firstTogether_67 : decode cX9_firstTogether 67 = .ok (.ifCond .ne 5, 3) := by decide +kernel
theorem dX9_firstTogether_70 : decode cX9_firstTogether 70 = .ok (.iload_n 1, 1) := by decide +kernel
theorem dX9_firstTogether_71 : decode cX9_firstTogether 71 = .ok (.ireturn, 1) := by decide +kernel
theorem dX9_firstTogether_72 : decode cX9_firstTogether 72 = .ok (.iload_n 1, 1) := by decide +kernel
theorem dX9_firstTogether_73 : decode cX9_firstTogether 73 = .ok (.iload_n 2, 1) := by decide +kernel
theorem dX9_firstTogether_74 : decode cX9_firstTogether 74 = .ok (.iadd, 1) := by decide +kernel
theorem dX9_firstTogether_75 : decode cX9_firstTogether 75 = .ok (.istore_n 1, 1) := by decide +kernel
theorem dX9_firstTogether_76 : decode cX9_firstTogether 76 = .ok (.iinc 5 1, 3) := by decide +kernel
theorem dX9_firstTogether_79 : decode cX9_firstTogether 79 = .ok (.goto (-31), 3) := by decide +kernel
theorem dX9_firstTogether_82 : decode cX9_firstTogether 82 = .ok (.bipush (-2), 2) := by decide +kernel
theorem dX9_firstTogether_84 : decode cX9_firstTogether 84 = .ok (.ireturn, 1) := by decide +kernel
theorem dX9_timesTogether_0 : decode cX9_timesTogether 0 = .ok (.aload_n 0, 1) := by decide +kernel
theorem dX9_timesTogether_1 : decode cX9_timesTogether 1 = .ok (.getfield 18, 3) := by decide +kernel
theorem dX9_timesTogether_4 : decode cX9_timesTogether 4 = .ok (.iconst 1, 1) := by decide +kernel
theorem dX9_timesTogether_5 : decode cX9_timesTogether 5 = .ok (.invokevirtual 41, 3) := by decide +kernel
theorem dX9_timesTogether_8 : decode cX9_timesTogether 8 = .ok (.aload_n 0, 1) := by decide +kernel
theorem dX9_timesTogether_9 : decode cX9_timesTogether 9 = .ok (.getfield 18, 3) := by decide +kernel
theorem dX9_timesTogether_12 : decode cX9_timesTogether 12 = .ok (.iconst 3, 1) := by decide +kernel
theorem dX9_timesTogether_13 : decode cX9_timesTogether 13 = .ok (.invokevirtual 41, 3) := by decide +kernel
theorem dX9_timesTogether_16 : decode cX9_timesTogether 16 = .ok (.invokestatic 44, 3) := by decide +kernel
theorem dX9_timesTogether_19 : decode cX9_timesTogether 19 = .ok (.istore_n 3, 1) := by decide +kernel
theorem dX9_timesTogether_20 : decode cX9_timesTogether 20 = .ok (.iload_n 1, 1) := by decide +kernel
theorem dX9_timesTogether_21 : decode cX9_timesTogether 21 = .ok (.ifCond .lt 12, 3) := by decide +kernel
theorem dX9_timesTogether_24 : decode cX9_timesTogether 24 = .ok (.iload_n 1, 1) := by decide +kernel
theorem dX9_timesTogether_25 : decode cX9_timesTogether 25 = .ok (.iload_n 2, 1) := by decide +kernel
theorem dX9_timesTogether_26 : decode cX9_timesTogether 26 = .ok (.if_icmp .gt 7, 3) := by decide +kernel
theorem dX9_timesTogether_29 : decode cX9_timesTogether 29 = .ok (.iload_n 3, 1) := by decide +kernel
theorem dX9_timesTogether_30 : decode cX9_timesTogether 30 = .ok (.ifCond .ne 5, 3) := by decide +kernel
theorem dX9_timesTogether_33 : decode cX9_timesTogether 33 = .ok (.iconst 0, 1) := by decide +kernel
theorem dX9_timesTogether_34 : decode cX9_timesTogether 34 = .ok (.ireturn, 1) := by decide +kernel
theorem dX9_timesTogether_35 : decode cX9_timesTogether 35 = .ok (.aload_n 0, 1) := by decide +kernel
theorem dX9_timesTogether_36 : decode cX9_timesTogether 36 = .ok (.getfield 18, 3) := by decide +kernel
theorem dX9_timesTogether_39 : decode cX9_timesTogether 39 = .ok (.iconst 1, 1) := by decide +kernel
theorem dX9_timesTogether_40 : decode cX9_timesTogether 40 = .ok (.invokevirtual 41, 3) := by decide +kernel
theorem dX9_timesTogether_43 : decode cX9_timesTogether 43 = .ok (.iload_n 3, 1) := by decide +kernel
theorem dX9_timesTogether_44 : decode cX9_timesTogether 44 = .ok (.idiv, 1) := by decide +kernel
theorem dX9_timesTogether_45 : decode cX9_timesTogether 45 = .ok (.aload_n 0, 1) := by decide +kernel
theorem dX9_timesTogether_46 : decode cX9_timesTogether 46 = .ok (.getfield 18, 3) := by decide +kernel
theorem dX9_timesTogether_49 : decode cX9_timesTogether 49 = .ok (.iconst 3, 1) := by decide +kernel
theorem dX9_timesTogether_50 : decode cX9_timesTogether 50 = .ok (.invokevirtual 41, 3) := by decide +kernel
theorem dX9_timesTogether_53 : decode cX9_timesTogether 53 = .ok (.imul, 1) := by decide +kernel
theorem dX9_timesTogether_54 : decode cX9_timesTogether 54 = .ok (.istore 4, 2) := by decide +kernel
theorem dX9_timesTogether_56 : decode cX9_timesTogether 56 = .ok (.iload 4, 2) := by decide +kernel
theorem dX9_timesTogether_58 : decode cX9_timesTogether 58 = .ok (.ifCond .ne 7, 3) := by decide +kernel
theorem dX9_timesTogether_61 : decode cX9_timesTogether 61 = .ok (.iconst 0, 1) := by decide +kernel
theorem dX9_timesTogether_62 : decode cX9_timesTogether 62 = .ok (.goto 11, 3) := by decide +kernel
theorem dX9_timesTogether_65 : decode cX9_timesTogether 65 = .ok (.iload_n 2, 1) := by decide +kernel
theorem dX9_timesTogether_66 : decode cX9_timesTogether 66 = .ok (.iload_n 1, 1) := by decide +kernel
theorem dX9_timesTogether_67 : decode cX9_timesTogether 67 = .ok (.isub, 1) := by decide +kernel
theorem dX9_timesTogether_68 : decode cX9_timesTogether 68 = .ok (.iload 4, 2) := by decide +kernel
theorem dX9_timesTogether_70 : decode cX9_timesTogether 70 = .ok (.idiv, 1) := by decide +kernel
theorem dX9_timesTogether_71 : decode cX9_timesTogether 71 = .ok (.iconst 1, 1) := by decide +kernel
theorem dX9_timesTogether_72 : decode cX9_timesTogether 72 = .ok (.iadd, 1) := by decide +kernel
theorem dX9_timesTogether_73 : decode cX9_timesTogether 73 = .ok (.ireturn, 1) := by decide +kernel
theorem dX9_pulseOf_0 : decode cX9_pulseOf 0 = .ok (.iconst 0, 1) := by decide +kernel
theorem dX9_pulseOf_1 : decode cX9_pulseOf 1 = .ok (.istore_n 3, 1) := by decide +kernel
theorem dX9_pulseOf_2 : decode cX9_pulseOf 2 = .ok (.iconst 1, 1) := by decide +kernel
theorem dX9_pulseOf_3 : decode cX9_pulseOf 3 = .ok (.istore 4, 2) := by decide +kernel
theorem dX9_pulseOf_5 : decode cX9_pulseOf 5 = .ok (.iload 4, 2) := by decide +kernel
theorem dX9_pulseOf_7 : decode cX9_pulseOf 7 = .ok (.iload_n 1, 1) := by decide +kernel
theorem dX9_pulseOf_8 : decode cX9_pulseOf 8 = .ok (.if_icmp .ge 47, 3) := by decide +kernel
theorem dX9_pulseOf_11 : decode cX9_pulseOf 11 = .ok (.aload_n 0, 1) := by decide +kernel
theorem dX9_pulseOf_12 : decode cX9_pulseOf 12 = .ok (.getfield 18, 3) := by decide +kernel
theorem dX9_pulseOf_15 : decode cX9_pulseOf 15 = .ok (.iload 4, 2) := by decide +kernel
theorem dX9_pulseOf_17 : decode cX9_pulseOf 17 = .ok (.invokevirtual 22, 3) := by decide +kernel
theorem dX9_pulseOf_20 : decode cX9_pulseOf 20 = .ok (.aload_n 0, 1) := by decide +kernel
theorem dX9_pulseOf_21 : decode cX9_pulseOf 21 = .ok (.getfield 18, 3) := by decide +kernel
theorem dX9_pulseOf_24 : decode cX9_pulseOf 24 = .ok (.iload 4, 2) := by decide +kernel
theorem dX9_pulseOf_26 : decode cX9_pulseOf 26 = .ok (.iconst 1, 1) := by decide +kernel
theorem dX9_pulseOf_27 : decode cX9_pulseOf 27 = .ok (.isub, 1) := by decide +kernel
theorem dX9_pulseOf_28 : decode cX9_pulseOf 28 = .ok (.invokevirtual 22, 3) := by decide +kernel
theorem dX9_pulseOf_31 : decode cX9_pulseOf 31 = .ok (.isub, 1) := by decide +kernel
theorem dX9_pulseOf_32 : decode cX9_pulseOf 32 = .ok (.istore 5, 2) := by decide +kernel
theorem dX9_pulseOf_34 : decode cX9_pulseOf 34 = .ok (.iload 5, 2) := by decide +kernel
theorem dX9_pulseOf_36 : decode cX9_pulseOf 36 = .ok (.ifCond .gt 6, 3) := by decide +kernel
theorem dX9_pulseOf_39 : decode cX9_pulseOf 39 = .ok (.bipush (-3), 2) := by decide +kernel
theorem dX9_pulseOf_41 : decode cX9_pulseOf 41 = .ok (.ireturn, 1) := by decide +kernel
theorem dX9_pulseOf_42 : decode cX9_pulseOf 42 = .ok (.iload 5, 2) := by decide +kernel
theorem dX9_pulseOf_44 : decode cX9_pulseOf 44 = .ok (.iload_n 3, 1) := by decide +kernel
theorem dX9_pulseOf_45 : decode cX9_pulseOf 45 = .ok (.invokestatic 44, 3) := by decide +kernel
theorem dX9_pulseOf_48 : decode cX9_pulseOf 48 = .ok (.istore_n 3, 1) := by decide +kernel
theorem dX9_pulseOf_49 : decode cX9_pulseOf 49 = .ok (.iinc 4 1, 3) := by decide +kernel
theorem dX9_pulseOf_52 : decode cX9_pulseOf 52 = .ok (.goto (-47), 3) := by decide +kernel
theorem dX9_pulseOf_55 : decode cX9_pulseOf 55 = .ok (.iload_n 3, 1) := by decide +kernel
theorem dX9_pulseOf_56 : decode cX9_pulseOf 56 = .ok (.ifCond .ne 6, 3) := by decide +kernel
theorem dX9_pulseOf_59 : decode cX9_pulseOf 59 = .ok (.bipush (-3), 2) := by decide +kernel
theorem dX9_pulseOf_61 : decode cX9_pulseOf 61 = .ok (.ireturn, 1) := by decide +kernel
theorem dX9_pulseOf_62 : decode cX9_pulseOf 62 = .ok (.aload_n 0, 1) := by decide +kernel
theorem dX9_pulseOf_63 : decode cX9_pulseOf 63 = .ok (.getfield 18, 3) := by decide +kernel
theorem dX9_pulseOf_66 : decode cX9_pulseOf 66 = .ok (.iload_n 1, 1) := by decide +kernel
theorem dX9_pulseOf_67 : decode cX9_pulseOf 67 = .ok (.iconst 1, 1) := by decide +kernel
theorem dX9_pulseOf_68 : decode cX9_pulseOf 68 = .ok (.isub, 1) := by decide +kernel
theorem dX9_pulseOf_69 : decode cX9_pulseOf 69 = .ok (.invokevirtual 22, 3) := by decide +kernel
theorem dX9_pulseOf_72 : decode cX9_pulseOf 72 = .ok (.aload_n 0, 1) := by decide +kernel
theorem dX9_pulseOf_73 : decode cX9_pulseOf 73 = .ok (.getfield 18, 3) := by decide +kernel
theorem dX9_pulseOf_76 : decode cX9_pulseOf 76 = .ok (.iconst 0, 1) := by decide +kernel
theorem dX9_pulseOf_77 : decode cX9_pulseOf 77 = .ok (.invokevirtual 22, 3) := by decide +kernel
theorem dX9_pulseOf_80 : decode cX9_pulseOf 80 = .ok (.isub, 1) := by decide +kernel
theorem dX9_pulseOf_81 : decode cX9_pulseOf 81 = .ok (.iload_n 3, 1) := by decide +kernel
theorem dX9_pulseOf_82 : decode cX9_pulseOf 82 = .ok (.idiv, 1) := by decide +kernel
theorem dX9_pulseOf_83 : decode cX9_pulseOf 83 = .ok (.iconst 1, 1) := by decide +kernel
theorem dX9_pulseOf_84 : decode cX9_pulseOf 84 = .ok (.iadd, 1) := by decide +kernel
theorem dX9_pulseOf_85 : decode cX9_pulseOf 85 = .ok (.istore 4, 2) := by decide +kernel
theorem dX9_pulseOf_87 : decode cX9_pulseOf 87 = .ok (.iload_n 2, 1) := by decide +kernel
theorem dX9_pulseOf_88 : decode cX9_pulseOf 88 = .ok (.ifCond .ne 7, 3) := by decide +kernel
theorem dX9_pulseOf_91 : decode cX9_pulseOf 91 = .ok (.iload_n 3, 1) := by decide +kernel
theorem dX9_pulseOf_92 : decode cX9_pulseOf 92 = .ok (.goto 7, 3) := by decide +kernel
theorem dX9_pulseOf_95 : decode cX9_pulseOf 95 = .ok (.iload 4, 2) := by decide +kernel
theorem dX9_pulseOf_97 : decode cX9_pulseOf 97 = .ok (.iload_n 1, 1) := by decide +kernel
theorem dX9_pulseOf_98 : decode cX9_pulseOf 98 = .ok (.isub, 1) := by decide +kernel
theorem dX9_pulseOf_99 : decode cX9_pulseOf 99 = .ok (.ireturn, 1) := by decide +kernel
theorem dX9_costOfWay_0 : decode cX9_costOfWay 0 = .ok (.aload_n 0, 1) := by decide +kernel
theorem dX9_costOfWay_1 : decode cX9_costOfWay 1 = .ok (.getfield 18, 3) := by decide +kernel
theorem dX9_costOfWay_4 : decode cX9_costOfWay 4 = .ok (.iload_n 2, 1) := by decide +kernel
theorem dX9_costOfWay_5 : decode cX9_costOfWay 5 = .ok (.invokevirtual 41, 3) := by decide +kernel
theorem dX9_costOfWay_8 : decode cX9_costOfWay 8 = .ok (.aload_n 0, 1) := by decide +kernel
theorem dX9_costOfWay_9 : decode cX9_costOfWay 9 = .ok (.getfield 18, 3) := by decide +kernel
theorem dX9_costOfWay_12 : decode cX9_costOfWay 12 = .ok (.iload_n 1, 1) := by decide +kernel
theorem dX9_costOfWay_13 : decode cX9_costOfWay 13 = .ok (.invokevirtual 41, 3) := by decide +kernel
theorem dX9_costOfWay_16 : decode cX9_costOfWay 16 = .ok (.isub, 1) := by decide +kernel
theorem dX9_costOfWay_17 : decode cX9_costOfWay 17 = .ok (.istore_n 3, 1) := by decide +kernel
theorem dX9_costOfWay_18 : decode cX9_costOfWay 18 = .ok (.iconst 2, 1) := by decide +kernel
theorem dX9_costOfWay_19 : decode cX9_costOfWay 19 = .ok (.iload_n 3, 1) := by decide +kernel
theorem dX9_costOfWay_20 : decode cX9_costOfWay 20 = .ok (.ifCond .le 9, 3) := by decide +kernel
theorem dX9_costOfWay_23 : decode cX9_costOfWay 23 = .ok (.iconst 3, 1) := by decide +kernel
theorem dX9_costOfWay_24 : decode cX9_costOfWay 24 = .ok (.iload_n 3, 1) := by decide +kernel
theorem dX9_costOfWay_25 : decode cX9_costOfWay 25 = .ok (.imul, 1) := by decide +kernel
theorem dX9_costOfWay_26 : decode cX9_costOfWay 26 = .ok (.goto 5, 3) := by decide +kernel
theorem dX9_costOfWay_29 : decode cX9_costOfWay 29 = .ok (.iload_n 3, 1) := by decide +kernel
theorem dX9_costOfWay_30 : decode cX9_costOfWay 30 = .ok (.ineg, 1) := by decide +kernel
theorem dX9_costOfWay_31 : decode cX9_costOfWay 31 = .ok (.iadd, 1) := by decide +kernel
theorem dX9_costOfWay_32 : decode cX9_costOfWay 32 = .ok (.ireturn, 1) := by decide +kernel
theorem dX9_climb_0 : decode cX9_climb 0 = .ok (.aload_n 0, 1) := by decide +kernel
theorem dX9_climb_1 : decode cX9_climb 1 = .ok (.getfield 11, 3) := by decide +kernel
theorem dX9_climb_4 : decode cX9_climb 4 = .ok (.iconst 0, 1) := by decide +kernel
theorem dX9_climb_5 : decode cX9_climb 5 = .ok (.iconst 0, 1) := by decide +kernel
theorem dX9_climb_6 : decode cX9_climb 6 = .ok (.iastore, 1) := by decide +kernel
theorem dX9_climb_7 : decode cX9_climb 7 = .ok (.aload_n 0, 1) := by decide +kernel
theorem dX9_climb_8 : decode cX9_climb 8 = .ok (.getfield 15, 3) := by decide +kernel
theorem dX9_climb_11 : decode cX9_climb 11 = .ok (.iconst 0, 1) := by decide +kernel
theorem dX9_climb_12 : decode cX9_climb 12 = .ok (.iconst 0, 1) := by decide +kernel
theorem dX9_climb_13 : decode cX9_climb 13 = .ok (.iastore, 1) := by decide +kernel
theorem dX9_climb_14 : decode cX9_climb 14 = .ok (.iconst 1, 1) := by decide +kernel
theorem dX9_climb_15 : decode cX9_climb 15 = .ok (.istore_n 3, 1) := by decide +kernel
theorem dX9_climb_16 : decode cX9_climb 16 = .ok (.iload_n 3, 1) := by decide +kernel
theorem dX9_climb_17 : decode cX9_climb 17 = .ok (.iload_n 1, 1) := by decide +kernel
theorem dX9_climb_18 : decode cX9_climb 18 = .ok (.if_icmp .ge 130, 3) := by decide +kernel
theorem dX9_climb_21 : decode cX9_climb 21 = .ok (.iload_n 3, 1) := by decide +kernel
theorem dX9_climb_22 : decode cX9_climb 22 = .ok (.sipush 256, 3) := by decide +kernel
theorem dX9_climb_25 : decode cX9_climb 25 = .ok (.if_icmp .ge 123, 3) := by decide +kernel
theorem dX9_climb_28 : decode cX9_climb 28 = .ok (.aload_n 0, 1) := by decide +kernel
theorem dX9_climb_29 : decode cX9_climb 29 = .ok (.getfield 11, 3) := by decide +kernel
theorem dX9_climb_32 : decode cX9_climb 32 = .ok (.iload_n 3, 1) := by decide +kernel
theorem dX9_climb_33 : decode cX9_climb 33 = .ok (.ldc 47, 2) := by decide +kernel
theorem dX9_climb_35 : decode cX9_climb 35 = .ok (.iastore, 1) := by decide +kernel
theorem dX9_climb_36 : decode cX9_climb 36 = .ok (.aload_n 0, 1) := by decide +kernel
theorem dX9_climb_37 : decode cX9_climb 37 = .ok (.getfield 15, 3) := by decide +kernel
theorem dX9_climb_40 : decode cX9_climb 40 = .ok (.iload_n 3, 1) := by decide +kernel
theorem dX9_climb_41 : decode cX9_climb 41 = .ok (.ldc 47, 2) := by decide +kernel
theorem dX9_climb_43 : decode cX9_climb 43 = .ok (.iastore, 1) := by decide +kernel
theorem dX9_climb_44 : decode cX9_climb 44 = .ok (.iconst 0, 1) := by decide +kernel
theorem dX9_climb_45 : decode cX9_climb 45 = .ok (.iload_n 3, 1) := by decide +kernel
theorem dX9_climb_46 : decode cX9_climb 46 = .ok (.iconst 2, 1) := by decide +kernel
theorem dX9_climb_47 : decode cX9_climb 47 = .ok (.isub, 1) := by decide +kernel
theorem dX9_climb_48 : decode cX9_climb 48 = .ok (.invokestatic 32, 3) := by decide +kernel
theorem dX9_climb_51 : decode cX9_climb 51 = .ok (.istore 4, 2) := by decide +kernel
theorem dX9_climb_53 : decode cX9_climb 53 = .ok (.iload 4, 2) := by decide +kernel
theorem dX9_climb_55 : decode cX9_climb 55 = .ok (.iload_n 3, 1) := by decide +kernel
theorem dX9_climb_56 : decode cX9_climb 56 = .ok (.if_icmp .ge 86, 3) := by decide +kernel
theorem dX9_climb_59 : decode cX9_climb 59 = .ok (.aload_n 0, 1) := by decide +kernel
theorem dX9_climb_60 : decode cX9_climb 60 = .ok (.getfield 11, 3) := by decide +kernel
theorem dX9_climb_63 : decode cX9_climb 63 = .ok (.iload 4, 2) := by decide +kernel
theorem dX9_climb_65 : decode cX9_climb 65 = .ok (.iaload, 1) := by decide +kernel
theorem dX9_climb_66 : decode cX9_climb 66 = .ok (.aload_n 0, 1) := by decide +kernel
theorem dX9_climb_67 : decode cX9_climb 67 = .ok (.iload 4, 2) := by decide +kernel
theorem dX9_climb_69 : decode cX9_climb 69 = .ok (.iload_n 3, 1) := by decide +kernel
theorem dX9_climb_70 : decode cX9_climb 70 = .ok (.invokevirtual 48, 3) := by decide +kernel
theorem dX9_climb_73 : decode cX9_climb 73 = .ok (.iadd, 1) := by decide +kernel
theorem dX9_climb_74 : decode cX9_climb 74 = .ok (.istore 5, 2) := by decide +kernel
theorem dX9_climb_76 : decode cX9_climb 76 = .ok (.aload_n 0, 1) := by decide +kernel
theorem dX9_climb_77 : decode cX9_climb 77 = .ok (.getfield 15, 3) := by decide +kernel
theorem dX9_climb_80 : decode cX9_climb 80 = .ok (.iload 4, 2) := by decide +kernel
theorem dX9_climb_82 : decode cX9_climb 82 = .ok (.iaload, 1) := by decide +kernel
theorem dX9_climb_83 : decode cX9_climb 83 = .ok (.iconst 1, 1) := by decide +kernel
theorem dX9_climb_84 : decode cX9_climb 84 = .ok (.iadd, 1) := by decide +kernel
theorem dX9_climb_85 : decode cX9_climb 85 = .ok (.istore 6, 2) := by decide +kernel
theorem dX9_climb_87 : decode cX9_climb 87 = .ok (.iload 5, 2) := by decide +kernel
theorem dX9_climb_89 : decode cX9_climb 89 = .ok (.aload_n 0, 1) := by decide +kernel
theorem dX9_climb_90 : decode cX9_climb 90 = .ok (.getfield 11, 3) := by decide +kernel
theorem dX9_climb_93 : decode cX9_climb 93 = .ok (.iload_n 3, 1) := by decide +kernel
theorem dX9_climb_94 : decode cX9_climb 94 = .ok (.iaload, 1) := by decide +kernel
theorem dX9_climb_95 : decode cX9_climb 95 = .ok (.if_icmp .lt 25, 3) := by decide +kernel
theorem dX9_climb_98 : decode cX9_climb 98 = .ok (.iload 5, 2) := by decide +kernel
theorem dX9_climb_100 : decode cX9_climb 100 = .ok (.aload_n 0, 1) := by decide +kernel
theorem dX9_climb_101 : decode cX9_climb 101 = .ok (.getfield 11, 3) := by decide +kernel
theorem dX9_climb_104 : decode cX9_climb 104 = .ok (.iload_n 3, 1) := by decide +kernel
theorem dX9_climb_105 : decode cX9_climb 105 = .ok (.iaload, 1) := by decide +kernel
theorem dX9_climb_106 : decode cX9_climb 106 = .ok (.if_icmp .ne 30, 3) := by decide +kernel
theorem dX9_climb_109 : decode cX9_climb 109 = .ok (.iload 6, 2) := by decide +kernel
theorem dX9_climb_111 : decode cX9_climb 111 = .ok (.aload_n 0, 1) := by decide +kernel
theorem dX9_climb_112 : decode cX9_climb 112 = .ok (.getfield 15, 3) := by decide +kernel
theorem dX9_climb_115 : decode cX9_climb 115 = .ok (.iload_n 3, 1) := by decide +kernel
theorem dX9_climb_116 : decode cX9_climb 116 = .ok (.iaload, 1) := by decide +kernel
theorem dX9_climb_117 : decode cX9_climb 117 = .ok (.if_icmp .ge 19, 3) := by decide +kernel
theorem dX9_climb_120 : decode cX9_climb 120 = .ok (.aload_n 0, 1) := by decide +kernel
theorem dX9_climb_121 : decode cX9_climb 121 = .ok (.getfield 11, 3) := by decide +kernel
theorem dX9_climb_124 : decode cX9_climb 124 = .ok (.iload_n 3, 1) := by decide +kernel
theorem dX9_climb_125 : decode cX9_climb 125 = .ok (.iload 5, 2) := by decide +kernel
theorem dX9_climb_127 : decode cX9_climb 127 = .ok (.iastore, 1) := by decide +kernel
theorem dX9_climb_128 : decode cX9_climb 128 = .ok (.aload_n 0, 1) := by decide +kernel
theorem dX9_climb_129 : decode cX9_climb 129 = .ok (.getfield 15, 3) := by decide +kernel
theorem dX9_climb_132 : decode cX9_climb 132 = .ok (.iload_n 3, 1) := by decide +kernel
theorem dX9_climb_133 : decode cX9_climb 133 = .ok (.iload 6, 2) := by decide +kernel
theorem dX9_climb_135 : decode cX9_climb 135 = .ok (.iastore, 1) := by decide +kernel
theorem dX9_climb_136 : decode cX9_climb 136 = .ok (.iinc 4 1, 3) := by decide +kernel
theorem dX9_climb_139 : decode cX9_climb 139 = .ok (.goto (-86), 3) := by decide +kernel
theorem dX9_climb_142 : decode cX9_climb 142 = .ok (.iinc 3 1, 3) := by decide +kernel
theorem dX9_climb_145 : decode cX9_climb 145 = .ok (.goto (-129), 3) := by decide +kernel
theorem dX9_climb_148 : decode cX9_climb 148 = .ok (.iload_n 1, 1) := by decide +kernel
theorem dX9_climb_149 : decode cX9_climb 149 = .ok (.iconst 1, 1) := by decide +kernel
theorem dX9_climb_150 : decode cX9_climb 150 = .ok (.if_icmp .lt 10, 3) := by decide +kernel
theorem dX9_climb_153 : decode cX9_climb 153 = .ok (.iload_n 1, 1) := by decide +kernel
theorem dX9_climb_154 : decode cX9_climb 154 = .ok (.sipush 256, 3) := by decide +kernel
theorem dX9_climb_157 : decode cX9_climb 157 = .ok (.if_icmp .le 5, 3) := by decide +kernel
theorem dX9_climb_160 : decode cX9_climb 160 = .ok (.iconst (-1), 1) := by decide +kernel
theorem dX9_climb_161 : decode cX9_climb 161 = .ok (.ireturn, 1) := by decide +kernel
theorem dX9_climb_162 : decode cX9_climb 162 = .ok (.iload_n 2, 1) := by decide +kernel
theorem dX9_climb_163 : decode cX9_climb 163 = .ok (.ifCond .ne 14, 3) := by decide +kernel
theorem dX9_climb_166 : decode cX9_climb 166 = .ok (.aload_n 0, 1) := by decide +kernel
theorem dX9_climb_167 : decode cX9_climb 167 = .ok (.getfield 11, 3) := by decide +kernel
theorem dX9_climb_170 : decode cX9_climb 170 = .ok (.iload_n 1, 1) := by decide +kernel
theorem dX9_climb_171 : decode cX9_climb 171 = .ok (.iconst 1, 1) := by decide +kernel
theorem dX9_climb_172 : decode cX9_climb 172 = .ok (.isub, 1) := by decide +kernel
theorem dX9_climb_173 : decode cX9_climb 173 = .ok (.iaload, 1) := by decide +kernel
theorem dX9_climb_174 : decode cX9_climb 174 = .ok (.goto 11, 3) := by decide +kernel
theorem dX9_climb_177 : decode cX9_climb 177 = .ok (.aload_n 0, 1) := by decide +kernel
theorem dX9_climb_178 : decode cX9_climb 178 = .ok (.getfield 15, 3) := by decide +kernel
theorem dX9_climb_181 : decode cX9_climb 181 = .ok (.iload_n 1, 1) := by decide +kernel
theorem dX9_climb_182 : decode cX9_climb 182 = .ok (.iconst 1, 1) := by decide +kernel
theorem dX9_climb_183 : decode cX9_climb 183 = .ok (.isub, 1) := by decide +kernel
theorem dX9_climb_184 : decode cX9_climb 184 = .ok (.iaload, 1) := by decide +kernel
theorem dX9_climb_185 : decode cX9_climb 185 = .ok (.ireturn, 1) := by decide +kernel
theorem dX9_areBells_0 : decode cX9_areBells 0 = .ok (.iconst 1, 1) := by decide +kernel
theorem dX9_areBells_1 : decode cX9_areBells 1 = .ok (.istore_n 2, 1) := by decide +kernel
theorem dX9_areBells_2 : decode cX9_areBells 2 = .ok (.iconst 0, 1) := by decide +kernel
theorem dX9_areBells_3 : decode cX9_areBells 3 = .ok (.istore_n 3, 1) := by decide +kernel
theorem dX9_areBells_4 : decode cX9_areBells 4 = .ok (.iload_n 3, 1) := by decide +kernel
theorem dX9_areBells_5 : decode cX9_areBells 5 = .ok (.iload_n 1, 1) := by decide +kernel
theorem dX9_areBells_6 : decode cX9_areBells 6 = .ok (.if_icmp .ge 75, 3) := by decide +kernel
theorem dX9_areBells_9 : decode cX9_areBells 9 = .ok (.iload_n 2, 1) := by decide +kernel
theorem dX9_areBells_10 : decode cX9_areBells 10 = .ok (.ifCond .eq 18, 3) := by decide +kernel
theorem dX9_areBells_13 : decode cX9_areBells 13 = .ok (.aload_n 0, 1) := by decide +kernel
theorem dX9_areBells_14 : decode cX9_areBells 14 = .ok (.getfield 18, 3) := by decide +kernel
theorem dX9_areBells_17 : decode cX9_areBells 17 = .ok (.iload_n 3, 1) := by decide +kernel
theorem dX9_areBells_18 : decode cX9_areBells 18 = .ok (.invokevirtual 41, 3) := by decide +kernel
theorem dX9_areBells_21 : decode cX9_areBells 21 = .ok (.ifCond .eq 7, 3) := by decide +kernel
theorem dX9_areBells_24 : decode cX9_areBells 24 = .ok (.iconst 1, 1) := by decide +kernel
theorem dX9_areBells_25 : decode cX9_areBells 25 = .ok (.goto 4, 3) := by decide +kernel
theorem dX9_areBells_28 : decode cX9_areBells 28 = .ok (.iconst 0, 1) := by decide +kernel
theorem dX9_areBells_29 : decode cX9_areBells 29 = .ok (.istore_n 2, 1) := by decide +kernel
theorem dX9_areBells_30 : decode cX9_areBells 30 = .ok (.iconst 0, 1) := by decide +kernel
theorem dX9_areBells_31 : decode cX9_areBells 31 = .ok (.istore 4, 2) := by decide +kernel
theorem dX9_areBells_33 : decode cX9_areBells 33 = .ok (.iload 4, 2) := by decide +kernel
theorem dX9_areBells_35 : decode cX9_areBells 35 = .ok (.iload_n 3, 1) := by decide +kernel
theorem dX9_areBells_36 : decode cX9_areBells 36 = .ok (.if_icmp .ge 39, 3) := by decide +kernel
theorem dX9_areBells_39 : decode cX9_areBells 39 = .ok (.iload_n 2, 1) := by decide +kernel
theorem dX9_areBells_40 : decode cX9_areBells 40 = .ok (.ifCond .eq 27, 3) := by decide +kernel
theorem dX9_areBells_43 : decode cX9_areBells 43 = .ok (.aload_n 0, 1) := by decide +kernel
theorem dX9_areBells_44 : decode cX9_areBells 44 = .ok (.getfield 18, 3) := by decide +kernel
theorem dX9_areBells_47 : decode cX9_areBells 47 = .ok (.iload 4, 2) := by decide +kernel
theorem dX9_areBells_49 : decode cX9_areBells 49 = .ok (.invokevirtual 41, 3) := by decide +kernel
theorem dX9_areBells_52 : decode cX9_areBells 52 = .ok (.aload_n 0, 1) := by decide +kernel
theorem dX9_areBells_53 : decode cX9_areBells 53 = .ok (.getfield 18, 3) := by decide +kernel
theorem dX9_areBells_56 : decode cX9_areBells 56 = .ok (.iload_n 3, 1) := by decide +kernel
theorem dX9_areBells_57 : decode cX9_areBells 57 = .ok (.invokevirtual 41, 3) := by decide +kernel
theorem dX9_areBells_60 : decode cX9_areBells 60 = .ok (.if_icmp .eq 7, 3) := by decide +kernel
theorem dX9_areBells_63 : decode cX9_areBells 63 = .ok (.iconst 1, 1) := by decide +kernel
theorem dX9_areBells_64 : decode cX9_areBells 64 = .ok (.goto 4, 3) := by decide +kernel
theorem dX9_areBells_67 : decode cX9_areBells 67 = .ok (.iconst 0, 1) := by decide +kernel
theorem dX9_areBells_68 : decode cX9_areBells 68 = .ok (.istore_n 2, 1) := by decide +kernel
theorem dX9_areBells_69 : decode cX9_areBells 69 = .ok (.iinc 4 1, 3) := by decide +kernel
theorem dX9_areBells_72 : decode cX9_areBells 72 = .ok (.goto (-39), 3) := by decide +kernel
theorem dX9_areBells_75 : decode cX9_areBells 75 = .ok (.iinc 3 1, 3) := by decide +kernel
theorem dX9_areBells_78 : decode cX9_areBells 78 = .ok (.goto (-74), 3) := by decide +kernel
theorem dX9_areBells_81 : decode cX9_areBells 81 = .ok (.iload_n 2, 1) := by decide +kernel
theorem dX9_areBells_82 : decode cX9_areBells 82 = .ok (.ireturn, 1) := by decide +kernel
theorem dX9_fewestBlows_0 : decode cX9_fewestBlows 0 = .ok (.aload_n 0, 1) := by decide +kernel
theorem dX9_fewestBlows_1 : decode cX9_fewestBlows 1 = .ok (.getfield 11, 3) := by decide +kernel
theorem dX9_fewestBlows_4 : decode cX9_fewestBlows 4 = .ok (.iconst 0, 1) := by decide +kernel
theorem dX9_fewestBlows_5 : decode cX9_fewestBlows 5 = .ok (.iconst 0, 1) := by decide +kernel
theorem dX9_fewestBlows_6 : decode cX9_fewestBlows 6 = .ok (.iastore, 1) := by decide +kernel
theorem dX9_fewestBlows_7 : decode cX9_fewestBlows 7 = .ok (.iconst 1, 1) := by decide +kernel
theorem dX9_fewestBlows_8 : decode cX9_fewestBlows 8 = .ok (.istore_n 3, 1) := by decide +kernel
theorem dX9_fewestBlows_9 : decode cX9_fewestBlows 9 = .ok (.iload_n 3, 1) := by decide +kernel
theorem dX9_fewestBlows_10 : decode cX9_fewestBlows 10 = .ok (.iload_n 2, 1) := by decide +kernel
theorem dX9_fewestBlows_11 : decode cX9_fewestBlows 11 = .ok (.if_icmp .gt 79, 3) := by decide +kernel
theorem dX9_fewestBlows_14 : decode cX9_fewestBlows 14 = .ok (.ldc 47, 2) := by decide +kernel
theorem dX9_fewestBlows_16 : decode cX9_fewestBlows 16 = .ok (.istore 4, 2) := by decide +kernel
theorem dX9_fewestBlows_18 : decode cX9_fewestBlows 18 = .ok (.iconst 0, 1) := by decide +kernel
theorem dX9_fewestBlows_19 : decode cX9_fewestBlows 19 = .ok (.istore 5, 2) := by decide +kernel
theorem dX9_fewestBlows_21 : decode cX9_fewestBlows 21 = .ok (.iload 5, 2) := by decide +kernel
theorem dX9_fewestBlows_23 : decode cX9_fewestBlows 23 = .ok (.iload_n 1, 1) := by decide +kernel
theorem dX9_fewestBlows_24 : decode cX9_fewestBlows 24 = .ok (.if_icmp .ge 48, 3) := by decide +kernel
theorem dX9_fewestBlows_27 : decode cX9_fewestBlows 27 = .ok (.aload_n 0, 1) := by decide +kernel
theorem dX9_fewestBlows_28 : decode cX9_fewestBlows 28 = .ok (.getfield 18, 3) := by decide +kernel
theorem dX9_fewestBlows_31 : decode cX9_fewestBlows 31 = .ok (.iload 5, 2) := by decide +kernel
theorem dX9_fewestBlows_33 : decode cX9_fewestBlows 33 = .ok (.invokevirtual 41, 3) := by decide +kernel
theorem dX9_fewestBlows_36 : decode cX9_fewestBlows 36 = .ok (.istore 6, 2) := by decide +kernel
theorem dX9_fewestBlows_38 : decode cX9_fewestBlows 38 = .ok (.iload 6, 2) := by decide +kernel
theorem dX9_fewestBlows_40 : decode cX9_fewestBlows 40 = .ok (.iload_n 3, 1) := by decide +kernel
theorem dX9_fewestBlows_41 : decode cX9_fewestBlows 41 = .ok (.if_icmp .gt 25, 3) := by decide +kernel
theorem dX9_fewestBlows_44 : decode cX9_fewestBlows 44 = .ok (.iload 4, 2) := by decide +kernel
theorem dX9_fewestBlows_46 : decode cX9_fewestBlows 46 = .ok (.aload_n 0, 1) := by decide +kernel
theorem dX9_fewestBlows_47 : decode cX9_fewestBlows 47 = .ok (.getfield 11, 3) := by decide +kernel
theorem dX9_fewestBlows_50 : decode cX9_fewestBlows 50 = .ok (.iload_n 3, 1) := by decide +kernel
theorem dX9_fewestBlows_51 : decode cX9_fewestBlows 51 = .ok (.iload 6, 2) := by decide +kernel
theorem dX9_fewestBlows_53 : decode cX9_fewestBlows 53 = .ok (.isub, 1) := by decide +kernel
theorem dX9_fewestBlows_54 : decode cX9_fewestBlows 54 = .ok (.sipush 255, 3) := by decide +kernel
theorem dX9_fewestBlows_57 : decode cX9_fewestBlows 57 = .ok (.iand, 1) := by decide +kernel
theorem dX9_fewestBlows_58 : decode cX9_fewestBlows 58 = .ok (.iaload, 1) := by decide +kernel
theorem dX9_fewestBlows_59 : decode cX9_fewestBlows 59 = .ok (.iconst 1, 1) := by decide +kernel
theorem dX9_fewestBlows_60 : decode cX9_fewestBlows 60 = .ok (.iadd, 1) := by decide +kernel
theorem dX9_fewestBlows_61 : decode cX9_fewestBlows 61 = .ok (.invokestatic 51, 3) := by decide +kernel
theorem dX9_fewestBlows_64 : decode cX9_fewestBlows 64 = .ok (.istore 4, 2) := by decide +kernel
theorem dX9_fewestBlows_66 : decode cX9_fewestBlows 66 = .ok (.iinc 5 1, 3) := by decide +kernel
theorem dX9_fewestBlows_69 : decode cX9_fewestBlows 69 = .ok (.goto (-48), 3) := by decide +kernel
theorem dX9_fewestBlows_72 : decode cX9_fewestBlows 72 = .ok (.aload_n 0, 1) := by decide +kernel
theorem dX9_fewestBlows_73 : decode cX9_fewestBlows 73 = .ok (.getfield 11, 3) := by decide +kernel
theorem dX9_fewestBlows_76 : decode cX9_fewestBlows 76 = .ok (.iload_n 3, 1) := by decide +kernel
theorem dX9_fewestBlows_77 : decode cX9_fewestBlows 77 = .ok (.sipush 255, 3) := by decide +kernel
theorem dX9_fewestBlows_80 : decode cX9_fewestBlows 80 = .ok (.iand, 1) := by decide +kernel
theorem dX9_fewestBlows_81 : decode cX9_fewestBlows 81 = .ok (.iload 4, 2) := by decide +kernel
theorem dX9_fewestBlows_83 : decode cX9_fewestBlows 83 = .ok (.iastore, 1) := by decide +kernel
theorem dX9_fewestBlows_84 : decode cX9_fewestBlows 84 = .ok (.iinc 3 1, 3) := by decide +kernel
theorem dX9_fewestBlows_87 : decode cX9_fewestBlows 87 = .ok (.goto (-78), 3) := by decide +kernel
theorem dX9_fewestBlows_90 : decode cX9_fewestBlows 90 = .ok (.aload_n 0, 1) := by decide +kernel
theorem dX9_fewestBlows_91 : decode cX9_fewestBlows 91 = .ok (.getfield 11, 3) := by decide +kernel
theorem dX9_fewestBlows_94 : decode cX9_fewestBlows 94 = .ok (.iload_n 2, 1) := by decide +kernel
theorem dX9_fewestBlows_95 : decode cX9_fewestBlows 95 = .ok (.sipush 255, 3) := by decide +kernel
theorem dX9_fewestBlows_98 : decode cX9_fewestBlows 98 = .ok (.iand, 1) := by decide +kernel
theorem dX9_fewestBlows_99 : decode cX9_fewestBlows 99 = .ok (.iaload, 1) := by decide +kernel
theorem dX9_fewestBlows_100 : decode cX9_fewestBlows 100 = .ok (.istore_n 3, 1) := by decide +kernel
theorem dX9_fewestBlows_101 : decode cX9_fewestBlows 101 = .ok (.iload_n 3, 1) := by decide +kernel
theorem dX9_fewestBlows_102 : decode cX9_fewestBlows 102 = .ok (.ldc 47, 2) := by decide +kernel
theorem dX9_fewestBlows_104 : decode cX9_fewestBlows 104 = .ok (.if_icmp .ge 7, 3) := by decide +kernel
theorem dX9_fewestBlows_107 : decode cX9_fewestBlows 107 = .ok (.iload_n 3, 1) := by decide +kernel
theorem dX9_fewestBlows_108 : decode cX9_fewestBlows 108 = .ok (.goto 5, 3) := by decide +kernel
theorem dX9_fewestBlows_111 : decode cX9_fewestBlows 111 = .ok (.bipush (-2), 2) := by decide +kernel
theorem dX9_fewestBlows_113 : decode cX9_fewestBlows 113 = .ok (.ireturn, 1) := by decide +kernel
def mX9_netAt (F : Nat) (x1 : Int32) (σ : jS) : Option Int32 := (Option.bind (mX10_wordAt F x1 σ) fun q1 => some (q1 - (32768 : Int32)))
set_option maxHeartbeats 4000000 in
set_option maxRecDepth 100000 in
theorem kX9_netAt {V : jV} {F : Nat} {x1 : Int32} {σ : jS} {v : Int32} (hm : mX9_netAt F x1 σ = some v) : Ct cfX 70 V yX9_netAt cX9_netAt 2 (some .int) 2 [.ref (vad V 67), .int x1] σ (v, σ) := by
  refine j_start (own := RX9) (by decide) rfl (Nat.le_of_ble_eq_true rfl) ?_
  intro G hV C
  subst hV
  unfold mX9_netAt at hm
  show JX G 0 [(0, .ref (vad (gV G) 67)), (1, .int x1)] [] σ (v, σ)
  refine j_aloadn (pc := 0) C 0 dX9_netAt_0 rfl rfl ?_
  refine gf_X9_18 (c := 67) (pc := 1) C kx_67 dX9_netAt_1 ?_
  refine j_iloadn (pc := 4) C 1 dX9_netAt_4 rfl rfl ?_
  obtain ⟨q1, hq1, hm⟩ := Option.bind_eq_some_iff.mp hm
  refine cl_X9_22 (c := 1) (pc := 5) C kx_1 (kX10_wordAt hq1) (by decide) (Nat.le_of_ble_eq_true rfl) dX9_netAt_5 ?_
  refine j_ldc (v := 32768) (pc := 8) C dX9_netAt_8 tw_4_195 ?_
  refine j_isub (pc := 10) C dX9_netAt_10 ?_
  exact j_iret (pc := 11) C rfl dX9_netAt_11 hm

def lp_X9_paidInAll_7 (F : Nat) (σ : jS) : Nat → Int32 → Int32 → Int32 → Int32 → Option Int32
  | 0, _, _, _, _ => none
  | n + 1, x1, x2, x3, x4 => (if x4 < x1 then (Option.bind (mX9_netAt F x4 σ) fun q1 => (lt (x2 + q1) fun y2 => (Option.bind (mX9_netAt F x4 σ) fun q3 => (lt (x3 + (imax (0 : Int32) q3)) fun y4 => (lp_X9_paidInAll_7 F σ n x1 y2 y4 ((x4 + (1 : Int32)))))))) else (if x2 = 0 then some x3 else some (-2 : Int32)))
set_option maxHeartbeats 4000000 in
set_option maxRecDepth 100000 in
theorem lp_X9_paidInAll_7_ok {G : jG} (C : jc cfX 70 G cX9_paidInAll RX9 5 (some .int) 3) (F : Nat) (σ : jS) {v : Int32} : ∀ (n : Nat) (x1 : Int32) (x2 : Int32) (x3 : Int32) (x4 : Int32), lp_X9_paidInAll_7 F σ n x1 x2 x3 x4 = some v → JX G 7 [(0, .ref (vad (gV G) 67)), (1, .int x1), (2, .int x2), (3, .int x3), (4, .int x4)] [] σ (v, σ) := by
  intro n
  induction n with
  | zero =>
    intro x1 x2 x3 x4 hm
    rw [lp_X9_paidInAll_7] at hm
    cases hm
  | succ n ih =>
    intro x1 x2 x3 x4 hm
    rw [lp_X9_paidInAll_7] at hm
    refine j_iload (pc := 7) C 4 dX9_paidInAll_7 rfl ?_
    refine j_iloadn (pc := 9) C 1 dX9_paidInAll_9 rfl rfl ?_
    refine j_icmp_ge (tgt := 41) (pc := 10) C dX9_paidInAll_10 (by decide) hm (fun _ hm => ?_) (fun _ hm => ?_)
    · refine j_iloadn (pc := 13) C 2 dX9_paidInAll_13 rfl rfl ?_
      refine j_aloadn (pc := 14) C 0 dX9_paidInAll_14 rfl rfl ?_
      refine j_iload (pc := 15) C 4 dX9_paidInAll_15 rfl ?_
      obtain ⟨q1, hq1, hm⟩ := Option.bind_eq_some_iff.mp hm
      refine cl_X9_29 (c := 67) (pc := 17) C kx_67 (kX9_netAt hq1) (by decide) (Nat.le_of_ble_eq_true rfl) dX9_paidInAll_17 ?_
      refine j_iadd (pc := 20) C dX9_paidInAll_20 ?_
      refine j_lti hm (fun y2 hm => ?_)
      refine j_istoren (ls' := [(2, .int y2), (0, .ref (vad (gV G) 67)), (1, .int x1), (3, .int x3), (4, .int x4)]) (pc := 21) C dX9_paidInAll_21 rfl (by decide) rfl ?_
      refine j_iloadn (pc := 22) C 3 dX9_paidInAll_22 rfl rfl ?_
      refine j_iconst (v := 0) (pc := 23) C dX9_paidInAll_23 (by decide) ?_
      refine j_aloadn (pc := 24) C 1 dX9_paidInAll_24 rfl rfl ?_
      refine j_iload (pc := 25) C 4 dX9_paidInAll_25 rfl ?_
      obtain ⟨q3, hq3, hm⟩ := Option.bind_eq_some_iff.mp hm
      refine cl_X9_29 (c := 67) (pc := 27) C kx_67 (kX9_netAt hq3) (by decide) (Nat.le_of_ble_eq_true rfl) dX9_paidInAll_27 ?_
      refine j_mmaxD (pc := 30) C tw_4_196 tw_2_230 tw_1_14 tw_2_231 (by decide) (Nat.le_of_ble_eq_true rfl) dX9_paidInAll_30 ?_
      refine j_iadd (pc := 33) C dX9_paidInAll_33 ?_
      refine j_lti hm (fun y4 hm => ?_)
      refine j_istoren (ls' := [(3, .int y4), (2, .int y2), (0, .ref (vad (gV G) 67)), (1, .int x1), (4, .int x4)]) (pc := 34) C dX9_paidInAll_34 rfl (by decide) rfl ?_
      refine j_iinc (v := (x4 + (1 : Int32))) (ls' := [(4, .int (x4 + (1 : Int32))), (3, .int y4), (2, .int y2), (0, .ref (vad (gV G) 67)), (1, .int x1)]) (pc := 35) C 4 dX9_paidInAll_35 rfl rfl (by decide) rfl ?_
      refine j_goto (tgt := 7) (pc := 38) C dX9_paidInAll_38 (by decide) ?_
      refine j_ls [3, 4, 2, 1, 0] rfl ?_
      exact ih _ _ _ _ hm
    · refine j_iloadn (pc := 41) C 2 dX9_paidInAll_41 rfl rfl ?_
      refine j_if_ne (tgt := 49) (pc := 42) C dX9_paidInAll_42 (by decide) hm (fun _ hm => ?_) (fun _ hm => ?_)
      · refine j_iloadn (pc := 45) C 3 dX9_paidInAll_45 rfl rfl ?_
        refine j_goto (tgt := 51) (pc := 46) C dX9_paidInAll_46 (by decide) ?_
        exact j_iret (pc := 51) C rfl dX9_paidInAll_51 hm
      · refine j_bipush (v := -2) (pc := 49) C dX9_paidInAll_49 (by decide) ?_
        exact j_iret (pc := 51) C rfl dX9_paidInAll_51 hm

def mX9_paidInAll (F : Nat) (x1 : Int32) (σ : jS) : Option Int32 := (lp_X9_paidInAll_7 F σ F x1 (0 : Int32) (0 : Int32) (0 : Int32))
set_option maxHeartbeats 4000000 in
set_option maxRecDepth 100000 in
theorem kX9_paidInAll {V : jV} {F : Nat} {x1 : Int32} {σ : jS} {v : Int32} (hm : mX9_paidInAll F x1 σ = some v) : Ct cfX 70 V yX9_paidInAll cX9_paidInAll 5 (some .int) 3 [.ref (vad V 67), .int x1] σ (v, σ) := by
  refine j_start (own := RX9) (by decide) rfl (Nat.le_of_ble_eq_true rfl) ?_
  intro G hV C
  subst hV
  unfold mX9_paidInAll at hm
  show JX G 0 [(0, .ref (vad (gV G) 67)), (1, .int x1)] [] σ (v, σ)
  refine j_iconst (v := 0) (pc := 0) C dX9_paidInAll_0 (by decide) ?_
  refine j_istoren (ls' := [(2, .int (0 : Int32)), (0, .ref (vad (gV G) 67)), (1, .int x1)]) (pc := 1) C dX9_paidInAll_1 rfl (by decide) rfl ?_
  refine j_iconst (v := 0) (pc := 2) C dX9_paidInAll_2 (by decide) ?_
  refine j_istoren (ls' := [(3, .int (0 : Int32)), (2, .int (0 : Int32)), (0, .ref (vad (gV G) 67)), (1, .int x1)]) (pc := 3) C dX9_paidInAll_3 rfl (by decide) rfl ?_
  refine j_iconst (v := 0) (pc := 4) C dX9_paidInAll_4 (by decide) ?_
  refine j_istore (ls' := [(4, .int (0 : Int32)), (3, .int (0 : Int32)), (2, .int (0 : Int32)), (0, .ref (vad (gV G) 67)), (1, .int x1)]) (pc := 5) C dX9_paidInAll_5 (by decide) rfl ?_
  refine j_ls [3, 4, 2, 1, 0] rfl ?_
  exact lp_X9_paidInAll_7_ok C F σ  F _ _ _ _ hm

def lp_X9_payments_66 (F : Nat) (k125 : Int32 → Int32 → Int32 → Int32 → Int32 → jS → Option (Int32 × jS)) : Nat → Int32 → Int32 → Int32 → Int32 → Int32 → Int32 → jS → Option (Int32 × jS)
  | 0, _, _, _, _, _, _, _ => none
  | n + 1, x1, x2, x3, x4, x5, x6, σ => (if x6 < x1 then (if ((x3 >>> (x6 &&& 31)) &&& (1 : Int32)) = 0 then (lp_X9_payments_66 F k125 n x1 x2 x3 x4 x5 ((x6 + (1 : Int32))) σ) else (lt (x3 ^^^ ((1 : Int32) <<< (x6 &&& 31))) fun y5 => (if jin y5 256 = true then (Option.bind (mX9_netAt F x6 σ) fun q7 => (lt ((σ 68 y5.toNatClampNeg) + q7) fun y8 => (if jin y5 256 = true then (lt (imax x4 (σ 69 y5.toNatClampNeg)) fun y10 => (lp_X9_payments_66 F k125 n x1 x2 x3 y10 y8 ((x6 + (1 : Int32))) σ)) else none))) else none))) else (k125 x1 x2 x3 x4 x5 σ))
set_option maxHeartbeats 4000000 in
set_option maxRecDepth 100000 in
theorem lp_X9_payments_66_ok {G : jG} (C : jc cfX 70 G cX9_payments RX9 8 (some .int) 4) (F : Nat) {v : (Int32 × jS)} (k125 : Int32 → Int32 → Int32 → Int32 → Int32 → jS → Option (Int32 × jS)) (hk125 : ∀ (x1 : Int32) (x2 : Int32) (x3 : Int32) (x4 : Int32) (x5 : Int32) (σ : jS), k125 x1 x2 x3 x4 x5 σ = some v → JX G 125 [(0, .ref (vad (gV G) 67)), (1, .int x1), (2, .int x2), (3, .int x3), (4, .int x4), (5, .int x5)] [] σ v) : ∀ (n : Nat) (x1 : Int32) (x2 : Int32) (x3 : Int32) (x4 : Int32) (x5 : Int32) (x6 : Int32) (σ : jS), lp_X9_payments_66 F k125 n x1 x2 x3 x4 x5 x6 σ = some v → JX G 66 [(0, .ref (vad (gV G) 67)), (1, .int x1), (2, .int x2), (3, .int x3), (4, .int x4), (5, .int x5), (6, .int x6)] [] σ v := by
  intro n
  induction n with
  | zero =>
    intro x1 x2 x3 x4 x5 x6 σ hm
    rw [lp_X9_payments_66] at hm
    cases hm
  | succ n ih =>
    intro x1 x2 x3 x4 x5 x6 σ hm
    rw [lp_X9_payments_66] at hm
    refine j_iload (pc := 66) C 6 dX9_payments_66 rfl ?_
    refine j_iloadn (pc := 68) C 1 dX9_payments_68 rfl rfl ?_
    refine j_icmp_ge (tgt := 125) (pc := 69) C dX9_payments_69 (by decide) hm (fun _ hm => ?_) (fun _ hm => ?_)
    · refine j_iloadn (pc := 72) C 3 dX9_payments_72 rfl rfl ?_
      refine j_iload (pc := 73) C 6 dX9_payments_73 rfl ?_
      refine j_ishr (pc := 75) C dX9_payments_75 ?_
      refine j_iconst (v := 1) (pc := 76) C dX9_payments_76 (by decide) ?_
      refine j_iand (pc := 77) C dX9_payments_77 ?_
      refine j_if_eq (tgt := 119) (pc := 78) C dX9_payments_78 (by decide) hm (fun _ hm => ?_) (fun _ hm => ?_)
      · refine j_iinc (v := (x6 + (1 : Int32))) (ls' := [(6, .int (x6 + (1 : Int32))), (0, .ref (vad (gV G) 67)), (1, .int x1), (2, .int x2), (3, .int x3), (4, .int x4), (5, .int x5)]) (pc := 119) C 6 dX9_payments_119 rfl rfl (by decide) rfl ?_
        refine j_goto (tgt := 66) (pc := 122) C dX9_payments_122 (by decide) ?_
        refine j_ls [1, 2, 3, 4, 5, 6, 0] rfl ?_
        exact ih _ _ _ _ _ _ _ hm
      · refine j_iloadn (pc := 81) C 3 dX9_payments_81 rfl rfl ?_
        refine j_iconst (v := 1) (pc := 82) C dX9_payments_82 (by decide) ?_
        refine j_iload (pc := 83) C 6 dX9_payments_83 rfl ?_
        refine j_ishl (pc := 85) C dX9_payments_85 ?_
        refine j_ixor (pc := 86) C dX9_payments_86 ?_
        refine j_lti hm (fun y5 hm => ?_)
        refine j_istore (ls' := [(7, .int y5), (0, .ref (vad (gV G) 67)), (1, .int x1), (2, .int x2), (3, .int x3), (4, .int x4), (5, .int x5), (6, .int x6)]) (pc := 87) C dX9_payments_87 (by decide) rfl ?_
        refine j_aloadn (pc := 89) C 1 dX9_payments_89 rfl rfl ?_
        refine gf_X9_11 (c := 67) (pc := 90) C kx_67 dX9_payments_90 ?_
        refine j_iload (pc := 93) C 0 dX9_payments_93 rfl ?_
        refine j_guard hm (fun hg6 hm => ?_)
        refine j_iald (c := 68) (n := 256) (pc := 95) C (kX_lt kx_68 (by decide)) (cx_a kx_68 lx_68 _) hg6 dX9_payments_95 ?_
        refine j_aloadn (pc := 96) C 1 dX9_payments_96 rfl rfl ?_
        refine j_iload (pc := 97) C 7 dX9_payments_97 rfl ?_
        obtain ⟨q7, hq7, hm⟩ := Option.bind_eq_some_iff.mp hm
        refine cl_X9_29 (c := 67) (pc := 99) C kx_67 (kX9_netAt hq7) (by decide) (Nat.le_of_ble_eq_true rfl) dX9_payments_99 ?_
        refine j_iadd (pc := 102) C dX9_payments_102 ?_
        refine j_lti hm (fun y8 hm => ?_)
        refine j_istore (ls' := [(5, .int y8), (7, .int y5), (0, .ref (vad (gV G) 67)), (1, .int x1), (2, .int x2), (3, .int x3), (4, .int x4), (6, .int x6)]) (pc := 103) C dX9_payments_103 (by decide) rfl ?_
        refine j_iload (pc := 105) C 6 dX9_payments_105 rfl ?_
        refine j_aloadn (pc := 107) C 2 dX9_payments_107 rfl rfl ?_
        refine gf_X9_15 (c := 67) (pc := 108) C kx_67 dX9_payments_108 ?_
        refine j_iload (pc := 111) C 1 dX9_payments_111 rfl ?_
        refine j_guard hm (fun hg9 hm => ?_)
        refine j_iald (c := 69) (n := 256) (pc := 113) C (kX_lt kx_69 (by decide)) (cx_a kx_69 lx_69 _) hg9 dX9_payments_113 ?_
        refine j_mmaxD (pc := 114) C tw_4_196 tw_2_230 tw_1_14 tw_2_231 (by decide) (Nat.le_of_ble_eq_true rfl) dX9_payments_114 ?_
        refine j_lti hm (fun y10 hm => ?_)
        refine j_istore (ls' := [(4, .int y10), (5, .int y8), (7, .int y5), (0, .ref (vad (gV G) 67)), (1, .int x1), (2, .int x2), (3, .int x3), (6, .int x6)]) (pc := 117) C dX9_payments_117 (by decide) rfl ?_
        refine j_iinc (v := (x6 + (1 : Int32))) (ls' := [(6, .int (x6 + (1 : Int32))), (4, .int y10), (5, .int y8), (7, .int y5), (0, .ref (vad (gV G) 67)), (1, .int x1), (2, .int x2), (3, .int x3)]) (pc := 119) C 7 dX9_payments_119 rfl rfl (by decide) rfl ?_
        refine j_goto (tgt := 66) (pc := 122) C dX9_payments_122 (by decide) ?_
        refine j_ls [4, 5, 6, 7, 1, 2, 0] rfl ?_
        exact ih _ _ _ _ _ _ _ hm
    · refine j_ls [0, 1, 2, 3, 4, 5] rfl ?_
      exact hk125 _ _ _ _ _ _ hm

def lp_X9_payments_45 (F : Nat) (k159 : Int32 → Int32 → jS → Option (Int32 × jS)) : Nat → Int32 → Int32 → Int32 → jS → Option (Int32 × jS)
  | 0, _, _, _, _ => none
  | n + 1, x1, x2, x3, σ => (if x2 < x3 then (k159 x1 x2 σ) else (if x3 < (256 : Int32) then (lp_X9_payments_66 F (fun x1_11 x2_11 x3_11 x4_11 x5_11 σ11 => (if jin x3_11 256 = true then (lt (js σ11 68 x3_11.toNatClampNeg x5_11) fun σ12 => (if x5_11 = 0 then (if jin x3_11 256 = true then (lt (js σ12 69 x3_11.toNatClampNeg (x4_11 + (1 : Int32))) fun σ14 => (lp_X9_payments_45 F k159 n x1_11 x2_11 ((x3_11 + (1 : Int32))) σ14)) else none) else (if jin x3_11 256 = true then (lt (js σ12 69 x3_11.toNatClampNeg x4_11) fun σ16 => (lp_X9_payments_45 F k159 n x1_11 x2_11 ((x3_11 + (1 : Int32))) σ16)) else none))) else none)) F x1 x2 x3 (0 : Int32) (0 : Int32) (0 : Int32) σ) else (k159 x1 x2 σ)))
set_option maxHeartbeats 4000000 in
set_option maxRecDepth 100000 in
theorem lp_X9_payments_45_ok {G : jG} (C : jc cfX 70 G cX9_payments RX9 8 (some .int) 4) (F : Nat) {v : (Int32 × jS)} (k159 : Int32 → Int32 → jS → Option (Int32 × jS)) (hk159 : ∀ (x1 : Int32) (x2 : Int32) (σ : jS), k159 x1 x2 σ = some v → JX G 159 [(0, .ref (vad (gV G) 67)), (1, .int x1), (2, .int x2)] [] σ v) : ∀ (n : Nat) (x1 : Int32) (x2 : Int32) (x3 : Int32) (σ : jS), lp_X9_payments_45 F k159 n x1 x2 x3 σ = some v → JX G 45 [(0, .ref (vad (gV G) 67)), (1, .int x1), (2, .int x2), (3, .int x3)] [] σ v := by
  intro n
  induction n with
  | zero =>
    intro x1 x2 x3 σ hm
    rw [lp_X9_payments_45] at hm
    cases hm
  | succ n ih =>
    intro x1 x2 x3 σ hm
    rw [lp_X9_payments_45] at hm
    refine j_iloadn (pc := 45) C 3 dX9_payments_45 rfl rfl ?_
    refine j_iloadn (pc := 46) C 2 dX9_payments_46 rfl rfl ?_
    refine j_icmp_gt (tgt := 159) (pc := 47) C dX9_payments_47 (by decide) hm (fun _ hm => ?_) (fun _ hm => ?_)
    · refine j_ls [0, 1, 2] rfl ?_
      exact hk159 _ _ _ hm
    · refine j_iloadn (pc := 50) C 3 dX9_payments_50 rfl rfl ?_
      refine j_sipush (v := 256) (pc := 51) C dX9_payments_51 (by decide) ?_
      refine j_icmp_ge (tgt := 159) (pc := 54) C dX9_payments_54 (by decide) hm (fun _ hm => ?_) (fun _ hm => ?_)
      · refine j_iconst (v := 0) (pc := 57) C dX9_payments_57 (by decide) ?_
        refine j_istore (ls' := [(4, .int (0 : Int32)), (0, .ref (vad (gV G) 67)), (1, .int x1), (2, .int x2), (3, .int x3)]) (pc := 58) C dX9_payments_58 (by decide) rfl ?_
        refine j_iconst (v := 0) (pc := 60) C dX9_payments_60 (by decide) ?_
        refine j_istore (ls' := [(5, .int (0 : Int32)), (4, .int (0 : Int32)), (0, .ref (vad (gV G) 67)), (1, .int x1), (2, .int x2), (3, .int x3)]) (pc := 61) C dX9_payments_61 (by decide) rfl ?_
        refine j_iconst (v := 0) (pc := 63) C dX9_payments_63 (by decide) ?_
        refine j_istore (ls' := [(6, .int (0 : Int32)), (5, .int (0 : Int32)), (4, .int (0 : Int32)), (0, .ref (vad (gV G) 67)), (1, .int x1), (2, .int x2), (3, .int x3)]) (pc := 64) C dX9_payments_64 (by decide) rfl ?_
        refine j_ls [3, 4, 5, 6, 2, 1, 0] rfl ?_
        refine lp_X9_payments_66_ok C F _ (fun x1_11 x2_11 x3_11 x4_11 x5_11 σ11 hm => ?_) F _ _ _ _ _ _ _ hm
        refine j_aloadn (pc := 125) C 0 dX9_payments_125 rfl rfl ?_
        refine gf_X9_11 (c := 67) (pc := 126) C kx_67 dX9_payments_126 ?_
        refine j_iloadn (pc := 129) C 3 dX9_payments_129 rfl rfl ?_
        refine j_iload (pc := 130) C 5 dX9_payments_130 rfl ?_
        refine j_guard hm (fun hg13 hm => ?_)
        refine j_iastL (c := 68) (n := 256) (pc := 132) C (kX_lt kx_68 (by decide)) (cx_a kx_68 lx_68) hg13 dX9_payments_132 hm (fun σ12 hm => ?_)
        refine j_aloadn (pc := 133) C 0 dX9_payments_133 rfl rfl ?_
        refine gf_X9_15 (c := 67) (pc := 134) C kx_67 dX9_payments_134 ?_
        refine j_iloadn (pc := 137) C 3 dX9_payments_137 rfl rfl ?_
        refine j_iload (pc := 138) C 5 dX9_payments_138 rfl ?_
        refine j_if_ne (tgt := 150) (pc := 140) C dX9_payments_140 (by decide) hm (fun _ hm => ?_) (fun _ hm => ?_)
        · refine j_iload (pc := 143) C 4 dX9_payments_143 rfl ?_
          refine j_iconst (v := 1) (pc := 145) C dX9_payments_145 (by decide) ?_
          refine j_iadd (pc := 146) C dX9_payments_146 ?_
          refine j_goto (tgt := 152) (pc := 147) C dX9_payments_147 (by decide) ?_
          refine j_guard hm (fun hg15 hm => ?_)
          refine j_iastL (c := 69) (n := 256) (pc := 152) C (kX_lt kx_69 (by decide)) (cx_a kx_69 lx_69) hg15 dX9_payments_152 hm (fun σ14 hm => ?_)
          refine j_iinc (v := (x3_11 + (1 : Int32))) (ls' := [(3, .int (x3_11 + (1 : Int32))), (0, .ref (vad (gV G) 67)), (1, .int x1_11), (2, .int x2_11), (4, .int x4_11), (5, .int x5_11)]) (pc := 153) C 3 dX9_payments_153 rfl rfl (by decide) rfl ?_
          refine j_goto (tgt := 45) (pc := 156) C dX9_payments_156 (by decide) ?_
          refine j_ls [1, 2, 3, 0] rfl ?_
          exact ih _ _ _ _ hm
        · refine j_iload (pc := 150) C 4 dX9_payments_150 rfl ?_
          refine j_guard hm (fun hg17 hm => ?_)
          refine j_iastL (c := 69) (n := 256) (pc := 152) C (kX_lt kx_69 (by decide)) (cx_a kx_69 lx_69) hg17 dX9_payments_152 hm (fun σ16 hm => ?_)
          refine j_iinc (v := (x3_11 + (1 : Int32))) (ls' := [(3, .int (x3_11 + (1 : Int32))), (0, .ref (vad (gV G) 67)), (1, .int x1_11), (2, .int x2_11), (4, .int x4_11), (5, .int x5_11)]) (pc := 153) C 3 dX9_payments_153 rfl rfl (by decide) rfl ?_
          refine j_goto (tgt := 45) (pc := 156) C dX9_payments_156 (by decide) ?_
          refine j_ls [1, 2, 3, 0] rfl ?_
          exact ih _ _ _ _ hm
      · refine j_ls [0, 1, 2] rfl ?_
        exact hk159 _ _ _ hm

def mX9_payments (F : Nat) (x1 : Int32) (σ : jS) : Option (Int32 × jS) := (if x1 < 0 then some ((-2 : Int32), σ) else (if (8 : Int32) < x1 then some ((-2 : Int32), σ) else (Option.bind (mX9_paidInAll F x1 σ) fun q1 => (if q1 = (-2 : Int32) then some ((-2 : Int32), σ) else (lt (((1 : Int32) <<< (x1 &&& 31)) - (1 : Int32)) fun y2 => (lt (js σ 68 0 (0 : Int32)) fun σ3 => (lt (js σ3 69 0 (0 : Int32)) fun σ4 => (lp_X9_payments_45 F (fun x1_18 x2_18 σ18 => (if x2_18 < (256 : Int32) then (if jin x2_18 256 = true then some ((x1_18 - (σ18 69 x2_18.toNatClampNeg)), σ18) else none) else some ((-2 : Int32), σ18))) F x1 y2 (1 : Int32) σ4))))))))
set_option maxHeartbeats 4000000 in
set_option maxRecDepth 100000 in
theorem kX9_payments {V : jV} {F : Nat} {x1 : Int32} {σ : jS} {v : (Int32 × jS)} (hm : mX9_payments F x1 σ = some v) : Ct cfX 70 V yX9_payments cX9_payments 8 (some .int) 4 [.ref (vad V 67), .int x1] σ v := by
  refine j_start (own := RX9) (by decide) rfl (Nat.le_of_ble_eq_true rfl) ?_
  intro G hV C
  subst hV
  unfold mX9_payments at hm
  show JX G 0 [(0, .ref (vad (gV G) 67)), (1, .int x1)] [] σ v
  refine j_iloadn (pc := 0) C 1 dX9_payments_0 rfl rfl ?_
  refine j_if_lt (tgt := 20) (pc := 1) C dX9_payments_1 (by decide) hm (fun _ hm => ?_) (fun _ hm => ?_)
  · refine j_bipush (v := -2) (pc := 20) C dX9_payments_20 (by decide) ?_
    exact j_iretS (pc := 22) C rfl dX9_payments_22 hm
  · refine j_iloadn (pc := 4) C 1 dX9_payments_4 rfl rfl ?_
    refine j_bipush (v := 8) (pc := 5) C dX9_payments_5 (by decide) ?_
    refine j_icmp_gt (tgt := 20) (pc := 7) C dX9_payments_7 (by decide) hm (fun _ hm => ?_) (fun _ hm => ?_)
    · refine j_bipush (v := -2) (pc := 20) C dX9_payments_20 (by decide) ?_
      exact j_iretS (pc := 22) C rfl dX9_payments_22 hm
    · refine j_aloadn (pc := 10) C 0 dX9_payments_10 rfl rfl ?_
      refine j_iloadn (pc := 11) C 1 dX9_payments_11 rfl rfl ?_
      obtain ⟨q1, hq1, hm⟩ := Option.bind_eq_some_iff.mp hm
      refine cl_X9_38 (c := 67) (pc := 12) C kx_67 (kX9_paidInAll hq1) (by decide) (Nat.le_of_ble_eq_true rfl) dX9_payments_12 ?_
      refine j_bipush (v := -2) (pc := 15) C dX9_payments_15 (by decide) ?_
      refine j_icmp_ne (tgt := 23) (pc := 17) C dX9_payments_17 (by decide) hm (fun _ hm => ?_) (fun _ hm => ?_)
      · refine j_bipush (v := -2) (pc := 20) C dX9_payments_20 (by decide) ?_
        exact j_iretS (pc := 22) C rfl dX9_payments_22 hm
      · refine j_iconst (v := 1) (pc := 23) C dX9_payments_23 (by decide) ?_
        refine j_iloadn (pc := 24) C 1 dX9_payments_24 rfl rfl ?_
        refine j_ishl (pc := 25) C dX9_payments_25 ?_
        refine j_iconst (v := 1) (pc := 26) C dX9_payments_26 (by decide) ?_
        refine j_isub (pc := 27) C dX9_payments_27 ?_
        refine j_lti hm (fun y2 hm => ?_)
        refine j_istoren (ls' := [(2, .int y2), (0, .ref (vad (gV G) 67)), (1, .int x1)]) (pc := 28) C dX9_payments_28 rfl (by decide) rfl ?_
        refine j_aloadn (pc := 29) C 1 dX9_payments_29 rfl rfl ?_
        refine gf_X9_11 (c := 67) (pc := 30) C kx_67 dX9_payments_30 ?_
        refine j_iconst (v := 0) (pc := 33) C dX9_payments_33 (by decide) ?_
        refine j_iconst (v := 0) (pc := 34) C dX9_payments_34 (by decide) ?_
        refine j_iastK (c := 68) (n := 256) (k := 0) (pc := 35) C (kX_lt kx_68 (by decide)) (cx_a kx_68 lx_68) rfl (by decide) dX9_payments_35 hm (fun σ3 hm => ?_)
        refine j_aloadn (pc := 36) C 1 dX9_payments_36 rfl rfl ?_
        refine gf_X9_15 (c := 67) (pc := 37) C kx_67 dX9_payments_37 ?_
        refine j_iconst (v := 0) (pc := 40) C dX9_payments_40 (by decide) ?_
        refine j_iconst (v := 0) (pc := 41) C dX9_payments_41 (by decide) ?_
        refine j_iastK (c := 69) (n := 256) (k := 0) (pc := 42) C (kX_lt kx_69 (by decide)) (cx_a kx_69 lx_69) rfl (by decide) dX9_payments_42 hm (fun σ4 hm => ?_)
        refine j_iconst (v := 1) (pc := 43) C dX9_payments_43 (by decide) ?_
        refine j_istoren (ls' := [(3, .int (1 : Int32)), (2, .int y2), (0, .ref (vad (gV G) 67)), (1, .int x1)]) (pc := 44) C dX9_payments_44 rfl (by decide) rfl ?_
        refine j_ls [2, 3, 1, 0] rfl ?_
        refine lp_X9_payments_45_ok C F _ (fun x1_18 x2_18 σ18 hm => ?_) F _ _ _ _ hm
        refine j_iloadn (pc := 159) C 2 dX9_payments_159 rfl rfl ?_
        refine j_sipush (v := 256) (pc := 160) C dX9_payments_160 (by decide) ?_
        refine j_icmp_ge (tgt := 177) (pc := 163) C dX9_payments_163 (by decide) hm (fun _ hm => ?_) (fun _ hm => ?_)
        · refine j_iloadn (pc := 166) C 1 dX9_payments_166 rfl rfl ?_
          refine j_aloadn (pc := 167) C 0 dX9_payments_167 rfl rfl ?_
          refine gf_X9_15 (c := 67) (pc := 168) C kx_67 dX9_payments_168 ?_
          refine j_iloadn (pc := 171) C 2 dX9_payments_171 rfl rfl ?_
          refine j_guard hm (fun hg19 hm => ?_)
          refine j_iald (c := 69) (n := 256) (pc := 172) C (kX_lt kx_69 (by decide)) (cx_a kx_69 lx_69 _) hg19 dX9_payments_172 ?_
          refine j_isub (pc := 173) C dX9_payments_173 ?_
          refine j_goto (tgt := 179) (pc := 174) C dX9_payments_174 (by decide) ?_
          exact j_iretS (pc := 179) C rfl dX9_payments_179 hm
        · refine j_bipush (v := -2) (pc := 177) C dX9_payments_177 (by decide) ?_
          exact j_iretS (pc := 179) C rfl dX9_payments_179 hm

def lp_X9_bankRun_2 (F : Nat) (σ : jS) (k29 : Int32 → Int32 → Option Int32) : Nat → Int32 → Int32 → Int32 → Option Int32
  | 0, _, _, _ => none
  | n + 1, x1, x2, x3 => (if x3 < x1 then (Option.bind (mX10_byteAt F x3 σ) fun q1 => (if (16 : Int32) < q1 then some (-2 : Int32) else (lp_X9_bankRun_2 F σ k29 n x1 x2 ((x3 + (1 : Int32)))))) else (k29 x1 x2))
set_option maxHeartbeats 4000000 in
set_option maxRecDepth 100000 in
theorem lp_X9_bankRun_2_ok {G : jG} (C : jc cfX 70 G cX9_bankRun RX9 8 (some .int) 1) (F : Nat) (σ : jS) {v : Int32} (k29 : Int32 → Int32 → Option Int32) (hk29 : ∀ (x1 : Int32) (x2 : Int32), k29 x1 x2 = some v → JX G 29 [(0, .ref (vad (gV G) 67)), (1, .int x1), (2, .int x2)] [] σ (v, σ)) : ∀ (n : Nat) (x1 : Int32) (x2 : Int32) (x3 : Int32), lp_X9_bankRun_2 F σ k29 n x1 x2 x3 = some v → JX G 2 [(0, .ref (vad (gV G) 67)), (1, .int x1), (2, .int x2), (3, .int x3)] [] σ (v, σ) := by
  intro n
  induction n with
  | zero =>
    intro x1 x2 x3 hm
    rw [lp_X9_bankRun_2] at hm
    cases hm
  | succ n ih =>
    intro x1 x2 x3 hm
    rw [lp_X9_bankRun_2] at hm
    refine j_iloadn (pc := 2) C 3 dX9_bankRun_2 rfl rfl ?_
    refine j_iloadn (pc := 3) C 1 dX9_bankRun_3 rfl rfl ?_
    refine j_icmp_ge (tgt := 29) (pc := 4) C dX9_bankRun_4 (by decide) hm (fun _ hm => ?_) (fun _ hm => ?_)
    · refine j_aloadn (pc := 7) C 0 dX9_bankRun_7 rfl rfl ?_
      refine gf_X9_18 (c := 67) (pc := 8) C kx_67 dX9_bankRun_8 ?_
      refine j_iloadn (pc := 11) C 3 dX9_bankRun_11 rfl rfl ?_
      obtain ⟨q1, hq1, hm⟩ := Option.bind_eq_some_iff.mp hm
      refine cl_X9_41 (c := 1) (pc := 12) C kx_1 (kX10_byteAt hq1) (by decide) (Nat.le_of_ble_eq_true rfl) dX9_bankRun_12 ?_
      refine j_bipush (v := 16) (pc := 15) C dX9_bankRun_15 (by decide) ?_
      refine j_icmp_le (tgt := 23) (pc := 17) C dX9_bankRun_17 (by decide) hm (fun _ hm => ?_) (fun _ hm => ?_)
      · refine j_bipush (v := -2) (pc := 20) C dX9_bankRun_20 (by decide) ?_
        exact j_iret (pc := 22) C rfl dX9_bankRun_22 hm
      · refine j_iinc (v := (x3 + (1 : Int32))) (ls' := [(3, .int (x3 + (1 : Int32))), (0, .ref (vad (gV G) 67)), (1, .int x1), (2, .int x2)]) (pc := 23) C 3 dX9_bankRun_23 rfl rfl (by decide) rfl ?_
        refine j_goto (tgt := 2) (pc := 26) C dX9_bankRun_26 (by decide) ?_
        refine j_ls [1, 2, 3, 0] rfl ?_
        exact ih _ _ _ hm
    · refine j_ls [0, 1, 2] rfl ?_
      exact hk29 _ _ hm

def lp_X9_bankRun_49 (F : Nat) (σ : jS) (k84 : Int32 → Int32 → Int32 → Int32 → Int32 → Int32 → Option Int32) : Nat → Int32 → Int32 → Int32 → Int32 → Int32 → Int32 → Int32 → Option Int32
  | 0, _, _, _, _, _, _, _ => none
  | n + 1, x1, x2, x3, x4, x5, x6, x7 => (if x7 < x1 then (Option.bind (mX10_byteAt F x7 σ) fun q3 => (if x3 < q3 then (lt (x6 + (0 : Int32)) fun y4 => (lp_X9_bankRun_49 F σ k84 n x1 x2 x3 x4 x5 y4 ((x7 + (1 : Int32))))) else (lt (x6 + (1 : Int32)) fun y5 => (lp_X9_bankRun_49 F σ k84 n x1 x2 x3 x4 x5 y5 ((x7 + (1 : Int32))))))) else (k84 x1 x2 x3 x4 x5 x6))
set_option maxHeartbeats 4000000 in
set_option maxRecDepth 100000 in
theorem lp_X9_bankRun_49_ok {G : jG} (C : jc cfX 70 G cX9_bankRun RX9 8 (some .int) 1) (F : Nat) (σ : jS) {v : Int32} (k84 : Int32 → Int32 → Int32 → Int32 → Int32 → Int32 → Option Int32) (hk84 : ∀ (x1 : Int32) (x2 : Int32) (x3 : Int32) (x4 : Int32) (x5 : Int32) (x6 : Int32), k84 x1 x2 x3 x4 x5 x6 = some v → JX G 84 [(0, .ref (vad (gV G) 67)), (1, .int x1), (2, .int x2), (3, .int x3), (4, .int x4), (5, .int x5), (6, .int x6)] [] σ (v, σ)) : ∀ (n : Nat) (x1 : Int32) (x2 : Int32) (x3 : Int32) (x4 : Int32) (x5 : Int32) (x6 : Int32) (x7 : Int32), lp_X9_bankRun_49 F σ k84 n x1 x2 x3 x4 x5 x6 x7 = some v → JX G 49 [(0, .ref (vad (gV G) 67)), (1, .int x1), (2, .int x2), (3, .int x3), (4, .int x4), (5, .int x5), (6, .int x6), (7, .int x7)] [] σ (v, σ) := by
  intro n
  induction n with
  | zero =>
    intro x1 x2 x3 x4 x5 x6 x7 hm
    rw [lp_X9_bankRun_49] at hm
    cases hm
  | succ n ih =>
    intro x1 x2 x3 x4 x5 x6 x7 hm
    rw [lp_X9_bankRun_49] at hm
    refine j_iload (pc := 49) C 7 dX9_bankRun_49 rfl ?_
    refine j_iloadn (pc := 51) C 1 dX9_bankRun_51 rfl rfl ?_
    refine j_icmp_ge (tgt := 84) (pc := 52) C dX9_bankRun_52 (by decide) hm (fun _ hm => ?_) (fun _ hm => ?_)
    · refine j_iload (pc := 55) C 6 dX9_bankRun_55 rfl ?_
      refine j_aloadn (pc := 57) C 0 dX9_bankRun_57 rfl rfl ?_
      refine gf_X9_18 (c := 67) (pc := 58) C kx_67 dX9_bankRun_58 ?_
      refine j_iload (pc := 61) C 7 dX9_bankRun_61 rfl ?_
      obtain ⟨q3, hq3, hm⟩ := Option.bind_eq_some_iff.mp hm
      refine cl_X9_41 (c := 1) (pc := 63) C kx_1 (kX10_byteAt hq3) (by decide) (Nat.le_of_ble_eq_true rfl) dX9_bankRun_63 ?_
      refine j_iloadn (pc := 66) C 3 dX9_bankRun_66 rfl rfl ?_
      refine j_icmp_gt (tgt := 74) (pc := 67) C dX9_bankRun_67 (by decide) hm (fun _ hm => ?_) (fun _ hm => ?_)
      · refine j_iconst (v := 0) (pc := 74) C dX9_bankRun_74 (by decide) ?_
        refine j_iadd (pc := 75) C dX9_bankRun_75 ?_
        refine j_lti hm (fun y4 hm => ?_)
        refine j_istore (ls' := [(6, .int y4), (0, .ref (vad (gV G) 67)), (1, .int x1), (2, .int x2), (3, .int x3), (4, .int x4), (5, .int x5), (7, .int x7)]) (pc := 76) C dX9_bankRun_76 (by decide) rfl ?_
        refine j_iinc (v := (x7 + (1 : Int32))) (ls' := [(7, .int (x7 + (1 : Int32))), (6, .int y4), (0, .ref (vad (gV G) 67)), (1, .int x1), (2, .int x2), (3, .int x3), (4, .int x4), (5, .int x5)]) (pc := 78) C 7 dX9_bankRun_78 rfl rfl (by decide) rfl ?_
        refine j_goto (tgt := 49) (pc := 81) C dX9_bankRun_81 (by decide) ?_
        refine j_ls [2, 3, 4, 5, 6, 7, 1, 0] rfl ?_
        exact ih _ _ _ _ _ _ _ hm
      · refine j_iconst (v := 1) (pc := 70) C dX9_bankRun_70 (by decide) ?_
        refine j_goto (tgt := 75) (pc := 71) C dX9_bankRun_71 (by decide) ?_
        refine j_iadd (pc := 75) C dX9_bankRun_75 ?_
        refine j_lti hm (fun y5 hm => ?_)
        refine j_istore (ls' := [(6, .int y5), (0, .ref (vad (gV G) 67)), (1, .int x1), (2, .int x2), (3, .int x3), (4, .int x4), (5, .int x5), (7, .int x7)]) (pc := 76) C dX9_bankRun_76 (by decide) rfl ?_
        refine j_iinc (v := (x7 + (1 : Int32))) (ls' := [(7, .int (x7 + (1 : Int32))), (6, .int y5), (0, .ref (vad (gV G) 67)), (1, .int x1), (2, .int x2), (3, .int x3), (4, .int x4), (5, .int x5)]) (pc := 78) C 7 dX9_bankRun_78 rfl rfl (by decide) rfl ?_
        refine j_goto (tgt := 49) (pc := 81) C dX9_bankRun_81 (by decide) ?_
        refine j_ls [2, 3, 4, 5, 6, 7, 1, 0] rfl ?_
        exact ih _ _ _ _ _ _ _ hm
    · refine j_ls [0, 1, 2, 3, 4, 5, 6] rfl ?_
      exact hk84 _ _ _ _ _ _ hm

def lp_X9_bankRun_37 (F : Nat) (σ : jS) : Nat → Int32 → Int32 → Int32 → Int32 → Int32 → Option Int32
  | 0, _, _, _, _, _ => none
  | n + 1, x1, x2, x3, x4, x5 => (if x5 < x1 then (lp_X9_bankRun_49 F σ (fun x1_6 x2_6 x3_6 x4_6 x5_6 x6_6 => (if x3_6 < x6_6 then (lp_X9_bankRun_37 F σ n x1_6 x2_6 x6_6 ((x4_6 + (1 : Int32))) ((x5_6 + (1 : Int32)))) else (lp_X9_bankRun_37 F σ n x1_6 x2_6 x3_6 x4_6 ((x5_6 + (1 : Int32)))))) F x1 x2 x3 x4 x5 (0 : Int32) (0 : Int32)) else (if x2 = 0 then some x3 else some x4))
set_option maxHeartbeats 4000000 in
set_option maxRecDepth 100000 in
theorem lp_X9_bankRun_37_ok {G : jG} (C : jc cfX 70 G cX9_bankRun RX9 8 (some .int) 1) (F : Nat) (σ : jS) {v : Int32} : ∀ (n : Nat) (x1 : Int32) (x2 : Int32) (x3 : Int32) (x4 : Int32) (x5 : Int32), lp_X9_bankRun_37 F σ n x1 x2 x3 x4 x5 = some v → JX G 37 [(0, .ref (vad (gV G) 67)), (1, .int x1), (2, .int x2), (3, .int x3), (4, .int x4), (5, .int x5)] [] σ (v, σ) := by
  intro n
  induction n with
  | zero =>
    intro x1 x2 x3 x4 x5 hm
    rw [lp_X9_bankRun_37] at hm
    cases hm
  | succ n ih =>
    intro x1 x2 x3 x4 x5 hm
    rw [lp_X9_bankRun_37] at hm
    refine j_iload (pc := 37) C 5 dX9_bankRun_37 rfl ?_
    refine j_iloadn (pc := 39) C 1 dX9_bankRun_39 rfl rfl ?_
    refine j_icmp_ge (tgt := 102) (pc := 40) C dX9_bankRun_40 (by decide) hm (fun _ hm => ?_) (fun _ hm => ?_)
    · refine j_iconst (v := 0) (pc := 43) C dX9_bankRun_43 (by decide) ?_
      refine j_istore (ls' := [(6, .int (0 : Int32)), (0, .ref (vad (gV G) 67)), (1, .int x1), (2, .int x2), (3, .int x3), (4, .int x4), (5, .int x5)]) (pc := 44) C dX9_bankRun_44 (by decide) rfl ?_
      refine j_iconst (v := 0) (pc := 46) C dX9_bankRun_46 (by decide) ?_
      refine j_istore (ls' := [(7, .int (0 : Int32)), (6, .int (0 : Int32)), (0, .ref (vad (gV G) 67)), (1, .int x1), (2, .int x2), (3, .int x3), (4, .int x4), (5, .int x5)]) (pc := 47) C dX9_bankRun_47 (by decide) rfl ?_
      refine j_ls [2, 3, 4, 5, 6, 7, 1, 0] rfl ?_
      refine lp_X9_bankRun_49_ok C F σ _ (fun x1_6 x2_6 x3_6 x4_6 x5_6 x6_6 hm => ?_) F _ _ _ _ _ _ _ hm
      refine j_iload (pc := 84) C 6 dX9_bankRun_84 rfl ?_
      refine j_iloadn (pc := 86) C 3 dX9_bankRun_86 rfl rfl ?_
      refine j_icmp_le (tgt := 96) (pc := 87) C dX9_bankRun_87 (by decide) hm (fun _ hm => ?_) (fun _ hm => ?_)
      · refine j_iload (pc := 90) C 6 dX9_bankRun_90 rfl ?_
        refine j_istoren (ls' := [(3, .int x6_6), (0, .ref (vad (gV G) 67)), (1, .int x1_6), (2, .int x2_6), (4, .int x4_6), (5, .int x5_6), (6, .int x6_6)]) (pc := 92) C dX9_bankRun_92 rfl (by decide) rfl ?_
        refine j_iinc (v := (x4_6 + (1 : Int32))) (ls' := [(4, .int (x4_6 + (1 : Int32))), (3, .int x6_6), (0, .ref (vad (gV G) 67)), (1, .int x1_6), (2, .int x2_6), (5, .int x5_6), (6, .int x6_6)]) (pc := 93) C 4 dX9_bankRun_93 rfl rfl (by decide) rfl ?_
        refine j_iinc (v := (x5_6 + (1 : Int32))) (ls' := [(5, .int (x5_6 + (1 : Int32))), (4, .int (x4_6 + (1 : Int32))), (3, .int x6_6), (0, .ref (vad (gV G) 67)), (1, .int x1_6), (2, .int x2_6), (6, .int x6_6)]) (pc := 96) C 5 dX9_bankRun_96 rfl rfl (by decide) rfl ?_
        refine j_goto (tgt := 37) (pc := 99) C dX9_bankRun_99 (by decide) ?_
        refine j_ls [3, 4, 5, 2, 1, 0] rfl ?_
        exact ih _ _ _ _ _ hm
      · refine j_iinc (v := (x5_6 + (1 : Int32))) (ls' := [(5, .int (x5_6 + (1 : Int32))), (0, .ref (vad (gV G) 67)), (1, .int x1_6), (2, .int x2_6), (3, .int x3_6), (4, .int x4_6), (6, .int x6_6)]) (pc := 96) C 5 dX9_bankRun_96 rfl rfl (by decide) rfl ?_
        refine j_goto (tgt := 37) (pc := 99) C dX9_bankRun_99 (by decide) ?_
        refine j_ls [1, 2, 3, 4, 5, 0] rfl ?_
        exact ih _ _ _ _ _ hm
    · refine j_iloadn (pc := 102) C 2 dX9_bankRun_102 rfl rfl ?_
      refine j_if_ne (tgt := 110) (pc := 103) C dX9_bankRun_103 (by decide) hm (fun _ hm => ?_) (fun _ hm => ?_)
      · refine j_iloadn (pc := 106) C 3 dX9_bankRun_106 rfl rfl ?_
        refine j_goto (tgt := 112) (pc := 107) C dX9_bankRun_107 (by decide) ?_
        exact j_iret (pc := 112) C rfl dX9_bankRun_112 hm
      · refine j_iload (pc := 110) C 4 dX9_bankRun_110 rfl ?_
        exact j_iret (pc := 112) C rfl dX9_bankRun_112 hm

def mX9_bankRun (F : Nat) (x1 : Int32) (x2 : Int32) (σ : jS) : Option Int32 := (lp_X9_bankRun_2 F σ (fun x1_2 x2_2 => (lp_X9_bankRun_37 F σ F x1_2 x2_2 (0 : Int32) (0 : Int32) (0 : Int32))) F x1 x2 (0 : Int32))
set_option maxHeartbeats 4000000 in
set_option maxRecDepth 100000 in
theorem kX9_bankRun {V : jV} {F : Nat} {x1 : Int32} {x2 : Int32} {σ : jS} {v : Int32} (hm : mX9_bankRun F x1 x2 σ = some v) : Ct cfX 70 V yX9_bankRun cX9_bankRun 8 (some .int) 1 [.ref (vad V 67), .int x1, .int x2] σ (v, σ) := by
  refine j_start (own := RX9) (by decide) rfl (Nat.le_of_ble_eq_true rfl) ?_
  intro G hV C
  subst hV
  unfold mX9_bankRun at hm
  show JX G 0 [(0, .ref (vad (gV G) 67)), (1, .int x1), (2, .int x2)] [] σ (v, σ)
  refine j_iconst (v := 0) (pc := 0) C dX9_bankRun_0 (by decide) ?_
  refine j_istoren (ls' := [(3, .int (0 : Int32)), (0, .ref (vad (gV G) 67)), (1, .int x1), (2, .int x2)]) (pc := 1) C dX9_bankRun_1 rfl (by decide) rfl ?_
  refine j_ls [1, 2, 3, 0] rfl ?_
  refine lp_X9_bankRun_2_ok C F σ _ (fun x1_2 x2_2 hm => ?_) F _ _ _ hm
  refine j_iconst (v := 0) (pc := 29) C dX9_bankRun_29 (by decide) ?_
  refine j_istoren (ls' := [(3, .int (0 : Int32)), (0, .ref (vad (gV G) 67)), (1, .int x1_2), (2, .int x2_2)]) (pc := 30) C dX9_bankRun_30 rfl (by decide) rfl ?_
  refine j_iconst (v := 0) (pc := 31) C dX9_bankRun_31 (by decide) ?_
  refine j_istore (ls' := [(4, .int (0 : Int32)), (3, .int (0 : Int32)), (0, .ref (vad (gV G) 67)), (1, .int x1_2), (2, .int x2_2)]) (pc := 32) C dX9_bankRun_32 (by decide) rfl ?_
  refine j_iconst (v := 0) (pc := 34) C dX9_bankRun_34 (by decide) ?_
  refine j_istore (ls' := [(5, .int (0 : Int32)), (4, .int (0 : Int32)), (3, .int (0 : Int32)), (0, .ref (vad (gV G) 67)), (1, .int x1_2), (2, .int x2_2)]) (pc := 35) C dX9_bankRun_35 (by decide) rfl ?_
  refine j_ls [3, 4, 5, 2, 1, 0] rfl ?_
  exact lp_X9_bankRun_37_ok C F σ  F _ _ _ _ _ hm

def lp_X9_isLifeTable_19 (F : Nat) (σ : jS) : Nat → Int32 → Int32 → Int32 → Option Int32
  | 0, _, _, _ => none
  | n + 1, x1, x2, x3 => (if x3 < x1 then (if x2 = 0 then (lp_X9_isLifeTable_19 F σ n x1 (0 : Int32) ((x3 + (1 : Int32)))) else (Option.bind (mX10_byteAt F x3 σ) fun q2 => (Option.bind (mX10_byteAt F ((x3 - (1 : Int32))) σ) fun q3 => (if q3 < q2 then (lp_X9_isLifeTable_19 F σ n x1 (0 : Int32) ((x3 + (1 : Int32)))) else (lp_X9_isLifeTable_19 F σ n x1 (1 : Int32) ((x3 + (1 : Int32)))))))) else (if jbo x2 = true then some x2 else none))
set_option maxHeartbeats 4000000 in
set_option maxRecDepth 100000 in
theorem lp_X9_isLifeTable_19_ok {G : jG} (C : jc cfX 70 G cX9_isLifeTable RX9 4 (some .boolean) 1) (F : Nat) (σ : jS) {v : Int32} : ∀ (n : Nat) (x1 : Int32) (x2 : Int32) (x3 : Int32), lp_X9_isLifeTable_19 F σ n x1 x2 x3 = some v → JX G 19 [(0, .ref (vad (gV G) 67)), (1, .int x1), (2, .int x2), (3, .int x3)] [] σ (v, σ) := by
  intro n
  induction n with
  | zero =>
    intro x1 x2 x3 hm
    rw [lp_X9_isLifeTable_19] at hm
    cases hm
  | succ n ih =>
    intro x1 x2 x3 hm
    rw [lp_X9_isLifeTable_19] at hm
    refine j_iloadn (pc := 19) C 3 dX9_isLifeTable_19 rfl rfl ?_
    refine j_iloadn (pc := 20) C 1 dX9_isLifeTable_20 rfl rfl ?_
    refine j_icmp_ge (tgt := 61) (pc := 21) C dX9_isLifeTable_21 (by decide) hm (fun _ hm => ?_) (fun _ hm => ?_)
    · refine j_iloadn (pc := 24) C 2 dX9_isLifeTable_24 rfl rfl ?_
      refine j_if_eq (tgt := 53) (pc := 25) C dX9_isLifeTable_25 (by decide) hm (fun _ hm => ?_) (fun _ hm => ?_)
      · refine j_iconst (v := 0) (pc := 53) C dX9_isLifeTable_53 (by decide) ?_
        refine j_istoren (ls' := [(2, .int (0 : Int32)), (0, .ref (vad (gV G) 67)), (1, .int x1), (3, .int x3)]) (pc := 54) C dX9_isLifeTable_54 rfl (by decide) rfl ?_
        refine j_iinc (v := (x3 + (1 : Int32))) (ls' := [(3, .int (x3 + (1 : Int32))), (2, .int (0 : Int32)), (0, .ref (vad (gV G) 67)), (1, .int x1)]) (pc := 55) C 3 dX9_isLifeTable_55 rfl rfl (by decide) rfl ?_
        refine j_goto (tgt := 19) (pc := 58) C dX9_isLifeTable_58 (by decide) ?_
        refine j_ls [2, 3, 1, 0] rfl ?_
        exact ih _ _ _ hm
      · refine j_aloadn (pc := 28) C 0 dX9_isLifeTable_28 rfl rfl ?_
        refine gf_X9_18 (c := 67) (pc := 29) C kx_67 dX9_isLifeTable_29 ?_
        refine j_iloadn (pc := 32) C 3 dX9_isLifeTable_32 rfl rfl ?_
        obtain ⟨q2, hq2, hm⟩ := Option.bind_eq_some_iff.mp hm
        refine cl_X9_41 (c := 1) (pc := 33) C kx_1 (kX10_byteAt hq2) (by decide) (Nat.le_of_ble_eq_true rfl) dX9_isLifeTable_33 ?_
        refine j_aloadn (pc := 36) C 0 dX9_isLifeTable_36 rfl rfl ?_
        refine gf_X9_18 (c := 67) (pc := 37) C kx_67 dX9_isLifeTable_37 ?_
        refine j_iloadn (pc := 40) C 3 dX9_isLifeTable_40 rfl rfl ?_
        refine j_iconst (v := 1) (pc := 41) C dX9_isLifeTable_41 (by decide) ?_
        refine j_isub (pc := 42) C dX9_isLifeTable_42 ?_
        obtain ⟨q3, hq3, hm⟩ := Option.bind_eq_some_iff.mp hm
        refine cl_X9_41 (c := 1) (pc := 43) C kx_1 (kX10_byteAt hq3) (by decide) (Nat.le_of_ble_eq_true rfl) dX9_isLifeTable_43 ?_
        refine j_icmp_gt (tgt := 53) (pc := 46) C dX9_isLifeTable_46 (by decide) hm (fun _ hm => ?_) (fun _ hm => ?_)
        · refine j_iconst (v := 0) (pc := 53) C dX9_isLifeTable_53 (by decide) ?_
          refine j_istoren (ls' := [(2, .int (0 : Int32)), (0, .ref (vad (gV G) 67)), (1, .int x1), (3, .int x3)]) (pc := 54) C dX9_isLifeTable_54 rfl (by decide) rfl ?_
          refine j_iinc (v := (x3 + (1 : Int32))) (ls' := [(3, .int (x3 + (1 : Int32))), (2, .int (0 : Int32)), (0, .ref (vad (gV G) 67)), (1, .int x1)]) (pc := 55) C 3 dX9_isLifeTable_55 rfl rfl (by decide) rfl ?_
          refine j_goto (tgt := 19) (pc := 58) C dX9_isLifeTable_58 (by decide) ?_
          refine j_ls [2, 3, 1, 0] rfl ?_
          exact ih _ _ _ hm
        · refine j_iconst (v := 1) (pc := 49) C dX9_isLifeTable_49 (by decide) ?_
          refine j_goto (tgt := 54) (pc := 50) C dX9_isLifeTable_50 (by decide) ?_
          refine j_istoren (ls' := [(2, .int (1 : Int32)), (0, .ref (vad (gV G) 67)), (1, .int x1), (3, .int x3)]) (pc := 54) C dX9_isLifeTable_54 rfl (by decide) rfl ?_
          refine j_iinc (v := (x3 + (1 : Int32))) (ls' := [(3, .int (x3 + (1 : Int32))), (2, .int (1 : Int32)), (0, .ref (vad (gV G) 67)), (1, .int x1)]) (pc := 55) C 3 dX9_isLifeTable_55 rfl rfl (by decide) rfl ?_
          refine j_goto (tgt := 19) (pc := 58) C dX9_isLifeTable_58 (by decide) ?_
          refine j_ls [2, 3, 1, 0] rfl ?_
          exact ih _ _ _ hm
    · refine j_iloadn (pc := 61) C 2 dX9_isLifeTable_61 rfl rfl ?_
      refine j_guard hm (fun hb4 hm => ?_)
      exact j_zret (pc := 62) C rfl hb4 dX9_isLifeTable_62 hm

def jn_X9_isLifeTable_16 (F : Nat) (σ : jS) (x1 : Int32) (s0 : Int32) : Option Int32 := (lp_X9_isLifeTable_19 F σ F x1 s0 (1 : Int32))
set_option maxHeartbeats 4000000 in
set_option maxRecDepth 100000 in
theorem jn_X9_isLifeTable_16_ok {G : jG} (C : jc cfX 70 G cX9_isLifeTable RX9 4 (some .boolean) 1) (F : Nat) (σ : jS) {v : Int32} : ∀ (x1 : Int32) (s0 : Int32), jn_X9_isLifeTable_16 F σ x1 s0 = some v → JX G 16 [(0, .ref (vad (gV G) 67)), (1, .int x1)] [.int s0] σ (v, σ) := by
  intro x1 s0 hm
  unfold jn_X9_isLifeTable_16 at hm
  refine j_istoren (ls' := [(2, .int s0), (0, .ref (vad (gV G) 67)), (1, .int x1)]) (pc := 16) C dX9_isLifeTable_16 rfl (by decide) rfl ?_
  refine j_iconst (v := 1) (pc := 17) C dX9_isLifeTable_17 (by decide) ?_
  refine j_istoren (ls' := [(3, .int (1 : Int32)), (2, .int s0), (0, .ref (vad (gV G) 67)), (1, .int x1)]) (pc := 18) C dX9_isLifeTable_18 rfl (by decide) rfl ?_
  refine j_ls [2, 3, 1, 0] rfl ?_
  exact lp_X9_isLifeTable_19_ok C F σ  F _ _ _ hm

def mX9_isLifeTable (F : Nat) (x1 : Int32) (σ : jS) : Option Int32 := (Option.bind (mX10_byteAt F (0 : Int32) σ) fun q1 => (if 0 < q1 then (jn_X9_isLifeTable_16 F σ x1 (1 : Int32)) else (jn_X9_isLifeTable_16 F σ x1 (0 : Int32))))
set_option maxHeartbeats 4000000 in
set_option maxRecDepth 100000 in
theorem kX9_isLifeTable {V : jV} {F : Nat} {x1 : Int32} {σ : jS} {v : Int32} (hm : mX9_isLifeTable F x1 σ = some v) : Ct cfX 70 V yX9_isLifeTable cX9_isLifeTable 4 (some .boolean) 1 [.ref (vad V 67), .int x1] σ (v, σ) := by
  refine j_start (own := RX9) (by decide) rfl (Nat.le_of_ble_eq_true rfl) ?_
  intro G hV C
  subst hV
  unfold mX9_isLifeTable at hm
  show JX G 0 [(0, .ref (vad (gV G) 67)), (1, .int x1)] [] σ (v, σ)
  refine j_aloadn (pc := 0) C 0 dX9_isLifeTable_0 rfl rfl ?_
  refine gf_X9_18 (c := 67) (pc := 1) C kx_67 dX9_isLifeTable_1 ?_
  refine j_iconst (v := 0) (pc := 4) C dX9_isLifeTable_4 (by decide) ?_
  obtain ⟨q1, hq1, hm⟩ := Option.bind_eq_some_iff.mp hm
  refine cl_X9_41 (c := 1) (pc := 5) C kx_1 (kX10_byteAt hq1) (by decide) (Nat.le_of_ble_eq_true rfl) dX9_isLifeTable_5 ?_
  refine j_if_le (tgt := 15) (pc := 8) C dX9_isLifeTable_8 (by decide) hm (fun _ hm => ?_) (fun _ hm => ?_)
  · refine j_iconst (v := 1) (pc := 11) C dX9_isLifeTable_11 (by decide) ?_
    refine j_goto (tgt := 16) (pc := 12) C dX9_isLifeTable_12 (by decide) ?_
    exact jn_X9_isLifeTable_16_ok C F σ  _ _ hm
  · refine j_iconst (v := 0) (pc := 15) C dX9_isLifeTable_15 (by decide) ?_
    exact jn_X9_isLifeTable_16_ok C F σ  _ _ hm

def jn_X9_ageOfMostDeaths_36 (F : Nat) (σ : jS) (k7 : Int32 → Int32 → Int32 → Int32 → Option Int32) (x1 : Int32) (x2 : Int32) (x3 : Int32) (x4 : Int32) (s0 : Int32) : Option Int32 := (Option.bind (mX10_byteAt F x4 σ) fun q2 => (lt (q2 - s0) fun y3 => (if x2 < y3 then (k7 x1 y3 x4 ((x4 + (1 : Int32)))) else (k7 x1 x2 x3 ((x4 + (1 : Int32)))))))
set_option maxHeartbeats 4000000 in
set_option maxRecDepth 100000 in
theorem jn_X9_ageOfMostDeaths_36_ok {G : jG} (C : jc cfX 70 G cX9_ageOfMostDeaths RX9 7 (some .int) 1) (F : Nat) (σ : jS) {v : Int32} (k7 : Int32 → Int32 → Int32 → Int32 → Option Int32) (hk7 : ∀ (x1 : Int32) (x2 : Int32) (x3 : Int32) (x4 : Int32), k7 x1 x2 x3 x4 = some v → JX G 7 [(0, .ref (vad (gV G) 67)), (1, .int x1), (2, .int x2), (3, .int x3), (4, .int x4)] [] σ (v, σ)) : ∀ (x1 : Int32) (x2 : Int32) (x3 : Int32) (x4 : Int32) (s0 : Int32), jn_X9_ageOfMostDeaths_36 F σ k7 x1 x2 x3 x4 s0 = some v → JX G 36 [(0, .ref (vad (gV G) 67)), (1, .int x1), (2, .int x2), (3, .int x3), (4, .int x4)] [.int s0] σ (v, σ) := by
  intro x1 x2 x3 x4 s0 hm
  unfold jn_X9_ageOfMostDeaths_36 at hm
  refine j_istore (ls' := [(5, .int s0), (0, .ref (vad (gV G) 67)), (1, .int x1), (2, .int x2), (3, .int x3), (4, .int x4)]) (pc := 36) C dX9_ageOfMostDeaths_36 (by decide) rfl ?_
  refine j_aloadn (pc := 38) C 1 dX9_ageOfMostDeaths_38 rfl rfl ?_
  refine gf_X9_18 (c := 67) (pc := 39) C kx_67 dX9_ageOfMostDeaths_39 ?_
  refine j_iload (pc := 42) C 5 dX9_ageOfMostDeaths_42 rfl ?_
  obtain ⟨q2, hq2, hm⟩ := Option.bind_eq_some_iff.mp hm
  refine cl_X9_41 (c := 1) (pc := 44) C kx_1 (kX10_byteAt hq2) (by decide) (Nat.le_of_ble_eq_true rfl) dX9_ageOfMostDeaths_44 ?_
  refine j_iload (pc := 47) C 0 dX9_ageOfMostDeaths_47 rfl ?_
  refine j_isub (pc := 49) C dX9_ageOfMostDeaths_49 ?_
  refine j_lti hm (fun y3 hm => ?_)
  refine j_istore (ls' := [(6, .int y3), (5, .int s0), (0, .ref (vad (gV G) 67)), (1, .int x1), (2, .int x2), (3, .int x3), (4, .int x4)]) (pc := 50) C dX9_ageOfMostDeaths_50 (by decide) rfl ?_
  refine j_iload (pc := 52) C 0 dX9_ageOfMostDeaths_52 rfl ?_
  refine j_iloadn (pc := 54) C 4 dX9_ageOfMostDeaths_54 rfl rfl ?_
  refine j_icmp_le (tgt := 64) (pc := 55) C dX9_ageOfMostDeaths_55 (by decide) hm (fun _ hm => ?_) (fun _ hm => ?_)
  · refine j_iload (pc := 58) C 0 dX9_ageOfMostDeaths_58 rfl ?_
    refine j_istoren (ls' := [(2, .int y3), (6, .int y3), (5, .int s0), (0, .ref (vad (gV G) 67)), (1, .int x1), (3, .int x3), (4, .int x4)]) (pc := 60) C dX9_ageOfMostDeaths_60 rfl (by decide) rfl ?_
    refine j_iload (pc := 61) C 6 dX9_ageOfMostDeaths_61 rfl ?_
    refine j_istoren (ls' := [(3, .int x4), (2, .int y3), (6, .int y3), (5, .int s0), (0, .ref (vad (gV G) 67)), (1, .int x1), (4, .int x4)]) (pc := 63) C dX9_ageOfMostDeaths_63 rfl (by decide) rfl ?_
    refine j_iinc (v := (x4 + (1 : Int32))) (ls' := [(4, .int (x4 + (1 : Int32))), (3, .int x4), (2, .int y3), (6, .int y3), (5, .int s0), (0, .ref (vad (gV G) 67)), (1, .int x1)]) (pc := 64) C 6 dX9_ageOfMostDeaths_64 rfl rfl (by decide) rfl ?_
    refine j_goto (tgt := 7) (pc := 67) C dX9_ageOfMostDeaths_67 (by decide) ?_
    refine j_ls [5, 6, 2, 1, 0] rfl ?_
    exact hk7 _ _ _ _ hm
  · refine j_iinc (v := (x4 + (1 : Int32))) (ls' := [(4, .int (x4 + (1 : Int32))), (6, .int y3), (5, .int s0), (0, .ref (vad (gV G) 67)), (1, .int x1), (2, .int x2), (3, .int x3)]) (pc := 64) C 6 dX9_ageOfMostDeaths_64 rfl rfl (by decide) rfl ?_
    refine j_goto (tgt := 7) (pc := 67) C dX9_ageOfMostDeaths_67 (by decide) ?_
    refine j_ls [3, 4, 5, 6, 0] rfl ?_
    exact hk7 _ _ _ _ hm

def lp_X9_ageOfMostDeaths_7 (F : Nat) (σ : jS) : Nat → Int32 → Int32 → Int32 → Int32 → Option Int32
  | 0, _, _, _, _ => none
  | n + 1, x1, x2, x3, x4 => (if x4 < x1 then (if (x4 + (1 : Int32)) < x1 then (Option.bind (mX10_byteAt F ((x4 + (1 : Int32))) σ) fun q1 => (jn_X9_ageOfMostDeaths_36 F σ (lp_X9_ageOfMostDeaths_7 F σ n) x1 x2 x3 x4 q1)) else (jn_X9_ageOfMostDeaths_36 F σ (lp_X9_ageOfMostDeaths_7 F σ n) x1 x2 x3 x4 (0 : Int32))) else some x3)
set_option maxHeartbeats 4000000 in
set_option maxRecDepth 100000 in
theorem lp_X9_ageOfMostDeaths_7_ok {G : jG} (C : jc cfX 70 G cX9_ageOfMostDeaths RX9 7 (some .int) 1) (F : Nat) (σ : jS) {v : Int32} : ∀ (n : Nat) (x1 : Int32) (x2 : Int32) (x3 : Int32) (x4 : Int32), lp_X9_ageOfMostDeaths_7 F σ n x1 x2 x3 x4 = some v → JX G 7 [(0, .ref (vad (gV G) 67)), (1, .int x1), (2, .int x2), (3, .int x3), (4, .int x4)] [] σ (v, σ) := by
  intro n
  induction n with
  | zero =>
    intro x1 x2 x3 x4 hm
    rw [lp_X9_ageOfMostDeaths_7] at hm
    cases hm
  | succ n ih =>
    intro x1 x2 x3 x4 hm
    rw [lp_X9_ageOfMostDeaths_7] at hm
    refine j_iload (pc := 7) C 4 dX9_ageOfMostDeaths_7 rfl ?_
    refine j_iloadn (pc := 9) C 1 dX9_ageOfMostDeaths_9 rfl rfl ?_
    refine j_icmp_ge (tgt := 70) (pc := 10) C dX9_ageOfMostDeaths_10 (by decide) hm (fun _ hm => ?_) (fun _ hm => ?_)
    · refine j_iload (pc := 13) C 4 dX9_ageOfMostDeaths_13 rfl ?_
      refine j_iconst (v := 1) (pc := 15) C dX9_ageOfMostDeaths_15 (by decide) ?_
      refine j_iadd (pc := 16) C dX9_ageOfMostDeaths_16 ?_
      refine j_iloadn (pc := 17) C 1 dX9_ageOfMostDeaths_17 rfl rfl ?_
      refine j_icmp_ge (tgt := 35) (pc := 18) C dX9_ageOfMostDeaths_18 (by decide) hm (fun _ hm => ?_) (fun _ hm => ?_)
      · refine j_aloadn (pc := 21) C 0 dX9_ageOfMostDeaths_21 rfl rfl ?_
        refine gf_X9_18 (c := 67) (pc := 22) C kx_67 dX9_ageOfMostDeaths_22 ?_
        refine j_iload (pc := 25) C 4 dX9_ageOfMostDeaths_25 rfl ?_
        refine j_iconst (v := 1) (pc := 27) C dX9_ageOfMostDeaths_27 (by decide) ?_
        refine j_iadd (pc := 28) C dX9_ageOfMostDeaths_28 ?_
        obtain ⟨q1, hq1, hm⟩ := Option.bind_eq_some_iff.mp hm
        refine cl_X9_41 (c := 1) (pc := 29) C kx_1 (kX10_byteAt hq1) (by decide) (Nat.le_of_ble_eq_true rfl) dX9_ageOfMostDeaths_29 ?_
        refine j_goto (tgt := 36) (pc := 32) C dX9_ageOfMostDeaths_32 (by decide) ?_
        exact jn_X9_ageOfMostDeaths_36_ok C F σ _ (fun _ _ _ _ hm => ih _ _ _ _ hm) _ _ _ _ _ hm
      · refine j_iconst (v := 0) (pc := 35) C dX9_ageOfMostDeaths_35 (by decide) ?_
        exact jn_X9_ageOfMostDeaths_36_ok C F σ _ (fun _ _ _ _ hm => ih _ _ _ _ hm) _ _ _ _ _ hm
    · refine j_iloadn (pc := 70) C 3 dX9_ageOfMostDeaths_70 rfl rfl ?_
      exact j_iret (pc := 71) C rfl dX9_ageOfMostDeaths_71 hm

def mX9_ageOfMostDeaths (F : Nat) (x1 : Int32) (σ : jS) : Option Int32 := (lp_X9_ageOfMostDeaths_7 F σ F x1 (-1 : Int32) (0 : Int32) (0 : Int32))
set_option maxHeartbeats 4000000 in
set_option maxRecDepth 100000 in
theorem kX9_ageOfMostDeaths {V : jV} {F : Nat} {x1 : Int32} {σ : jS} {v : Int32} (hm : mX9_ageOfMostDeaths F x1 σ = some v) : Ct cfX 70 V yX9_ageOfMostDeaths cX9_ageOfMostDeaths 7 (some .int) 1 [.ref (vad V 67), .int x1] σ (v, σ) := by
  refine j_start (own := RX9) (by decide) rfl (Nat.le_of_ble_eq_true rfl) ?_
  intro G hV C
  subst hV
  unfold mX9_ageOfMostDeaths at hm
  show JX G 0 [(0, .ref (vad (gV G) 67)), (1, .int x1)] [] σ (v, σ)
  refine j_iconst (v := -1) (pc := 0) C dX9_ageOfMostDeaths_0 (by decide) ?_
  refine j_istoren (ls' := [(2, .int (-1 : Int32)), (0, .ref (vad (gV G) 67)), (1, .int x1)]) (pc := 1) C dX9_ageOfMostDeaths_1 rfl (by decide) rfl ?_
  refine j_iconst (v := 0) (pc := 2) C dX9_ageOfMostDeaths_2 (by decide) ?_
  refine j_istoren (ls' := [(3, .int (0 : Int32)), (2, .int (-1 : Int32)), (0, .ref (vad (gV G) 67)), (1, .int x1)]) (pc := 3) C dX9_ageOfMostDeaths_3 rfl (by decide) rfl ?_
  refine j_iconst (v := 0) (pc := 4) C dX9_ageOfMostDeaths_4 (by decide) ?_
  refine j_istore (ls' := [(4, .int (0 : Int32)), (3, .int (0 : Int32)), (2, .int (-1 : Int32)), (0, .ref (vad (gV G) 67)), (1, .int x1)]) (pc := 5) C dX9_ageOfMostDeaths_5 (by decide) rfl ?_
  refine j_ls [3, 4, 2, 1, 0] rfl ?_
  exact lp_X9_ageOfMostDeaths_7_ok C F σ  F _ _ _ _ hm

def lp_X9_commonDivisor_7 (F : Nat) (σ : jS) : Nat → Int32 → Int32 → Int32 → Option Int32
  | 0, _, _, _ => none
  | n + 1, x2, x3, x4 => (if x4 < (64 : Int32) then (if x3 = 0 then some x2 else (if x3 = 0 then none else (lt (irm x2 x3) fun y1 => (lp_X9_commonDivisor_7 F σ n x3 y1 ((x4 + (1 : Int32))))))) else some x2)
set_option maxHeartbeats 4000000 in
set_option maxRecDepth 100000 in
theorem lp_X9_commonDivisor_7_ok {G : jG} (C : jc cfX 70 G cX9_commonDivisor RX9 6 (some .int) 0) (F : Nat) (σ : jS) {v : Int32} : ∀ (n : Nat) (x2 : Int32) (x3 : Int32) (x4 : Int32), lp_X9_commonDivisor_7 F σ n x2 x3 x4 = some v → JX G 7 [(2, .int x2), (3, .int x3), (4, .int x4)] [] σ (v, σ) := by
  intro n
  induction n with
  | zero =>
    intro x2 x3 x4 hm
    rw [lp_X9_commonDivisor_7] at hm
    cases hm
  | succ n ih =>
    intro x2 x3 x4 hm
    rw [lp_X9_commonDivisor_7] at hm
    refine j_iload (pc := 7) C 2 dX9_commonDivisor_7 rfl ?_
    refine j_bipush (v := 64) (pc := 9) C dX9_commonDivisor_9 (by decide) ?_
    refine j_icmp_ge (tgt := 34) (pc := 11) C dX9_commonDivisor_11 (by decide) hm (fun _ hm => ?_) (fun _ hm => ?_)
    · refine j_iloadn (pc := 14) C 1 dX9_commonDivisor_14 rfl rfl ?_
      refine j_if_eq (tgt := 34) (pc := 15) C dX9_commonDivisor_15 (by decide) hm (fun _ hm => ?_) (fun _ hm => ?_)
      · refine j_iloadn (pc := 34) C 0 dX9_commonDivisor_34 rfl rfl ?_
        exact j_iret (pc := 35) C rfl dX9_commonDivisor_35 hm
      · refine j_iloadn (pc := 18) C 0 dX9_commonDivisor_18 rfl rfl ?_
        refine j_iloadn (pc := 19) C 1 dX9_commonDivisor_19 rfl rfl ?_
        refine j_irem (pc := 20) C dX9_commonDivisor_20 hm (fun hm => ?_)
        refine j_lti hm (fun y1 hm => ?_)
        refine j_istore (ls' := [(5, .int y1), (2, .int x2), (3, .int x3), (4, .int x4)]) (pc := 21) C dX9_commonDivisor_21 (by decide) rfl ?_
        refine j_iloadn (pc := 23) C 2 dX9_commonDivisor_23 rfl rfl ?_
        refine j_istoren (ls' := [(2, .int x3), (5, .int y1), (3, .int x3), (4, .int x4)]) (pc := 24) C dX9_commonDivisor_24 rfl (by decide) rfl ?_
        refine j_iload (pc := 25) C 1 dX9_commonDivisor_25 rfl ?_
        refine j_istoren (ls' := [(3, .int y1), (2, .int x3), (5, .int y1), (4, .int x4)]) (pc := 27) C dX9_commonDivisor_27 rfl (by decide) rfl ?_
        refine j_iinc (v := (x4 + (1 : Int32))) (ls' := [(4, .int (x4 + (1 : Int32))), (3, .int y1), (2, .int x3), (5, .int y1)]) (pc := 28) C 3 dX9_commonDivisor_28 rfl rfl (by decide) rfl ?_
        refine j_goto (tgt := 7) (pc := 31) C dX9_commonDivisor_31 (by decide) ?_
        refine j_ls [2, 1, 0] rfl ?_
        exact ih _ _ _ hm
    · refine j_iloadn (pc := 34) C 0 dX9_commonDivisor_34 rfl rfl ?_
      exact j_iret (pc := 35) C rfl dX9_commonDivisor_35 hm

def mX9_commonDivisor (F : Nat) (x0 : Int32) (x1 : Int32) (σ : jS) : Option Int32 := (lp_X9_commonDivisor_7 F σ F x0 x1 (0 : Int32))
set_option maxHeartbeats 4000000 in
set_option maxRecDepth 100000 in
theorem kX9_commonDivisor {V : jV} {F : Nat} {x0 : Int32} {x1 : Int32} {σ : jS} {v : Int32} (hm : mX9_commonDivisor F x0 x1 σ = some v) : Ct cfX 70 V yX9_commonDivisor cX9_commonDivisor 6 (some .int) 0 [.int x0, .int x1] σ (v, σ) := by
  refine j_start (own := RX9) (by decide) rfl (Nat.le_of_ble_eq_true rfl) ?_
  intro G hV C
  subst hV
  unfold mX9_commonDivisor at hm
  show JX G 0 [(0, .int x0), (1, .int x1)] [] σ (v, σ)
  refine j_iloadn (pc := 0) C 0 dX9_commonDivisor_0 rfl rfl ?_
  refine j_istoren (ls' := [(2, .int x0), (0, .int x0), (1, .int x1)]) (pc := 1) C dX9_commonDivisor_1 rfl (by decide) rfl ?_
  refine j_iloadn (pc := 2) C 2 dX9_commonDivisor_2 rfl rfl ?_
  refine j_istoren (ls' := [(3, .int x1), (2, .int x0), (0, .int x0), (1, .int x1)]) (pc := 3) C dX9_commonDivisor_3 rfl (by decide) rfl ?_
  refine j_iconst (v := 0) (pc := 4) C dX9_commonDivisor_4 (by decide) ?_
  refine j_istore (ls' := [(4, .int (0 : Int32)), (3, .int x1), (2, .int x0), (0, .int x0), (1, .int x1)]) (pc := 5) C dX9_commonDivisor_5 (by decide) rfl ?_
  refine j_ls [2, 1, 0] rfl ?_
  exact lp_X9_commonDivisor_7_ok C F σ  F _ _ _ hm

def lp_X9_expected_26 (F : Nat) (σ : jS) (k52 : Int32 → Int32 → Int32 → Option Int32) : Nat → Int32 → Int32 → Int32 → Int32 → Int32 → Option Int32
  | 0, _, _, _, _, _ => none
  | n + 1, x1, x3, x4, x5, x6 => (if x6 < x1 then (Option.bind (mX10_byteAt F x6 σ) fun q3 => (lt (x5 + q3) fun y4 => (lp_X9_expected_26 F σ k52 n x1 x3 x4 y4 ((x6 + (1 : Int32)))))) else (k52 x3 x4 x5))
set_option maxHeartbeats 4000000 in
set_option maxRecDepth 100000 in
theorem lp_X9_expected_26_ok {G : jG} (C : jc cfX 70 G cX9_expected RX9 7 (some .int) 1) (F : Nat) (σ : jS) {v : Int32} (k52 : Int32 → Int32 → Int32 → Option Int32) (hk52 : ∀ (x3 : Int32) (x4 : Int32) (x5 : Int32), k52 x3 x4 x5 = some v → JX G 52 [(3, .int x3), (4, .int x4), (5, .int x5)] [] σ (v, σ)) : ∀ (n : Nat) (x1 : Int32) (x3 : Int32) (x4 : Int32) (x5 : Int32) (x6 : Int32), lp_X9_expected_26 F σ k52 n x1 x3 x4 x5 x6 = some v → JX G 26 [(0, .ref (vad (gV G) 67)), (1, .int x1), (3, .int x3), (4, .int x4), (5, .int x5), (6, .int x6)] [] σ (v, σ) := by
  intro n
  induction n with
  | zero =>
    intro x1 x3 x4 x5 x6 hm
    rw [lp_X9_expected_26] at hm
    cases hm
  | succ n ih =>
    intro x1 x3 x4 x5 x6 hm
    rw [lp_X9_expected_26] at hm
    refine j_iload (pc := 26) C 5 dX9_expected_26 rfl ?_
    refine j_iloadn (pc := 28) C 1 dX9_expected_28 rfl rfl ?_
    refine j_icmp_ge (tgt := 52) (pc := 29) C dX9_expected_29 (by decide) hm (fun _ hm => ?_) (fun _ hm => ?_)
    · refine j_iload (pc := 32) C 4 dX9_expected_32 rfl ?_
      refine j_aloadn (pc := 34) C 0 dX9_expected_34 rfl rfl ?_
      refine gf_X9_18 (c := 67) (pc := 35) C kx_67 dX9_expected_35 ?_
      refine j_iload (pc := 38) C 5 dX9_expected_38 rfl ?_
      obtain ⟨q3, hq3, hm⟩ := Option.bind_eq_some_iff.mp hm
      refine cl_X9_41 (c := 1) (pc := 40) C kx_1 (kX10_byteAt hq3) (by decide) (Nat.le_of_ble_eq_true rfl) dX9_expected_40 ?_
      refine j_iadd (pc := 43) C dX9_expected_43 ?_
      refine j_lti hm (fun y4 hm => ?_)
      refine j_istore (ls' := [(5, .int y4), (0, .ref (vad (gV G) 67)), (1, .int x1), (3, .int x3), (4, .int x4), (6, .int x6)]) (pc := 44) C dX9_expected_44 (by decide) rfl ?_
      refine j_iinc (v := (x6 + (1 : Int32))) (ls' := [(6, .int (x6 + (1 : Int32))), (5, .int y4), (0, .ref (vad (gV G) 67)), (1, .int x1), (3, .int x3), (4, .int x4)]) (pc := 46) C 5 dX9_expected_46 rfl rfl (by decide) rfl ?_
      refine j_goto (tgt := 26) (pc := 49) C dX9_expected_49 (by decide) ?_
      refine j_ls [2, 3, 4, 5, 1, 0] rfl ?_
      exact ih _ _ _ _ _ hm
    · refine j_ls [2, 3, 4] rfl ?_
      exact hk52 _ _ _ hm

def mX9_expected (F : Nat) (x1 : Int32) (x2 : Int32) (x3 : Int32) (σ : jS) : Option Int32 := (Option.bind (mX10_byteAt F x2 σ) fun q1 => (if q1 = 0 then some (-2 : Int32) else (lt (x2 + (1 : Int32)) fun y2 => (lp_X9_expected_26 F σ (fun x3_5 x4_5 x5_5 => (Option.bind (mX9_commonDivisor F x5_5 x4_5 σ) fun q6 => (if q6 = 0 then some (-2 : Int32) else (if x3_5 = 0 then (if q6 = 0 then none else some (x4_5 / q6)) else (if q6 = 0 then none else some (x5_5 / q6)))))) F x1 x3 q1 (0 : Int32) y2))))
set_option maxHeartbeats 4000000 in
set_option maxRecDepth 100000 in
theorem kX9_expected {V : jV} {F : Nat} {x1 : Int32} {x2 : Int32} {x3 : Int32} {σ : jS} {v : Int32} (hm : mX9_expected F x1 x2 x3 σ = some v) : Ct cfX 70 V yX9_expected cX9_expected 7 (some .int) 1 [.ref (vad V 67), .int x1, .int x2, .int x3] σ (v, σ) := by
  refine j_start (own := RX9) (by decide) rfl (Nat.le_of_ble_eq_true rfl) ?_
  intro G hV C
  subst hV
  unfold mX9_expected at hm
  show JX G 0 [(0, .ref (vad (gV G) 67)), (1, .int x1), (2, .int x2), (3, .int x3)] [] σ (v, σ)
  refine j_aloadn (pc := 0) C 0 dX9_expected_0 rfl rfl ?_
  refine gf_X9_18 (c := 67) (pc := 1) C kx_67 dX9_expected_1 ?_
  refine j_iloadn (pc := 4) C 2 dX9_expected_4 rfl rfl ?_
  obtain ⟨q1, hq1, hm⟩ := Option.bind_eq_some_iff.mp hm
  refine cl_X9_41 (c := 1) (pc := 5) C kx_1 (kX10_byteAt hq1) (by decide) (Nat.le_of_ble_eq_true rfl) dX9_expected_5 ?_
  refine j_istore (ls' := [(4, .int q1), (0, .ref (vad (gV G) 67)), (1, .int x1), (2, .int x2), (3, .int x3)]) (pc := 8) C dX9_expected_8 (by decide) rfl ?_
  refine j_iload (pc := 10) C 0 dX9_expected_10 rfl ?_
  refine j_if_ne (tgt := 18) (pc := 12) C dX9_expected_12 (by decide) hm (fun _ hm => ?_) (fun _ hm => ?_)
  · refine j_bipush (v := -2) (pc := 15) C dX9_expected_15 (by decide) ?_
    exact j_iret (pc := 17) C rfl dX9_expected_17 hm
  · refine j_iconst (v := 0) (pc := 18) C dX9_expected_18 (by decide) ?_
    refine j_istore (ls' := [(5, .int (0 : Int32)), (4, .int q1), (0, .ref (vad (gV G) 67)), (1, .int x1), (2, .int x2), (3, .int x3)]) (pc := 19) C dX9_expected_19 (by decide) rfl ?_
    refine j_iloadn (pc := 21) C 4 dX9_expected_21 rfl rfl ?_
    refine j_iconst (v := 1) (pc := 22) C dX9_expected_22 (by decide) ?_
    refine j_iadd (pc := 23) C dX9_expected_23 ?_
    refine j_lti hm (fun y2 hm => ?_)
    refine j_istore (ls' := [(6, .int y2), (5, .int (0 : Int32)), (4, .int q1), (0, .ref (vad (gV G) 67)), (1, .int x1), (2, .int x2), (3, .int x3)]) (pc := 24) C dX9_expected_24 (by decide) rfl ?_
    refine j_ls [3, 4, 6, 2, 1, 0] rfl ?_
    refine lp_X9_expected_26_ok C F σ _ (fun x3_5 x4_5 x5_5 hm => ?_) F _ _ _ _ _ hm
    refine j_iload (pc := 52) C 2 dX9_expected_52 rfl ?_
    refine j_iload (pc := 54) C 1 dX9_expected_54 rfl ?_
    obtain ⟨q6, hq6, hm⟩ := Option.bind_eq_some_iff.mp hm
    refine cl_X9_44 (pc := 56) C (kX9_commonDivisor hq6) (by decide) (Nat.le_of_ble_eq_true rfl) dX9_expected_56 ?_
    refine j_istore (ls' := [(6, .int q6), (3, .int x3_5), (4, .int x4_5), (5, .int x5_5)]) (pc := 59) C dX9_expected_59 (by decide) rfl ?_
    refine j_iload (pc := 61) C 0 dX9_expected_61 rfl ?_
    refine j_if_ne (tgt := 69) (pc := 63) C dX9_expected_63 (by decide) hm (fun _ hm => ?_) (fun _ hm => ?_)
    · refine j_bipush (v := -2) (pc := 66) C dX9_expected_66 (by decide) ?_
      exact j_iret (pc := 68) C rfl dX9_expected_68 hm
    · refine j_iloadn (pc := 69) C 1 dX9_expected_69 rfl rfl ?_
      refine j_if_eq (tgt := 81) (pc := 70) C dX9_expected_70 (by decide) hm (fun _ hm => ?_) (fun _ hm => ?_)
      · refine j_iload (pc := 81) C 2 dX9_expected_81 rfl ?_
        refine j_iload (pc := 83) C 0 dX9_expected_83 rfl ?_
        refine j_idiv (pc := 85) C dX9_expected_85 hm (fun hm => ?_)
        exact j_iret (pc := 86) C rfl dX9_expected_86 hm
      · refine j_iload (pc := 73) C 3 dX9_expected_73 rfl ?_
        refine j_iload (pc := 75) C 0 dX9_expected_75 rfl ?_
        refine j_idiv (pc := 77) C dX9_expected_77 hm (fun hm => ?_)
        refine j_goto (tgt := 86) (pc := 78) C dX9_expected_78 (by decide) ?_
        exact j_iret (pc := 86) C rfl dX9_expected_86 hm

def lp_X9_firstTogether_48 (F : Nat) (σ : jS) : Nat → Int32 → Int32 → Int32 → Int32 → Int32 → Option Int32
  | 0, _, _, _, _, _ => none
  | n + 1, x1, x2, x3, x4, x5 => (if x5 < (512 : Int32) then (if x1 < x3 then (lt (x1 + x2) fun y5 => (lp_X9_firstTogether_48 F σ n y5 x2 x3 x4 ((x5 + (1 : Int32))))) else (if x4 = 0 then none else (if (irm (x1 - x3) x4) = 0 then some x1 else (lt (x1 + x2) fun y7 => (lp_X9_firstTogether_48 F σ n y7 x2 x3 x4 ((x5 + (1 : Int32)))))))) else some (-2 : Int32))
set_option maxHeartbeats 4000000 in
set_option maxRecDepth 100000 in
theorem lp_X9_firstTogether_48_ok {G : jG} (C : jc cfX 70 G cX9_firstTogether RX9 6 (some .int) 1) (F : Nat) (σ : jS) {v : Int32} : ∀ (n : Nat) (x1 : Int32) (x2 : Int32) (x3 : Int32) (x4 : Int32) (x5 : Int32), lp_X9_firstTogether_48 F σ n x1 x2 x3 x4 x5 = some v → JX G 48 [(1, .int x1), (2, .int x2), (3, .int x3), (4, .int x4), (5, .int x5)] [] σ (v, σ) := by
  intro n
  induction n with
  | zero =>
    intro x1 x2 x3 x4 x5 hm
    rw [lp_X9_firstTogether_48] at hm
    cases hm
  | succ n ih =>
    intro x1 x2 x3 x4 x5 hm
    rw [lp_X9_firstTogether_48] at hm
    refine j_iload (pc := 48) C 4 dX9_firstTogether_48 rfl ?_
    refine j_sipush (v := 512) (pc := 50) C dX9_firstTogether_50 (by decide) ?_
    refine j_icmp_ge (tgt := 82) (pc := 53) C dX9_firstTogether_53 (by decide) hm (fun _ hm => ?_) (fun _ hm => ?_)
    · refine j_iloadn (pc := 56) C 0 dX9_firstTogether_56 rfl rfl ?_
      refine j_iloadn (pc := 57) C 2 dX9_firstTogether_57 rfl rfl ?_
      refine j_icmp_lt (tgt := 72) (pc := 58) C dX9_firstTogether_58 (by decide) hm (fun _ hm => ?_) (fun _ hm => ?_)
      · refine j_iloadn (pc := 72) C 0 dX9_firstTogether_72 rfl rfl ?_
        refine j_iloadn (pc := 73) C 1 dX9_firstTogether_73 rfl rfl ?_
        refine j_iadd (pc := 74) C dX9_firstTogether_74 ?_
        refine j_lti hm (fun y5 hm => ?_)
        refine j_istoren (ls' := [(1, .int y5), (2, .int x2), (3, .int x3), (4, .int x4), (5, .int x5)]) (pc := 75) C dX9_firstTogether_75 rfl (by decide) rfl ?_
        refine j_iinc (v := (x5 + (1 : Int32))) (ls' := [(5, .int (x5 + (1 : Int32))), (1, .int y5), (2, .int x2), (3, .int x3), (4, .int x4)]) (pc := 76) C 4 dX9_firstTogether_76 rfl rfl (by decide) rfl ?_
        refine j_goto (tgt := 48) (pc := 79) C dX9_firstTogether_79 (by decide) ?_
        refine j_ls [1, 2, 3, 4, 0] rfl ?_
        exact ih _ _ _ _ _ hm
      · refine j_iloadn (pc := 61) C 0 dX9_firstTogether_61 rfl rfl ?_
        refine j_iloadn (pc := 62) C 2 dX9_firstTogether_62 rfl rfl ?_
        refine j_isub (pc := 63) C dX9_firstTogether_63 ?_
        refine j_iload (pc := 64) C 3 dX9_firstTogether_64 rfl ?_
        refine j_irem (pc := 66) C dX9_firstTogether_66 hm (fun hm => ?_)
        refine j_if_ne (tgt := 72) (pc := 67) C dX9_firstTogether_67 (by decide) hm (fun _ hm => ?_) (fun _ hm => ?_)
        · refine j_iloadn (pc := 70) C 0 dX9_firstTogether_70 rfl rfl ?_
          exact j_iret (pc := 71) C rfl dX9_firstTogether_71 hm
        · refine j_iloadn (pc := 72) C 0 dX9_firstTogether_72 rfl rfl ?_
          refine j_iloadn (pc := 73) C 1 dX9_firstTogether_73 rfl rfl ?_
          refine j_iadd (pc := 74) C dX9_firstTogether_74 ?_
          refine j_lti hm (fun y7 hm => ?_)
          refine j_istoren (ls' := [(1, .int y7), (2, .int x2), (3, .int x3), (4, .int x4), (5, .int x5)]) (pc := 75) C dX9_firstTogether_75 rfl (by decide) rfl ?_
          refine j_iinc (v := (x5 + (1 : Int32))) (ls' := [(5, .int (x5 + (1 : Int32))), (1, .int y7), (2, .int x2), (3, .int x3), (4, .int x4)]) (pc := 76) C 4 dX9_firstTogether_76 rfl rfl (by decide) rfl ?_
          refine j_goto (tgt := 48) (pc := 79) C dX9_firstTogether_79 (by decide) ?_
          refine j_ls [1, 2, 3, 4, 0] rfl ?_
          exact ih _ _ _ _ _ hm
    · refine j_bipush (v := -2) (pc := 82) C dX9_firstTogether_82 (by decide) ?_
      exact j_iret (pc := 84) C rfl dX9_firstTogether_84 hm

def mX9_firstTogether (F : Nat) (σ : jS) : Option Int32 := (Option.bind (mX10_byteAt F (0 : Int32) σ) fun q1 => (Option.bind (mX10_byteAt F (1 : Int32) σ) fun q2 => (Option.bind (mX10_byteAt F (2 : Int32) σ) fun q3 => (Option.bind (mX10_byteAt F (3 : Int32) σ) fun q4 => (if q4 = 0 then some (-2 : Int32) else (lp_X9_firstTogether_48 F σ F q1 q2 q3 q4 (0 : Int32)))))))
set_option maxHeartbeats 4000000 in
set_option maxRecDepth 100000 in
theorem kX9_firstTogether {V : jV} {F : Nat} {σ : jS} {v : Int32} (hm : mX9_firstTogether F σ = some v) : Ct cfX 70 V yX9_firstTogether cX9_firstTogether 6 (some .int) 1 [.ref (vad V 67)] σ (v, σ) := by
  refine j_start (own := RX9) (by decide) rfl (Nat.le_of_ble_eq_true rfl) ?_
  intro G hV C
  subst hV
  unfold mX9_firstTogether at hm
  show JX G 0 [(0, .ref (vad (gV G) 67))] [] σ (v, σ)
  refine j_aloadn (pc := 0) C 0 dX9_firstTogether_0 rfl rfl ?_
  refine gf_X9_18 (c := 67) (pc := 1) C kx_67 dX9_firstTogether_1 ?_
  refine j_iconst (v := 0) (pc := 4) C dX9_firstTogether_4 (by decide) ?_
  obtain ⟨q1, hq1, hm⟩ := Option.bind_eq_some_iff.mp hm
  refine cl_X9_41 (c := 1) (pc := 5) C kx_1 (kX10_byteAt hq1) (by decide) (Nat.le_of_ble_eq_true rfl) dX9_firstTogether_5 ?_
  refine j_istoren (ls' := [(1, .int q1), (0, .ref (vad (gV G) 67))]) (pc := 8) C dX9_firstTogether_8 rfl (by decide) rfl ?_
  refine j_aloadn (pc := 9) C 1 dX9_firstTogether_9 rfl rfl ?_
  refine gf_X9_18 (c := 67) (pc := 10) C kx_67 dX9_firstTogether_10 ?_
  refine j_iconst (v := 1) (pc := 13) C dX9_firstTogether_13 (by decide) ?_
  obtain ⟨q2, hq2, hm⟩ := Option.bind_eq_some_iff.mp hm
  refine cl_X9_41 (c := 1) (pc := 14) C kx_1 (kX10_byteAt hq2) (by decide) (Nat.le_of_ble_eq_true rfl) dX9_firstTogether_14 ?_
  refine j_istoren (ls' := [(2, .int q2), (1, .int q1), (0, .ref (vad (gV G) 67))]) (pc := 17) C dX9_firstTogether_17 rfl (by decide) rfl ?_
  refine j_aloadn (pc := 18) C 2 dX9_firstTogether_18 rfl rfl ?_
  refine gf_X9_18 (c := 67) (pc := 19) C kx_67 dX9_firstTogether_19 ?_
  refine j_iconst (v := 2) (pc := 22) C dX9_firstTogether_22 (by decide) ?_
  obtain ⟨q3, hq3, hm⟩ := Option.bind_eq_some_iff.mp hm
  refine cl_X9_41 (c := 1) (pc := 23) C kx_1 (kX10_byteAt hq3) (by decide) (Nat.le_of_ble_eq_true rfl) dX9_firstTogether_23 ?_
  refine j_istoren (ls' := [(3, .int q3), (2, .int q2), (1, .int q1), (0, .ref (vad (gV G) 67))]) (pc := 26) C dX9_firstTogether_26 rfl (by decide) rfl ?_
  refine j_aloadn (pc := 27) C 3 dX9_firstTogether_27 rfl rfl ?_
  refine gf_X9_18 (c := 67) (pc := 28) C kx_67 dX9_firstTogether_28 ?_
  refine j_iconst (v := 3) (pc := 31) C dX9_firstTogether_31 (by decide) ?_
  obtain ⟨q4, hq4, hm⟩ := Option.bind_eq_some_iff.mp hm
  refine cl_X9_41 (c := 1) (pc := 32) C kx_1 (kX10_byteAt hq4) (by decide) (Nat.le_of_ble_eq_true rfl) dX9_firstTogether_32 ?_
  refine j_istore (ls' := [(4, .int q4), (3, .int q3), (2, .int q2), (1, .int q1), (0, .ref (vad (gV G) 67))]) (pc := 35) C dX9_firstTogether_35 (by decide) rfl ?_
  refine j_iload (pc := 37) C 0 dX9_firstTogether_37 rfl ?_
  refine j_if_ne (tgt := 45) (pc := 39) C dX9_firstTogether_39 (by decide) hm (fun _ hm => ?_) (fun _ hm => ?_)
  · refine j_bipush (v := -2) (pc := 42) C dX9_firstTogether_42 (by decide) ?_
    exact j_iret (pc := 44) C rfl dX9_firstTogether_44 hm
  · refine j_iconst (v := 0) (pc := 45) C dX9_firstTogether_45 (by decide) ?_
    refine j_istore (ls' := [(5, .int (0 : Int32)), (4, .int q4), (3, .int q3), (2, .int q2), (1, .int q1), (0, .ref (vad (gV G) 67))]) (pc := 46) C dX9_firstTogether_46 (by decide) rfl ?_
    refine j_ls [4, 3, 2, 1, 0] rfl ?_
    exact lp_X9_firstTogether_48_ok C F σ  F _ _ _ _ _ hm

def mX9_timesTogether (F : Nat) (x1 : Int32) (x2 : Int32) (σ : jS) : Option Int32 := (Option.bind (mX10_byteAt F (1 : Int32) σ) fun q1 => (Option.bind (mX10_byteAt F (3 : Int32) σ) fun q2 => (Option.bind (mX9_commonDivisor F q1 q2 σ) fun q3 => (if x1 < 0 then some (0 : Int32) else (if x2 < x1 then some (0 : Int32) else (if q3 = 0 then some (0 : Int32) else (Option.bind (mX10_byteAt F (1 : Int32) σ) fun q4 => (if q3 = 0 then none else (Option.bind (mX10_byteAt F (3 : Int32) σ) fun q5 => (lt ((q4 / q3) * q5) fun y6 => (if y6 = 0 then some (0 : Int32) else (if y6 = 0 then none else some (((x2 - x1) / y6) + (1 : Int32))))))))))))))
set_option maxHeartbeats 4000000 in
set_option maxRecDepth 100000 in
theorem kX9_timesTogether {V : jV} {F : Nat} {x1 : Int32} {x2 : Int32} {σ : jS} {v : Int32} (hm : mX9_timesTogether F x1 x2 σ = some v) : Ct cfX 70 V yX9_timesTogether cX9_timesTogether 5 (some .int) 1 [.ref (vad V 67), .int x1, .int x2] σ (v, σ) := by
  refine j_start (own := RX9) (by decide) rfl (Nat.le_of_ble_eq_true rfl) ?_
  intro G hV C
  subst hV
  unfold mX9_timesTogether at hm
  show JX G 0 [(0, .ref (vad (gV G) 67)), (1, .int x1), (2, .int x2)] [] σ (v, σ)
  refine j_aloadn (pc := 0) C 0 dX9_timesTogether_0 rfl rfl ?_
  refine gf_X9_18 (c := 67) (pc := 1) C kx_67 dX9_timesTogether_1 ?_
  refine j_iconst (v := 1) (pc := 4) C dX9_timesTogether_4 (by decide) ?_
  obtain ⟨q1, hq1, hm⟩ := Option.bind_eq_some_iff.mp hm
  refine cl_X9_41 (c := 1) (pc := 5) C kx_1 (kX10_byteAt hq1) (by decide) (Nat.le_of_ble_eq_true rfl) dX9_timesTogether_5 ?_
  refine j_aloadn (pc := 8) C 0 dX9_timesTogether_8 rfl rfl ?_
  refine gf_X9_18 (c := 67) (pc := 9) C kx_67 dX9_timesTogether_9 ?_
  refine j_iconst (v := 3) (pc := 12) C dX9_timesTogether_12 (by decide) ?_
  obtain ⟨q2, hq2, hm⟩ := Option.bind_eq_some_iff.mp hm
  refine cl_X9_41 (c := 1) (pc := 13) C kx_1 (kX10_byteAt hq2) (by decide) (Nat.le_of_ble_eq_true rfl) dX9_timesTogether_13 ?_
  obtain ⟨q3, hq3, hm⟩ := Option.bind_eq_some_iff.mp hm
  refine cl_X9_44 (pc := 16) C (kX9_commonDivisor hq3) (by decide) (Nat.le_of_ble_eq_true rfl) dX9_timesTogether_16 ?_
  refine j_istoren (ls' := [(3, .int q3), (0, .ref (vad (gV G) 67)), (1, .int x1), (2, .int x2)]) (pc := 19) C dX9_timesTogether_19 rfl (by decide) rfl ?_
  refine j_iloadn (pc := 20) C 2 dX9_timesTogether_20 rfl rfl ?_
  refine j_if_lt (tgt := 33) (pc := 21) C dX9_timesTogether_21 (by decide) hm (fun _ hm => ?_) (fun _ hm => ?_)
  · refine j_iconst (v := 0) (pc := 33) C dX9_timesTogether_33 (by decide) ?_
    exact j_iret (pc := 34) C rfl dX9_timesTogether_34 hm
  · refine j_iloadn (pc := 24) C 2 dX9_timesTogether_24 rfl rfl ?_
    refine j_iloadn (pc := 25) C 3 dX9_timesTogether_25 rfl rfl ?_
    refine j_icmp_gt (tgt := 33) (pc := 26) C dX9_timesTogether_26 (by decide) hm (fun _ hm => ?_) (fun _ hm => ?_)
    · refine j_iconst (v := 0) (pc := 33) C dX9_timesTogether_33 (by decide) ?_
      exact j_iret (pc := 34) C rfl dX9_timesTogether_34 hm
    · refine j_iloadn (pc := 29) C 0 dX9_timesTogether_29 rfl rfl ?_
      refine j_if_ne (tgt := 35) (pc := 30) C dX9_timesTogether_30 (by decide) hm (fun _ hm => ?_) (fun _ hm => ?_)
      · refine j_iconst (v := 0) (pc := 33) C dX9_timesTogether_33 (by decide) ?_
        exact j_iret (pc := 34) C rfl dX9_timesTogether_34 hm
      · refine j_aloadn (pc := 35) C 1 dX9_timesTogether_35 rfl rfl ?_
        refine gf_X9_18 (c := 67) (pc := 36) C kx_67 dX9_timesTogether_36 ?_
        refine j_iconst (v := 1) (pc := 39) C dX9_timesTogether_39 (by decide) ?_
        obtain ⟨q4, hq4, hm⟩ := Option.bind_eq_some_iff.mp hm
        refine cl_X9_41 (c := 1) (pc := 40) C kx_1 (kX10_byteAt hq4) (by decide) (Nat.le_of_ble_eq_true rfl) dX9_timesTogether_40 ?_
        refine j_iloadn (pc := 43) C 0 dX9_timesTogether_43 rfl rfl ?_
        refine j_idiv (pc := 44) C dX9_timesTogether_44 hm (fun hm => ?_)
        refine j_aloadn (pc := 45) C 1 dX9_timesTogether_45 rfl rfl ?_
        refine gf_X9_18 (c := 67) (pc := 46) C kx_67 dX9_timesTogether_46 ?_
        refine j_iconst (v := 3) (pc := 49) C dX9_timesTogether_49 (by decide) ?_
        obtain ⟨q5, hq5, hm⟩ := Option.bind_eq_some_iff.mp hm
        refine cl_X9_41 (c := 1) (pc := 50) C kx_1 (kX10_byteAt hq5) (by decide) (Nat.le_of_ble_eq_true rfl) dX9_timesTogether_50 ?_
        refine j_imul (pc := 53) C dX9_timesTogether_53 ?_
        refine j_lti hm (fun y6 hm => ?_)
        refine j_istore (ls' := [(4, .int y6), (3, .int q3), (0, .ref (vad (gV G) 67)), (1, .int x1), (2, .int x2)]) (pc := 54) C dX9_timesTogether_54 (by decide) rfl ?_
        refine j_iload (pc := 56) C 0 dX9_timesTogether_56 rfl ?_
        refine j_if_ne (tgt := 65) (pc := 58) C dX9_timesTogether_58 (by decide) hm (fun _ hm => ?_) (fun _ hm => ?_)
        · refine j_iconst (v := 0) (pc := 61) C dX9_timesTogether_61 (by decide) ?_
          refine j_goto (tgt := 73) (pc := 62) C dX9_timesTogether_62 (by decide) ?_
          exact j_iret (pc := 73) C rfl dX9_timesTogether_73 hm
        · refine j_iloadn (pc := 65) C 4 dX9_timesTogether_65 rfl rfl ?_
          refine j_iloadn (pc := 66) C 3 dX9_timesTogether_66 rfl rfl ?_
          refine j_isub (pc := 67) C dX9_timesTogether_67 ?_
          refine j_iload (pc := 68) C 0 dX9_timesTogether_68 rfl ?_
          refine j_idiv (pc := 70) C dX9_timesTogether_70 hm (fun hm => ?_)
          refine j_iconst (v := 1) (pc := 71) C dX9_timesTogether_71 (by decide) ?_
          refine j_iadd (pc := 72) C dX9_timesTogether_72 ?_
          exact j_iret (pc := 73) C rfl dX9_timesTogether_73 hm

def lp_X9_pulseOf_5 (F : Nat) (σ : jS) (k55 : Int32 → Int32 → Int32 → Option Int32) : Nat → Int32 → Int32 → Int32 → Int32 → Option Int32
  | 0, _, _, _, _ => none
  | n + 1, x1, x2, x3, x4 => (if x4 < x1 then (Option.bind (mX10_wordAt F x4 σ) fun q1 => (Option.bind (mX10_wordAt F ((x4 - (1 : Int32))) σ) fun q2 => (lt (q1 - q2) fun y3 => (if 0 < y3 then (Option.bind (mX9_commonDivisor F y3 x3 σ) fun q4 => (lp_X9_pulseOf_5 F σ k55 n x1 x2 q4 ((x4 + (1 : Int32))))) else some (-3 : Int32))))) else (k55 x1 x2 x3))
set_option maxHeartbeats 4000000 in
set_option maxRecDepth 100000 in
theorem lp_X9_pulseOf_5_ok {G : jG} (C : jc cfX 70 G cX9_pulseOf RX9 6 (some .int) 2) (F : Nat) (σ : jS) {v : Int32} (k55 : Int32 → Int32 → Int32 → Option Int32) (hk55 : ∀ (x1 : Int32) (x2 : Int32) (x3 : Int32), k55 x1 x2 x3 = some v → JX G 55 [(0, .ref (vad (gV G) 67)), (1, .int x1), (2, .int x2), (3, .int x3)] [] σ (v, σ)) : ∀ (n : Nat) (x1 : Int32) (x2 : Int32) (x3 : Int32) (x4 : Int32), lp_X9_pulseOf_5 F σ k55 n x1 x2 x3 x4 = some v → JX G 5 [(0, .ref (vad (gV G) 67)), (1, .int x1), (2, .int x2), (3, .int x3), (4, .int x4)] [] σ (v, σ) := by
  intro n
  induction n with
  | zero =>
    intro x1 x2 x3 x4 hm
    rw [lp_X9_pulseOf_5] at hm
    cases hm
  | succ n ih =>
    intro x1 x2 x3 x4 hm
    rw [lp_X9_pulseOf_5] at hm
    refine j_iload (pc := 5) C 4 dX9_pulseOf_5 rfl ?_
    refine j_iloadn (pc := 7) C 1 dX9_pulseOf_7 rfl rfl ?_
    refine j_icmp_ge (tgt := 55) (pc := 8) C dX9_pulseOf_8 (by decide) hm (fun _ hm => ?_) (fun _ hm => ?_)
    · refine j_aloadn (pc := 11) C 0 dX9_pulseOf_11 rfl rfl ?_
      refine gf_X9_18 (c := 67) (pc := 12) C kx_67 dX9_pulseOf_12 ?_
      refine j_iload (pc := 15) C 4 dX9_pulseOf_15 rfl ?_
      obtain ⟨q1, hq1, hm⟩ := Option.bind_eq_some_iff.mp hm
      refine cl_X9_22 (c := 1) (pc := 17) C kx_1 (kX10_wordAt hq1) (by decide) (Nat.le_of_ble_eq_true rfl) dX9_pulseOf_17 ?_
      refine j_aloadn (pc := 20) C 0 dX9_pulseOf_20 rfl rfl ?_
      refine gf_X9_18 (c := 67) (pc := 21) C kx_67 dX9_pulseOf_21 ?_
      refine j_iload (pc := 24) C 4 dX9_pulseOf_24 rfl ?_
      refine j_iconst (v := 1) (pc := 26) C dX9_pulseOf_26 (by decide) ?_
      refine j_isub (pc := 27) C dX9_pulseOf_27 ?_
      obtain ⟨q2, hq2, hm⟩ := Option.bind_eq_some_iff.mp hm
      refine cl_X9_22 (c := 1) (pc := 28) C kx_1 (kX10_wordAt hq2) (by decide) (Nat.le_of_ble_eq_true rfl) dX9_pulseOf_28 ?_
      refine j_isub (pc := 31) C dX9_pulseOf_31 ?_
      refine j_lti hm (fun y3 hm => ?_)
      refine j_istore (ls' := [(5, .int y3), (0, .ref (vad (gV G) 67)), (1, .int x1), (2, .int x2), (3, .int x3), (4, .int x4)]) (pc := 32) C dX9_pulseOf_32 (by decide) rfl ?_
      refine j_iload (pc := 34) C 0 dX9_pulseOf_34 rfl ?_
      refine j_if_gt (tgt := 42) (pc := 36) C dX9_pulseOf_36 (by decide) hm (fun _ hm => ?_) (fun _ hm => ?_)
      · refine j_iload (pc := 42) C 0 dX9_pulseOf_42 rfl ?_
        refine j_iloadn (pc := 44) C 4 dX9_pulseOf_44 rfl rfl ?_
        obtain ⟨q4, hq4, hm⟩ := Option.bind_eq_some_iff.mp hm
        refine cl_X9_44 (pc := 45) C (kX9_commonDivisor hq4) (by decide) (Nat.le_of_ble_eq_true rfl) dX9_pulseOf_45 ?_
        refine j_istoren (ls' := [(3, .int q4), (5, .int y3), (0, .ref (vad (gV G) 67)), (1, .int x1), (2, .int x2), (4, .int x4)]) (pc := 48) C dX9_pulseOf_48 rfl (by decide) rfl ?_
        refine j_iinc (v := (x4 + (1 : Int32))) (ls' := [(4, .int (x4 + (1 : Int32))), (3, .int q4), (5, .int y3), (0, .ref (vad (gV G) 67)), (1, .int x1), (2, .int x2)]) (pc := 49) C 5 dX9_pulseOf_49 rfl rfl (by decide) rfl ?_
        refine j_goto (tgt := 5) (pc := 52) C dX9_pulseOf_52 (by decide) ?_
        refine j_ls [3, 4, 5, 1, 0] rfl ?_
        exact ih _ _ _ _ hm
      · refine j_bipush (v := -3) (pc := 39) C dX9_pulseOf_39 (by decide) ?_
        exact j_iret (pc := 41) C rfl dX9_pulseOf_41 hm
    · refine j_ls [0, 1, 2, 3] rfl ?_
      exact hk55 _ _ _ hm

def mX9_pulseOf (F : Nat) (x1 : Int32) (x2 : Int32) (σ : jS) : Option Int32 := (lp_X9_pulseOf_5 F σ (fun x1_5 x2_5 x3_5 => (if x3_5 = 0 then some (-3 : Int32) else (Option.bind (mX10_wordAt F ((x1_5 - (1 : Int32))) σ) fun q6 => (Option.bind (mX10_wordAt F (0 : Int32) σ) fun q7 => (if x3_5 = 0 then none else (lt (((q6 - q7) / x3_5) + (1 : Int32)) fun y9 => (if x2_5 = 0 then some x3_5 else some (y9 - x1_5)))))))) F x1 x2 (0 : Int32) (1 : Int32))
set_option maxHeartbeats 4000000 in
set_option maxRecDepth 100000 in
theorem kX9_pulseOf {V : jV} {F : Nat} {x1 : Int32} {x2 : Int32} {σ : jS} {v : Int32} (hm : mX9_pulseOf F x1 x2 σ = some v) : Ct cfX 70 V yX9_pulseOf cX9_pulseOf 6 (some .int) 2 [.ref (vad V 67), .int x1, .int x2] σ (v, σ) := by
  refine j_start (own := RX9) (by decide) rfl (Nat.le_of_ble_eq_true rfl) ?_
  intro G hV C
  subst hV
  unfold mX9_pulseOf at hm
  show JX G 0 [(0, .ref (vad (gV G) 67)), (1, .int x1), (2, .int x2)] [] σ (v, σ)
  refine j_iconst (v := 0) (pc := 0) C dX9_pulseOf_0 (by decide) ?_
  refine j_istoren (ls' := [(3, .int (0 : Int32)), (0, .ref (vad (gV G) 67)), (1, .int x1), (2, .int x2)]) (pc := 1) C dX9_pulseOf_1 rfl (by decide) rfl ?_
  refine j_iconst (v := 1) (pc := 2) C dX9_pulseOf_2 (by decide) ?_
  refine j_istore (ls' := [(4, .int (1 : Int32)), (3, .int (0 : Int32)), (0, .ref (vad (gV G) 67)), (1, .int x1), (2, .int x2)]) (pc := 3) C dX9_pulseOf_3 (by decide) rfl ?_
  refine j_ls [2, 3, 4, 1, 0] rfl ?_
  refine lp_X9_pulseOf_5_ok C F σ _ (fun x1_5 x2_5 x3_5 hm => ?_) F _ _ _ _ hm
  refine j_iloadn (pc := 55) C 3 dX9_pulseOf_55 rfl rfl ?_
  refine j_if_ne (tgt := 62) (pc := 56) C dX9_pulseOf_56 (by decide) hm (fun _ hm => ?_) (fun _ hm => ?_)
  · refine j_bipush (v := -3) (pc := 59) C dX9_pulseOf_59 (by decide) ?_
    exact j_iret (pc := 61) C rfl dX9_pulseOf_61 hm
  · refine j_aloadn (pc := 62) C 0 dX9_pulseOf_62 rfl rfl ?_
    refine gf_X9_18 (c := 67) (pc := 63) C kx_67 dX9_pulseOf_63 ?_
    refine j_iloadn (pc := 66) C 1 dX9_pulseOf_66 rfl rfl ?_
    refine j_iconst (v := 1) (pc := 67) C dX9_pulseOf_67 (by decide) ?_
    refine j_isub (pc := 68) C dX9_pulseOf_68 ?_
    obtain ⟨q6, hq6, hm⟩ := Option.bind_eq_some_iff.mp hm
    refine cl_X9_22 (c := 1) (pc := 69) C kx_1 (kX10_wordAt hq6) (by decide) (Nat.le_of_ble_eq_true rfl) dX9_pulseOf_69 ?_
    refine j_aloadn (pc := 72) C 0 dX9_pulseOf_72 rfl rfl ?_
    refine gf_X9_18 (c := 67) (pc := 73) C kx_67 dX9_pulseOf_73 ?_
    refine j_iconst (v := 0) (pc := 76) C dX9_pulseOf_76 (by decide) ?_
    obtain ⟨q7, hq7, hm⟩ := Option.bind_eq_some_iff.mp hm
    refine cl_X9_22 (c := 1) (pc := 77) C kx_1 (kX10_wordAt hq7) (by decide) (Nat.le_of_ble_eq_true rfl) dX9_pulseOf_77 ?_
    refine j_isub (pc := 80) C dX9_pulseOf_80 ?_
    refine j_iloadn (pc := 81) C 3 dX9_pulseOf_81 rfl rfl ?_
    refine j_idiv (pc := 82) C dX9_pulseOf_82 hm (fun hm => ?_)
    refine j_iconst (v := 1) (pc := 83) C dX9_pulseOf_83 (by decide) ?_
    refine j_iadd (pc := 84) C dX9_pulseOf_84 ?_
    refine j_lti hm (fun y9 hm => ?_)
    refine j_istore (ls' := [(4, .int y9), (0, .ref (vad (gV G) 67)), (1, .int x1_5), (2, .int x2_5), (3, .int x3_5)]) (pc := 85) C dX9_pulseOf_85 (by decide) rfl ?_
    refine j_iloadn (pc := 87) C 3 dX9_pulseOf_87 rfl rfl ?_
    refine j_if_ne (tgt := 95) (pc := 88) C dX9_pulseOf_88 (by decide) hm (fun _ hm => ?_) (fun _ hm => ?_)
    · refine j_iloadn (pc := 91) C 4 dX9_pulseOf_91 rfl rfl ?_
      refine j_goto (tgt := 99) (pc := 92) C dX9_pulseOf_92 (by decide) ?_
      exact j_iret (pc := 99) C rfl dX9_pulseOf_99 hm
    · refine j_iload (pc := 95) C 0 dX9_pulseOf_95 rfl ?_
      refine j_iloadn (pc := 97) C 2 dX9_pulseOf_97 rfl rfl ?_
      refine j_isub (pc := 98) C dX9_pulseOf_98 ?_
      exact j_iret (pc := 99) C rfl dX9_pulseOf_99 hm

def mX9_costOfWay (F : Nat) (x1 : Int32) (x2 : Int32) (σ : jS) : Option Int32 := (Option.bind (mX10_byteAt F x2 σ) fun q1 => (Option.bind (mX10_byteAt F x1 σ) fun q2 => (lt (q1 - q2) fun y3 => (if 0 < y3 then some ((2 : Int32) + ((3 : Int32) * y3)) else some ((2 : Int32) + (-y3))))))
set_option maxHeartbeats 4000000 in
set_option maxRecDepth 100000 in
theorem kX9_costOfWay {V : jV} {F : Nat} {x1 : Int32} {x2 : Int32} {σ : jS} {v : Int32} (hm : mX9_costOfWay F x1 x2 σ = some v) : Ct cfX 70 V yX9_costOfWay cX9_costOfWay 4 (some .int) 1 [.ref (vad V 67), .int x1, .int x2] σ (v, σ) := by
  refine j_start (own := RX9) (by decide) rfl (Nat.le_of_ble_eq_true rfl) ?_
  intro G hV C
  subst hV
  unfold mX9_costOfWay at hm
  show JX G 0 [(0, .ref (vad (gV G) 67)), (1, .int x1), (2, .int x2)] [] σ (v, σ)
  refine j_aloadn (pc := 0) C 0 dX9_costOfWay_0 rfl rfl ?_
  refine gf_X9_18 (c := 67) (pc := 1) C kx_67 dX9_costOfWay_1 ?_
  refine j_iloadn (pc := 4) C 2 dX9_costOfWay_4 rfl rfl ?_
  obtain ⟨q1, hq1, hm⟩ := Option.bind_eq_some_iff.mp hm
  refine cl_X9_41 (c := 1) (pc := 5) C kx_1 (kX10_byteAt hq1) (by decide) (Nat.le_of_ble_eq_true rfl) dX9_costOfWay_5 ?_
  refine j_aloadn (pc := 8) C 0 dX9_costOfWay_8 rfl rfl ?_
  refine gf_X9_18 (c := 67) (pc := 9) C kx_67 dX9_costOfWay_9 ?_
  refine j_iloadn (pc := 12) C 1 dX9_costOfWay_12 rfl rfl ?_
  obtain ⟨q2, hq2, hm⟩ := Option.bind_eq_some_iff.mp hm
  refine cl_X9_41 (c := 1) (pc := 13) C kx_1 (kX10_byteAt hq2) (by decide) (Nat.le_of_ble_eq_true rfl) dX9_costOfWay_13 ?_
  refine j_isub (pc := 16) C dX9_costOfWay_16 ?_
  refine j_lti hm (fun y3 hm => ?_)
  refine j_istoren (ls' := [(3, .int y3), (0, .ref (vad (gV G) 67)), (1, .int x1), (2, .int x2)]) (pc := 17) C dX9_costOfWay_17 rfl (by decide) rfl ?_
  refine j_iconst (v := 2) (pc := 18) C dX9_costOfWay_18 (by decide) ?_
  refine j_iloadn (pc := 19) C 0 dX9_costOfWay_19 rfl rfl ?_
  refine j_if_le (tgt := 29) (pc := 20) C dX9_costOfWay_20 (by decide) hm (fun _ hm => ?_) (fun _ hm => ?_)
  · refine j_iconst (v := 3) (pc := 23) C dX9_costOfWay_23 (by decide) ?_
    refine j_iloadn (pc := 24) C 0 dX9_costOfWay_24 rfl rfl ?_
    refine j_imul (pc := 25) C dX9_costOfWay_25 ?_
    refine j_goto (tgt := 31) (pc := 26) C dX9_costOfWay_26 (by decide) ?_
    refine j_iadd (pc := 31) C dX9_costOfWay_31 ?_
    exact j_iret (pc := 32) C rfl dX9_costOfWay_32 hm
  · refine j_iloadn (pc := 29) C 0 dX9_costOfWay_29 rfl rfl ?_
    refine j_ineg (pc := 30) C dX9_costOfWay_30 ?_
    refine j_iadd (pc := 31) C dX9_costOfWay_31 ?_
    exact j_iret (pc := 32) C rfl dX9_costOfWay_32 hm

def lp_X9_climb_53 (F : Nat) (k142 : Int32 → Int32 → Int32 → jS → Option (Int32 × jS)) : Nat → Int32 → Int32 → Int32 → Int32 → jS → Option (Int32 × jS)
  | 0, _, _, _, _, _ => none
  | n + 1, x1, x2, x3, x4, σ => (if x4 < x3 then (if jin x4 256 = true then (Option.bind (mX9_costOfWay F x4 x3 σ) fun q9 => (lt ((σ 68 x4.toNatClampNeg) + q9) fun y10 => (if jin x4 256 = true then (lt ((σ 69 x4.toNatClampNeg) + (1 : Int32)) fun y12 => (if jin x3 256 = true then (if y10 < (σ 68 x3.toNatClampNeg) then (if jin x3 256 = true then (lt (js σ 68 x3.toNatClampNeg y10) fun σ14 => (if jin x3 256 = true then (lt (js σ14 69 x3.toNatClampNeg y12) fun σ16 => (lp_X9_climb_53 F k142 n x1 x2 x3 ((x4 + (1 : Int32))) σ16)) else none)) else none) else (if jin x3 256 = true then (if y10 = (σ 68 x3.toNatClampNeg) then (if jin x3 256 = true then (if y12 < (σ 69 x3.toNatClampNeg) then (if jin x3 256 = true then (lt (js σ 68 x3.toNatClampNeg y10) fun σ20 => (if jin x3 256 = true then (lt (js σ20 69 x3.toNatClampNeg y12) fun σ22 => (lp_X9_climb_53 F k142 n x1 x2 x3 ((x4 + (1 : Int32))) σ22)) else none)) else none) else (lp_X9_climb_53 F k142 n x1 x2 x3 ((x4 + (1 : Int32))) σ)) else none) else (lp_X9_climb_53 F k142 n x1 x2 x3 ((x4 + (1 : Int32))) σ)) else none)) else none)) else none))) else none) else (k142 x1 x2 x3 σ))
set_option maxHeartbeats 4000000 in
set_option maxRecDepth 100000 in
theorem lp_X9_climb_53_ok {G : jG} (C : jc cfX 70 G cX9_climb RX9 7 (some .int) 2) (F : Nat) {v : (Int32 × jS)} (k142 : Int32 → Int32 → Int32 → jS → Option (Int32 × jS)) (hk142 : ∀ (x1 : Int32) (x2 : Int32) (x3 : Int32) (σ : jS), k142 x1 x2 x3 σ = some v → JX G 142 [(0, .ref (vad (gV G) 67)), (1, .int x1), (2, .int x2), (3, .int x3)] [] σ v) : ∀ (n : Nat) (x1 : Int32) (x2 : Int32) (x3 : Int32) (x4 : Int32) (σ : jS), lp_X9_climb_53 F k142 n x1 x2 x3 x4 σ = some v → JX G 53 [(0, .ref (vad (gV G) 67)), (1, .int x1), (2, .int x2), (3, .int x3), (4, .int x4)] [] σ v := by
  intro n
  induction n with
  | zero =>
    intro x1 x2 x3 x4 σ hm
    rw [lp_X9_climb_53] at hm
    cases hm
  | succ n ih =>
    intro x1 x2 x3 x4 σ hm
    rw [lp_X9_climb_53] at hm
    refine j_iload (pc := 53) C 4 dX9_climb_53 rfl ?_
    refine j_iloadn (pc := 55) C 3 dX9_climb_55 rfl rfl ?_
    refine j_icmp_ge (tgt := 142) (pc := 56) C dX9_climb_56 (by decide) hm (fun _ hm => ?_) (fun _ hm => ?_)
    · refine j_aloadn (pc := 59) C 0 dX9_climb_59 rfl rfl ?_
      refine gf_X9_11 (c := 67) (pc := 60) C kx_67 dX9_climb_60 ?_
      refine j_iload (pc := 63) C 4 dX9_climb_63 rfl ?_
      refine j_guard hm (fun hg8 hm => ?_)
      refine j_iald (c := 68) (n := 256) (pc := 65) C (kX_lt kx_68 (by decide)) (cx_a kx_68 lx_68 _) hg8 dX9_climb_65 ?_
      refine j_aloadn (pc := 66) C 0 dX9_climb_66 rfl rfl ?_
      refine j_iload (pc := 67) C 4 dX9_climb_67 rfl ?_
      refine j_iloadn (pc := 69) C 3 dX9_climb_69 rfl rfl ?_
      obtain ⟨q9, hq9, hm⟩ := Option.bind_eq_some_iff.mp hm
      refine cl_X9_48 (c := 67) (pc := 70) C kx_67 (kX9_costOfWay hq9) (by decide) (Nat.le_of_ble_eq_true rfl) dX9_climb_70 ?_
      refine j_iadd (pc := 73) C dX9_climb_73 ?_
      refine j_lti hm (fun y10 hm => ?_)
      refine j_istore (ls' := [(5, .int y10), (0, .ref (vad (gV G) 67)), (1, .int x1), (2, .int x2), (3, .int x3), (4, .int x4)]) (pc := 74) C dX9_climb_74 (by decide) rfl ?_
      refine j_aloadn (pc := 76) C 1 dX9_climb_76 rfl rfl ?_
      refine gf_X9_15 (c := 67) (pc := 77) C kx_67 dX9_climb_77 ?_
      refine j_iload (pc := 80) C 5 dX9_climb_80 rfl ?_
      refine j_guard hm (fun hg11 hm => ?_)
      refine j_iald (c := 69) (n := 256) (pc := 82) C (kX_lt kx_69 (by decide)) (cx_a kx_69 lx_69 _) hg11 dX9_climb_82 ?_
      refine j_iconst (v := 1) (pc := 83) C dX9_climb_83 (by decide) ?_
      refine j_iadd (pc := 84) C dX9_climb_84 ?_
      refine j_lti hm (fun y12 hm => ?_)
      refine j_istore (ls' := [(6, .int y12), (5, .int y10), (0, .ref (vad (gV G) 67)), (1, .int x1), (2, .int x2), (3, .int x3), (4, .int x4)]) (pc := 85) C dX9_climb_85 (by decide) rfl ?_
      refine j_iload (pc := 87) C 1 dX9_climb_87 rfl ?_
      refine j_aloadn (pc := 89) C 2 dX9_climb_89 rfl rfl ?_
      refine gf_X9_11 (c := 67) (pc := 90) C kx_67 dX9_climb_90 ?_
      refine j_iloadn (pc := 93) C 5 dX9_climb_93 rfl rfl ?_
      refine j_guard hm (fun hg13 hm => ?_)
      refine j_iald (c := 68) (n := 256) (pc := 94) C (kX_lt kx_68 (by decide)) (cx_a kx_68 lx_68 _) hg13 dX9_climb_94 ?_
      refine j_icmp_lt (tgt := 120) (pc := 95) C dX9_climb_95 (by decide) hm (fun _ hm => ?_) (fun _ hm => ?_)
      · refine j_aloadn (pc := 120) C 2 dX9_climb_120 rfl rfl ?_
        refine gf_X9_11 (c := 67) (pc := 121) C kx_67 dX9_climb_121 ?_
        refine j_iloadn (pc := 124) C 5 dX9_climb_124 rfl rfl ?_
        refine j_iload (pc := 125) C 1 dX9_climb_125 rfl ?_
        refine j_guard hm (fun hg15 hm => ?_)
        refine j_iastL (c := 68) (n := 256) (pc := 127) C (kX_lt kx_68 (by decide)) (cx_a kx_68 lx_68) hg15 dX9_climb_127 hm (fun σ14 hm => ?_)
        refine j_aloadn (pc := 128) C 2 dX9_climb_128 rfl rfl ?_
        refine gf_X9_15 (c := 67) (pc := 129) C kx_67 dX9_climb_129 ?_
        refine j_iloadn (pc := 132) C 5 dX9_climb_132 rfl rfl ?_
        refine j_iload (pc := 133) C 0 dX9_climb_133 rfl ?_
        refine j_guard hm (fun hg17 hm => ?_)
        refine j_iastL (c := 69) (n := 256) (pc := 135) C (kX_lt kx_69 (by decide)) (cx_a kx_69 lx_69) hg17 dX9_climb_135 hm (fun σ16 hm => ?_)
        refine j_iinc (v := (x4 + (1 : Int32))) (ls' := [(4, .int (x4 + (1 : Int32))), (6, .int y12), (5, .int y10), (0, .ref (vad (gV G) 67)), (1, .int x1), (2, .int x2), (3, .int x3)]) (pc := 136) C 6 dX9_climb_136 rfl rfl (by decide) rfl ?_
        refine j_goto (tgt := 53) (pc := 139) C dX9_climb_139 (by decide) ?_
        refine j_ls [3, 4, 5, 6, 0] rfl ?_
        exact ih _ _ _ _ _ hm
      · refine j_iload (pc := 98) C 1 dX9_climb_98 rfl ?_
        refine j_aloadn (pc := 100) C 2 dX9_climb_100 rfl rfl ?_
        refine gf_X9_11 (c := 67) (pc := 101) C kx_67 dX9_climb_101 ?_
        refine j_iloadn (pc := 104) C 5 dX9_climb_104 rfl rfl ?_
        refine j_guard hm (fun hg18 hm => ?_)
        refine j_iald (c := 68) (n := 256) (pc := 105) C (kX_lt kx_68 (by decide)) (cx_a kx_68 lx_68 _) hg18 dX9_climb_105 ?_
        refine j_icmp_ne (tgt := 136) (pc := 106) C dX9_climb_106 (by decide) hm (fun _ hm => ?_) (fun _ hm => ?_)
        · refine j_iload (pc := 109) C 0 dX9_climb_109 rfl ?_
          refine j_aloadn (pc := 111) C 2 dX9_climb_111 rfl rfl ?_
          refine gf_X9_15 (c := 67) (pc := 112) C kx_67 dX9_climb_112 ?_
          refine j_iloadn (pc := 115) C 5 dX9_climb_115 rfl rfl ?_
          refine j_guard hm (fun hg19 hm => ?_)
          refine j_iald (c := 69) (n := 256) (pc := 116) C (kX_lt kx_69 (by decide)) (cx_a kx_69 lx_69 _) hg19 dX9_climb_116 ?_
          refine j_icmp_ge (tgt := 136) (pc := 117) C dX9_climb_117 (by decide) hm (fun _ hm => ?_) (fun _ hm => ?_)
          · refine j_aloadn (pc := 120) C 2 dX9_climb_120 rfl rfl ?_
            refine gf_X9_11 (c := 67) (pc := 121) C kx_67 dX9_climb_121 ?_
            refine j_iloadn (pc := 124) C 5 dX9_climb_124 rfl rfl ?_
            refine j_iload (pc := 125) C 1 dX9_climb_125 rfl ?_
            refine j_guard hm (fun hg21 hm => ?_)
            refine j_iastL (c := 68) (n := 256) (pc := 127) C (kX_lt kx_68 (by decide)) (cx_a kx_68 lx_68) hg21 dX9_climb_127 hm (fun σ20 hm => ?_)
            refine j_aloadn (pc := 128) C 2 dX9_climb_128 rfl rfl ?_
            refine gf_X9_15 (c := 67) (pc := 129) C kx_67 dX9_climb_129 ?_
            refine j_iloadn (pc := 132) C 5 dX9_climb_132 rfl rfl ?_
            refine j_iload (pc := 133) C 0 dX9_climb_133 rfl ?_
            refine j_guard hm (fun hg23 hm => ?_)
            refine j_iastL (c := 69) (n := 256) (pc := 135) C (kX_lt kx_69 (by decide)) (cx_a kx_69 lx_69) hg23 dX9_climb_135 hm (fun σ22 hm => ?_)
            refine j_iinc (v := (x4 + (1 : Int32))) (ls' := [(4, .int (x4 + (1 : Int32))), (6, .int y12), (5, .int y10), (0, .ref (vad (gV G) 67)), (1, .int x1), (2, .int x2), (3, .int x3)]) (pc := 136) C 6 dX9_climb_136 rfl rfl (by decide) rfl ?_
            refine j_goto (tgt := 53) (pc := 139) C dX9_climb_139 (by decide) ?_
            refine j_ls [3, 4, 5, 6, 0] rfl ?_
            exact ih _ _ _ _ _ hm
          · refine j_iinc (v := (x4 + (1 : Int32))) (ls' := [(4, .int (x4 + (1 : Int32))), (6, .int y12), (5, .int y10), (0, .ref (vad (gV G) 67)), (1, .int x1), (2, .int x2), (3, .int x3)]) (pc := 136) C 6 dX9_climb_136 rfl rfl (by decide) rfl ?_
            refine j_goto (tgt := 53) (pc := 139) C dX9_climb_139 (by decide) ?_
            refine j_ls [3, 4, 5, 6, 0] rfl ?_
            exact ih _ _ _ _ _ hm
        · refine j_iinc (v := (x4 + (1 : Int32))) (ls' := [(4, .int (x4 + (1 : Int32))), (6, .int y12), (5, .int y10), (0, .ref (vad (gV G) 67)), (1, .int x1), (2, .int x2), (3, .int x3)]) (pc := 136) C 6 dX9_climb_136 rfl rfl (by decide) rfl ?_
          refine j_goto (tgt := 53) (pc := 139) C dX9_climb_139 (by decide) ?_
          refine j_ls [3, 4, 5, 6, 0] rfl ?_
          exact ih _ _ _ _ _ hm
    · refine j_ls [0, 1, 2, 3] rfl ?_
      exact hk142 _ _ _ _ hm

def lp_X9_climb_16 (F : Nat) (k148 : Int32 → Int32 → jS → Option (Int32 × jS)) : Nat → Int32 → Int32 → Int32 → jS → Option (Int32 × jS)
  | 0, _, _, _, _ => none
  | n + 1, x1, x2, x3, σ => (if x3 < x1 then (if x3 < (256 : Int32) then (if jin x3 256 = true then (lt (js σ 68 x3.toNatClampNeg (1000000 : Int32)) fun σ3 => (if jin x3 256 = true then (lt (js σ3 69 x3.toNatClampNeg (1000000 : Int32)) fun σ5 => (lt (imax (0 : Int32) (x3 - (2 : Int32))) fun y7 => (lp_X9_climb_53 F (fun x1_24 x2_24 x3_24 σ24 => (lp_X9_climb_16 F k148 n x1_24 x2_24 ((x3_24 + (1 : Int32))) σ24)) F x1 x2 x3 y7 σ5))) else none)) else none) else (k148 x1 x2 σ)) else (k148 x1 x2 σ))
set_option maxHeartbeats 4000000 in
set_option maxRecDepth 100000 in
theorem lp_X9_climb_16_ok {G : jG} (C : jc cfX 70 G cX9_climb RX9 7 (some .int) 2) (F : Nat) {v : (Int32 × jS)} (k148 : Int32 → Int32 → jS → Option (Int32 × jS)) (hk148 : ∀ (x1 : Int32) (x2 : Int32) (σ : jS), k148 x1 x2 σ = some v → JX G 148 [(0, .ref (vad (gV G) 67)), (1, .int x1), (2, .int x2)] [] σ v) : ∀ (n : Nat) (x1 : Int32) (x2 : Int32) (x3 : Int32) (σ : jS), lp_X9_climb_16 F k148 n x1 x2 x3 σ = some v → JX G 16 [(0, .ref (vad (gV G) 67)), (1, .int x1), (2, .int x2), (3, .int x3)] [] σ v := by
  intro n
  induction n with
  | zero =>
    intro x1 x2 x3 σ hm
    rw [lp_X9_climb_16] at hm
    cases hm
  | succ n ih =>
    intro x1 x2 x3 σ hm
    rw [lp_X9_climb_16] at hm
    refine j_iloadn (pc := 16) C 3 dX9_climb_16 rfl rfl ?_
    refine j_iloadn (pc := 17) C 1 dX9_climb_17 rfl rfl ?_
    refine j_icmp_ge (tgt := 148) (pc := 18) C dX9_climb_18 (by decide) hm (fun _ hm => ?_) (fun _ hm => ?_)
    · refine j_iloadn (pc := 21) C 3 dX9_climb_21 rfl rfl ?_
      refine j_sipush (v := 256) (pc := 22) C dX9_climb_22 (by decide) ?_
      refine j_icmp_ge (tgt := 148) (pc := 25) C dX9_climb_25 (by decide) hm (fun _ hm => ?_) (fun _ hm => ?_)
      · refine j_aloadn (pc := 28) C 0 dX9_climb_28 rfl rfl ?_
        refine gf_X9_11 (c := 67) (pc := 29) C kx_67 dX9_climb_29 ?_
        refine j_iloadn (pc := 32) C 3 dX9_climb_32 rfl rfl ?_
        refine j_ldc (v := 1000000) (pc := 33) C dX9_climb_33 tw_5_39 ?_
        refine j_guard hm (fun hg4 hm => ?_)
        refine j_iastL (c := 68) (n := 256) (pc := 35) C (kX_lt kx_68 (by decide)) (cx_a kx_68 lx_68) hg4 dX9_climb_35 hm (fun σ3 hm => ?_)
        refine j_aloadn (pc := 36) C 0 dX9_climb_36 rfl rfl ?_
        refine gf_X9_15 (c := 67) (pc := 37) C kx_67 dX9_climb_37 ?_
        refine j_iloadn (pc := 40) C 3 dX9_climb_40 rfl rfl ?_
        refine j_ldc (v := 1000000) (pc := 41) C dX9_climb_41 tw_5_39 ?_
        refine j_guard hm (fun hg6 hm => ?_)
        refine j_iastL (c := 69) (n := 256) (pc := 43) C (kX_lt kx_69 (by decide)) (cx_a kx_69 lx_69) hg6 dX9_climb_43 hm (fun σ5 hm => ?_)
        refine j_iconst (v := 0) (pc := 44) C dX9_climb_44 (by decide) ?_
        refine j_iloadn (pc := 45) C 3 dX9_climb_45 rfl rfl ?_
        refine j_iconst (v := 2) (pc := 46) C dX9_climb_46 (by decide) ?_
        refine j_isub (pc := 47) C dX9_climb_47 ?_
        refine j_mmaxD (pc := 48) C tw_4_196 tw_2_230 tw_1_14 tw_2_231 (by decide) (Nat.le_of_ble_eq_true rfl) dX9_climb_48 ?_
        refine j_lti hm (fun y7 hm => ?_)
        refine j_istore (ls' := [(4, .int y7), (0, .ref (vad (gV G) 67)), (1, .int x1), (2, .int x2), (3, .int x3)]) (pc := 51) C dX9_climb_51 (by decide) rfl ?_
        refine j_ls [1, 2, 3, 4, 0] rfl ?_
        refine lp_X9_climb_53_ok C F _ (fun x1_24 x2_24 x3_24 σ24 hm => ?_) F _ _ _ _ _ hm
        refine j_iinc (v := (x3_24 + (1 : Int32))) (ls' := [(3, .int (x3_24 + (1 : Int32))), (0, .ref (vad (gV G) 67)), (1, .int x1_24), (2, .int x2_24)]) (pc := 142) C 3 dX9_climb_142 rfl rfl (by decide) rfl ?_
        refine j_goto (tgt := 16) (pc := 145) C dX9_climb_145 (by decide) ?_
        refine j_ls [1, 2, 3, 0] rfl ?_
        exact ih _ _ _ _ hm
      · refine j_ls [0, 1, 2] rfl ?_
        exact hk148 _ _ _ hm
    · refine j_ls [0, 1, 2] rfl ?_
      exact hk148 _ _ _ hm

def jn_X9_climb_148 (F : Nat) (x1 : Int32) (x2 : Int32) (σ : jS) : Option (Int32 × jS) := (if x1 < (1 : Int32) then some ((-1 : Int32), σ) else (if (256 : Int32) < x1 then some ((-1 : Int32), σ) else (if x2 = 0 then (lt (x1 - (1 : Int32)) fun y26 => (if jin y26 256 = true then some ((σ 68 y26.toNatClampNeg), σ) else none)) else (lt (x1 - (1 : Int32)) fun y28 => (if jin y28 256 = true then some ((σ 69 y28.toNatClampNeg), σ) else none)))))
set_option maxHeartbeats 4000000 in
set_option maxRecDepth 100000 in
theorem jn_X9_climb_148_ok {G : jG} (C : jc cfX 70 G cX9_climb RX9 7 (some .int) 2) (F : Nat) {v : (Int32 × jS)} : ∀ (x1 : Int32) (x2 : Int32) (σ : jS), jn_X9_climb_148 F x1 x2 σ = some v → JX G 148 [(0, .ref (vad (gV G) 67)), (1, .int x1), (2, .int x2)] [] σ v := by
  intro x1 x2 σ hm
  unfold jn_X9_climb_148 at hm
  refine j_iloadn (pc := 148) C 1 dX9_climb_148 rfl rfl ?_
  refine j_iconst (v := 1) (pc := 149) C dX9_climb_149 (by decide) ?_
  refine j_icmp_lt (tgt := 160) (pc := 150) C dX9_climb_150 (by decide) hm (fun _ hm => ?_) (fun _ hm => ?_)
  · refine j_iconst (v := -1) (pc := 160) C dX9_climb_160 (by decide) ?_
    exact j_iretS (pc := 161) C rfl dX9_climb_161 hm
  · refine j_iloadn (pc := 153) C 1 dX9_climb_153 rfl rfl ?_
    refine j_sipush (v := 256) (pc := 154) C dX9_climb_154 (by decide) ?_
    refine j_icmp_le (tgt := 162) (pc := 157) C dX9_climb_157 (by decide) hm (fun _ hm => ?_) (fun _ hm => ?_)
    · refine j_iconst (v := -1) (pc := 160) C dX9_climb_160 (by decide) ?_
      exact j_iretS (pc := 161) C rfl dX9_climb_161 hm
    · refine j_iloadn (pc := 162) C 2 dX9_climb_162 rfl rfl ?_
      refine j_if_ne (tgt := 177) (pc := 163) C dX9_climb_163 (by decide) hm (fun _ hm => ?_) (fun _ hm => ?_)
      · refine j_aloadn (pc := 166) C 0 dX9_climb_166 rfl rfl ?_
        refine gf_X9_11 (c := 67) (pc := 167) C kx_67 dX9_climb_167 ?_
        refine j_iloadn (pc := 170) C 1 dX9_climb_170 rfl rfl ?_
        refine j_iconst (v := 1) (pc := 171) C dX9_climb_171 (by decide) ?_
        refine j_isub (pc := 172) C dX9_climb_172 ?_
        refine j_lti hm (fun y26 hm => ?_)
        refine j_guard hm (fun hg27 hm => ?_)
        refine j_iald (c := 68) (n := 256) (pc := 173) C (kX_lt kx_68 (by decide)) (cx_a kx_68 lx_68 _) hg27 dX9_climb_173 ?_
        refine j_goto (tgt := 185) (pc := 174) C dX9_climb_174 (by decide) ?_
        exact j_iretS (pc := 185) C rfl dX9_climb_185 hm
      · refine j_aloadn (pc := 177) C 0 dX9_climb_177 rfl rfl ?_
        refine gf_X9_15 (c := 67) (pc := 178) C kx_67 dX9_climb_178 ?_
        refine j_iloadn (pc := 181) C 1 dX9_climb_181 rfl rfl ?_
        refine j_iconst (v := 1) (pc := 182) C dX9_climb_182 (by decide) ?_
        refine j_isub (pc := 183) C dX9_climb_183 ?_
        refine j_lti hm (fun y28 hm => ?_)
        refine j_guard hm (fun hg29 hm => ?_)
        refine j_iald (c := 69) (n := 256) (pc := 184) C (kX_lt kx_69 (by decide)) (cx_a kx_69 lx_69 _) hg29 dX9_climb_184 ?_
        exact j_iretS (pc := 185) C rfl dX9_climb_185 hm

def mX9_climb (F : Nat) (x1 : Int32) (x2 : Int32) (σ : jS) : Option (Int32 × jS) := (lt (js σ 68 0 (0 : Int32)) fun σ1 => (lt (js σ1 69 0 (0 : Int32)) fun σ2 => (lp_X9_climb_16 F (fun x1_25 x2_25 σ25 => (jn_X9_climb_148 F x1_25 x2_25 σ25)) F x1 x2 (1 : Int32) σ2)))
set_option maxHeartbeats 4000000 in
set_option maxRecDepth 100000 in
theorem kX9_climb {V : jV} {F : Nat} {x1 : Int32} {x2 : Int32} {σ : jS} {v : (Int32 × jS)} (hm : mX9_climb F x1 x2 σ = some v) : Ct cfX 70 V yX9_climb cX9_climb 7 (some .int) 2 [.ref (vad V 67), .int x1, .int x2] σ v := by
  refine j_start (own := RX9) (by decide) rfl (Nat.le_of_ble_eq_true rfl) ?_
  intro G hV C
  subst hV
  unfold mX9_climb at hm
  show JX G 0 [(0, .ref (vad (gV G) 67)), (1, .int x1), (2, .int x2)] [] σ v
  refine j_aloadn (pc := 0) C 0 dX9_climb_0 rfl rfl ?_
  refine gf_X9_11 (c := 67) (pc := 1) C kx_67 dX9_climb_1 ?_
  refine j_iconst (v := 0) (pc := 4) C dX9_climb_4 (by decide) ?_
  refine j_iconst (v := 0) (pc := 5) C dX9_climb_5 (by decide) ?_
  refine j_iastK (c := 68) (n := 256) (k := 0) (pc := 6) C (kX_lt kx_68 (by decide)) (cx_a kx_68 lx_68) rfl (by decide) dX9_climb_6 hm (fun σ1 hm => ?_)
  refine j_aloadn (pc := 7) C 0 dX9_climb_7 rfl rfl ?_
  refine gf_X9_15 (c := 67) (pc := 8) C kx_67 dX9_climb_8 ?_
  refine j_iconst (v := 0) (pc := 11) C dX9_climb_11 (by decide) ?_
  refine j_iconst (v := 0) (pc := 12) C dX9_climb_12 (by decide) ?_
  refine j_iastK (c := 69) (n := 256) (k := 0) (pc := 13) C (kX_lt kx_69 (by decide)) (cx_a kx_69 lx_69) rfl (by decide) dX9_climb_13 hm (fun σ2 hm => ?_)
  refine j_iconst (v := 1) (pc := 14) C dX9_climb_14 (by decide) ?_
  refine j_istoren (ls' := [(3, .int (1 : Int32)), (0, .ref (vad (gV G) 67)), (1, .int x1), (2, .int x2)]) (pc := 15) C dX9_climb_15 rfl (by decide) rfl ?_
  refine j_ls [1, 2, 3, 0] rfl ?_
  refine lp_X9_climb_16_ok C F _ (fun x1_25 x2_25 σ25 hm => ?_) F _ _ _ _ hm
  exact jn_X9_climb_148_ok C F  _ _ _ hm

def lp_X9_areBells_33 (F : Nat) (σ : jS) (k75 : Int32 → Int32 → Int32 → Option Int32) : Nat → Int32 → Int32 → Int32 → Int32 → Option Int32
  | 0, _, _, _, _ => none
  | n + 1, x1, x2, x3, x4 => (if x4 < x3 then (if x2 = 0 then (lp_X9_areBells_33 F σ k75 n x1 (0 : Int32) x3 ((x4 + (1 : Int32)))) else (Option.bind (mX10_byteAt F x4 σ) fun q1 => (Option.bind (mX10_byteAt F x3 σ) fun q2 => (if q1 = q2 then (lp_X9_areBells_33 F σ k75 n x1 (0 : Int32) x3 ((x4 + (1 : Int32)))) else (lp_X9_areBells_33 F σ k75 n x1 (1 : Int32) x3 ((x4 + (1 : Int32)))))))) else (k75 x1 x2 x3))
set_option maxHeartbeats 4000000 in
set_option maxRecDepth 100000 in
theorem lp_X9_areBells_33_ok {G : jG} (C : jc cfX 70 G cX9_areBells RX9 5 (some .boolean) 1) (F : Nat) (σ : jS) {v : Int32} (k75 : Int32 → Int32 → Int32 → Option Int32) (hk75 : ∀ (x1 : Int32) (x2 : Int32) (x3 : Int32), k75 x1 x2 x3 = some v → JX G 75 [(0, .ref (vad (gV G) 67)), (1, .int x1), (2, .int x2), (3, .int x3)] [] σ (v, σ)) : ∀ (n : Nat) (x1 : Int32) (x2 : Int32) (x3 : Int32) (x4 : Int32), lp_X9_areBells_33 F σ k75 n x1 x2 x3 x4 = some v → JX G 33 [(0, .ref (vad (gV G) 67)), (1, .int x1), (2, .int x2), (3, .int x3), (4, .int x4)] [] σ (v, σ) := by
  intro n
  induction n with
  | zero =>
    intro x1 x2 x3 x4 hm
    rw [lp_X9_areBells_33] at hm
    cases hm
  | succ n ih =>
    intro x1 x2 x3 x4 hm
    rw [lp_X9_areBells_33] at hm
    refine j_iload (pc := 33) C 4 dX9_areBells_33 rfl ?_
    refine j_iloadn (pc := 35) C 3 dX9_areBells_35 rfl rfl ?_
    refine j_icmp_ge (tgt := 75) (pc := 36) C dX9_areBells_36 (by decide) hm (fun _ hm => ?_) (fun _ hm => ?_)
    · refine j_iloadn (pc := 39) C 2 dX9_areBells_39 rfl rfl ?_
      refine j_if_eq (tgt := 67) (pc := 40) C dX9_areBells_40 (by decide) hm (fun _ hm => ?_) (fun _ hm => ?_)
      · refine j_iconst (v := 0) (pc := 67) C dX9_areBells_67 (by decide) ?_
        refine j_istoren (ls' := [(2, .int (0 : Int32)), (0, .ref (vad (gV G) 67)), (1, .int x1), (3, .int x3), (4, .int x4)]) (pc := 68) C dX9_areBells_68 rfl (by decide) rfl ?_
        refine j_iinc (v := (x4 + (1 : Int32))) (ls' := [(4, .int (x4 + (1 : Int32))), (2, .int (0 : Int32)), (0, .ref (vad (gV G) 67)), (1, .int x1), (3, .int x3)]) (pc := 69) C 4 dX9_areBells_69 rfl rfl (by decide) rfl ?_
        refine j_goto (tgt := 33) (pc := 72) C dX9_areBells_72 (by decide) ?_
        refine j_ls [2, 3, 1, 4, 0] rfl ?_
        exact ih _ _ _ _ hm
      · refine j_aloadn (pc := 43) C 0 dX9_areBells_43 rfl rfl ?_
        refine gf_X9_18 (c := 67) (pc := 44) C kx_67 dX9_areBells_44 ?_
        refine j_iload (pc := 47) C 4 dX9_areBells_47 rfl ?_
        obtain ⟨q1, hq1, hm⟩ := Option.bind_eq_some_iff.mp hm
        refine cl_X9_41 (c := 1) (pc := 49) C kx_1 (kX10_byteAt hq1) (by decide) (Nat.le_of_ble_eq_true rfl) dX9_areBells_49 ?_
        refine j_aloadn (pc := 52) C 0 dX9_areBells_52 rfl rfl ?_
        refine gf_X9_18 (c := 67) (pc := 53) C kx_67 dX9_areBells_53 ?_
        refine j_iloadn (pc := 56) C 3 dX9_areBells_56 rfl rfl ?_
        obtain ⟨q2, hq2, hm⟩ := Option.bind_eq_some_iff.mp hm
        refine cl_X9_41 (c := 1) (pc := 57) C kx_1 (kX10_byteAt hq2) (by decide) (Nat.le_of_ble_eq_true rfl) dX9_areBells_57 ?_
        refine j_icmp_eq (tgt := 67) (pc := 60) C dX9_areBells_60 (by decide) hm (fun _ hm => ?_) (fun _ hm => ?_)
        · refine j_iconst (v := 0) (pc := 67) C dX9_areBells_67 (by decide) ?_
          refine j_istoren (ls' := [(2, .int (0 : Int32)), (0, .ref (vad (gV G) 67)), (1, .int x1), (3, .int x3), (4, .int x4)]) (pc := 68) C dX9_areBells_68 rfl (by decide) rfl ?_
          refine j_iinc (v := (x4 + (1 : Int32))) (ls' := [(4, .int (x4 + (1 : Int32))), (2, .int (0 : Int32)), (0, .ref (vad (gV G) 67)), (1, .int x1), (3, .int x3)]) (pc := 69) C 4 dX9_areBells_69 rfl rfl (by decide) rfl ?_
          refine j_goto (tgt := 33) (pc := 72) C dX9_areBells_72 (by decide) ?_
          refine j_ls [2, 3, 1, 4, 0] rfl ?_
          exact ih _ _ _ _ hm
        · refine j_iconst (v := 1) (pc := 63) C dX9_areBells_63 (by decide) ?_
          refine j_goto (tgt := 68) (pc := 64) C dX9_areBells_64 (by decide) ?_
          refine j_istoren (ls' := [(2, .int (1 : Int32)), (0, .ref (vad (gV G) 67)), (1, .int x1), (3, .int x3), (4, .int x4)]) (pc := 68) C dX9_areBells_68 rfl (by decide) rfl ?_
          refine j_iinc (v := (x4 + (1 : Int32))) (ls' := [(4, .int (x4 + (1 : Int32))), (2, .int (1 : Int32)), (0, .ref (vad (gV G) 67)), (1, .int x1), (3, .int x3)]) (pc := 69) C 4 dX9_areBells_69 rfl rfl (by decide) rfl ?_
          refine j_goto (tgt := 33) (pc := 72) C dX9_areBells_72 (by decide) ?_
          refine j_ls [2, 3, 1, 4, 0] rfl ?_
          exact ih _ _ _ _ hm
    · refine j_ls [0, 1, 2, 3] rfl ?_
      exact hk75 _ _ _ hm

def jn_X9_areBells_29 (F : Nat) (σ : jS) (k4 : Int32 → Int32 → Int32 → Option Int32) (x1 : Int32) (x3 : Int32) (s0 : Int32) : Option Int32 := (lp_X9_areBells_33 F σ (fun x1_3 x2_3 x3_3 => (k4 x1_3 x2_3 ((x3_3 + (1 : Int32))))) F x1 s0 x3 (0 : Int32))
set_option maxHeartbeats 4000000 in
set_option maxRecDepth 100000 in
theorem jn_X9_areBells_29_ok {G : jG} (C : jc cfX 70 G cX9_areBells RX9 5 (some .boolean) 1) (F : Nat) (σ : jS) {v : Int32} (k4 : Int32 → Int32 → Int32 → Option Int32) (hk4 : ∀ (x1 : Int32) (x2 : Int32) (x3 : Int32), k4 x1 x2 x3 = some v → JX G 4 [(0, .ref (vad (gV G) 67)), (1, .int x1), (2, .int x2), (3, .int x3)] [] σ (v, σ)) : ∀ (x1 : Int32) (x3 : Int32) (s0 : Int32), jn_X9_areBells_29 F σ k4 x1 x3 s0 = some v → JX G 29 [(0, .ref (vad (gV G) 67)), (1, .int x1), (3, .int x3)] [.int s0] σ (v, σ) := by
  intro x1 x3 s0 hm
  unfold jn_X9_areBells_29 at hm
  refine j_istoren (ls' := [(2, .int s0), (0, .ref (vad (gV G) 67)), (1, .int x1), (3, .int x3)]) (pc := 29) C dX9_areBells_29 rfl (by decide) rfl ?_
  refine j_iconst (v := 0) (pc := 30) C dX9_areBells_30 (by decide) ?_
  refine j_istore (ls' := [(4, .int (0 : Int32)), (2, .int s0), (0, .ref (vad (gV G) 67)), (1, .int x1), (3, .int x3)]) (pc := 31) C dX9_areBells_31 (by decide) rfl ?_
  refine j_ls [2, 3, 1, 4, 0] rfl ?_
  refine lp_X9_areBells_33_ok C F σ _ (fun x1_3 x2_3 x3_3 hm => ?_) F _ _ _ _ hm
  refine j_iinc (v := (x3_3 + (1 : Int32))) (ls' := [(3, .int (x3_3 + (1 : Int32))), (0, .ref (vad (gV G) 67)), (1, .int x1_3), (2, .int x2_3)]) (pc := 75) C 3 dX9_areBells_75 rfl rfl (by decide) rfl ?_
  refine j_goto (tgt := 4) (pc := 78) C dX9_areBells_78 (by decide) ?_
  refine j_ls [1, 2, 3, 0] rfl ?_
  exact hk4 _ _ _ hm

def jn_X9_areBells_28 (F : Nat) (σ : jS) (k4 : Int32 → Int32 → Int32 → Option Int32) (x1 : Int32) (x3 : Int32) : Option Int32 := (jn_X9_areBells_29 F σ (k4) x1 x3 (0 : Int32))
set_option maxHeartbeats 4000000 in
set_option maxRecDepth 100000 in
theorem jn_X9_areBells_28_ok {G : jG} (C : jc cfX 70 G cX9_areBells RX9 5 (some .boolean) 1) (F : Nat) (σ : jS) {v : Int32} (k4 : Int32 → Int32 → Int32 → Option Int32) (hk4 : ∀ (x1 : Int32) (x2 : Int32) (x3 : Int32), k4 x1 x2 x3 = some v → JX G 4 [(0, .ref (vad (gV G) 67)), (1, .int x1), (2, .int x2), (3, .int x3)] [] σ (v, σ)) : ∀ (x1 : Int32) (x3 : Int32), jn_X9_areBells_28 F σ k4 x1 x3 = some v → JX G 28 [(0, .ref (vad (gV G) 67)), (1, .int x1), (3, .int x3)] [] σ (v, σ) := by
  intro x1 x3 hm
  unfold jn_X9_areBells_28 at hm
  refine j_iconst (v := 0) (pc := 28) C dX9_areBells_28 (by decide) ?_
  exact jn_X9_areBells_29_ok C F σ _ (fun _ _ _ hm => hk4 _ _ _ hm) _ _ _ hm

def lp_X9_areBells_4 (F : Nat) (σ : jS) : Nat → Int32 → Int32 → Int32 → Option Int32
  | 0, _, _, _ => none
  | n + 1, x1, x2, x3 => (if x3 < x1 then (if x2 = 0 then (jn_X9_areBells_28 F σ (lp_X9_areBells_4 F σ n) x1 x3) else (Option.bind (mX10_byteAt F x3 σ) fun q4 => (if q4 = 0 then (jn_X9_areBells_28 F σ (lp_X9_areBells_4 F σ n) x1 x3) else (jn_X9_areBells_29 F σ (lp_X9_areBells_4 F σ n) x1 x3 (1 : Int32))))) else (if jbo x2 = true then some x2 else none))
set_option maxHeartbeats 4000000 in
set_option maxRecDepth 100000 in
theorem lp_X9_areBells_4_ok {G : jG} (C : jc cfX 70 G cX9_areBells RX9 5 (some .boolean) 1) (F : Nat) (σ : jS) {v : Int32} : ∀ (n : Nat) (x1 : Int32) (x2 : Int32) (x3 : Int32), lp_X9_areBells_4 F σ n x1 x2 x3 = some v → JX G 4 [(0, .ref (vad (gV G) 67)), (1, .int x1), (2, .int x2), (3, .int x3)] [] σ (v, σ) := by
  intro n
  induction n with
  | zero =>
    intro x1 x2 x3 hm
    rw [lp_X9_areBells_4] at hm
    cases hm
  | succ n ih =>
    intro x1 x2 x3 hm
    rw [lp_X9_areBells_4] at hm
    refine j_iloadn (pc := 4) C 3 dX9_areBells_4 rfl rfl ?_
    refine j_iloadn (pc := 5) C 1 dX9_areBells_5 rfl rfl ?_
    refine j_icmp_ge (tgt := 81) (pc := 6) C dX9_areBells_6 (by decide) hm (fun _ hm => ?_) (fun _ hm => ?_)
    · refine j_iloadn (pc := 9) C 2 dX9_areBells_9 rfl rfl ?_
      refine j_if_eq (tgt := 28) (pc := 10) C dX9_areBells_10 (by decide) hm (fun _ hm => ?_) (fun _ hm => ?_)
      · refine j_ls [0, 1, 3] rfl ?_
        exact jn_X9_areBells_28_ok C F σ _ (fun _ _ _ hm => ih _ _ _ hm) _ _ hm
      · refine j_aloadn (pc := 13) C 0 dX9_areBells_13 rfl rfl ?_
        refine gf_X9_18 (c := 67) (pc := 14) C kx_67 dX9_areBells_14 ?_
        refine j_iloadn (pc := 17) C 3 dX9_areBells_17 rfl rfl ?_
        obtain ⟨q4, hq4, hm⟩ := Option.bind_eq_some_iff.mp hm
        refine cl_X9_41 (c := 1) (pc := 18) C kx_1 (kX10_byteAt hq4) (by decide) (Nat.le_of_ble_eq_true rfl) dX9_areBells_18 ?_
        refine j_if_eq (tgt := 28) (pc := 21) C dX9_areBells_21 (by decide) hm (fun _ hm => ?_) (fun _ hm => ?_)
        · refine j_ls [0, 1, 3] rfl ?_
          exact jn_X9_areBells_28_ok C F σ _ (fun _ _ _ hm => ih _ _ _ hm) _ _ hm
        · refine j_iconst (v := 1) (pc := 24) C dX9_areBells_24 (by decide) ?_
          refine j_goto (tgt := 29) (pc := 25) C dX9_areBells_25 (by decide) ?_
          refine j_ls [0, 1, 3] rfl ?_
          exact jn_X9_areBells_29_ok C F σ _ (fun _ _ _ hm => ih _ _ _ hm) _ _ _ hm
    · refine j_iloadn (pc := 81) C 2 dX9_areBells_81 rfl rfl ?_
      refine j_guard hm (fun hb5 hm => ?_)
      exact j_zret (pc := 82) C rfl hb5 dX9_areBells_82 hm

def mX9_areBells (F : Nat) (x1 : Int32) (σ : jS) : Option Int32 := (lp_X9_areBells_4 F σ F x1 (1 : Int32) (0 : Int32))
set_option maxHeartbeats 4000000 in
set_option maxRecDepth 100000 in
theorem kX9_areBells {V : jV} {F : Nat} {x1 : Int32} {σ : jS} {v : Int32} (hm : mX9_areBells F x1 σ = some v) : Ct cfX 70 V yX9_areBells cX9_areBells 5 (some .boolean) 1 [.ref (vad V 67), .int x1] σ (v, σ) := by
  refine j_start (own := RX9) (by decide) rfl (Nat.le_of_ble_eq_true rfl) ?_
  intro G hV C
  subst hV
  unfold mX9_areBells at hm
  show JX G 0 [(0, .ref (vad (gV G) 67)), (1, .int x1)] [] σ (v, σ)
  refine j_iconst (v := 1) (pc := 0) C dX9_areBells_0 (by decide) ?_
  refine j_istoren (ls' := [(2, .int (1 : Int32)), (0, .ref (vad (gV G) 67)), (1, .int x1)]) (pc := 1) C dX9_areBells_1 rfl (by decide) rfl ?_
  refine j_iconst (v := 0) (pc := 2) C dX9_areBells_2 (by decide) ?_
  refine j_istoren (ls' := [(3, .int (0 : Int32)), (2, .int (1 : Int32)), (0, .ref (vad (gV G) 67)), (1, .int x1)]) (pc := 3) C dX9_areBells_3 rfl (by decide) rfl ?_
  refine j_ls [2, 3, 1, 0] rfl ?_
  exact lp_X9_areBells_4_ok C F σ  F _ _ _ hm

def lp_X9_fewestBlows_21 (F : Nat) (k72 : Int32 → Int32 → Int32 → Int32 → jS → Option (Int32 × jS)) : Nat → Int32 → Int32 → Int32 → Int32 → Int32 → jS → Option (Int32 × jS)
  | 0, _, _, _, _, _, _ => none
  | n + 1, x1, x2, x3, x4, x5, σ => (if x5 < x1 then (Option.bind (mX10_byteAt F x5 σ) fun q2 => (if x3 < q2 then (lp_X9_fewestBlows_21 F k72 n x1 x2 x3 x4 ((x5 + (1 : Int32))) σ) else (lt ((x3 - q2) &&& (255 : Int32)) fun y3 => (if jin y3 256 = true then (lt (imin x4 ((σ 68 y3.toNatClampNeg) + (1 : Int32))) fun y5 => (lp_X9_fewestBlows_21 F k72 n x1 x2 x3 y5 ((x5 + (1 : Int32))) σ)) else none)))) else (k72 x1 x2 x3 x4 σ))
set_option maxHeartbeats 4000000 in
set_option maxRecDepth 100000 in
theorem lp_X9_fewestBlows_21_ok {G : jG} (C : jc cfX 70 G cX9_fewestBlows RX9 7 (some .int) 1) (F : Nat) {v : (Int32 × jS)} (k72 : Int32 → Int32 → Int32 → Int32 → jS → Option (Int32 × jS)) (hk72 : ∀ (x1 : Int32) (x2 : Int32) (x3 : Int32) (x4 : Int32) (σ : jS), k72 x1 x2 x3 x4 σ = some v → JX G 72 [(0, .ref (vad (gV G) 67)), (1, .int x1), (2, .int x2), (3, .int x3), (4, .int x4)] [] σ v) : ∀ (n : Nat) (x1 : Int32) (x2 : Int32) (x3 : Int32) (x4 : Int32) (x5 : Int32) (σ : jS), lp_X9_fewestBlows_21 F k72 n x1 x2 x3 x4 x5 σ = some v → JX G 21 [(0, .ref (vad (gV G) 67)), (1, .int x1), (2, .int x2), (3, .int x3), (4, .int x4), (5, .int x5)] [] σ v := by
  intro n
  induction n with
  | zero =>
    intro x1 x2 x3 x4 x5 σ hm
    rw [lp_X9_fewestBlows_21] at hm
    cases hm
  | succ n ih =>
    intro x1 x2 x3 x4 x5 σ hm
    rw [lp_X9_fewestBlows_21] at hm
    refine j_iload (pc := 21) C 5 dX9_fewestBlows_21 rfl ?_
    refine j_iloadn (pc := 23) C 1 dX9_fewestBlows_23 rfl rfl ?_
    refine j_icmp_ge (tgt := 72) (pc := 24) C dX9_fewestBlows_24 (by decide) hm (fun _ hm => ?_) (fun _ hm => ?_)
    · refine j_aloadn (pc := 27) C 0 dX9_fewestBlows_27 rfl rfl ?_
      refine gf_X9_18 (c := 67) (pc := 28) C kx_67 dX9_fewestBlows_28 ?_
      refine j_iload (pc := 31) C 5 dX9_fewestBlows_31 rfl ?_
      obtain ⟨q2, hq2, hm⟩ := Option.bind_eq_some_iff.mp hm
      refine cl_X9_41 (c := 1) (pc := 33) C kx_1 (kX10_byteAt hq2) (by decide) (Nat.le_of_ble_eq_true rfl) dX9_fewestBlows_33 ?_
      refine j_istore (ls' := [(6, .int q2), (0, .ref (vad (gV G) 67)), (1, .int x1), (2, .int x2), (3, .int x3), (4, .int x4), (5, .int x5)]) (pc := 36) C dX9_fewestBlows_36 (by decide) rfl ?_
      refine j_iload (pc := 38) C 0 dX9_fewestBlows_38 rfl ?_
      refine j_iloadn (pc := 40) C 4 dX9_fewestBlows_40 rfl rfl ?_
      refine j_icmp_gt (tgt := 66) (pc := 41) C dX9_fewestBlows_41 (by decide) hm (fun _ hm => ?_) (fun _ hm => ?_)
      · refine j_iinc (v := (x5 + (1 : Int32))) (ls' := [(5, .int (x5 + (1 : Int32))), (6, .int q2), (0, .ref (vad (gV G) 67)), (1, .int x1), (2, .int x2), (3, .int x3), (4, .int x4)]) (pc := 66) C 6 dX9_fewestBlows_66 rfl rfl (by decide) rfl ?_
        refine j_goto (tgt := 21) (pc := 69) C dX9_fewestBlows_69 (by decide) ?_
        refine j_ls [2, 3, 4, 5, 6, 0] rfl ?_
        exact ih _ _ _ _ _ _ hm
      · refine j_iload (pc := 44) C 5 dX9_fewestBlows_44 rfl ?_
        refine j_aloadn (pc := 46) C 1 dX9_fewestBlows_46 rfl rfl ?_
        refine gf_X9_11 (c := 67) (pc := 47) C kx_67 dX9_fewestBlows_47 ?_
        refine j_iloadn (pc := 50) C 4 dX9_fewestBlows_50 rfl rfl ?_
        refine j_iload (pc := 51) C 0 dX9_fewestBlows_51 rfl ?_
        refine j_isub (pc := 53) C dX9_fewestBlows_53 ?_
        refine j_sipush (v := 255) (pc := 54) C dX9_fewestBlows_54 (by decide) ?_
        refine j_iand (pc := 57) C dX9_fewestBlows_57 ?_
        refine j_lti hm (fun y3 hm => ?_)
        refine j_guard hm (fun hg4 hm => ?_)
        refine j_iald (c := 68) (n := 256) (pc := 58) C (kX_lt kx_68 (by decide)) (cx_a kx_68 lx_68 _) hg4 dX9_fewestBlows_58 ?_
        refine j_iconst (v := 1) (pc := 59) C dX9_fewestBlows_59 (by decide) ?_
        refine j_iadd (pc := 60) C dX9_fewestBlows_60 ?_
        refine j_mminD (pc := 61) C tw_5_56 tw_2_162 tw_1_14 tw_2_163 (by decide) (Nat.le_of_ble_eq_true rfl) dX9_fewestBlows_61 ?_
        refine j_lti hm (fun y5 hm => ?_)
        refine j_istore (ls' := [(4, .int y5), (6, .int q2), (0, .ref (vad (gV G) 67)), (1, .int x1), (2, .int x2), (3, .int x3), (5, .int x5)]) (pc := 64) C dX9_fewestBlows_64 (by decide) rfl ?_
        refine j_iinc (v := (x5 + (1 : Int32))) (ls' := [(5, .int (x5 + (1 : Int32))), (4, .int y5), (6, .int q2), (0, .ref (vad (gV G) 67)), (1, .int x1), (2, .int x2), (3, .int x3)]) (pc := 66) C 6 dX9_fewestBlows_66 rfl rfl (by decide) rfl ?_
        refine j_goto (tgt := 21) (pc := 69) C dX9_fewestBlows_69 (by decide) ?_
        refine j_ls [3, 4, 5, 6, 1, 0] rfl ?_
        exact ih _ _ _ _ _ _ hm
    · refine j_ls [0, 1, 2, 3, 4] rfl ?_
      exact hk72 _ _ _ _ _ hm

def lp_X9_fewestBlows_9 (F : Nat) (k90 : Int32 → jS → Option (Int32 × jS)) : Nat → Int32 → Int32 → Int32 → jS → Option (Int32 × jS)
  | 0, _, _, _, _ => none
  | n + 1, x1, x2, x3, σ => (if x2 < x3 then (k90 x2 σ) else (lp_X9_fewestBlows_21 F (fun x1_6 x2_6 x3_6 x4_6 σ6 => (if jin (x3_6 &&& (255 : Int32)) 256 = true then (lt (js σ6 68 (x3_6 &&& (255 : Int32)).toNatClampNeg x4_6) fun σ7 => (lp_X9_fewestBlows_9 F k90 n x1_6 x2_6 ((x3_6 + (1 : Int32))) σ7)) else none)) F x1 x2 x3 (1000000 : Int32) (0 : Int32) σ))
set_option maxHeartbeats 4000000 in
set_option maxRecDepth 100000 in
theorem lp_X9_fewestBlows_9_ok {G : jG} (C : jc cfX 70 G cX9_fewestBlows RX9 7 (some .int) 1) (F : Nat) {v : (Int32 × jS)} (k90 : Int32 → jS → Option (Int32 × jS)) (hk90 : ∀ (x2 : Int32) (σ : jS), k90 x2 σ = some v → JX G 90 [(0, .ref (vad (gV G) 67)), (2, .int x2)] [] σ v) : ∀ (n : Nat) (x1 : Int32) (x2 : Int32) (x3 : Int32) (σ : jS), lp_X9_fewestBlows_9 F k90 n x1 x2 x3 σ = some v → JX G 9 [(0, .ref (vad (gV G) 67)), (1, .int x1), (2, .int x2), (3, .int x3)] [] σ v := by
  intro n
  induction n with
  | zero =>
    intro x1 x2 x3 σ hm
    rw [lp_X9_fewestBlows_9] at hm
    cases hm
  | succ n ih =>
    intro x1 x2 x3 σ hm
    rw [lp_X9_fewestBlows_9] at hm
    refine j_iloadn (pc := 9) C 3 dX9_fewestBlows_9 rfl rfl ?_
    refine j_iloadn (pc := 10) C 2 dX9_fewestBlows_10 rfl rfl ?_
    refine j_icmp_gt (tgt := 90) (pc := 11) C dX9_fewestBlows_11 (by decide) hm (fun _ hm => ?_) (fun _ hm => ?_)
    · refine j_ls [0, 2] rfl ?_
      exact hk90 _ _ hm
    · refine j_ldc (v := 1000000) (pc := 14) C dX9_fewestBlows_14 tw_5_39 ?_
      refine j_istore (ls' := [(4, .int (1000000 : Int32)), (0, .ref (vad (gV G) 67)), (1, .int x1), (2, .int x2), (3, .int x3)]) (pc := 16) C dX9_fewestBlows_16 (by decide) rfl ?_
      refine j_iconst (v := 0) (pc := 18) C dX9_fewestBlows_18 (by decide) ?_
      refine j_istore (ls' := [(5, .int (0 : Int32)), (4, .int (1000000 : Int32)), (0, .ref (vad (gV G) 67)), (1, .int x1), (2, .int x2), (3, .int x3)]) (pc := 19) C dX9_fewestBlows_19 (by decide) rfl ?_
      refine j_ls [2, 3, 4, 5, 1, 0] rfl ?_
      refine lp_X9_fewestBlows_21_ok C F _ (fun x1_6 x2_6 x3_6 x4_6 σ6 hm => ?_) F _ _ _ _ _ _ hm
      refine j_aloadn (pc := 72) C 0 dX9_fewestBlows_72 rfl rfl ?_
      refine gf_X9_11 (c := 67) (pc := 73) C kx_67 dX9_fewestBlows_73 ?_
      refine j_iloadn (pc := 76) C 3 dX9_fewestBlows_76 rfl rfl ?_
      refine j_sipush (v := 255) (pc := 77) C dX9_fewestBlows_77 (by decide) ?_
      refine j_iand (pc := 80) C dX9_fewestBlows_80 ?_
      refine j_iload (pc := 81) C 4 dX9_fewestBlows_81 rfl ?_
      refine j_guard hm (fun hg8 hm => ?_)
      refine j_iastL (c := 68) (n := 256) (pc := 83) C (kX_lt kx_68 (by decide)) (cx_a kx_68 lx_68) hg8 dX9_fewestBlows_83 hm (fun σ7 hm => ?_)
      refine j_iinc (v := (x3_6 + (1 : Int32))) (ls' := [(3, .int (x3_6 + (1 : Int32))), (0, .ref (vad (gV G) 67)), (1, .int x1_6), (2, .int x2_6), (4, .int x4_6)]) (pc := 84) C 3 dX9_fewestBlows_84 rfl rfl (by decide) rfl ?_
      refine j_goto (tgt := 9) (pc := 87) C dX9_fewestBlows_87 (by decide) ?_
      refine j_ls [1, 2, 3, 0] rfl ?_
      exact ih _ _ _ _ hm

def mX9_fewestBlows (F : Nat) (x1 : Int32) (x2 : Int32) (σ : jS) : Option (Int32 × jS) := (lt (js σ 68 0 (0 : Int32)) fun σ1 => (lp_X9_fewestBlows_9 F (fun x2_9 σ9 => (lt (x2_9 &&& (255 : Int32)) fun y10 => (if jin y10 256 = true then (lt (σ9 68 y10.toNatClampNeg) fun y12 => (if y12 < (1000000 : Int32) then some (y12, σ9) else some ((-2 : Int32), σ9))) else none))) F x1 x2 (1 : Int32) σ1))
set_option maxHeartbeats 4000000 in
set_option maxRecDepth 100000 in
theorem kX9_fewestBlows {V : jV} {F : Nat} {x1 : Int32} {x2 : Int32} {σ : jS} {v : (Int32 × jS)} (hm : mX9_fewestBlows F x1 x2 σ = some v) : Ct cfX 70 V yX9_fewestBlows cX9_fewestBlows 7 (some .int) 1 [.ref (vad V 67), .int x1, .int x2] σ v := by
  refine j_start (own := RX9) (by decide) rfl (Nat.le_of_ble_eq_true rfl) ?_
  intro G hV C
  subst hV
  unfold mX9_fewestBlows at hm
  show JX G 0 [(0, .ref (vad (gV G) 67)), (1, .int x1), (2, .int x2)] [] σ v
  refine j_aloadn (pc := 0) C 0 dX9_fewestBlows_0 rfl rfl ?_
  refine gf_X9_11 (c := 67) (pc := 1) C kx_67 dX9_fewestBlows_1 ?_
  refine j_iconst (v := 0) (pc := 4) C dX9_fewestBlows_4 (by decide) ?_
  refine j_iconst (v := 0) (pc := 5) C dX9_fewestBlows_5 (by decide) ?_
  refine j_iastK (c := 68) (n := 256) (k := 0) (pc := 6) C (kX_lt kx_68 (by decide)) (cx_a kx_68 lx_68) rfl (by decide) dX9_fewestBlows_6 hm (fun σ1 hm => ?_)
  refine j_iconst (v := 1) (pc := 7) C dX9_fewestBlows_7 (by decide) ?_
  refine j_istoren (ls' := [(3, .int (1 : Int32)), (0, .ref (vad (gV G) 67)), (1, .int x1), (2, .int x2)]) (pc := 8) C dX9_fewestBlows_8 rfl (by decide) rfl ?_
  refine j_ls [1, 2, 3, 0] rfl ?_
  refine lp_X9_fewestBlows_9_ok C F _ (fun x2_9 σ9 hm => ?_) F _ _ _ _ hm
  refine j_aloadn (pc := 90) C 0 dX9_fewestBlows_90 rfl rfl ?_
  refine gf_X9_11 (c := 67) (pc := 91) C kx_67 dX9_fewestBlows_91 ?_
  refine j_iloadn (pc := 94) C 1 dX9_fewestBlows_94 rfl rfl ?_
  refine j_sipush (v := 255) (pc := 95) C dX9_fewestBlows_95 (by decide) ?_
  refine j_iand (pc := 98) C dX9_fewestBlows_98 ?_
  refine j_lti hm (fun y10 hm => ?_)
  refine j_guard hm (fun hg11 hm => ?_)
  refine j_iald (c := 68) (n := 256) (pc := 99) C (kX_lt kx_68 (by decide)) (cx_a kx_68 lx_68 _) hg11 dX9_fewestBlows_99 ?_
  refine j_lti hm (fun y12 hm => ?_)
  refine j_istoren (ls' := [(3, .int y12), (0, .ref (vad (gV G) 67)), (2, .int x2_9)]) (pc := 100) C dX9_fewestBlows_100 rfl (by decide) rfl ?_
  refine j_iloadn (pc := 101) C 0 dX9_fewestBlows_101 rfl rfl ?_
  refine j_ldc (v := 1000000) (pc := 102) C dX9_fewestBlows_102 tw_5_39 ?_
  refine j_icmp_ge (tgt := 111) (pc := 104) C dX9_fewestBlows_104 (by decide) hm (fun _ hm => ?_) (fun _ hm => ?_)
  · refine j_iloadn (pc := 107) C 0 dX9_fewestBlows_107 rfl rfl ?_
    refine j_goto (tgt := 113) (pc := 108) C dX9_fewestBlows_108 (by decide) ?_
    exact j_iretS (pc := 113) C rfl dX9_fewestBlows_113 hm
  · refine j_bipush (v := -2) (pc := 111) C dX9_fewestBlows_111 (by decide) ?_
    exact j_iretS (pc := 113) C rfl dX9_fewestBlows_113 hm

