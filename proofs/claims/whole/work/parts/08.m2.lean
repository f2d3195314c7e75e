theorem dX12_reckonsTo_0 : decode cX12_reckonsTo 0 = .ok (.iconst 0, 1) := by decide +kernel
theorem dX12_reckonsTo_1 : decode cX12_reckonsTo 1 = .ok (.istore_n 3, 1) := by decide +kernel
theorem dX12_reckonsTo_2 : decode cX12_reckonsTo 2 = .ok (.sipush 260, 3) := by decide +kernel
theorem dX12_reckonsTo_5 : decode cX12_reckonsTo 5 = .ok (.iload_n 1, 1) := by decide +kernel
theorem dX12_reckonsTo_6 : decode cX12_reckonsTo 6 = .ok (.sipush 260, 3) := by decide +kernel
theorem dX12_reckonsTo_9 : decode cX12_reckonsTo 9 = .ok (.idiv, 1) := by decide +kernel
theorem dX12_reckonsTo_10 : decode cX12_reckonsTo 10 = .ok (.imul, 1) := by decide +kernel
theorem dX12_reckonsTo_11 : decode cX12_reckonsTo 11 = .ok (.istore 4, 2) := by decide +kernel
theorem dX12_reckonsTo_13 : decode cX12_reckonsTo 13 = .ok (.iload_n 1, 1) := by decide +kernel
theorem dX12_reckonsTo_14 : decode cX12_reckonsTo 14 = .ok (.istore 5, 2) := by decide +kernel
theorem dX12_reckonsTo_16 : decode cX12_reckonsTo 16 = .ok (.iload 5, 2) := by decide +kernel
theorem dX12_reckonsTo_18 : decode cX12_reckonsTo 18 = .ok (.iload_n 2, 1) := by decide +kernel
theorem dX12_reckonsTo_19 : decode cX12_reckonsTo 19 = .ok (.if_icmp .ge 214, 3) := by decide +kernel
theorem dX12_reckonsTo_22 : decode cX12_reckonsTo 22 = .ok (.aload_n 0, 1) := by decide +kernel
theorem dX12_reckonsTo_23 : decode cX12_reckonsTo 23 = .ok (.getfield 47, 3) := by decide +kernel
theorem dX12_reckonsTo_26 : decode cX12_reckonsTo 26 = .ok (.iload 5, 2) := by decide +kernel
theorem dX12_reckonsTo_28 : decode cX12_reckonsTo 28 = .ok (.iaload, 1) := by decide +kernel
theorem dX12_reckonsTo_29 : decode cX12_reckonsTo 29 = .ok (.ldc 155, 2) := by decide +kernel
theorem dX12_reckonsTo_31 : decode cX12_reckonsTo 31 = .ok (.idiv, 1) := by decide +kernel
theorem dX12_reckonsTo_32 : decode cX12_reckonsTo 32 = .ok (.istore 6, 2) := by decide +kernel
theorem dX12_reckonsTo_34 : decode cX12_reckonsTo 34 = .ok (.aload_n 0, 1) := by decide +kernel
theorem dX12_reckonsTo_35 : decode cX12_reckonsTo 35 = .ok (.getfield 47, 3) := by decide +kernel
theorem dX12_reckonsTo_38 : decode cX12_reckonsTo 38 = .ok (.iload 5, 2) := by decide +kernel
theorem dX12_reckonsTo_40 : decode cX12_reckonsTo 40 = .ok (.iaload, 1) := by decide +kernel
theorem dX12_reckonsTo_41 : decode cX12_reckonsTo 41 = .ok (.ldc 155, 2) := by decide +kernel
theorem dX12_reckonsTo_43 : decode cX12_reckonsTo 43 = .ok (.irem, 1) := by decide +kernel
theorem dX12_reckonsTo_44 : decode cX12_reckonsTo 44 = .ok (.istore 7, 2) := by decide +kernel
theorem dX12_reckonsTo_46 : decode cX12_reckonsTo 46 = .ok (.iload 5, 2) := by decide +kernel
theorem dX12_reckonsTo_48 : decode cX12_reckonsTo 48 = .ok (.iconst 1, 1) := by decide +kernel
theorem dX12_reckonsTo_49 : decode cX12_reckonsTo 49 = .ok (.iadd, 1) := by decide +kernel
theorem dX12_reckonsTo_50 : decode cX12_reckonsTo 50 = .ok (.istore 5, 2) := by decide +kernel
theorem dX12_reckonsTo_52 : decode cX12_reckonsTo 52 = .ok (.iload 6, 2) := by decide +kernel
theorem dX12_reckonsTo_54 : decode cX12_reckonsTo 54 = .ok (.ifCond .eq 9, 3) := by decide +kernel
theorem dX12_reckonsTo_57 : decode cX12_reckonsTo 57 = .ok (.iload 6, 2) := by decide +kernel
theorem dX12_reckonsTo_59 : decode cX12_reckonsTo 59 = .ok (.iconst 1, 1) := by decide +kernel
theorem dX12_reckonsTo_60 : decode cX12_reckonsTo 60 = .ok (.if_icmp .ne 33, 3) := by decide +kernel
theorem dX12_reckonsTo_63 : decode cX12_reckonsTo 63 = .ok (.aload_n 0, 1) := by decide +kernel
theorem dX12_reckonsTo_64 : decode cX12_reckonsTo 64 = .ok (.getfield 62, 3) := by decide +kernel
theorem dX12_reckonsTo_67 : decode cX12_reckonsTo 67 = .ok (.iload_n 3, 1) := by decide +kernel
theorem dX12_reckonsTo_68 : decode cX12_reckonsTo 68 = .ok (.iload 6, 2) := by decide +kernel
theorem dX12_reckonsTo_70 : decode cX12_reckonsTo 70 = .ok (.ifCond .ne 8, 3) := by decide +kernel
theorem dX12_reckonsTo_73 : decode cX12_reckonsTo 73 = .ok (.iload 7, 2) := by decide +kernel
theorem dX12_reckonsTo_75 : decode cX12_reckonsTo 75 = .ok (.goto 10, 3) := by decide +kernel
theorem dX12_reckonsTo_78 : decode cX12_reckonsTo 78 = .ok (.aload_n 0, 1) := by decide +kernel
theorem dX12_reckonsTo_79 : decode cX12_reckonsTo 79 = .ok (.getfield 65, 3) := by decide +kernel
theorem dX12_reckonsTo_82 : decode cX12_reckonsTo 82 = .ok (.iload 7, 2) := by decide +kernel
theorem dX12_reckonsTo_84 : decode cX12_reckonsTo 84 = .ok (.iaload, 1) := by decide +kernel
theorem dX12_reckonsTo_85 : decode cX12_reckonsTo 85 = .ok (.iastore, 1) := by decide +kernel
theorem dX12_reckonsTo_86 : decode cX12_reckonsTo 86 = .ok (.iload_n 3, 1) := by decide +kernel
theorem dX12_reckonsTo_87 : decode cX12_reckonsTo 87 = .ok (.iconst 1, 1) := by decide +kernel
theorem dX12_reckonsTo_88 : decode cX12_reckonsTo 88 = .ok (.iadd, 1) := by decide +kernel
theorem dX12_reckonsTo_89 : decode cX12_reckonsTo 89 = .ok (.istore_n 3, 1) := by decide +kernel
theorem dX12_reckonsTo_90 : decode cX12_reckonsTo 90 = .ok (.goto 140, 3) := by decide +kernel
theorem dX12_reckonsTo_93 : decode cX12_reckonsTo 93 = .ok (.iload 6, 2) := by decide +kernel
theorem dX12_reckonsTo_95 : decode cX12_reckonsTo 95 = .ok (.bipush 10, 2) := by decide +kernel
theorem dX12_reckonsTo_97 : decode cX12_reckonsTo 97 = .ok (.if_icmp .ne 24, 3) := by decide +kernel
theorem dX12_reckonsTo_100 : decode cX12_reckonsTo 100 = .ok (.aload_n 0, 1) := by decide +kernel
theorem dX12_reckonsTo_101 : decode cX12_reckonsTo 101 = .ok (.getfield 62, 3) := by decide +kernel
theorem dX12_reckonsTo_104 : decode cX12_reckonsTo 104 = .ok (.iload_n 3, 1) := by decide +kernel
theorem dX12_reckonsTo_105 : decode cX12_reckonsTo 105 = .ok (.iconst 1, 1) := by decide +kernel
theorem dX12_reckonsTo_106 : decode cX12_reckonsTo 106 = .ok (.isub, 1) := by decide +kernel
theorem dX12_reckonsTo_107 : decode cX12_reckonsTo 107 = .ok (.iconst 1, 1) := by decide +kernel
theorem dX12_reckonsTo_108 : decode cX12_reckonsTo 108 = .ok (.aload_n 0, 1) := by decide +kernel
theorem dX12_reckonsTo_109 : decode cX12_reckonsTo 109 = .ok (.getfield 62, 3) := by decide +kernel
theorem dX12_reckonsTo_112 : decode cX12_reckonsTo 112 = .ok (.iload_n 3, 1) := by decide +kernel
theorem dX12_reckonsTo_113 : decode cX12_reckonsTo 113 = .ok (.iconst 1, 1) := by decide +kernel
theorem dX12_reckonsTo_114 : decode cX12_reckonsTo 114 = .ok (.isub, 1) := by decide +kernel
theorem dX12_reckonsTo_115 : decode cX12_reckonsTo 115 = .ok (.iaload, 1) := by decide +kernel
theorem dX12_reckonsTo_116 : decode cX12_reckonsTo 116 = .ok (.isub, 1) := by decide +kernel
theorem dX12_reckonsTo_117 : decode cX12_reckonsTo 117 = .ok (.iastore, 1) := by decide +kernel
theorem dX12_reckonsTo_118 : decode cX12_reckonsTo 118 = .ok (.goto 112, 3) := by decide +kernel
theorem dX12_reckonsTo_121 : decode cX12_reckonsTo 121 = .ok (.iload 6, 2) := by decide +kernel
theorem dX12_reckonsTo_123 : decode cX12_reckonsTo 123 = .ok (.bipush 11, 2) := by decide +kernel
theorem dX12_reckonsTo_125 : decode cX12_reckonsTo 125 = .ok (.if_icmp .eq 10, 3) := by decide +kernel
theorem dX12_reckonsTo_128 : decode cX12_reckonsTo 128 = .ok (.iload 6, 2) := by decide +kernel
theorem dX12_reckonsTo_130 : decode cX12_reckonsTo 130 = .ok (.bipush 12, 2) := by decide +kernel
theorem dX12_reckonsTo_132 : decode cX12_reckonsTo 132 = .ok (.if_icmp .ne 43, 3) := by decide +kernel
theorem dX12_reckonsTo_135 : decode cX12_reckonsTo 135 = .ok (.aload_n 0, 1) := by decide +kernel
theorem dX12_reckonsTo_136 : decode cX12_reckonsTo 136 = .ok (.getfield 62, 3) := by decide +kernel
theorem dX12_reckonsTo_139 : decode cX12_reckonsTo 139 = .ok (.iload_n 3, 1) := by decide +kernel
theorem dX12_reckonsTo_140 : decode cX12_reckonsTo 140 = .ok (.iconst 1, 1) := by decide +kernel
theorem dX12_reckonsTo_141 : decode cX12_reckonsTo 141 = .ok (.isub, 1) := by decide +kernel
theorem dX12_reckonsTo_142 : decode cX12_reckonsTo 142 = .ok (.iaload, 1) := by decide +kernel
theorem dX12_reckonsTo_143 : decode cX12_reckonsTo 143 = .ok (.iload 6, 2) := by decide +kernel
theorem dX12_reckonsTo_145 : decode cX12_reckonsTo 145 = .ok (.bipush 12, 2) := by decide +kernel
theorem dX12_reckonsTo_147 : decode cX12_reckonsTo 147 = .ok (.if_icmp .ne 7, 3) := by decide +kernel
theorem dX12_reckonsTo_150 : decode cX12_reckonsTo 150 = .ok (.iconst 1, 1) := by decide +kernel
theorem dX12_reckonsTo_151 : decode cX12_reckonsTo 151 = .ok (.goto 4, 3) := by decide +kernel
theorem dX12_reckonsTo_154 : decode cX12_reckonsTo 154 = .ok (.iconst 0, 1) := by decide +kernel
theorem dX12_reckonsTo_155 : decode cX12_reckonsTo 155 = .ok (.if_icmp .ne 13, 3) := by decide +kernel
theorem dX12_reckonsTo_158 : decode cX12_reckonsTo 158 = .ok (.iload 4, 2) := by decide +kernel
theorem dX12_reckonsTo_160 : decode cX12_reckonsTo 160 = .ok (.iload 7, 2) := by decide +kernel
theorem dX12_reckonsTo_162 : decode cX12_reckonsTo 162 = .ok (.iadd, 1) := by decide +kernel
theorem dX12_reckonsTo_163 : decode cX12_reckonsTo 163 = .ok (.istore 5, 2) := by decide +kernel
theorem dX12_reckonsTo_165 : decode cX12_reckonsTo 165 = .ok (.goto 65, 3) := by decide +kernel
theorem dX12_reckonsTo_168 : decode cX12_reckonsTo 168 = .ok (.iload_n 3, 1) := by decide +kernel
theorem dX12_reckonsTo_169 : decode cX12_reckonsTo 169 = .ok (.iconst 1, 1) := by decide +kernel
theorem dX12_reckonsTo_170 : decode cX12_reckonsTo 170 = .ok (.isub, 1) := by decide +kernel
theorem dX12_reckonsTo_171 : decode cX12_reckonsTo 171 = .ok (.istore_n 3, 1) := by decide +kernel
theorem dX12_reckonsTo_172 : decode cX12_reckonsTo 172 = .ok (.goto 58, 3) := by decide +kernel
theorem dX12_reckonsTo_175 : decode cX12_reckonsTo 175 = .ok (.iload_n 3, 1) := by decide +kernel
theorem dX12_reckonsTo_176 : decode cX12_reckonsTo 176 = .ok (.iconst 1, 1) := by decide +kernel
theorem dX12_reckonsTo_177 : decode cX12_reckonsTo 177 = .ok (.isub, 1) := by decide +kernel
theorem dX12_reckonsTo_178 : decode cX12_reckonsTo 178 = .ok (.istore_n 3, 1) := by decide +kernel
theorem dX12_reckonsTo_179 : decode cX12_reckonsTo 179 = .ok (.iload 6, 2) := by decide +kernel
theorem dX12_reckonsTo_181 : decode cX12_reckonsTo 181 = .ok (.iconst 5, 1) := by decide +kernel
theorem dX12_reckonsTo_182 : decode cX12_reckonsTo 182 = .ok (.if_icmp .eq 10, 3) := by decide +kernel
theorem dX12_reckonsTo_185 : decode cX12_reckonsTo 185 = .ok (.iload 6, 2) := by decide +kernel
theorem dX12_reckonsTo_187 : decode cX12_reckonsTo 187 = .ok (.bipush 6, 2) := by decide +kernel
theorem dX12_reckonsTo_189 : decode cX12_reckonsTo 189 = .ok (.if_icmp .ne 14, 3) := by decide +kernel
theorem dX12_reckonsTo_192 : decode cX12_reckonsTo 192 = .ok (.aload_n 0, 1) := by decide +kernel
theorem dX12_reckonsTo_193 : decode cX12_reckonsTo 193 = .ok (.getfield 62, 3) := by decide +kernel
theorem dX12_reckonsTo_196 : decode cX12_reckonsTo 196 = .ok (.iload_n 3, 1) := by decide +kernel
theorem dX12_reckonsTo_197 : decode cX12_reckonsTo 197 = .ok (.iaload, 1) := by decide +kernel
theorem dX12_reckonsTo_198 : decode cX12_reckonsTo 198 = .ok (.ifCond .ne 5, 3) := by decide +kernel
theorem dX12_reckonsTo_201 : decode cX12_reckonsTo 201 = .ok (.iconst 0, 1) := by decide +kernel
theorem dX12_reckonsTo_202 : decode cX12_reckonsTo 202 = .ok (.ireturn, 1) := by decide +kernel
theorem dX12_reckonsTo_203 : decode cX12_reckonsTo 203 = .ok (.aload_n 0, 1) := by decide +kernel
theorem dX12_reckonsTo_204 : decode cX12_reckonsTo 204 = .ok (.getfield 62, 3) := by decide +kernel
theorem dX12_reckonsTo_207 : decode cX12_reckonsTo 207 = .ok (.iload_n 3, 1) := by decide +kernel
theorem dX12_reckonsTo_208 : decode cX12_reckonsTo 208 = .ok (.iconst 1, 1) := by decide +kernel
theorem dX12_reckonsTo_209 : decode cX12_reckonsTo 209 = .ok (.isub, 1) := by decide +kernel
theorem dX12_reckonsTo_210 : decode cX12_reckonsTo 210 = .ok (.iload 6, 2) := by decide +kernel
theorem dX12_reckonsTo_212 : decode cX12_reckonsTo 212 = .ok (.aload_n 0, 1) := by decide +kernel
theorem dX12_reckonsTo_213 : decode cX12_reckonsTo 213 = .ok (.getfield 62, 3) := by decide +kernel
theorem dX12_reckonsTo_216 : decode cX12_reckonsTo 216 = .ok (.iload_n 3, 1) := by decide +kernel
theorem dX12_reckonsTo_217 : decode cX12_reckonsTo 217 = .ok (.iconst 1, 1) := by decide +kernel
theorem dX12_reckonsTo_218 : decode cX12_reckonsTo 218 = .ok (.isub, 1) := by decide +kernel
theorem dX12_reckonsTo_219 : decode cX12_reckonsTo 219 = .ok (.iaload, 1) := by decide +kernel
theorem dX12_reckonsTo_220 : decode cX12_reckonsTo 220 = .ok (.aload_n 0, 1) := by decide +kernel
theorem dX12_reckonsTo_221 : decode cX12_reckonsTo 221 = .ok (.getfield 62, 3) := by decide +kernel
theorem dX12_reckonsTo_224 : decode cX12_reckonsTo 224 = .ok (.iload_n 3, 1) := by decide +kernel
theorem dX12_reckonsTo_225 : decode cX12_reckonsTo 225 = .ok (.iaload, 1) := by decide +kernel
theorem dX12_reckonsTo_226 : decode cX12_reckonsTo 226 = .ok (.invokestatic 225, 3) := by decide +kernel
theorem dX12_reckonsTo_229 : decode cX12_reckonsTo 229 = .ok (.iastore, 1) := by decide +kernel
theorem dX12_reckonsTo_230 : decode cX12_reckonsTo 230 = .ok (.goto (-214), 3) := by decide +kernel
theorem dX12_reckonsTo_233 : decode cX12_reckonsTo 233 = .ok (.aload_n 0, 1) := by decide +kernel
theorem dX12_reckonsTo_234 : decode cX12_reckonsTo 234 = .ok (.getfield 62, 3) := by decide +kernel
theorem dX12_reckonsTo_237 : decode cX12_reckonsTo 237 = .ok (.iconst 0, 1) := by decide +kernel
theorem dX12_reckonsTo_238 : decode cX12_reckonsTo 238 = .ok (.iaload, 1) := by decide +kernel
theorem dX12_reckonsTo_239 : decode cX12_reckonsTo 239 = .ok (.ireturn, 1) := by decide +kernel
theorem dX12_byLaw_0 : decode cX12_byLaw 0 = .ok (.iconst 0, 1) := by decide +kernel
theorem dX12_byLaw_1 : decode cX12_byLaw 1 = .ok (.istore 5, 2) := by decide +kernel
theorem dX12_byLaw_3 : decode cX12_byLaw 3 = .ok (.iload 5, 2) := by decide +kernel
theorem dX12_byLaw_5 : decode cX12_byLaw 5 = .ok (.aload_n 0, 1) := by decide +kernel
theorem dX12_byLaw_6 : decode cX12_byLaw 6 = .ok (.getfield 222, 3) := by decide +kernel
theorem dX12_byLaw_9 : decode cX12_byLaw 9 = .ok (.if_icmp .ge 88, 3) := by decide +kernel
theorem dX12_byLaw_12 : decode cX12_byLaw 12 = .ok (.aload_n 0, 1) := by decide +kernel
theorem dX12_byLaw_13 : decode cX12_byLaw 13 = .ok (.getfield 50, 3) := by decide +kernel
theorem dX12_byLaw_16 : decode cX12_byLaw 16 = .ok (.iload 5, 2) := by decide +kernel
theorem dX12_byLaw_18 : decode cX12_byLaw 18 = .ok (.iaload, 1) := by decide +kernel
theorem dX12_byLaw_19 : decode cX12_byLaw 19 = .ok (.iload_n 1, 1) := by decide +kernel
theorem dX12_byLaw_20 : decode cX12_byLaw 20 = .ok (.if_icmp .ne 71, 3) := by decide +kernel
theorem dX12_byLaw_23 : decode cX12_byLaw 23 = .ok (.aload_n 0, 1) := by decide +kernel
theorem dX12_byLaw_24 : decode cX12_byLaw 24 = .ok (.aload_n 0, 1) := by decide +kernel
theorem dX12_byLaw_25 : decode cX12_byLaw 25 = .ok (.getfield 56, 3) := by decide +kernel
theorem dX12_byLaw_28 : decode cX12_byLaw 28 = .ok (.iload 5, 2) := by decide +kernel
theorem dX12_byLaw_30 : decode cX12_byLaw 30 = .ok (.iaload, 1) := by decide +kernel
theorem dX12_byLaw_31 : decode cX12_byLaw 31 = .ok (.aload_n 0, 1) := by decide +kernel
theorem dX12_byLaw_32 : decode cX12_byLaw 32 = .ok (.getfield 59, 3) := by decide +kernel
theorem dX12_byLaw_35 : decode cX12_byLaw 35 = .ok (.iload 5, 2) := by decide +kernel
theorem dX12_byLaw_37 : decode cX12_byLaw 37 = .ok (.iaload, 1) := by decide +kernel
theorem dX12_byLaw_38 : decode cX12_byLaw 38 = .ok (.invokevirtual 229, 3) := by decide +kernel
theorem dX12_byLaw_41 : decode cX12_byLaw 41 = .ok (.iconst 1, 1) := by decide +kernel
theorem dX12_byLaw_42 : decode cX12_byLaw 42 = .ok (.if_icmp .eq 6, 3) := by decide +kernel
theorem dX12_byLaw_45 : decode cX12_byLaw 45 = .ok (.goto 46, 3) := by decide +kernel
theorem dX12_byLaw_48 : decode cX12_byLaw 48 = .ok (.aload_n 0, 1) := by decide +kernel
theorem dX12_byLaw_49 : decode cX12_byLaw 49 = .ok (.aload_n 0, 1) := by decide +kernel
theorem dX12_byLaw_50 : decode cX12_byLaw 50 = .ok (.getfield 53, 3) := by decide +kernel
theorem dX12_byLaw_53 : decode cX12_byLaw 53 = .ok (.iload 5, 2) := by decide +kernel
theorem dX12_byLaw_55 : decode cX12_byLaw 55 = .ok (.iaload, 1) := by decide +kernel
theorem dX12_byLaw_56 : decode cX12_byLaw 56 = .ok (.aload_n 0, 1) := by decide +kernel
theorem dX12_byLaw_57 : decode cX12_byLaw 57 = .ok (.getfield 56, 3) := by decide +kernel
theorem dX12_byLaw_60 : decode cX12_byLaw 60 = .ok (.iload 5, 2) := by decide +kernel
theorem dX12_byLaw_62 : decode cX12_byLaw 62 = .ok (.iaload, 1) := by decide +kernel
theorem dX12_byLaw_63 : decode cX12_byLaw 63 = .ok (.invokevirtual 229, 3) := by decide +kernel
theorem dX12_byLaw_66 : decode cX12_byLaw 66 = .ok (.istore 6, 2) := by decide +kernel
theorem dX12_byLaw_68 : decode cX12_byLaw 68 = .ok (.iload 6, 2) := by decide +kernel
theorem dX12_byLaw_70 : decode cX12_byLaw 70 = .ok (.iload_n 2, 1) := by decide +kernel
theorem dX12_byLaw_71 : decode cX12_byLaw 71 = .ok (.if_icmp .ge 7, 3) := by decide +kernel
theorem dX12_byLaw_74 : decode cX12_byLaw 74 = .ok (.iload_n 2, 1) := by decide +kernel
theorem dX12_byLaw_75 : decode cX12_byLaw 75 = .ok (.goto 15, 3) := by decide +kernel
theorem dX12_byLaw_78 : decode cX12_byLaw 78 = .ok (.iload 6, 2) := by decide +kernel
theorem dX12_byLaw_80 : decode cX12_byLaw 80 = .ok (.iload_n 3, 1) := by decide +kernel
theorem dX12_byLaw_81 : decode cX12_byLaw 81 = .ok (.if_icmp .le 7, 3) := by decide +kernel
theorem dX12_byLaw_84 : decode cX12_byLaw 84 = .ok (.iload_n 3, 1) := by decide +kernel
theorem dX12_byLaw_85 : decode cX12_byLaw 85 = .ok (.goto 5, 3) := by decide +kernel
theorem dX12_byLaw_88 : decode cX12_byLaw 88 = .ok (.iload 6, 2) := by decide +kernel
theorem dX12_byLaw_90 : decode cX12_byLaw 90 = .ok (.ireturn, 1) := by decide +kernel
theorem dX12_byLaw_91 : decode cX12_byLaw 91 = .ok (.iinc 5 1, 3) := by decide +kernel
theorem dX12_byLaw_94 : decode cX12_byLaw 94 = .ok (.goto (-91), 3) := by decide +kernel
theorem dX12_byLaw_97 : decode cX12_byLaw 97 = .ok (.iload 4, 2) := by decide +kernel
theorem dX12_byLaw_99 : decode cX12_byLaw 99 = .ok (.ireturn, 1) := by decide +kernel
theorem dX12_holdsAny_0 : decode cX12_holdsAny 0 = .ok (.iconst 0, 1) := by decide +kernel
theorem dX12_holdsAny_1 : decode cX12_holdsAny 1 = .ok (.istore_n 2, 1) := by decide +kernel
theorem dX12_holdsAny_2 : decode cX12_holdsAny 2 = .ok (.iload_n 2, 1) := by decide +kernel
theorem dX12_holdsAny_3 : decode cX12_holdsAny 3 = .ok (.aload_n 0, 1) := by decide +kernel
theorem dX12_holdsAny_4 : decode cX12_holdsAny 4 = .ok (.getfield 222, 3) := by decide +kernel
theorem dX12_holdsAny_7 : decode cX12_holdsAny 7 = .ok (.if_icmp .ge 41, 3) := by decide +kernel
theorem dX12_holdsAny_10 : decode cX12_holdsAny 10 = .ok (.aload_n 0, 1) := by decide +kernel
theorem dX12_holdsAny_11 : decode cX12_holdsAny 11 = .ok (.getfield 50, 3) := by decide +kernel
theorem dX12_holdsAny_14 : decode cX12_holdsAny 14 = .ok (.iload_n 2, 1) := by decide +kernel
theorem dX12_holdsAny_15 : decode cX12_holdsAny 15 = .ok (.iaload, 1) := by decide +kernel
theorem dX12_holdsAny_16 : decode cX12_holdsAny 16 = .ok (.iload_n 1, 1) := by decide +kernel
theorem dX12_holdsAny_17 : decode cX12_holdsAny 17 = .ok (.if_icmp .ne 25, 3) := by decide +kernel
theorem dX12_holdsAny_20 : decode cX12_holdsAny 20 = .ok (.aload_n 0, 1) := by decide +kernel
theorem dX12_holdsAny_21 : decode cX12_holdsAny 21 = .ok (.aload_n 0, 1) := by decide +kernel
theorem dX12_holdsAny_22 : decode cX12_holdsAny 22 = .ok (.getfield 56, 3) := by decide +kernel
theorem dX12_holdsAny_25 : decode cX12_holdsAny 25 = .ok (.iload_n 2, 1) := by decide +kernel
theorem dX12_holdsAny_26 : decode cX12_holdsAny 26 = .ok (.iaload, 1) := by decide +kernel
theorem dX12_holdsAny_27 : decode cX12_holdsAny 27 = .ok (.aload_n 0, 1) := by decide +kernel
theorem dX12_holdsAny_28 : decode cX12_holdsAny 28 = .ok (.getfield 59, 3) := by decide +kernel
theorem dX12_holdsAny_31 : decode cX12_holdsAny 31 = .ok (.iload_n 2, 1) := by decide +kernel
theorem dX12_holdsAny_32 : decode cX12_holdsAny 32 = .ok (.iaload, 1) := by decide +kernel
theorem dX12_holdsAny_33 : decode cX12_holdsAny 33 = .ok (.invokevirtual 229, 3) := by decide +kernel
theorem dX12_holdsAny_36 : decode cX12_holdsAny 36 = .ok (.iconst 1, 1) := by decide +kernel
theorem dX12_holdsAny_37 : decode cX12_holdsAny 37 = .ok (.if_icmp .ne 5, 3) := by decide +kernel
theorem dX12_holdsAny_40 : decode cX12_holdsAny 40 = .ok (.iconst 1, 1) := by decide +kernel
theorem dX12_holdsAny_41 : decode cX12_holdsAny 41 = .ok (.ireturn, 1) := by decide +kernel
theorem dX12_holdsAny_42 : decode cX12_holdsAny 42 = .ok (.iinc 2 1, 3) := by decide +kernel
theorem dX12_holdsAny_45 : decode cX12_holdsAny 45 = .ok (.goto (-43), 3) := by decide +kernel
theorem dX12_holdsAny_48 : decode cX12_holdsAny 48 = .ok (.iconst 0, 1) := by decide +kernel
theorem dX12_holdsAny_49 : decode cX12_holdsAny 49 = .ok (.ireturn, 1) := by decide +kernel
theorem dX12_readsTimes_0 : decode cX12_readsTimes 0 = .ok (.aload_n 0, 1) := by decide +kernel
theorem dX12_readsTimes_1 : decode cX12_readsTimes 1 = .ok (.aload_n 0, 1) := by decide +kernel
theorem dX12_readsTimes_2 : decode cX12_readsTimes 2 = .ok (.getfield 128, 3) := by decide +kernel
theorem dX12_readsTimes_5 : decode cX12_readsTimes 5 = .ok (.putfield 233, 3) := by decide +kernel
theorem dX12_readsTimes_8 : decode cX12_readsTimes 8 = .ok (.aload_n 0, 1) := by decide +kernel
theorem dX12_readsTimes_9 : decode cX12_readsTimes 9 = .ok (.iconst 1, 1) := by decide +kernel
theorem dX12_readsTimes_10 : decode cX12_readsTimes 10 = .ok (.putfield 236, 3) := by decide +kernel
theorem dX12_readsTimes_13 : decode cX12_readsTimes 13 = .ok (.aload_n 0, 1) := by decide +kernel
theorem dX12_readsTimes_14 : decode cX12_readsTimes 14 = .ok (.invokevirtual 134, 3) := by decide +kernel
theorem dX12_readsTimes_17 : decode cX12_readsTimes 17 = .ok (.bipush 50, 2) := by decide +kernel
theorem dX12_readsTimes_19 : decode cX12_readsTimes 19 = .ok (.bipush 57, 2) := by decide +kernel
theorem dX12_readsTimes_21 : decode cX12_readsTimes 21 = .ok (.invokestatic 107, 3) := by decide +kernel
theorem dX12_readsTimes_24 : decode cX12_readsTimes 24 = .ok (.ifCond .ne 4, 3) := by decide +kernel
theorem dX12_readsTimes_27 : decode cX12_readsTimes 27 = .ok (.return_, 1) := by decide +kernel
theorem dX12_readsTimes_28 : decode cX12_readsTimes 28 = .ok (.aload_n 0, 1) := by decide +kernel
theorem dX12_readsTimes_29 : decode cX12_readsTimes 29 = .ok (.aload_n 0, 1) := by decide +kernel
theorem dX12_readsTimes_30 : decode cX12_readsTimes 30 = .ok (.invokevirtual 134, 3) := by decide +kernel
theorem dX12_readsTimes_33 : decode cX12_readsTimes 33 = .ok (.bipush 48, 2) := by decide +kernel
theorem dX12_readsTimes_35 : decode cX12_readsTimes 35 = .ok (.isub, 1) := by decide +kernel
theorem dX12_readsTimes_36 : decode cX12_readsTimes 36 = .ok (.putfield 236, 3) := by decide +kernel
theorem dX12_readsTimes_39 : decode cX12_readsTimes 39 = .ok (.aload_n 0, 1) := by decide +kernel
theorem dX12_readsTimes_40 : decode cX12_readsTimes 40 = .ok (.aload_n 0, 1) := by decide +kernel
theorem dX12_readsTimes_41 : decode cX12_readsTimes 41 = .ok (.getfield 128, 3) := by decide +kernel
theorem dX12_readsTimes_44 : decode cX12_readsTimes 44 = .ok (.iconst 1, 1) := by decide +kernel
theorem dX12_readsTimes_45 : decode cX12_readsTimes 45 = .ok (.iadd, 1) := by decide +kernel
theorem dX12_readsTimes_46 : decode cX12_readsTimes 46 = .ok (.putfield 128, 3) := by decide +kernel
theorem dX12_readsTimes_49 : decode cX12_readsTimes 49 = .ok (.return_, 1) := by decide +kernel
theorem dX12_repeats_0 : decode cX12_repeats 0 = .ok (.aload_n 0, 1) := by decide +kernel
theorem dX12_repeats_1 : decode cX12_repeats 1 = .ok (.getfield 239, 3) := by decide +kernel
theorem dX12_repeats_4 : decode cX12_repeats 4 = .ok (.iload_n 1, 1) := by decide +kernel
theorem dX12_repeats_5 : decode cX12_repeats 5 = .ok (.isub, 1) := by decide +kernel
theorem dX12_repeats_6 : decode cX12_repeats 6 = .ok (.istore 4, 2) := by decide +kernel
theorem dX12_repeats_8 : decode cX12_repeats 8 = .ok (.iload_n 1, 1) := by decide +kernel
theorem dX12_repeats_9 : decode cX12_repeats 9 = .ok (.iload 4, 2) := by decide +kernel
theorem dX12_repeats_11 : decode cX12_repeats 11 = .ok (.iload_n 2, 1) := by decide +kernel
theorem dX12_repeats_12 : decode cX12_repeats 12 = .ok (.imul, 1) := by decide +kernel
theorem dX12_repeats_13 : decode cX12_repeats 13 = .ok (.iadd, 1) := by decide +kernel
theorem dX12_repeats_14 : decode cX12_repeats 14 = .ok (.bipush 24, 2) := by decide +kernel
theorem dX12_repeats_16 : decode cX12_repeats 16 = .ok (.if_icmp .le 11, 3) := by decide +kernel
theorem dX12_repeats_19 : decode cX12_repeats 19 = .ok (.aload_n 0, 1) := by decide +kernel
theorem dX12_repeats_20 : decode cX12_repeats 20 = .ok (.bipush 6, 2) := by decide +kernel
theorem dX12_repeats_22 : decode cX12_repeats 22 = .ok (.iload_n 3, 1) := by decide +kernel
theorem dX12_repeats_23 : decode cX12_repeats 23 = .ok (.invokevirtual 141, 3) := by decide +kernel
theorem dX12_repeats_26 : decode cX12_repeats 26 = .ok (.ireturn, 1) := by decide +kernel
theorem dX12_repeats_27 : decode cX12_repeats 27 = .ok (.iload 4, 2) := by decide +kernel
theorem dX12_repeats_29 : decode cX12_repeats 29 = .ok (.istore 5, 2) := by decide +kernel
theorem dX12_repeats_31 : decode cX12_repeats 31 = .ok (.iload 5, 2) := by decide +kernel
theorem dX12_repeats_33 : decode cX12_repeats 33 = .ok (.iload 4, 2) := by decide +kernel
theorem dX12_repeats_35 : decode cX12_repeats 35 = .ok (.iload_n 2, 1) := by decide +kernel
theorem dX12_repeats_36 : decode cX12_repeats 36 = .ok (.imul, 1) := by decide +kernel
theorem dX12_repeats_37 : decode cX12_repeats 37 = .ok (.if_icmp .ge 30, 3) := by decide +kernel
theorem dX12_repeats_40 : decode cX12_repeats 40 = .ok (.aload_n 0, 1) := by decide +kernel
theorem dX12_repeats_41 : decode cX12_repeats 41 = .ok (.getfield 68, 3) := by decide +kernel
theorem dX12_repeats_44 : decode cX12_repeats 44 = .ok (.iload_n 1, 1) := by decide +kernel
theorem dX12_repeats_45 : decode cX12_repeats 45 = .ok (.iload 5, 2) := by decide +kernel
theorem dX12_repeats_47 : decode cX12_repeats 47 = .ok (.iadd, 1) := by decide +kernel
theorem dX12_repeats_48 : decode cX12_repeats 48 = .ok (.aload_n 0, 1) := by decide +kernel
theorem dX12_repeats_49 : decode cX12_repeats 49 = .ok (.getfield 68, 3) := by decide +kernel
theorem dX12_repeats_52 : decode cX12_repeats 52 = .ok (.iload_n 1, 1) := by decide +kernel
theorem dX12_repeats_53 : decode cX12_repeats 53 = .ok (.iload 5, 2) := by decide +kernel
theorem dX12_repeats_55 : decode cX12_repeats 55 = .ok (.iadd, 1) := by decide +kernel
theorem dX12_repeats_56 : decode cX12_repeats 56 = .ok (.iload 4, 2) := by decide +kernel
theorem dX12_repeats_58 : decode cX12_repeats 58 = .ok (.isub, 1) := by decide +kernel
theorem dX12_repeats_59 : decode cX12_repeats 59 = .ok (.iaload, 1) := by decide +kernel
theorem dX12_repeats_60 : decode cX12_repeats 60 = .ok (.iastore, 1) := by decide +kernel
theorem dX12_repeats_61 : decode cX12_repeats 61 = .ok (.iinc 5 1, 3) := by decide +kernel
theorem dX12_repeats_64 : decode cX12_repeats 64 = .ok (.goto (-33), 3) := by decide +kernel
theorem dX12_repeats_67 : decode cX12_repeats 67 = .ok (.aload_n 0, 1) := by decide +kernel
theorem dX12_repeats_68 : decode cX12_repeats 68 = .ok (.iload_n 1, 1) := by decide +kernel
theorem dX12_repeats_69 : decode cX12_repeats 69 = .ok (.iload 4, 2) := by decide +kernel
theorem dX12_repeats_71 : decode cX12_repeats 71 = .ok (.iload_n 2, 1) := by decide +kernel
theorem dX12_repeats_72 : decode cX12_repeats 72 = .ok (.imul, 1) := by decide +kernel
theorem dX12_repeats_73 : decode cX12_repeats 73 = .ok (.iadd, 1) := by decide +kernel
theorem dX12_repeats_74 : decode cX12_repeats 74 = .ok (.putfield 239, 3) := by decide +kernel
theorem dX12_repeats_77 : decode cX12_repeats 77 = .ok (.iconst 1, 1) := by decide +kernel
theorem dX12_repeats_78 : decode cX12_repeats 78 = .ok (.ireturn, 1) := by decide +kernel
theorem dX12_doingBy_0 : decode cX12_doingBy 0 = .ok (.iload_n 0, 1) := by decide +kernel
theorem dX12_doingBy_1 : decode cX12_doingBy 1 = .ok (.tableswitch 114 99 119 #[101, 114, 114, 109, 114, 114, 114, 114, 114, 107, 114, 114, 111, 114, 114, 105, 99, 114, 114, 114, 103], 99) := by decide +kernel
theorem dX12_doingBy_100 : decode cX12_doingBy 100 = .ok (.iconst 0, 1) := by decide +kernel
theorem dX12_doingBy_101 : decode cX12_doingBy 101 = .ok (.ireturn, 1) := by decide +kernel
theorem dX12_doingBy_102 : decode cX12_doingBy 102 = .ok (.iconst 1, 1) := by decide +kernel
theorem dX12_doingBy_103 : decode cX12_doingBy 103 = .ok (.ireturn, 1) := by decide +kernel
theorem dX12_doingBy_104 : decode cX12_doingBy 104 = .ok (.iconst 2, 1) := by decide +kernel
theorem dX12_doingBy_105 : decode cX12_doingBy 105 = .ok (.ireturn, 1) := by decide +kernel
theorem dX12_doingBy_106 : decode cX12_doingBy 106 = .ok (.iconst 3, 1) := by decide +kernel
theorem dX12_doingBy_107 : decode cX12_doingBy 107 = .ok (.ireturn, 1) := by decide +kernel
theorem dX12_doingBy_108 : decode cX12_doingBy 108 = .ok (.iconst 4, 1) := by decide +kernel
theorem dX12_doingBy_109 : decode cX12_doingBy 109 = .ok (.ireturn, 1) := by decide +kernel
theorem dX12_doingBy_110 : decode cX12_doingBy 110 = .ok (.iconst 5, 1) := by decide +kernel
theorem dX12_doingBy_111 : decode cX12_doingBy 111 = .ok (.ireturn, 1) := by decide +kernel
theorem dX12_doingBy_112 : decode cX12_doingBy 112 = .ok (.bipush 6, 2) := by decide +kernel
theorem dX12_doingBy_114 : decode cX12_doingBy 114 = .ok (.ireturn, 1) := by decide +kernel
theorem dX12_doingBy_115 : decode cX12_doingBy 115 = .ok (.iconst (-1), 1) := by decide +kernel
theorem dX12_doingBy_116 : decode cX12_doingBy 116 = .ok (.ireturn, 1) := by decide +kernel
theorem dX12_readsHour_0 : decode cX12_readsHour 0 = .ok (.aload_n 0, 1) := by decide +kernel
theorem dX12_readsHour_1 : decode cX12_readsHour 1 = .ok (.invokevirtual 242, 3) := by decide +kernel
theorem dX12_readsHour_4 : decode cX12_readsHour 4 = .ok (.aload_n 0, 1) := by decide +kernel
theorem dX12_readsHour_5 : decode cX12_readsHour 5 = .ok (.invokevirtual 134, 3) := by decide +kernel
theorem dX12_readsHour_8 : decode cX12_readsHour 8 = .ok (.bipush 40, 2) := by decide +kernel
theorem dX12_readsHour_10 : decode cX12_readsHour 10 = .ok (.if_icmp .ne 87, 3) := by decide +kernel
theorem dX12_readsHour_13 : decode cX12_readsHour 13 = .ok (.aload_n 0, 1) := by decide +kernel
theorem dX12_readsHour_14 : decode cX12_readsHour 14 = .ok (.getfield 245, 3) := by decide +kernel
theorem dX12_readsHour_17 : decode cX12_readsHour 17 = .ok (.iconst 2, 1) := by decide +kernel
theorem dX12_readsHour_18 : decode cX12_readsHour 18 = .ok (.if_icmp .ne 13, 3) := by decide +kernel
theorem dX12_readsHour_21 : decode cX12_readsHour 21 = .ok (.aload_n 0, 1) := by decide +kernel
theorem dX12_readsHour_22 : decode cX12_readsHour 22 = .ok (.iconst 5, 1) := by decide +kernel
theorem dX12_readsHour_23 : decode cX12_readsHour 23 = .ok (.aload_n 0, 1) := by decide +kernel
theorem dX12_readsHour_24 : decode cX12_readsHour 24 = .ok (.getfield 128, 3) := by decide +kernel
theorem dX12_readsHour_27 : decode cX12_readsHour 27 = .ok (.invokevirtual 141, 3) := by decide +kernel
theorem dX12_readsHour_30 : decode cX12_readsHour 30 = .ok (.ireturn, 1) := by decide +kernel
theorem dX12_readsHour_31 : decode cX12_readsHour 31 = .ok (.aload_n 0, 1) := by decide +kernel
theorem dX12_readsHour_32 : decode cX12_readsHour 32 = .ok (.getfield 71, 3) := by decide +kernel
theorem dX12_readsHour_35 : decode cX12_readsHour 35 = .ok (.aload_n 0, 1) := by decide +kernel
theorem dX12_readsHour_36 : decode cX12_readsHour 36 = .ok (.getfield 245, 3) := by decide +kernel
theorem dX12_readsHour_39 : decode cX12_readsHour 39 = .ok (.aload_n 0, 1) := by decide +kernel
theorem dX12_readsHour_40 : decode cX12_readsHour 40 = .ok (.getfield 233, 3) := by decide +kernel
theorem dX12_readsHour_43 : decode cX12_readsHour 43 = .ok (.iastore, 1) := by decide +kernel
theorem dX12_readsHour_44 : decode cX12_readsHour 44 = .ok (.aload_n 0, 1) := by decide +kernel
theorem dX12_readsHour_45 : decode cX12_readsHour 45 = .ok (.getfield 74, 3) := by decide +kernel
theorem dX12_readsHour_48 : decode cX12_readsHour 48 = .ok (.aload_n 0, 1) := by decide +kernel
theorem dX12_readsHour_49 : decode cX12_readsHour 49 = .ok (.getfield 245, 3) := by decide +kernel
theorem dX12_readsHour_52 : decode cX12_readsHour 52 = .ok (.aload_n 0, 1) := by decide +kernel
theorem dX12_readsHour_53 : decode cX12_readsHour 53 = .ok (.getfield 239, 3) := by decide +kernel
theorem dX12_readsHour_56 : decode cX12_readsHour 56 = .ok (.iastore, 1) := by decide +kernel
theorem dX12_readsHour_57 : decode cX12_readsHour 57 = .ok (.aload_n 0, 1) := by decide +kernel
theorem dX12_readsHour_58 : decode cX12_readsHour 58 = .ok (.getfield 77, 3) := by decide +kernel
theorem dX12_readsHour_61 : decode cX12_readsHour 61 = .ok (.aload_n 0, 1) := by decide +kernel
theorem dX12_readsHour_62 : decode cX12_readsHour 62 = .ok (.getfield 245, 3) := by decide +kernel
theorem dX12_readsHour_65 : decode cX12_readsHour 65 = .ok (.aload_n 0, 1) := by decide +kernel
theorem dX12_readsHour_66 : decode cX12_readsHour 66 = .ok (.getfield 236, 3) := by decide +kernel
theorem dX12_readsHour_69 : decode cX12_readsHour 69 = .ok (.iastore, 1) := by decide +kernel
theorem dX12_readsHour_70 : decode cX12_readsHour 70 = .ok (.aload_n 0, 1) := by decide +kernel
theorem dX12_readsHour_71 : decode cX12_readsHour 71 = .ok (.aload_n 0, 1) := by decide +kernel
theorem dX12_readsHour_72 : decode cX12_readsHour 72 = .ok (.getfield 245, 3) := by decide +kernel
theorem dX12_readsHour_75 : decode cX12_readsHour 75 = .ok (.iconst 1, 1) := by decide +kernel
theorem dX12_readsHour_76 : decode cX12_readsHour 76 = .ok (.iadd, 1) := by decide +kernel
theorem dX12_readsHour_77 : decode cX12_readsHour 77 = .ok (.putfield 245, 3) := by decide +kernel
theorem dX12_readsHour_80 : decode cX12_readsHour 80 = .ok (.aload_n 0, 1) := by decide +kernel
theorem dX12_readsHour_81 : decode cX12_readsHour 81 = .ok (.aload_n 0, 1) := by decide +kernel
theorem dX12_readsHour_82 : decode cX12_readsHour 82 = .ok (.getfield 128, 3) := by decide +kernel
theorem dX12_readsHour_85 : decode cX12_readsHour 85 = .ok (.iconst 1, 1) := by decide +kernel
theorem dX12_readsHour_86 : decode cX12_readsHour 86 = .ok (.iadd, 1) := by decide +kernel
theorem dX12_readsHour_87 : decode cX12_readsHour 87 = .ok (.putfield 128, 3) := by decide +kernel
theorem dX12_readsHour_90 : decode cX12_readsHour 90 = .ok (.aload_n 0, 1) := by decide +kernel
theorem dX12_readsHour_91 : decode cX12_readsHour 91 = .ok (.invokevirtual 242, 3) := by decide +kernel
theorem dX12_readsHour_94 : decode cX12_readsHour 94 = .ok (.goto (-90), 3) := by decide +kernel
theorem dX12_readsHour_97 : decode cX12_readsHour 97 = .ok (.aload_n 0, 1) := by decide +kernel
theorem dX12_readsHour_98 : decode cX12_readsHour 98 = .ok (.getfield 233, 3) := by decide +kernel
theorem dX12_readsHour_101 : decode cX12_readsHour 101 = .ok (.istore_n 1, 1) := by decide +kernel
theorem dX12_readsHour_102 : decode cX12_readsHour 102 = .ok (.aload_n 0, 1) := by decide +kernel
theorem dX12_readsHour_103 : decode cX12_readsHour 103 = .ok (.getfield 236, 3) := by decide +kernel
theorem dX12_readsHour_106 : decode cX12_readsHour 106 = .ok (.istore_n 2, 1) := by decide +kernel
theorem dX12_readsHour_107 : decode cX12_readsHour 107 = .ok (.aload_n 0, 1) := by decide +kernel
theorem dX12_readsHour_108 : decode cX12_readsHour 108 = .ok (.invokevirtual 134, 3) := by decide +kernel
theorem dX12_readsHour_111 : decode cX12_readsHour 111 = .ok (.invokestatic 248, 3) := by decide +kernel
theorem dX12_readsHour_114 : decode cX12_readsHour 114 = .ok (.istore_n 3, 1) := by decide +kernel
theorem dX12_readsHour_115 : decode cX12_readsHour 115 = .ok (.iload_n 3, 1) := by decide +kernel
theorem dX12_readsHour_116 : decode cX12_readsHour 116 = .ok (.iconst (-1), 1) := by decide +kernel
theorem dX12_readsHour_117 : decode cX12_readsHour 117 = .ok (.if_icmp .ne 13, 3) := by decide +kernel
theorem dX12_readsHour_120 : decode cX12_readsHour 120 = .ok (.aload_n 0, 1) := by decide +kernel
theorem dX12_readsHour_121 : decode cX12_readsHour 121 = .ok (.iconst 1, 1) := by decide +kernel
theorem dX12_readsHour_122 : decode cX12_readsHour 122 = .ok (.aload_n 0, 1) := by decide +kernel
theorem dX12_readsHour_123 : decode cX12_readsHour 123 = .ok (.getfield 128, 3) := by decide +kernel
theorem dX12_readsHour_126 : decode cX12_readsHour 126 = .ok (.invokevirtual 141, 3) := by decide +kernel
theorem dX12_readsHour_129 : decode cX12_readsHour 129 = .ok (.ireturn, 1) := by decide +kernel
theorem dX12_readsHour_130 : decode cX12_readsHour 130 = .ok (.aload_n 0, 1) := by decide +kernel
theorem dX12_readsHour_131 : decode cX12_readsHour 131 = .ok (.getfield 239, 3) := by decide +kernel
theorem dX12_readsHour_134 : decode cX12_readsHour 134 = .ok (.iload_n 2, 1) := by decide +kernel
theorem dX12_readsHour_135 : decode cX12_readsHour 135 = .ok (.iadd, 1) := by decide +kernel
theorem dX12_readsHour_136 : decode cX12_readsHour 136 = .ok (.bipush 24, 2) := by decide +kernel
theorem dX12_readsHour_138 : decode cX12_readsHour 138 = .ok (.if_icmp .le 11, 3) := by decide +kernel
theorem dX12_readsHour_141 : decode cX12_readsHour 141 = .ok (.aload_n 0, 1) := by decide +kernel
theorem dX12_readsHour_142 : decode cX12_readsHour 142 = .ok (.bipush 6, 2) := by decide +kernel
theorem dX12_readsHour_144 : decode cX12_readsHour 144 = .ok (.iload_n 1, 1) := by decide +kernel
theorem dX12_readsHour_145 : decode cX12_readsHour 145 = .ok (.invokevirtual 141, 3) := by decide +kernel
theorem dX12_readsHour_148 : decode cX12_readsHour 148 = .ok (.ireturn, 1) := by decide +kernel
theorem dX12_readsHour_149 : decode cX12_readsHour 149 = .ok (.aload_n 0, 1) := by decide +kernel
theorem dX12_readsHour_150 : decode cX12_readsHour 150 = .ok (.getfield 68, 3) := by decide +kernel
theorem dX12_readsHour_153 : decode cX12_readsHour 153 = .ok (.aload_n 0, 1) := by decide +kernel
theorem dX12_readsHour_154 : decode cX12_readsHour 154 = .ok (.getfield 239, 3) := by decide +kernel
theorem dX12_readsHour_157 : decode cX12_readsHour 157 = .ok (.iload_n 3, 1) := by decide +kernel
theorem dX12_readsHour_158 : decode cX12_readsHour 158 = .ok (.iastore, 1) := by decide +kernel
theorem dX12_readsHour_159 : decode cX12_readsHour 159 = .ok (.aload_n 0, 1) := by decide +kernel
theorem dX12_readsHour_160 : decode cX12_readsHour 160 = .ok (.aload_n 0, 1) := by decide +kernel
theorem dX12_readsHour_161 : decode cX12_readsHour 161 = .ok (.getfield 128, 3) := by decide +kernel
theorem dX12_readsHour_164 : decode cX12_readsHour 164 = .ok (.iconst 1, 1) := by decide +kernel
theorem dX12_readsHour_165 : decode cX12_readsHour 165 = .ok (.iadd, 1) := by decide +kernel
theorem dX12_readsHour_166 : decode cX12_readsHour 166 = .ok (.putfield 128, 3) := by decide +kernel
theorem dX12_readsHour_169 : decode cX12_readsHour 169 = .ok (.aload_n 0, 1) := by decide +kernel
theorem dX12_readsHour_170 : decode cX12_readsHour 170 = .ok (.aload_n 0, 1) := by decide +kernel
theorem dX12_readsHour_171 : decode cX12_readsHour 171 = .ok (.getfield 239, 3) := by decide +kernel
theorem dX12_readsHour_174 : decode cX12_readsHour 174 = .ok (.iconst 1, 1) := by decide +kernel
theorem dX12_readsHour_175 : decode cX12_readsHour 175 = .ok (.iadd, 1) := by decide +kernel
theorem dX12_readsHour_176 : decode cX12_readsHour 176 = .ok (.putfield 239, 3) := by decide +kernel
theorem dX12_readsHour_179 : decode cX12_readsHour 179 = .ok (.aload_n 0, 1) := by decide +kernel
theorem dX12_readsHour_180 : decode cX12_readsHour 180 = .ok (.aload_n 0, 1) := by decide +kernel
theorem dX12_readsHour_181 : decode cX12_readsHour 181 = .ok (.getfield 239, 3) := by decide +kernel
theorem dX12_readsHour_184 : decode cX12_readsHour 184 = .ok (.iconst 1, 1) := by decide +kernel
theorem dX12_readsHour_185 : decode cX12_readsHour 185 = .ok (.isub, 1) := by decide +kernel
theorem dX12_readsHour_186 : decode cX12_readsHour 186 = .ok (.iload_n 2, 1) := by decide +kernel
theorem dX12_readsHour_187 : decode cX12_readsHour 187 = .ok (.iload_n 1, 1) := by decide +kernel
theorem dX12_readsHour_188 : decode cX12_readsHour 188 = .ok (.invokevirtual 251, 3) := by decide +kernel
theorem dX12_readsHour_191 : decode cX12_readsHour 191 = .ok (.ifCond .ne 5, 3) := by decide +kernel
theorem dX12_readsHour_194 : decode cX12_readsHour 194 = .ok (.iconst 0, 1) := by decide +kernel
theorem dX12_readsHour_195 : decode cX12_readsHour 195 = .ok (.ireturn, 1) := by decide +kernel
theorem dX12_readsHour_196 : decode cX12_readsHour 196 = .ok (.aload_n 0, 1) := by decide +kernel
theorem dX12_readsHour_197 : decode cX12_readsHour 197 = .ok (.invokevirtual 134, 3) := by decide +kernel
theorem dX12_readsHour_200 : decode cX12_readsHour 200 = .ok (.bipush 41, 2) := by decide +kernel
theorem dX12_readsHour_202 : decode cX12_readsHour 202 = .ok (.if_icmp .ne 66, 3) := by decide +kernel
theorem dX12_readsHour_205 : decode cX12_readsHour 205 = .ok (.aload_n 0, 1) := by decide +kernel
theorem dX12_readsHour_206 : decode cX12_readsHour 206 = .ok (.getfield 245, 3) := by decide +kernel
theorem dX12_readsHour_209 : decode cX12_readsHour 209 = .ok (.ifCond .le 59, 3) := by decide +kernel
theorem dX12_readsHour_212 : decode cX12_readsHour 212 = .ok (.aload_n 0, 1) := by decide +kernel
theorem dX12_readsHour_213 : decode cX12_readsHour 213 = .ok (.aload_n 0, 1) := by decide +kernel
theorem dX12_readsHour_214 : decode cX12_readsHour 214 = .ok (.getfield 128, 3) := by decide +kernel
theorem dX12_readsHour_217 : decode cX12_readsHour 217 = .ok (.iconst 1, 1) := by decide +kernel
theorem dX12_readsHour_218 : decode cX12_readsHour 218 = .ok (.iadd, 1) := by decide +kernel
theorem dX12_readsHour_219 : decode cX12_readsHour 219 = .ok (.putfield 128, 3) := by decide +kernel
theorem dX12_readsHour_222 : decode cX12_readsHour 222 = .ok (.aload_n 0, 1) := by decide +kernel
theorem dX12_readsHour_223 : decode cX12_readsHour 223 = .ok (.aload_n 0, 1) := by decide +kernel
theorem dX12_readsHour_224 : decode cX12_readsHour 224 = .ok (.getfield 245, 3) := by decide +kernel
theorem dX12_readsHour_227 : decode cX12_readsHour 227 = .ok (.iconst 1, 1) := by decide +kernel
theorem dX12_readsHour_228 : decode cX12_readsHour 228 = .ok (.isub, 1) := by decide +kernel
theorem dX12_readsHour_229 : decode cX12_readsHour 229 = .ok (.putfield 245, 3) := by decide +kernel
theorem dX12_readsHour_232 : decode cX12_readsHour 232 = .ok (.aload_n 0, 1) := by decide +kernel
theorem dX12_readsHour_233 : decode cX12_readsHour 233 = .ok (.aload_n 0, 1) := by decide +kernel
theorem dX12_readsHour_234 : decode cX12_readsHour 234 = .ok (.getfield 74, 3) := by decide +kernel
theorem dX12_readsHour_237 : decode cX12_readsHour 237 = .ok (.aload_n 0, 1) := by decide +kernel
theorem dX12_readsHour_238 : decode cX12_readsHour 238 = .ok (.getfield 245, 3) := by decide +kernel
theorem dX12_readsHour_241 : decode cX12_readsHour 241 = .ok (.iaload, 1) := by decide +kernel
theorem dX12_readsHour_242 : decode cX12_readsHour 242 = .ok (.aload_n 0, 1) := by decide +kernel
theorem dX12_readsHour_243 : decode cX12_readsHour 243 = .ok (.getfield 77, 3) := by decide +kernel
theorem dX12_readsHour_246 : decode cX12_readsHour 246 = .ok (.aload_n 0, 1) := by decide +kernel
theorem dX12_readsHour_247 : decode cX12_readsHour 247 = .ok (.getfield 245, 3) := by decide +kernel
theorem dX12_readsHour_250 : decode cX12_readsHour 250 = .ok (.iaload, 1) := by decide +kernel
theorem dX12_readsHour_251 : decode cX12_readsHour 251 = .ok (.aload_n 0, 1) := by decide +kernel
theorem dX12_readsHour_252 : decode cX12_readsHour 252 = .ok (.getfield 71, 3) := by decide +kernel
theorem dX12_readsHour_255 : decode cX12_readsHour 255 = .ok (.aload_n 0, 1) := by decide +kernel
theorem dX12_readsHour_256 : decode cX12_readsHour 256 = .ok (.getfield 245, 3) := by decide +kernel
theorem dX12_readsHour_259 : decode cX12_readsHour 259 = .ok (.iaload, 1) := by decide +kernel
theorem dX12_readsHour_260 : decode cX12_readsHour 260 = .ok (.invokevirtual 251, 3) := by decide +kernel
theorem dX12_readsHour_263 : decode cX12_readsHour 263 = .ok (.ifCond .ne (-67), 3) := by decide +kernel
theorem dX12_readsHour_266 : decode cX12_readsHour 266 = .ok (.iconst 0, 1) := by decide +kernel
theorem dX12_readsHour_267 : decode cX12_readsHour 267 = .ok (.ireturn, 1) := by decide +kernel
theorem dX12_readsHour_268 : decode cX12_readsHour 268 = .ok (.iconst 1, 1) := by decide +kernel
theorem dX12_readsHour_269 : decode cX12_readsHour 269 = .ok (.ireturn, 1) := by decide +kernel
theorem dX12_routine_0 : decode cX12_routine 0 = .ok (.iload_n 1, 1) := by decide +kernel
theorem dX12_routine_1 : decode cX12_routine 1 = .ok (.iconst 0, 1) := by decide +kernel
theorem dX12_routine_2 : decode cX12_routine 2 = .ok (.bipush 15, 2) := by decide +kernel
theorem dX12_routine_4 : decode cX12_routine 4 = .ok (.invokestatic 107, 3) := by decide +kernel
theorem dX12_routine_7 : decode cX12_routine 7 = .ok (.ifCond .eq 21, 3) := by decide +kernel
theorem dX12_routine_10 : decode cX12_routine 10 = .ok (.iload_n 2, 1) := by decide +kernel
theorem dX12_routine_11 : decode cX12_routine 11 = .ok (.iconst 1, 1) := by decide +kernel
theorem dX12_routine_12 : decode cX12_routine 12 = .ok (.bipush 60, 2) := by decide +kernel
theorem dX12_routine_14 : decode cX12_routine 14 = .ok (.invokestatic 107, 3) := by decide +kernel
theorem dX12_routine_17 : decode cX12_routine 17 = .ok (.ifCond .eq 11, 3) := by decide +kernel
theorem dX12_routine_20 : decode cX12_routine 20 = .ok (.iload_n 2, 1) := by decide +kernel
theorem dX12_routine_21 : decode cX12_routine 21 = .ok (.aload_n 0, 1) := by decide +kernel
theorem dX12_routine_22 : decode cX12_routine 22 = .ok (.getfield 120, 3) := by decide +kernel
theorem dX12_routine_25 : decode cX12_routine 25 = .ok (.if_icmp .le 5, 3) := by decide +kernel
theorem dX12_routine_28 : decode cX12_routine 28 = .ok (.iconst (-1), 1) := by decide +kernel
theorem dX12_routine_29 : decode cX12_routine 29 = .ok (.ireturn, 1) := by decide +kernel
theorem dX12_routine_30 : decode cX12_routine 30 = .ok (.aload_n 0, 1) := by decide +kernel
theorem dX12_routine_31 : decode cX12_routine 31 = .ok (.iload_n 2, 1) := by decide +kernel
theorem dX12_routine_32 : decode cX12_routine 32 = .ok (.invokevirtual 213, 3) := by decide +kernel
theorem dX12_routine_35 : decode cX12_routine 35 = .ok (.aload_n 0, 1) := by decide +kernel
theorem dX12_routine_36 : decode cX12_routine 36 = .ok (.iconst 0, 1) := by decide +kernel
theorem dX12_routine_37 : decode cX12_routine 37 = .ok (.putfield 239, 3) := by decide +kernel
theorem dX12_routine_40 : decode cX12_routine 40 = .ok (.aload_n 0, 1) := by decide +kernel
theorem dX12_routine_41 : decode cX12_routine 41 = .ok (.iconst 0, 1) := by decide +kernel
theorem dX12_routine_42 : decode cX12_routine 42 = .ok (.putfield 245, 3) := by decide +kernel
theorem dX12_routine_45 : decode cX12_routine 45 = .ok (.aload_n 0, 1) := by decide +kernel
theorem dX12_routine_46 : decode cX12_routine 46 = .ok (.invokevirtual 254, 3) := by decide +kernel
theorem dX12_routine_49 : decode cX12_routine 49 = .ok (.istore_n 3, 1) := by decide +kernel
theorem dX12_routine_50 : decode cX12_routine 50 = .ok (.iload_n 3, 1) := by decide +kernel
theorem dX12_routine_51 : decode cX12_routine 51 = .ok (.ifCond .eq 29, 3) := by decide +kernel
theorem dX12_routine_54 : decode cX12_routine 54 = .ok (.aload_n 0, 1) := by decide +kernel
theorem dX12_routine_55 : decode cX12_routine 55 = .ok (.getfield 128, 3) := by decide +kernel
theorem dX12_routine_58 : decode cX12_routine 58 = .ok (.aload_n 0, 1) := by decide +kernel
theorem dX12_routine_59 : decode cX12_routine 59 = .ok (.getfield 131, 3) := by decide +kernel
theorem dX12_routine_62 : decode cX12_routine 62 = .ok (.if_icmp .lt 10, 3) := by decide +kernel
theorem dX12_routine_65 : decode cX12_routine 65 = .ok (.aload_n 0, 1) := by decide +kernel
theorem dX12_routine_66 : decode cX12_routine 66 = .ok (.getfield 245, 3) := by decide +kernel
theorem dX12_routine_69 : decode cX12_routine 69 = .ok (.ifCond .le 11, 3) := by decide +kernel
theorem dX12_routine_72 : decode cX12_routine 72 = .ok (.aload_n 0, 1) := by decide +kernel
theorem dX12_routine_73 : decode cX12_routine 73 = .ok (.invokevirtual 254, 3) := by decide +kernel
theorem dX12_routine_76 : decode cX12_routine 76 = .ok (.istore_n 3, 1) := by decide +kernel
theorem dX12_routine_77 : decode cX12_routine 77 = .ok (.goto (-27), 3) := by decide +kernel
theorem dX12_routine_80 : decode cX12_routine 80 = .ok (.aload_n 0, 1) := by decide +kernel
theorem dX12_routine_81 : decode cX12_routine 81 = .ok (.iconst 0, 1) := by decide +kernel
theorem dX12_routine_82 : decode cX12_routine 82 = .ok (.putfield 120, 3) := by decide +kernel
theorem dX12_routine_85 : decode cX12_routine 85 = .ok (.iload_n 3, 1) := by decide +kernel
theorem dX12_routine_86 : decode cX12_routine 86 = .ok (.ifCond .ne 8, 3) := by decide +kernel
theorem dX12_routine_89 : decode cX12_routine 89 = .ok (.aload_n 0, 1) := by decide +kernel
theorem dX12_routine_90 : decode cX12_routine 90 = .ok (.getfield 138, 3) := by decide +kernel
theorem dX12_routine_93 : decode cX12_routine 93 = .ok (.ireturn, 1) := by decide +kernel
theorem dX12_routine_94 : decode cX12_routine 94 = .ok (.aload_n 0, 1) := by decide +kernel
theorem dX12_routine_95 : decode cX12_routine 95 = .ok (.getfield 22, 3) := by decide +kernel
theorem dX12_routine_98 : decode cX12_routine 98 = .ok (.iload_n 1, 1) := by decide +kernel
theorem dX12_routine_99 : decode cX12_routine 99 = .ok (.aload_n 0, 1) := by decide +kernel
theorem dX12_routine_100 : decode cX12_routine 100 = .ok (.getfield 239, 3) := by decide +kernel
theorem dX12_routine_103 : decode cX12_routine 103 = .ok (.iastore, 1) := by decide +kernel
theorem dX12_routine_104 : decode cX12_routine 104 = .ok (.iconst 0, 1) := by decide +kernel
theorem dX12_routine_105 : decode cX12_routine 105 = .ok (.istore 4, 2) := by decide +kernel
theorem dX12_routine_107 : decode cX12_routine 107 = .ok (.iload 4, 2) := by decide +kernel
theorem dX12_routine_109 : decode cX12_routine 109 = .ok (.bipush 24, 2) := by decide +kernel
theorem dX12_routine_111 : decode cX12_routine 111 = .ok (.if_icmp .ge 41, 3) := by decide +kernel
theorem dX12_routine_114 : decode cX12_routine 114 = .ok (.aload_n 0, 1) := by decide +kernel
theorem dX12_routine_115 : decode cX12_routine 115 = .ok (.getfield 19, 3) := by decide +kernel
theorem dX12_routine_118 : decode cX12_routine 118 = .ok (.bipush 24, 2) := by decide +kernel
theorem dX12_routine_120 : decode cX12_routine 120 = .ok (.iload_n 1, 1) := by decide +kernel
theorem dX12_routine_121 : decode cX12_routine 121 = .ok (.imul, 1) := by decide +kernel
theorem dX12_routine_122 : decode cX12_routine 122 = .ok (.iload 4, 2) := by decide +kernel
theorem dX12_routine_124 : decode cX12_routine 124 = .ok (.iadd, 1) := by decide +kernel
theorem dX12_routine_125 : decode cX12_routine 125 = .ok (.iload 4, 2) := by decide +kernel
theorem dX12_routine_127 : decode cX12_routine 127 = .ok (.aload_n 0, 1) := by decide +kernel
theorem dX12_routine_128 : decode cX12_routine 128 = .ok (.getfield 239, 3) := by decide +kernel
theorem dX12_routine_131 : decode cX12_routine 131 = .ok (.if_icmp .ge 13, 3) := by decide +kernel
theorem dX12_routine_134 : decode cX12_routine 134 = .ok (.aload_n 0, 1) := by decide +kernel
theorem dX12_routine_135 : decode cX12_routine 135 = .ok (.getfield 68, 3) := by decide +kernel
theorem dX12_routine_138 : decode cX12_routine 138 = .ok (.iload 4, 2) := by decide +kernel
theorem dX12_routine_140 : decode cX12_routine 140 = .ok (.iaload, 1) := by decide +kernel
theorem dX12_routine_141 : decode cX12_routine 141 = .ok (.goto 4, 3) := by decide +kernel
theorem dX12_routine_144 : decode cX12_routine 144 = .ok (.iconst 0, 1) := by decide +kernel
theorem dX12_routine_145 : decode cX12_routine 145 = .ok (.iastore, 1) := by decide +kernel
theorem dX12_routine_146 : decode cX12_routine 146 = .ok (.iinc 4 1, 3) := by decide +kernel
theorem dX12_routine_149 : decode cX12_routine 149 = .ok (.goto (-42), 3) := by decide +kernel
theorem dX12_routine_152 : decode cX12_routine 152 = .ok (.aload_n 0, 1) := by decide +kernel
theorem dX12_routine_153 : decode cX12_routine 153 = .ok (.getfield 239, 3) := by decide +kernel
theorem dX12_routine_156 : decode cX12_routine 156 = .ok (.ireturn, 1) := by decide +kernel
theorem dX12_isLetter_0 : decode cX12_isLetter 0 = .ok (.aload_n 0, 1) := by decide +kernel
theorem dX12_isLetter_1 : decode cX12_isLetter 1 = .ok (.invokevirtual 134, 3) := by decide +kernel
theorem dX12_isLetter_4 : decode cX12_isLetter 4 = .ok (.bipush 97, 2) := by decide +kernel
theorem dX12_isLetter_6 : decode cX12_isLetter 6 = .ok (.isub, 1) := by decide +kernel
theorem dX12_isLetter_7 : decode cX12_isLetter 7 = .ok (.iconst 0, 1) := by decide +kernel
theorem dX12_isLetter_8 : decode cX12_isLetter 8 = .ok (.bipush 15, 2) := by decide +kernel
theorem dX12_isLetter_10 : decode cX12_isLetter 10 = .ok (.invokestatic 107, 3) := by decide +kernel
theorem dX12_isLetter_13 : decode cX12_isLetter 13 = .ok (.ireturn, 1) := by decide +kernel
theorem dX12_readsAmount_0 : decode cX12_readsAmount 0 = .ok (.aload_n 0, 1) := by decide +kernel
theorem dX12_readsAmount_1 : decode cX12_readsAmount 1 = .ok (.getfield 128, 3) := by decide +kernel
theorem dX12_readsAmount_4 : decode cX12_readsAmount 4 = .ok (.istore_n 2, 1) := by decide +kernel
theorem dX12_readsAmount_5 : decode cX12_readsAmount 5 = .ok (.aload_n 0, 1) := by decide +kernel
theorem dX12_readsAmount_6 : decode cX12_readsAmount 6 = .ok (.invokevirtual 148, 3) := by decide +kernel
theorem dX12_readsAmount_9 : decode cX12_readsAmount 9 = .ok (.ifCond .ne 13, 3) := by decide +kernel
theorem dX12_readsAmount_12 : decode cX12_readsAmount 12 = .ok (.aload_n 0, 1) := by decide +kernel
theorem dX12_readsAmount_13 : decode cX12_readsAmount 13 = .ok (.iconst 1, 1) := by decide +kernel
theorem dX12_readsAmount_14 : decode cX12_readsAmount 14 = .ok (.aload_n 0, 1) := by decide +kernel
theorem dX12_readsAmount_15 : decode cX12_readsAmount 15 = .ok (.getfield 128, 3) := by decide +kernel
theorem dX12_readsAmount_18 : decode cX12_readsAmount 18 = .ok (.invokevirtual 141, 3) := by decide +kernel
theorem dX12_readsAmount_21 : decode cX12_readsAmount 21 = .ok (.ireturn, 1) := by decide +kernel
theorem dX12_readsAmount_22 : decode cX12_readsAmount 22 = .ok (.aload_n 0, 1) := by decide +kernel
theorem dX12_readsAmount_23 : decode cX12_readsAmount 23 = .ok (.iconst 0, 1) := by decide +kernel
theorem dX12_readsAmount_24 : decode cX12_readsAmount 24 = .ok (.putfield 145, 3) := by decide +kernel
theorem dX12_readsAmount_27 : decode cX12_readsAmount 27 = .ok (.aload_n 0, 1) := by decide +kernel
theorem dX12_readsAmount_28 : decode cX12_readsAmount 28 = .ok (.invokevirtual 148, 3) := by decide +kernel
theorem dX12_readsAmount_31 : decode cX12_readsAmount 31 = .ok (.ifCond .eq 55, 3) := by decide +kernel
theorem dX12_readsAmount_34 : decode cX12_readsAmount 34 = .ok (.aload_n 0, 1) := by decide +kernel
theorem dX12_readsAmount_35 : decode cX12_readsAmount 35 = .ok (.getfield 128, 3) := by decide +kernel
theorem dX12_readsAmount_38 : decode cX12_readsAmount 38 = .ok (.iload_n 2, 1) := by decide +kernel
theorem dX12_readsAmount_39 : decode cX12_readsAmount 39 = .ok (.iload_n 1, 1) := by decide +kernel
theorem dX12_readsAmount_40 : decode cX12_readsAmount 40 = .ok (.iadd, 1) := by decide +kernel
theorem dX12_readsAmount_41 : decode cX12_readsAmount 41 = .ok (.if_icmp .ne 13, 3) := by decide +kernel
theorem dX12_readsAmount_44 : decode cX12_readsAmount 44 = .ok (.aload_n 0, 1) := by decide +kernel
theorem dX12_readsAmount_45 : decode cX12_readsAmount 45 = .ok (.iconst 2, 1) := by decide +kernel
theorem dX12_readsAmount_46 : decode cX12_readsAmount 46 = .ok (.aload_n 0, 1) := by decide +kernel
theorem dX12_readsAmount_47 : decode cX12_readsAmount 47 = .ok (.getfield 128, 3) := by decide +kernel
theorem dX12_readsAmount_50 : decode cX12_readsAmount 50 = .ok (.invokevirtual 141, 3) := by decide +kernel
theorem dX12_readsAmount_53 : decode cX12_readsAmount 53 = .ok (.ireturn, 1) := by decide +kernel
theorem dX12_readsAmount_54 : decode cX12_readsAmount 54 = .ok (.aload_n 0, 1) := by decide +kernel
theorem dX12_readsAmount_55 : decode cX12_readsAmount 55 = .ok (.bipush 10, 2) := by decide +kernel
theorem dX12_readsAmount_57 : decode cX12_readsAmount 57 = .ok (.aload_n 0, 1) := by decide +kernel
theorem dX12_readsAmount_58 : decode cX12_readsAmount 58 = .ok (.getfield 145, 3) := by decide +kernel
theorem dX12_readsAmount_61 : decode cX12_readsAmount 61 = .ok (.imul, 1) := by decide +kernel
theorem dX12_readsAmount_62 : decode cX12_readsAmount 62 = .ok (.aload_n 0, 1) := by decide +kernel
theorem dX12_readsAmount_63 : decode cX12_readsAmount 63 = .ok (.invokevirtual 134, 3) := by decide +kernel
theorem dX12_readsAmount_66 : decode cX12_readsAmount 66 = .ok (.iadd, 1) := by decide +kernel
theorem dX12_readsAmount_67 : decode cX12_readsAmount 67 = .ok (.bipush 48, 2) := by decide +kernel
theorem dX12_readsAmount_69 : decode cX12_readsAmount 69 = .ok (.isub, 1) := by decide +kernel
theorem dX12_readsAmount_70 : decode cX12_readsAmount 70 = .ok (.putfield 145, 3) := by decide +kernel
theorem dX12_readsAmount_73 : decode cX12_readsAmount 73 = .ok (.aload_n 0, 1) := by decide +kernel
theorem dX12_readsAmount_74 : decode cX12_readsAmount 74 = .ok (.aload_n 0, 1) := by decide +kernel
theorem dX12_readsAmount_75 : decode cX12_readsAmount 75 = .ok (.getfield 128, 3) := by decide +kernel
theorem dX12_readsAmount_78 : decode cX12_readsAmount 78 = .ok (.iconst 1, 1) := by decide +kernel
theorem dX12_readsAmount_79 : decode cX12_readsAmount 79 = .ok (.iadd, 1) := by decide +kernel
theorem dX12_readsAmount_80 : decode cX12_readsAmount 80 = .ok (.putfield 128, 3) := by decide +kernel
theorem dX12_readsAmount_83 : decode cX12_readsAmount 83 = .ok (.goto (-56), 3) := by decide +kernel
theorem dX12_readsAmount_86 : decode cX12_readsAmount 86 = .ok (.iconst 1, 1) := by decide +kernel
theorem dX12_readsAmount_87 : decode cX12_readsAmount 87 = .ok (.ireturn, 1) := by decide +kernel
theorem dX12_readsPerhaps_0 : decode cX12_readsPerhaps 0 = .ok (.aload_n 0, 1) := by decide +kernel
theorem dX12_readsPerhaps_1 : decode cX12_readsPerhaps 1 = .ok (.iconst 0, 1) := by decide +kernel
theorem dX12_readsPerhaps_2 : decode cX12_readsPerhaps 2 = .ok (.putfield 145, 3) := by decide +kernel
theorem dX12_readsPerhaps_5 : decode cX12_readsPerhaps 5 = .ok (.aload_n 0, 1) := by decide +kernel
theorem dX12_readsPerhaps_6 : decode cX12_readsPerhaps 6 = .ok (.invokevirtual 134, 3) := by decide +kernel
theorem dX12_readsPerhaps_9 : decode cX12_readsPerhaps 9 = .ok (.iload_n 1, 1) := by decide +kernel
theorem dX12_readsPerhaps_10 : decode cX12_readsPerhaps 10 = .ok (.if_icmp .eq 5, 3) := by decide +kernel
theorem dX12_readsPerhaps_13 : decode cX12_readsPerhaps 13 = .ok (.iconst 1, 1) := by decide +kernel
theorem dX12_readsPerhaps_14 : decode cX12_readsPerhaps 14 = .ok (.ireturn, 1) := by decide +kernel
theorem dX12_readsPerhaps_15 : decode cX12_readsPerhaps 15 = .ok (.aload_n 0, 1) := by decide +kernel
theorem dX12_readsPerhaps_16 : decode cX12_readsPerhaps 16 = .ok (.aload_n 0, 1) := by decide +kernel
theorem dX12_readsPerhaps_17 : decode cX12_readsPerhaps 17 = .ok (.getfield 128, 3) := by decide +kernel
theorem dX12_readsPerhaps_20 : decode cX12_readsPerhaps 20 = .ok (.iconst 1, 1) := by decide +kernel
theorem dX12_readsPerhaps_21 : decode cX12_readsPerhaps 21 = .ok (.iadd, 1) := by decide +kernel
theorem dX12_readsPerhaps_22 : decode cX12_readsPerhaps 22 = .ok (.putfield 128, 3) := by decide +kernel
theorem dX12_readsPerhaps_25 : decode cX12_readsPerhaps 25 = .ok (.aload_n 0, 1) := by decide +kernel
theorem dX12_readsPerhaps_26 : decode cX12_readsPerhaps 26 = .ok (.iload_n 2, 1) := by decide +kernel
theorem dX12_readsPerhaps_27 : decode cX12_readsPerhaps 27 = .ok (.invokevirtual 257, 3) := by decide +kernel
theorem dX12_readsPerhaps_30 : decode cX12_readsPerhaps 30 = .ok (.ireturn, 1) := by decide +kernel
theorem dX12_readsLoan_0 : decode cX12_readsLoan 0 = .ok (.aload_n 0, 1) := by decide +kernel
theorem dX12_readsLoan_1 : decode cX12_readsLoan 1 = .ok (.invokevirtual 260, 3) := by decide +kernel
theorem dX12_readsLoan_4 : decode cX12_readsLoan 4 = .ok (.ifCond .ne 13, 3) := by decide +kernel
theorem dX12_readsLoan_7 : decode cX12_readsLoan 7 = .ok (.aload_n 0, 1) := by decide +kernel
theorem dX12_readsLoan_8 : decode cX12_readsLoan 8 = .ok (.iconst 1, 1) := by decide +kernel
theorem dX12_readsLoan_9 : decode cX12_readsLoan 9 = .ok (.aload_n 0, 1) := by decide +kernel
theorem dX12_readsLoan_10 : decode cX12_readsLoan 10 = .ok (.getfield 128, 3) := by decide +kernel
theorem dX12_readsLoan_13 : decode cX12_readsLoan 13 = .ok (.invokevirtual 141, 3) := by decide +kernel
theorem dX12_readsLoan_16 : decode cX12_readsLoan 16 = .ok (.ireturn, 1) := by decide +kernel
theorem dX12_readsLoan_17 : decode cX12_readsLoan 17 = .ok (.aload_n 0, 1) := by decide +kernel
theorem dX12_readsLoan_18 : decode cX12_readsLoan 18 = .ok (.getfield 263, 3) := by decide +kernel
theorem dX12_readsLoan_21 : decode cX12_readsLoan 21 = .ok (.bipush 24, 2) := by decide +kernel
theorem dX12_readsLoan_23 : decode cX12_readsLoan 23 = .ok (.if_icmp .ne 13, 3) := by decide +kernel
theorem dX12_readsLoan_26 : decode cX12_readsLoan 26 = .ok (.aload_n 0, 1) := by decide +kernel
theorem dX12_readsLoan_27 : decode cX12_readsLoan 27 = .ok (.iconst 4, 1) := by decide +kernel
theorem dX12_readsLoan_28 : decode cX12_readsLoan 28 = .ok (.aload_n 0, 1) := by decide +kernel
theorem dX12_readsLoan_29 : decode cX12_readsLoan 29 = .ok (.getfield 128, 3) := by decide +kernel
theorem dX12_readsLoan_32 : decode cX12_readsLoan 32 = .ok (.invokevirtual 141, 3) := by decide +kernel
theorem dX12_readsLoan_35 : decode cX12_readsLoan 35 = .ok (.ireturn, 1) := by decide +kernel
theorem dX12_readsLoan_36 : decode cX12_readsLoan 36 = .ok (.iconst 5, 1) := by decide +kernel
theorem dX12_readsLoan_37 : decode cX12_readsLoan 37 = .ok (.aload_n 0, 1) := by decide +kernel
theorem dX12_readsLoan_38 : decode cX12_readsLoan 38 = .ok (.getfield 263, 3) := by decide +kernel
theorem dX12_readsLoan_41 : decode cX12_readsLoan 41 = .ok (.imul, 1) := by decide +kernel
theorem dX12_readsLoan_42 : decode cX12_readsLoan 42 = .ok (.istore_n 1, 1) := by decide +kernel
theorem dX12_readsLoan_43 : decode cX12_readsLoan 43 = .ok (.aload_n 0, 1) := by decide +kernel
theorem dX12_readsLoan_44 : decode cX12_readsLoan 44 = .ok (.aload_n 0, 1) := by decide +kernel
theorem dX12_readsLoan_45 : decode cX12_readsLoan 45 = .ok (.getfield 263, 3) := by decide +kernel
theorem dX12_readsLoan_48 : decode cX12_readsLoan 48 = .ok (.iconst 1, 1) := by decide +kernel
theorem dX12_readsLoan_49 : decode cX12_readsLoan 49 = .ok (.iadd, 1) := by decide +kernel
theorem dX12_readsLoan_50 : decode cX12_readsLoan 50 = .ok (.putfield 263, 3) := by decide +kernel
theorem dX12_readsLoan_53 : decode cX12_readsLoan 53 = .ok (.aload_n 0, 1) := by decide +kernel
theorem dX12_readsLoan_54 : decode cX12_readsLoan 54 = .ok (.invokevirtual 134, 3) := by decide +kernel
theorem dX12_readsLoan_57 : decode cX12_readsLoan 57 = .ok (.bipush 97, 2) := by decide +kernel
theorem dX12_readsLoan_59 : decode cX12_readsLoan 59 = .ok (.isub, 1) := by decide +kernel
theorem dX12_readsLoan_60 : decode cX12_readsLoan 60 = .ok (.istore_n 2, 1) := by decide +kernel
theorem dX12_readsLoan_61 : decode cX12_readsLoan 61 = .ok (.aload_n 0, 1) := by decide +kernel
theorem dX12_readsLoan_62 : decode cX12_readsLoan 62 = .ok (.iload_n 2, 1) := by decide +kernel
theorem dX12_readsLoan_63 : decode cX12_readsLoan 63 = .ok (.invokevirtual 111, 3) := by decide +kernel
theorem dX12_readsLoan_66 : decode cX12_readsLoan 66 = .ok (.ifCond .ne 14, 3) := by decide +kernel
theorem dX12_readsLoan_69 : decode cX12_readsLoan 69 = .ok (.aload_n 0, 1) := by decide +kernel
theorem dX12_readsLoan_70 : decode cX12_readsLoan 70 = .ok (.bipush 7, 2) := by decide +kernel
theorem dX12_readsLoan_72 : decode cX12_readsLoan 72 = .ok (.aload_n 0, 1) := by decide +kernel
theorem dX12_readsLoan_73 : decode cX12_readsLoan 73 = .ok (.getfield 128, 3) := by decide +kernel
theorem dX12_readsLoan_76 : decode cX12_readsLoan 76 = .ok (.invokevirtual 141, 3) := by decide +kernel
theorem dX12_readsLoan_79 : decode cX12_readsLoan 79 = .ok (.ireturn, 1) := by decide +kernel
theorem dX12_readsLoan_80 : decode cX12_readsLoan 80 = .ok (.aload_n 0, 1) := by decide +kernel
theorem dX12_readsLoan_81 : decode cX12_readsLoan 81 = .ok (.aload_n 0, 1) := by decide +kernel
theorem dX12_readsLoan_82 : decode cX12_readsLoan 82 = .ok (.getfield 128, 3) := by decide +kernel
theorem dX12_readsLoan_85 : decode cX12_readsLoan 85 = .ok (.iconst 1, 1) := by decide +kernel
theorem dX12_readsLoan_86 : decode cX12_readsLoan 86 = .ok (.iadd, 1) := by decide +kernel
theorem dX12_readsLoan_87 : decode cX12_readsLoan 87 = .ok (.putfield 128, 3) := by decide +kernel
theorem dX12_readsLoan_90 : decode cX12_readsLoan 90 = .ok (.aload_n 0, 1) := by decide +kernel
theorem dX12_readsLoan_91 : decode cX12_readsLoan 91 = .ok (.bipush 62, 2) := by decide +kernel
theorem dX12_readsLoan_93 : decode cX12_readsLoan 93 = .ok (.invokevirtual 219, 3) := by decide +kernel
theorem dX12_readsLoan_96 : decode cX12_readsLoan 96 = .ok (.ifCond .ne 5, 3) := by decide +kernel
theorem dX12_readsLoan_99 : decode cX12_readsLoan 99 = .ok (.iconst 0, 1) := by decide +kernel
theorem dX12_readsLoan_100 : decode cX12_readsLoan 100 = .ok (.ireturn, 1) := by decide +kernel
theorem dX12_readsLoan_101 : decode cX12_readsLoan 101 = .ok (.aload_n 0, 1) := by decide +kernel
theorem dX12_readsLoan_102 : decode cX12_readsLoan 102 = .ok (.invokevirtual 260, 3) := by decide +kernel
theorem dX12_readsLoan_105 : decode cX12_readsLoan 105 = .ok (.ifCond .ne 13, 3) := by decide +kernel
theorem dX12_readsLoan_108 : decode cX12_readsLoan 108 = .ok (.aload_n 0, 1) := by decide +kernel
theorem dX12_readsLoan_109 : decode cX12_readsLoan 109 = .ok (.iconst 1, 1) := by decide +kernel
theorem dX12_readsLoan_110 : decode cX12_readsLoan 110 = .ok (.aload_n 0, 1) := by decide +kernel
theorem dX12_readsLoan_111 : decode cX12_readsLoan 111 = .ok (.getfield 128, 3) := by decide +kernel
theorem dX12_readsLoan_114 : decode cX12_readsLoan 114 = .ok (.invokevirtual 141, 3) := by decide +kernel
theorem dX12_readsLoan_117 : decode cX12_readsLoan 117 = .ok (.ireturn, 1) := by decide +kernel
theorem dX12_readsLoan_118 : decode cX12_readsLoan 118 = .ok (.aload_n 0, 1) := by decide +kernel
theorem dX12_readsLoan_119 : decode cX12_readsLoan 119 = .ok (.invokevirtual 134, 3) := by decide +kernel
theorem dX12_readsLoan_122 : decode cX12_readsLoan 122 = .ok (.bipush 97, 2) := by decide +kernel
theorem dX12_readsLoan_124 : decode cX12_readsLoan 124 = .ok (.isub, 1) := by decide +kernel
theorem dX12_readsLoan_125 : decode cX12_readsLoan 125 = .ok (.istore_n 3, 1) := by decide +kernel
theorem dX12_readsLoan_126 : decode cX12_readsLoan 126 = .ok (.iload_n 3, 1) := by decide +kernel
theorem dX12_readsLoan_127 : decode cX12_readsLoan 127 = .ok (.iload_n 2, 1) := by decide +kernel
theorem dX12_readsLoan_128 : decode cX12_readsLoan 128 = .ok (.if_icmp .ne 14, 3) := by decide +kernel
theorem dX12_readsLoan_131 : decode cX12_readsLoan 131 = .ok (.aload_n 0, 1) := by decide +kernel
theorem dX12_readsLoan_132 : decode cX12_readsLoan 132 = .ok (.bipush 6, 2) := by decide +kernel
theorem dX12_readsLoan_134 : decode cX12_readsLoan 134 = .ok (.aload_n 0, 1) := by decide +kernel
theorem dX12_readsLoan_135 : decode cX12_readsLoan 135 = .ok (.getfield 128, 3) := by decide +kernel
theorem dX12_readsLoan_138 : decode cX12_readsLoan 138 = .ok (.invokevirtual 141, 3) := by decide +kernel
theorem dX12_readsLoan_141 : decode cX12_readsLoan 141 = .ok (.ireturn, 1) := by decide +kernel
theorem dX12_readsLoan_142 : decode cX12_readsLoan 142 = .ok (.aload_n 0, 1) := by decide +kernel
theorem dX12_readsLoan_143 : decode cX12_readsLoan 143 = .ok (.iload_n 3, 1) := by decide +kernel
theorem dX12_readsLoan_144 : decode cX12_readsLoan 144 = .ok (.invokevirtual 111, 3) := by decide +kernel
theorem dX12_readsLoan_147 : decode cX12_readsLoan 147 = .ok (.ifCond .ne 14, 3) := by decide +kernel
theorem dX12_readsLoan_150 : decode cX12_readsLoan 150 = .ok (.aload_n 0, 1) := by decide +kernel
theorem dX12_readsLoan_151 : decode cX12_readsLoan 151 = .ok (.bipush 7, 2) := by decide +kernel
theorem dX12_readsLoan_153 : decode cX12_readsLoan 153 = .ok (.aload_n 0, 1) := by decide +kernel
theorem dX12_readsLoan_154 : decode cX12_readsLoan 154 = .ok (.getfield 128, 3) := by decide +kernel
theorem dX12_readsLoan_157 : decode cX12_readsLoan 157 = .ok (.invokevirtual 141, 3) := by decide +kernel
theorem dX12_readsLoan_160 : decode cX12_readsLoan 160 = .ok (.ireturn, 1) := by decide +kernel
theorem dX12_readsLoan_161 : decode cX12_readsLoan 161 = .ok (.aload_n 0, 1) := by decide +kernel
theorem dX12_readsLoan_162 : decode cX12_readsLoan 162 = .ok (.aload_n 0, 1) := by decide +kernel
theorem dX12_readsLoan_163 : decode cX12_readsLoan 163 = .ok (.getfield 128, 3) := by decide +kernel
theorem dX12_readsLoan_166 : decode cX12_readsLoan 166 = .ok (.iconst 1, 1) := by decide +kernel
theorem dX12_readsLoan_167 : decode cX12_readsLoan 167 = .ok (.iadd, 1) := by decide +kernel
theorem dX12_readsLoan_168 : decode cX12_readsLoan 168 = .ok (.putfield 128, 3) := by decide +kernel
theorem dX12_readsLoan_171 : decode cX12_readsLoan 171 = .ok (.aload_n 0, 1) := by decide +kernel
theorem dX12_readsLoan_172 : decode cX12_readsLoan 172 = .ok (.getfield 128, 3) := by decide +kernel
theorem dX12_readsLoan_175 : decode cX12_readsLoan 175 = .ok (.istore 4, 2) := by decide +kernel
theorem dX12_readsLoan_177 : decode cX12_readsLoan 177 = .ok (.aload_n 0, 1) := by decide +kernel
theorem dX12_readsLoan_178 : decode cX12_readsLoan 178 = .ok (.bipush 6, 2) := by decide +kernel
theorem dX12_readsLoan_180 : decode cX12_readsLoan 180 = .ok (.invokevirtual 257, 3) := by decide +kernel
theorem dX12_readsLoan_183 : decode cX12_readsLoan 183 = .ok (.ifCond .ne 5, 3) := by decide +kernel
theorem dX12_readsLoan_186 : decode cX12_readsLoan 186 = .ok (.iconst 0, 1) := by decide +kernel
theorem dX12_readsLoan_187 : decode cX12_readsLoan 187 = .ok (.ireturn, 1) := by decide +kernel
theorem dX12_readsLoan_188 : decode cX12_readsLoan 188 = .ok (.aload_n 0, 1) := by decide +kernel
theorem dX12_readsLoan_189 : decode cX12_readsLoan 189 = .ok (.getfield 145, 3) := by decide +kernel
theorem dX12_readsLoan_192 : decode cX12_readsLoan 192 = .ok (.ifCond .ne 11, 3) := by decide +kernel
theorem dX12_readsLoan_195 : decode cX12_readsLoan 195 = .ok (.aload_n 0, 1) := by decide +kernel
theorem dX12_readsLoan_196 : decode cX12_readsLoan 196 = .ok (.iconst 3, 1) := by decide +kernel
theorem dX12_readsLoan_197 : decode cX12_readsLoan 197 = .ok (.iload 4, 2) := by decide +kernel
theorem dX12_readsLoan_199 : decode cX12_readsLoan 199 = .ok (.invokevirtual 141, 3) := by decide +kernel
theorem dX12_readsLoan_202 : decode cX12_readsLoan 202 = .ok (.ireturn, 1) := by decide +kernel
theorem dX12_readsLoan_203 : decode cX12_readsLoan 203 = .ok (.aload_n 0, 1) := by decide +kernel
theorem dX12_readsLoan_204 : decode cX12_readsLoan 204 = .ok (.getfield 80, 3) := by decide +kernel
theorem dX12_readsLoan_207 : decode cX12_readsLoan 207 = .ok (.iload_n 1, 1) := by decide +kernel
theorem dX12_readsLoan_208 : decode cX12_readsLoan 208 = .ok (.iload_n 2, 1) := by decide +kernel
theorem dX12_readsLoan_209 : decode cX12_readsLoan 209 = .ok (.iastore, 1) := by decide +kernel
theorem dX12_readsLoan_210 : decode cX12_readsLoan 210 = .ok (.aload_n 0, 1) := by decide +kernel
theorem dX12_readsLoan_211 : decode cX12_readsLoan 211 = .ok (.getfield 80, 3) := by decide +kernel
theorem dX12_readsLoan_214 : decode cX12_readsLoan 214 = .ok (.iload_n 1, 1) := by decide +kernel
theorem dX12_readsLoan_215 : decode cX12_readsLoan 215 = .ok (.iconst 1, 1) := by decide +kernel
theorem dX12_readsLoan_216 : decode cX12_readsLoan 216 = .ok (.iadd, 1) := by decide +kernel
theorem dX12_readsLoan_217 : decode cX12_readsLoan 217 = .ok (.iload_n 3, 1) := by decide +kernel
theorem dX12_readsLoan_218 : decode cX12_readsLoan 218 = .ok (.iastore, 1) := by decide +kernel
theorem dX12_readsLoan_219 : decode cX12_readsLoan 219 = .ok (.aload_n 0, 1) := by decide +kernel
theorem dX12_readsLoan_220 : decode cX12_readsLoan 220 = .ok (.getfield 80, 3) := by decide +kernel
theorem dX12_readsLoan_223 : decode cX12_readsLoan 223 = .ok (.iload_n 1, 1) := by decide +kernel
theorem dX12_readsLoan_224 : decode cX12_readsLoan 224 = .ok (.iconst 2, 1) := by decide +kernel
theorem dX12_readsLoan_225 : decode cX12_readsLoan 225 = .ok (.iadd, 1) := by decide +kernel
theorem dX12_readsLoan_226 : decode cX12_readsLoan 226 = .ok (.aload_n 0, 1) := by decide +kernel
theorem dX12_readsLoan_227 : decode cX12_readsLoan 227 = .ok (.getfield 145, 3) := by decide +kernel
theorem dX12_readsLoan_230 : decode cX12_readsLoan 230 = .ok (.iastore, 1) := by decide +kernel
theorem dX12_readsLoan_231 : decode cX12_readsLoan 231 = .ok (.aload_n 0, 1) := by decide +kernel
theorem dX12_readsLoan_232 : decode cX12_readsLoan 232 = .ok (.bipush 64, 2) := by decide +kernel
theorem dX12_readsLoan_234 : decode cX12_readsLoan 234 = .ok (.iconst 2, 1) := by decide +kernel
theorem dX12_readsLoan_235 : decode cX12_readsLoan 235 = .ok (.invokevirtual 266, 3) := by decide +kernel
theorem dX12_readsLoan_238 : decode cX12_readsLoan 238 = .ok (.ifCond .ne 5, 3) := by decide +kernel
theorem dX12_readsLoan_241 : decode cX12_readsLoan 241 = .ok (.iconst 0, 1) := by decide +kernel
theorem dX12_readsLoan_242 : decode cX12_readsLoan 242 = .ok (.ireturn, 1) := by decide +kernel
theorem dX12_readsLoan_243 : decode cX12_readsLoan 243 = .ok (.aload_n 0, 1) := by decide +kernel
theorem dX12_readsLoan_244 : decode cX12_readsLoan 244 = .ok (.getfield 80, 3) := by decide +kernel
theorem dX12_readsLoan_247 : decode cX12_readsLoan 247 = .ok (.iload_n 1, 1) := by decide +kernel
theorem dX12_readsLoan_248 : decode cX12_readsLoan 248 = .ok (.iconst 3, 1) := by decide +kernel
theorem dX12_readsLoan_249 : decode cX12_readsLoan 249 = .ok (.iadd, 1) := by decide +kernel
theorem dX12_readsLoan_250 : decode cX12_readsLoan 250 = .ok (.aload_n 0, 1) := by decide +kernel
theorem dX12_readsLoan_251 : decode cX12_readsLoan 251 = .ok (.getfield 145, 3) := by decide +kernel
theorem dX12_readsLoan_254 : decode cX12_readsLoan 254 = .ok (.iastore, 1) := by decide +kernel
theorem dX12_readsLoan_255 : decode cX12_readsLoan 255 = .ok (.aload_n 0, 1) := by decide +kernel
theorem dX12_readsLoan_256 : decode cX12_readsLoan 256 = .ok (.bipush 47, 2) := by decide +kernel
theorem dX12_readsLoan_258 : decode cX12_readsLoan 258 = .ok (.iconst 4, 1) := by decide +kernel
theorem dX12_readsLoan_259 : decode cX12_readsLoan 259 = .ok (.invokevirtual 266, 3) := by decide +kernel
theorem dX12_readsLoan_262 : decode cX12_readsLoan 262 = .ok (.ifCond .ne 5, 3) := by decide +kernel
theorem dX12_readsLoan_265 : decode cX12_readsLoan 265 = .ok (.iconst 0, 1) := by decide +kernel
theorem dX12_readsLoan_266 : decode cX12_readsLoan 266 = .ok (.ireturn, 1) := by decide +kernel
theorem dX12_readsLoan_267 : decode cX12_readsLoan 267 = .ok (.aload_n 0, 1) := by decide +kernel
theorem dX12_readsLoan_268 : decode cX12_readsLoan 268 = .ok (.getfield 80, 3) := by decide +kernel
theorem dX12_readsLoan_271 : decode cX12_readsLoan 271 = .ok (.iload_n 1, 1) := by decide +kernel
theorem dX12_readsLoan_272 : decode cX12_readsLoan 272 = .ok (.iconst 4, 1) := by decide +kernel
theorem dX12_readsLoan_273 : decode cX12_readsLoan 273 = .ok (.iadd, 1) := by decide +kernel
theorem dX12_readsLoan_274 : decode cX12_readsLoan 274 = .ok (.aload_n 0, 1) := by decide +kernel
theorem dX12_readsLoan_275 : decode cX12_readsLoan 275 = .ok (.getfield 145, 3) := by decide +kernel
theorem dX12_readsLoan_278 : decode cX12_readsLoan 278 = .ok (.iastore, 1) := by decide +kernel
theorem dX12_readsLoan_279 : decode cX12_readsLoan 279 = .ok (.iconst 1, 1) := by decide +kernel
theorem dX12_readsLoan_280 : decode cX12_readsLoan 280 = .ok (.ireturn, 1) := by decide +kernel
theorem dX12_ledger_0 : decode cX12_ledger 0 = .ok (.iload_n 1, 1) := by decide +kernel
theorem dX12_ledger_1 : decode cX12_ledger 1 = .ok (.iconst 1, 1) := by decide +kernel
theorem dX12_ledger_2 : decode cX12_ledger 2 = .ok (.sipush 200, 3) := by decide +kernel
theorem dX12_ledger_5 : decode cX12_ledger 5 = .ok (.invokestatic 107, 3) := by decide +kernel
theorem dX12_ledger_8 : decode cX12_ledger 8 = .ok (.ifCond .eq 11, 3) := by decide +kernel
theorem dX12_ledger_11 : decode cX12_ledger 11 = .ok (.iload_n 1, 1) := by decide +kernel
theorem dX12_ledger_12 : decode cX12_ledger 12 = .ok (.aload_n 0, 1) := by decide +kernel
theorem dX12_ledger_13 : decode cX12_ledger 13 = .ok (.getfield 120, 3) := by decide +kernel
theorem dX12_ledger_16 : decode cX12_ledger 16 = .ok (.if_icmp .le 5, 3) := by decide +kernel
theorem dX12_ledger_19 : decode cX12_ledger 19 = .ok (.iconst (-1), 1) := by decide +kernel
theorem dX12_ledger_20 : decode cX12_ledger 20 = .ok (.ireturn, 1) := by decide +kernel
theorem dX12_ledger_21 : decode cX12_ledger 21 = .ok (.aload_n 0, 1) := by decide +kernel
theorem dX12_ledger_22 : decode cX12_ledger 22 = .ok (.iload_n 1, 1) := by decide +kernel
theorem dX12_ledger_23 : decode cX12_ledger 23 = .ok (.invokevirtual 213, 3) := by decide +kernel
theorem dX12_ledger_26 : decode cX12_ledger 26 = .ok (.aload_n 0, 1) := by decide +kernel
theorem dX12_ledger_27 : decode cX12_ledger 27 = .ok (.iconst 0, 1) := by decide +kernel
theorem dX12_ledger_28 : decode cX12_ledger 28 = .ok (.putfield 263, 3) := by decide +kernel
theorem dX12_ledger_31 : decode cX12_ledger 31 = .ok (.aload_n 0, 1) := by decide +kernel
theorem dX12_ledger_32 : decode cX12_ledger 32 = .ok (.invokevirtual 269, 3) := by decide +kernel
theorem dX12_ledger_35 : decode cX12_ledger 35 = .ok (.istore_n 2, 1) := by decide +kernel
theorem dX12_ledger_36 : decode cX12_ledger 36 = .ok (.iload_n 2, 1) := by decide +kernel
theorem dX12_ledger_37 : decode cX12_ledger 37 = .ok (.ifCond .eq 39, 3) := by decide +kernel
theorem dX12_ledger_40 : decode cX12_ledger 40 = .ok (.aload_n 0, 1) := by decide +kernel
theorem dX12_ledger_41 : decode cX12_ledger 41 = .ok (.getfield 128, 3) := by decide +kernel
theorem dX12_ledger_44 : decode cX12_ledger 44 = .ok (.aload_n 0, 1) := by decide +kernel
theorem dX12_ledger_45 : decode cX12_ledger 45 = .ok (.getfield 131, 3) := by decide +kernel
theorem dX12_ledger_48 : decode cX12_ledger 48 = .ok (.if_icmp .ge 28, 3) := by decide +kernel
theorem dX12_ledger_51 : decode cX12_ledger 51 = .ok (.aload_n 0, 1) := by decide +kernel
theorem dX12_ledger_52 : decode cX12_ledger 52 = .ok (.bipush 59, 2) := by decide +kernel
theorem dX12_ledger_54 : decode cX12_ledger 54 = .ok (.invokevirtual 219, 3) := by decide +kernel
theorem dX12_ledger_57 : decode cX12_ledger 57 = .ok (.ifCond .eq 14, 3) := by decide +kernel
theorem dX12_ledger_60 : decode cX12_ledger 60 = .ok (.aload_n 0, 1) := by decide +kernel
theorem dX12_ledger_61 : decode cX12_ledger 61 = .ok (.invokevirtual 269, 3) := by decide +kernel
theorem dX12_ledger_64 : decode cX12_ledger 64 = .ok (.ifCond .eq 7, 3) := by decide +kernel
theorem dX12_ledger_67 : decode cX12_ledger 67 = .ok (.iconst 1, 1) := by decide +kernel
theorem dX12_ledger_68 : decode cX12_ledger 68 = .ok (.goto 4, 3) := by decide +kernel
theorem dX12_ledger_71 : decode cX12_ledger 71 = .ok (.iconst 0, 1) := by decide +kernel
theorem dX12_ledger_72 : decode cX12_ledger 72 = .ok (.istore_n 2, 1) := by decide +kernel
theorem dX12_ledger_73 : decode cX12_ledger 73 = .ok (.goto (-37), 3) := by decide +kernel
theorem dX12_ledger_76 : decode cX12_ledger 76 = .ok (.aload_n 0, 1) := by decide +kernel
theorem dX12_ledger_77 : decode cX12_ledger 77 = .ok (.iconst 0, 1) := by decide +kernel
theorem dX12_ledger_78 : decode cX12_ledger 78 = .ok (.putfield 120, 3) := by decide +kernel
theorem dX12_ledger_81 : decode cX12_ledger 81 = .ok (.iload_n 2, 1) := by decide +kernel
theorem dX12_ledger_82 : decode cX12_ledger 82 = .ok (.ifCond .ne 8, 3) := by decide +kernel
theorem dX12_ledger_85 : decode cX12_ledger 85 = .ok (.aload_n 0, 1) := by decide +kernel
theorem dX12_ledger_86 : decode cX12_ledger 86 = .ok (.getfield 138, 3) := by decide +kernel
theorem dX12_ledger_89 : decode cX12_ledger 89 = .ok (.ireturn, 1) := by decide +kernel
theorem dX12_ledger_90 : decode cX12_ledger 90 = .ok (.aload_n 0, 1) := by decide +kernel
theorem dX12_ledger_91 : decode cX12_ledger 91 = .ok (.getfield 7, 3) := by decide +kernel
theorem dX12_ledger_94 : decode cX12_ledger 94 = .ok (.sipush 208, 3) := by decide +kernel
theorem dX12_ledger_97 : decode cX12_ledger 97 = .ok (.aload_n 0, 1) := by decide +kernel
theorem dX12_ledger_98 : decode cX12_ledger 98 = .ok (.getfield 263, 3) := by decide +kernel
theorem dX12_ledger_101 : decode cX12_ledger 101 = .ok (.iastore, 1) := by decide +kernel
theorem dX12_ledger_102 : decode cX12_ledger 102 = .ok (.iconst 0, 1) := by decide +kernel
theorem dX12_ledger_103 : decode cX12_ledger 103 = .ok (.istore_n 3, 1) := by decide +kernel
theorem dX12_ledger_104 : decode cX12_ledger 104 = .ok (.iload_n 3, 1) := by decide +kernel
theorem dX12_ledger_105 : decode cX12_ledger 105 = .ok (.aload_n 0, 1) := by decide +kernel
theorem dX12_ledger_106 : decode cX12_ledger 106 = .ok (.getfield 263, 3) := by decide +kernel
theorem dX12_ledger_109 : decode cX12_ledger 109 = .ok (.if_icmp .ge 69, 3) := by decide +kernel
theorem dX12_ledger_112 : decode cX12_ledger 112 = .ok (.iconst 0, 1) := by decide +kernel
theorem dX12_ledger_113 : decode cX12_ledger 113 = .ok (.istore 4, 2) := by decide +kernel
theorem dX12_ledger_115 : decode cX12_ledger 115 = .ok (.iload 4, 2) := by decide +kernel
theorem dX12_ledger_117 : decode cX12_ledger 117 = .ok (.iconst 5, 1) := by decide +kernel
theorem dX12_ledger_118 : decode cX12_ledger 118 = .ok (.if_icmp .ge 35, 3) := by decide +kernel
theorem dX12_ledger_121 : decode cX12_ledger 121 = .ok (.aload_n 0, 1) := by decide +kernel
theorem dX12_ledger_122 : decode cX12_ledger 122 = .ok (.getfield 7, 3) := by decide +kernel
theorem dX12_ledger_125 : decode cX12_ledger 125 = .ok (.bipush 64, 2) := by decide +kernel
theorem dX12_ledger_127 : decode cX12_ledger 127 = .ok (.bipush 24, 2) := by decide +kernel
theorem dX12_ledger_129 : decode cX12_ledger 129 = .ok (.iload 4, 2) := by decide +kernel
theorem dX12_ledger_131 : decode cX12_ledger 131 = .ok (.imul, 1) := by decide +kernel
theorem dX12_ledger_132 : decode cX12_ledger 132 = .ok (.iadd, 1) := by decide +kernel
theorem dX12_ledger_133 : decode cX12_ledger 133 = .ok (.iload_n 3, 1) := by decide +kernel
theorem dX12_ledger_134 : decode cX12_ledger 134 = .ok (.iadd, 1) := by decide +kernel
theorem dX12_ledger_135 : decode cX12_ledger 135 = .ok (.aload_n 0, 1) := by decide +kernel
theorem dX12_ledger_136 : decode cX12_ledger 136 = .ok (.getfield 80, 3) := by decide +kernel
theorem dX12_ledger_139 : decode cX12_ledger 139 = .ok (.iconst 5, 1) := by decide +kernel
theorem dX12_ledger_140 : decode cX12_ledger 140 = .ok (.iload_n 3, 1) := by decide +kernel
theorem dX12_ledger_141 : decode cX12_ledger 141 = .ok (.imul, 1) := by decide +kernel
theorem dX12_ledger_142 : decode cX12_ledger 142 = .ok (.iload 4, 2) := by decide +kernel
theorem dX12_ledger_144 : decode cX12_ledger 144 = .ok (.iadd, 1) := by decide +kernel
theorem dX12_ledger_145 : decode cX12_ledger 145 = .ok (.iaload, 1) := by decide +kernel
theorem dX12_ledger_146 : decode cX12_ledger 146 = .ok (.iastore, 1) := by decide +kernel
theorem dX12_ledger_147 : decode cX12_ledger 147 = .ok (.iinc 4 1, 3) := by decide +kernel
theorem dX12_ledger_150 : decode cX12_ledger 150 = .ok (.goto (-35), 3) := by decide +kernel
theorem dX12_ledger_153 : decode cX12_ledger 153 = .ok (.aload_n 0, 1) := by decide +kernel
theorem dX12_ledger_154 : decode cX12_ledger 154 = .ok (.getfield 7, 3) := by decide +kernel
theorem dX12_ledger_157 : decode cX12_ledger 157 = .ok (.sipush 184, 3) := by decide +kernel
theorem dX12_ledger_160 : decode cX12_ledger 160 = .ok (.iload_n 3, 1) := by decide +kernel
theorem dX12_ledger_161 : decode cX12_ledger 161 = .ok (.iadd, 1) := by decide +kernel
theorem dX12_ledger_162 : decode cX12_ledger 162 = .ok (.aload_n 0, 1) := by decide +kernel
theorem dX12_ledger_163 : decode cX12_ledger 163 = .ok (.getfield 7, 3) := by decide +kernel
theorem dX12_ledger_166 : decode cX12_ledger 166 = .ok (.bipush 112, 2) := by decide +kernel
theorem dX12_ledger_168 : decode cX12_ledger 168 = .ok (.iload_n 3, 1) := by decide +kernel
theorem dX12_ledger_169 : decode cX12_ledger 169 = .ok (.iadd, 1) := by decide +kernel
theorem dX12_ledger_170 : decode cX12_ledger 170 = .ok (.iaload, 1) := by decide +kernel
theorem dX12_ledger_171 : decode cX12_ledger 171 = .ok (.iastore, 1) := by decide +kernel
theorem dX12_ledger_172 : decode cX12_ledger 172 = .ok (.iinc 3 1, 3) := by decide +kernel
theorem dX12_ledger_175 : decode cX12_ledger 175 = .ok (.goto (-71), 3) := by decide +kernel
theorem dX12_ledger_178 : decode cX12_ledger 178 = .ok (.aload_n 0, 1) := by decide +kernel
theorem dX12_ledger_179 : decode cX12_ledger 179 = .ok (.getfield 263, 3) := by decide +kernel
theorem dX12_ledger_182 : decode cX12_ledger 182 = .ok (.ireturn, 1) := by decide +kernel
theorem dX12_debtsOf_0 : decode cX12_debtsOf 0 = .ok (.iconst 0, 1) := by decide +kernel
theorem dX12_debtsOf_1 : decode cX12_debtsOf 1 = .ok (.istore_n 2, 1) := by decide +kernel
theorem dX12_debtsOf_2 : decode cX12_debtsOf 2 = .ok (.iconst 0, 1) := by decide +kernel
theorem dX12_debtsOf_3 : decode cX12_debtsOf 3 = .ok (.istore_n 3, 1) := by decide +kernel
theorem dX12_debtsOf_4 : decode cX12_debtsOf 4 = .ok (.iload_n 3, 1) := by decide +kernel
theorem dX12_debtsOf_5 : decode cX12_debtsOf 5 = .ok (.aload_n 0, 1) := by decide +kernel
theorem dX12_debtsOf_6 : decode cX12_debtsOf 6 = .ok (.getfield 7, 3) := by decide +kernel
theorem dX12_debtsOf_9 : decode cX12_debtsOf 9 = .ok (.sipush 208, 3) := by decide +kernel
theorem dX12_debtsOf_12 : decode cX12_debtsOf 12 = .ok (.iaload, 1) := by decide +kernel
theorem dX12_debtsOf_13 : decode cX12_debtsOf 13 = .ok (.if_icmp .ge 39, 3) := by decide +kernel
theorem dX12_debtsOf_16 : decode cX12_debtsOf 16 = .ok (.aload_n 0, 1) := by decide +kernel
theorem dX12_debtsOf_17 : decode cX12_debtsOf 17 = .ok (.getfield 7, 3) := by decide +kernel
theorem dX12_debtsOf_20 : decode cX12_debtsOf 20 = .ok (.bipush 88, 2) := by decide +kernel
theorem dX12_debtsOf_22 : decode cX12_debtsOf 22 = .ok (.iload_n 3, 1) := by decide +kernel
theorem dX12_debtsOf_23 : decode cX12_debtsOf 23 = .ok (.iadd, 1) := by decide +kernel
theorem dX12_debtsOf_24 : decode cX12_debtsOf 24 = .ok (.iaload, 1) := by decide +kernel
theorem dX12_debtsOf_25 : decode cX12_debtsOf 25 = .ok (.iload_n 1, 1) := by decide +kernel
theorem dX12_debtsOf_26 : decode cX12_debtsOf 26 = .ok (.if_icmp .ne 20, 3) := by decide +kernel
theorem dX12_debtsOf_29 : decode cX12_debtsOf 29 = .ok (.aload_n 0, 1) := by decide +kernel
theorem dX12_debtsOf_30 : decode cX12_debtsOf 30 = .ok (.getfield 7, 3) := by decide +kernel
theorem dX12_debtsOf_33 : decode cX12_debtsOf 33 = .ok (.sipush 184, 3) := by decide +kernel
theorem dX12_debtsOf_36 : decode cX12_debtsOf 36 = .ok (.iload_n 3, 1) := by decide +kernel
theorem dX12_debtsOf_37 : decode cX12_debtsOf 37 = .ok (.iadd, 1) := by decide +kernel
theorem dX12_debtsOf_38 : decode cX12_debtsOf 38 = .ok (.iaload, 1) := by decide +kernel
theorem dX12_debtsOf_39 : decode cX12_debtsOf 39 = .ok (.ifCond .le 7, 3) := by decide +kernel
theorem dX12_debtsOf_42 : decode cX12_debtsOf 42 = .ok (.iload_n 2, 1) := by decide +kernel
theorem dX12_debtsOf_43 : decode cX12_debtsOf 43 = .ok (.iconst 1, 1) := by decide +kernel
theorem dX12_debtsOf_44 : decode cX12_debtsOf 44 = .ok (.iadd, 1) := by decide +kernel
theorem dX12_debtsOf_45 : decode cX12_debtsOf 45 = .ok (.istore_n 2, 1) := by decide +kernel
theorem dX12_debtsOf_46 : decode cX12_debtsOf 46 = .ok (.iinc 3 1, 3) := by decide +kernel
theorem dX12_debtsOf_49 : decode cX12_debtsOf 49 = .ok (.goto (-45), 3) := by decide +kernel
theorem dX12_debtsOf_52 : decode cX12_debtsOf 52 = .ok (.iload_n 2, 1) := by decide +kernel
theorem dX12_debtsOf_53 : decode cX12_debtsOf 53 = .ok (.ireturn, 1) := by decide +kernel
theorem dX12_feels_0 : decode cX12_feels 0 = .ok (.aload_n 0, 1) := by decide +kernel
theorem dX12_feels_1 : decode cX12_feels 1 = .ok (.getfield 65, 3) := by decide +kernel
theorem dX12_feels_4 : decode cX12_feels 4 = .ok (.iconst 0, 1) := by decide +kernel
theorem dX12_feels_5 : decode cX12_feels 5 = .ok (.iload_n 1, 1) := by decide +kernel
theorem dX12_feels_6 : decode cX12_feels 6 = .ok (.iastore, 1) := by decide +kernel
theorem dX12_feels_7 : decode cX12_feels 7 = .ok (.aload_n 0, 1) := by decide +kernel
theorem dX12_feels_8 : decode cX12_feels 8 = .ok (.getfield 65, 3) := by decide +kernel
theorem dX12_feels_11 : decode cX12_feels 11 = .ok (.iconst 1, 1) := by decide +kernel
theorem dX12_feels_12 : decode cX12_feels 12 = .ok (.aload_n 0, 1) := by decide +kernel
theorem dX12_feels_13 : decode cX12_feels 13 = .ok (.iload_n 1, 1) := by decide +kernel
theorem dX12_feels_14 : decode cX12_feels 14 = .ok (.bipush 23, 2) := by decide +kernel
theorem dX12_feels_16 : decode cX12_feels 16 = .ok (.iload_n 2, 1) := by decide +kernel
theorem dX12_feels_17 : decode cX12_feels 17 = .ok (.invokestatic 272, 3) := by decide +kernel
theorem dX12_feels_20 : decode cX12_feels 20 = .ok (.invokevirtual 275, 3) := by decide +kernel
theorem dX12_feels_23 : decode cX12_feels 23 = .ok (.iastore, 1) := by decide +kernel
theorem dX12_feels_24 : decode cX12_feels 24 = .ok (.aload_n 0, 1) := by decide +kernel
theorem dX12_feels_25 : decode cX12_feels 25 = .ok (.getfield 65, 3) := by decide +kernel
theorem dX12_feels_28 : decode cX12_feels 28 = .ok (.iconst 2, 1) := by decide +kernel
theorem dX12_feels_29 : decode cX12_feels 29 = .ok (.iload_n 2, 1) := by decide +kernel
theorem dX12_feels_30 : decode cX12_feels 30 = .ok (.iastore, 1) := by decide +kernel
theorem dX12_feels_31 : decode cX12_feels 31 = .ok (.aload_n 0, 1) := by decide +kernel
theorem dX12_feels_32 : decode cX12_feels 32 = .ok (.getfield 65, 3) := by decide +kernel
theorem dX12_feels_35 : decode cX12_feels 35 = .ok (.iconst 3, 1) := by decide +kernel
theorem dX12_feels_36 : decode cX12_feels 36 = .ok (.aload_n 0, 1) := by decide +kernel
theorem dX12_feels_37 : decode cX12_feels 37 = .ok (.getfield 7, 3) := by decide +kernel
theorem dX12_feels_40 : decode cX12_feels 40 = .ok (.bipush 32, 2) := by decide +kernel
theorem dX12_feels_42 : decode cX12_feels 42 = .ok (.iload_n 1, 1) := by decide +kernel
theorem dX12_feels_43 : decode cX12_feels 43 = .ok (.iadd, 1) := by decide +kernel
theorem dX12_feels_44 : decode cX12_feels 44 = .ok (.iaload, 1) := by decide +kernel
theorem dX12_feels_45 : decode cX12_feels 45 = .ok (.sipush 365, 3) := by decide +kernel
theorem dX12_feels_48 : decode cX12_feels 48 = .ok (.idiv, 1) := by decide +kernel
theorem dX12_feels_49 : decode cX12_feels 49 = .ok (.iastore, 1) := by decide +kernel
theorem dX12_feels_50 : decode cX12_feels 50 = .ok (.aload_n 0, 1) := by decide +kernel
theorem dX12_feels_51 : decode cX12_feels 51 = .ok (.getfield 65, 3) := by decide +kernel
theorem dX12_feels_54 : decode cX12_feels 54 = .ok (.iconst 4, 1) := by decide +kernel
theorem dX12_feels_55 : decode cX12_feels 55 = .ok (.aload_n 0, 1) := by decide +kernel
theorem dX12_feels_56 : decode cX12_feels 56 = .ok (.getfield 7, 3) := by decide +kernel
theorem dX12_feels_59 : decode cX12_feels 59 = .ok (.bipush 16, 2) := by decide +kernel
theorem dX12_feels_61 : decode cX12_feels 61 = .ok (.iload_n 1, 1) := by decide +kernel
theorem dX12_feels_62 : decode cX12_feels 62 = .ok (.iadd, 1) := by decide +kernel
theorem dX12_feels_63 : decode cX12_feels 63 = .ok (.iaload, 1) := by decide +kernel
theorem dX12_feels_64 : decode cX12_feels 64 = .ok (.sipush 1000, 3) := by decide +kernel
theorem dX12_feels_67 : decode cX12_feels 67 = .ok (.idiv, 1) := by decide +kernel
theorem dX12_feels_68 : decode cX12_feels 68 = .ok (.iastore, 1) := by decide +kernel
theorem dX12_feels_69 : decode cX12_feels 69 = .ok (.aload_n 0, 1) := by decide +kernel
theorem dX12_feels_70 : decode cX12_feels 70 = .ok (.getfield 65, 3) := by decide +kernel
theorem dX12_feels_73 : decode cX12_feels 73 = .ok (.iconst 5, 1) := by decide +kernel
theorem dX12_feels_74 : decode cX12_feels 74 = .ok (.iload_n 3, 1) := by decide +kernel
theorem dX12_feels_75 : decode cX12_feels 75 = .ok (.iastore, 1) := by decide +kernel
theorem dX12_feels_76 : decode cX12_feels 76 = .ok (.aload_n 0, 1) := by decide +kernel
theorem dX12_feels_77 : decode cX12_feels 77 = .ok (.getfield 65, 3) := by decide +kernel
theorem dX12_feels_80 : decode cX12_feels 80 = .ok (.bipush 6, 2) := by decide +kernel
theorem dX12_feels_82 : decode cX12_feels 82 = .ok (.aload_n 0, 1) := by decide +kernel
theorem dX12_feels_83 : decode cX12_feels 83 = .ok (.iload_n 1, 1) := by decide +kernel
theorem dX12_feels_84 : decode cX12_feels 84 = .ok (.invokevirtual 278, 3) := by decide +kernel
theorem dX12_feels_87 : decode cX12_feels 87 = .ok (.iastore, 1) := by decide +kernel
theorem dX12_feels_88 : decode cX12_feels 88 = .ok (.aload_n 0, 1) := by decide +kernel
theorem dX12_feels_89 : decode cX12_feels 89 = .ok (.getfield 65, 3) := by decide +kernel
theorem dX12_feels_92 : decode cX12_feels 92 = .ok (.bipush 7, 2) := by decide +kernel
theorem dX12_feels_94 : decode cX12_feels 94 = .ok (.aload_n 0, 1) := by decide +kernel
theorem dX12_feels_95 : decode cX12_feels 95 = .ok (.getfield 7, 3) := by decide +kernel
theorem dX12_feels_98 : decode cX12_feels 98 = .ok (.sipush 210, 3) := by decide +kernel
theorem dX12_feels_101 : decode cX12_feels 101 = .ok (.iaload, 1) := by decide +kernel
theorem dX12_feels_102 : decode cX12_feels 102 = .ok (.bipush 100, 2) := by decide +kernel
theorem dX12_feels_104 : decode cX12_feels 104 = .ok (.irem, 1) := by decide +kernel
theorem dX12_feels_105 : decode cX12_feels 105 = .ok (.iastore, 1) := by decide +kernel
theorem dX12_feels_106 : decode cX12_feels 106 = .ok (.aload_n 0, 1) := by decide +kernel
theorem dX12_feels_107 : decode cX12_feels 107 = .ok (.getfield 65, 3) := by decide +kernel
theorem dX12_feels_110 : decode cX12_feels 110 = .ok (.bipush 8, 2) := by decide +kernel
theorem dX12_feels_112 : decode cX12_feels 112 = .ok (.iload 4, 2) := by decide +kernel
theorem dX12_feels_114 : decode cX12_feels 114 = .ok (.iastore, 1) := by decide +kernel
theorem dX12_feels_115 : decode cX12_feels 115 = .ok (.return_, 1) := by decide +kernel
theorem dX12_othersDoing_0 : decode cX12_othersDoing 0 = .ok (.iconst 0, 1) := by decide +kernel
theorem dX12_othersDoing_1 : decode cX12_othersDoing 1 = .ok (.istore_n 3, 1) := by decide +kernel
theorem dX12_othersDoing_2 : decode cX12_othersDoing 2 = .ok (.iconst 0, 1) := by decide +kernel
theorem dX12_othersDoing_3 : decode cX12_othersDoing 3 = .ok (.istore 4, 2) := by decide +kernel
theorem dX12_othersDoing_5 : decode cX12_othersDoing 5 = .ok (.iload 4, 2) := by decide +kernel
theorem dX12_othersDoing_7 : decode cX12_othersDoing 7 = .ok (.bipush 16, 2) := by decide +kernel
theorem dX12_othersDoing_9 : decode cX12_othersDoing 9 = .ok (.if_icmp .ge 44, 3) := by decide +kernel
theorem dX12_othersDoing_12 : decode cX12_othersDoing 12 = .ok (.iload 4, 2) := by decide +kernel
theorem dX12_othersDoing_14 : decode cX12_othersDoing 14 = .ok (.iload_n 1, 1) := by decide +kernel
theorem dX12_othersDoing_15 : decode cX12_othersDoing 15 = .ok (.if_icmp .eq 32, 3) := by decide +kernel
theorem dX12_othersDoing_18 : decode cX12_othersDoing 18 = .ok (.aload_n 0, 1) := by decide +kernel
theorem dX12_othersDoing_19 : decode cX12_othersDoing 19 = .ok (.iload 4, 2) := by decide +kernel
theorem dX12_othersDoing_21 : decode cX12_othersDoing 21 = .ok (.invokevirtual 115, 3) := by decide +kernel
theorem dX12_othersDoing_24 : decode cX12_othersDoing 24 = .ok (.ifCond .eq 23, 3) := by decide +kernel
theorem dX12_othersDoing_27 : decode cX12_othersDoing 27 = .ok (.aload_n 0, 1) := by decide +kernel
theorem dX12_othersDoing_28 : decode cX12_othersDoing 28 = .ok (.iload 4, 2) := by decide +kernel
theorem dX12_othersDoing_30 : decode cX12_othersDoing 30 = .ok (.iload_n 2, 1) := by decide +kernel
theorem dX12_othersDoing_31 : decode cX12_othersDoing 31 = .ok (.invokevirtual 275, 3) := by decide +kernel
theorem dX12_othersDoing_34 : decode cX12_othersDoing 34 = .ok (.aload_n 0, 1) := by decide +kernel
theorem dX12_othersDoing_35 : decode cX12_othersDoing 35 = .ok (.iload_n 1, 1) := by decide +kernel
theorem dX12_othersDoing_36 : decode cX12_othersDoing 36 = .ok (.iload_n 2, 1) := by decide +kernel
theorem dX12_othersDoing_37 : decode cX12_othersDoing 37 = .ok (.invokevirtual 275, 3) := by decide +kernel
theorem dX12_othersDoing_40 : decode cX12_othersDoing 40 = .ok (.if_icmp .ne 7, 3) := by decide +kernel
theorem dX12_othersDoing_43 : decode cX12_othersDoing 43 = .ok (.iload_n 3, 1) := by decide +kernel
theorem dX12_othersDoing_44 : decode cX12_othersDoing 44 = .ok (.iconst 1, 1) := by decide +kernel
theorem dX12_othersDoing_45 : decode cX12_othersDoing 45 = .ok (.iadd, 1) := by decide +kernel
theorem dX12_othersDoing_46 : decode cX12_othersDoing 46 = .ok (.istore_n 3, 1) := by decide +kernel
theorem dX12_othersDoing_47 : decode cX12_othersDoing 47 = .ok (.iinc 4 1, 3) := by decide +kernel
theorem dX12_othersDoing_50 : decode cX12_othersDoing 50 = .ok (.goto (-45), 3) := by decide +kernel
theorem dX12_othersDoing_53 : decode cX12_othersDoing 53 = .ok (.iload_n 3, 1) := by decide +kernel
theorem dX12_othersDoing_54 : decode cX12_othersDoing 54 = .ok (.ireturn, 1) := by decide +kernel
theorem dX12_paceNow_0 : decode cX12_paceNow 0 = .ok (.bipush 60, 2) := by decide +kernel
theorem dX12_paceNow_2 : decode cX12_paceNow 2 = .ok (.aload_n 0, 1) := by decide +kernel
theorem dX12_paceNow_3 : decode cX12_paceNow 3 = .ok (.bipush 112, 2) := by decide +kernel
theorem dX12_paceNow_5 : decode cX12_paceNow 5 = .ok (.iconst 1, 1) := by decide +kernel
theorem dX12_paceNow_6 : decode cX12_paceNow 6 = .ok (.sipush 255, 3) := by decide +kernel
theorem dX12_paceNow_9 : decode cX12_paceNow 9 = .ok (.bipush 60, 2) := by decide +kernel
theorem dX12_paceNow_11 : decode cX12_paceNow 11 = .ok (.invokevirtual 281, 3) := by decide +kernel
theorem dX12_paceNow_14 : decode cX12_paceNow 14 = .ok (.imul, 1) := by decide +kernel
theorem dX12_paceNow_15 : decode cX12_paceNow 15 = .ok (.ireturn, 1) := by decide +kernel
theorem dX12_diesNow_0 : decode cX12_diesNow 0 = .ok (.aload_n 0, 1) := by decide +kernel
theorem dX12_diesNow_1 : decode cX12_diesNow 1 = .ok (.getfield 7, 3) := by decide +kernel
theorem dX12_diesNow_4 : decode cX12_diesNow 4 = .ok (.sipush 209, 3) := by decide +kernel
theorem dX12_diesNow_7 : decode cX12_diesNow 7 = .ok (.ldc 118, 2) := by decide +kernel
theorem dX12_diesNow_9 : decode cX12_diesNow 9 = .ok (.aload_n 0, 1) := by decide +kernel
theorem dX12_diesNow_10 : decode cX12_diesNow 10 = .ok (.getfield 7, 3) := by decide +kernel
theorem dX12_diesNow_13 : decode cX12_diesNow 13 = .ok (.sipush 209, 3) := by decide +kernel
theorem dX12_diesNow_16 : decode cX12_diesNow 16 = .ok (.iaload, 1) := by decide +kernel
theorem dX12_diesNow_17 : decode cX12_diesNow 17 = .ok (.aload_n 0, 1) := by decide +kernel
theorem dX12_diesNow_18 : decode cX12_diesNow 18 = .ok (.getfield 7, 3) := by decide +kernel
theorem dX12_diesNow_21 : decode cX12_diesNow 21 = .ok (.bipush 16, 2) := by decide +kernel
theorem dX12_diesNow_23 : decode cX12_diesNow 23 = .ok (.iload_n 1, 1) := by decide +kernel
theorem dX12_diesNow_24 : decode cX12_diesNow 24 = .ok (.iadd, 1) := by decide +kernel
theorem dX12_diesNow_25 : decode cX12_diesNow 25 = .ok (.iaload, 1) := by decide +kernel
theorem dX12_diesNow_26 : decode cX12_diesNow 26 = .ok (.iadd, 1) := by decide +kernel
theorem dX12_diesNow_27 : decode cX12_diesNow 27 = .ok (.invokestatic 272, 3) := by decide +kernel
theorem dX12_diesNow_30 : decode cX12_diesNow 30 = .ok (.iastore, 1) := by decide +kernel
theorem dX12_diesNow_31 : decode cX12_diesNow 31 = .ok (.aload_n 0, 1) := by decide +kernel
theorem dX12_diesNow_32 : decode cX12_diesNow 32 = .ok (.getfield 7, 3) := by decide +kernel
theorem dX12_diesNow_35 : decode cX12_diesNow 35 = .ok (.bipush 16, 2) := by decide +kernel
theorem dX12_diesNow_37 : decode cX12_diesNow 37 = .ok (.iload_n 1, 1) := by decide +kernel
theorem dX12_diesNow_38 : decode cX12_diesNow 38 = .ok (.iadd, 1) := by decide +kernel
theorem dX12_diesNow_39 : decode cX12_diesNow 39 = .ok (.iconst 0, 1) := by decide +kernel
theorem dX12_diesNow_40 : decode cX12_diesNow 40 = .ok (.iastore, 1) := by decide +kernel
theorem dX12_diesNow_41 : decode cX12_diesNow 41 = .ok (.aload_n 0, 1) := by decide +kernel
theorem dX12_diesNow_42 : decode cX12_diesNow 42 = .ok (.getfield 7, 3) := by decide +kernel
theorem dX12_diesNow_45 : decode cX12_diesNow 45 = .ok (.bipush 48, 2) := by decide +kernel
theorem dX12_diesNow_47 : decode cX12_diesNow 47 = .ok (.iload_n 1, 1) := by decide +kernel
theorem dX12_diesNow_48 : decode cX12_diesNow 48 = .ok (.iadd, 1) := by decide +kernel
theorem dX12_diesNow_49 : decode cX12_diesNow 49 = .ok (.iconst 0, 1) := by decide +kernel
theorem dX12_diesNow_50 : decode cX12_diesNow 50 = .ok (.iastore, 1) := by decide +kernel
theorem dX12_diesNow_51 : decode cX12_diesNow 51 = .ok (.aload_n 0, 1) := by decide +kernel
theorem dX12_diesNow_52 : decode cX12_diesNow 52 = .ok (.aload_n 0, 1) := by decide +kernel
theorem dX12_diesNow_53 : decode cX12_diesNow 53 = .ok (.getfield 285, 3) := by decide +kernel
theorem dX12_diesNow_56 : decode cX12_diesNow 56 = .ok (.iconst 1, 1) := by decide +kernel
theorem dX12_diesNow_57 : decode cX12_diesNow 57 = .ok (.iadd, 1) := by decide +kernel
theorem dX12_diesNow_58 : decode cX12_diesNow 58 = .ok (.putfield 285, 3) := by decide +kernel
theorem dX12_diesNow_61 : decode cX12_diesNow 61 = .ok (.return_, 1) := by decide +kernel
theorem dX12_hourOf_0 : decode cX12_hourOf 0 = .ok (.aload_n 0, 1) := by decide +kernel
theorem dX12_hourOf_1 : decode cX12_hourOf 1 = .ok (.getfield 7, 3) := by decide +kernel
theorem dX12_hourOf_4 : decode cX12_hourOf 4 = .ok (.sipush 211, 3) := by decide +kernel
theorem dX12_hourOf_7 : decode cX12_hourOf 7 = .ok (.sipush 25173, 3) := by decide +kernel
theorem dX12_hourOf_10 : decode cX12_hourOf 10 = .ok (.aload_n 0, 1) := by decide +kernel
theorem dX12_hourOf_11 : decode cX12_hourOf 11 = .ok (.getfield 7, 3) := by decide +kernel
theorem dX12_hourOf_14 : decode cX12_hourOf 14 = .ok (.sipush 211, 3) := by decide +kernel
theorem dX12_hourOf_17 : decode cX12_hourOf 17 = .ok (.iaload, 1) := by decide +kernel
theorem dX12_hourOf_18 : decode cX12_hourOf 18 = .ok (.imul, 1) := by decide +kernel
theorem dX12_hourOf_19 : decode cX12_hourOf 19 = .ok (.sipush 13849, 3) := by decide +kernel
theorem dX12_hourOf_22 : decode cX12_hourOf 22 = .ok (.iadd, 1) := by decide +kernel
theorem dX12_hourOf_23 : decode cX12_hourOf 23 = .ok (.ldc_w 288, 3) := by decide +kernel
theorem dX12_hourOf_26 : decode cX12_hourOf 26 = .ok (.irem, 1) := by decide +kernel
theorem dX12_hourOf_27 : decode cX12_hourOf 27 = .ok (.iastore, 1) := by decide +kernel
theorem dX12_hourOf_28 : decode cX12_hourOf 28 = .ok (.aload_n 0, 1) := by decide +kernel
theorem dX12_hourOf_29 : decode cX12_hourOf 29 = .ok (.iload_n 1, 1) := by decide +kernel
theorem dX12_hourOf_30 : decode cX12_hourOf 30 = .ok (.iload_n 2, 1) := by decide +kernel
theorem dX12_hourOf_31 : decode cX12_hourOf 31 = .ok (.aload_n 0, 1) := by decide +kernel
theorem dX12_hourOf_32 : decode cX12_hourOf 32 = .ok (.iload_n 1, 1) := by decide +kernel
theorem dX12_hourOf_33 : decode cX12_hourOf 33 = .ok (.iload_n 2, 1) := by decide +kernel
theorem dX12_hourOf_34 : decode cX12_hourOf 34 = .ok (.invokevirtual 289, 3) := by decide +kernel
theorem dX12_hourOf_37 : decode cX12_hourOf 37 = .ok (.aload_n 0, 1) := by decide +kernel
theorem dX12_hourOf_38 : decode cX12_hourOf 38 = .ok (.getfield 7, 3) := by decide +kernel
theorem dX12_hourOf_41 : decode cX12_hourOf 41 = .ok (.sipush 211, 3) := by decide +kernel
theorem dX12_hourOf_44 : decode cX12_hourOf 44 = .ok (.iaload, 1) := by decide +kernel
theorem dX12_hourOf_45 : decode cX12_hourOf 45 = .ok (.bipush 10, 2) := by decide +kernel
theorem dX12_hourOf_47 : decode cX12_hourOf 47 = .ok (.irem, 1) := by decide +kernel
theorem dX12_hourOf_48 : decode cX12_hourOf 48 = .ok (.invokevirtual 292, 3) := by decide +kernel
theorem dX12_hourOf_51 : decode cX12_hourOf 51 = .ok (.aload_n 0, 1) := by decide +kernel
theorem dX12_hourOf_52 : decode cX12_hourOf 52 = .ok (.invokevirtual 296, 3) := by decide +kernel
theorem dX12_hourOf_55 : decode cX12_hourOf 55 = .ok (.istore_n 3, 1) := by decide +kernel
theorem dX12_hourOf_56 : decode cX12_hourOf 56 = .ok (.aload_n 0, 1) := by decide +kernel
theorem dX12_hourOf_57 : decode cX12_hourOf 57 = .ok (.bipush 120, 2) := by decide +kernel
theorem dX12_hourOf_59 : decode cX12_hourOf 59 = .ok (.invokevirtual 299, 3) := by decide +kernel
theorem dX12_hourOf_62 : decode cX12_hourOf 62 = .ok (.ifCond .ne 40, 3) := by decide +kernel
theorem dX12_hourOf_65 : decode cX12_hourOf 65 = .ok (.aload_n 0, 1) := by decide +kernel
theorem dX12_hourOf_66 : decode cX12_hourOf 66 = .ok (.getfield 7, 3) := by decide +kernel
theorem dX12_hourOf_69 : decode cX12_hourOf 69 = .ok (.bipush 16, 2) := by decide +kernel
theorem dX12_hourOf_71 : decode cX12_hourOf 71 = .ok (.iload_n 1, 1) := by decide +kernel
theorem dX12_hourOf_72 : decode cX12_hourOf 72 = .ok (.iadd, 1) := by decide +kernel
theorem dX12_hourOf_73 : decode cX12_hourOf 73 = .ok (.iconst 0, 1) := by decide +kernel
theorem dX12_hourOf_74 : decode cX12_hourOf 74 = .ok (.aload_n 0, 1) := by decide +kernel
theorem dX12_hourOf_75 : decode cX12_hourOf 75 = .ok (.getfield 7, 3) := by decide +kernel
theorem dX12_hourOf_78 : decode cX12_hourOf 78 = .ok (.bipush 16, 2) := by decide +kernel
theorem dX12_hourOf_80 : decode cX12_hourOf 80 = .ok (.iload_n 1, 1) := by decide +kernel
theorem dX12_hourOf_81 : decode cX12_hourOf 81 = .ok (.iadd, 1) := by decide +kernel
theorem dX12_hourOf_82 : decode cX12_hourOf 82 = .ok (.iaload, 1) := by decide +kernel
theorem dX12_hourOf_83 : decode cX12_hourOf 83 = .ok (.iload_n 3, 1) := by decide +kernel
theorem dX12_hourOf_84 : decode cX12_hourOf 84 = .ok (.isub, 1) := by decide +kernel
theorem dX12_hourOf_85 : decode cX12_hourOf 85 = .ok (.invokestatic 302, 3) := by decide +kernel
theorem dX12_hourOf_88 : decode cX12_hourOf 88 = .ok (.iastore, 1) := by decide +kernel
theorem dX12_hourOf_89 : decode cX12_hourOf 89 = .ok (.aload_n 0, 1) := by decide +kernel
theorem dX12_hourOf_90 : decode cX12_hourOf 90 = .ok (.getfield 7, 3) := by decide +kernel
theorem dX12_hourOf_93 : decode cX12_hourOf 93 = .ok (.bipush 16, 2) := by decide +kernel
theorem dX12_hourOf_95 : decode cX12_hourOf 95 = .ok (.iload_n 1, 1) := by decide +kernel
theorem dX12_hourOf_96 : decode cX12_hourOf 96 = .ok (.iadd, 1) := by decide +kernel
theorem dX12_hourOf_97 : decode cX12_hourOf 97 = .ok (.iaload, 1) := by decide +kernel
theorem dX12_hourOf_98 : decode cX12_hourOf 98 = .ok (.ifCond .le 4, 3) := by decide +kernel
theorem dX12_hourOf_101 : decode cX12_hourOf 101 = .ok (.return_, 1) := by decide +kernel
theorem dX12_hourOf_102 : decode cX12_hourOf 102 = .ok (.aload_n 0, 1) := by decide +kernel
theorem dX12_hourOf_103 : decode cX12_hourOf 103 = .ok (.iload_n 1, 1) := by decide +kernel
theorem dX12_hourOf_104 : decode cX12_hourOf 104 = .ok (.invokevirtual 305, 3) := by decide +kernel
theorem dX12_hourOf_107 : decode cX12_hourOf 107 = .ok (.return_, 1) := by decide +kernel
theorem dX12_grownBy_0 : decode cX12_grownBy 0 = .ok (.ldc_w 308, 3) := by decide +kernel
theorem dX12_grownBy_3 : decode cX12_grownBy 3 = .ok (.iload_n 0, 1) := by decide +kernel
theorem dX12_grownBy_4 : decode cX12_grownBy 4 = .ok (.iload_n 0, 1) := by decide +kernel
theorem dX12_grownBy_5 : decode cX12_grownBy 5 = .ok (.iload_n 1, 1) := by decide +kernel
theorem dX12_grownBy_6 : decode cX12_grownBy 6 = .ok (.imul, 1) := by decide +kernel
theorem dX12_grownBy_7 : decode cX12_grownBy 7 = .ok (.bipush 99, 2) := by decide +kernel
theorem dX12_grownBy_9 : decode cX12_grownBy 9 = .ok (.iadd, 1) := by decide +kernel
theorem dX12_grownBy_10 : decode cX12_grownBy 10 = .ok (.bipush 100, 2) := by decide +kernel
theorem dX12_grownBy_12 : decode cX12_grownBy 12 = .ok (.idiv, 1) := by decide +kernel
theorem dX12_grownBy_13 : decode cX12_grownBy 13 = .ok (.iadd, 1) := by decide +kernel
theorem dX12_grownBy_14 : decode cX12_grownBy 14 = .ok (.invokestatic 272, 3) := by decide +kernel
theorem dX12_grownBy_17 : decode cX12_grownBy 17 = .ok (.ireturn, 1) := by decide +kernel
theorem dX12_loanGoes_0 : decode cX12_loanGoes 0 = .ok (.aload_n 0, 1) := by decide +kernel
theorem dX12_loanGoes_1 : decode cX12_loanGoes 1 = .ok (.getfield 7, 3) := by decide +kernel
theorem dX12_loanGoes_4 : decode cX12_loanGoes 4 = .ok (.bipush 64, 2) := by decide +kernel
theorem dX12_loanGoes_6 : decode cX12_loanGoes 6 = .ok (.iload_n 1, 1) := by decide +kernel
theorem dX12_loanGoes_7 : decode cX12_loanGoes 7 = .ok (.iadd, 1) := by decide +kernel
theorem dX12_loanGoes_8 : decode cX12_loanGoes 8 = .ok (.iaload, 1) := by decide +kernel
theorem dX12_loanGoes_9 : decode cX12_loanGoes 9 = .ok (.istore_n 2, 1) := by decide +kernel
theorem dX12_loanGoes_10 : decode cX12_loanGoes 10 = .ok (.aload_n 0, 1) := by decide +kernel
theorem dX12_loanGoes_11 : decode cX12_loanGoes 11 = .ok (.getfield 7, 3) := by decide +kernel
theorem dX12_loanGoes_14 : decode cX12_loanGoes 14 = .ok (.bipush 88, 2) := by decide +kernel
theorem dX12_loanGoes_16 : decode cX12_loanGoes 16 = .ok (.iload_n 1, 1) := by decide +kernel
theorem dX12_loanGoes_17 : decode cX12_loanGoes 17 = .ok (.iadd, 1) := by decide +kernel
theorem dX12_loanGoes_18 : decode cX12_loanGoes 18 = .ok (.iaload, 1) := by decide +kernel
theorem dX12_loanGoes_19 : decode cX12_loanGoes 19 = .ok (.istore_n 3, 1) := by decide +kernel
theorem dX12_loanGoes_20 : decode cX12_loanGoes 20 = .ok (.aload_n 0, 1) := by decide +kernel
theorem dX12_loanGoes_21 : decode cX12_loanGoes 21 = .ok (.iload_n 2, 1) := by decide +kernel
theorem dX12_loanGoes_22 : decode cX12_loanGoes 22 = .ok (.invokevirtual 115, 3) := by decide +kernel
theorem dX12_loanGoes_25 : decode cX12_loanGoes 25 = .ok (.ifCond .eq 11, 3) := by decide +kernel
theorem dX12_loanGoes_28 : decode cX12_loanGoes 28 = .ok (.aload_n 0, 1) := by decide +kernel
theorem dX12_loanGoes_29 : decode cX12_loanGoes 29 = .ok (.iload_n 3, 1) := by decide +kernel
theorem dX12_loanGoes_30 : decode cX12_loanGoes 30 = .ok (.invokevirtual 115, 3) := by decide +kernel
theorem dX12_loanGoes_33 : decode cX12_loanGoes 33 = .ok (.ifCond .ne 4, 3) := by decide +kernel
theorem dX12_loanGoes_36 : decode cX12_loanGoes 36 = .ok (.return_, 1) := by decide +kernel
theorem dX12_loanGoes_37 : decode cX12_loanGoes 37 = .ok (.aload_n 0, 1) := by decide +kernel
theorem dX12_loanGoes_38 : decode cX12_loanGoes 38 = .ok (.getfield 7, 3) := by decide +kernel
theorem dX12_loanGoes_41 : decode cX12_loanGoes 41 = .ok (.sipush 184, 3) := by decide +kernel
theorem dX12_loanGoes_44 : decode cX12_loanGoes 44 = .ok (.iload_n 1, 1) := by decide +kernel
theorem dX12_loanGoes_45 : decode cX12_loanGoes 45 = .ok (.iadd, 1) := by decide +kernel
theorem dX12_loanGoes_46 : decode cX12_loanGoes 46 = .ok (.aload_n 0, 1) := by decide +kernel
theorem dX12_loanGoes_47 : decode cX12_loanGoes 47 = .ok (.getfield 7, 3) := by decide +kernel
theorem dX12_loanGoes_50 : decode cX12_loanGoes 50 = .ok (.sipush 184, 3) := by decide +kernel
theorem dX12_loanGoes_53 : decode cX12_loanGoes 53 = .ok (.iload_n 1, 1) := by decide +kernel
theorem dX12_loanGoes_54 : decode cX12_loanGoes 54 = .ok (.iadd, 1) := by decide +kernel
theorem dX12_loanGoes_55 : decode cX12_loanGoes 55 = .ok (.iaload, 1) := by decide +kernel
theorem dX12_loanGoes_56 : decode cX12_loanGoes 56 = .ok (.aload_n 0, 1) := by decide +kernel
theorem dX12_loanGoes_57 : decode cX12_loanGoes 57 = .ok (.getfield 7, 3) := by decide +kernel
theorem dX12_loanGoes_60 : decode cX12_loanGoes 60 = .ok (.sipush 136, 3) := by decide +kernel
theorem dX12_loanGoes_63 : decode cX12_loanGoes 63 = .ok (.iload_n 1, 1) := by decide +kernel
theorem dX12_loanGoes_64 : decode cX12_loanGoes 64 = .ok (.iadd, 1) := by decide +kernel
theorem dX12_loanGoes_65 : decode cX12_loanGoes 65 = .ok (.iaload, 1) := by decide +kernel
theorem dX12_loanGoes_66 : decode cX12_loanGoes 66 = .ok (.invokestatic 309, 3) := by decide +kernel
theorem dX12_loanGoes_69 : decode cX12_loanGoes 69 = .ok (.iastore, 1) := by decide +kernel
theorem dX12_loanGoes_70 : decode cX12_loanGoes 70 = .ok (.aload_n 0, 1) := by decide +kernel
theorem dX12_loanGoes_71 : decode cX12_loanGoes 71 = .ok (.getfield 7, 3) := by decide +kernel
theorem dX12_loanGoes_74 : decode cX12_loanGoes 74 = .ok (.sipush 160, 3) := by decide +kernel
theorem dX12_loanGoes_77 : decode cX12_loanGoes 77 = .ok (.iload_n 1, 1) := by decide +kernel
theorem dX12_loanGoes_78 : decode cX12_loanGoes 78 = .ok (.iadd, 1) := by decide +kernel
theorem dX12_loanGoes_79 : decode cX12_loanGoes 79 = .ok (.iaload, 1) := by decide +kernel
theorem dX12_loanGoes_80 : decode cX12_loanGoes 80 = .ok (.aload_n 0, 1) := by decide +kernel
theorem dX12_loanGoes_81 : decode cX12_loanGoes 81 = .ok (.getfield 7, 3) := by decide +kernel
theorem dX12_loanGoes_84 : decode cX12_loanGoes 84 = .ok (.sipush 184, 3) := by decide +kernel
theorem dX12_loanGoes_87 : decode cX12_loanGoes 87 = .ok (.iload_n 1, 1) := by decide +kernel
theorem dX12_loanGoes_88 : decode cX12_loanGoes 88 = .ok (.iadd, 1) := by decide +kernel
theorem dX12_loanGoes_89 : decode cX12_loanGoes 89 = .ok (.iaload, 1) := by decide +kernel
theorem dX12_loanGoes_90 : decode cX12_loanGoes 90 = .ok (.aload_n 0, 1) := by decide +kernel
theorem dX12_loanGoes_91 : decode cX12_loanGoes 91 = .ok (.getfield 7, 3) := by decide +kernel
theorem dX12_loanGoes_94 : decode cX12_loanGoes 94 = .ok (.bipush 16, 2) := by decide +kernel
theorem dX12_loanGoes_96 : decode cX12_loanGoes 96 = .ok (.iload_n 3, 1) := by decide +kernel
theorem dX12_loanGoes_97 : decode cX12_loanGoes 97 = .ok (.iadd, 1) := by decide +kernel
theorem dX12_loanGoes_98 : decode cX12_loanGoes 98 = .ok (.iaload, 1) := by decide +kernel
theorem dX12_loanGoes_99 : decode cX12_loanGoes 99 = .ok (.iconst 1, 1) := by decide +kernel
theorem dX12_loanGoes_100 : decode cX12_loanGoes 100 = .ok (.isub, 1) := by decide +kernel
theorem dX12_loanGoes_101 : decode cX12_loanGoes 101 = .ok (.invokestatic 272, 3) := by decide +kernel
theorem dX12_loanGoes_104 : decode cX12_loanGoes 104 = .ok (.invokestatic 272, 3) := by decide +kernel
theorem dX12_loanGoes_107 : decode cX12_loanGoes 107 = .ok (.istore 4, 2) := by decide +kernel
theorem dX12_loanGoes_109 : decode cX12_loanGoes 109 = .ok (.aload_n 0, 1) := by decide +kernel
theorem dX12_loanGoes_110 : decode cX12_loanGoes 110 = .ok (.getfield 7, 3) := by decide +kernel
theorem dX12_loanGoes_113 : decode cX12_loanGoes 113 = .ok (.sipush 184, 3) := by decide +kernel
theorem dX12_loanGoes_116 : decode cX12_loanGoes 116 = .ok (.iload_n 1, 1) := by decide +kernel
theorem dX12_loanGoes_117 : decode cX12_loanGoes 117 = .ok (.iadd, 1) := by decide +kernel
theorem dX12_loanGoes_118 : decode cX12_loanGoes 118 = .ok (.aload_n 0, 1) := by decide +kernel
theorem dX12_loanGoes_119 : decode cX12_loanGoes 119 = .ok (.getfield 7, 3) := by decide +kernel
theorem dX12_loanGoes_122 : decode cX12_loanGoes 122 = .ok (.sipush 184, 3) := by decide +kernel
theorem dX12_loanGoes_125 : decode cX12_loanGoes 125 = .ok (.iload_n 1, 1) := by decide +kernel
theorem dX12_loanGoes_126 : decode cX12_loanGoes 126 = .ok (.iadd, 1) := by decide +kernel
theorem dX12_loanGoes_127 : decode cX12_loanGoes 127 = .ok (.iaload, 1) := by decide +kernel
theorem dX12_loanGoes_128 : decode cX12_loanGoes 128 = .ok (.iload 4, 2) := by decide +kernel
theorem dX12_loanGoes_130 : decode cX12_loanGoes 130 = .ok (.isub, 1) := by decide +kernel
theorem dX12_loanGoes_131 : decode cX12_loanGoes 131 = .ok (.iastore, 1) := by decide +kernel
theorem dX12_loanGoes_132 : decode cX12_loanGoes 132 = .ok (.aload_n 0, 1) := by decide +kernel
theorem dX12_loanGoes_133 : decode cX12_loanGoes 133 = .ok (.getfield 7, 3) := by decide +kernel
theorem dX12_loanGoes_136 : decode cX12_loanGoes 136 = .ok (.bipush 16, 2) := by decide +kernel
theorem dX12_loanGoes_138 : decode cX12_loanGoes 138 = .ok (.iload_n 3, 1) := by decide +kernel
theorem dX12_loanGoes_139 : decode cX12_loanGoes 139 = .ok (.iadd, 1) := by decide +kernel
theorem dX12_loanGoes_140 : decode cX12_loanGoes 140 = .ok (.aload_n 0, 1) := by decide +kernel
theorem dX12_loanGoes_141 : decode cX12_loanGoes 141 = .ok (.getfield 7, 3) := by decide +kernel
theorem dX12_loanGoes_144 : decode cX12_loanGoes 144 = .ok (.bipush 16, 2) := by decide +kernel
theorem dX12_loanGoes_146 : decode cX12_loanGoes 146 = .ok (.iload_n 3, 1) := by decide +kernel
theorem dX12_loanGoes_147 : decode cX12_loanGoes 147 = .ok (.iadd, 1) := by decide +kernel
theorem dX12_loanGoes_148 : decode cX12_loanGoes 148 = .ok (.iaload, 1) := by decide +kernel
theorem dX12_loanGoes_149 : decode cX12_loanGoes 149 = .ok (.iload 4, 2) := by decide +kernel
theorem dX12_loanGoes_151 : decode cX12_loanGoes 151 = .ok (.isub, 1) := by decide +kernel
theorem dX12_loanGoes_152 : decode cX12_loanGoes 152 = .ok (.iastore, 1) := by decide +kernel
theorem dX12_loanGoes_153 : decode cX12_loanGoes 153 = .ok (.aload_n 0, 1) := by decide +kernel
theorem dX12_loanGoes_154 : decode cX12_loanGoes 154 = .ok (.getfield 7, 3) := by decide +kernel
theorem dX12_loanGoes_157 : decode cX12_loanGoes 157 = .ok (.bipush 16, 2) := by decide +kernel
theorem dX12_loanGoes_159 : decode cX12_loanGoes 159 = .ok (.iload_n 2, 1) := by decide +kernel
theorem dX12_loanGoes_160 : decode cX12_loanGoes 160 = .ok (.iadd, 1) := by decide +kernel
theorem dX12_loanGoes_161 : decode cX12_loanGoes 161 = .ok (.ldc 118, 2) := by decide +kernel
theorem dX12_loanGoes_163 : decode cX12_loanGoes 163 = .ok (.aload_n 0, 1) := by decide +kernel
theorem dX12_loanGoes_164 : decode cX12_loanGoes 164 = .ok (.getfield 7, 3) := by decide +kernel
theorem dX12_loanGoes_167 : decode cX12_loanGoes 167 = .ok (.bipush 16, 2) := by decide +kernel
theorem dX12_loanGoes_169 : decode cX12_loanGoes 169 = .ok (.iload_n 2, 1) := by decide +kernel
theorem dX12_loanGoes_170 : decode cX12_loanGoes 170 = .ok (.iadd, 1) := by decide +kernel
theorem dX12_loanGoes_171 : decode cX12_loanGoes 171 = .ok (.iaload, 1) := by decide +kernel
theorem dX12_loanGoes_172 : decode cX12_loanGoes 172 = .ok (.iload 4, 2) := by decide +kernel
theorem dX12_loanGoes_174 : decode cX12_loanGoes 174 = .ok (.iadd, 1) := by decide +kernel
theorem dX12_loanGoes_175 : decode cX12_loanGoes 175 = .ok (.invokestatic 272, 3) := by decide +kernel
theorem dX12_loanGoes_178 : decode cX12_loanGoes 178 = .ok (.iastore, 1) := by decide +kernel
theorem dX12_loanGoes_179 : decode cX12_loanGoes 179 = .ok (.return_, 1) := by decide +kernel
theorem dX12_parishGives_0 : decode cX12_parishGives 0 = .ok (.aload_n 0, 1) := by decide +kernel
theorem dX12_parishGives_1 : decode cX12_parishGives 1 = .ok (.iload_n 1, 1) := by decide +kernel
theorem dX12_parishGives_2 : decode cX12_parishGives 2 = .ok (.bipush 24, 2) := by decide +kernel
theorem dX12_parishGives_4 : decode cX12_parishGives 4 = .ok (.iconst 0, 1) := by decide +kernel
theorem dX12_parishGives_5 : decode cX12_parishGives 5 = .ok (.iconst 0, 1) := by decide +kernel
theorem dX12_parishGives_6 : decode cX12_parishGives 6 = .ok (.invokevirtual 292, 3) := by decide +kernel
theorem dX12_parishGives_9 : decode cX12_parishGives 9 = .ok (.aload_n 0, 1) := by decide +kernel
theorem dX12_parishGives_10 : decode cX12_parishGives 10 = .ok (.bipush 105, 2) := by decide +kernel
theorem dX12_parishGives_12 : decode cX12_parishGives 12 = .ok (.iconst 0, 1) := by decide +kernel
theorem dX12_parishGives_13 : decode cX12_parishGives 13 = .ok (.sipush 9999, 3) := by decide +kernel
theorem dX12_parishGives_16 : decode cX12_parishGives 16 = .ok (.iconst 0, 1) := by decide +kernel
theorem dX12_parishGives_17 : decode cX12_parishGives 17 = .ok (.invokevirtual 281, 3) := by decide +kernel
theorem dX12_parishGives_20 : decode cX12_parishGives 20 = .ok (.aload_n 0, 1) := by decide +kernel
theorem dX12_parishGives_21 : decode cX12_parishGives 21 = .ok (.getfield 7, 3) := by decide +kernel
theorem dX12_parishGives_24 : decode cX12_parishGives 24 = .ok (.sipush 209, 3) := by decide +kernel
theorem dX12_parishGives_27 : decode cX12_parishGives 27 = .ok (.iaload, 1) := by decide +kernel
theorem dX12_parishGives_28 : decode cX12_parishGives 28 = .ok (.ldc 118, 2) := by decide +kernel
theorem dX12_parishGives_30 : decode cX12_parishGives 30 = .ok (.aload_n 0, 1) := by decide +kernel
theorem dX12_parishGives_31 : decode cX12_parishGives 31 = .ok (.getfield 7, 3) := by decide +kernel
theorem dX12_parishGives_34 : decode cX12_parishGives 34 = .ok (.bipush 16, 2) := by decide +kernel
theorem dX12_parishGives_36 : decode cX12_parishGives 36 = .ok (.iload_n 1, 1) := by decide +kernel
theorem dX12_parishGives_37 : decode cX12_parishGives 37 = .ok (.iadd, 1) := by decide +kernel
theorem dX12_parishGives_38 : decode cX12_parishGives 38 = .ok (.iaload, 1) := by decide +kernel
theorem dX12_parishGives_39 : decode cX12_parishGives 39 = .ok (.isub, 1) := by decide +kernel
theorem dX12_parishGives_40 : decode cX12_parishGives 40 = .ok (.invokestatic 272, 3) := by decide +kernel
theorem dX12_parishGives_43 : decode cX12_parishGives 43 = .ok (.invokestatic 272, 3) := by decide +kernel
theorem dX12_parishGives_46 : decode cX12_parishGives 46 = .ok (.istore_n 2, 1) := by decide +kernel
theorem dX12_parishGives_47 : decode cX12_parishGives 47 = .ok (.aload_n 0, 1) := by decide +kernel
theorem dX12_parishGives_48 : decode cX12_parishGives 48 = .ok (.getfield 7, 3) := by decide +kernel
theorem dX12_parishGives_51 : decode cX12_parishGives 51 = .ok (.sipush 209, 3) := by decide +kernel
theorem dX12_parishGives_54 : decode cX12_parishGives 54 = .ok (.aload_n 0, 1) := by decide +kernel
theorem dX12_parishGives_55 : decode cX12_parishGives 55 = .ok (.getfield 7, 3) := by decide +kernel
theorem dX12_parishGives_58 : decode cX12_parishGives 58 = .ok (.sipush 209, 3) := by decide +kernel
theorem dX12_parishGives_61 : decode cX12_parishGives 61 = .ok (.iaload, 1) := by decide +kernel
theorem dX12_parishGives_62 : decode cX12_parishGives 62 = .ok (.iload_n 2, 1) := by decide +kernel
theorem dX12_parishGives_63 : decode cX12_parishGives 63 = .ok (.isub, 1) := by decide +kernel
theorem dX12_parishGives_64 : decode cX12_parishGives 64 = .ok (.iastore, 1) := by decide +kernel
theorem dX12_parishGives_65 : decode cX12_parishGives 65 = .ok (.aload_n 0, 1) := by decide +kernel
theorem dX12_parishGives_66 : decode cX12_parishGives 66 = .ok (.getfield 7, 3) := by decide +kernel
theorem dX12_parishGives_69 : decode cX12_parishGives 69 = .ok (.bipush 16, 2) := by decide +kernel
theorem dX12_parishGives_71 : decode cX12_parishGives 71 = .ok (.iload_n 1, 1) := by decide +kernel
theorem dX12_parishGives_72 : decode cX12_parishGives 72 = .ok (.iadd, 1) := by decide +kernel
theorem dX12_parishGives_73 : decode cX12_parishGives 73 = .ok (.aload_n 0, 1) := by decide +kernel
theorem dX12_parishGives_74 : decode cX12_parishGives 74 = .ok (.getfield 7, 3) := by decide +kernel
theorem dX12_parishGives_77 : decode cX12_parishGives 77 = .ok (.bipush 16, 2) := by decide +kernel
theorem dX12_parishGives_79 : decode cX12_parishGives 79 = .ok (.iload_n 1, 1) := by decide +kernel
theorem dX12_parishGives_80 : decode cX12_parishGives 80 = .ok (.iadd, 1) := by decide +kernel
theorem dX12_parishGives_81 : decode cX12_parishGives 81 = .ok (.iaload, 1) := by decide +kernel
theorem dX12_parishGives_82 : decode cX12_parishGives 82 = .ok (.iload_n 2, 1) := by decide +kernel
theorem dX12_parishGives_83 : decode cX12_parishGives 83 = .ok (.iadd, 1) := by decide +kernel
theorem dX12_parishGives_84 : decode cX12_parishGives 84 = .ok (.iastore, 1) := by decide +kernel
theorem dX12_parishGives_85 : decode cX12_parishGives 85 = .ok (.return_, 1) := by decide +kernel
theorem dX12_dayGoes_0 : decode cX12_dayGoes 0 = .ok (.iconst 0, 1) := by decide +kernel
theorem dX12_dayGoes_1 : decode cX12_dayGoes 1 = .ok (.istore_n 1, 1) := by decide +kernel
theorem dX12_dayGoes_2 : decode cX12_dayGoes 2 = .ok (.iload_n 1, 1) := by decide +kernel
theorem dX12_dayGoes_3 : decode cX12_dayGoes 3 = .ok (.bipush 24, 2) := by decide +kernel
theorem dX12_dayGoes_5 : decode cX12_dayGoes 5 = .ok (.if_icmp .ge 37, 3) := by decide +kernel
theorem dX12_dayGoes_8 : decode cX12_dayGoes 8 = .ok (.iconst 0, 1) := by decide +kernel
theorem dX12_dayGoes_9 : decode cX12_dayGoes 9 = .ok (.istore_n 2, 1) := by decide +kernel
theorem dX12_dayGoes_10 : decode cX12_dayGoes 10 = .ok (.iload_n 2, 1) := by decide +kernel
theorem dX12_dayGoes_11 : decode cX12_dayGoes 11 = .ok (.bipush 16, 2) := by decide +kernel
theorem dX12_dayGoes_13 : decode cX12_dayGoes 13 = .ok (.if_icmp .ge 23, 3) := by decide +kernel
theorem dX12_dayGoes_16 : decode cX12_dayGoes 16 = .ok (.aload_n 0, 1) := by decide +kernel
theorem dX12_dayGoes_17 : decode cX12_dayGoes 17 = .ok (.iload_n 2, 1) := by decide +kernel
theorem dX12_dayGoes_18 : decode cX12_dayGoes 18 = .ok (.invokevirtual 115, 3) := by decide +kernel
theorem dX12_dayGoes_21 : decode cX12_dayGoes 21 = .ok (.ifCond .eq 9, 3) := by decide +kernel
theorem dX12_dayGoes_24 : decode cX12_dayGoes 24 = .ok (.aload_n 0, 1) := by decide +kernel
theorem dX12_dayGoes_25 : decode cX12_dayGoes 25 = .ok (.iload_n 2, 1) := by decide +kernel
theorem dX12_dayGoes_26 : decode cX12_dayGoes 26 = .ok (.iload_n 1, 1) := by decide +kernel
theorem dX12_dayGoes_27 : decode cX12_dayGoes 27 = .ok (.invokevirtual 312, 3) := by decide +kernel
theorem dX12_dayGoes_30 : decode cX12_dayGoes 30 = .ok (.iinc 2 1, 3) := by decide +kernel
theorem dX12_dayGoes_33 : decode cX12_dayGoes 33 = .ok (.goto (-23), 3) := by decide +kernel
theorem dX12_dayGoes_36 : decode cX12_dayGoes 36 = .ok (.iinc 1 1, 3) := by decide +kernel
theorem dX12_dayGoes_39 : decode cX12_dayGoes 39 = .ok (.goto (-37), 3) := by decide +kernel
theorem dX12_dayGoes_42 : decode cX12_dayGoes 42 = .ok (.iconst 0, 1) := by decide +kernel
theorem dX12_dayGoes_43 : decode cX12_dayGoes 43 = .ok (.istore_n 1, 1) := by decide +kernel
theorem dX12_dayGoes_44 : decode cX12_dayGoes 44 = .ok (.iload_n 1, 1) := by decide +kernel
theorem dX12_dayGoes_45 : decode cX12_dayGoes 45 = .ok (.aload_n 0, 1) := by decide +kernel
theorem dX12_dayGoes_46 : decode cX12_dayGoes 46 = .ok (.getfield 7, 3) := by decide +kernel
theorem dX12_dayGoes_49 : decode cX12_dayGoes 49 = .ok (.sipush 208, 3) := by decide +kernel
theorem dX12_dayGoes_52 : decode cX12_dayGoes 52 = .ok (.iaload, 1) := by decide +kernel
theorem dX12_dayGoes_53 : decode cX12_dayGoes 53 = .ok (.if_icmp .ge 14, 3) := by decide +kernel
theorem dX12_dayGoes_56 : decode cX12_dayGoes 56 = .ok (.aload_n 0, 1) := by decide +kernel
theorem dX12_dayGoes_57 : decode cX12_dayGoes 57 = .ok (.iload_n 1, 1) := by decide +kernel
theorem dX12_dayGoes_58 : decode cX12_dayGoes 58 = .ok (.invokevirtual 315, 3) := by decide +kernel
theorem dX12_dayGoes_61 : decode cX12_dayGoes 61 = .ok (.iinc 1 1, 3) := by decide +kernel
theorem dX12_dayGoes_64 : decode cX12_dayGoes 64 = .ok (.goto (-20), 3) := by decide +kernel
theorem dX12_dayGoes_67 : decode cX12_dayGoes 67 = .ok (.iconst 0, 1) := by decide +kernel
theorem dX12_dayGoes_68 : decode cX12_dayGoes 68 = .ok (.istore_n 1, 1) := by decide +kernel
theorem dX12_dayGoes_69 : decode cX12_dayGoes 69 = .ok (.iload_n 1, 1) := by decide +kernel
theorem dX12_dayGoes_70 : decode cX12_dayGoes 70 = .ok (.bipush 16, 2) := by decide +kernel
theorem dX12_dayGoes_72 : decode cX12_dayGoes 72 = .ok (.if_icmp .ge 22, 3) := by decide +kernel
theorem dX12_dayGoes_75 : decode cX12_dayGoes 75 = .ok (.aload_n 0, 1) := by decide +kernel
theorem dX12_dayGoes_76 : decode cX12_dayGoes 76 = .ok (.iload_n 1, 1) := by decide +kernel
theorem dX12_dayGoes_77 : decode cX12_dayGoes 77 = .ok (.invokevirtual 115, 3) := by decide +kernel
theorem dX12_dayGoes_80 : decode cX12_dayGoes 80 = .ok (.ifCond .eq 8, 3) := by decide +kernel
theorem dX12_dayGoes_83 : decode cX12_dayGoes 83 = .ok (.aload_n 0, 1) := by decide +kernel
theorem dX12_dayGoes_84 : decode cX12_dayGoes 84 = .ok (.iload_n 1, 1) := by decide +kernel
theorem dX12_dayGoes_85 : decode cX12_dayGoes 85 = .ok (.invokevirtual 318, 3) := by decide +kernel
theorem dX12_dayGoes_88 : decode cX12_dayGoes 88 = .ok (.iinc 1 1, 3) := by decide +kernel
theorem dX12_dayGoes_91 : decode cX12_dayGoes 91 = .ok (.goto (-22), 3) := by decide +kernel
theorem dX12_dayGoes_94 : decode cX12_dayGoes 94 = .ok (.iconst 0, 1) := by decide +kernel
theorem dX12_dayGoes_95 : decode cX12_dayGoes 95 = .ok (.istore_n 1, 1) := by decide +kernel
theorem dX12_dayGoes_96 : decode cX12_dayGoes 96 = .ok (.iload_n 1, 1) := by decide +kernel
theorem dX12_dayGoes_97 : decode cX12_dayGoes 97 = .ok (.bipush 16, 2) := by decide +kernel
theorem dX12_dayGoes_99 : decode cX12_dayGoes 99 = .ok (.if_icmp .ge 42, 3) := by decide +kernel
theorem dX12_dayGoes_102 : decode cX12_dayGoes 102 = .ok (.aload_n 0, 1) := by decide +kernel
theorem dX12_dayGoes_103 : decode cX12_dayGoes 103 = .ok (.iload_n 1, 1) := by decide +kernel
theorem dX12_dayGoes_104 : decode cX12_dayGoes 104 = .ok (.invokevirtual 115, 3) := by decide +kernel
theorem dX12_dayGoes_107 : decode cX12_dayGoes 107 = .ok (.ifCond .eq 28, 3) := by decide +kernel
theorem dX12_dayGoes_110 : decode cX12_dayGoes 110 = .ok (.aload_n 0, 1) := by decide +kernel
theorem dX12_dayGoes_111 : decode cX12_dayGoes 111 = .ok (.getfield 7, 3) := by decide +kernel
theorem dX12_dayGoes_114 : decode cX12_dayGoes 114 = .ok (.bipush 32, 2) := by decide +kernel
theorem dX12_dayGoes_116 : decode cX12_dayGoes 116 = .ok (.iload_n 1, 1) := by decide +kernel
theorem dX12_dayGoes_117 : decode cX12_dayGoes 117 = .ok (.iadd, 1) := by decide +kernel
theorem dX12_dayGoes_118 : decode cX12_dayGoes 118 = .ok (.ldc 119, 2) := by decide +kernel
theorem dX12_dayGoes_120 : decode cX12_dayGoes 120 = .ok (.aload_n 0, 1) := by decide +kernel
theorem dX12_dayGoes_121 : decode cX12_dayGoes 121 = .ok (.getfield 7, 3) := by decide +kernel
theorem dX12_dayGoes_124 : decode cX12_dayGoes 124 = .ok (.bipush 32, 2) := by decide +kernel
theorem dX12_dayGoes_126 : decode cX12_dayGoes 126 = .ok (.iload_n 1, 1) := by decide +kernel
theorem dX12_dayGoes_127 : decode cX12_dayGoes 127 = .ok (.iadd, 1) := by decide +kernel
theorem dX12_dayGoes_128 : decode cX12_dayGoes 128 = .ok (.iaload, 1) := by decide +kernel
theorem dX12_dayGoes_129 : decode cX12_dayGoes 129 = .ok (.iconst 1, 1) := by decide +kernel
theorem dX12_dayGoes_130 : decode cX12_dayGoes 130 = .ok (.iadd, 1) := by decide +kernel
theorem dX12_dayGoes_131 : decode cX12_dayGoes 131 = .ok (.invokestatic 272, 3) := by decide +kernel
theorem dX12_dayGoes_134 : decode cX12_dayGoes 134 = .ok (.iastore, 1) := by decide +kernel
theorem dX12_dayGoes_135 : decode cX12_dayGoes 135 = .ok (.iinc 1 1, 3) := by decide +kernel
theorem dX12_dayGoes_138 : decode cX12_dayGoes 138 = .ok (.goto (-42), 3) := by decide +kernel
theorem dX12_dayGoes_141 : decode cX12_dayGoes 141 = .ok (.aload_n 0, 1) := by decide +kernel
theorem dX12_dayGoes_142 : decode cX12_dayGoes 142 = .ok (.getfield 7, 3) := by decide +kernel
theorem dX12_dayGoes_145 : decode cX12_dayGoes 145 = .ok (.sipush 210, 3) := by decide +kernel
theorem dX12_dayGoes_148 : decode cX12_dayGoes 148 = .ok (.aload_n 0, 1) := by decide +kernel
theorem dX12_dayGoes_149 : decode cX12_dayGoes 149 = .ok (.getfield 7, 3) := by decide +kernel
theorem dX12_dayGoes_152 : decode cX12_dayGoes 152 = .ok (.sipush 210, 3) := by decide +kernel
theorem dX12_dayGoes_155 : decode cX12_dayGoes 155 = .ok (.iaload, 1) := by decide +kernel
theorem dX12_dayGoes_156 : decode cX12_dayGoes 156 = .ok (.iconst 1, 1) := by decide +kernel
theorem dX12_dayGoes_157 : decode cX12_dayGoes 157 = .ok (.iadd, 1) := by decide +kernel
theorem dX12_dayGoes_158 : decode cX12_dayGoes 158 = .ok (.iastore, 1) := by decide +kernel
theorem dX12_dayGoes_159 : decode cX12_dayGoes 159 = .ok (.return_, 1) := by decide +kernel
theorem dX12_daysGo_0 : decode cX12_daysGo 0 = .ok (.aload_n 0, 1) := by decide +kernel
theorem dX12_daysGo_1 : decode cX12_daysGo 1 = .ok (.iconst 0, 1) := by decide +kernel
theorem dX12_daysGo_2 : decode cX12_daysGo 2 = .ok (.putfield 285, 3) := by decide +kernel
theorem dX12_daysGo_5 : decode cX12_daysGo 5 = .ok (.iconst 0, 1) := by decide +kernel
theorem dX12_daysGo_6 : decode cX12_daysGo 6 = .ok (.istore_n 2, 1) := by decide +kernel
theorem dX12_daysGo_7 : decode cX12_daysGo 7 = .ok (.iload_n 2, 1) := by decide +kernel
theorem dX12_daysGo_8 : decode cX12_daysGo 8 = .ok (.iload_n 1, 1) := by decide +kernel
theorem dX12_daysGo_9 : decode cX12_daysGo 9 = .ok (.if_icmp .ge 27, 3) := by decide +kernel
theorem dX12_daysGo_12 : decode cX12_daysGo 12 = .ok (.aload_n 0, 1) := by decide +kernel
theorem dX12_daysGo_13 : decode cX12_daysGo 13 = .ok (.getfield 7, 3) := by decide +kernel
theorem dX12_daysGo_16 : decode cX12_daysGo 16 = .ok (.sipush 210, 3) := by decide +kernel
theorem dX12_daysGo_19 : decode cX12_daysGo 19 = .ok (.iaload, 1) := by decide +kernel
theorem dX12_daysGo_20 : decode cX12_daysGo 20 = .ok (.sipush 9999, 3) := by decide +kernel
theorem dX12_daysGo_23 : decode cX12_daysGo 23 = .ok (.if_icmp .ge 13, 3) := by decide +kernel
theorem dX12_daysGo_26 : decode cX12_daysGo 26 = .ok (.aload_n 0, 1) := by decide +kernel
theorem dX12_daysGo_27 : decode cX12_daysGo 27 = .ok (.invokevirtual 321, 3) := by decide +kernel
theorem dX12_daysGo_30 : decode cX12_daysGo 30 = .ok (.iinc 2 1, 3) := by decide +kernel
theorem dX12_daysGo_33 : decode cX12_daysGo 33 = .ok (.goto (-26), 3) := by decide +kernel
theorem dX12_daysGo_36 : decode cX12_daysGo 36 = .ok (.return_, 1) := by decide +kernel
theorem dX12_days_0 : decode cX12_days 0 = .ok (.iload_n 1, 1) := by decide +kernel
theorem dX12_days_1 : decode cX12_days 1 = .ok (.iconst 1, 1) := by decide +kernel
theorem dX12_days_2 : decode cX12_days 2 = .ok (.bipush 60, 2) := by decide +kernel
theorem dX12_days_4 : decode cX12_days 4 = .ok (.invokestatic 107, 3) := by decide +kernel
theorem dX12_days_7 : decode cX12_days 7 = .ok (.ifCond .ne 5, 3) := by decide +kernel
theorem dX12_days_10 : decode cX12_days 10 = .ok (.iconst (-1), 1) := by decide +kernel
theorem dX12_days_11 : decode cX12_days 11 = .ok (.ireturn, 1) := by decide +kernel
theorem dX12_days_12 : decode cX12_days 12 = .ok (.aload_n 0, 1) := by decide +kernel
theorem dX12_days_13 : decode cX12_days 13 = .ok (.iload_n 1, 1) := by decide +kernel
theorem dX12_days_14 : decode cX12_days 14 = .ok (.invokevirtual 324, 3) := by decide +kernel
theorem dX12_days_17 : decode cX12_days 17 = .ok (.aload_n 0, 1) := by decide +kernel
theorem dX12_days_18 : decode cX12_days 18 = .ok (.getfield 285, 3) := by decide +kernel
theorem dX12_days_21 : decode cX12_days 21 = .ok (.ireturn, 1) := by decide +kernel
theorem dX12_tried_0 : decode cX12_tried 0 = .ok (.iload_n 1, 1) := by decide +kernel
theorem dX12_tried_1 : decode cX12_tried 1 = .ok (.iconst 1, 1) := by decide +kernel
theorem dX12_tried_2 : decode cX12_tried 2 = .ok (.bipush 60, 2) := by decide +kernel
theorem dX12_tried_4 : decode cX12_tried 4 = .ok (.invokestatic 107, 3) := by decide +kernel
theorem dX12_tried_7 : decode cX12_tried 7 = .ok (.ifCond .eq 35, 3) := by decide +kernel
theorem dX12_tried_10 : decode cX12_tried 10 = .ok (.iload_n 2, 1) := by decide +kernel
theorem dX12_tried_11 : decode cX12_tried 11 = .ok (.iconst 0, 1) := by decide +kernel
theorem dX12_tried_12 : decode cX12_tried 12 = .ok (.iconst 2, 1) := by decide +kernel
theorem dX12_tried_13 : decode cX12_tried 13 = .ok (.invokestatic 107, 3) := by decide +kernel
theorem dX12_tried_16 : decode cX12_tried 16 = .ok (.ifCond .ne 28, 3) := by decide +kernel
theorem dX12_tried_19 : decode cX12_tried 19 = .ok (.aload_n 0, 1) := by decide +kernel
theorem dX12_tried_20 : decode cX12_tried 20 = .ok (.iload_n 2, 1) := by decide +kernel
theorem dX12_tried_21 : decode cX12_tried 21 = .ok (.bipush 100, 2) := by decide +kernel
theorem dX12_tried_23 : decode cX12_tried 23 = .ok (.isub, 1) := by decide +kernel
theorem dX12_tried_24 : decode cX12_tried 24 = .ok (.invokevirtual 111, 3) := by decide +kernel
theorem dX12_tried_27 : decode cX12_tried 27 = .ok (.ifCond .ne 17, 3) := by decide +kernel
theorem dX12_tried_30 : decode cX12_tried 30 = .ok (.aload_n 0, 1) := by decide +kernel
theorem dX12_tried_31 : decode cX12_tried 31 = .ok (.iload_n 2, 1) := by decide +kernel
theorem dX12_tried_32 : decode cX12_tried 32 = .ok (.sipush 200, 3) := by decide +kernel
theorem dX12_tried_35 : decode cX12_tried 35 = .ok (.isub, 1) := by decide +kernel
theorem dX12_tried_36 : decode cX12_tried 36 = .ok (.invokevirtual 327, 3) := by decide +kernel
theorem dX12_tried_39 : decode cX12_tried 39 = .ok (.ifCond .ne 5, 3) := by decide +kernel
theorem dX12_tried_42 : decode cX12_tried 42 = .ok (.iconst (-1), 1) := by decide +kernel
theorem dX12_tried_43 : decode cX12_tried 43 = .ok (.ireturn, 1) := by decide +kernel
theorem dX12_tried_44 : decode cX12_tried 44 = .ok (.aload_n 0, 1) := by decide +kernel
theorem dX12_tried_45 : decode cX12_tried 45 = .ok (.getfield 7, 3) := by decide +kernel
theorem dX12_tried_48 : decode cX12_tried 48 = .ok (.aload_n 0, 1) := by decide +kernel
theorem dX12_tried_49 : decode cX12_tried 49 = .ok (.getfield 13, 3) := by decide +kernel
theorem dX12_tried_52 : decode cX12_tried 52 = .ok (.invokestatic 330, 3) := by decide +kernel
theorem dX12_tried_55 : decode cX12_tried 55 = .ok (.aload_n 0, 1) := by decide +kernel
theorem dX12_tried_56 : decode cX12_tried 56 = .ok (.iload_n 1, 1) := by decide +kernel
theorem dX12_tried_57 : decode cX12_tried 57 = .ok (.invokevirtual 324, 3) := by decide +kernel
theorem dX12_tried_60 : decode cX12_tried 60 = .ok (.iload_n 2, 1) := by decide +kernel
theorem dX12_tried_61 : decode cX12_tried 61 = .ok (.tableswitch 55 0 2 #[27, 35, 47], 27) := by decide +kernel
theorem dX12_tried_88 : decode cX12_tried 88 = .ok (.aload_n 0, 1) := by decide +kernel
theorem dX12_tried_89 : decode cX12_tried 89 = .ok (.getfield 285, 3) := by decide +kernel
theorem dX12_tried_92 : decode cX12_tried 92 = .ok (.istore_n 3, 1) := by decide +kernel
theorem dX12_tried_93 : decode cX12_tried 93 = .ok (.goto 60, 3) := by decide +kernel
theorem dX12_tried_96 : decode cX12_tried 96 = .ok (.aload_n 0, 1) := by decide +kernel
theorem dX12_tried_97 : decode cX12_tried 97 = .ok (.getfield 7, 3) := by decide +kernel
theorem dX12_tried_100 : decode cX12_tried 100 = .ok (.sipush 209, 3) := by decide +kernel
theorem dX12_tried_103 : decode cX12_tried 103 = .ok (.iaload, 1) := by decide +kernel
theorem dX12_tried_104 : decode cX12_tried 104 = .ok (.istore_n 3, 1) := by decide +kernel
theorem dX12_tried_105 : decode cX12_tried 105 = .ok (.goto 48, 3) := by decide +kernel
theorem dX12_tried_108 : decode cX12_tried 108 = .ok (.aload_n 0, 1) := by decide +kernel
theorem dX12_tried_109 : decode cX12_tried 109 = .ok (.invokevirtual 334, 3) := by decide +kernel
theorem dX12_tried_112 : decode cX12_tried 112 = .ok (.istore_n 3, 1) := by decide +kernel
theorem dX12_tried_113 : decode cX12_tried 113 = .ok (.goto 40, 3) := by decide +kernel
theorem dX12_tried_116 : decode cX12_tried 116 = .ok (.iload_n 2, 1) := by decide +kernel
theorem dX12_tried_117 : decode cX12_tried 117 = .ok (.sipush 200, 3) := by decide +kernel
theorem dX12_tried_120 : decode cX12_tried 120 = .ok (.if_icmp .ge 18, 3) := by decide +kernel
theorem dX12_tried_123 : decode cX12_tried 123 = .ok (.aload_n 0, 1) := by decide +kernel
theorem dX12_tried_124 : decode cX12_tried 124 = .ok (.getfield 7, 3) := by decide +kernel
theorem dX12_tried_127 : decode cX12_tried 127 = .ok (.bipush 16, 2) := by decide +kernel
theorem dX12_tried_129 : decode cX12_tried 129 = .ok (.iload_n 2, 1) := by decide +kernel
theorem dX12_tried_130 : decode cX12_tried 130 = .ok (.iadd, 1) := by decide +kernel
theorem dX12_tried_131 : decode cX12_tried 131 = .ok (.bipush 100, 2) := by decide +kernel
theorem dX12_tried_133 : decode cX12_tried 133 = .ok (.isub, 1) := by decide +kernel
theorem dX12_tried_134 : decode cX12_tried 134 = .ok (.iaload, 1) := by decide +kernel
theorem dX12_tried_135 : decode cX12_tried 135 = .ok (.goto 17, 3) := by decide +kernel
theorem dX12_tried_138 : decode cX12_tried 138 = .ok (.aload_n 0, 1) := by decide +kernel
theorem dX12_tried_139 : decode cX12_tried 139 = .ok (.getfield 7, 3) := by decide +kernel
theorem dX12_tried_142 : decode cX12_tried 142 = .ok (.sipush 184, 3) := by decide +kernel
theorem dX12_tried_145 : decode cX12_tried 145 = .ok (.iload_n 2, 1) := by decide +kernel
theorem dX12_tried_146 : decode cX12_tried 146 = .ok (.iadd, 1) := by decide +kernel
theorem dX12_tried_147 : decode cX12_tried 147 = .ok (.sipush 200, 3) := by decide +kernel
theorem dX12_tried_150 : decode cX12_tried 150 = .ok (.isub, 1) := by decide +kernel
theorem dX12_tried_151 : decode cX12_tried 151 = .ok (.iaload, 1) := by decide +kernel
theorem dX12_tried_152 : decode cX12_tried 152 = .ok (.istore_n 3, 1) := by decide +kernel
theorem dX12_tried_153 : decode cX12_tried 153 = .ok (.aload_n 0, 1) := by decide +kernel
theorem dX12_tried_154 : decode cX12_tried 154 = .ok (.getfield 13, 3) := by decide +kernel
theorem dX12_tried_157 : decode cX12_tried 157 = .ok (.aload_n 0, 1) := by decide +kernel
theorem dX12_tried_158 : decode cX12_tried 158 = .ok (.getfield 7, 3) := by decide +kernel
theorem dX12_tried_161 : decode cX12_tried 161 = .ok (.invokestatic 330, 3) := by decide +kernel
theorem dX12_tried_164 : decode cX12_tried 164 = .ok (.iload_n 3, 1) := by decide +kernel
theorem dX12_tried_165 : decode cX12_tried 165 = .ok (.ireturn, 1) := by decide +kernel
theorem dX12_dies_0 : decode cX12_dies 0 = .ok (.aload_n 0, 1) := by decide +kernel
theorem dX12_dies_1 : decode cX12_dies 1 = .ok (.iload_n 1, 1) := by decide +kernel
theorem dX12_dies_2 : decode cX12_dies 2 = .ok (.invokevirtual 111, 3) := by decide +kernel
theorem dX12_dies_5 : decode cX12_dies 5 = .ok (.ifCond .eq 13, 3) := by decide +kernel
theorem dX12_dies_8 : decode cX12_dies 8 = .ok (.iload_n 2, 1) := by decide +kernel
theorem dX12_dies_9 : decode cX12_dies 9 = .ok (.iconst 1, 1) := by decide +kernel
theorem dX12_dies_10 : decode cX12_dies 10 = .ok (.bipush 60, 2) := by decide +kernel
theorem dX12_dies_12 : decode cX12_dies 12 = .ok (.invokestatic 107, 3) := by decide +kernel
theorem dX12_dies_15 : decode cX12_dies 15 = .ok (.ifCond .ne 5, 3) := by decide +kernel
theorem dX12_dies_18 : decode cX12_dies 18 = .ok (.iconst (-1), 1) := by decide +kernel
theorem dX12_dies_19 : decode cX12_dies 19 = .ok (.ireturn, 1) := by decide +kernel
theorem dX12_dies_20 : decode cX12_dies 20 = .ok (.aload_n 0, 1) := by decide +kernel
theorem dX12_dies_21 : decode cX12_dies 21 = .ok (.getfield 7, 3) := by decide +kernel
theorem dX12_dies_24 : decode cX12_dies 24 = .ok (.aload_n 0, 1) := by decide +kernel
theorem dX12_dies_25 : decode cX12_dies 25 = .ok (.getfield 13, 3) := by decide +kernel
theorem dX12_dies_28 : decode cX12_dies 28 = .ok (.invokestatic 330, 3) := by decide +kernel
theorem dX12_dies_31 : decode cX12_dies 31 = .ok (.iconst 0, 1) := by decide +kernel
theorem dX12_dies_32 : decode cX12_dies 32 = .ok (.istore_n 3, 1) := by decide +kernel
theorem dX12_dies_33 : decode cX12_dies 33 = .ok (.aload_n 0, 1) := by decide +kernel
theorem dX12_dies_34 : decode cX12_dies 34 = .ok (.iload_n 1, 1) := by decide +kernel
theorem dX12_dies_35 : decode cX12_dies 35 = .ok (.invokevirtual 115, 3) := by decide +kernel
theorem dX12_dies_38 : decode cX12_dies 38 = .ok (.ifCond .eq 33, 3) := by decide +kernel
theorem dX12_dies_41 : decode cX12_dies 41 = .ok (.iload_n 3, 1) := by decide +kernel
theorem dX12_dies_42 : decode cX12_dies 42 = .ok (.iload_n 2, 1) := by decide +kernel
theorem dX12_dies_43 : decode cX12_dies 43 = .ok (.if_icmp .ge 28, 3) := by decide +kernel
theorem dX12_dies_46 : decode cX12_dies 46 = .ok (.aload_n 0, 1) := by decide +kernel
theorem dX12_dies_47 : decode cX12_dies 47 = .ok (.getfield 7, 3) := by decide +kernel
theorem dX12_dies_50 : decode cX12_dies 50 = .ok (.sipush 210, 3) := by decide +kernel
theorem dX12_dies_53 : decode cX12_dies 53 = .ok (.iaload, 1) := by decide +kernel
theorem dX12_dies_54 : decode cX12_dies 54 = .ok (.sipush 9999, 3) := by decide +kernel
theorem dX12_dies_57 : decode cX12_dies 57 = .ok (.if_icmp .ge 14, 3) := by decide +kernel
theorem dX12_dies_60 : decode cX12_dies 60 = .ok (.aload_n 0, 1) := by decide +kernel
theorem dX12_dies_61 : decode cX12_dies 61 = .ok (.invokevirtual 321, 3) := by decide +kernel
theorem dX12_dies_64 : decode cX12_dies 64 = .ok (.iload_n 3, 1) := by decide +kernel
theorem dX12_dies_65 : decode cX12_dies 65 = .ok (.iconst 1, 1) := by decide +kernel
theorem dX12_dies_66 : decode cX12_dies 66 = .ok (.iadd, 1) := by decide +kernel
theorem dX12_dies_67 : decode cX12_dies 67 = .ok (.istore_n 3, 1) := by decide +kernel
theorem dX12_dies_68 : decode cX12_dies 68 = .ok (.goto (-35), 3) := by decide +kernel
theorem dX12_dies_71 : decode cX12_dies 71 = .ok (.aload_n 0, 1) := by decide +kernel
theorem dX12_dies_72 : decode cX12_dies 72 = .ok (.iload_n 1, 1) := by decide +kernel
theorem dX12_dies_73 : decode cX12_dies 73 = .ok (.invokevirtual 115, 3) := by decide +kernel
theorem dX12_dies_76 : decode cX12_dies 76 = .ok (.ifCond .ne 7, 3) := by decide +kernel
theorem dX12_dies_79 : decode cX12_dies 79 = .ok (.iconst 1, 1) := by decide +kernel
theorem dX12_dies_80 : decode cX12_dies 80 = .ok (.goto 4, 3) := by decide +kernel
theorem dX12_dies_83 : decode cX12_dies 83 = .ok (.iconst 0, 1) := by decide +kernel
theorem dX12_dies_84 : decode cX12_dies 84 = .ok (.istore 4, 2) := by decide +kernel
theorem dX12_dies_86 : decode cX12_dies 86 = .ok (.aload_n 0, 1) := by decide +kernel
theorem dX12_dies_87 : decode cX12_dies 87 = .ok (.getfield 13, 3) := by decide +kernel
theorem dX12_dies_90 : decode cX12_dies 90 = .ok (.aload_n 0, 1) := by decide +kernel
theorem dX12_dies_91 : decode cX12_dies 91 = .ok (.getfield 7, 3) := by decide +kernel
theorem dX12_dies_94 : decode cX12_dies 94 = .ok (.invokestatic 330, 3) := by decide +kernel
theorem dX12_dies_97 : decode cX12_dies 97 = .ok (.iload 4, 2) := by decide +kernel
theorem dX12_dies_99 : decode cX12_dies 99 = .ok (.ifCond .eq 7, 3) := by decide +kernel
theorem dX12_dies_102 : decode cX12_dies 102 = .ok (.iload_n 3, 1) := by decide +kernel
theorem dX12_dies_103 : decode cX12_dies 103 = .ok (.goto 5, 3) := by decide +kernel
theorem dX12_dies_106 : decode cX12_dies 106 = .ok (.bipush (-2), 2) := by decide +kernel
theorem dX12_dies_108 : decode cX12_dies 108 = .ok (.ireturn, 1) := by decide +kernel
theorem dX12_netOf_0 : decode cX12_netOf 0 = .ok (.iconst 0, 1) := by decide +kernel
theorem dX12_netOf_1 : decode cX12_netOf 1 = .ok (.istore_n 2, 1) := by decide +kernel
theorem dX12_netOf_2 : decode cX12_netOf 2 = .ok (.iconst 0, 1) := by decide +kernel
theorem dX12_netOf_3 : decode cX12_netOf 3 = .ok (.istore_n 3, 1) := by decide +kernel
theorem dX12_netOf_4 : decode cX12_netOf 4 = .ok (.iload_n 3, 1) := by decide +kernel
theorem dX12_netOf_5 : decode cX12_netOf 5 = .ok (.aload_n 0, 1) := by decide +kernel
theorem dX12_netOf_6 : decode cX12_netOf 6 = .ok (.getfield 7, 3) := by decide +kernel
theorem dX12_netOf_9 : decode cX12_netOf 9 = .ok (.sipush 208, 3) := by decide +kernel
theorem dX12_netOf_12 : decode cX12_netOf 12 = .ok (.iaload, 1) := by decide +kernel
theorem dX12_netOf_13 : decode cX12_netOf 13 = .ok (.if_icmp .ge 61, 3) := by decide +kernel
theorem dX12_netOf_16 : decode cX12_netOf 16 = .ok (.aload_n 0, 1) := by decide +kernel
theorem dX12_netOf_17 : decode cX12_netOf 17 = .ok (.getfield 7, 3) := by decide +kernel
theorem dX12_netOf_20 : decode cX12_netOf 20 = .ok (.bipush 64, 2) := by decide +kernel
theorem dX12_netOf_22 : decode cX12_netOf 22 = .ok (.iload_n 3, 1) := by decide +kernel
theorem dX12_netOf_23 : decode cX12_netOf 23 = .ok (.iadd, 1) := by decide +kernel
theorem dX12_netOf_24 : decode cX12_netOf 24 = .ok (.iaload, 1) := by decide +kernel
theorem dX12_netOf_25 : decode cX12_netOf 25 = .ok (.iload_n 1, 1) := by decide +kernel
theorem dX12_netOf_26 : decode cX12_netOf 26 = .ok (.if_icmp .ne 16, 3) := by decide +kernel
theorem dX12_netOf_29 : decode cX12_netOf 29 = .ok (.iload_n 2, 1) := by decide +kernel
theorem dX12_netOf_30 : decode cX12_netOf 30 = .ok (.aload_n 0, 1) := by decide +kernel
theorem dX12_netOf_31 : decode cX12_netOf 31 = .ok (.getfield 7, 3) := by decide +kernel
theorem dX12_netOf_34 : decode cX12_netOf 34 = .ok (.sipush 184, 3) := by decide +kernel
theorem dX12_netOf_37 : decode cX12_netOf 37 = .ok (.iload_n 3, 1) := by decide +kernel
theorem dX12_netOf_38 : decode cX12_netOf 38 = .ok (.iadd, 1) := by decide +kernel
theorem dX12_netOf_39 : decode cX12_netOf 39 = .ok (.iaload, 1) := by decide +kernel
theorem dX12_netOf_40 : decode cX12_netOf 40 = .ok (.iadd, 1) := by decide +kernel
theorem dX12_netOf_41 : decode cX12_netOf 41 = .ok (.istore_n 2, 1) := by decide +kernel
theorem dX12_netOf_42 : decode cX12_netOf 42 = .ok (.aload_n 0, 1) := by decide +kernel
theorem dX12_netOf_43 : decode cX12_netOf 43 = .ok (.getfield 7, 3) := by decide +kernel
theorem dX12_netOf_46 : decode cX12_netOf 46 = .ok (.bipush 88, 2) := by decide +kernel
theorem dX12_netOf_48 : decode cX12_netOf 48 = .ok (.iload_n 3, 1) := by decide +kernel
theorem dX12_netOf_49 : decode cX12_netOf 49 = .ok (.iadd, 1) := by decide +kernel
theorem dX12_netOf_50 : decode cX12_netOf 50 = .ok (.iaload, 1) := by decide +kernel
theorem dX12_netOf_51 : decode cX12_netOf 51 = .ok (.iload_n 1, 1) := by decide +kernel
theorem dX12_netOf_52 : decode cX12_netOf 52 = .ok (.if_icmp .ne 16, 3) := by decide +kernel
theorem dX12_netOf_55 : decode cX12_netOf 55 = .ok (.iload_n 2, 1) := by decide +kernel
theorem dX12_netOf_56 : decode cX12_netOf 56 = .ok (.aload_n 0, 1) := by decide +kernel
theorem dX12_netOf_57 : decode cX12_netOf 57 = .ok (.getfield 7, 3) := by decide +kernel
theorem dX12_netOf_60 : decode cX12_netOf 60 = .ok (.sipush 184, 3) := by decide +kernel
theorem dX12_netOf_63 : decode cX12_netOf 63 = .ok (.iload_n 3, 1) := by decide +kernel
theorem dX12_netOf_64 : decode cX12_netOf 64 = .ok (.iadd, 1) := by decide +kernel
theorem dX12_netOf_65 : decode cX12_netOf 65 = .ok (.iaload, 1) := by decide +kernel
theorem dX12_netOf_66 : decode cX12_netOf 66 = .ok (.isub, 1) := by decide +kernel
theorem dX12_netOf_67 : decode cX12_netOf 67 = .ok (.istore_n 2, 1) := by decide +kernel
theorem dX12_netOf_68 : decode cX12_netOf 68 = .ok (.iinc 3 1, 3) := by decide +kernel
theorem dX12_netOf_71 : decode cX12_netOf 71 = .ok (.goto (-67), 3) := by decide +kernel
theorem dX12_netOf_74 : decode cX12_netOf 74 = .ok (.iload_n 2, 1) := by decide +kernel
theorem dX12_netOf_75 : decode cX12_netOf 75 = .ok (.ireturn, 1) := by decide +kernel
theorem dX12_personIs_0 : decode cX12_personIs 0 = .ok (.aload_n 0, 1) := by decide +kernel
theorem dX12_personIs_1 : decode cX12_personIs 1 = .ok (.iload_n 1, 1) := by decide +kernel
theorem dX12_personIs_2 : decode cX12_personIs 2 = .ok (.invokevirtual 111, 3) := by decide +kernel
theorem dX12_personIs_5 : decode cX12_personIs 5 = .ok (.ifCond .ne 7, 3) := by decide +kernel
theorem dX12_personIs_8 : decode cX12_personIs 8 = .ok (.ldc_w 337, 3) := by decide +kernel
theorem dX12_personIs_11 : decode cX12_personIs 11 = .ok (.ireturn, 1) := by decide +kernel
theorem dX12_personIs_12 : decode cX12_personIs 12 = .ok (.iload_n 2, 1) := by decide +kernel
theorem dX12_personIs_13 : decode cX12_personIs 13 = .ok (.tableswitch 78 0 4 #[35, 45, 55, 65, 72], 35) := by decide +kernel
theorem dX12_personIs_48 : decode cX12_personIs 48 = .ok (.aload_n 0, 1) := by decide +kernel
theorem dX12_personIs_49 : decode cX12_personIs 49 = .ok (.getfield 7, 3) := by decide +kernel
theorem dX12_personIs_52 : decode cX12_personIs 52 = .ok (.bipush 16, 2) := by decide +kernel
theorem dX12_personIs_54 : decode cX12_personIs 54 = .ok (.iload_n 1, 1) := by decide +kernel
theorem dX12_personIs_55 : decode cX12_personIs 55 = .ok (.iadd, 1) := by decide +kernel
theorem dX12_personIs_56 : decode cX12_personIs 56 = .ok (.iaload, 1) := by decide +kernel
theorem dX12_personIs_57 : decode cX12_personIs 57 = .ok (.ireturn, 1) := by decide +kernel
theorem dX12_personIs_58 : decode cX12_personIs 58 = .ok (.aload_n 0, 1) := by decide +kernel
theorem dX12_personIs_59 : decode cX12_personIs 59 = .ok (.getfield 7, 3) := by decide +kernel
theorem dX12_personIs_62 : decode cX12_personIs 62 = .ok (.bipush 32, 2) := by decide +kernel
theorem dX12_personIs_64 : decode cX12_personIs 64 = .ok (.iload_n 1, 1) := by decide +kernel
theorem dX12_personIs_65 : decode cX12_personIs 65 = .ok (.iadd, 1) := by decide +kernel
theorem dX12_personIs_66 : decode cX12_personIs 66 = .ok (.iaload, 1) := by decide +kernel
theorem dX12_personIs_67 : decode cX12_personIs 67 = .ok (.ireturn, 1) := by decide +kernel
theorem dX12_personIs_68 : decode cX12_personIs 68 = .ok (.aload_n 0, 1) := by decide +kernel
theorem dX12_personIs_69 : decode cX12_personIs 69 = .ok (.getfield 7, 3) := by decide +kernel
theorem dX12_personIs_72 : decode cX12_personIs 72 = .ok (.bipush 48, 2) := by decide +kernel
theorem dX12_personIs_74 : decode cX12_personIs 74 = .ok (.iload_n 1, 1) := by decide +kernel
theorem dX12_personIs_75 : decode cX12_personIs 75 = .ok (.iadd, 1) := by decide +kernel
theorem dX12_personIs_76 : decode cX12_personIs 76 = .ok (.iaload, 1) := by decide +kernel
theorem dX12_personIs_77 : decode cX12_personIs 77 = .ok (.ireturn, 1) := by decide +kernel
theorem dX12_personIs_78 : decode cX12_personIs 78 = .ok (.aload_n 0, 1) := by decide +kernel
theorem dX12_personIs_79 : decode cX12_personIs 79 = .ok (.getfield 22, 3) := by decide +kernel
theorem dX12_personIs_82 : decode cX12_personIs 82 = .ok (.iload_n 1, 1) := by decide +kernel
theorem dX12_personIs_83 : decode cX12_personIs 83 = .ok (.iaload, 1) := by decide +kernel
theorem dX12_personIs_84 : decode cX12_personIs 84 = .ok (.ireturn, 1) := by decide +kernel
theorem dX12_personIs_85 : decode cX12_personIs 85 = .ok (.aload_n 0, 1) := by decide +kernel
theorem dX12_personIs_86 : decode cX12_personIs 86 = .ok (.iload_n 1, 1) := by decide +kernel
theorem dX12_personIs_87 : decode cX12_personIs 87 = .ok (.invokevirtual 338, 3) := by decide +kernel
theorem dX12_personIs_90 : decode cX12_personIs 90 = .ok (.ireturn, 1) := by decide +kernel
theorem dX12_personIs_91 : decode cX12_personIs 91 = .ok (.ldc_w 337, 3) := by decide +kernel
theorem dX12_personIs_94 : decode cX12_personIs 94 = .ok (.ireturn, 1) := by decide +kernel
theorem dX12_loanIs_0 : decode cX12_loanIs 0 = .ok (.aload_n 0, 1) := by decide +kernel
theorem dX12_loanIs_1 : decode cX12_loanIs 1 = .ok (.iload_n 1, 1) := by decide +kernel
theorem dX12_loanIs_2 : decode cX12_loanIs 2 = .ok (.invokevirtual 327, 3) := by decide +kernel
theorem dX12_loanIs_5 : decode cX12_loanIs 5 = .ok (.ifCond .eq 29, 3) := by decide +kernel
theorem dX12_loanIs_8 : decode cX12_loanIs 8 = .ok (.iload_n 2, 1) := by decide +kernel
theorem dX12_loanIs_9 : decode cX12_loanIs 9 = .ok (.iconst 0, 1) := by decide +kernel
theorem dX12_loanIs_10 : decode cX12_loanIs 10 = .ok (.iconst 5, 1) := by decide +kernel
theorem dX12_loanIs_11 : decode cX12_loanIs 11 = .ok (.invokestatic 107, 3) := by decide +kernel
theorem dX12_loanIs_14 : decode cX12_loanIs 14 = .ok (.ifCond .eq 20, 3) := by decide +kernel
theorem dX12_loanIs_17 : decode cX12_loanIs 17 = .ok (.aload_n 0, 1) := by decide +kernel
theorem dX12_loanIs_18 : decode cX12_loanIs 18 = .ok (.getfield 7, 3) := by decide +kernel
theorem dX12_loanIs_21 : decode cX12_loanIs 21 = .ok (.bipush 64, 2) := by decide +kernel
theorem dX12_loanIs_23 : decode cX12_loanIs 23 = .ok (.bipush 24, 2) := by decide +kernel
theorem dX12_loanIs_25 : decode cX12_loanIs 25 = .ok (.iload_n 2, 1) := by decide +kernel
theorem dX12_loanIs_26 : decode cX12_loanIs 26 = .ok (.imul, 1) := by decide +kernel
theorem dX12_loanIs_27 : decode cX12_loanIs 27 = .ok (.iadd, 1) := by decide +kernel
theorem dX12_loanIs_28 : decode cX12_loanIs 28 = .ok (.iload_n 1, 1) := by decide +kernel
theorem dX12_loanIs_29 : decode cX12_loanIs 29 = .ok (.iadd, 1) := by decide +kernel
theorem dX12_loanIs_30 : decode cX12_loanIs 30 = .ok (.iaload, 1) := by decide +kernel
theorem dX12_loanIs_31 : decode cX12_loanIs 31 = .ok (.goto 4, 3) := by decide +kernel
theorem dX12_loanIs_34 : decode cX12_loanIs 34 = .ok (.iconst (-1), 1) := by decide +kernel
theorem dX12_loanIs_35 : decode cX12_loanIs 35 = .ok (.ireturn, 1) := by decide +kernel
theorem dX12_costsIn_0 : decode cX12_costsIn 0 = .ok (.aload_n 0, 1) := by decide +kernel
theorem dX12_costsIn_1 : decode cX12_costsIn 1 = .ok (.iload_n 1, 1) := by decide +kernel
theorem dX12_costsIn_2 : decode cX12_costsIn 2 = .ok (.iload_n 2, 1) := by decide +kernel
theorem dX12_costsIn_3 : decode cX12_costsIn 3 = .ok (.iconst 0, 1) := by decide +kernel
theorem dX12_costsIn_4 : decode cX12_costsIn 4 = .ok (.iconst 0, 1) := by decide +kernel
theorem dX12_costsIn_5 : decode cX12_costsIn 5 = .ok (.invokevirtual 292, 3) := by decide +kernel
theorem dX12_costsIn_8 : decode cX12_costsIn 8 = .ok (.aload_n 0, 1) := by decide +kernel
theorem dX12_costsIn_9 : decode cX12_costsIn 9 = .ok (.invokevirtual 296, 3) := by decide +kernel
theorem dX12_costsIn_12 : decode cX12_costsIn 12 = .ok (.ireturn, 1) := by decide +kernel
theorem dX12_costsOfDay_0 : decode cX12_costsOfDay 0 = .ok (.iconst 0, 1) := by decide +kernel
theorem dX12_costsOfDay_1 : decode cX12_costsOfDay 1 = .ok (.istore_n 2, 1) := by decide +kernel
theorem dX12_costsOfDay_2 : decode cX12_costsOfDay 2 = .ok (.iconst 0, 1) := by decide +kernel
theorem dX12_costsOfDay_3 : decode cX12_costsOfDay 3 = .ok (.istore_n 3, 1) := by decide +kernel
theorem dX12_costsOfDay_4 : decode cX12_costsOfDay 4 = .ok (.iload_n 3, 1) := by decide +kernel
theorem dX12_costsOfDay_5 : decode cX12_costsOfDay 5 = .ok (.bipush 24, 2) := by decide +kernel
theorem dX12_costsOfDay_7 : decode cX12_costsOfDay 7 = .ok (.if_icmp .ge 18, 3) := by decide +kernel
theorem dX12_costsOfDay_10 : decode cX12_costsOfDay 10 = .ok (.iload_n 2, 1) := by decide +kernel
theorem dX12_costsOfDay_11 : decode cX12_costsOfDay 11 = .ok (.aload_n 0, 1) := by decide +kernel
theorem dX12_costsOfDay_12 : decode cX12_costsOfDay 12 = .ok (.iload_n 1, 1) := by decide +kernel
theorem dX12_costsOfDay_13 : decode cX12_costsOfDay 13 = .ok (.iload_n 3, 1) := by decide +kernel
theorem dX12_costsOfDay_14 : decode cX12_costsOfDay 14 = .ok (.invokevirtual 341, 3) := by decide +kernel
theorem dX12_costsOfDay_17 : decode cX12_costsOfDay 17 = .ok (.iadd, 1) := by decide +kernel
theorem dX12_costsOfDay_18 : decode cX12_costsOfDay 18 = .ok (.istore_n 2, 1) := by decide +kernel
theorem dX12_costsOfDay_19 : decode cX12_costsOfDay 19 = .ok (.iinc 3 1, 3) := by decide +kernel
theorem dX12_costsOfDay_22 : decode cX12_costsOfDay 22 = .ok (.goto (-18), 3) := by decide +kernel
theorem dX12_costsOfDay_25 : decode cX12_costsOfDay 25 = .ok (.iload_n 2, 1) := by decide +kernel
theorem dX12_costsOfDay_26 : decode cX12_costsOfDay 26 = .ok (.ireturn, 1) := by decide +kernel
theorem dX12_costs_0 : decode cX12_costs 0 = .ok (.aload_n 0, 1) := by decide +kernel
theorem dX12_costs_1 : decode cX12_costs 1 = .ok (.iload_n 1, 1) := by decide +kernel
theorem dX12_costs_2 : decode cX12_costs 2 = .ok (.invokevirtual 115, 3) := by decide +kernel
theorem dX12_costs_5 : decode cX12_costs 5 = .ok (.ifCond .eq 13, 3) := by decide +kernel
theorem dX12_costs_8 : decode cX12_costs 8 = .ok (.iload_n 2, 1) := by decide +kernel
theorem dX12_costs_9 : decode cX12_costs 9 = .ok (.iconst 0, 1) := by decide +kernel
theorem dX12_costs_10 : decode cX12_costs 10 = .ok (.bipush 24, 2) := by decide +kernel
theorem dX12_costs_12 : decode cX12_costs 12 = .ok (.invokestatic 107, 3) := by decide +kernel
theorem dX12_costs_15 : decode cX12_costs 15 = .ok (.ifCond .ne 5, 3) := by decide +kernel
theorem dX12_costs_18 : decode cX12_costs 18 = .ok (.iconst (-1), 1) := by decide +kernel
theorem dX12_costs_19 : decode cX12_costs 19 = .ok (.ireturn, 1) := by decide +kernel
theorem dX12_costs_20 : decode cX12_costs 20 = .ok (.iload_n 2, 1) := by decide +kernel
theorem dX12_costs_21 : decode cX12_costs 21 = .ok (.bipush 24, 2) := by decide +kernel
theorem dX12_costs_23 : decode cX12_costs 23 = .ok (.if_icmp .ne 11, 3) := by decide +kernel
theorem dX12_costs_26 : decode cX12_costs 26 = .ok (.aload_n 0, 1) := by decide +kernel
theorem dX12_costs_27 : decode cX12_costs 27 = .ok (.iload_n 1, 1) := by decide +kernel
theorem dX12_costs_28 : decode cX12_costs 28 = .ok (.invokevirtual 344, 3) := by decide +kernel
theorem dX12_costs_31 : decode cX12_costs 31 = .ok (.goto 9, 3) := by decide +kernel
theorem dX12_costs_34 : decode cX12_costs 34 = .ok (.aload_n 0, 1) := by decide +kernel
theorem dX12_costs_35 : decode cX12_costs 35 = .ok (.iload_n 1, 1) := by decide +kernel
theorem dX12_costs_36 : decode cX12_costs 36 = .ok (.iload_n 2, 1) := by decide +kernel
theorem dX12_costs_37 : decode cX12_costs 37 = .ok (.invokevirtual 341, 3) := by decide +kernel
theorem dX12_costs_40 : decode cX12_costs 40 = .ok (.ireturn, 1) := by decide +kernel
theorem dX12_lessBy_0 : decode cX12_lessBy 0 = .ok (.iload_n 0, 1) := by decide +kernel
theorem dX12_lessBy_1 : decode cX12_lessBy 1 = .ok (.iload_n 0, 1) := by decide +kernel
theorem dX12_lessBy_2 : decode cX12_lessBy 2 = .ok (.iload_n 1, 1) := by decide +kernel
theorem dX12_lessBy_3 : decode cX12_lessBy 3 = .ok (.invokestatic 272, 3) := by decide +kernel
theorem dX12_lessBy_6 : decode cX12_lessBy 6 = .ok (.isub, 1) := by decide +kernel
theorem dX12_lessBy_7 : decode cX12_lessBy 7 = .ok (.ireturn, 1) := by decide +kernel
theorem dX12_paidOff_0 : decode cX12_paidOff 0 = .ok (.aload_n 0, 1) := by decide +kernel
theorem dX12_paidOff_1 : decode cX12_paidOff 1 = .ok (.iload_n 1, 1) := by decide +kernel
theorem dX12_paidOff_2 : decode cX12_paidOff 2 = .ok (.invokevirtual 327, 3) := by decide +kernel
theorem dX12_paidOff_5 : decode cX12_paidOff 5 = .ok (.ifCond .ne 5, 3) := by decide +kernel
theorem dX12_paidOff_8 : decode cX12_paidOff 8 = .ok (.iconst (-1), 1) := by decide +kernel
theorem dX12_paidOff_9 : decode cX12_paidOff 9 = .ok (.ireturn, 1) := by decide +kernel
theorem dX12_paidOff_10 : decode cX12_paidOff 10 = .ok (.aload_n 0, 1) := by decide +kernel
theorem dX12_paidOff_11 : decode cX12_paidOff 11 = .ok (.getfield 7, 3) := by decide +kernel
theorem dX12_paidOff_14 : decode cX12_paidOff 14 = .ok (.sipush 184, 3) := by decide +kernel
theorem dX12_paidOff_17 : decode cX12_paidOff 17 = .ok (.iload_n 1, 1) := by decide +kernel
theorem dX12_paidOff_18 : decode cX12_paidOff 18 = .ok (.iadd, 1) := by decide +kernel
theorem dX12_paidOff_19 : decode cX12_paidOff 19 = .ok (.iaload, 1) := by decide +kernel
theorem dX12_paidOff_20 : decode cX12_paidOff 20 = .ok (.istore_n 2, 1) := by decide +kernel
theorem dX12_paidOff_21 : decode cX12_paidOff 21 = .ok (.iconst 0, 1) := by decide +kernel
theorem dX12_paidOff_22 : decode cX12_paidOff 22 = .ok (.istore_n 3, 1) := by decide +kernel
theorem dX12_paidOff_23 : decode cX12_paidOff 23 = .ok (.iload_n 2, 1) := by decide +kernel
theorem dX12_paidOff_24 : decode cX12_paidOff 24 = .ok (.ifCond .le 45, 3) := by decide +kernel
theorem dX12_paidOff_27 : decode cX12_paidOff 27 = .ok (.iload_n 3, 1) := by decide +kernel
theorem dX12_paidOff_28 : decode cX12_paidOff 28 = .ok (.sipush 3650, 3) := by decide +kernel
theorem dX12_paidOff_31 : decode cX12_paidOff 31 = .ok (.if_icmp .ge 38, 3) := by decide +kernel
theorem dX12_paidOff_34 : decode cX12_paidOff 34 = .ok (.iload_n 2, 1) := by decide +kernel
theorem dX12_paidOff_35 : decode cX12_paidOff 35 = .ok (.aload_n 0, 1) := by decide +kernel
theorem dX12_paidOff_36 : decode cX12_paidOff 36 = .ok (.getfield 7, 3) := by decide +kernel
theorem dX12_paidOff_39 : decode cX12_paidOff 39 = .ok (.sipush 136, 3) := by decide +kernel
theorem dX12_paidOff_42 : decode cX12_paidOff 42 = .ok (.iload_n 1, 1) := by decide +kernel
theorem dX12_paidOff_43 : decode cX12_paidOff 43 = .ok (.iadd, 1) := by decide +kernel
theorem dX12_paidOff_44 : decode cX12_paidOff 44 = .ok (.iaload, 1) := by decide +kernel
theorem dX12_paidOff_45 : decode cX12_paidOff 45 = .ok (.invokestatic 309, 3) := by decide +kernel
theorem dX12_paidOff_48 : decode cX12_paidOff 48 = .ok (.aload_n 0, 1) := by decide +kernel
theorem dX12_paidOff_49 : decode cX12_paidOff 49 = .ok (.getfield 7, 3) := by decide +kernel
theorem dX12_paidOff_52 : decode cX12_paidOff 52 = .ok (.sipush 160, 3) := by decide +kernel
theorem dX12_paidOff_55 : decode cX12_paidOff 55 = .ok (.iload_n 1, 1) := by decide +kernel
theorem dX12_paidOff_56 : decode cX12_paidOff 56 = .ok (.iadd, 1) := by decide +kernel
theorem dX12_paidOff_57 : decode cX12_paidOff 57 = .ok (.iaload, 1) := by decide +kernel
theorem dX12_paidOff_58 : decode cX12_paidOff 58 = .ok (.invokestatic 347, 3) := by decide +kernel
theorem dX12_paidOff_61 : decode cX12_paidOff 61 = .ok (.istore_n 2, 1) := by decide +kernel
theorem dX12_paidOff_62 : decode cX12_paidOff 62 = .ok (.iload_n 3, 1) := by decide +kernel
theorem dX12_paidOff_63 : decode cX12_paidOff 63 = .ok (.iconst 1, 1) := by decide +kernel
theorem dX12_paidOff_64 : decode cX12_paidOff 64 = .ok (.iadd, 1) := by decide +kernel
theorem dX12_paidOff_65 : decode cX12_paidOff 65 = .ok (.istore_n 3, 1) := by decide +kernel
theorem dX12_paidOff_66 : decode cX12_paidOff 66 = .ok (.goto (-43), 3) := by decide +kernel
theorem dX12_paidOff_69 : decode cX12_paidOff 69 = .ok (.iload_n 2, 1) := by decide +kernel
theorem dX12_paidOff_70 : decode cX12_paidOff 70 = .ok (.ifCond .ne 7, 3) := by decide +kernel
theorem dX12_paidOff_73 : decode cX12_paidOff 73 = .ok (.iload_n 3, 1) := by decide +kernel
theorem dX12_paidOff_74 : decode cX12_paidOff 74 = .ok (.goto 5, 3) := by decide +kernel
theorem dX12_paidOff_77 : decode cX12_paidOff 77 = .ok (.bipush (-2), 2) := by decide +kernel
theorem dX12_paidOff_79 : decode cX12_paidOff 79 = .ok (.ireturn, 1) := by decide +kernel
def jn_X12_reckonsTo_63 (F : Nat) (k16 : Int32 → Int32 → Int32 → Int32 → jS → Option (Int32 × jS)) (x2 : Int32) (x3 : Int32) (x4 : Int32) (x5 : Int32) (x6 : Int32) (x7 : Int32) (σ : jS) : Option (Int32 × jS) := (if x6 = 0 then (if jin x3 260 = true then (lt (js σ 18 x3.toNatClampNeg x7) fun σ9 => (lt (x3 + (1 : Int32)) fun y11 => (k16 x2 y11 x4 x5 σ9))) else none) else (if jin x7 9 = true then (if jin x3 260 = true then (lt (js σ 18 x3.toNatClampNeg (σ 19 x7.toNatClampNeg)) fun σ13 => (lt (x3 + (1 : Int32)) fun y15 => (k16 x2 y15 x4 x5 σ13))) else none) else none))
set_option maxHeartbeats 4000000 in
set_option maxRecDepth 100000 in
theorem jn_X12_reckonsTo_63_ok {G : jG} (C : jc cfM 33 G cX12_reckonsTo RX12 8 (some .int) 1) (F : Nat) {v : (Int32 × jS)} (k16 : Int32 → Int32 → Int32 → Int32 → jS → Option (Int32 × jS)) (hk16 : ∀ (x2 : Int32) (x3 : Int32) (x4 : Int32) (x5 : Int32) (σ : jS), k16 x2 x3 x4 x5 σ = some v → JM G 16 [(0, .ref (vad (gV G) 0)), (2, .int x2), (3, .int x3), (4, .int x4), (5, .int x5)] [] σ v) : ∀ (x2 : Int32) (x3 : Int32) (x4 : Int32) (x5 : Int32) (x6 : Int32) (x7 : Int32) (σ : jS), jn_X12_reckonsTo_63 F k16 x2 x3 x4 x5 x6 x7 σ = some v → JM G 63 [(0, .ref (vad (gV G) 0)), (2, .int x2), (3, .int x3), (4, .int x4), (5, .int x5), (6, .int x6), (7, .int x7)] [] σ v := by
  intro x2 x3 x4 x5 x6 x7 σ hm
  unfold jn_X12_reckonsTo_63 at hm
  refine j_aloadn (pc := 63) C 0 dX12_reckonsTo_63 rfl rfl ?_
  refine gf_X12_62 (c := 0) (pc := 64) C km_0 dX12_reckonsTo_64 ?_
  refine j_iloadn (pc := 67) C 2 dX12_reckonsTo_67 rfl rfl ?_
  refine j_iload (pc := 68) C 5 dX12_reckonsTo_68 rfl ?_
  refine j_if_ne (tgt := 78) (pc := 70) C dX12_reckonsTo_70 (by decide) hm (fun _ hm => ?_) (fun _ hm => ?_)
  · refine j_iload (pc := 73) C 6 dX12_reckonsTo_73 rfl ?_
    refine j_goto (tgt := 85) (pc := 75) C dX12_reckonsTo_75 (by decide) ?_
    refine j_guard hm (fun hg10 hm => ?_)
    refine j_iastL (c := 18) (n := 260) (pc := 85) C (kM_lt km_18 (by decide)) (cm_a km_18 lm_18) hg10 dX12_reckonsTo_85 hm (fun σ9 hm => ?_)
    refine j_iloadn (pc := 86) C 2 dX12_reckonsTo_86 rfl rfl ?_
    refine j_iconst (v := 1) (pc := 87) C dX12_reckonsTo_87 (by decide) ?_
    refine j_iadd (pc := 88) C dX12_reckonsTo_88 ?_
    refine j_lti hm (fun y11 hm => ?_)
    refine j_istoren (ls' := [(3, .int y11), (0, .ref (vad (gV G) 0)), (2, .int x2), (4, .int x4), (5, .int x5), (6, .int x6), (7, .int x7)]) (pc := 89) C dX12_reckonsTo_89 rfl (by decide) rfl ?_
    refine j_goto (tgt := 230) (pc := 90) C dX12_reckonsTo_90 (by decide) ?_
    refine j_goto (tgt := 16) (pc := 230) C dX12_reckonsTo_230 (by decide) ?_
    refine j_ls [1, 2, 0, 3, 4] rfl ?_
    exact hk16 _ _ _ _ _ hm
  · refine j_aloadn (pc := 78) C 0 dX12_reckonsTo_78 rfl rfl ?_
    refine gf_X12_65 (c := 0) (pc := 79) C km_0 dX12_reckonsTo_79 ?_
    refine j_iload (pc := 82) C 6 dX12_reckonsTo_82 rfl ?_
    refine j_guard hm (fun hg12 hm => ?_)
    refine j_iald (c := 19) (n := 9) (pc := 84) C (kM_lt km_19 (by decide)) (cm_a km_19 lm_19 _) hg12 dX12_reckonsTo_84 ?_
    refine j_guard hm (fun hg14 hm => ?_)
    refine j_iastL (c := 18) (n := 260) (pc := 85) C (kM_lt km_18 (by decide)) (cm_a km_18 lm_18) hg14 dX12_reckonsTo_85 hm (fun σ13 hm => ?_)
    refine j_iloadn (pc := 86) C 2 dX12_reckonsTo_86 rfl rfl ?_
    refine j_iconst (v := 1) (pc := 87) C dX12_reckonsTo_87 (by decide) ?_
    refine j_iadd (pc := 88) C dX12_reckonsTo_88 ?_
    refine j_lti hm (fun y15 hm => ?_)
    refine j_istoren (ls' := [(3, .int y15), (0, .ref (vad (gV G) 0)), (2, .int x2), (4, .int x4), (5, .int x5), (6, .int x6), (7, .int x7)]) (pc := 89) C dX12_reckonsTo_89 rfl (by decide) rfl ?_
    refine j_goto (tgt := 230) (pc := 90) C dX12_reckonsTo_90 (by decide) ?_
    refine j_goto (tgt := 16) (pc := 230) C dX12_reckonsTo_230 (by decide) ?_
    refine j_ls [1, 2, 0, 3, 4] rfl ?_
    exact hk16 _ _ _ _ _ hm

def jn_X12_reckonsTo_155 (F : Nat) (k16 : Int32 → Int32 → Int32 → Int32 → jS → Option (Int32 × jS)) (x2 : Int32) (x3 : Int32) (x4 : Int32) (x5 : Int32) (x7 : Int32) (s0 : Int32) (s1 : Int32) (σ : jS) : Option (Int32 × jS) := (if s0 = s1 then (lt (x4 + x7) fun y22 => (k16 x2 x3 x4 y22 σ)) else (lt (x3 - (1 : Int32)) fun y23 => (k16 x2 y23 x4 x5 σ)))
set_option maxHeartbeats 4000000 in
set_option maxRecDepth 100000 in
theorem jn_X12_reckonsTo_155_ok {G : jG} (C : jc cfM 33 G cX12_reckonsTo RX12 8 (some .int) 1) (F : Nat) {v : (Int32 × jS)} (k16 : Int32 → Int32 → Int32 → Int32 → jS → Option (Int32 × jS)) (hk16 : ∀ (x2 : Int32) (x3 : Int32) (x4 : Int32) (x5 : Int32) (σ : jS), k16 x2 x3 x4 x5 σ = some v → JM G 16 [(0, .ref (vad (gV G) 0)), (2, .int x2), (3, .int x3), (4, .int x4), (5, .int x5)] [] σ v) : ∀ (x2 : Int32) (x3 : Int32) (x4 : Int32) (x5 : Int32) (x7 : Int32) (s0 : Int32) (s1 : Int32) (σ : jS), jn_X12_reckonsTo_155 F k16 x2 x3 x4 x5 x7 s0 s1 σ = some v → JM G 155 [(0, .ref (vad (gV G) 0)), (2, .int x2), (3, .int x3), (4, .int x4), (5, .int x5), (7, .int x7)] [.int s1, .int s0] σ v := by
  intro x2 x3 x4 x5 x7 s0 s1 σ hm
  unfold jn_X12_reckonsTo_155 at hm
  refine j_icmp_ne (tgt := 168) (pc := 155) C dX12_reckonsTo_155 (by decide) hm (fun _ hm => ?_) (fun _ hm => ?_)
  · refine j_iload (pc := 158) C 3 dX12_reckonsTo_158 rfl ?_
    refine j_iload (pc := 160) C 5 dX12_reckonsTo_160 rfl ?_
    refine j_iadd (pc := 162) C dX12_reckonsTo_162 ?_
    refine j_lti hm (fun y22 hm => ?_)
    refine j_istore (ls' := [(5, .int y22), (0, .ref (vad (gV G) 0)), (2, .int x2), (3, .int x3), (4, .int x4), (7, .int x7)]) (pc := 163) C dX12_reckonsTo_163 (by decide) rfl ?_
    refine j_goto (tgt := 230) (pc := 165) C dX12_reckonsTo_165 (by decide) ?_
    refine j_goto (tgt := 16) (pc := 230) C dX12_reckonsTo_230 (by decide) ?_
    refine j_ls [1, 2, 3, 4, 0] rfl ?_
    exact hk16 _ _ _ _ _ hm
  · refine j_iloadn (pc := 168) C 2 dX12_reckonsTo_168 rfl rfl ?_
    refine j_iconst (v := 1) (pc := 169) C dX12_reckonsTo_169 (by decide) ?_
    refine j_isub (pc := 170) C dX12_reckonsTo_170 ?_
    refine j_lti hm (fun y23 hm => ?_)
    refine j_istoren (ls' := [(3, .int y23), (0, .ref (vad (gV G) 0)), (2, .int x2), (4, .int x4), (5, .int x5), (7, .int x7)]) (pc := 171) C dX12_reckonsTo_171 rfl (by decide) rfl ?_
    refine j_goto (tgt := 230) (pc := 172) C dX12_reckonsTo_172 (by decide) ?_
    refine j_goto (tgt := 16) (pc := 230) C dX12_reckonsTo_230 (by decide) ?_
    refine j_ls [1, 2, 0, 3, 4] rfl ?_
    exact hk16 _ _ _ _ _ hm

def jn_X12_reckonsTo_135 (F : Nat) (k16 : Int32 → Int32 → Int32 → Int32 → jS → Option (Int32 × jS)) (x2 : Int32) (x3 : Int32) (x4 : Int32) (x5 : Int32) (x6 : Int32) (x7 : Int32) (σ : jS) : Option (Int32 × jS) := (lt (x3 - (1 : Int32)) fun y20 => (if jin y20 260 = true then (if x6 = (12 : Int32) then (jn_X12_reckonsTo_155 F (k16) x2 x3 x4 x5 x7 ((σ 18 y20.toNatClampNeg)) (1 : Int32) σ) else (jn_X12_reckonsTo_155 F (k16) x2 x3 x4 x5 x7 ((σ 18 y20.toNatClampNeg)) (0 : Int32) σ)) else none))
set_option maxHeartbeats 4000000 in
set_option maxRecDepth 100000 in
theorem jn_X12_reckonsTo_135_ok {G : jG} (C : jc cfM 33 G cX12_reckonsTo RX12 8 (some .int) 1) (F : Nat) {v : (Int32 × jS)} (k16 : Int32 → Int32 → Int32 → Int32 → jS → Option (Int32 × jS)) (hk16 : ∀ (x2 : Int32) (x3 : Int32) (x4 : Int32) (x5 : Int32) (σ : jS), k16 x2 x3 x4 x5 σ = some v → JM G 16 [(0, .ref (vad (gV G) 0)), (2, .int x2), (3, .int x3), (4, .int x4), (5, .int x5)] [] σ v) : ∀ (x2 : Int32) (x3 : Int32) (x4 : Int32) (x5 : Int32) (x6 : Int32) (x7 : Int32) (σ : jS), jn_X12_reckonsTo_135 F k16 x2 x3 x4 x5 x6 x7 σ = some v → JM G 135 [(0, .ref (vad (gV G) 0)), (2, .int x2), (3, .int x3), (4, .int x4), (5, .int x5), (6, .int x6), (7, .int x7)] [] σ v := by
  intro x2 x3 x4 x5 x6 x7 σ hm
  unfold jn_X12_reckonsTo_135 at hm
  refine j_aloadn (pc := 135) C 0 dX12_reckonsTo_135 rfl rfl ?_
  refine gf_X12_62 (c := 0) (pc := 136) C km_0 dX12_reckonsTo_136 ?_
  refine j_iloadn (pc := 139) C 2 dX12_reckonsTo_139 rfl rfl ?_
  refine j_iconst (v := 1) (pc := 140) C dX12_reckonsTo_140 (by decide) ?_
  refine j_isub (pc := 141) C dX12_reckonsTo_141 ?_
  refine j_lti hm (fun y20 hm => ?_)
  refine j_guard hm (fun hg21 hm => ?_)
  refine j_iald (c := 18) (n := 260) (pc := 142) C (kM_lt km_18 (by decide)) (cm_a km_18 lm_18 _) hg21 dX12_reckonsTo_142 ?_
  refine j_iload (pc := 143) C 5 dX12_reckonsTo_143 rfl ?_
  refine j_bipush (v := 12) (pc := 145) C dX12_reckonsTo_145 (by decide) ?_
  refine j_icmp_ne (tgt := 154) (pc := 147) C dX12_reckonsTo_147 (by decide) hm (fun _ hm => ?_) (fun _ hm => ?_)
  · refine j_iconst (v := 1) (pc := 150) C dX12_reckonsTo_150 (by decide) ?_
    refine j_goto (tgt := 155) (pc := 151) C dX12_reckonsTo_151 (by decide) ?_
    refine j_ls [0, 1, 2, 3, 4, 6] rfl ?_
    exact jn_X12_reckonsTo_155_ok C F _ (fun _ _ _ _ _ hm => hk16 _ _ _ _ _ hm) _ _ _ _ _ _ _ _ hm
  · refine j_iconst (v := 0) (pc := 154) C dX12_reckonsTo_154 (by decide) ?_
    refine j_ls [0, 1, 2, 3, 4, 6] rfl ?_
    exact jn_X12_reckonsTo_155_ok C F _ (fun _ _ _ _ _ hm => hk16 _ _ _ _ _ hm) _ _ _ _ _ _ _ _ hm

def jn_X12_reckonsTo_203 (F : Nat) (k16 : Int32 → Int32 → Int32 → Int32 → jS → Option (Int32 × jS)) (x2 : Int32) (x3 : Int32) (x4 : Int32) (x5 : Int32) (x6 : Int32) (σ : jS) : Option (Int32 × jS) := (lt (x3 - (1 : Int32)) fun y26 => (if jin y26 260 = true then (if jin x3 260 = true then (Option.bind (mX12_reckon F x6 ((σ 18 y26.toNatClampNeg)) ((σ 18 x3.toNatClampNeg)) σ) fun q29 => (if jin (x3 - (1 : Int32)) 260 = true then (lt (js σ 18 (x3 - (1 : Int32)).toNatClampNeg q29) fun σ30 => (k16 x2 x3 x4 x5 σ30)) else none)) else none) else none))
set_option maxHeartbeats 4000000 in
set_option maxRecDepth 100000 in
theorem jn_X12_reckonsTo_203_ok {G : jG} (C : jc cfM 33 G cX12_reckonsTo RX12 8 (some .int) 1) (F : Nat) {v : (Int32 × jS)} (k16 : Int32 → Int32 → Int32 → Int32 → jS → Option (Int32 × jS)) (hk16 : ∀ (x2 : Int32) (x3 : Int32) (x4 : Int32) (x5 : Int32) (σ : jS), k16 x2 x3 x4 x5 σ = some v → JM G 16 [(0, .ref (vad (gV G) 0)), (2, .int x2), (3, .int x3), (4, .int x4), (5, .int x5)] [] σ v) : ∀ (x2 : Int32) (x3 : Int32) (x4 : Int32) (x5 : Int32) (x6 : Int32) (σ : jS), jn_X12_reckonsTo_203 F k16 x2 x3 x4 x5 x6 σ = some v → JM G 203 [(0, .ref (vad (gV G) 0)), (2, .int x2), (3, .int x3), (4, .int x4), (5, .int x5), (6, .int x6)] [] σ v := by
  intro x2 x3 x4 x5 x6 σ hm
  unfold jn_X12_reckonsTo_203 at hm
  refine j_aloadn (pc := 203) C 0 dX12_reckonsTo_203 rfl rfl ?_
  refine gf_X12_62 (c := 0) (pc := 204) C km_0 dX12_reckonsTo_204 ?_
  refine j_iloadn (pc := 207) C 2 dX12_reckonsTo_207 rfl rfl ?_
  refine j_iconst (v := 1) (pc := 208) C dX12_reckonsTo_208 (by decide) ?_
  refine j_isub (pc := 209) C dX12_reckonsTo_209 ?_
  refine j_iload (pc := 210) C 5 dX12_reckonsTo_210 rfl ?_
  refine j_aloadn (pc := 212) C 0 dX12_reckonsTo_212 rfl rfl ?_
  refine gf_X12_62 (c := 0) (pc := 213) C km_0 dX12_reckonsTo_213 ?_
  refine j_iloadn (pc := 216) C 2 dX12_reckonsTo_216 rfl rfl ?_
  refine j_iconst (v := 1) (pc := 217) C dX12_reckonsTo_217 (by decide) ?_
  refine j_isub (pc := 218) C dX12_reckonsTo_218 ?_
  refine j_lti hm (fun y26 hm => ?_)
  refine j_guard hm (fun hg27 hm => ?_)
  refine j_iald (c := 18) (n := 260) (pc := 219) C (kM_lt km_18 (by decide)) (cm_a km_18 lm_18 _) hg27 dX12_reckonsTo_219 ?_
  refine j_aloadn (pc := 220) C 0 dX12_reckonsTo_220 rfl rfl ?_
  refine gf_X12_62 (c := 0) (pc := 221) C km_0 dX12_reckonsTo_221 ?_
  refine j_iloadn (pc := 224) C 2 dX12_reckonsTo_224 rfl rfl ?_
  refine j_guard hm (fun hg28 hm => ?_)
  refine j_iald (c := 18) (n := 260) (pc := 225) C (kM_lt km_18 (by decide)) (cm_a km_18 lm_18 _) hg28 dX12_reckonsTo_225 ?_
  obtain ⟨q29, hq29, hm⟩ := Option.bind_eq_some_iff.mp hm
  refine cl_X12_225 (pc := 226) C (kX12_reckon hq29) (by decide) (Nat.le_of_ble_eq_true rfl) dX12_reckonsTo_226 ?_
  refine j_guard hm (fun hg31 hm => ?_)
  refine j_iastL (c := 18) (n := 260) (pc := 229) C (kM_lt km_18 (by decide)) (cm_a km_18 lm_18) hg31 dX12_reckonsTo_229 hm (fun σ30 hm => ?_)
  refine j_goto (tgt := 16) (pc := 230) C dX12_reckonsTo_230 (by decide) ?_
  refine j_ls [0, 1, 2, 3, 4] rfl ?_
  exact hk16 _ _ _ _ _ hm

def jn_X12_reckonsTo_192 (F : Nat) (k16 : Int32 → Int32 → Int32 → Int32 → jS → Option (Int32 × jS)) (x2 : Int32) (x3 : Int32) (x4 : Int32) (x5 : Int32) (x6 : Int32) (σ : jS) : Option (Int32 × jS) := (if jin x3 260 = true then (if (σ 18 x3.toNatClampNeg) = 0 then some ((0 : Int32), σ) else (jn_X12_reckonsTo_203 F (k16) x2 x3 x4 x5 x6 σ)) else none)
set_option maxHeartbeats 4000000 in
set_option maxRecDepth 100000 in
theorem jn_X12_reckonsTo_192_ok {G : jG} (C : jc cfM 33 G cX12_reckonsTo RX12 8 (some .int) 1) (F : Nat) {v : (Int32 × jS)} (k16 : Int32 → Int32 → Int32 → Int32 → jS → Option (Int32 × jS)) (hk16 : ∀ (x2 : Int32) (x3 : Int32) (x4 : Int32) (x5 : Int32) (σ : jS), k16 x2 x3 x4 x5 σ = some v → JM G 16 [(0, .ref (vad (gV G) 0)), (2, .int x2), (3, .int x3), (4, .int x4), (5, .int x5)] [] σ v) : ∀ (x2 : Int32) (x3 : Int32) (x4 : Int32) (x5 : Int32) (x6 : Int32) (σ : jS), jn_X12_reckonsTo_192 F k16 x2 x3 x4 x5 x6 σ = some v → JM G 192 [(0, .ref (vad (gV G) 0)), (2, .int x2), (3, .int x3), (4, .int x4), (5, .int x5), (6, .int x6)] [] σ v := by
  intro x2 x3 x4 x5 x6 σ hm
  unfold jn_X12_reckonsTo_192 at hm
  refine j_aloadn (pc := 192) C 0 dX12_reckonsTo_192 rfl rfl ?_
  refine gf_X12_62 (c := 0) (pc := 193) C km_0 dX12_reckonsTo_193 ?_
  refine j_iloadn (pc := 196) C 2 dX12_reckonsTo_196 rfl rfl ?_
  refine j_guard hm (fun hg25 hm => ?_)
  refine j_iald (c := 18) (n := 260) (pc := 197) C (kM_lt km_18 (by decide)) (cm_a km_18 lm_18 _) hg25 dX12_reckonsTo_197 ?_
  refine j_if_ne (tgt := 203) (pc := 198) C dX12_reckonsTo_198 (by decide) hm (fun _ hm => ?_) (fun _ hm => ?_)
  · refine j_iconst (v := 0) (pc := 201) C dX12_reckonsTo_201 (by decide) ?_
    exact j_iretS (pc := 202) C rfl dX12_reckonsTo_202 hm
  · exact jn_X12_reckonsTo_203_ok C F _ (fun _ _ _ _ _ hm => hk16 _ _ _ _ _ hm) _ _ _ _ _ _ hm

def lp_X12_reckonsTo_16 (F : Nat) : Nat → Int32 → Int32 → Int32 → Int32 → jS → Option (Int32 × jS)
  | 0, _, _, _, _, _ => none
  | n + 1, x2, x3, x4, x5, σ => (if x5 < x2 then (if jin x5 260 = true then (lt ((σ 13 x5.toNatClampNeg) / (1048576 : Int32)) fun y4 => (if jin x5 260 = true then (lt (irm (σ 13 x5.toNatClampNeg) (1048576 : Int32)) fun y7 => (lt (x5 + (1 : Int32)) fun y8 => (if y4 = 0 then (jn_X12_reckonsTo_63 F (lp_X12_reckonsTo_16 F n) x2 x3 x4 y8 y4 y7 σ) else (if y4 = (1 : Int32) then (jn_X12_reckonsTo_63 F (lp_X12_reckonsTo_16 F n) x2 x3 x4 y8 y4 y7 σ) else (if y4 = (10 : Int32) then (lt (x3 - (1 : Int32)) fun y16 => (if jin y16 260 = true then (if jin (x3 - (1 : Int32)) 260 = true then (lt (js σ 18 (x3 - (1 : Int32)).toNatClampNeg ((1 : Int32) - (σ 18 y16.toNatClampNeg))) fun σ18 => (lp_X12_reckonsTo_16 F n x2 x3 x4 y8 σ18)) else none) else none)) else (if y4 = (11 : Int32) then (jn_X12_reckonsTo_135 F (lp_X12_reckonsTo_16 F n) x2 x3 x4 y8 y4 y7 σ) else (if y4 = (12 : Int32) then (jn_X12_reckonsTo_135 F (lp_X12_reckonsTo_16 F n) x2 x3 x4 y8 y4 y7 σ) else (lt (x3 - (1 : Int32)) fun y24 => (if y4 = (5 : Int32) then (jn_X12_reckonsTo_192 F (lp_X12_reckonsTo_16 F n) x2 y24 x4 y8 y4 σ) else (if y4 = (6 : Int32) then (jn_X12_reckonsTo_192 F (lp_X12_reckonsTo_16 F n) x2 y24 x4 y8 y4 σ) else (jn_X12_reckonsTo_203 F (lp_X12_reckonsTo_16 F n) x2 y24 x4 y8 y4 σ))))))))))) else none)) else none) else some ((σ 18 0), σ))
set_option maxHeartbeats 4000000 in
set_option maxRecDepth 100000 in
theorem lp_X12_reckonsTo_16_ok {G : jG} (C : jc cfM 33 G cX12_reckonsTo RX12 8 (some .int) 1) (F : Nat) {v : (Int32 × jS)} : ∀ (n : Nat) (x2 : Int32) (x3 : Int32) (x4 : Int32) (x5 : Int32) (σ : jS), lp_X12_reckonsTo_16 F n x2 x3 x4 x5 σ = some v → JM G 16 [(0, .ref (vad (gV G) 0)), (2, .int x2), (3, .int x3), (4, .int x4), (5, .int x5)] [] σ v := by
  intro n
  induction n with
  | zero =>
    intro x2 x3 x4 x5 σ hm
    rw [lp_X12_reckonsTo_16] at hm
    cases hm
  | succ n ih =>
    intro x2 x3 x4 x5 σ hm
    rw [lp_X12_reckonsTo_16] at hm
    refine j_iload (pc := 16) C 4 dX12_reckonsTo_16 rfl ?_
    refine j_iloadn (pc := 18) C 1 dX12_reckonsTo_18 rfl rfl ?_
    refine j_icmp_ge (tgt := 233) (pc := 19) C dX12_reckonsTo_19 (by decide) hm (fun _ hm => ?_) (fun _ hm => ?_)
    · refine j_aloadn (pc := 22) C 0 dX12_reckonsTo_22 rfl rfl ?_
      refine gf_X12_47 (c := 0) (pc := 23) C km_0 dX12_reckonsTo_23 ?_
      refine j_iload (pc := 26) C 4 dX12_reckonsTo_26 rfl ?_
      refine j_guard hm (fun hg2 hm => ?_)
      refine j_iald (c := 13) (n := 260) (pc := 28) C (kM_lt km_13 (by decide)) (cm_a km_13 lm_13 _) hg2 dX12_reckonsTo_28 ?_
      refine j_ldc (v := 1048576) (pc := 29) C dX12_reckonsTo_29 tw_6_51 ?_
      refine j_idivK (pc := 31) C dX12_reckonsTo_31 (by decide) ?_
      refine j_lti hm (fun y4 hm => ?_)
      refine j_istore (ls' := [(6, .int y4), (0, .ref (vad (gV G) 0)), (2, .int x2), (3, .int x3), (4, .int x4), (5, .int x5)]) (pc := 32) C dX12_reckonsTo_32 (by decide) rfl ?_
      refine j_aloadn (pc := 34) C 1 dX12_reckonsTo_34 rfl rfl ?_
      refine gf_X12_47 (c := 0) (pc := 35) C km_0 dX12_reckonsTo_35 ?_
      refine j_iload (pc := 38) C 5 dX12_reckonsTo_38 rfl ?_
      refine j_guard hm (fun hg5 hm => ?_)
      refine j_iald (c := 13) (n := 260) (pc := 40) C (kM_lt km_13 (by decide)) (cm_a km_13 lm_13 _) hg5 dX12_reckonsTo_40 ?_
      refine j_ldc (v := 1048576) (pc := 41) C dX12_reckonsTo_41 tw_6_51 ?_
      refine j_iremK (pc := 43) C dX12_reckonsTo_43 (by decide) ?_
      refine j_lti hm (fun y7 hm => ?_)
      refine j_istore (ls' := [(7, .int y7), (6, .int y4), (0, .ref (vad (gV G) 0)), (2, .int x2), (3, .int x3), (4, .int x4), (5, .int x5)]) (pc := 44) C dX12_reckonsTo_44 (by decide) rfl ?_
      refine j_iload (pc := 46) C 6 dX12_reckonsTo_46 rfl ?_
      refine j_iconst (v := 1) (pc := 48) C dX12_reckonsTo_48 (by decide) ?_
      refine j_iadd (pc := 49) C dX12_reckonsTo_49 ?_
      refine j_lti hm (fun y8 hm => ?_)
      refine j_istore (ls' := [(5, .int y8), (7, .int y7), (6, .int y4), (0, .ref (vad (gV G) 0)), (2, .int x2), (3, .int x3), (4, .int x4)]) (pc := 50) C dX12_reckonsTo_50 (by decide) rfl ?_
      refine j_iload (pc := 52) C 2 dX12_reckonsTo_52 rfl ?_
      refine j_if_eq (tgt := 63) (pc := 54) C dX12_reckonsTo_54 (by decide) hm (fun _ hm => ?_) (fun _ hm => ?_)
      · refine j_ls [3, 4, 5, 6, 0, 2, 1] rfl ?_
        exact jn_X12_reckonsTo_63_ok C F _ (fun _ _ _ _ _ hm => ih _ _ _ _ _ hm) _ _ _ _ _ _ _ hm
      · refine j_iload (pc := 57) C 2 dX12_reckonsTo_57 rfl ?_
        refine j_iconst (v := 1) (pc := 59) C dX12_reckonsTo_59 (by decide) ?_
        refine j_icmp_ne (tgt := 93) (pc := 60) C dX12_reckonsTo_60 (by decide) hm (fun _ hm => ?_) (fun _ hm => ?_)
        · refine j_ls [3, 4, 5, 6, 0, 2, 1] rfl ?_
          exact jn_X12_reckonsTo_63_ok C F _ (fun _ _ _ _ _ hm => ih _ _ _ _ _ hm) _ _ _ _ _ _ _ hm
        · refine j_iload (pc := 93) C 2 dX12_reckonsTo_93 rfl ?_
          refine j_bipush (v := 10) (pc := 95) C dX12_reckonsTo_95 (by decide) ?_
          refine j_icmp_ne (tgt := 121) (pc := 97) C dX12_reckonsTo_97 (by decide) hm (fun _ hm => ?_) (fun _ hm => ?_)
          · refine j_aloadn (pc := 100) C 3 dX12_reckonsTo_100 rfl rfl ?_
            refine gf_X12_62 (c := 0) (pc := 101) C km_0 dX12_reckonsTo_101 ?_
            refine j_iloadn (pc := 104) C 5 dX12_reckonsTo_104 rfl rfl ?_
            refine j_iconst (v := 1) (pc := 105) C dX12_reckonsTo_105 (by decide) ?_
            refine j_isub (pc := 106) C dX12_reckonsTo_106 ?_
            refine j_iconst (v := 1) (pc := 107) C dX12_reckonsTo_107 (by decide) ?_
            refine j_aloadn (pc := 108) C 3 dX12_reckonsTo_108 rfl rfl ?_
            refine gf_X12_62 (c := 0) (pc := 109) C km_0 dX12_reckonsTo_109 ?_
            refine j_iloadn (pc := 112) C 5 dX12_reckonsTo_112 rfl rfl ?_
            refine j_iconst (v := 1) (pc := 113) C dX12_reckonsTo_113 (by decide) ?_
            refine j_isub (pc := 114) C dX12_reckonsTo_114 ?_
            refine j_lti hm (fun y16 hm => ?_)
            refine j_guard hm (fun hg17 hm => ?_)
            refine j_iald (c := 18) (n := 260) (pc := 115) C (kM_lt km_18 (by decide)) (cm_a km_18 lm_18 _) hg17 dX12_reckonsTo_115 ?_
            refine j_isub (pc := 116) C dX12_reckonsTo_116 ?_
            refine j_guard hm (fun hg19 hm => ?_)
            refine j_iastL (c := 18) (n := 260) (pc := 117) C (kM_lt km_18 (by decide)) (cm_a km_18 lm_18) hg19 dX12_reckonsTo_117 hm (fun σ18 hm => ?_)
            refine j_goto (tgt := 230) (pc := 118) C dX12_reckonsTo_118 (by decide) ?_
            refine j_goto (tgt := 16) (pc := 230) C dX12_reckonsTo_230 (by decide) ?_
            refine j_ls [3, 4, 5, 6, 0] rfl ?_
            exact ih _ _ _ _ _ hm
          · refine j_iload (pc := 121) C 2 dX12_reckonsTo_121 rfl ?_
            refine j_bipush (v := 11) (pc := 123) C dX12_reckonsTo_123 (by decide) ?_
            refine j_icmp_eq (tgt := 135) (pc := 125) C dX12_reckonsTo_125 (by decide) hm (fun _ hm => ?_) (fun _ hm => ?_)
            · refine j_ls [3, 4, 5, 6, 0, 2, 1] rfl ?_
              exact jn_X12_reckonsTo_135_ok C F _ (fun _ _ _ _ _ hm => ih _ _ _ _ _ hm) _ _ _ _ _ _ _ hm
            · refine j_iload (pc := 128) C 2 dX12_reckonsTo_128 rfl ?_
              refine j_bipush (v := 12) (pc := 130) C dX12_reckonsTo_130 (by decide) ?_
              refine j_icmp_ne (tgt := 175) (pc := 132) C dX12_reckonsTo_132 (by decide) hm (fun _ hm => ?_) (fun _ hm => ?_)
              · refine j_ls [3, 4, 5, 6, 0, 2, 1] rfl ?_
                exact jn_X12_reckonsTo_135_ok C F _ (fun _ _ _ _ _ hm => ih _ _ _ _ _ hm) _ _ _ _ _ _ _ hm
              · refine j_iloadn (pc := 175) C 5 dX12_reckonsTo_175 rfl rfl ?_
                refine j_iconst (v := 1) (pc := 176) C dX12_reckonsTo_176 (by decide) ?_
                refine j_isub (pc := 177) C dX12_reckonsTo_177 ?_
                refine j_lti hm (fun y24 hm => ?_)
                refine j_istoren (ls' := [(3, .int y24), (5, .int y8), (7, .int y7), (6, .int y4), (0, .ref (vad (gV G) 0)), (2, .int x2), (4, .int x4)]) (pc := 178) C dX12_reckonsTo_178 rfl (by decide) rfl ?_
                refine j_iload (pc := 179) C 3 dX12_reckonsTo_179 rfl ?_
                refine j_iconst (v := 5) (pc := 181) C dX12_reckonsTo_181 (by decide) ?_
                refine j_icmp_eq (tgt := 192) (pc := 182) C dX12_reckonsTo_182 (by decide) hm (fun _ hm => ?_) (fun _ hm => ?_)
                · refine j_ls [4, 5, 0, 6, 1, 3] rfl ?_
                  exact jn_X12_reckonsTo_192_ok C F _ (fun _ _ _ _ _ hm => ih _ _ _ _ _ hm) _ _ _ _ _ _ hm
                · refine j_iload (pc := 185) C 3 dX12_reckonsTo_185 rfl ?_
                  refine j_bipush (v := 6) (pc := 187) C dX12_reckonsTo_187 (by decide) ?_
                  refine j_icmp_ne (tgt := 203) (pc := 189) C dX12_reckonsTo_189 (by decide) hm (fun _ hm => ?_) (fun _ hm => ?_)
                  · refine j_ls [4, 5, 0, 6, 1, 3] rfl ?_
                    exact jn_X12_reckonsTo_192_ok C F _ (fun _ _ _ _ _ hm => ih _ _ _ _ _ hm) _ _ _ _ _ _ hm
                  · refine j_ls [4, 5, 0, 6, 1, 3] rfl ?_
                    exact jn_X12_reckonsTo_203_ok C F _ (fun _ _ _ _ _ hm => ih _ _ _ _ _ hm) _ _ _ _ _ _ hm
    · refine j_aloadn (pc := 233) C 0 dX12_reckonsTo_233 rfl rfl ?_
      refine gf_X12_62 (c := 0) (pc := 234) C km_0 dX12_reckonsTo_234 ?_
      refine j_iconst (v := 0) (pc := 237) C dX12_reckonsTo_237 (by decide) ?_
      refine j_ialdK (c := 18) (n := 260) (k := 0) (pc := 238) C (kM_lt km_18 (by decide)) (cm_a km_18 lm_18 _) rfl (by decide) dX12_reckonsTo_238 ?_
      exact j_iretS (pc := 239) C rfl dX12_reckonsTo_239 hm

def mX12_reckonsTo (F : Nat) (x1 : Int32) (x2 : Int32) (σ : jS) : Option (Int32 × jS) := (lt ((260 : Int32) * (x1 / (260 : Int32))) fun y1 => (lp_X12_reckonsTo_16 F F x2 (0 : Int32) y1 x1 σ))
set_option maxHeartbeats 4000000 in
set_option maxRecDepth 100000 in
theorem kX12_reckonsTo {V : jV} {F : Nat} {x1 : Int32} {x2 : Int32} {σ : jS} {v : (Int32 × jS)} (hm : mX12_reckonsTo F x1 x2 σ = some v) : Ct cfM 33 V yX12_reckonsTo cX12_reckonsTo 8 (some .int) 1 [.ref (vad V 0), .int x1, .int x2] σ v := by
  refine j_start (own := RX12) (by decide) rfl (Nat.le_of_ble_eq_true rfl) ?_
  intro G hV C
  subst hV
  unfold mX12_reckonsTo at hm
  show JM G 0 [(0, .ref (vad (gV G) 0)), (1, .int x1), (2, .int x2)] [] σ v
  refine j_iconst (v := 0) (pc := 0) C dX12_reckonsTo_0 (by decide) ?_
  refine j_istoren (ls' := [(3, .int (0 : Int32)), (0, .ref (vad (gV G) 0)), (1, .int x1), (2, .int x2)]) (pc := 1) C dX12_reckonsTo_1 rfl (by decide) rfl ?_
  refine j_sipush (v := 260) (pc := 2) C dX12_reckonsTo_2 (by decide) ?_
  refine j_iloadn (pc := 5) C 2 dX12_reckonsTo_5 rfl rfl ?_
  refine j_sipush (v := 260) (pc := 6) C dX12_reckonsTo_6 (by decide) ?_
  refine j_idivK (pc := 9) C dX12_reckonsTo_9 (by decide) ?_
  refine j_imul (pc := 10) C dX12_reckonsTo_10 ?_
  refine j_lti hm (fun y1 hm => ?_)
  refine j_istore (ls' := [(4, .int y1), (3, .int (0 : Int32)), (0, .ref (vad (gV G) 0)), (1, .int x1), (2, .int x2)]) (pc := 11) C dX12_reckonsTo_11 (by decide) rfl ?_
  refine j_iloadn (pc := 13) C 3 dX12_reckonsTo_13 rfl rfl ?_
  refine j_istore (ls' := [(5, .int x1), (4, .int y1), (3, .int (0 : Int32)), (0, .ref (vad (gV G) 0)), (1, .int x1), (2, .int x2)]) (pc := 14) C dX12_reckonsTo_14 (by decide) rfl ?_
  refine j_ls [3, 5, 2, 1, 0] rfl ?_
  exact lp_X12_reckonsTo_16_ok C F  F _ _ _ _ _ hm

def lp_X12_byLaw_3 (F : Nat) (k48 : Int32 → Int32 → Int32 → jS → Option (Int32 × jS)) : Nat → Int32 → Int32 → Int32 → Int32 → Int32 → jS → Option (Int32 × jS)
  | 0, _, _, _, _, _, _ => none
  | n + 1, x1, x2, x3, x4, x5, σ => (if x5 < (σ 0 15) then (if jin x5 16 = true then (if (σ 14 x5.toNatClampNeg) = x1 then (if jin x5 16 = true then (if jin x5 16 = true then (Option.bind (mX12_reckonsTo F ((σ 16 x5.toNatClampNeg)) ((σ 17 x5.toNatClampNeg)) σ) fun q4 => (if q4.1 = (1 : Int32) then (k48 x2 x3 x5 q4.2) else (lp_X12_byLaw_3 F k48 n x1 x2 x3 x4 ((x5 + (1 : Int32))) q4.2))) else none) else none) else (lp_X12_byLaw_3 F k48 n x1 x2 x3 x4 ((x5 + (1 : Int32))) σ)) else none) else some (x4, σ))
set_option maxHeartbeats 4000000 in
set_option maxRecDepth 100000 in
theorem lp_X12_byLaw_3_ok {G : jG} (C : jc cfM 33 G cX12_byLaw RX12 7 (some .int) 2) (F : Nat) {v : (Int32 × jS)} (k48 : Int32 → Int32 → Int32 → jS → Option (Int32 × jS)) (hk48 : ∀ (x2 : Int32) (x3 : Int32) (x5 : Int32) (σ : jS), k48 x2 x3 x5 σ = some v → JM G 48 [(0, .ref (vad (gV G) 0)), (2, .int x2), (3, .int x3), (5, .int x5)] [] σ v) : ∀ (n : Nat) (x1 : Int32) (x2 : Int32) (x3 : Int32) (x4 : Int32) (x5 : Int32) (σ : jS), lp_X12_byLaw_3 F k48 n x1 x2 x3 x4 x5 σ = some v → JM G 3 [(0, .ref (vad (gV G) 0)), (1, .int x1), (2, .int x2), (3, .int x3), (4, .int x4), (5, .int x5)] [] σ v := by
  intro n
  induction n with
  | zero =>
    intro x1 x2 x3 x4 x5 σ hm
    rw [lp_X12_byLaw_3] at hm
    cases hm
  | succ n ih =>
    intro x1 x2 x3 x4 x5 σ hm
    rw [lp_X12_byLaw_3] at hm
    refine j_iload (pc := 3) C 5 dX12_byLaw_3 rfl ?_
    refine j_aloadn (pc := 5) C 0 dX12_byLaw_5 rfl rfl ?_
    refine gf_X12_222 (c := 0) (pc := 6) C km_0 dX12_byLaw_6 ?_
    refine j_icmp_ge (tgt := 97) (pc := 9) C dX12_byLaw_9 (by decide) hm (fun _ hm => ?_) (fun _ hm => ?_)
    · refine j_aloadn (pc := 12) C 0 dX12_byLaw_12 rfl rfl ?_
      refine gf_X12_50 (c := 0) (pc := 13) C km_0 dX12_byLaw_13 ?_
      refine j_iload (pc := 16) C 5 dX12_byLaw_16 rfl ?_
      refine j_guard hm (fun hg1 hm => ?_)
      refine j_iald (c := 14) (n := 16) (pc := 18) C (kM_lt km_14 (by decide)) (cm_a km_14 lm_14 _) hg1 dX12_byLaw_18 ?_
      refine j_iloadn (pc := 19) C 1 dX12_byLaw_19 rfl rfl ?_
      refine j_icmp_ne (tgt := 91) (pc := 20) C dX12_byLaw_20 (by decide) hm (fun _ hm => ?_) (fun _ hm => ?_)
      · refine j_aloadn (pc := 23) C 0 dX12_byLaw_23 rfl rfl ?_
        refine j_aloadn (pc := 24) C 0 dX12_byLaw_24 rfl rfl ?_
        refine gf_X12_56 (c := 0) (pc := 25) C km_0 dX12_byLaw_25 ?_
        refine j_iload (pc := 28) C 5 dX12_byLaw_28 rfl ?_
        refine j_guard hm (fun hg2 hm => ?_)
        refine j_iald (c := 16) (n := 16) (pc := 30) C (kM_lt km_16 (by decide)) (cm_a km_16 lm_16 _) hg2 dX12_byLaw_30 ?_
        refine j_aloadn (pc := 31) C 0 dX12_byLaw_31 rfl rfl ?_
        refine gf_X12_59 (c := 0) (pc := 32) C km_0 dX12_byLaw_32 ?_
        refine j_iload (pc := 35) C 5 dX12_byLaw_35 rfl ?_
        refine j_guard hm (fun hg3 hm => ?_)
        refine j_iald (c := 17) (n := 16) (pc := 37) C (kM_lt km_17 (by decide)) (cm_a km_17 lm_17 _) hg3 dX12_byLaw_37 ?_
        obtain ⟨q4, hq4, hm⟩ := Option.bind_eq_some_iff.mp hm
        refine cl_X12_229 (c := 0) (pc := 38) C km_0 (kX12_reckonsTo hq4) (by decide) (Nat.le_of_ble_eq_true rfl) dX12_byLaw_38 ?_
        refine j_iconst (v := 1) (pc := 41) C dX12_byLaw_41 (by decide) ?_
        refine j_icmp_eq (tgt := 48) (pc := 42) C dX12_byLaw_42 (by decide) hm (fun _ hm => ?_) (fun _ hm => ?_)
        · refine j_ls [0, 2, 3, 5] rfl ?_
          exact hk48 _ _ _ _ hm
        · refine j_goto (tgt := 91) (pc := 45) C dX12_byLaw_45 (by decide) ?_
          refine j_iinc (v := (x5 + (1 : Int32))) (ls' := [(5, .int (x5 + (1 : Int32))), (0, .ref (vad (gV G) 0)), (1, .int x1), (2, .int x2), (3, .int x3), (4, .int x4)]) (pc := 91) C 5 dX12_byLaw_91 rfl rfl (by decide) rfl ?_
          refine j_goto (tgt := 3) (pc := 94) C dX12_byLaw_94 (by decide) ?_
          refine j_ls [1, 2, 3, 4, 5, 0] rfl ?_
          exact ih _ _ _ _ _ _ hm
      · refine j_iinc (v := (x5 + (1 : Int32))) (ls' := [(5, .int (x5 + (1 : Int32))), (0, .ref (vad (gV G) 0)), (1, .int x1), (2, .int x2), (3, .int x3), (4, .int x4)]) (pc := 91) C 5 dX12_byLaw_91 rfl rfl (by decide) rfl ?_
        refine j_goto (tgt := 3) (pc := 94) C dX12_byLaw_94 (by decide) ?_
        refine j_ls [1, 2, 3, 4, 5, 0] rfl ?_
        exact ih _ _ _ _ _ _ hm
    · refine j_iload (pc := 97) C 4 dX12_byLaw_97 rfl ?_
      exact j_iretS (pc := 99) C rfl dX12_byLaw_99 hm

def mX12_byLaw (F : Nat) (x1 : Int32) (x2 : Int32) (x3 : Int32) (x4 : Int32) (σ : jS) : Option (Int32 × jS) := (lp_X12_byLaw_3 F (fun x2_5 x3_5 x5_5 σ5 => (if jin x5_5 16 = true then (if jin x5_5 16 = true then (Option.bind (mX12_reckonsTo F ((σ5 15 x5_5.toNatClampNeg)) ((σ5 16 x5_5.toNatClampNeg)) σ5) fun q8 => (if q8.1 < x2_5 then some (x2_5, q8.2) else (if x3_5 < q8.1 then some (x3_5, q8.2) else some (q8.1, q8.2)))) else none) else none)) F x1 x2 x3 x4 (0 : Int32) σ)
set_option maxHeartbeats 4000000 in
set_option maxRecDepth 100000 in
theorem kX12_byLaw {V : jV} {F : Nat} {x1 : Int32} {x2 : Int32} {x3 : Int32} {x4 : Int32} {σ : jS} {v : (Int32 × jS)} (hm : mX12_byLaw F x1 x2 x3 x4 σ = some v) : Ct cfM 33 V yX12_byLaw cX12_byLaw 7 (some .int) 2 [.ref (vad V 0), .int x1, .int x2, .int x3, .int x4] σ v := by
  refine j_start (own := RX12) (by decide) rfl (Nat.le_of_ble_eq_true rfl) ?_
  intro G hV C
  subst hV
  unfold mX12_byLaw at hm
  show JM G 0 [(0, .ref (vad (gV G) 0)), (1, .int x1), (2, .int x2), (3, .int x3), (4, .int x4)] [] σ v
  refine j_iconst (v := 0) (pc := 0) C dX12_byLaw_0 (by decide) ?_
  refine j_istore (ls' := [(5, .int (0 : Int32)), (0, .ref (vad (gV G) 0)), (1, .int x1), (2, .int x2), (3, .int x3), (4, .int x4)]) (pc := 1) C dX12_byLaw_1 (by decide) rfl ?_
  refine j_ls [1, 2, 3, 4, 5, 0] rfl ?_
  refine lp_X12_byLaw_3_ok C F _ (fun x2_5 x3_5 x5_5 σ5 hm => ?_) F _ _ _ _ _ _ hm
  refine j_aloadn (pc := 48) C 0 dX12_byLaw_48 rfl rfl ?_
  refine j_aloadn (pc := 49) C 0 dX12_byLaw_49 rfl rfl ?_
  refine gf_X12_53 (c := 0) (pc := 50) C km_0 dX12_byLaw_50 ?_
  refine j_iload (pc := 53) C 3 dX12_byLaw_53 rfl ?_
  refine j_guard hm (fun hg6 hm => ?_)
  refine j_iald (c := 15) (n := 16) (pc := 55) C (kM_lt km_15 (by decide)) (cm_a km_15 lm_15 _) hg6 dX12_byLaw_55 ?_
  refine j_aloadn (pc := 56) C 0 dX12_byLaw_56 rfl rfl ?_
  refine gf_X12_56 (c := 0) (pc := 57) C km_0 dX12_byLaw_57 ?_
  refine j_iload (pc := 60) C 3 dX12_byLaw_60 rfl ?_
  refine j_guard hm (fun hg7 hm => ?_)
  refine j_iald (c := 16) (n := 16) (pc := 62) C (kM_lt km_16 (by decide)) (cm_a km_16 lm_16 _) hg7 dX12_byLaw_62 ?_
  obtain ⟨q8, hq8, hm⟩ := Option.bind_eq_some_iff.mp hm
  refine cl_X12_229 (c := 0) (pc := 63) C km_0 (kX12_reckonsTo hq8) (by decide) (Nat.le_of_ble_eq_true rfl) dX12_byLaw_63 ?_
  refine j_istore (ls' := [(6, .int q8.1), (0, .ref (vad (gV G) 0)), (2, .int x2_5), (3, .int x3_5), (5, .int x5_5)]) (pc := 66) C dX12_byLaw_66 (by decide) rfl ?_
  refine j_iload (pc := 68) C 0 dX12_byLaw_68 rfl ?_
  refine j_iloadn (pc := 70) C 2 dX12_byLaw_70 rfl rfl ?_
  refine j_icmp_ge (tgt := 78) (pc := 71) C dX12_byLaw_71 (by decide) hm (fun _ hm => ?_) (fun _ hm => ?_)
  · refine j_iloadn (pc := 74) C 2 dX12_byLaw_74 rfl rfl ?_
    refine j_goto (tgt := 90) (pc := 75) C dX12_byLaw_75 (by decide) ?_
    exact j_iretS (pc := 90) C rfl dX12_byLaw_90 hm
  · refine j_iload (pc := 78) C 0 dX12_byLaw_78 rfl ?_
    refine j_iloadn (pc := 80) C 3 dX12_byLaw_80 rfl rfl ?_
    refine j_icmp_le (tgt := 88) (pc := 81) C dX12_byLaw_81 (by decide) hm (fun _ hm => ?_) (fun _ hm => ?_)
    · refine j_iloadn (pc := 84) C 3 dX12_byLaw_84 rfl rfl ?_
      refine j_goto (tgt := 90) (pc := 85) C dX12_byLaw_85 (by decide) ?_
      exact j_iretS (pc := 90) C rfl dX12_byLaw_90 hm
    · refine j_iload (pc := 88) C 0 dX12_byLaw_88 rfl ?_
      exact j_iretS (pc := 90) C rfl dX12_byLaw_90 hm

def lp_X12_holdsAny_2 (F : Nat) : Nat → Int32 → Int32 → jS → Option (Int32 × jS)
  | 0, _, _, _ => none
  | n + 1, x1, x2, σ => (if x2 < (σ 0 15) then (if jin x2 16 = true then (if (σ 14 x2.toNatClampNeg) = x1 then (if jin x2 16 = true then (if jin x2 16 = true then (Option.bind (mX12_reckonsTo F ((σ 16 x2.toNatClampNeg)) ((σ 17 x2.toNatClampNeg)) σ) fun q4 => (if q4.1 = (1 : Int32) then some ((1 : Int32), q4.2) else (lp_X12_holdsAny_2 F n x1 ((x2 + (1 : Int32))) q4.2))) else none) else none) else (lp_X12_holdsAny_2 F n x1 ((x2 + (1 : Int32))) σ)) else none) else some ((0 : Int32), σ))
set_option maxHeartbeats 4000000 in
set_option maxRecDepth 100000 in
theorem lp_X12_holdsAny_2_ok {G : jG} (C : jc cfM 33 G cX12_holdsAny RX12 3 (some .boolean) 2) (F : Nat) {v : (Int32 × jS)} : ∀ (n : Nat) (x1 : Int32) (x2 : Int32) (σ : jS), lp_X12_holdsAny_2 F n x1 x2 σ = some v → JM G 2 [(0, .ref (vad (gV G) 0)), (1, .int x1), (2, .int x2)] [] σ v := by
  intro n
  induction n with
  | zero =>
    intro x1 x2 σ hm
    rw [lp_X12_holdsAny_2] at hm
    cases hm
  | succ n ih =>
    intro x1 x2 σ hm
    rw [lp_X12_holdsAny_2] at hm
    refine j_iloadn (pc := 2) C 2 dX12_holdsAny_2 rfl rfl ?_
    refine j_aloadn (pc := 3) C 0 dX12_holdsAny_3 rfl rfl ?_
    refine gf_X12_222 (c := 0) (pc := 4) C km_0 dX12_holdsAny_4 ?_
    refine j_icmp_ge (tgt := 48) (pc := 7) C dX12_holdsAny_7 (by decide) hm (fun _ hm => ?_) (fun _ hm => ?_)
    · refine j_aloadn (pc := 10) C 0 dX12_holdsAny_10 rfl rfl ?_
      refine gf_X12_50 (c := 0) (pc := 11) C km_0 dX12_holdsAny_11 ?_
      refine j_iloadn (pc := 14) C 2 dX12_holdsAny_14 rfl rfl ?_
      refine j_guard hm (fun hg1 hm => ?_)
      refine j_iald (c := 14) (n := 16) (pc := 15) C (kM_lt km_14 (by decide)) (cm_a km_14 lm_14 _) hg1 dX12_holdsAny_15 ?_
      refine j_iloadn (pc := 16) C 1 dX12_holdsAny_16 rfl rfl ?_
      refine j_icmp_ne (tgt := 42) (pc := 17) C dX12_holdsAny_17 (by decide) hm (fun _ hm => ?_) (fun _ hm => ?_)
      · refine j_aloadn (pc := 20) C 0 dX12_holdsAny_20 rfl rfl ?_
        refine j_aloadn (pc := 21) C 0 dX12_holdsAny_21 rfl rfl ?_
        refine gf_X12_56 (c := 0) (pc := 22) C km_0 dX12_holdsAny_22 ?_
        refine j_iloadn (pc := 25) C 2 dX12_holdsAny_25 rfl rfl ?_
        refine j_guard hm (fun hg2 hm => ?_)
        refine j_iald (c := 16) (n := 16) (pc := 26) C (kM_lt km_16 (by decide)) (cm_a km_16 lm_16 _) hg2 dX12_holdsAny_26 ?_
        refine j_aloadn (pc := 27) C 0 dX12_holdsAny_27 rfl rfl ?_
        refine gf_X12_59 (c := 0) (pc := 28) C km_0 dX12_holdsAny_28 ?_
        refine j_iloadn (pc := 31) C 2 dX12_holdsAny_31 rfl rfl ?_
        refine j_guard hm (fun hg3 hm => ?_)
        refine j_iald (c := 17) (n := 16) (pc := 32) C (kM_lt km_17 (by decide)) (cm_a km_17 lm_17 _) hg3 dX12_holdsAny_32 ?_
        obtain ⟨q4, hq4, hm⟩ := Option.bind_eq_some_iff.mp hm
        refine cl_X12_229 (c := 0) (pc := 33) C km_0 (kX12_reckonsTo hq4) (by decide) (Nat.le_of_ble_eq_true rfl) dX12_holdsAny_33 ?_
        refine j_iconst (v := 1) (pc := 36) C dX12_holdsAny_36 (by decide) ?_
        refine j_icmp_ne (tgt := 42) (pc := 37) C dX12_holdsAny_37 (by decide) hm (fun _ hm => ?_) (fun _ hm => ?_)
        · refine j_iconst (v := 1) (pc := 40) C dX12_holdsAny_40 (by decide) ?_
          exact j_zretS (pc := 41) C rfl rfl dX12_holdsAny_41 hm
        · refine j_iinc (v := (x2 + (1 : Int32))) (ls' := [(2, .int (x2 + (1 : Int32))), (0, .ref (vad (gV G) 0)), (1, .int x1)]) (pc := 42) C 2 dX12_holdsAny_42 rfl rfl (by decide) rfl ?_
          refine j_goto (tgt := 2) (pc := 45) C dX12_holdsAny_45 (by decide) ?_
          refine j_ls [1, 2, 0] rfl ?_
          exact ih _ _ _ hm
      · refine j_iinc (v := (x2 + (1 : Int32))) (ls' := [(2, .int (x2 + (1 : Int32))), (0, .ref (vad (gV G) 0)), (1, .int x1)]) (pc := 42) C 2 dX12_holdsAny_42 rfl rfl (by decide) rfl ?_
        refine j_goto (tgt := 2) (pc := 45) C dX12_holdsAny_45 (by decide) ?_
        refine j_ls [1, 2, 0] rfl ?_
        exact ih _ _ _ hm
    · refine j_iconst (v := 0) (pc := 48) C dX12_holdsAny_48 (by decide) ?_
      exact j_zretS (pc := 49) C rfl rfl dX12_holdsAny_49 hm

def mX12_holdsAny (F : Nat) (x1 : Int32) (σ : jS) : Option (Int32 × jS) := (lp_X12_holdsAny_2 F F x1 (0 : Int32) σ)
set_option maxHeartbeats 4000000 in
set_option maxRecDepth 100000 in
theorem kX12_holdsAny {V : jV} {F : Nat} {x1 : Int32} {σ : jS} {v : (Int32 × jS)} (hm : mX12_holdsAny F x1 σ = some v) : Ct cfM 33 V yX12_holdsAny cX12_holdsAny 3 (some .boolean) 2 [.ref (vad V 0), .int x1] σ v := by
  refine j_start (own := RX12) (by decide) rfl (Nat.le_of_ble_eq_true rfl) ?_
  intro G hV C
  subst hV
  unfold mX12_holdsAny at hm
  show JM G 0 [(0, .ref (vad (gV G) 0)), (1, .int x1)] [] σ v
  refine j_iconst (v := 0) (pc := 0) C dX12_holdsAny_0 (by decide) ?_
  refine j_istoren (ls' := [(2, .int (0 : Int32)), (0, .ref (vad (gV G) 0)), (1, .int x1)]) (pc := 1) C dX12_holdsAny_1 rfl (by decide) rfl ?_
  refine j_ls [1, 2, 0] rfl ?_
  exact lp_X12_holdsAny_2_ok C F  F _ _ _ hm

def mX12_readsTimes (F : Nat) (σ : jS) : Option jS := (lt (js σ 0 35 (σ 0 7)) fun σ1 => (lt (js σ1 0 36 (1 : Int32)) fun σ2 => (Option.bind (mX12_here F σ2) fun q3 => (Option.bind (mX12_in F q3 (50 : Int32) (57 : Int32) σ2) fun q4 => (if q4 = 0 then some σ2 else (Option.bind (mX12_here F σ2) fun q5 => (lt (js σ2 0 36 (q5 - (48 : Int32))) fun σ6 => (lt (js σ6 0 7 ((σ6 0 7) + (1 : Int32))) fun σ7 => some σ7))))))))
set_option maxHeartbeats 4000000 in
set_option maxRecDepth 100000 in
theorem kX12_readsTimes {V : jV} {F : Nat} {σ : jS} {v : jS} (hm : mX12_readsTimes F σ = some v) : Ct cfM 33 V yX12_readsTimes cX12_readsTimes 1 none 1 [.ref (vad V 0)] σ (0, v) := by
  refine j_start (own := RX12) (by decide) rfl (Nat.le_of_ble_eq_true rfl) ?_
  intro G hV C
  subst hV
  unfold mX12_readsTimes at hm
  show JM G 0 [(0, .ref (vad (gV G) 0))] [] σ (0, v)
  refine j_aloadn (pc := 0) C 0 dX12_readsTimes_0 rfl rfl ?_
  refine j_aloadn (pc := 1) C 0 dX12_readsTimes_1 rfl rfl ?_
  refine gf_X12_128 (c := 0) (pc := 2) C km_0 dX12_readsTimes_2 ?_
  refine pf_X12_233 (c := 0) (pc := 5) C km_0 dX12_readsTimes_5 hm (fun σ1 hm => ?_)
  refine j_aloadn (pc := 8) C 0 dX12_readsTimes_8 rfl rfl ?_
  refine j_iconst (v := 1) (pc := 9) C dX12_readsTimes_9 (by decide) ?_
  refine pf_X12_236 (c := 0) (pc := 10) C km_0 dX12_readsTimes_10 hm (fun σ2 hm => ?_)
  refine j_aloadn (pc := 13) C 0 dX12_readsTimes_13 rfl rfl ?_
  obtain ⟨q3, hq3, hm⟩ := Option.bind_eq_some_iff.mp hm
  refine cl_X12_134 (c := 0) (pc := 14) C km_0 (kX12_here hq3) (by decide) (Nat.le_of_ble_eq_true rfl) dX12_readsTimes_14 ?_
  refine j_bipush (v := 50) (pc := 17) C dX12_readsTimes_17 (by decide) ?_
  refine j_bipush (v := 57) (pc := 19) C dX12_readsTimes_19 (by decide) ?_
  obtain ⟨q4, hq4, hm⟩ := Option.bind_eq_some_iff.mp hm
  refine cl_X12_107 (pc := 21) C (kX12_in hq4) (by decide) (Nat.le_of_ble_eq_true rfl) dX12_readsTimes_21 ?_
  refine j_if_ne (tgt := 28) (pc := 24) C dX12_readsTimes_24 (by decide) hm (fun _ hm => ?_) (fun _ hm => ?_)
  · exact j_vret (pc := 27) C rfl dX12_readsTimes_27 hm
  · refine j_aloadn (pc := 28) C 0 dX12_readsTimes_28 rfl rfl ?_
    refine j_aloadn (pc := 29) C 0 dX12_readsTimes_29 rfl rfl ?_
    obtain ⟨q5, hq5, hm⟩ := Option.bind_eq_some_iff.mp hm
    refine cl_X12_134 (c := 0) (pc := 30) C km_0 (kX12_here hq5) (by decide) (Nat.le_of_ble_eq_true rfl) dX12_readsTimes_30 ?_
    refine j_bipush (v := 48) (pc := 33) C dX12_readsTimes_33 (by decide) ?_
    refine j_isub (pc := 35) C dX12_readsTimes_35 ?_
    refine pf_X12_236 (c := 0) (pc := 36) C km_0 dX12_readsTimes_36 hm (fun σ6 hm => ?_)
    refine j_aloadn (pc := 39) C 0 dX12_readsTimes_39 rfl rfl ?_
    refine j_aloadn (pc := 40) C 0 dX12_readsTimes_40 rfl rfl ?_
    refine gf_X12_128 (c := 0) (pc := 41) C km_0 dX12_readsTimes_41 ?_
    refine j_iconst (v := 1) (pc := 44) C dX12_readsTimes_44 (by decide) ?_
    refine j_iadd (pc := 45) C dX12_readsTimes_45 ?_
    refine pf_X12_128 (c := 0) (pc := 46) C km_0 dX12_readsTimes_46 hm (fun σ7 hm => ?_)
    exact j_vret (pc := 49) C rfl dX12_readsTimes_49 hm

def lp_X12_repeats_31 (F : Nat) : Nat → Int32 → Int32 → Int32 → Int32 → jS → Option (Int32 × jS)
  | 0, _, _, _, _, _ => none
  | n + 1, x1, x2, x4, x5, σ => (if x5 < (x4 * x2) then (lt ((x1 + x5) - x4) fun y4 => (if jin y4 24 = true then (if jin (x1 + x5) 24 = true then (lt (js σ 20 (x1 + x5).toNatClampNeg (σ 20 y4.toNatClampNeg)) fun σ6 => (lp_X12_repeats_31 F n x1 x2 x4 ((x5 + (1 : Int32))) σ6)) else none) else none)) else (lt (js σ 0 33 (x1 + (x4 * x2))) fun σ8 => some ((1 : Int32), σ8)))
set_option maxHeartbeats 4000000 in
set_option maxRecDepth 100000 in
theorem lp_X12_repeats_31_ok {G : jG} (C : jc cfM 33 G cX12_repeats RX12 6 (some .boolean) 1) (F : Nat) {v : (Int32 × jS)} : ∀ (n : Nat) (x1 : Int32) (x2 : Int32) (x4 : Int32) (x5 : Int32) (σ : jS), lp_X12_repeats_31 F n x1 x2 x4 x5 σ = some v → JM G 31 [(0, .ref (vad (gV G) 0)), (1, .int x1), (2, .int x2), (4, .int x4), (5, .int x5)] [] σ v := by
  intro n
  induction n with
  | zero =>
    intro x1 x2 x4 x5 σ hm
    rw [lp_X12_repeats_31] at hm
    cases hm
  | succ n ih =>
    intro x1 x2 x4 x5 σ hm
    rw [lp_X12_repeats_31] at hm
    refine j_iload (pc := 31) C 4 dX12_repeats_31 rfl ?_
    refine j_iload (pc := 33) C 3 dX12_repeats_33 rfl ?_
    refine j_iloadn (pc := 35) C 2 dX12_repeats_35 rfl rfl ?_
    refine j_imul (pc := 36) C dX12_repeats_36 ?_
    refine j_icmp_ge (tgt := 67) (pc := 37) C dX12_repeats_37 (by decide) hm (fun _ hm => ?_) (fun _ hm => ?_)
    · refine j_aloadn (pc := 40) C 0 dX12_repeats_40 rfl rfl ?_
      refine gf_X12_68 (c := 0) (pc := 41) C km_0 dX12_repeats_41 ?_
      refine j_iloadn (pc := 44) C 1 dX12_repeats_44 rfl rfl ?_
      refine j_iload (pc := 45) C 4 dX12_repeats_45 rfl ?_
      refine j_iadd (pc := 47) C dX12_repeats_47 ?_
      refine j_aloadn (pc := 48) C 0 dX12_repeats_48 rfl rfl ?_
      refine gf_X12_68 (c := 0) (pc := 49) C km_0 dX12_repeats_49 ?_
      refine j_iloadn (pc := 52) C 1 dX12_repeats_52 rfl rfl ?_
      refine j_iload (pc := 53) C 4 dX12_repeats_53 rfl ?_
      refine j_iadd (pc := 55) C dX12_repeats_55 ?_
      refine j_iload (pc := 56) C 3 dX12_repeats_56 rfl ?_
      refine j_isub (pc := 58) C dX12_repeats_58 ?_
      refine j_lti hm (fun y4 hm => ?_)
      refine j_guard hm (fun hg5 hm => ?_)
      refine j_iald (c := 20) (n := 24) (pc := 59) C (kM_lt km_20 (by decide)) (cm_a km_20 lm_20 _) hg5 dX12_repeats_59 ?_
      refine j_guard hm (fun hg7 hm => ?_)
      refine j_iastL (c := 20) (n := 24) (pc := 60) C (kM_lt km_20 (by decide)) (cm_a km_20 lm_20) hg7 dX12_repeats_60 hm (fun σ6 hm => ?_)
      refine j_iinc (v := (x5 + (1 : Int32))) (ls' := [(5, .int (x5 + (1 : Int32))), (0, .ref (vad (gV G) 0)), (1, .int x1), (2, .int x2), (4, .int x4)]) (pc := 61) C 4 dX12_repeats_61 rfl rfl (by decide) rfl ?_
      refine j_goto (tgt := 31) (pc := 64) C dX12_repeats_64 (by decide) ?_
      refine j_ls [1, 2, 3, 4, 0] rfl ?_
      exact ih _ _ _ _ _ hm
    · refine j_aloadn (pc := 67) C 0 dX12_repeats_67 rfl rfl ?_
      refine j_iloadn (pc := 68) C 1 dX12_repeats_68 rfl rfl ?_
      refine j_iload (pc := 69) C 3 dX12_repeats_69 rfl ?_
      refine j_iloadn (pc := 71) C 2 dX12_repeats_71 rfl rfl ?_
      refine j_imul (pc := 72) C dX12_repeats_72 ?_
      refine j_iadd (pc := 73) C dX12_repeats_73 ?_
      refine pf_X12_239 (c := 0) (pc := 74) C km_0 dX12_repeats_74 hm (fun σ8 hm => ?_)
      refine j_iconst (v := 1) (pc := 77) C dX12_repeats_77 (by decide) ?_
      exact j_zretS (pc := 78) C rfl rfl dX12_repeats_78 hm

def mX12_repeats (F : Nat) (x1 : Int32) (x2 : Int32) (x3 : Int32) (σ : jS) : Option (Int32 × jS) := (lt ((σ 0 33) - x1) fun y1 => (if (24 : Int32) < (x1 + (y1 * x2)) then (Option.bind (mX12_wrongAt F (6 : Int32) x3 σ) fun q2 => (if jbo q2.1 = true then some (q2.1, q2.2) else none)) else (lp_X12_repeats_31 F F x1 x2 y1 y1 σ)))
set_option maxHeartbeats 4000000 in
set_option maxRecDepth 100000 in
theorem kX12_repeats {V : jV} {F : Nat} {x1 : Int32} {x2 : Int32} {x3 : Int32} {σ : jS} {v : (Int32 × jS)} (hm : mX12_repeats F x1 x2 x3 σ = some v) : Ct cfM 33 V yX12_repeats cX12_repeats 6 (some .boolean) 1 [.ref (vad V 0), .int x1, .int x2, .int x3] σ v := by
  refine j_start (own := RX12) (by decide) rfl (Nat.le_of_ble_eq_true rfl) ?_
  intro G hV C
  subst hV
  unfold mX12_repeats at hm
  show JM G 0 [(0, .ref (vad (gV G) 0)), (1, .int x1), (2, .int x2), (3, .int x3)] [] σ v
  refine j_aloadn (pc := 0) C 0 dX12_repeats_0 rfl rfl ?_
  refine gf_X12_239 (c := 0) (pc := 1) C km_0 dX12_repeats_1 ?_
  refine j_iloadn (pc := 4) C 1 dX12_repeats_4 rfl rfl ?_
  refine j_isub (pc := 5) C dX12_repeats_5 ?_
  refine j_lti hm (fun y1 hm => ?_)
  refine j_istore (ls' := [(4, .int y1), (0, .ref (vad (gV G) 0)), (1, .int x1), (2, .int x2), (3, .int x3)]) (pc := 6) C dX12_repeats_6 (by decide) rfl ?_
  refine j_iloadn (pc := 8) C 2 dX12_repeats_8 rfl rfl ?_
  refine j_iload (pc := 9) C 0 dX12_repeats_9 rfl ?_
  refine j_iloadn (pc := 11) C 3 dX12_repeats_11 rfl rfl ?_
  refine j_imul (pc := 12) C dX12_repeats_12 ?_
  refine j_iadd (pc := 13) C dX12_repeats_13 ?_
  refine j_bipush (v := 24) (pc := 14) C dX12_repeats_14 (by decide) ?_
  refine j_icmp_le (tgt := 27) (pc := 16) C dX12_repeats_16 (by decide) hm (fun _ hm => ?_) (fun _ hm => ?_)
  · refine j_aloadn (pc := 19) C 1 dX12_repeats_19 rfl rfl ?_
    refine j_bipush (v := 6) (pc := 20) C dX12_repeats_20 (by decide) ?_
    refine j_iloadn (pc := 22) C 4 dX12_repeats_22 rfl rfl ?_
    obtain ⟨q2, hq2, hm⟩ := Option.bind_eq_some_iff.mp hm
    refine cl_X12_141 (c := 0) (pc := 23) C km_0 (kX12_wrongAt hq2) (by decide) (Nat.le_of_ble_eq_true rfl) dX12_repeats_23 ?_
    refine j_guard hm (fun hb3 hm => ?_)
    exact j_zretS (pc := 26) C rfl hb3 dX12_repeats_26 hm
  · refine j_iload (pc := 27) C 0 dX12_repeats_27 rfl ?_
    refine j_istore (ls' := [(5, .int y1), (4, .int y1), (0, .ref (vad (gV G) 0)), (1, .int x1), (2, .int x2), (3, .int x3)]) (pc := 29) C dX12_repeats_29 (by decide) rfl ?_
    refine j_ls [2, 3, 4, 1, 0] rfl ?_
    exact lp_X12_repeats_31_ok C F  F _ _ _ _ _ hm

def mX12_doingBy (F : Nat) (x0 : Int32) (σ : jS) : Option Int32 := (if x0 = (99 : Int32) then some (1 : Int32) else (if x0 = (100 : Int32) then some (-1 : Int32) else (if x0 = (101 : Int32) then some (-1 : Int32) else (if x0 = (102 : Int32) then some (5 : Int32) else (if x0 = (103 : Int32) then some (-1 : Int32) else (if x0 = (104 : Int32) then some (-1 : Int32) else (if x0 = (105 : Int32) then some (-1 : Int32) else (if x0 = (106 : Int32) then some (-1 : Int32) else (if x0 = (107 : Int32) then some (-1 : Int32) else (if x0 = (108 : Int32) then some (4 : Int32) else (if x0 = (109 : Int32) then some (-1 : Int32) else (if x0 = (110 : Int32) then some (-1 : Int32) else (if x0 = (111 : Int32) then some (6 : Int32) else (if x0 = (112 : Int32) then some (-1 : Int32) else (if x0 = (113 : Int32) then some (-1 : Int32) else (if x0 = (114 : Int32) then some (3 : Int32) else (if x0 = (115 : Int32) then some (0 : Int32) else (if x0 = (116 : Int32) then some (-1 : Int32) else (if x0 = (117 : Int32) then some (-1 : Int32) else (if x0 = (118 : Int32) then some (-1 : Int32) else (if x0 = (119 : Int32) then some (2 : Int32) else some (-1 : Int32))))))))))))))))))))))
set_option maxHeartbeats 4000000 in
set_option maxRecDepth 100000 in
theorem kX12_doingBy {V : jV} {F : Nat} {x0 : Int32} {σ : jS} {v : Int32} (hm : mX12_doingBy F x0 σ = some v) : Ct cfM 33 V yX12_doingBy cX12_doingBy 1 (some .int) 0 [.int x0] σ (v, σ) := by
  refine j_start (own := RX12) (by decide) rfl (Nat.le_of_ble_eq_true rfl) ?_
  intro G hV C
  subst hV
  unfold mX12_doingBy at hm
  show JM G 0 [(0, .int x0)] [] σ (v, σ)
  refine j_iloadn (pc := 0) C 0 dX12_doingBy_0 rfl rfl ?_
  refine j_sw (b := 99) hm (fun hs hm => ?_) (fun hs0 hm => ?_)
  · refine j_swIn (tgt := 102) (b := 99) (pc := 1) C dX12_doingBy_1 hs (by decide) (by decide) rfl (by decide) ?_
    refine j_iconst (v := 1) (pc := 102) C dX12_doingBy_102 (by decide) ?_
    exact j_iret (pc := 103) C rfl dX12_doingBy_103 hm
  · refine j_sw (b := 100) hm (fun hs hm => ?_) (fun hs1 hm => ?_)
    · refine j_swIn (tgt := 115) (b := 100) (pc := 1) C dX12_doingBy_1 hs (by decide) (by decide) rfl (by decide) ?_
      refine j_iconst (v := -1) (pc := 115) C dX12_doingBy_115 (by decide) ?_
      exact j_iret (pc := 116) C rfl dX12_doingBy_116 hm
    · refine j_sw (b := 101) hm (fun hs hm => ?_) (fun hs2 hm => ?_)
      · refine j_swIn (tgt := 115) (b := 101) (pc := 1) C dX12_doingBy_1 hs (by decide) (by decide) rfl (by decide) ?_
        refine j_iconst (v := -1) (pc := 115) C dX12_doingBy_115 (by decide) ?_
        exact j_iret (pc := 116) C rfl dX12_doingBy_116 hm
      · refine j_sw (b := 102) hm (fun hs hm => ?_) (fun hs3 hm => ?_)
        · refine j_swIn (tgt := 110) (b := 102) (pc := 1) C dX12_doingBy_1 hs (by decide) (by decide) rfl (by decide) ?_
          refine j_iconst (v := 5) (pc := 110) C dX12_doingBy_110 (by decide) ?_
          exact j_iret (pc := 111) C rfl dX12_doingBy_111 hm
        · refine j_sw (b := 103) hm (fun hs hm => ?_) (fun hs4 hm => ?_)
          · refine j_swIn (tgt := 115) (b := 103) (pc := 1) C dX12_doingBy_1 hs (by decide) (by decide) rfl (by decide) ?_
            refine j_iconst (v := -1) (pc := 115) C dX12_doingBy_115 (by decide) ?_
            exact j_iret (pc := 116) C rfl dX12_doingBy_116 hm
          · refine j_sw (b := 104) hm (fun hs hm => ?_) (fun hs5 hm => ?_)
            · refine j_swIn (tgt := 115) (b := 104) (pc := 1) C dX12_doingBy_1 hs (by decide) (by decide) rfl (by decide) ?_
              refine j_iconst (v := -1) (pc := 115) C dX12_doingBy_115 (by decide) ?_
              exact j_iret (pc := 116) C rfl dX12_doingBy_116 hm
            · refine j_sw (b := 105) hm (fun hs hm => ?_) (fun hs6 hm => ?_)
              · refine j_swIn (tgt := 115) (b := 105) (pc := 1) C dX12_doingBy_1 hs (by decide) (by decide) rfl (by decide) ?_
                refine j_iconst (v := -1) (pc := 115) C dX12_doingBy_115 (by decide) ?_
                exact j_iret (pc := 116) C rfl dX12_doingBy_116 hm
              · refine j_sw (b := 106) hm (fun hs hm => ?_) (fun hs7 hm => ?_)
                · refine j_swIn (tgt := 115) (b := 106) (pc := 1) C dX12_doingBy_1 hs (by decide) (by decide) rfl (by decide) ?_
                  refine j_iconst (v := -1) (pc := 115) C dX12_doingBy_115 (by decide) ?_
                  exact j_iret (pc := 116) C rfl dX12_doingBy_116 hm
                · refine j_sw (b := 107) hm (fun hs hm => ?_) (fun hs8 hm => ?_)
                  · refine j_swIn (tgt := 115) (b := 107) (pc := 1) C dX12_doingBy_1 hs (by decide) (by decide) rfl (by decide) ?_
                    refine j_iconst (v := -1) (pc := 115) C dX12_doingBy_115 (by decide) ?_
                    exact j_iret (pc := 116) C rfl dX12_doingBy_116 hm
                  · refine j_sw (b := 108) hm (fun hs hm => ?_) (fun hs9 hm => ?_)
                    · refine j_swIn (tgt := 108) (b := 108) (pc := 1) C dX12_doingBy_1 hs (by decide) (by decide) rfl (by decide) ?_
                      refine j_iconst (v := 4) (pc := 108) C dX12_doingBy_108 (by decide) ?_
                      exact j_iret (pc := 109) C rfl dX12_doingBy_109 hm
                    · refine j_sw (b := 109) hm (fun hs hm => ?_) (fun hs10 hm => ?_)
                      · refine j_swIn (tgt := 115) (b := 109) (pc := 1) C dX12_doingBy_1 hs (by decide) (by decide) rfl (by decide) ?_
                        refine j_iconst (v := -1) (pc := 115) C dX12_doingBy_115 (by decide) ?_
                        exact j_iret (pc := 116) C rfl dX12_doingBy_116 hm
                      · refine j_sw (b := 110) hm (fun hs hm => ?_) (fun hs11 hm => ?_)
                        · refine j_swIn (tgt := 115) (b := 110) (pc := 1) C dX12_doingBy_1 hs (by decide) (by decide) rfl (by decide) ?_
                          refine j_iconst (v := -1) (pc := 115) C dX12_doingBy_115 (by decide) ?_
                          exact j_iret (pc := 116) C rfl dX12_doingBy_116 hm
                        · refine j_sw (b := 111) hm (fun hs hm => ?_) (fun hs12 hm => ?_)
                          · refine j_swIn (tgt := 112) (b := 111) (pc := 1) C dX12_doingBy_1 hs (by decide) (by decide) rfl (by decide) ?_
                            refine j_bipush (v := 6) (pc := 112) C dX12_doingBy_112 (by decide) ?_
                            exact j_iret (pc := 114) C rfl dX12_doingBy_114 hm
                          · refine j_sw (b := 112) hm (fun hs hm => ?_) (fun hs13 hm => ?_)
                            · refine j_swIn (tgt := 115) (b := 112) (pc := 1) C dX12_doingBy_1 hs (by decide) (by decide) rfl (by decide) ?_
                              refine j_iconst (v := -1) (pc := 115) C dX12_doingBy_115 (by decide) ?_
                              exact j_iret (pc := 116) C rfl dX12_doingBy_116 hm
                            · refine j_sw (b := 113) hm (fun hs hm => ?_) (fun hs14 hm => ?_)
                              · refine j_swIn (tgt := 115) (b := 113) (pc := 1) C dX12_doingBy_1 hs (by decide) (by decide) rfl (by decide) ?_
                                refine j_iconst (v := -1) (pc := 115) C dX12_doingBy_115 (by decide) ?_
                                exact j_iret (pc := 116) C rfl dX12_doingBy_116 hm
                              · refine j_sw (b := 114) hm (fun hs hm => ?_) (fun hs15 hm => ?_)
                                · refine j_swIn (tgt := 106) (b := 114) (pc := 1) C dX12_doingBy_1 hs (by decide) (by decide) rfl (by decide) ?_
                                  refine j_iconst (v := 3) (pc := 106) C dX12_doingBy_106 (by decide) ?_
                                  exact j_iret (pc := 107) C rfl dX12_doingBy_107 hm
                                · refine j_sw (b := 115) hm (fun hs hm => ?_) (fun hs16 hm => ?_)
                                  · refine j_swIn (tgt := 100) (b := 115) (pc := 1) C dX12_doingBy_1 hs (by decide) (by decide) rfl (by decide) ?_
                                    refine j_iconst (v := 0) (pc := 100) C dX12_doingBy_100 (by decide) ?_
                                    exact j_iret (pc := 101) C rfl dX12_doingBy_101 hm
                                  · refine j_sw (b := 116) hm (fun hs hm => ?_) (fun hs17 hm => ?_)
                                    · refine j_swIn (tgt := 115) (b := 116) (pc := 1) C dX12_doingBy_1 hs (by decide) (by decide) rfl (by decide) ?_
                                      refine j_iconst (v := -1) (pc := 115) C dX12_doingBy_115 (by decide) ?_
                                      exact j_iret (pc := 116) C rfl dX12_doingBy_116 hm
                                    · refine j_sw (b := 117) hm (fun hs hm => ?_) (fun hs18 hm => ?_)
                                      · refine j_swIn (tgt := 115) (b := 117) (pc := 1) C dX12_doingBy_1 hs (by decide) (by decide) rfl (by decide) ?_
                                        refine j_iconst (v := -1) (pc := 115) C dX12_doingBy_115 (by decide) ?_
                                        exact j_iret (pc := 116) C rfl dX12_doingBy_116 hm
                                      · refine j_sw (b := 118) hm (fun hs hm => ?_) (fun hs19 hm => ?_)
                                        · refine j_swIn (tgt := 115) (b := 118) (pc := 1) C dX12_doingBy_1 hs (by decide) (by decide) rfl (by decide) ?_
                                          refine j_iconst (v := -1) (pc := 115) C dX12_doingBy_115 (by decide) ?_
                                          exact j_iret (pc := 116) C rfl dX12_doingBy_116 hm
                                        · refine j_sw (b := 119) hm (fun hs hm => ?_) (fun hs20 hm => ?_)
                                          · refine j_swIn (tgt := 104) (b := 119) (pc := 1) C dX12_doingBy_1 hs (by decide) (by decide) rfl (by decide) ?_
                                            refine j_iconst (v := 2) (pc := 104) C dX12_doingBy_104 (by decide) ?_
                                            exact j_iret (pc := 105) C rfl dX12_doingBy_105 hm
                                          · refine j_swOut (tgt := 115) (pc := 1) C dX12_doingBy_1 (by have hx := jsw_out (lo := 99) (n := 21) (by decide) (by decide) (fun i hi => by rcases i with _ | _ | _ | _ | _ | _ | _ | _ | _ | _ | _ | _ | _ | _ | _ | _ | _ | _ | _ | _ | _ | i <;> first | assumption | (exact absurd hi (by omega))); exact hx) (by decide) ?_
                                            refine j_iconst (v := -1) (pc := 115) C dX12_doingBy_115 (by decide) ?_
                                            exact j_iret (pc := 116) C rfl dX12_doingBy_116 hm

def lp_X12_readsHour_4 (F : Nat) (k97 : jS → Option (Int32 × jS)) : Nat → jS → Option (Int32 × jS)
  | 0, _ => none
  | n + 1, σ => (Option.bind (mX12_here F σ) fun q2 => (if q2 = (40 : Int32) then (if (σ 0 34) = (2 : Int32) then (Option.bind (mX12_wrongAt F (5 : Int32) ((σ 0 7)) σ) fun q3 => (if jbo q3.1 = true then some (q3.1, q3.2) else none)) else (if jin (σ 0 34) 2 = true then (lt (js σ 21 (σ 0 34).toNatClampNeg (σ 0 35)) fun σ5 => (if jin (σ5 0 34) 2 = true then (lt (js σ5 22 (σ5 0 34).toNatClampNeg (σ5 0 33)) fun σ7 => (if jin (σ7 0 34) 2 = true then (lt (js σ7 23 (σ7 0 34).toNatClampNeg (σ7 0 36)) fun σ9 => (lt (js σ9 0 34 ((σ9 0 34) + (1 : Int32))) fun σ11 => (lt (js σ11 0 7 ((σ11 0 7) + (1 : Int32))) fun σ12 => (Option.bind (mX12_readsTimes F σ12) fun q13 => (lp_X12_readsHour_4 F k97 n q13))))) else none)) else none)) else none)) else (k97 σ)))
set_option maxHeartbeats 4000000 in
set_option maxRecDepth 100000 in
theorem lp_X12_readsHour_4_ok {G : jG} (C : jc cfM 33 G cX12_readsHour RX12 4 (some .boolean) 2) (F : Nat) {v : (Int32 × jS)} (k97 : jS → Option (Int32 × jS)) (hk97 : ∀ (σ : jS), k97 σ = some v → JM G 97 [(0, .ref (vad (gV G) 0))] [] σ v) : ∀ (n : Nat) (σ : jS), lp_X12_readsHour_4 F k97 n σ = some v → JM G 4 [(0, .ref (vad (gV G) 0))] [] σ v := by
  intro n
  induction n with
  | zero =>
    intro σ hm
    rw [lp_X12_readsHour_4] at hm
    cases hm
  | succ n ih =>
    intro σ hm
    rw [lp_X12_readsHour_4] at hm
    refine j_aloadn (pc := 4) C 0 dX12_readsHour_4 rfl rfl ?_
    obtain ⟨q2, hq2, hm⟩ := Option.bind_eq_some_iff.mp hm
    refine cl_X12_134 (c := 0) (pc := 5) C km_0 (kX12_here hq2) (by decide) (Nat.le_of_ble_eq_true rfl) dX12_readsHour_5 ?_
    refine j_bipush (v := 40) (pc := 8) C dX12_readsHour_8 (by decide) ?_
    refine j_icmp_ne (tgt := 97) (pc := 10) C dX12_readsHour_10 (by decide) hm (fun _ hm => ?_) (fun _ hm => ?_)
    · refine j_aloadn (pc := 13) C 0 dX12_readsHour_13 rfl rfl ?_
      refine gf_X12_245 (c := 0) (pc := 14) C km_0 dX12_readsHour_14 ?_
      refine j_iconst (v := 2) (pc := 17) C dX12_readsHour_17 (by decide) ?_
      refine j_icmp_ne (tgt := 31) (pc := 18) C dX12_readsHour_18 (by decide) hm (fun _ hm => ?_) (fun _ hm => ?_)
      · refine j_aloadn (pc := 21) C 0 dX12_readsHour_21 rfl rfl ?_
        refine j_iconst (v := 5) (pc := 22) C dX12_readsHour_22 (by decide) ?_
        refine j_aloadn (pc := 23) C 0 dX12_readsHour_23 rfl rfl ?_
        refine gf_X12_128 (c := 0) (pc := 24) C km_0 dX12_readsHour_24 ?_
        obtain ⟨q3, hq3, hm⟩ := Option.bind_eq_some_iff.mp hm
        refine cl_X12_141 (c := 0) (pc := 27) C km_0 (kX12_wrongAt hq3) (by decide) (Nat.le_of_ble_eq_true rfl) dX12_readsHour_27 ?_
        refine j_guard hm (fun hb4 hm => ?_)
        exact j_zretS (pc := 30) C rfl hb4 dX12_readsHour_30 hm
      · refine j_aloadn (pc := 31) C 0 dX12_readsHour_31 rfl rfl ?_
        refine gf_X12_71 (c := 0) (pc := 32) C km_0 dX12_readsHour_32 ?_
        refine j_aloadn (pc := 35) C 0 dX12_readsHour_35 rfl rfl ?_
        refine gf_X12_245 (c := 0) (pc := 36) C km_0 dX12_readsHour_36 ?_
        refine j_aloadn (pc := 39) C 0 dX12_readsHour_39 rfl rfl ?_
        refine gf_X12_233 (c := 0) (pc := 40) C km_0 dX12_readsHour_40 ?_
        refine j_guard hm (fun hg6 hm => ?_)
        refine j_iastL (c := 21) (n := 2) (pc := 43) C (kM_lt km_21 (by decide)) (cm_a km_21 lm_21) hg6 dX12_readsHour_43 hm (fun σ5 hm => ?_)
        refine j_aloadn (pc := 44) C 0 dX12_readsHour_44 rfl rfl ?_
        refine gf_X12_74 (c := 0) (pc := 45) C km_0 dX12_readsHour_45 ?_
        refine j_aloadn (pc := 48) C 0 dX12_readsHour_48 rfl rfl ?_
        refine gf_X12_245 (c := 0) (pc := 49) C km_0 dX12_readsHour_49 ?_
        refine j_aloadn (pc := 52) C 0 dX12_readsHour_52 rfl rfl ?_
        refine gf_X12_239 (c := 0) (pc := 53) C km_0 dX12_readsHour_53 ?_
        refine j_guard hm (fun hg8 hm => ?_)
        refine j_iastL (c := 22) (n := 2) (pc := 56) C (kM_lt km_22 (by decide)) (cm_a km_22 lm_22) hg8 dX12_readsHour_56 hm (fun σ7 hm => ?_)
        refine j_aloadn (pc := 57) C 0 dX12_readsHour_57 rfl rfl ?_
        refine gf_X12_77 (c := 0) (pc := 58) C km_0 dX12_readsHour_58 ?_
        refine j_aloadn (pc := 61) C 0 dX12_readsHour_61 rfl rfl ?_
        refine gf_X12_245 (c := 0) (pc := 62) C km_0 dX12_readsHour_62 ?_
        refine j_aloadn (pc := 65) C 0 dX12_readsHour_65 rfl rfl ?_
        refine gf_X12_236 (c := 0) (pc := 66) C km_0 dX12_readsHour_66 ?_
        refine j_guard hm (fun hg10 hm => ?_)
        refine j_iastL (c := 23) (n := 2) (pc := 69) C (kM_lt km_23 (by decide)) (cm_a km_23 lm_23) hg10 dX12_readsHour_69 hm (fun σ9 hm => ?_)
        refine j_aloadn (pc := 70) C 0 dX12_readsHour_70 rfl rfl ?_
        refine j_aloadn (pc := 71) C 0 dX12_readsHour_71 rfl rfl ?_
        refine gf_X12_245 (c := 0) (pc := 72) C km_0 dX12_readsHour_72 ?_
        refine j_iconst (v := 1) (pc := 75) C dX12_readsHour_75 (by decide) ?_
        refine j_iadd (pc := 76) C dX12_readsHour_76 ?_
        refine pf_X12_245 (c := 0) (pc := 77) C km_0 dX12_readsHour_77 hm (fun σ11 hm => ?_)
        refine j_aloadn (pc := 80) C 0 dX12_readsHour_80 rfl rfl ?_
        refine j_aloadn (pc := 81) C 0 dX12_readsHour_81 rfl rfl ?_
        refine gf_X12_128 (c := 0) (pc := 82) C km_0 dX12_readsHour_82 ?_
        refine j_iconst (v := 1) (pc := 85) C dX12_readsHour_85 (by decide) ?_
        refine j_iadd (pc := 86) C dX12_readsHour_86 ?_
        refine pf_X12_128 (c := 0) (pc := 87) C km_0 dX12_readsHour_87 hm (fun σ12 hm => ?_)
        refine j_aloadn (pc := 90) C 0 dX12_readsHour_90 rfl rfl ?_
        obtain ⟨q13, hq13, hm⟩ := Option.bind_eq_some_iff.mp hm
        refine cl_X12_242 (c := 0) (pc := 91) C km_0 (kX12_readsTimes hq13) (by decide) (Nat.le_of_ble_eq_true rfl) dX12_readsHour_91 ?_
        refine j_goto (tgt := 4) (pc := 94) C dX12_readsHour_94 (by decide) ?_
        exact ih _ hm
    · exact hk97 _ hm

def lp_X12_readsHour_196 (F : Nat) : Nat → jS → Option (Int32 × jS)
  | 0, _ => none
  | n + 1, σ => (Option.bind (mX12_here F σ) fun q28 => (if q28 = (41 : Int32) then (if 0 < (σ 0 34) then (lt (js σ 0 7 ((σ 0 7) + (1 : Int32))) fun σ29 => (lt (js σ29 0 34 ((σ29 0 34) - (1 : Int32))) fun σ30 => (lt (σ30 0 34) fun y31 => (if jin y31 2 = true then (lt (σ30 0 34) fun y33 => (if jin y33 2 = true then (lt (σ30 0 34) fun y35 => (if jin y35 2 = true then (Option.bind (mX12_repeats F ((σ30 22 y31.toNatClampNeg)) ((σ30 23 y33.toNatClampNeg)) ((σ30 21 y35.toNatClampNeg)) σ30) fun q37 => (if q37.1 = 0 then some ((0 : Int32), q37.2) else (lp_X12_readsHour_196 F n q37.2))) else none)) else none)) else none)))) else some ((1 : Int32), σ)) else some ((1 : Int32), σ)))
set_option maxHeartbeats 4000000 in
set_option maxRecDepth 100000 in
theorem lp_X12_readsHour_196_ok {G : jG} (C : jc cfM 33 G cX12_readsHour RX12 4 (some .boolean) 2) (F : Nat) {v : (Int32 × jS)} : ∀ (n : Nat) (σ : jS), lp_X12_readsHour_196 F n σ = some v → JM G 196 [(0, .ref (vad (gV G) 0))] [] σ v := by
  intro n
  induction n with
  | zero =>
    intro σ hm
    rw [lp_X12_readsHour_196] at hm
    cases hm
  | succ n ih =>
    intro σ hm
    rw [lp_X12_readsHour_196] at hm
    refine j_aloadn (pc := 196) C 0 dX12_readsHour_196 rfl rfl ?_
    obtain ⟨q28, hq28, hm⟩ := Option.bind_eq_some_iff.mp hm
    refine cl_X12_134 (c := 0) (pc := 197) C km_0 (kX12_here hq28) (by decide) (Nat.le_of_ble_eq_true rfl) dX12_readsHour_197 ?_
    refine j_bipush (v := 41) (pc := 200) C dX12_readsHour_200 (by decide) ?_
    refine j_icmp_ne (tgt := 268) (pc := 202) C dX12_readsHour_202 (by decide) hm (fun _ hm => ?_) (fun _ hm => ?_)
    · refine j_aloadn (pc := 205) C 0 dX12_readsHour_205 rfl rfl ?_
      refine gf_X12_245 (c := 0) (pc := 206) C km_0 dX12_readsHour_206 ?_
      refine j_if_le (tgt := 268) (pc := 209) C dX12_readsHour_209 (by decide) hm (fun _ hm => ?_) (fun _ hm => ?_)
      · refine j_aloadn (pc := 212) C 0 dX12_readsHour_212 rfl rfl ?_
        refine j_aloadn (pc := 213) C 0 dX12_readsHour_213 rfl rfl ?_
        refine gf_X12_128 (c := 0) (pc := 214) C km_0 dX12_readsHour_214 ?_
        refine j_iconst (v := 1) (pc := 217) C dX12_readsHour_217 (by decide) ?_
        refine j_iadd (pc := 218) C dX12_readsHour_218 ?_
        refine pf_X12_128 (c := 0) (pc := 219) C km_0 dX12_readsHour_219 hm (fun σ29 hm => ?_)
        refine j_aloadn (pc := 222) C 0 dX12_readsHour_222 rfl rfl ?_
        refine j_aloadn (pc := 223) C 0 dX12_readsHour_223 rfl rfl ?_
        refine gf_X12_245 (c := 0) (pc := 224) C km_0 dX12_readsHour_224 ?_
        refine j_iconst (v := 1) (pc := 227) C dX12_readsHour_227 (by decide) ?_
        refine j_isub (pc := 228) C dX12_readsHour_228 ?_
        refine pf_X12_245 (c := 0) (pc := 229) C km_0 dX12_readsHour_229 hm (fun σ30 hm => ?_)
        refine j_aloadn (pc := 232) C 0 dX12_readsHour_232 rfl rfl ?_
        refine j_aloadn (pc := 233) C 0 dX12_readsHour_233 rfl rfl ?_
        refine gf_X12_74 (c := 0) (pc := 234) C km_0 dX12_readsHour_234 ?_
        refine j_aloadn (pc := 237) C 0 dX12_readsHour_237 rfl rfl ?_
        refine gf_X12_245 (c := 0) (pc := 238) C km_0 dX12_readsHour_238 ?_
        refine j_lti hm (fun y31 hm => ?_)
        refine j_guard hm (fun hg32 hm => ?_)
        refine j_iald (c := 22) (n := 2) (pc := 241) C (kM_lt km_22 (by decide)) (cm_a km_22 lm_22 _) hg32 dX12_readsHour_241 ?_
        refine j_aloadn (pc := 242) C 0 dX12_readsHour_242 rfl rfl ?_
        refine gf_X12_77 (c := 0) (pc := 243) C km_0 dX12_readsHour_243 ?_
        refine j_aloadn (pc := 246) C 0 dX12_readsHour_246 rfl rfl ?_
        refine gf_X12_245 (c := 0) (pc := 247) C km_0 dX12_readsHour_247 ?_
        refine j_lti hm (fun y33 hm => ?_)
        refine j_guard hm (fun hg34 hm => ?_)
        refine j_iald (c := 23) (n := 2) (pc := 250) C (kM_lt km_23 (by decide)) (cm_a km_23 lm_23 _) hg34 dX12_readsHour_250 ?_
        refine j_aloadn (pc := 251) C 0 dX12_readsHour_251 rfl rfl ?_
        refine gf_X12_71 (c := 0) (pc := 252) C km_0 dX12_readsHour_252 ?_
        refine j_aloadn (pc := 255) C 0 dX12_readsHour_255 rfl rfl ?_
        refine gf_X12_245 (c := 0) (pc := 256) C km_0 dX12_readsHour_256 ?_
        refine j_lti hm (fun y35 hm => ?_)
        refine j_guard hm (fun hg36 hm => ?_)
        refine j_iald (c := 21) (n := 2) (pc := 259) C (kM_lt km_21 (by decide)) (cm_a km_21 lm_21 _) hg36 dX12_readsHour_259 ?_
        obtain ⟨q37, hq37, hm⟩ := Option.bind_eq_some_iff.mp hm
        refine cl_X12_251 (c := 0) (pc := 260) C km_0 (kX12_repeats hq37) (by decide) (Nat.le_of_ble_eq_true rfl) dX12_readsHour_260 ?_
        refine j_if_ne (tgt := 196) (pc := 263) C dX12_readsHour_263 (by decide) hm (fun _ hm => ?_) (fun _ hm => ?_)
        · refine j_iconst (v := 0) (pc := 266) C dX12_readsHour_266 (by decide) ?_
          exact j_zretS (pc := 267) C rfl rfl dX12_readsHour_267 hm
        · exact ih _ hm
      · refine j_iconst (v := 1) (pc := 268) C dX12_readsHour_268 (by decide) ?_
        exact j_zretS (pc := 269) C rfl rfl dX12_readsHour_269 hm
    · refine j_iconst (v := 1) (pc := 268) C dX12_readsHour_268 (by decide) ?_
      exact j_zretS (pc := 269) C rfl rfl dX12_readsHour_269 hm

def mX12_readsHour (F : Nat) (σ : jS) : Option (Int32 × jS) := (Option.bind (mX12_readsTimes F σ) fun q1 => (lp_X12_readsHour_4 F (fun σ14 => (lt (σ14 0 35) fun y15 => (lt (σ14 0 36) fun y16 => (Option.bind (mX12_here F σ14) fun q17 => (Option.bind (mX12_doingBy F q17 σ14) fun q18 => (if q18 = (-1 : Int32) then (Option.bind (mX12_wrongAt F (1 : Int32) ((σ14 0 7)) σ14) fun q19 => (if jbo q19.1 = true then some (q19.1, q19.2) else none)) else (if (24 : Int32) < ((σ14 0 33) + y16) then (Option.bind (mX12_wrongAt F (6 : Int32) y15 σ14) fun q21 => (if jbo q21.1 = true then some (q21.1, q21.2) else none)) else (if jin (σ14 0 33) 24 = true then (lt (js σ14 20 (σ14 0 33).toNatClampNeg q18) fun σ23 => (lt (js σ23 0 7 ((σ23 0 7) + (1 : Int32))) fun σ25 => (lt (js σ25 0 33 ((σ25 0 33) + (1 : Int32))) fun σ26 => (Option.bind (mX12_repeats F (((σ26 0 33) - (1 : Int32))) y16 y15 σ26) fun q27 => (if q27.1 = 0 then some ((0 : Int32), q27.2) else (lp_X12_readsHour_196 F F q27.2)))))) else none)))))))) F q1))
set_option maxHeartbeats 4000000 in
set_option maxRecDepth 100000 in
theorem kX12_readsHour {V : jV} {F : Nat} {σ : jS} {v : (Int32 × jS)} (hm : mX12_readsHour F σ = some v) : Ct cfM 33 V yX12_readsHour cX12_readsHour 4 (some .boolean) 2 [.ref (vad V 0)] σ v := by
  refine j_start (own := RX12) (by decide) rfl (Nat.le_of_ble_eq_true rfl) ?_
  intro G hV C
  subst hV
  unfold mX12_readsHour at hm
  show JM G 0 [(0, .ref (vad (gV G) 0))] [] σ v
  refine j_aloadn (pc := 0) C 0 dX12_readsHour_0 rfl rfl ?_
  obtain ⟨q1, hq1, hm⟩ := Option.bind_eq_some_iff.mp hm
  refine cl_X12_242 (c := 0) (pc := 1) C km_0 (kX12_readsTimes hq1) (by decide) (Nat.le_of_ble_eq_true rfl) dX12_readsHour_1 ?_
  refine lp_X12_readsHour_4_ok C F _ (fun σ14 hm => ?_) F _ hm
  refine j_aloadn (pc := 97) C 0 dX12_readsHour_97 rfl rfl ?_
  refine gf_X12_233 (c := 0) (pc := 98) C km_0 dX12_readsHour_98 ?_
  refine j_lti hm (fun y15 hm => ?_)
  refine j_istoren (ls' := [(1, .int y15), (0, .ref (vad (gV G) 0))]) (pc := 101) C dX12_readsHour_101 rfl (by decide) rfl ?_
  refine j_aloadn (pc := 102) C 1 dX12_readsHour_102 rfl rfl ?_
  refine gf_X12_236 (c := 0) (pc := 103) C km_0 dX12_readsHour_103 ?_
  refine j_lti hm (fun y16 hm => ?_)
  refine j_istoren (ls' := [(2, .int y16), (1, .int y15), (0, .ref (vad (gV G) 0))]) (pc := 106) C dX12_readsHour_106 rfl (by decide) rfl ?_
  refine j_aloadn (pc := 107) C 2 dX12_readsHour_107 rfl rfl ?_
  obtain ⟨q17, hq17, hm⟩ := Option.bind_eq_some_iff.mp hm
  refine cl_X12_134 (c := 0) (pc := 108) C km_0 (kX12_here hq17) (by decide) (Nat.le_of_ble_eq_true rfl) dX12_readsHour_108 ?_
  obtain ⟨q18, hq18, hm⟩ := Option.bind_eq_some_iff.mp hm
  refine cl_X12_248 (pc := 111) C (kX12_doingBy hq18) (by decide) (Nat.le_of_ble_eq_true rfl) dX12_readsHour_111 ?_
  refine j_istoren (ls' := [(3, .int q18), (2, .int y16), (1, .int y15), (0, .ref (vad (gV G) 0))]) (pc := 114) C dX12_readsHour_114 rfl (by decide) rfl ?_
  refine j_iloadn (pc := 115) C 0 dX12_readsHour_115 rfl rfl ?_
  refine j_iconst (v := -1) (pc := 116) C dX12_readsHour_116 (by decide) ?_
  refine j_icmp_ne (tgt := 130) (pc := 117) C dX12_readsHour_117 (by decide) hm (fun _ hm => ?_) (fun _ hm => ?_)
  · refine j_aloadn (pc := 120) C 3 dX12_readsHour_120 rfl rfl ?_
    refine j_iconst (v := 1) (pc := 121) C dX12_readsHour_121 (by decide) ?_
    refine j_aloadn (pc := 122) C 3 dX12_readsHour_122 rfl rfl ?_
    refine gf_X12_128 (c := 0) (pc := 123) C km_0 dX12_readsHour_123 ?_
    obtain ⟨q19, hq19, hm⟩ := Option.bind_eq_some_iff.mp hm
    refine cl_X12_141 (c := 0) (pc := 126) C km_0 (kX12_wrongAt hq19) (by decide) (Nat.le_of_ble_eq_true rfl) dX12_readsHour_126 ?_
    refine j_guard hm (fun hb20 hm => ?_)
    exact j_zretS (pc := 129) C rfl hb20 dX12_readsHour_129 hm
  · refine j_aloadn (pc := 130) C 3 dX12_readsHour_130 rfl rfl ?_
    refine gf_X12_239 (c := 0) (pc := 131) C km_0 dX12_readsHour_131 ?_
    refine j_iloadn (pc := 134) C 1 dX12_readsHour_134 rfl rfl ?_
    refine j_iadd (pc := 135) C dX12_readsHour_135 ?_
    refine j_bipush (v := 24) (pc := 136) C dX12_readsHour_136 (by decide) ?_
    refine j_icmp_le (tgt := 149) (pc := 138) C dX12_readsHour_138 (by decide) hm (fun _ hm => ?_) (fun _ hm => ?_)
    · refine j_aloadn (pc := 141) C 3 dX12_readsHour_141 rfl rfl ?_
      refine j_bipush (v := 6) (pc := 142) C dX12_readsHour_142 (by decide) ?_
      refine j_iloadn (pc := 144) C 2 dX12_readsHour_144 rfl rfl ?_
      obtain ⟨q21, hq21, hm⟩ := Option.bind_eq_some_iff.mp hm
      refine cl_X12_141 (c := 0) (pc := 145) C km_0 (kX12_wrongAt hq21) (by decide) (Nat.le_of_ble_eq_true rfl) dX12_readsHour_145 ?_
      refine j_guard hm (fun hb22 hm => ?_)
      exact j_zretS (pc := 148) C rfl hb22 dX12_readsHour_148 hm
    · refine j_aloadn (pc := 149) C 3 dX12_readsHour_149 rfl rfl ?_
      refine gf_X12_68 (c := 0) (pc := 150) C km_0 dX12_readsHour_150 ?_
      refine j_aloadn (pc := 153) C 3 dX12_readsHour_153 rfl rfl ?_
      refine gf_X12_239 (c := 0) (pc := 154) C km_0 dX12_readsHour_154 ?_
      refine j_iloadn (pc := 157) C 0 dX12_readsHour_157 rfl rfl ?_
      refine j_guard hm (fun hg24 hm => ?_)
      refine j_iastL (c := 20) (n := 24) (pc := 158) C (kM_lt km_20 (by decide)) (cm_a km_20 lm_20) hg24 dX12_readsHour_158 hm (fun σ23 hm => ?_)
      refine j_aloadn (pc := 159) C 3 dX12_readsHour_159 rfl rfl ?_
      refine j_aloadn (pc := 160) C 3 dX12_readsHour_160 rfl rfl ?_
      refine gf_X12_128 (c := 0) (pc := 161) C km_0 dX12_readsHour_161 ?_
      refine j_iconst (v := 1) (pc := 164) C dX12_readsHour_164 (by decide) ?_
      refine j_iadd (pc := 165) C dX12_readsHour_165 ?_
      refine pf_X12_128 (c := 0) (pc := 166) C km_0 dX12_readsHour_166 hm (fun σ25 hm => ?_)
      refine j_aloadn (pc := 169) C 3 dX12_readsHour_169 rfl rfl ?_
      refine j_aloadn (pc := 170) C 3 dX12_readsHour_170 rfl rfl ?_
      refine gf_X12_239 (c := 0) (pc := 171) C km_0 dX12_readsHour_171 ?_
      refine j_iconst (v := 1) (pc := 174) C dX12_readsHour_174 (by decide) ?_
      refine j_iadd (pc := 175) C dX12_readsHour_175 ?_
      refine pf_X12_239 (c := 0) (pc := 176) C km_0 dX12_readsHour_176 hm (fun σ26 hm => ?_)
      refine j_aloadn (pc := 179) C 3 dX12_readsHour_179 rfl rfl ?_
      refine j_aloadn (pc := 180) C 3 dX12_readsHour_180 rfl rfl ?_
      refine gf_X12_239 (c := 0) (pc := 181) C km_0 dX12_readsHour_181 ?_
      refine j_iconst (v := 1) (pc := 184) C dX12_readsHour_184 (by decide) ?_
      refine j_isub (pc := 185) C dX12_readsHour_185 ?_
      refine j_iloadn (pc := 186) C 1 dX12_readsHour_186 rfl rfl ?_
      refine j_iloadn (pc := 187) C 2 dX12_readsHour_187 rfl rfl ?_
      obtain ⟨q27, hq27, hm⟩ := Option.bind_eq_some_iff.mp hm
      refine cl_X12_251 (c := 0) (pc := 188) C km_0 (kX12_repeats hq27) (by decide) (Nat.le_of_ble_eq_true rfl) dX12_readsHour_188 ?_
      refine j_if_ne (tgt := 196) (pc := 191) C dX12_readsHour_191 (by decide) hm (fun _ hm => ?_) (fun _ hm => ?_)
      · refine j_iconst (v := 0) (pc := 194) C dX12_readsHour_194 (by decide) ?_
        exact j_zretS (pc := 195) C rfl rfl dX12_readsHour_195 hm
      · refine j_ls [3] rfl ?_
        exact lp_X12_readsHour_196_ok C F  F _ hm

def lp_X12_routine_50 (F : Nat) (k80 : Int32 → Int32 → jS → Option (Int32 × jS)) : Nat → Int32 → Int32 → jS → Option (Int32 × jS)
  | 0, _, _, _ => none
  | n + 1, x1, x3, σ => (if x3 = 0 then (k80 x1 x3 σ) else (if (σ 0 7) < (σ 0 8) then (Option.bind (mX12_readsHour F σ) fun q7 => (lp_X12_routine_50 F k80 n x1 q7.1 q7.2)) else (if 0 < (σ 0 34) then (Option.bind (mX12_readsHour F σ) fun q8 => (lp_X12_routine_50 F k80 n x1 q8.1 q8.2)) else (k80 x1 x3 σ))))
set_option maxHeartbeats 4000000 in
set_option maxRecDepth 100000 in
theorem lp_X12_routine_50_ok {G : jG} (C : jc cfM 33 G cX12_routine RX12 5 (some .int) 3) (F : Nat) {v : (Int32 × jS)} (k80 : Int32 → Int32 → jS → Option (Int32 × jS)) (hk80 : ∀ (x1 : Int32) (x3 : Int32) (σ : jS), k80 x1 x3 σ = some v → JM G 80 [(0, .ref (vad (gV G) 0)), (1, .int x1), (3, .int x3)] [] σ v) : ∀ (n : Nat) (x1 : Int32) (x3 : Int32) (σ : jS), lp_X12_routine_50 F k80 n x1 x3 σ = some v → JM G 50 [(0, .ref (vad (gV G) 0)), (1, .int x1), (3, .int x3)] [] σ v := by
  intro n
  induction n with
  | zero =>
    intro x1 x3 σ hm
    rw [lp_X12_routine_50] at hm
    cases hm
  | succ n ih =>
    intro x1 x3 σ hm
    rw [lp_X12_routine_50] at hm
    refine j_iloadn (pc := 50) C 2 dX12_routine_50 rfl rfl ?_
    refine j_if_eq (tgt := 80) (pc := 51) C dX12_routine_51 (by decide) hm (fun _ hm => ?_) (fun _ hm => ?_)
    · exact hk80 _ _ _ hm
    · refine j_aloadn (pc := 54) C 0 dX12_routine_54 rfl rfl ?_
      refine gf_X12_128 (c := 0) (pc := 55) C km_0 dX12_routine_55 ?_
      refine j_aloadn (pc := 58) C 0 dX12_routine_58 rfl rfl ?_
      refine gf_X12_131 (c := 0) (pc := 59) C km_0 dX12_routine_59 ?_
      refine j_icmp_lt (tgt := 72) (pc := 62) C dX12_routine_62 (by decide) hm (fun _ hm => ?_) (fun _ hm => ?_)
      · refine j_aloadn (pc := 72) C 0 dX12_routine_72 rfl rfl ?_
        obtain ⟨q7, hq7, hm⟩ := Option.bind_eq_some_iff.mp hm
        refine cl_X12_254 (c := 0) (pc := 73) C km_0 (kX12_readsHour hq7) (by decide) (Nat.le_of_ble_eq_true rfl) dX12_routine_73 ?_
        refine j_istoren (ls' := [(3, .int q7.1), (0, .ref (vad (gV G) 0)), (1, .int x1)]) (pc := 76) C dX12_routine_76 rfl (by decide) rfl ?_
        refine j_goto (tgt := 50) (pc := 77) C dX12_routine_77 (by decide) ?_
        refine j_ls [1, 2, 0] rfl ?_
        exact ih _ _ _ hm
      · refine j_aloadn (pc := 65) C 0 dX12_routine_65 rfl rfl ?_
        refine gf_X12_245 (c := 0) (pc := 66) C km_0 dX12_routine_66 ?_
        refine j_if_le (tgt := 80) (pc := 69) C dX12_routine_69 (by decide) hm (fun _ hm => ?_) (fun _ hm => ?_)
        · refine j_aloadn (pc := 72) C 0 dX12_routine_72 rfl rfl ?_
          obtain ⟨q8, hq8, hm⟩ := Option.bind_eq_some_iff.mp hm
          refine cl_X12_254 (c := 0) (pc := 73) C km_0 (kX12_readsHour hq8) (by decide) (Nat.le_of_ble_eq_true rfl) dX12_routine_73 ?_
          refine j_istoren (ls' := [(3, .int q8.1), (0, .ref (vad (gV G) 0)), (1, .int x1)]) (pc := 76) C dX12_routine_76 rfl (by decide) rfl ?_
          refine j_goto (tgt := 50) (pc := 77) C dX12_routine_77 (by decide) ?_
          refine j_ls [1, 2, 0] rfl ?_
          exact ih _ _ _ hm
        · exact hk80 _ _ _ hm

def lp_X12_routine_107 (F : Nat) : Nat → Int32 → Int32 → jS → Option (Int32 × jS)
  | 0, _, _, _ => none
  | n + 1, x1, x4, σ => (if x4 < (24 : Int32) then (if x4 < (σ 0 33) then (if jin x4 24 = true then (if jin (((24 : Int32) * x1) + x4) 384 = true then (lt (js σ 4 (((24 : Int32) * x1) + x4).toNatClampNeg (σ 20 x4.toNatClampNeg)) fun σ14 => (lp_X12_routine_107 F n x1 ((x4 + (1 : Int32))) σ14)) else none) else none) else (if jin (((24 : Int32) * x1) + x4) 384 = true then (lt (js σ 4 (((24 : Int32) * x1) + x4).toNatClampNeg (0 : Int32)) fun σ16 => (lp_X12_routine_107 F n x1 ((x4 + (1 : Int32))) σ16)) else none)) else some ((σ 0 33), σ))
set_option maxHeartbeats 4000000 in
set_option maxRecDepth 100000 in
theorem lp_X12_routine_107_ok {G : jG} (C : jc cfM 33 G cX12_routine RX12 5 (some .int) 3) (F : Nat) {v : (Int32 × jS)} : ∀ (n : Nat) (x1 : Int32) (x4 : Int32) (σ : jS), lp_X12_routine_107 F n x1 x4 σ = some v → JM G 107 [(0, .ref (vad (gV G) 0)), (1, .int x1), (4, .int x4)] [] σ v := by
  intro n
  induction n with
  | zero =>
    intro x1 x4 σ hm
    rw [lp_X12_routine_107] at hm
    cases hm
  | succ n ih =>
    intro x1 x4 σ hm
    rw [lp_X12_routine_107] at hm
    refine j_iload (pc := 107) C 2 dX12_routine_107 rfl ?_
    refine j_bipush (v := 24) (pc := 109) C dX12_routine_109 (by decide) ?_
    refine j_icmp_ge (tgt := 152) (pc := 111) C dX12_routine_111 (by decide) hm (fun _ hm => ?_) (fun _ hm => ?_)
    · refine j_aloadn (pc := 114) C 0 dX12_routine_114 rfl rfl ?_
      refine gf_X12_19 (c := 0) (pc := 115) C km_0 dX12_routine_115 ?_
      refine j_bipush (v := 24) (pc := 118) C dX12_routine_118 (by decide) ?_
      refine j_iloadn (pc := 120) C 1 dX12_routine_120 rfl rfl ?_
      refine j_imul (pc := 121) C dX12_routine_121 ?_
      refine j_iload (pc := 122) C 2 dX12_routine_122 rfl ?_
      refine j_iadd (pc := 124) C dX12_routine_124 ?_
      refine j_iload (pc := 125) C 2 dX12_routine_125 rfl ?_
      refine j_aloadn (pc := 127) C 0 dX12_routine_127 rfl rfl ?_
      refine gf_X12_239 (c := 0) (pc := 128) C km_0 dX12_routine_128 ?_
      refine j_icmp_ge (tgt := 144) (pc := 131) C dX12_routine_131 (by decide) hm (fun _ hm => ?_) (fun _ hm => ?_)
      · refine j_aloadn (pc := 134) C 0 dX12_routine_134 rfl rfl ?_
        refine gf_X12_68 (c := 0) (pc := 135) C km_0 dX12_routine_135 ?_
        refine j_iload (pc := 138) C 2 dX12_routine_138 rfl ?_
        refine j_guard hm (fun hg13 hm => ?_)
        refine j_iald (c := 20) (n := 24) (pc := 140) C (kM_lt km_20 (by decide)) (cm_a km_20 lm_20 _) hg13 dX12_routine_140 ?_
        refine j_goto (tgt := 145) (pc := 141) C dX12_routine_141 (by decide) ?_
        refine j_guard hm (fun hg15 hm => ?_)
        refine j_iastL (c := 4) (n := 384) (pc := 145) C (kM_lt km_4 (by decide)) (cm_a km_4 lm_4) hg15 dX12_routine_145 hm (fun σ14 hm => ?_)
        refine j_iinc (v := (x4 + (1 : Int32))) (ls' := [(4, .int (x4 + (1 : Int32))), (0, .ref (vad (gV G) 0)), (1, .int x1)]) (pc := 146) C 2 dX12_routine_146 rfl rfl (by decide) rfl ?_
        refine j_goto (tgt := 107) (pc := 149) C dX12_routine_149 (by decide) ?_
        refine j_ls [1, 2, 0] rfl ?_
        exact ih _ _ _ hm
      · refine j_iconst (v := 0) (pc := 144) C dX12_routine_144 (by decide) ?_
        refine j_guard hm (fun hg17 hm => ?_)
        refine j_iastL (c := 4) (n := 384) (pc := 145) C (kM_lt km_4 (by decide)) (cm_a km_4 lm_4) hg17 dX12_routine_145 hm (fun σ16 hm => ?_)
        refine j_iinc (v := (x4 + (1 : Int32))) (ls' := [(4, .int (x4 + (1 : Int32))), (0, .ref (vad (gV G) 0)), (1, .int x1)]) (pc := 146) C 2 dX12_routine_146 rfl rfl (by decide) rfl ?_
        refine j_goto (tgt := 107) (pc := 149) C dX12_routine_149 (by decide) ?_
        refine j_ls [1, 2, 0] rfl ?_
        exact ih _ _ _ hm
    · refine j_aloadn (pc := 152) C 0 dX12_routine_152 rfl rfl ?_
      refine gf_X12_239 (c := 0) (pc := 153) C km_0 dX12_routine_153 ?_
      exact j_iretS (pc := 156) C rfl dX12_routine_156 hm

def jn_X12_routine_80 (F : Nat) (x1 : Int32) (x3 : Int32) (σ : jS) : Option (Int32 × jS) := (lt (js σ 0 6 (0 : Int32)) fun σ10 => (if x3 = 0 then some ((σ10 0 9), σ10) else (if jin x1 16 = true then (lt (js σ10 5 x1.toNatClampNeg (σ10 0 33)) fun σ11 => (lp_X12_routine_107 F F x1 (0 : Int32) σ11)) else none)))
set_option maxHeartbeats 4000000 in
set_option maxRecDepth 100000 in
theorem jn_X12_routine_80_ok {G : jG} (C : jc cfM 33 G cX12_routine RX12 5 (some .int) 3) (F : Nat) {v : (Int32 × jS)} : ∀ (x1 : Int32) (x3 : Int32) (σ : jS), jn_X12_routine_80 F x1 x3 σ = some v → JM G 80 [(0, .ref (vad (gV G) 0)), (1, .int x1), (3, .int x3)] [] σ v := by
  intro x1 x3 σ hm
  unfold jn_X12_routine_80 at hm
  refine j_aloadn (pc := 80) C 0 dX12_routine_80 rfl rfl ?_
  refine j_iconst (v := 0) (pc := 81) C dX12_routine_81 (by decide) ?_
  refine pf_X12_120 (c := 0) (pc := 82) C km_0 dX12_routine_82 hm (fun σ10 hm => ?_)
  refine j_iloadn (pc := 85) C 2 dX12_routine_85 rfl rfl ?_
  refine j_if_ne (tgt := 94) (pc := 86) C dX12_routine_86 (by decide) hm (fun _ hm => ?_) (fun _ hm => ?_)
  · refine j_aloadn (pc := 89) C 0 dX12_routine_89 rfl rfl ?_
    refine gf_X12_138 (c := 0) (pc := 90) C km_0 dX12_routine_90 ?_
    exact j_iretS (pc := 93) C rfl dX12_routine_93 hm
  · refine j_aloadn (pc := 94) C 0 dX12_routine_94 rfl rfl ?_
    refine gf_X12_22 (c := 0) (pc := 95) C km_0 dX12_routine_95 ?_
    refine j_iloadn (pc := 98) C 1 dX12_routine_98 rfl rfl ?_
    refine j_aloadn (pc := 99) C 0 dX12_routine_99 rfl rfl ?_
    refine gf_X12_239 (c := 0) (pc := 100) C km_0 dX12_routine_100 ?_
    refine j_guard hm (fun hg12 hm => ?_)
    refine j_iastL (c := 5) (n := 16) (pc := 103) C (kM_lt km_5 (by decide)) (cm_a km_5 lm_5) hg12 dX12_routine_103 hm (fun σ11 hm => ?_)
    refine j_iconst (v := 0) (pc := 104) C dX12_routine_104 (by decide) ?_
    refine j_istore (ls' := [(4, .int (0 : Int32)), (0, .ref (vad (gV G) 0)), (1, .int x1), (3, .int x3)]) (pc := 105) C dX12_routine_105 (by decide) rfl ?_
    refine j_ls [1, 2, 0] rfl ?_
    exact lp_X12_routine_107_ok C F  F _ _ _ hm

def mX12_routine (F : Nat) (x1 : Int32) (x2 : Int32) (σ : jS) : Option (Int32 × jS) := (Option.bind (mX12_in F x1 (0 : Int32) (15 : Int32) σ) fun q1 => (if q1 = 0 then some ((-1 : Int32), σ) else (Option.bind (mX12_in F x2 (1 : Int32) (60 : Int32) σ) fun q2 => (if q2 = 0 then some ((-1 : Int32), σ) else (if (σ 0 6) < x2 then some ((-1 : Int32), σ) else (Option.bind (mX12_beginsText F x2 σ) fun q3 => (lt (js q3 0 33 (0 : Int32)) fun σ4 => (lt (js σ4 0 34 (0 : Int32)) fun σ5 => (Option.bind (mX12_readsHour F σ5) fun q6 => (lp_X12_routine_50 F (fun x1_9 x3_9 σ9 => (jn_X12_routine_80 F x1_9 x3_9 σ9)) F x1 q6.1 q6.2))))))))))
set_option maxHeartbeats 4000000 in
set_option maxRecDepth 100000 in
theorem kX12_routine {V : jV} {F : Nat} {x1 : Int32} {x2 : Int32} {σ : jS} {v : (Int32 × jS)} (hm : mX12_routine F x1 x2 σ = some v) : Ct cfM 33 V yX12_routine cX12_routine 5 (some .int) 3 [.ref (vad V 0), .int x1, .int x2] σ v := by
  refine j_start (own := RX12) (by decide) rfl (Nat.le_of_ble_eq_true rfl) ?_
  intro G hV C
  subst hV
  unfold mX12_routine at hm
  show JM G 0 [(0, .ref (vad (gV G) 0)), (1, .int x1), (2, .int x2)] [] σ v
  refine j_iloadn (pc := 0) C 1 dX12_routine_0 rfl rfl ?_
  refine j_iconst (v := 0) (pc := 1) C dX12_routine_1 (by decide) ?_
  refine j_bipush (v := 15) (pc := 2) C dX12_routine_2 (by decide) ?_
  obtain ⟨q1, hq1, hm⟩ := Option.bind_eq_some_iff.mp hm
  refine cl_X12_107 (pc := 4) C (kX12_in hq1) (by decide) (Nat.le_of_ble_eq_true rfl) dX12_routine_4 ?_
  refine j_if_eq (tgt := 28) (pc := 7) C dX12_routine_7 (by decide) hm (fun _ hm => ?_) (fun _ hm => ?_)
  · refine j_iconst (v := -1) (pc := 28) C dX12_routine_28 (by decide) ?_
    exact j_iretS (pc := 29) C rfl dX12_routine_29 hm
  · refine j_iloadn (pc := 10) C 2 dX12_routine_10 rfl rfl ?_
    refine j_iconst (v := 1) (pc := 11) C dX12_routine_11 (by decide) ?_
    refine j_bipush (v := 60) (pc := 12) C dX12_routine_12 (by decide) ?_
    obtain ⟨q2, hq2, hm⟩ := Option.bind_eq_some_iff.mp hm
    refine cl_X12_107 (pc := 14) C (kX12_in hq2) (by decide) (Nat.le_of_ble_eq_true rfl) dX12_routine_14 ?_
    refine j_if_eq (tgt := 28) (pc := 17) C dX12_routine_17 (by decide) hm (fun _ hm => ?_) (fun _ hm => ?_)
    · refine j_iconst (v := -1) (pc := 28) C dX12_routine_28 (by decide) ?_
      exact j_iretS (pc := 29) C rfl dX12_routine_29 hm
    · refine j_iloadn (pc := 20) C 2 dX12_routine_20 rfl rfl ?_
      refine j_aloadn (pc := 21) C 0 dX12_routine_21 rfl rfl ?_
      refine gf_X12_120 (c := 0) (pc := 22) C km_0 dX12_routine_22 ?_
      refine j_icmp_le (tgt := 30) (pc := 25) C dX12_routine_25 (by decide) hm (fun _ hm => ?_) (fun _ hm => ?_)
      · refine j_iconst (v := -1) (pc := 28) C dX12_routine_28 (by decide) ?_
        exact j_iretS (pc := 29) C rfl dX12_routine_29 hm
      · refine j_aloadn (pc := 30) C 0 dX12_routine_30 rfl rfl ?_
        refine j_iloadn (pc := 31) C 2 dX12_routine_31 rfl rfl ?_
        obtain ⟨q3, hq3, hm⟩ := Option.bind_eq_some_iff.mp hm
        refine cl_X12_213 (c := 0) (pc := 32) C km_0 (kX12_beginsText hq3) (by decide) (Nat.le_of_ble_eq_true rfl) dX12_routine_32 ?_
        refine j_aloadn (pc := 35) C 0 dX12_routine_35 rfl rfl ?_
        refine j_iconst (v := 0) (pc := 36) C dX12_routine_36 (by decide) ?_
        refine pf_X12_239 (c := 0) (pc := 37) C km_0 dX12_routine_37 hm (fun σ4 hm => ?_)
        refine j_aloadn (pc := 40) C 0 dX12_routine_40 rfl rfl ?_
        refine j_iconst (v := 0) (pc := 41) C dX12_routine_41 (by decide) ?_
        refine pf_X12_245 (c := 0) (pc := 42) C km_0 dX12_routine_42 hm (fun σ5 hm => ?_)
        refine j_aloadn (pc := 45) C 0 dX12_routine_45 rfl rfl ?_
        obtain ⟨q6, hq6, hm⟩ := Option.bind_eq_some_iff.mp hm
        refine cl_X12_254 (c := 0) (pc := 46) C km_0 (kX12_readsHour hq6) (by decide) (Nat.le_of_ble_eq_true rfl) dX12_routine_46 ?_
        refine j_istoren (ls' := [(3, .int q6.1), (0, .ref (vad (gV G) 0)), (1, .int x1), (2, .int x2)]) (pc := 49) C dX12_routine_49 rfl (by decide) rfl ?_
        refine j_ls [1, 2, 0] rfl ?_
        refine lp_X12_routine_50_ok C F _ (fun x1_9 x3_9 σ9 hm => ?_) F _ _ _ hm
        exact jn_X12_routine_80_ok C F  _ _ _ hm

def mX12_isLetter (F : Nat) (σ : jS) : Option Int32 := (Option.bind (mX12_here F σ) fun q1 => (Option.bind (mX12_in F ((q1 - (97 : Int32))) (0 : Int32) (15 : Int32) σ) fun q2 => (if jbo q2 = true then some q2 else none)))
set_option maxHeartbeats 4000000 in
set_option maxRecDepth 100000 in
theorem kX12_isLetter {V : jV} {F : Nat} {σ : jS} {v : Int32} (hm : mX12_isLetter F σ = some v) : Ct cfM 33 V yX12_isLetter cX12_isLetter 1 (some .boolean) 1 [.ref (vad V 0)] σ (v, σ) := by
  refine j_start (own := RX12) (by decide) rfl (Nat.le_of_ble_eq_true rfl) ?_
  intro G hV C
  subst hV
  unfold mX12_isLetter at hm
  show JM G 0 [(0, .ref (vad (gV G) 0))] [] σ (v, σ)
  refine j_aloadn (pc := 0) C 0 dX12_isLetter_0 rfl rfl ?_
  obtain ⟨q1, hq1, hm⟩ := Option.bind_eq_some_iff.mp hm
  refine cl_X12_134 (c := 0) (pc := 1) C km_0 (kX12_here hq1) (by decide) (Nat.le_of_ble_eq_true rfl) dX12_isLetter_1 ?_
  refine j_bipush (v := 97) (pc := 4) C dX12_isLetter_4 (by decide) ?_
  refine j_isub (pc := 6) C dX12_isLetter_6 ?_
  refine j_iconst (v := 0) (pc := 7) C dX12_isLetter_7 (by decide) ?_
  refine j_bipush (v := 15) (pc := 8) C dX12_isLetter_8 (by decide) ?_
  obtain ⟨q2, hq2, hm⟩ := Option.bind_eq_some_iff.mp hm
  refine cl_X12_107 (pc := 10) C (kX12_in hq2) (by decide) (Nat.le_of_ble_eq_true rfl) dX12_isLetter_10 ?_
  refine j_guard hm (fun hb3 hm => ?_)
  exact j_zret (pc := 13) C rfl hb3 dX12_isLetter_13 hm

def lp_X12_readsAmount_27 (F : Nat) : Nat → Int32 → Int32 → jS → Option (Int32 × jS)
  | 0, _, _, _ => none
  | n + 1, x1, x2, σ => (Option.bind (mX12_isDigit F σ) fun q6 => (if q6 = 0 then some ((1 : Int32), σ) else (if (σ 0 7) = (x2 + x1) then (Option.bind (mX12_wrongAt F (2 : Int32) ((σ 0 7)) σ) fun q7 => (if jbo q7.1 = true then some (q7.1, q7.2) else none)) else (Option.bind (mX12_here F σ) fun q9 => (lt (js σ 0 10 ((((10 : Int32) * (σ 0 10)) + q9) - (48 : Int32))) fun σ10 => (lt (js σ10 0 7 ((σ10 0 7) + (1 : Int32))) fun σ11 => (lp_X12_readsAmount_27 F n x1 x2 σ11)))))))
set_option maxHeartbeats 4000000 in
set_option maxRecDepth 100000 in
theorem lp_X12_readsAmount_27_ok {G : jG} (C : jc cfM 33 G cX12_readsAmount RX12 3 (some .boolean) 2) (F : Nat) {v : (Int32 × jS)} : ∀ (n : Nat) (x1 : Int32) (x2 : Int32) (σ : jS), lp_X12_readsAmount_27 F n x1 x2 σ = some v → JM G 27 [(0, .ref (vad (gV G) 0)), (1, .int x1), (2, .int x2)] [] σ v := by
  intro n
  induction n with
  | zero =>
    intro x1 x2 σ hm
    rw [lp_X12_readsAmount_27] at hm
    cases hm
  | succ n ih =>
    intro x1 x2 σ hm
    rw [lp_X12_readsAmount_27] at hm
    refine j_aloadn (pc := 27) C 0 dX12_readsAmount_27 rfl rfl ?_
    obtain ⟨q6, hq6, hm⟩ := Option.bind_eq_some_iff.mp hm
    refine cl_X12_148 (c := 0) (pc := 28) C km_0 (kX12_isDigit hq6) (by decide) (Nat.le_of_ble_eq_true rfl) dX12_readsAmount_28 ?_
    refine j_if_eq (tgt := 86) (pc := 31) C dX12_readsAmount_31 (by decide) hm (fun _ hm => ?_) (fun _ hm => ?_)
    · refine j_iconst (v := 1) (pc := 86) C dX12_readsAmount_86 (by decide) ?_
      exact j_zretS (pc := 87) C rfl rfl dX12_readsAmount_87 hm
    · refine j_aloadn (pc := 34) C 0 dX12_readsAmount_34 rfl rfl ?_
      refine gf_X12_128 (c := 0) (pc := 35) C km_0 dX12_readsAmount_35 ?_
      refine j_iloadn (pc := 38) C 2 dX12_readsAmount_38 rfl rfl ?_
      refine j_iloadn (pc := 39) C 1 dX12_readsAmount_39 rfl rfl ?_
      refine j_iadd (pc := 40) C dX12_readsAmount_40 ?_
      refine j_icmp_ne (tgt := 54) (pc := 41) C dX12_readsAmount_41 (by decide) hm (fun _ hm => ?_) (fun _ hm => ?_)
      · refine j_aloadn (pc := 44) C 0 dX12_readsAmount_44 rfl rfl ?_
        refine j_iconst (v := 2) (pc := 45) C dX12_readsAmount_45 (by decide) ?_
        refine j_aloadn (pc := 46) C 0 dX12_readsAmount_46 rfl rfl ?_
        refine gf_X12_128 (c := 0) (pc := 47) C km_0 dX12_readsAmount_47 ?_
        obtain ⟨q7, hq7, hm⟩ := Option.bind_eq_some_iff.mp hm
        refine cl_X12_141 (c := 0) (pc := 50) C km_0 (kX12_wrongAt hq7) (by decide) (Nat.le_of_ble_eq_true rfl) dX12_readsAmount_50 ?_
        refine j_guard hm (fun hb8 hm => ?_)
        exact j_zretS (pc := 53) C rfl hb8 dX12_readsAmount_53 hm
      · refine j_aloadn (pc := 54) C 0 dX12_readsAmount_54 rfl rfl ?_
        refine j_bipush (v := 10) (pc := 55) C dX12_readsAmount_55 (by decide) ?_
        refine j_aloadn (pc := 57) C 0 dX12_readsAmount_57 rfl rfl ?_
        refine gf_X12_145 (c := 0) (pc := 58) C km_0 dX12_readsAmount_58 ?_
        refine j_imul (pc := 61) C dX12_readsAmount_61 ?_
        refine j_aloadn (pc := 62) C 0 dX12_readsAmount_62 rfl rfl ?_
        obtain ⟨q9, hq9, hm⟩ := Option.bind_eq_some_iff.mp hm
        refine cl_X12_134 (c := 0) (pc := 63) C km_0 (kX12_here hq9) (by decide) (Nat.le_of_ble_eq_true rfl) dX12_readsAmount_63 ?_
        refine j_iadd (pc := 66) C dX12_readsAmount_66 ?_
        refine j_bipush (v := 48) (pc := 67) C dX12_readsAmount_67 (by decide) ?_
        refine j_isub (pc := 69) C dX12_readsAmount_69 ?_
        refine pf_X12_145 (c := 0) (pc := 70) C km_0 dX12_readsAmount_70 hm (fun σ10 hm => ?_)
        refine j_aloadn (pc := 73) C 0 dX12_readsAmount_73 rfl rfl ?_
        refine j_aloadn (pc := 74) C 0 dX12_readsAmount_74 rfl rfl ?_
        refine gf_X12_128 (c := 0) (pc := 75) C km_0 dX12_readsAmount_75 ?_
        refine j_iconst (v := 1) (pc := 78) C dX12_readsAmount_78 (by decide) ?_
        refine j_iadd (pc := 79) C dX12_readsAmount_79 ?_
        refine pf_X12_128 (c := 0) (pc := 80) C km_0 dX12_readsAmount_80 hm (fun σ11 hm => ?_)
        refine j_goto (tgt := 27) (pc := 83) C dX12_readsAmount_83 (by decide) ?_
        exact ih _ _ _ hm

def mX12_readsAmount (F : Nat) (x1 : Int32) (σ : jS) : Option (Int32 × jS) := (lt (σ 0 7) fun y1 => (Option.bind (mX12_isDigit F σ) fun q2 => (if q2 = 0 then (Option.bind (mX12_wrongAt F (1 : Int32) ((σ 0 7)) σ) fun q3 => (if jbo q3.1 = true then some (q3.1, q3.2) else none)) else (lt (js σ 0 10 (0 : Int32)) fun σ5 => (lp_X12_readsAmount_27 F F x1 y1 σ5)))))
set_option maxHeartbeats 4000000 in
set_option maxRecDepth 100000 in
theorem kX12_readsAmount {V : jV} {F : Nat} {x1 : Int32} {σ : jS} {v : (Int32 × jS)} (hm : mX12_readsAmount F x1 σ = some v) : Ct cfM 33 V yX12_readsAmount cX12_readsAmount 3 (some .boolean) 2 [.ref (vad V 0), .int x1] σ v := by
  refine j_start (own := RX12) (by decide) rfl (Nat.le_of_ble_eq_true rfl) ?_
  intro G hV C
  subst hV
  unfold mX12_readsAmount at hm
  show JM G 0 [(0, .ref (vad (gV G) 0)), (1, .int x1)] [] σ v
  refine j_aloadn (pc := 0) C 0 dX12_readsAmount_0 rfl rfl ?_
  refine gf_X12_128 (c := 0) (pc := 1) C km_0 dX12_readsAmount_1 ?_
  refine j_lti hm (fun y1 hm => ?_)
  refine j_istoren (ls' := [(2, .int y1), (0, .ref (vad (gV G) 0)), (1, .int x1)]) (pc := 4) C dX12_readsAmount_4 rfl (by decide) rfl ?_
  refine j_aloadn (pc := 5) C 1 dX12_readsAmount_5 rfl rfl ?_
  obtain ⟨q2, hq2, hm⟩ := Option.bind_eq_some_iff.mp hm
  refine cl_X12_148 (c := 0) (pc := 6) C km_0 (kX12_isDigit hq2) (by decide) (Nat.le_of_ble_eq_true rfl) dX12_readsAmount_6 ?_
  refine j_if_ne (tgt := 22) (pc := 9) C dX12_readsAmount_9 (by decide) hm (fun _ hm => ?_) (fun _ hm => ?_)
  · refine j_aloadn (pc := 12) C 1 dX12_readsAmount_12 rfl rfl ?_
    refine j_iconst (v := 1) (pc := 13) C dX12_readsAmount_13 (by decide) ?_
    refine j_aloadn (pc := 14) C 1 dX12_readsAmount_14 rfl rfl ?_
    refine gf_X12_128 (c := 0) (pc := 15) C km_0 dX12_readsAmount_15 ?_
    obtain ⟨q3, hq3, hm⟩ := Option.bind_eq_some_iff.mp hm
    refine cl_X12_141 (c := 0) (pc := 18) C km_0 (kX12_wrongAt hq3) (by decide) (Nat.le_of_ble_eq_true rfl) dX12_readsAmount_18 ?_
    refine j_guard hm (fun hb4 hm => ?_)
    exact j_zretS (pc := 21) C rfl hb4 dX12_readsAmount_21 hm
  · refine j_aloadn (pc := 22) C 1 dX12_readsAmount_22 rfl rfl ?_
    refine j_iconst (v := 0) (pc := 23) C dX12_readsAmount_23 (by decide) ?_
    refine pf_X12_145 (c := 0) (pc := 24) C km_0 dX12_readsAmount_24 hm (fun σ5 hm => ?_)
    refine j_ls [1, 2, 0] rfl ?_
    exact lp_X12_readsAmount_27_ok C F  F _ _ _ hm

def mX12_readsPerhaps (F : Nat) (x1 : Int32) (x2 : Int32) (σ : jS) : Option (Int32 × jS) := (lt (js σ 0 10 (0 : Int32)) fun σ1 => (Option.bind (mX12_here F σ1) fun q2 => (if q2 = x1 then (lt (js σ1 0 7 ((σ1 0 7) + (1 : Int32))) fun σ3 => (Option.bind (mX12_readsAmount F x2 σ3) fun q4 => (if jbo q4.1 = true then some (q4.1, q4.2) else none))) else some ((1 : Int32), σ1))))
set_option maxHeartbeats 4000000 in
set_option maxRecDepth 100000 in
theorem kX12_readsPerhaps {V : jV} {F : Nat} {x1 : Int32} {x2 : Int32} {σ : jS} {v : (Int32 × jS)} (hm : mX12_readsPerhaps F x1 x2 σ = some v) : Ct cfM 33 V yX12_readsPerhaps cX12_readsPerhaps 3 (some .boolean) 3 [.ref (vad V 0), .int x1, .int x2] σ v := by
  refine j_start (own := RX12) (by decide) rfl (Nat.le_of_ble_eq_true rfl) ?_
  intro G hV C
  subst hV
  unfold mX12_readsPerhaps at hm
  show JM G 0 [(0, .ref (vad (gV G) 0)), (1, .int x1), (2, .int x2)] [] σ v
  refine j_aloadn (pc := 0) C 0 dX12_readsPerhaps_0 rfl rfl ?_
  refine j_iconst (v := 0) (pc := 1) C dX12_readsPerhaps_1 (by decide) ?_
  refine pf_X12_145 (c := 0) (pc := 2) C km_0 dX12_readsPerhaps_2 hm (fun σ1 hm => ?_)
  refine j_aloadn (pc := 5) C 0 dX12_readsPerhaps_5 rfl rfl ?_
  obtain ⟨q2, hq2, hm⟩ := Option.bind_eq_some_iff.mp hm
  refine cl_X12_134 (c := 0) (pc := 6) C km_0 (kX12_here hq2) (by decide) (Nat.le_of_ble_eq_true rfl) dX12_readsPerhaps_6 ?_
  refine j_iloadn (pc := 9) C 1 dX12_readsPerhaps_9 rfl rfl ?_
  refine j_icmp_eq (tgt := 15) (pc := 10) C dX12_readsPerhaps_10 (by decide) hm (fun _ hm => ?_) (fun _ hm => ?_)
  · refine j_aloadn (pc := 15) C 0 dX12_readsPerhaps_15 rfl rfl ?_
    refine j_aloadn (pc := 16) C 0 dX12_readsPerhaps_16 rfl rfl ?_
    refine gf_X12_128 (c := 0) (pc := 17) C km_0 dX12_readsPerhaps_17 ?_
    refine j_iconst (v := 1) (pc := 20) C dX12_readsPerhaps_20 (by decide) ?_
    refine j_iadd (pc := 21) C dX12_readsPerhaps_21 ?_
    refine pf_X12_128 (c := 0) (pc := 22) C km_0 dX12_readsPerhaps_22 hm (fun σ3 hm => ?_)
    refine j_aloadn (pc := 25) C 0 dX12_readsPerhaps_25 rfl rfl ?_
    refine j_iloadn (pc := 26) C 2 dX12_readsPerhaps_26 rfl rfl ?_
    obtain ⟨q4, hq4, hm⟩ := Option.bind_eq_some_iff.mp hm
    refine cl_X12_257 (c := 0) (pc := 27) C km_0 (kX12_readsAmount hq4) (by decide) (Nat.le_of_ble_eq_true rfl) dX12_readsPerhaps_27 ?_
    refine j_guard hm (fun hb5 hm => ?_)
    exact j_zretS (pc := 30) C rfl hb5 dX12_readsPerhaps_30 hm
  · refine j_iconst (v := 1) (pc := 13) C dX12_readsPerhaps_13 (by decide) ?_
    exact j_zretS (pc := 14) C rfl rfl dX12_readsPerhaps_14 hm

def mX12_readsLoan (F : Nat) (σ : jS) : Option (Int32 × jS) := (Option.bind (mX12_isLetter F σ) fun q1 => (if q1 = 0 then (Option.bind (mX12_wrongAt F (1 : Int32) ((σ 0 7)) σ) fun q2 => (if jbo q2.1 = true then some (q2.1, q2.2) else none)) else (if (σ 0 38) = (24 : Int32) then (Option.bind (mX12_wrongAt F (4 : Int32) ((σ 0 7)) σ) fun q4 => (if jbo q4.1 = true then some (q4.1, q4.2) else none)) else (lt ((5 : Int32) * (σ 0 38)) fun y6 => (lt (js σ 0 38 ((σ 0 38) + (1 : Int32))) fun σ7 => (Option.bind (mX12_here F σ7) fun q8 => (lt (q8 - (97 : Int32)) fun y9 => (Option.bind (mX12_isTold F y9 σ7) fun q10 => (if q10 = 0 then (Option.bind (mX12_wrongAt F (7 : Int32) ((σ7 0 7)) σ7) fun q11 => (if jbo q11.1 = true then some (q11.1, q11.2) else none)) else (lt (js σ7 0 7 ((σ7 0 7) + (1 : Int32))) fun σ13 => (Option.bind (mX12_takes F (62 : Int32) σ13) fun q14 => (if q14.1 = 0 then some ((0 : Int32), q14.2) else (Option.bind (mX12_isLetter F q14.2) fun q15 => (if q15 = 0 then (Option.bind (mX12_wrongAt F (1 : Int32) ((q14.2 0 7)) q14.2) fun q16 => (if jbo q16.1 = true then some (q16.1, q16.2) else none)) else (Option.bind (mX12_here F q14.2) fun q18 => (lt (q18 - (97 : Int32)) fun y19 => (if y19 = y9 then (Option.bind (mX12_wrongAt F (6 : Int32) ((q14.2 0 7)) q14.2) fun q20 => (if jbo q20.1 = true then some (q20.1, q20.2) else none)) else (Option.bind (mX12_isTold F y19 q14.2) fun q22 => (if q22 = 0 then (Option.bind (mX12_wrongAt F (7 : Int32) ((q14.2 0 7)) q14.2) fun q23 => (if jbo q23.1 = true then some (q23.1, q23.2) else none)) else (lt (js q14.2 0 7 ((q14.2 0 7) + (1 : Int32))) fun σ25 => (lt (σ25 0 7) fun y26 => (Option.bind (mX12_readsAmount F (6 : Int32) σ25) fun q27 => (if q27.1 = 0 then some ((0 : Int32), q27.2) else (if (q27.2 0 10) = 0 then (Option.bind (mX12_wrongAt F (3 : Int32) y26 q27.2) fun q28 => (if jbo q28.1 = true then some (q28.1, q28.2) else none)) else (if jin y6 120 = true then (lt (js q27.2 24 y6.toNatClampNeg y9) fun σ30 => (if jin (y6 + (1 : Int32)) 120 = true then (lt (js σ30 24 (y6 + (1 : Int32)).toNatClampNeg y19) fun σ32 => (if jin (y6 + (2 : Int32)) 120 = true then (lt (js σ32 24 (y6 + (2 : Int32)).toNatClampNeg (σ32 0 10)) fun σ34 => (Option.bind (mX12_readsPerhaps F (64 : Int32) (2 : Int32) σ34) fun q36 => (if q36.1 = 0 then some ((0 : Int32), q36.2) else (if jin (y6 + (3 : Int32)) 120 = true then (lt (js q36.2 24 (y6 + (3 : Int32)).toNatClampNeg (q36.2 0 10)) fun σ37 => (Option.bind (mX12_readsPerhaps F (47 : Int32) (4 : Int32) σ37) fun q39 => (if q39.1 = 0 then some ((0 : Int32), q39.2) else (if jin (y6 + (4 : Int32)) 120 = true then (lt (js q39.2 24 (y6 + (4 : Int32)).toNatClampNeg (q39.2 0 10)) fun σ40 => some ((1 : Int32), σ40)) else none)))) else none)))) else none)) else none)) else none)))))))))))))))))))))))))
set_option maxHeartbeats 4000000 in
set_option maxRecDepth 100000 in
theorem kX12_readsLoan {V : jV} {F : Nat} {σ : jS} {v : (Int32 × jS)} (hm : mX12_readsLoan F σ = some v) : Ct cfM 33 V yX12_readsLoan cX12_readsLoan 5 (some .boolean) 4 [.ref (vad V 0)] σ v := by
  refine j_start (own := RX12) (by decide) rfl (Nat.le_of_ble_eq_true rfl) ?_
  intro G hV C
  subst hV
  unfold mX12_readsLoan at hm
  show JM G 0 [(0, .ref (vad (gV G) 0))] [] σ v
  refine j_aloadn (pc := 0) C 0 dX12_readsLoan_0 rfl rfl ?_
  obtain ⟨q1, hq1, hm⟩ := Option.bind_eq_some_iff.mp hm
  refine cl_X12_260 (c := 0) (pc := 1) C km_0 (kX12_isLetter hq1) (by decide) (Nat.le_of_ble_eq_true rfl) dX12_readsLoan_1 ?_
  refine j_if_ne (tgt := 17) (pc := 4) C dX12_readsLoan_4 (by decide) hm (fun _ hm => ?_) (fun _ hm => ?_)
  · refine j_aloadn (pc := 7) C 0 dX12_readsLoan_7 rfl rfl ?_
    refine j_iconst (v := 1) (pc := 8) C dX12_readsLoan_8 (by decide) ?_
    refine j_aloadn (pc := 9) C 0 dX12_readsLoan_9 rfl rfl ?_
    refine gf_X12_128 (c := 0) (pc := 10) C km_0 dX12_readsLoan_10 ?_
    obtain ⟨q2, hq2, hm⟩ := Option.bind_eq_some_iff.mp hm
    refine cl_X12_141 (c := 0) (pc := 13) C km_0 (kX12_wrongAt hq2) (by decide) (Nat.le_of_ble_eq_true rfl) dX12_readsLoan_13 ?_
    refine j_guard hm (fun hb3 hm => ?_)
    exact j_zretS (pc := 16) C rfl hb3 dX12_readsLoan_16 hm
  · refine j_aloadn (pc := 17) C 0 dX12_readsLoan_17 rfl rfl ?_
    refine gf_X12_263 (c := 0) (pc := 18) C km_0 dX12_readsLoan_18 ?_
    refine j_bipush (v := 24) (pc := 21) C dX12_readsLoan_21 (by decide) ?_
    refine j_icmp_ne (tgt := 36) (pc := 23) C dX12_readsLoan_23 (by decide) hm (fun _ hm => ?_) (fun _ hm => ?_)
    · refine j_aloadn (pc := 26) C 0 dX12_readsLoan_26 rfl rfl ?_
      refine j_iconst (v := 4) (pc := 27) C dX12_readsLoan_27 (by decide) ?_
      refine j_aloadn (pc := 28) C 0 dX12_readsLoan_28 rfl rfl ?_
      refine gf_X12_128 (c := 0) (pc := 29) C km_0 dX12_readsLoan_29 ?_
      obtain ⟨q4, hq4, hm⟩ := Option.bind_eq_some_iff.mp hm
      refine cl_X12_141 (c := 0) (pc := 32) C km_0 (kX12_wrongAt hq4) (by decide) (Nat.le_of_ble_eq_true rfl) dX12_readsLoan_32 ?_
      refine j_guard hm (fun hb5 hm => ?_)
      exact j_zretS (pc := 35) C rfl hb5 dX12_readsLoan_35 hm
    · refine j_iconst (v := 5) (pc := 36) C dX12_readsLoan_36 (by decide) ?_
      refine j_aloadn (pc := 37) C 0 dX12_readsLoan_37 rfl rfl ?_
      refine gf_X12_263 (c := 0) (pc := 38) C km_0 dX12_readsLoan_38 ?_
      refine j_imul (pc := 41) C dX12_readsLoan_41 ?_
      refine j_lti hm (fun y6 hm => ?_)
      refine j_istoren (ls' := [(1, .int y6), (0, .ref (vad (gV G) 0))]) (pc := 42) C dX12_readsLoan_42 rfl (by decide) rfl ?_
      refine j_aloadn (pc := 43) C 1 dX12_readsLoan_43 rfl rfl ?_
      refine j_aloadn (pc := 44) C 1 dX12_readsLoan_44 rfl rfl ?_
      refine gf_X12_263 (c := 0) (pc := 45) C km_0 dX12_readsLoan_45 ?_
      refine j_iconst (v := 1) (pc := 48) C dX12_readsLoan_48 (by decide) ?_
      refine j_iadd (pc := 49) C dX12_readsLoan_49 ?_
      refine pf_X12_263 (c := 0) (pc := 50) C km_0 dX12_readsLoan_50 hm (fun σ7 hm => ?_)
      refine j_aloadn (pc := 53) C 1 dX12_readsLoan_53 rfl rfl ?_
      obtain ⟨q8, hq8, hm⟩ := Option.bind_eq_some_iff.mp hm
      refine cl_X12_134 (c := 0) (pc := 54) C km_0 (kX12_here hq8) (by decide) (Nat.le_of_ble_eq_true rfl) dX12_readsLoan_54 ?_
      refine j_bipush (v := 97) (pc := 57) C dX12_readsLoan_57 (by decide) ?_
      refine j_isub (pc := 59) C dX12_readsLoan_59 ?_
      refine j_lti hm (fun y9 hm => ?_)
      refine j_istoren (ls' := [(2, .int y9), (1, .int y6), (0, .ref (vad (gV G) 0))]) (pc := 60) C dX12_readsLoan_60 rfl (by decide) rfl ?_
      refine j_aloadn (pc := 61) C 2 dX12_readsLoan_61 rfl rfl ?_
      refine j_iloadn (pc := 62) C 0 dX12_readsLoan_62 rfl rfl ?_
      obtain ⟨q10, hq10, hm⟩ := Option.bind_eq_some_iff.mp hm
      refine cl_X12_111 (c := 0) (pc := 63) C km_0 (kX12_isTold hq10) (by decide) (Nat.le_of_ble_eq_true rfl) dX12_readsLoan_63 ?_
      refine j_if_ne (tgt := 80) (pc := 66) C dX12_readsLoan_66 (by decide) hm (fun _ hm => ?_) (fun _ hm => ?_)
      · refine j_aloadn (pc := 69) C 2 dX12_readsLoan_69 rfl rfl ?_
        refine j_bipush (v := 7) (pc := 70) C dX12_readsLoan_70 (by decide) ?_
        refine j_aloadn (pc := 72) C 2 dX12_readsLoan_72 rfl rfl ?_
        refine gf_X12_128 (c := 0) (pc := 73) C km_0 dX12_readsLoan_73 ?_
        obtain ⟨q11, hq11, hm⟩ := Option.bind_eq_some_iff.mp hm
        refine cl_X12_141 (c := 0) (pc := 76) C km_0 (kX12_wrongAt hq11) (by decide) (Nat.le_of_ble_eq_true rfl) dX12_readsLoan_76 ?_
        refine j_guard hm (fun hb12 hm => ?_)
        exact j_zretS (pc := 79) C rfl hb12 dX12_readsLoan_79 hm
      · refine j_aloadn (pc := 80) C 2 dX12_readsLoan_80 rfl rfl ?_
        refine j_aloadn (pc := 81) C 2 dX12_readsLoan_81 rfl rfl ?_
        refine gf_X12_128 (c := 0) (pc := 82) C km_0 dX12_readsLoan_82 ?_
        refine j_iconst (v := 1) (pc := 85) C dX12_readsLoan_85 (by decide) ?_
        refine j_iadd (pc := 86) C dX12_readsLoan_86 ?_
        refine pf_X12_128 (c := 0) (pc := 87) C km_0 dX12_readsLoan_87 hm (fun σ13 hm => ?_)
        refine j_aloadn (pc := 90) C 2 dX12_readsLoan_90 rfl rfl ?_
        refine j_bipush (v := 62) (pc := 91) C dX12_readsLoan_91 (by decide) ?_
        obtain ⟨q14, hq14, hm⟩ := Option.bind_eq_some_iff.mp hm
        refine cl_X12_219 (c := 0) (pc := 93) C km_0 (kX12_takes hq14) (by decide) (Nat.le_of_ble_eq_true rfl) dX12_readsLoan_93 ?_
        refine j_if_ne (tgt := 101) (pc := 96) C dX12_readsLoan_96 (by decide) hm (fun _ hm => ?_) (fun _ hm => ?_)
        · refine j_iconst (v := 0) (pc := 99) C dX12_readsLoan_99 (by decide) ?_
          exact j_zretS (pc := 100) C rfl rfl dX12_readsLoan_100 hm
        · refine j_aloadn (pc := 101) C 2 dX12_readsLoan_101 rfl rfl ?_
          obtain ⟨q15, hq15, hm⟩ := Option.bind_eq_some_iff.mp hm
          refine cl_X12_260 (c := 0) (pc := 102) C km_0 (kX12_isLetter hq15) (by decide) (Nat.le_of_ble_eq_true rfl) dX12_readsLoan_102 ?_
          refine j_if_ne (tgt := 118) (pc := 105) C dX12_readsLoan_105 (by decide) hm (fun _ hm => ?_) (fun _ hm => ?_)
          · refine j_aloadn (pc := 108) C 2 dX12_readsLoan_108 rfl rfl ?_
            refine j_iconst (v := 1) (pc := 109) C dX12_readsLoan_109 (by decide) ?_
            refine j_aloadn (pc := 110) C 2 dX12_readsLoan_110 rfl rfl ?_
            refine gf_X12_128 (c := 0) (pc := 111) C km_0 dX12_readsLoan_111 ?_
            obtain ⟨q16, hq16, hm⟩ := Option.bind_eq_some_iff.mp hm
            refine cl_X12_141 (c := 0) (pc := 114) C km_0 (kX12_wrongAt hq16) (by decide) (Nat.le_of_ble_eq_true rfl) dX12_readsLoan_114 ?_
            refine j_guard hm (fun hb17 hm => ?_)
            exact j_zretS (pc := 117) C rfl hb17 dX12_readsLoan_117 hm
          · refine j_aloadn (pc := 118) C 2 dX12_readsLoan_118 rfl rfl ?_
            obtain ⟨q18, hq18, hm⟩ := Option.bind_eq_some_iff.mp hm
            refine cl_X12_134 (c := 0) (pc := 119) C km_0 (kX12_here hq18) (by decide) (Nat.le_of_ble_eq_true rfl) dX12_readsLoan_119 ?_
            refine j_bipush (v := 97) (pc := 122) C dX12_readsLoan_122 (by decide) ?_
            refine j_isub (pc := 124) C dX12_readsLoan_124 ?_
            refine j_lti hm (fun y19 hm => ?_)
            refine j_istoren (ls' := [(3, .int y19), (2, .int y9), (1, .int y6), (0, .ref (vad (gV G) 0))]) (pc := 125) C dX12_readsLoan_125 rfl (by decide) rfl ?_
            refine j_iloadn (pc := 126) C 0 dX12_readsLoan_126 rfl rfl ?_
            refine j_iloadn (pc := 127) C 1 dX12_readsLoan_127 rfl rfl ?_
            refine j_icmp_ne (tgt := 142) (pc := 128) C dX12_readsLoan_128 (by decide) hm (fun _ hm => ?_) (fun _ hm => ?_)
            · refine j_aloadn (pc := 131) C 3 dX12_readsLoan_131 rfl rfl ?_
              refine j_bipush (v := 6) (pc := 132) C dX12_readsLoan_132 (by decide) ?_
              refine j_aloadn (pc := 134) C 3 dX12_readsLoan_134 rfl rfl ?_
              refine gf_X12_128 (c := 0) (pc := 135) C km_0 dX12_readsLoan_135 ?_
              obtain ⟨q20, hq20, hm⟩ := Option.bind_eq_some_iff.mp hm
              refine cl_X12_141 (c := 0) (pc := 138) C km_0 (kX12_wrongAt hq20) (by decide) (Nat.le_of_ble_eq_true rfl) dX12_readsLoan_138 ?_
              refine j_guard hm (fun hb21 hm => ?_)
              exact j_zretS (pc := 141) C rfl hb21 dX12_readsLoan_141 hm
            · refine j_aloadn (pc := 142) C 3 dX12_readsLoan_142 rfl rfl ?_
              refine j_iloadn (pc := 143) C 0 dX12_readsLoan_143 rfl rfl ?_
              obtain ⟨q22, hq22, hm⟩ := Option.bind_eq_some_iff.mp hm
              refine cl_X12_111 (c := 0) (pc := 144) C km_0 (kX12_isTold hq22) (by decide) (Nat.le_of_ble_eq_true rfl) dX12_readsLoan_144 ?_
              refine j_if_ne (tgt := 161) (pc := 147) C dX12_readsLoan_147 (by decide) hm (fun _ hm => ?_) (fun _ hm => ?_)
              · refine j_aloadn (pc := 150) C 3 dX12_readsLoan_150 rfl rfl ?_
                refine j_bipush (v := 7) (pc := 151) C dX12_readsLoan_151 (by decide) ?_
                refine j_aloadn (pc := 153) C 3 dX12_readsLoan_153 rfl rfl ?_
                refine gf_X12_128 (c := 0) (pc := 154) C km_0 dX12_readsLoan_154 ?_
                obtain ⟨q23, hq23, hm⟩ := Option.bind_eq_some_iff.mp hm
                refine cl_X12_141 (c := 0) (pc := 157) C km_0 (kX12_wrongAt hq23) (by decide) (Nat.le_of_ble_eq_true rfl) dX12_readsLoan_157 ?_
                refine j_guard hm (fun hb24 hm => ?_)
                exact j_zretS (pc := 160) C rfl hb24 dX12_readsLoan_160 hm
              · refine j_aloadn (pc := 161) C 3 dX12_readsLoan_161 rfl rfl ?_
                refine j_aloadn (pc := 162) C 3 dX12_readsLoan_162 rfl rfl ?_
                refine gf_X12_128 (c := 0) (pc := 163) C km_0 dX12_readsLoan_163 ?_
                refine j_iconst (v := 1) (pc := 166) C dX12_readsLoan_166 (by decide) ?_
                refine j_iadd (pc := 167) C dX12_readsLoan_167 ?_
                refine pf_X12_128 (c := 0) (pc := 168) C km_0 dX12_readsLoan_168 hm (fun σ25 hm => ?_)
                refine j_aloadn (pc := 171) C 3 dX12_readsLoan_171 rfl rfl ?_
                refine gf_X12_128 (c := 0) (pc := 172) C km_0 dX12_readsLoan_172 ?_
                refine j_lti hm (fun y26 hm => ?_)
                refine j_istore (ls' := [(4, .int y26), (3, .int y19), (2, .int y9), (1, .int y6), (0, .ref (vad (gV G) 0))]) (pc := 175) C dX12_readsLoan_175 (by decide) rfl ?_
                refine j_aloadn (pc := 177) C 4 dX12_readsLoan_177 rfl rfl ?_
                refine j_bipush (v := 6) (pc := 178) C dX12_readsLoan_178 (by decide) ?_
                obtain ⟨q27, hq27, hm⟩ := Option.bind_eq_some_iff.mp hm
                refine cl_X12_257 (c := 0) (pc := 180) C km_0 (kX12_readsAmount hq27) (by decide) (Nat.le_of_ble_eq_true rfl) dX12_readsLoan_180 ?_
                refine j_if_ne (tgt := 188) (pc := 183) C dX12_readsLoan_183 (by decide) hm (fun _ hm => ?_) (fun _ hm => ?_)
                · refine j_iconst (v := 0) (pc := 186) C dX12_readsLoan_186 (by decide) ?_
                  exact j_zretS (pc := 187) C rfl rfl dX12_readsLoan_187 hm
                · refine j_aloadn (pc := 188) C 4 dX12_readsLoan_188 rfl rfl ?_
                  refine gf_X12_145 (c := 0) (pc := 189) C km_0 dX12_readsLoan_189 ?_
                  refine j_if_ne (tgt := 203) (pc := 192) C dX12_readsLoan_192 (by decide) hm (fun _ hm => ?_) (fun _ hm => ?_)
                  · refine j_aloadn (pc := 195) C 4 dX12_readsLoan_195 rfl rfl ?_
                    refine j_iconst (v := 3) (pc := 196) C dX12_readsLoan_196 (by decide) ?_
                    refine j_iload (pc := 197) C 0 dX12_readsLoan_197 rfl ?_
                    obtain ⟨q28, hq28, hm⟩ := Option.bind_eq_some_iff.mp hm
                    refine cl_X12_141 (c := 0) (pc := 199) C km_0 (kX12_wrongAt hq28) (by decide) (Nat.le_of_ble_eq_true rfl) dX12_readsLoan_199 ?_
                    refine j_guard hm (fun hb29 hm => ?_)
                    exact j_zretS (pc := 202) C rfl hb29 dX12_readsLoan_202 hm
                  · refine j_aloadn (pc := 203) C 4 dX12_readsLoan_203 rfl rfl ?_
                    refine gf_X12_80 (c := 0) (pc := 204) C km_0 dX12_readsLoan_204 ?_
                    refine j_iloadn (pc := 207) C 3 dX12_readsLoan_207 rfl rfl ?_
                    refine j_iloadn (pc := 208) C 2 dX12_readsLoan_208 rfl rfl ?_
                    refine j_guard hm (fun hg31 hm => ?_)
                    refine j_iastL (c := 24) (n := 120) (pc := 209) C (kM_lt km_24 (by decide)) (cm_a km_24 lm_24) hg31 dX12_readsLoan_209 hm (fun σ30 hm => ?_)
                    refine j_aloadn (pc := 210) C 4 dX12_readsLoan_210 rfl rfl ?_
                    refine gf_X12_80 (c := 0) (pc := 211) C km_0 dX12_readsLoan_211 ?_
                    refine j_iloadn (pc := 214) C 3 dX12_readsLoan_214 rfl rfl ?_
                    refine j_iconst (v := 1) (pc := 215) C dX12_readsLoan_215 (by decide) ?_
                    refine j_iadd (pc := 216) C dX12_readsLoan_216 ?_
                    refine j_iloadn (pc := 217) C 1 dX12_readsLoan_217 rfl rfl ?_
                    refine j_guard hm (fun hg33 hm => ?_)
                    refine j_iastL (c := 24) (n := 120) (pc := 218) C (kM_lt km_24 (by decide)) (cm_a km_24 lm_24) hg33 dX12_readsLoan_218 hm (fun σ32 hm => ?_)
                    refine j_aloadn (pc := 219) C 4 dX12_readsLoan_219 rfl rfl ?_
                    refine gf_X12_80 (c := 0) (pc := 220) C km_0 dX12_readsLoan_220 ?_
                    refine j_iloadn (pc := 223) C 3 dX12_readsLoan_223 rfl rfl ?_
                    refine j_iconst (v := 2) (pc := 224) C dX12_readsLoan_224 (by decide) ?_
                    refine j_iadd (pc := 225) C dX12_readsLoan_225 ?_
                    refine j_aloadn (pc := 226) C 4 dX12_readsLoan_226 rfl rfl ?_
                    refine gf_X12_145 (c := 0) (pc := 227) C km_0 dX12_readsLoan_227 ?_
                    refine j_guard hm (fun hg35 hm => ?_)
                    refine j_iastL (c := 24) (n := 120) (pc := 230) C (kM_lt km_24 (by decide)) (cm_a km_24 lm_24) hg35 dX12_readsLoan_230 hm (fun σ34 hm => ?_)
                    refine j_aloadn (pc := 231) C 4 dX12_readsLoan_231 rfl rfl ?_
                    refine j_bipush (v := 64) (pc := 232) C dX12_readsLoan_232 (by decide) ?_
                    refine j_iconst (v := 2) (pc := 234) C dX12_readsLoan_234 (by decide) ?_
                    obtain ⟨q36, hq36, hm⟩ := Option.bind_eq_some_iff.mp hm
                    refine cl_X12_266 (c := 0) (pc := 235) C km_0 (kX12_readsPerhaps hq36) (by decide) (Nat.le_of_ble_eq_true rfl) dX12_readsLoan_235 ?_
                    refine j_if_ne (tgt := 243) (pc := 238) C dX12_readsLoan_238 (by decide) hm (fun _ hm => ?_) (fun _ hm => ?_)
                    · refine j_iconst (v := 0) (pc := 241) C dX12_readsLoan_241 (by decide) ?_
                      exact j_zretS (pc := 242) C rfl rfl dX12_readsLoan_242 hm
                    · refine j_aloadn (pc := 243) C 4 dX12_readsLoan_243 rfl rfl ?_
                      refine gf_X12_80 (c := 0) (pc := 244) C km_0 dX12_readsLoan_244 ?_
                      refine j_iloadn (pc := 247) C 3 dX12_readsLoan_247 rfl rfl ?_
                      refine j_iconst (v := 3) (pc := 248) C dX12_readsLoan_248 (by decide) ?_
                      refine j_iadd (pc := 249) C dX12_readsLoan_249 ?_
                      refine j_aloadn (pc := 250) C 4 dX12_readsLoan_250 rfl rfl ?_
                      refine gf_X12_145 (c := 0) (pc := 251) C km_0 dX12_readsLoan_251 ?_
                      refine j_guard hm (fun hg38 hm => ?_)
                      refine j_iastL (c := 24) (n := 120) (pc := 254) C (kM_lt km_24 (by decide)) (cm_a km_24 lm_24) hg38 dX12_readsLoan_254 hm (fun σ37 hm => ?_)
                      refine j_aloadn (pc := 255) C 4 dX12_readsLoan_255 rfl rfl ?_
                      refine j_bipush (v := 47) (pc := 256) C dX12_readsLoan_256 (by decide) ?_
                      refine j_iconst (v := 4) (pc := 258) C dX12_readsLoan_258 (by decide) ?_
                      obtain ⟨q39, hq39, hm⟩ := Option.bind_eq_some_iff.mp hm
                      refine cl_X12_266 (c := 0) (pc := 259) C km_0 (kX12_readsPerhaps hq39) (by decide) (Nat.le_of_ble_eq_true rfl) dX12_readsLoan_259 ?_
                      refine j_if_ne (tgt := 267) (pc := 262) C dX12_readsLoan_262 (by decide) hm (fun _ hm => ?_) (fun _ hm => ?_)
                      · refine j_iconst (v := 0) (pc := 265) C dX12_readsLoan_265 (by decide) ?_
                        exact j_zretS (pc := 266) C rfl rfl dX12_readsLoan_266 hm
                      · refine j_aloadn (pc := 267) C 4 dX12_readsLoan_267 rfl rfl ?_
                        refine gf_X12_80 (c := 0) (pc := 268) C km_0 dX12_readsLoan_268 ?_
                        refine j_iloadn (pc := 271) C 3 dX12_readsLoan_271 rfl rfl ?_
                        refine j_iconst (v := 4) (pc := 272) C dX12_readsLoan_272 (by decide) ?_
                        refine j_iadd (pc := 273) C dX12_readsLoan_273 ?_
                        refine j_aloadn (pc := 274) C 4 dX12_readsLoan_274 rfl rfl ?_
                        refine gf_X12_145 (c := 0) (pc := 275) C km_0 dX12_readsLoan_275 ?_
                        refine j_guard hm (fun hg41 hm => ?_)
                        refine j_iastL (c := 24) (n := 120) (pc := 278) C (kM_lt km_24 (by decide)) (cm_a km_24 lm_24) hg41 dX12_readsLoan_278 hm (fun σ40 hm => ?_)
                        refine j_iconst (v := 1) (pc := 279) C dX12_readsLoan_279 (by decide) ?_
                        exact j_zretS (pc := 280) C rfl rfl dX12_readsLoan_280 hm

def lp_X12_ledger_36 (F : Nat) (k76 : Int32 → jS → Option (Int32 × jS)) : Nat → Int32 → jS → Option (Int32 × jS)
  | 0, _, _ => none
  | n + 1, x2, σ => (if x2 = 0 then (k76 x2 σ) else (if (σ 0 7) < (σ 0 8) then (Option.bind (mX12_takes F (59 : Int32) σ) fun q5 => (if q5.1 = 0 then (lp_X12_ledger_36 F k76 n (0 : Int32) q5.2) else (Option.bind (mX12_readsLoan F q5.2) fun q6 => (if q6.1 = 0 then (lp_X12_ledger_36 F k76 n (0 : Int32) q6.2) else (lp_X12_ledger_36 F k76 n (1 : Int32) q6.2))))) else (k76 x2 σ)))
set_option maxHeartbeats 4000000 in
set_option maxRecDepth 100000 in
theorem lp_X12_ledger_36_ok {G : jG} (C : jc cfM 33 G cX12_ledger RX12 5 (some .int) 5) (F : Nat) {v : (Int32 × jS)} (k76 : Int32 → jS → Option (Int32 × jS)) (hk76 : ∀ (x2 : Int32) (σ : jS), k76 x2 σ = some v → JM G 76 [(0, .ref (vad (gV G) 0)), (2, .int x2)] [] σ v) : ∀ (n : Nat) (x2 : Int32) (σ : jS), lp_X12_ledger_36 F k76 n x2 σ = some v → JM G 36 [(0, .ref (vad (gV G) 0)), (2, .int x2)] [] σ v := by
  intro n
  induction n with
  | zero =>
    intro x2 σ hm
    rw [lp_X12_ledger_36] at hm
    cases hm
  | succ n ih =>
    intro x2 σ hm
    rw [lp_X12_ledger_36] at hm
    refine j_iloadn (pc := 36) C 1 dX12_ledger_36 rfl rfl ?_
    refine j_if_eq (tgt := 76) (pc := 37) C dX12_ledger_37 (by decide) hm (fun _ hm => ?_) (fun _ hm => ?_)
    · exact hk76 _ _ hm
    · refine j_aloadn (pc := 40) C 0 dX12_ledger_40 rfl rfl ?_
      refine gf_X12_128 (c := 0) (pc := 41) C km_0 dX12_ledger_41 ?_
      refine j_aloadn (pc := 44) C 0 dX12_ledger_44 rfl rfl ?_
      refine gf_X12_131 (c := 0) (pc := 45) C km_0 dX12_ledger_45 ?_
      refine j_icmp_ge (tgt := 76) (pc := 48) C dX12_ledger_48 (by decide) hm (fun _ hm => ?_) (fun _ hm => ?_)
      · refine j_aloadn (pc := 51) C 0 dX12_ledger_51 rfl rfl ?_
        refine j_bipush (v := 59) (pc := 52) C dX12_ledger_52 (by decide) ?_
        obtain ⟨q5, hq5, hm⟩ := Option.bind_eq_some_iff.mp hm
        refine cl_X12_219 (c := 0) (pc := 54) C km_0 (kX12_takes hq5) (by decide) (Nat.le_of_ble_eq_true rfl) dX12_ledger_54 ?_
        refine j_if_eq (tgt := 71) (pc := 57) C dX12_ledger_57 (by decide) hm (fun _ hm => ?_) (fun _ hm => ?_)
        · refine j_iconst (v := 0) (pc := 71) C dX12_ledger_71 (by decide) ?_
          refine j_istoren (ls' := [(2, .int (0 : Int32)), (0, .ref (vad (gV G) 0))]) (pc := 72) C dX12_ledger_72 rfl (by decide) rfl ?_
          refine j_goto (tgt := 36) (pc := 73) C dX12_ledger_73 (by decide) ?_
          refine j_ls [1, 0] rfl ?_
          exact ih _ _ hm
        · refine j_aloadn (pc := 60) C 0 dX12_ledger_60 rfl rfl ?_
          obtain ⟨q6, hq6, hm⟩ := Option.bind_eq_some_iff.mp hm
          refine cl_X12_269 (c := 0) (pc := 61) C km_0 (kX12_readsLoan hq6) (by decide) (Nat.le_of_ble_eq_true rfl) dX12_ledger_61 ?_
          refine j_if_eq (tgt := 71) (pc := 64) C dX12_ledger_64 (by decide) hm (fun _ hm => ?_) (fun _ hm => ?_)
          · refine j_iconst (v := 0) (pc := 71) C dX12_ledger_71 (by decide) ?_
            refine j_istoren (ls' := [(2, .int (0 : Int32)), (0, .ref (vad (gV G) 0))]) (pc := 72) C dX12_ledger_72 rfl (by decide) rfl ?_
            refine j_goto (tgt := 36) (pc := 73) C dX12_ledger_73 (by decide) ?_
            refine j_ls [1, 0] rfl ?_
            exact ih _ _ hm
          · refine j_iconst (v := 1) (pc := 67) C dX12_ledger_67 (by decide) ?_
            refine j_goto (tgt := 72) (pc := 68) C dX12_ledger_68 (by decide) ?_
            refine j_istoren (ls' := [(2, .int (1 : Int32)), (0, .ref (vad (gV G) 0))]) (pc := 72) C dX12_ledger_72 rfl (by decide) rfl ?_
            refine j_goto (tgt := 36) (pc := 73) C dX12_ledger_73 (by decide) ?_
            refine j_ls [1, 0] rfl ?_
            exact ih _ _ hm
      · exact hk76 _ _ hm

def lp_X12_ledger_115 (F : Nat) (k153 : Int32 → jS → Option (Int32 × jS)) : Nat → Int32 → Int32 → jS → Option (Int32 × jS)
  | 0, _, _, _ => none
  | n + 1, x3, x4, σ => (if x4 < (5 : Int32) then (lt (((5 : Int32) * x3) + x4) fun y10 => (if jin y10 120 = true then (if jin (((64 : Int32) + ((24 : Int32) * x4)) + x3) 212 = true then (lt (js σ 1 (((64 : Int32) + ((24 : Int32) * x4)) + x3).toNatClampNeg (σ 24 y10.toNatClampNeg)) fun σ12 => (lp_X12_ledger_115 F k153 n x3 ((x4 + (1 : Int32))) σ12)) else none) else none)) else (k153 x3 σ))
set_option maxHeartbeats 4000000 in
set_option maxRecDepth 100000 in
theorem lp_X12_ledger_115_ok {G : jG} (C : jc cfM 33 G cX12_ledger RX12 5 (some .int) 5) (F : Nat) {v : (Int32 × jS)} (k153 : Int32 → jS → Option (Int32 × jS)) (hk153 : ∀ (x3 : Int32) (σ : jS), k153 x3 σ = some v → JM G 153 [(0, .ref (vad (gV G) 0)), (3, .int x3)] [] σ v) : ∀ (n : Nat) (x3 : Int32) (x4 : Int32) (σ : jS), lp_X12_ledger_115 F k153 n x3 x4 σ = some v → JM G 115 [(0, .ref (vad (gV G) 0)), (3, .int x3), (4, .int x4)] [] σ v := by
  intro n
  induction n with
  | zero =>
    intro x3 x4 σ hm
    rw [lp_X12_ledger_115] at hm
    cases hm
  | succ n ih =>
    intro x3 x4 σ hm
    rw [lp_X12_ledger_115] at hm
    refine j_iload (pc := 115) C 2 dX12_ledger_115 rfl ?_
    refine j_iconst (v := 5) (pc := 117) C dX12_ledger_117 (by decide) ?_
    refine j_icmp_ge (tgt := 153) (pc := 118) C dX12_ledger_118 (by decide) hm (fun _ hm => ?_) (fun _ hm => ?_)
    · refine j_aloadn (pc := 121) C 0 dX12_ledger_121 rfl rfl ?_
      refine gf_X12_7 (c := 0) (pc := 122) C km_0 dX12_ledger_122 ?_
      refine j_bipush (v := 64) (pc := 125) C dX12_ledger_125 (by decide) ?_
      refine j_bipush (v := 24) (pc := 127) C dX12_ledger_127 (by decide) ?_
      refine j_iload (pc := 129) C 2 dX12_ledger_129 rfl ?_
      refine j_imul (pc := 131) C dX12_ledger_131 ?_
      refine j_iadd (pc := 132) C dX12_ledger_132 ?_
      refine j_iloadn (pc := 133) C 1 dX12_ledger_133 rfl rfl ?_
      refine j_iadd (pc := 134) C dX12_ledger_134 ?_
      refine j_aloadn (pc := 135) C 0 dX12_ledger_135 rfl rfl ?_
      refine gf_X12_80 (c := 0) (pc := 136) C km_0 dX12_ledger_136 ?_
      refine j_iconst (v := 5) (pc := 139) C dX12_ledger_139 (by decide) ?_
      refine j_iloadn (pc := 140) C 1 dX12_ledger_140 rfl rfl ?_
      refine j_imul (pc := 141) C dX12_ledger_141 ?_
      refine j_iload (pc := 142) C 2 dX12_ledger_142 rfl ?_
      refine j_iadd (pc := 144) C dX12_ledger_144 ?_
      refine j_lti hm (fun y10 hm => ?_)
      refine j_guard hm (fun hg11 hm => ?_)
      refine j_iald (c := 24) (n := 120) (pc := 145) C (kM_lt km_24 (by decide)) (cm_a km_24 lm_24 _) hg11 dX12_ledger_145 ?_
      refine j_guard hm (fun hg13 hm => ?_)
      refine j_iastL (c := 1) (n := 212) (pc := 146) C (kM_lt km_1 (by decide)) (cm_a km_1 lm_1) hg13 dX12_ledger_146 hm (fun σ12 hm => ?_)
      refine j_iinc (v := (x4 + (1 : Int32))) (ls' := [(4, .int (x4 + (1 : Int32))), (0, .ref (vad (gV G) 0)), (3, .int x3)]) (pc := 147) C 2 dX12_ledger_147 rfl rfl (by decide) rfl ?_
      refine j_goto (tgt := 115) (pc := 150) C dX12_ledger_150 (by decide) ?_
      refine j_ls [1, 2, 0] rfl ?_
      exact ih _ _ _ hm
    · refine j_ls [0, 1] rfl ?_
      exact hk153 _ _ hm

def lp_X12_ledger_104 (F : Nat) : Nat → Int32 → jS → Option (Int32 × jS)
  | 0, _, _ => none
  | n + 1, x3, σ => (if x3 < (σ 0 38) then (lp_X12_ledger_115 F (fun x3_14 σ14 => (lt ((112 : Int32) + x3_14) fun y15 => (if jin y15 212 = true then (if jin ((184 : Int32) + x3_14) 212 = true then (lt (js σ14 1 ((184 : Int32) + x3_14).toNatClampNeg (σ14 1 y15.toNatClampNeg)) fun σ17 => (lp_X12_ledger_104 F n ((x3_14 + (1 : Int32))) σ17)) else none) else none))) F x3 (0 : Int32) σ) else some ((σ 0 38), σ))
set_option maxHeartbeats 4000000 in
set_option maxRecDepth 100000 in
theorem lp_X12_ledger_104_ok {G : jG} (C : jc cfM 33 G cX12_ledger RX12 5 (some .int) 5) (F : Nat) {v : (Int32 × jS)} : ∀ (n : Nat) (x3 : Int32) (σ : jS), lp_X12_ledger_104 F n x3 σ = some v → JM G 104 [(0, .ref (vad (gV G) 0)), (3, .int x3)] [] σ v := by
  intro n
  induction n with
  | zero =>
    intro x3 σ hm
    rw [lp_X12_ledger_104] at hm
    cases hm
  | succ n ih =>
    intro x3 σ hm
    rw [lp_X12_ledger_104] at hm
    refine j_iloadn (pc := 104) C 1 dX12_ledger_104 rfl rfl ?_
    refine j_aloadn (pc := 105) C 0 dX12_ledger_105 rfl rfl ?_
    refine gf_X12_263 (c := 0) (pc := 106) C km_0 dX12_ledger_106 ?_
    refine j_icmp_ge (tgt := 178) (pc := 109) C dX12_ledger_109 (by decide) hm (fun _ hm => ?_) (fun _ hm => ?_)
    · refine j_iconst (v := 0) (pc := 112) C dX12_ledger_112 (by decide) ?_
      refine j_istore (ls' := [(4, .int (0 : Int32)), (0, .ref (vad (gV G) 0)), (3, .int x3)]) (pc := 113) C dX12_ledger_113 (by decide) rfl ?_
      refine j_ls [1, 2, 0] rfl ?_
      refine lp_X12_ledger_115_ok C F _ (fun x3_14 σ14 hm => ?_) F _ _ _ hm
      refine j_aloadn (pc := 153) C 0 dX12_ledger_153 rfl rfl ?_
      refine gf_X12_7 (c := 0) (pc := 154) C km_0 dX12_ledger_154 ?_
      refine j_sipush (v := 184) (pc := 157) C dX12_ledger_157 (by decide) ?_
      refine j_iloadn (pc := 160) C 1 dX12_ledger_160 rfl rfl ?_
      refine j_iadd (pc := 161) C dX12_ledger_161 ?_
      refine j_aloadn (pc := 162) C 0 dX12_ledger_162 rfl rfl ?_
      refine gf_X12_7 (c := 0) (pc := 163) C km_0 dX12_ledger_163 ?_
      refine j_bipush (v := 112) (pc := 166) C dX12_ledger_166 (by decide) ?_
      refine j_iloadn (pc := 168) C 1 dX12_ledger_168 rfl rfl ?_
      refine j_iadd (pc := 169) C dX12_ledger_169 ?_
      refine j_lti hm (fun y15 hm => ?_)
      refine j_guard hm (fun hg16 hm => ?_)
      refine j_iald (c := 1) (n := 212) (pc := 170) C (kM_lt km_1 (by decide)) (cm_a km_1 lm_1 _) hg16 dX12_ledger_170 ?_
      refine j_guard hm (fun hg18 hm => ?_)
      refine j_iastL (c := 1) (n := 212) (pc := 171) C (kM_lt km_1 (by decide)) (cm_a km_1 lm_1) hg18 dX12_ledger_171 hm (fun σ17 hm => ?_)
      refine j_iinc (v := (x3_14 + (1 : Int32))) (ls' := [(3, .int (x3_14 + (1 : Int32))), (0, .ref (vad (gV G) 0))]) (pc := 172) C 1 dX12_ledger_172 rfl rfl (by decide) rfl ?_
      refine j_goto (tgt := 104) (pc := 175) C dX12_ledger_175 (by decide) ?_
      refine j_ls [1, 0] rfl ?_
      exact ih _ _ hm
    · refine j_aloadn (pc := 178) C 0 dX12_ledger_178 rfl rfl ?_
      refine gf_X12_263 (c := 0) (pc := 179) C km_0 dX12_ledger_179 ?_
      exact j_iretS (pc := 182) C rfl dX12_ledger_182 hm

def jn_X12_ledger_76 (F : Nat) (x2 : Int32) (σ : jS) : Option (Int32 × jS) := (lt (js σ 0 6 (0 : Int32)) fun σ8 => (if x2 = 0 then some ((σ8 0 9), σ8) else (lt (js σ8 1 208 (σ8 0 38)) fun σ9 => (lp_X12_ledger_104 F F (0 : Int32) σ9))))
set_option maxHeartbeats 4000000 in
set_option maxRecDepth 100000 in
theorem jn_X12_ledger_76_ok {G : jG} (C : jc cfM 33 G cX12_ledger RX12 5 (some .int) 5) (F : Nat) {v : (Int32 × jS)} : ∀ (x2 : Int32) (σ : jS), jn_X12_ledger_76 F x2 σ = some v → JM G 76 [(0, .ref (vad (gV G) 0)), (2, .int x2)] [] σ v := by
  intro x2 σ hm
  unfold jn_X12_ledger_76 at hm
  refine j_aloadn (pc := 76) C 0 dX12_ledger_76 rfl rfl ?_
  refine j_iconst (v := 0) (pc := 77) C dX12_ledger_77 (by decide) ?_
  refine pf_X12_120 (c := 0) (pc := 78) C km_0 dX12_ledger_78 hm (fun σ8 hm => ?_)
  refine j_iloadn (pc := 81) C 1 dX12_ledger_81 rfl rfl ?_
  refine j_if_ne (tgt := 90) (pc := 82) C dX12_ledger_82 (by decide) hm (fun _ hm => ?_) (fun _ hm => ?_)
  · refine j_aloadn (pc := 85) C 0 dX12_ledger_85 rfl rfl ?_
    refine gf_X12_138 (c := 0) (pc := 86) C km_0 dX12_ledger_86 ?_
    exact j_iretS (pc := 89) C rfl dX12_ledger_89 hm
  · refine j_aloadn (pc := 90) C 0 dX12_ledger_90 rfl rfl ?_
    refine gf_X12_7 (c := 0) (pc := 91) C km_0 dX12_ledger_91 ?_
    refine j_sipush (v := 208) (pc := 94) C dX12_ledger_94 (by decide) ?_
    refine j_aloadn (pc := 97) C 0 dX12_ledger_97 rfl rfl ?_
    refine gf_X12_263 (c := 0) (pc := 98) C km_0 dX12_ledger_98 ?_
    refine j_iastK (c := 1) (n := 212) (k := 208) (pc := 101) C (kM_lt km_1 (by decide)) (cm_a km_1 lm_1) rfl (by decide) dX12_ledger_101 hm (fun σ9 hm => ?_)
    refine j_iconst (v := 0) (pc := 102) C dX12_ledger_102 (by decide) ?_
    refine j_istoren (ls' := [(3, .int (0 : Int32)), (0, .ref (vad (gV G) 0)), (2, .int x2)]) (pc := 103) C dX12_ledger_103 rfl (by decide) rfl ?_
    refine j_ls [1, 0] rfl ?_
    exact lp_X12_ledger_104_ok C F  F _ _ hm

def mX12_ledger (F : Nat) (x1 : Int32) (σ : jS) : Option (Int32 × jS) := (Option.bind (mX12_in F x1 (1 : Int32) (200 : Int32) σ) fun q1 => (if q1 = 0 then some ((-1 : Int32), σ) else (if (σ 0 6) < x1 then some ((-1 : Int32), σ) else (Option.bind (mX12_beginsText F x1 σ) fun q2 => (lt (js q2 0 38 (0 : Int32)) fun σ3 => (Option.bind (mX12_readsLoan F σ3) fun q4 => (lp_X12_ledger_36 F (fun x2_7 σ7 => (jn_X12_ledger_76 F x2_7 σ7)) F q4.1 q4.2)))))))
set_option maxHeartbeats 4000000 in
set_option maxRecDepth 100000 in
theorem kX12_ledger {V : jV} {F : Nat} {x1 : Int32} {σ : jS} {v : (Int32 × jS)} (hm : mX12_ledger F x1 σ = some v) : Ct cfM 33 V yX12_ledger cX12_ledger 5 (some .int) 5 [.ref (vad V 0), .int x1] σ v := by
  refine j_start (own := RX12) (by decide) rfl (Nat.le_of_ble_eq_true rfl) ?_
  intro G hV C
  subst hV
  unfold mX12_ledger at hm
  show JM G 0 [(0, .ref (vad (gV G) 0)), (1, .int x1)] [] σ v
  refine j_iloadn (pc := 0) C 1 dX12_ledger_0 rfl rfl ?_
  refine j_iconst (v := 1) (pc := 1) C dX12_ledger_1 (by decide) ?_
  refine j_sipush (v := 200) (pc := 2) C dX12_ledger_2 (by decide) ?_
  obtain ⟨q1, hq1, hm⟩ := Option.bind_eq_some_iff.mp hm
  refine cl_X12_107 (pc := 5) C (kX12_in hq1) (by decide) (Nat.le_of_ble_eq_true rfl) dX12_ledger_5 ?_
  refine j_if_eq (tgt := 19) (pc := 8) C dX12_ledger_8 (by decide) hm (fun _ hm => ?_) (fun _ hm => ?_)
  · refine j_iconst (v := -1) (pc := 19) C dX12_ledger_19 (by decide) ?_
    exact j_iretS (pc := 20) C rfl dX12_ledger_20 hm
  · refine j_iloadn (pc := 11) C 1 dX12_ledger_11 rfl rfl ?_
    refine j_aloadn (pc := 12) C 0 dX12_ledger_12 rfl rfl ?_
    refine gf_X12_120 (c := 0) (pc := 13) C km_0 dX12_ledger_13 ?_
    refine j_icmp_le (tgt := 21) (pc := 16) C dX12_ledger_16 (by decide) hm (fun _ hm => ?_) (fun _ hm => ?_)
    · refine j_iconst (v := -1) (pc := 19) C dX12_ledger_19 (by decide) ?_
      exact j_iretS (pc := 20) C rfl dX12_ledger_20 hm
    · refine j_aloadn (pc := 21) C 0 dX12_ledger_21 rfl rfl ?_
      refine j_iloadn (pc := 22) C 1 dX12_ledger_22 rfl rfl ?_
      obtain ⟨q2, hq2, hm⟩ := Option.bind_eq_some_iff.mp hm
      refine cl_X12_213 (c := 0) (pc := 23) C km_0 (kX12_beginsText hq2) (by decide) (Nat.le_of_ble_eq_true rfl) dX12_ledger_23 ?_
      refine j_aloadn (pc := 26) C 0 dX12_ledger_26 rfl rfl ?_
      refine j_iconst (v := 0) (pc := 27) C dX12_ledger_27 (by decide) ?_
      refine pf_X12_263 (c := 0) (pc := 28) C km_0 dX12_ledger_28 hm (fun σ3 hm => ?_)
      refine j_aloadn (pc := 31) C 0 dX12_ledger_31 rfl rfl ?_
      obtain ⟨q4, hq4, hm⟩ := Option.bind_eq_some_iff.mp hm
      refine cl_X12_269 (c := 0) (pc := 32) C km_0 (kX12_readsLoan hq4) (by decide) (Nat.le_of_ble_eq_true rfl) dX12_ledger_32 ?_
      refine j_istoren (ls' := [(2, .int q4.1), (0, .ref (vad (gV G) 0)), (1, .int x1)]) (pc := 35) C dX12_ledger_35 rfl (by decide) rfl ?_
      refine j_ls [1, 0] rfl ?_
      refine lp_X12_ledger_36_ok C F _ (fun x2_7 σ7 hm => ?_) F _ _ hm
      exact jn_X12_ledger_76_ok C F  _ _ hm

def lp_X12_debtsOf_4 (F : Nat) (σ : jS) : Nat → Int32 → Int32 → Int32 → Option Int32
  | 0, _, _, _ => none
  | n + 1, x1, x2, x3 => (if x3 < (σ 1 208) then (lt ((88 : Int32) + x3) fun y1 => (if jin y1 212 = true then (if (σ 1 y1.toNatClampNeg) = x1 then (lt ((184 : Int32) + x3) fun y3 => (if jin y3 212 = true then (if 0 < (σ 1 y3.toNatClampNeg) then (lt (x2 + (1 : Int32)) fun y5 => (lp_X12_debtsOf_4 F σ n x1 y5 ((x3 + (1 : Int32))))) else (lp_X12_debtsOf_4 F σ n x1 x2 ((x3 + (1 : Int32))))) else none)) else (lp_X12_debtsOf_4 F σ n x1 x2 ((x3 + (1 : Int32))))) else none)) else some x2)
set_option maxHeartbeats 4000000 in
set_option maxRecDepth 100000 in
theorem lp_X12_debtsOf_4_ok {G : jG} (C : jc cfM 33 G cX12_debtsOf RX12 4 (some .int) 0) (F : Nat) (σ : jS) {v : Int32} : ∀ (n : Nat) (x1 : Int32) (x2 : Int32) (x3 : Int32), lp_X12_debtsOf_4 F σ n x1 x2 x3 = some v → JM G 4 [(0, .ref (vad (gV G) 0)), (1, .int x1), (2, .int x2), (3, .int x3)] [] σ (v, σ) := by
  intro n
  induction n with
  | zero =>
    intro x1 x2 x3 hm
    rw [lp_X12_debtsOf_4] at hm
    cases hm
  | succ n ih =>
    intro x1 x2 x3 hm
    rw [lp_X12_debtsOf_4] at hm
    refine j_iloadn (pc := 4) C 3 dX12_debtsOf_4 rfl rfl ?_
    refine j_aloadn (pc := 5) C 0 dX12_debtsOf_5 rfl rfl ?_
    refine gf_X12_7 (c := 0) (pc := 6) C km_0 dX12_debtsOf_6 ?_
    refine j_sipush (v := 208) (pc := 9) C dX12_debtsOf_9 (by decide) ?_
    refine j_ialdK (c := 1) (n := 212) (k := 208) (pc := 12) C (kM_lt km_1 (by decide)) (cm_a km_1 lm_1 _) rfl (by decide) dX12_debtsOf_12 ?_
    refine j_icmp_ge (tgt := 52) (pc := 13) C dX12_debtsOf_13 (by decide) hm (fun _ hm => ?_) (fun _ hm => ?_)
    · refine j_aloadn (pc := 16) C 0 dX12_debtsOf_16 rfl rfl ?_
      refine gf_X12_7 (c := 0) (pc := 17) C km_0 dX12_debtsOf_17 ?_
      refine j_bipush (v := 88) (pc := 20) C dX12_debtsOf_20 (by decide) ?_
      refine j_iloadn (pc := 22) C 3 dX12_debtsOf_22 rfl rfl ?_
      refine j_iadd (pc := 23) C dX12_debtsOf_23 ?_
      refine j_lti hm (fun y1 hm => ?_)
      refine j_guard hm (fun hg2 hm => ?_)
      refine j_iald (c := 1) (n := 212) (pc := 24) C (kM_lt km_1 (by decide)) (cm_a km_1 lm_1 _) hg2 dX12_debtsOf_24 ?_
      refine j_iloadn (pc := 25) C 1 dX12_debtsOf_25 rfl rfl ?_
      refine j_icmp_ne (tgt := 46) (pc := 26) C dX12_debtsOf_26 (by decide) hm (fun _ hm => ?_) (fun _ hm => ?_)
      · refine j_aloadn (pc := 29) C 0 dX12_debtsOf_29 rfl rfl ?_
        refine gf_X12_7 (c := 0) (pc := 30) C km_0 dX12_debtsOf_30 ?_
        refine j_sipush (v := 184) (pc := 33) C dX12_debtsOf_33 (by decide) ?_
        refine j_iloadn (pc := 36) C 3 dX12_debtsOf_36 rfl rfl ?_
        refine j_iadd (pc := 37) C dX12_debtsOf_37 ?_
        refine j_lti hm (fun y3 hm => ?_)
        refine j_guard hm (fun hg4 hm => ?_)
        refine j_iald (c := 1) (n := 212) (pc := 38) C (kM_lt km_1 (by decide)) (cm_a km_1 lm_1 _) hg4 dX12_debtsOf_38 ?_
        refine j_if_le (tgt := 46) (pc := 39) C dX12_debtsOf_39 (by decide) hm (fun _ hm => ?_) (fun _ hm => ?_)
        · refine j_iloadn (pc := 42) C 2 dX12_debtsOf_42 rfl rfl ?_
          refine j_iconst (v := 1) (pc := 43) C dX12_debtsOf_43 (by decide) ?_
          refine j_iadd (pc := 44) C dX12_debtsOf_44 ?_
          refine j_lti hm (fun y5 hm => ?_)
          refine j_istoren (ls' := [(2, .int y5), (0, .ref (vad (gV G) 0)), (1, .int x1), (3, .int x3)]) (pc := 45) C dX12_debtsOf_45 rfl (by decide) rfl ?_
          refine j_iinc (v := (x3 + (1 : Int32))) (ls' := [(3, .int (x3 + (1 : Int32))), (2, .int y5), (0, .ref (vad (gV G) 0)), (1, .int x1)]) (pc := 46) C 3 dX12_debtsOf_46 rfl rfl (by decide) rfl ?_
          refine j_goto (tgt := 4) (pc := 49) C dX12_debtsOf_49 (by decide) ?_
          refine j_ls [2, 3, 1, 0] rfl ?_
          exact ih _ _ _ hm
        · refine j_iinc (v := (x3 + (1 : Int32))) (ls' := [(3, .int (x3 + (1 : Int32))), (0, .ref (vad (gV G) 0)), (1, .int x1), (2, .int x2)]) (pc := 46) C 3 dX12_debtsOf_46 rfl rfl (by decide) rfl ?_
          refine j_goto (tgt := 4) (pc := 49) C dX12_debtsOf_49 (by decide) ?_
          refine j_ls [1, 2, 3, 0] rfl ?_
          exact ih _ _ _ hm
      · refine j_iinc (v := (x3 + (1 : Int32))) (ls' := [(3, .int (x3 + (1 : Int32))), (0, .ref (vad (gV G) 0)), (1, .int x1), (2, .int x2)]) (pc := 46) C 3 dX12_debtsOf_46 rfl rfl (by decide) rfl ?_
        refine j_goto (tgt := 4) (pc := 49) C dX12_debtsOf_49 (by decide) ?_
        refine j_ls [1, 2, 3, 0] rfl ?_
        exact ih _ _ _ hm
    · refine j_iloadn (pc := 52) C 2 dX12_debtsOf_52 rfl rfl ?_
      exact j_iret (pc := 53) C rfl dX12_debtsOf_53 hm

def mX12_debtsOf (F : Nat) (x1 : Int32) (σ : jS) : Option Int32 := (lp_X12_debtsOf_4 F σ F x1 (0 : Int32) (0 : Int32))
set_option maxHeartbeats 4000000 in
set_option maxRecDepth 100000 in
theorem kX12_debtsOf {V : jV} {F : Nat} {x1 : Int32} {σ : jS} {v : Int32} (hm : mX12_debtsOf F x1 σ = some v) : Ct cfM 33 V yX12_debtsOf cX12_debtsOf 4 (some .int) 0 [.ref (vad V 0), .int x1] σ (v, σ) := by
  refine j_start (own := RX12) (by decide) rfl (Nat.le_of_ble_eq_true rfl) ?_
  intro G hV C
  subst hV
  unfold mX12_debtsOf at hm
  show JM G 0 [(0, .ref (vad (gV G) 0)), (1, .int x1)] [] σ (v, σ)
  refine j_iconst (v := 0) (pc := 0) C dX12_debtsOf_0 (by decide) ?_
  refine j_istoren (ls' := [(2, .int (0 : Int32)), (0, .ref (vad (gV G) 0)), (1, .int x1)]) (pc := 1) C dX12_debtsOf_1 rfl (by decide) rfl ?_
  refine j_iconst (v := 0) (pc := 2) C dX12_debtsOf_2 (by decide) ?_
  refine j_istoren (ls' := [(3, .int (0 : Int32)), (2, .int (0 : Int32)), (0, .ref (vad (gV G) 0)), (1, .int x1)]) (pc := 3) C dX12_debtsOf_3 rfl (by decide) rfl ?_
  refine j_ls [2, 3, 1, 0] rfl ?_
  exact lp_X12_debtsOf_4_ok C F σ  F _ _ _ hm

def mX12_feels (F : Nat) (x1 : Int32) (x2 : Int32) (x3 : Int32) (x4 : Int32) (σ : jS) : Option jS := (lt (js σ 19 0 x1) fun σ1 => (Option.bind (mX12_min F (23 : Int32) x2 σ1) fun q2 => (Option.bind (mX12_doing F x1 q2 σ1) fun q3 => (lt (js σ1 19 1 q3) fun σ4 => (lt (js σ4 19 2 x2) fun σ5 => (lt ((32 : Int32) + x1) fun y6 => (if jin y6 212 = true then (lt (js σ5 19 3 ((σ5 1 y6.toNatClampNeg) / (365 : Int32))) fun σ9 => (lt ((16 : Int32) + x1) fun y10 => (if jin y10 212 = true then (lt (js σ9 19 4 ((σ9 1 y10.toNatClampNeg) / (1000 : Int32))) fun σ13 => (lt (js σ13 19 5 x3) fun σ14 => (Option.bind (mX12_debtsOf F x1 σ14) fun q15 => (lt (js σ14 19 6 q15) fun σ16 => (lt (js σ16 19 7 (irm (σ16 1 210) (100 : Int32))) fun σ18 => (lt (js σ18 19 8 x4) fun σ19 => some σ19)))))) else none))) else none)))))))
set_option maxHeartbeats 4000000 in
set_option maxRecDepth 100000 in
theorem kX12_feels {V : jV} {F : Nat} {x1 : Int32} {x2 : Int32} {x3 : Int32} {x4 : Int32} {σ : jS} {v : jS} (hm : mX12_feels F x1 x2 x3 x4 σ = some v) : Ct cfM 33 V yX12_feels cX12_feels 5 none 1 [.ref (vad V 0), .int x1, .int x2, .int x3, .int x4] σ (0, v) := by
  refine j_start (own := RX12) (by decide) rfl (Nat.le_of_ble_eq_true rfl) ?_
  intro G hV C
  subst hV
  unfold mX12_feels at hm
  show JM G 0 [(0, .ref (vad (gV G) 0)), (1, .int x1), (2, .int x2), (3, .int x3), (4, .int x4)] [] σ (0, v)
  refine j_aloadn (pc := 0) C 0 dX12_feels_0 rfl rfl ?_
  refine gf_X12_65 (c := 0) (pc := 1) C km_0 dX12_feels_1 ?_
  refine j_iconst (v := 0) (pc := 4) C dX12_feels_4 (by decide) ?_
  refine j_iloadn (pc := 5) C 1 dX12_feels_5 rfl rfl ?_
  refine j_iastK (c := 19) (n := 9) (k := 0) (pc := 6) C (kM_lt km_19 (by decide)) (cm_a km_19 lm_19) rfl (by decide) dX12_feels_6 hm (fun σ1 hm => ?_)
  refine j_aloadn (pc := 7) C 0 dX12_feels_7 rfl rfl ?_
  refine gf_X12_65 (c := 0) (pc := 8) C km_0 dX12_feels_8 ?_
  refine j_iconst (v := 1) (pc := 11) C dX12_feels_11 (by decide) ?_
  refine j_aloadn (pc := 12) C 0 dX12_feels_12 rfl rfl ?_
  refine j_iloadn (pc := 13) C 1 dX12_feels_13 rfl rfl ?_
  refine j_bipush (v := 23) (pc := 14) C dX12_feels_14 (by decide) ?_
  refine j_iloadn (pc := 16) C 2 dX12_feels_16 rfl rfl ?_
  obtain ⟨q2, hq2, hm⟩ := Option.bind_eq_some_iff.mp hm
  refine cl_X12_272 (pc := 17) C (kX12_min hq2) (by decide) (Nat.le_of_ble_eq_true rfl) dX12_feels_17 ?_
  obtain ⟨q3, hq3, hm⟩ := Option.bind_eq_some_iff.mp hm
  refine cl_X12_275 (c := 0) (pc := 20) C km_0 (kX12_doing hq3) (by decide) (Nat.le_of_ble_eq_true rfl) dX12_feels_20 ?_
  refine j_iastK (c := 19) (n := 9) (k := 1) (pc := 23) C (kM_lt km_19 (by decide)) (cm_a km_19 lm_19) rfl (by decide) dX12_feels_23 hm (fun σ4 hm => ?_)
  refine j_aloadn (pc := 24) C 0 dX12_feels_24 rfl rfl ?_
  refine gf_X12_65 (c := 0) (pc := 25) C km_0 dX12_feels_25 ?_
  refine j_iconst (v := 2) (pc := 28) C dX12_feels_28 (by decide) ?_
  refine j_iloadn (pc := 29) C 2 dX12_feels_29 rfl rfl ?_
  refine j_iastK (c := 19) (n := 9) (k := 2) (pc := 30) C (kM_lt km_19 (by decide)) (cm_a km_19 lm_19) rfl (by decide) dX12_feels_30 hm (fun σ5 hm => ?_)
  refine j_aloadn (pc := 31) C 0 dX12_feels_31 rfl rfl ?_
  refine gf_X12_65 (c := 0) (pc := 32) C km_0 dX12_feels_32 ?_
  refine j_iconst (v := 3) (pc := 35) C dX12_feels_35 (by decide) ?_
  refine j_aloadn (pc := 36) C 0 dX12_feels_36 rfl rfl ?_
  refine gf_X12_7 (c := 0) (pc := 37) C km_0 dX12_feels_37 ?_
  refine j_bipush (v := 32) (pc := 40) C dX12_feels_40 (by decide) ?_
  refine j_iloadn (pc := 42) C 1 dX12_feels_42 rfl rfl ?_
  refine j_iadd (pc := 43) C dX12_feels_43 ?_
  refine j_lti hm (fun y6 hm => ?_)
  refine j_guard hm (fun hg7 hm => ?_)
  refine j_iald (c := 1) (n := 212) (pc := 44) C (kM_lt km_1 (by decide)) (cm_a km_1 lm_1 _) hg7 dX12_feels_44 ?_
  refine j_sipush (v := 365) (pc := 45) C dX12_feels_45 (by decide) ?_
  refine j_idivK (pc := 48) C dX12_feels_48 (by decide) ?_
  refine j_iastK (c := 19) (n := 9) (k := 3) (pc := 49) C (kM_lt km_19 (by decide)) (cm_a km_19 lm_19) rfl (by decide) dX12_feels_49 hm (fun σ9 hm => ?_)
  refine j_aloadn (pc := 50) C 0 dX12_feels_50 rfl rfl ?_
  refine gf_X12_65 (c := 0) (pc := 51) C km_0 dX12_feels_51 ?_
  refine j_iconst (v := 4) (pc := 54) C dX12_feels_54 (by decide) ?_
  refine j_aloadn (pc := 55) C 0 dX12_feels_55 rfl rfl ?_
  refine gf_X12_7 (c := 0) (pc := 56) C km_0 dX12_feels_56 ?_
  refine j_bipush (v := 16) (pc := 59) C dX12_feels_59 (by decide) ?_
  refine j_iloadn (pc := 61) C 1 dX12_feels_61 rfl rfl ?_
  refine j_iadd (pc := 62) C dX12_feels_62 ?_
  refine j_lti hm (fun y10 hm => ?_)
  refine j_guard hm (fun hg11 hm => ?_)
  refine j_iald (c := 1) (n := 212) (pc := 63) C (kM_lt km_1 (by decide)) (cm_a km_1 lm_1 _) hg11 dX12_feels_63 ?_
  refine j_sipush (v := 1000) (pc := 64) C dX12_feels_64 (by decide) ?_
  refine j_idivK (pc := 67) C dX12_feels_67 (by decide) ?_
  refine j_iastK (c := 19) (n := 9) (k := 4) (pc := 68) C (kM_lt km_19 (by decide)) (cm_a km_19 lm_19) rfl (by decide) dX12_feels_68 hm (fun σ13 hm => ?_)
  refine j_aloadn (pc := 69) C 0 dX12_feels_69 rfl rfl ?_
  refine gf_X12_65 (c := 0) (pc := 70) C km_0 dX12_feels_70 ?_
  refine j_iconst (v := 5) (pc := 73) C dX12_feels_73 (by decide) ?_
  refine j_iloadn (pc := 74) C 3 dX12_feels_74 rfl rfl ?_
  refine j_iastK (c := 19) (n := 9) (k := 5) (pc := 75) C (kM_lt km_19 (by decide)) (cm_a km_19 lm_19) rfl (by decide) dX12_feels_75 hm (fun σ14 hm => ?_)
  refine j_aloadn (pc := 76) C 0 dX12_feels_76 rfl rfl ?_
  refine gf_X12_65 (c := 0) (pc := 77) C km_0 dX12_feels_77 ?_
  refine j_bipush (v := 6) (pc := 80) C dX12_feels_80 (by decide) ?_
  refine j_aloadn (pc := 82) C 0 dX12_feels_82 rfl rfl ?_
  refine j_iloadn (pc := 83) C 1 dX12_feels_83 rfl rfl ?_
  obtain ⟨q15, hq15, hm⟩ := Option.bind_eq_some_iff.mp hm
  refine cl_X12_278 (c := 0) (pc := 84) C km_0 (kX12_debtsOf hq15) (by decide) (Nat.le_of_ble_eq_true rfl) dX12_feels_84 ?_
  refine j_iastK (c := 19) (n := 9) (k := 6) (pc := 87) C (kM_lt km_19 (by decide)) (cm_a km_19 lm_19) rfl (by decide) dX12_feels_87 hm (fun σ16 hm => ?_)
  refine j_aloadn (pc := 88) C 0 dX12_feels_88 rfl rfl ?_
  refine gf_X12_65 (c := 0) (pc := 89) C km_0 dX12_feels_89 ?_
  refine j_bipush (v := 7) (pc := 92) C dX12_feels_92 (by decide) ?_
  refine j_aloadn (pc := 94) C 0 dX12_feels_94 rfl rfl ?_
  refine gf_X12_7 (c := 0) (pc := 95) C km_0 dX12_feels_95 ?_
  refine j_sipush (v := 210) (pc := 98) C dX12_feels_98 (by decide) ?_
  refine j_ialdK (c := 1) (n := 212) (k := 210) (pc := 101) C (kM_lt km_1 (by decide)) (cm_a km_1 lm_1 _) rfl (by decide) dX12_feels_101 ?_
  refine j_bipush (v := 100) (pc := 102) C dX12_feels_102 (by decide) ?_
  refine j_iremK (pc := 104) C dX12_feels_104 (by decide) ?_
  refine j_iastK (c := 19) (n := 9) (k := 7) (pc := 105) C (kM_lt km_19 (by decide)) (cm_a km_19 lm_19) rfl (by decide) dX12_feels_105 hm (fun σ18 hm => ?_)
  refine j_aloadn (pc := 106) C 0 dX12_feels_106 rfl rfl ?_
  refine gf_X12_65 (c := 0) (pc := 107) C km_0 dX12_feels_107 ?_
  refine j_bipush (v := 8) (pc := 110) C dX12_feels_110 (by decide) ?_
  refine j_iload (pc := 112) C 4 dX12_feels_112 rfl ?_
  refine j_iastK (c := 19) (n := 9) (k := 8) (pc := 114) C (kM_lt km_19 (by decide)) (cm_a km_19 lm_19) rfl (by decide) dX12_feels_114 hm (fun σ19 hm => ?_)
  exact j_vret (pc := 115) C rfl dX12_feels_115 hm

def lp_X12_othersDoing_5 (F : Nat) (σ : jS) : Nat → Int32 → Int32 → Int32 → Int32 → Option Int32
  | 0, _, _, _, _ => none
  | n + 1, x1, x2, x3, x4 => (if x4 < (16 : Int32) then (if x4 = x1 then (lp_X12_othersDoing_5 F σ n x1 x2 x3 ((x4 + (1 : Int32)))) else (Option.bind (mX12_isLiving F x4 σ) fun q1 => (if q1 = 0 then (lp_X12_othersDoing_5 F σ n x1 x2 x3 ((x4 + (1 : Int32)))) else (Option.bind (mX12_doing F x4 x2 σ) fun q2 => (Option.bind (mX12_doing F x1 x2 σ) fun q3 => (if q2 = q3 then (lt (x3 + (1 : Int32)) fun y4 => (lp_X12_othersDoing_5 F σ n x1 x2 y4 ((x4 + (1 : Int32))))) else (lp_X12_othersDoing_5 F σ n x1 x2 x3 ((x4 + (1 : Int32)))))))))) else some x3)
set_option maxHeartbeats 4000000 in
set_option maxRecDepth 100000 in
theorem lp_X12_othersDoing_5_ok {G : jG} (C : jc cfM 33 G cX12_othersDoing RX12 5 (some .int) 3) (F : Nat) (σ : jS) {v : Int32} : ∀ (n : Nat) (x1 : Int32) (x2 : Int32) (x3 : Int32) (x4 : Int32), lp_X12_othersDoing_5 F σ n x1 x2 x3 x4 = some v → JM G 5 [(0, .ref (vad (gV G) 0)), (1, .int x1), (2, .int x2), (3, .int x3), (4, .int x4)] [] σ (v, σ) := by
  intro n
  induction n with
  | zero =>
    intro x1 x2 x3 x4 hm
    rw [lp_X12_othersDoing_5] at hm
    cases hm
  | succ n ih =>
    intro x1 x2 x3 x4 hm
    rw [lp_X12_othersDoing_5] at hm
    refine j_iload (pc := 5) C 4 dX12_othersDoing_5 rfl ?_
    refine j_bipush (v := 16) (pc := 7) C dX12_othersDoing_7 (by decide) ?_
    refine j_icmp_ge (tgt := 53) (pc := 9) C dX12_othersDoing_9 (by decide) hm (fun _ hm => ?_) (fun _ hm => ?_)
    · refine j_iload (pc := 12) C 4 dX12_othersDoing_12 rfl ?_
      refine j_iloadn (pc := 14) C 1 dX12_othersDoing_14 rfl rfl ?_
      refine j_icmp_eq (tgt := 47) (pc := 15) C dX12_othersDoing_15 (by decide) hm (fun _ hm => ?_) (fun _ hm => ?_)
      · refine j_iinc (v := (x4 + (1 : Int32))) (ls' := [(4, .int (x4 + (1 : Int32))), (0, .ref (vad (gV G) 0)), (1, .int x1), (2, .int x2), (3, .int x3)]) (pc := 47) C 4 dX12_othersDoing_47 rfl rfl (by decide) rfl ?_
        refine j_goto (tgt := 5) (pc := 50) C dX12_othersDoing_50 (by decide) ?_
        refine j_ls [1, 2, 3, 4, 0] rfl ?_
        exact ih _ _ _ _ hm
      · refine j_aloadn (pc := 18) C 0 dX12_othersDoing_18 rfl rfl ?_
        refine j_iload (pc := 19) C 4 dX12_othersDoing_19 rfl ?_
        obtain ⟨q1, hq1, hm⟩ := Option.bind_eq_some_iff.mp hm
        refine cl_X12_115 (c := 0) (pc := 21) C km_0 (kX12_isLiving hq1) (by decide) (Nat.le_of_ble_eq_true rfl) dX12_othersDoing_21 ?_
        refine j_if_eq (tgt := 47) (pc := 24) C dX12_othersDoing_24 (by decide) hm (fun _ hm => ?_) (fun _ hm => ?_)
        · refine j_iinc (v := (x4 + (1 : Int32))) (ls' := [(4, .int (x4 + (1 : Int32))), (0, .ref (vad (gV G) 0)), (1, .int x1), (2, .int x2), (3, .int x3)]) (pc := 47) C 4 dX12_othersDoing_47 rfl rfl (by decide) rfl ?_
          refine j_goto (tgt := 5) (pc := 50) C dX12_othersDoing_50 (by decide) ?_
          refine j_ls [1, 2, 3, 4, 0] rfl ?_
          exact ih _ _ _ _ hm
        · refine j_aloadn (pc := 27) C 0 dX12_othersDoing_27 rfl rfl ?_
          refine j_iload (pc := 28) C 4 dX12_othersDoing_28 rfl ?_
          refine j_iloadn (pc := 30) C 2 dX12_othersDoing_30 rfl rfl ?_
          obtain ⟨q2, hq2, hm⟩ := Option.bind_eq_some_iff.mp hm
          refine cl_X12_275 (c := 0) (pc := 31) C km_0 (kX12_doing hq2) (by decide) (Nat.le_of_ble_eq_true rfl) dX12_othersDoing_31 ?_
          refine j_aloadn (pc := 34) C 0 dX12_othersDoing_34 rfl rfl ?_
          refine j_iloadn (pc := 35) C 1 dX12_othersDoing_35 rfl rfl ?_
          refine j_iloadn (pc := 36) C 2 dX12_othersDoing_36 rfl rfl ?_
          obtain ⟨q3, hq3, hm⟩ := Option.bind_eq_some_iff.mp hm
          refine cl_X12_275 (c := 0) (pc := 37) C km_0 (kX12_doing hq3) (by decide) (Nat.le_of_ble_eq_true rfl) dX12_othersDoing_37 ?_
          refine j_icmp_ne (tgt := 47) (pc := 40) C dX12_othersDoing_40 (by decide) hm (fun _ hm => ?_) (fun _ hm => ?_)
          · refine j_iloadn (pc := 43) C 3 dX12_othersDoing_43 rfl rfl ?_
            refine j_iconst (v := 1) (pc := 44) C dX12_othersDoing_44 (by decide) ?_
            refine j_iadd (pc := 45) C dX12_othersDoing_45 ?_
            refine j_lti hm (fun y4 hm => ?_)
            refine j_istoren (ls' := [(3, .int y4), (0, .ref (vad (gV G) 0)), (1, .int x1), (2, .int x2), (4, .int x4)]) (pc := 46) C dX12_othersDoing_46 rfl (by decide) rfl ?_
            refine j_iinc (v := (x4 + (1 : Int32))) (ls' := [(4, .int (x4 + (1 : Int32))), (3, .int y4), (0, .ref (vad (gV G) 0)), (1, .int x1), (2, .int x2)]) (pc := 47) C 4 dX12_othersDoing_47 rfl rfl (by decide) rfl ?_
            refine j_goto (tgt := 5) (pc := 50) C dX12_othersDoing_50 (by decide) ?_
            refine j_ls [2, 3, 4, 1, 0] rfl ?_
            exact ih _ _ _ _ hm
          · refine j_iinc (v := (x4 + (1 : Int32))) (ls' := [(4, .int (x4 + (1 : Int32))), (0, .ref (vad (gV G) 0)), (1, .int x1), (2, .int x2), (3, .int x3)]) (pc := 47) C 4 dX12_othersDoing_47 rfl rfl (by decide) rfl ?_
            refine j_goto (tgt := 5) (pc := 50) C dX12_othersDoing_50 (by decide) ?_
            refine j_ls [1, 2, 3, 4, 0] rfl ?_
            exact ih _ _ _ _ hm
    · refine j_iloadn (pc := 53) C 3 dX12_othersDoing_53 rfl rfl ?_
      exact j_iret (pc := 54) C rfl dX12_othersDoing_54 hm

def mX12_othersDoing (F : Nat) (x1 : Int32) (x2 : Int32) (σ : jS) : Option Int32 := (lp_X12_othersDoing_5 F σ F x1 x2 (0 : Int32) (0 : Int32))
set_option maxHeartbeats 4000000 in
set_option maxRecDepth 100000 in
theorem kX12_othersDoing {V : jV} {F : Nat} {x1 : Int32} {x2 : Int32} {σ : jS} {v : Int32} (hm : mX12_othersDoing F x1 x2 σ = some v) : Ct cfM 33 V yX12_othersDoing cX12_othersDoing 5 (some .int) 3 [.ref (vad V 0), .int x1, .int x2] σ (v, σ) := by
  refine j_start (own := RX12) (by decide) rfl (Nat.le_of_ble_eq_true rfl) ?_
  intro G hV C
  subst hV
  unfold mX12_othersDoing at hm
  show JM G 0 [(0, .ref (vad (gV G) 0)), (1, .int x1), (2, .int x2)] [] σ (v, σ)
  refine j_iconst (v := 0) (pc := 0) C dX12_othersDoing_0 (by decide) ?_
  refine j_istoren (ls' := [(3, .int (0 : Int32)), (0, .ref (vad (gV G) 0)), (1, .int x1), (2, .int x2)]) (pc := 1) C dX12_othersDoing_1 rfl (by decide) rfl ?_
  refine j_iconst (v := 0) (pc := 2) C dX12_othersDoing_2 (by decide) ?_
  refine j_istore (ls' := [(4, .int (0 : Int32)), (3, .int (0 : Int32)), (0, .ref (vad (gV G) 0)), (1, .int x1), (2, .int x2)]) (pc := 3) C dX12_othersDoing_3 (by decide) rfl ?_
  refine j_ls [2, 3, 4, 1, 0] rfl ?_
  exact lp_X12_othersDoing_5_ok C F σ  F _ _ _ _ hm

def mX12_paceNow (F : Nat) (σ : jS) : Option (Int32 × jS) := (Option.bind (mX12_byLaw F (112 : Int32) (1 : Int32) (255 : Int32) (60 : Int32) σ) fun q1 => some (((60 : Int32) * q1.1), q1.2))
set_option maxHeartbeats 4000000 in
set_option maxRecDepth 100000 in
theorem kX12_paceNow {V : jV} {F : Nat} {σ : jS} {v : (Int32 × jS)} (hm : mX12_paceNow F σ = some v) : Ct cfM 33 V yX12_paceNow cX12_paceNow 1 (some .int) 3 [.ref (vad V 0)] σ v := by
  refine j_start (own := RX12) (by decide) rfl (Nat.le_of_ble_eq_true rfl) ?_
  intro G hV C
  subst hV
  unfold mX12_paceNow at hm
  show JM G 0 [(0, .ref (vad (gV G) 0))] [] σ v
  refine j_bipush (v := 60) (pc := 0) C dX12_paceNow_0 (by decide) ?_
  refine j_aloadn (pc := 2) C 0 dX12_paceNow_2 rfl rfl ?_
  refine j_bipush (v := 112) (pc := 3) C dX12_paceNow_3 (by decide) ?_
  refine j_iconst (v := 1) (pc := 5) C dX12_paceNow_5 (by decide) ?_
  refine j_sipush (v := 255) (pc := 6) C dX12_paceNow_6 (by decide) ?_
  refine j_bipush (v := 60) (pc := 9) C dX12_paceNow_9 (by decide) ?_
  obtain ⟨q1, hq1, hm⟩ := Option.bind_eq_some_iff.mp hm
  refine cl_X12_281 (c := 0) (pc := 11) C km_0 (kX12_byLaw hq1) (by decide) (Nat.le_of_ble_eq_true rfl) dX12_paceNow_11 ?_
  refine j_imul (pc := 14) C dX12_paceNow_14 ?_
  exact j_iretS (pc := 15) C rfl dX12_paceNow_15 hm

def mX12_diesNow (F : Nat) (x1 : Int32) (σ : jS) : Option jS := (lt ((16 : Int32) + x1) fun y1 => (if jin y1 212 = true then (Option.bind (mX12_min F (999999999 : Int32) (((σ 1 209) + (σ 1 y1.toNatClampNeg))) σ) fun q3 => (lt (js σ 1 209 q3) fun σ4 => (if jin ((16 : Int32) + x1) 212 = true then (lt (js σ4 1 ((16 : Int32) + x1).toNatClampNeg (0 : Int32)) fun σ5 => (if jin ((48 : Int32) + x1) 212 = true then (lt (js σ5 1 ((48 : Int32) + x1).toNatClampNeg (0 : Int32)) fun σ7 => (lt (js σ7 0 39 ((σ7 0 39) + (1 : Int32))) fun σ9 => some σ9)) else none)) else none))) else none))
set_option maxHeartbeats 4000000 in
set_option maxRecDepth 100000 in
theorem kX12_diesNow {V : jV} {F : Nat} {x1 : Int32} {σ : jS} {v : jS} (hm : mX12_diesNow F x1 σ = some v) : Ct cfM 33 V yX12_diesNow cX12_diesNow 2 none 1 [.ref (vad V 0), .int x1] σ (0, v) := by
  refine j_start (own := RX12) (by decide) rfl (Nat.le_of_ble_eq_true rfl) ?_
  intro G hV C
  subst hV
  unfold mX12_diesNow at hm
  show JM G 0 [(0, .ref (vad (gV G) 0)), (1, .int x1)] [] σ (0, v)
  refine j_aloadn (pc := 0) C 0 dX12_diesNow_0 rfl rfl ?_
  refine gf_X12_7 (c := 0) (pc := 1) C km_0 dX12_diesNow_1 ?_
  refine j_sipush (v := 209) (pc := 4) C dX12_diesNow_4 (by decide) ?_
  refine j_ldc (v := 999999999) (pc := 7) C dX12_diesNow_7 tw_6_9 ?_
  refine j_aloadn (pc := 9) C 0 dX12_diesNow_9 rfl rfl ?_
  refine gf_X12_7 (c := 0) (pc := 10) C km_0 dX12_diesNow_10 ?_
  refine j_sipush (v := 209) (pc := 13) C dX12_diesNow_13 (by decide) ?_
  refine j_ialdK (c := 1) (n := 212) (k := 209) (pc := 16) C (kM_lt km_1 (by decide)) (cm_a km_1 lm_1 _) rfl (by decide) dX12_diesNow_16 ?_
  refine j_aloadn (pc := 17) C 0 dX12_diesNow_17 rfl rfl ?_
  refine gf_X12_7 (c := 0) (pc := 18) C km_0 dX12_diesNow_18 ?_
  refine j_bipush (v := 16) (pc := 21) C dX12_diesNow_21 (by decide) ?_
  refine j_iloadn (pc := 23) C 1 dX12_diesNow_23 rfl rfl ?_
  refine j_iadd (pc := 24) C dX12_diesNow_24 ?_
  refine j_lti hm (fun y1 hm => ?_)
  refine j_guard hm (fun hg2 hm => ?_)
  refine j_iald (c := 1) (n := 212) (pc := 25) C (kM_lt km_1 (by decide)) (cm_a km_1 lm_1 _) hg2 dX12_diesNow_25 ?_
  refine j_iadd (pc := 26) C dX12_diesNow_26 ?_
  obtain ⟨q3, hq3, hm⟩ := Option.bind_eq_some_iff.mp hm
  refine cl_X12_272 (pc := 27) C (kX12_min hq3) (by decide) (Nat.le_of_ble_eq_true rfl) dX12_diesNow_27 ?_
  refine j_iastK (c := 1) (n := 212) (k := 209) (pc := 30) C (kM_lt km_1 (by decide)) (cm_a km_1 lm_1) rfl (by decide) dX12_diesNow_30 hm (fun σ4 hm => ?_)
  refine j_aloadn (pc := 31) C 0 dX12_diesNow_31 rfl rfl ?_
  refine gf_X12_7 (c := 0) (pc := 32) C km_0 dX12_diesNow_32 ?_
  refine j_bipush (v := 16) (pc := 35) C dX12_diesNow_35 (by decide) ?_
  refine j_iloadn (pc := 37) C 1 dX12_diesNow_37 rfl rfl ?_
  refine j_iadd (pc := 38) C dX12_diesNow_38 ?_
  refine j_iconst (v := 0) (pc := 39) C dX12_diesNow_39 (by decide) ?_
  refine j_guard hm (fun hg6 hm => ?_)
  refine j_iastL (c := 1) (n := 212) (pc := 40) C (kM_lt km_1 (by decide)) (cm_a km_1 lm_1) hg6 dX12_diesNow_40 hm (fun σ5 hm => ?_)
  refine j_aloadn (pc := 41) C 0 dX12_diesNow_41 rfl rfl ?_
  refine gf_X12_7 (c := 0) (pc := 42) C km_0 dX12_diesNow_42 ?_
  refine j_bipush (v := 48) (pc := 45) C dX12_diesNow_45 (by decide) ?_
  refine j_iloadn (pc := 47) C 1 dX12_diesNow_47 rfl rfl ?_
  refine j_iadd (pc := 48) C dX12_diesNow_48 ?_
  refine j_iconst (v := 0) (pc := 49) C dX12_diesNow_49 (by decide) ?_
  refine j_guard hm (fun hg8 hm => ?_)
  refine j_iastL (c := 1) (n := 212) (pc := 50) C (kM_lt km_1 (by decide)) (cm_a km_1 lm_1) hg8 dX12_diesNow_50 hm (fun σ7 hm => ?_)
  refine j_aloadn (pc := 51) C 0 dX12_diesNow_51 rfl rfl ?_
  refine j_aloadn (pc := 52) C 0 dX12_diesNow_52 rfl rfl ?_
  refine gf_X12_285 (c := 0) (pc := 53) C km_0 dX12_diesNow_53 ?_
  refine j_iconst (v := 1) (pc := 56) C dX12_diesNow_56 (by decide) ?_
  refine j_iadd (pc := 57) C dX12_diesNow_57 ?_
  refine pf_X12_285 (c := 0) (pc := 58) C km_0 dX12_diesNow_58 hm (fun σ9 hm => ?_)
  exact j_vret (pc := 61) C rfl dX12_diesNow_61 hm

def mX12_hourOf (F : Nat) (x1 : Int32) (x2 : Int32) (σ : jS) : Option jS := (lt (js σ 1 211 (irm (((25173 : Int32) * (σ 1 211)) + (13849 : Int32)) (65536 : Int32))) fun σ2 => (Option.bind (mX12_othersDoing F x1 x2 σ2) fun q3 => (Option.bind (mX12_feels F x1 x2 q3 ((irm (σ2 1 211) (10 : Int32))) σ2) fun q5 => (Option.bind (mX12_paceNow F q5) fun q6 => (Option.bind (mX12_holdsAny F (120 : Int32) q6.2) fun q7 => (if q7.1 = 0 then (lt ((16 : Int32) + x1) fun y8 => (if jin y8 212 = true then (Option.bind (mX12_max F (0 : Int32) (((q7.2 1 y8.toNatClampNeg) - q6.1)) q7.2) fun q10 => (if jin ((16 : Int32) + x1) 212 = true then (lt (js q7.2 1 ((16 : Int32) + x1).toNatClampNeg q10) fun σ11 => (lt ((16 : Int32) + x1) fun y13 => (if jin y13 212 = true then (if 0 < (σ11 1 y13.toNatClampNeg) then some σ11 else (Option.bind (mX12_diesNow F x1 σ11) fun q15 => some q15)) else none))) else none)) else none)) else (Option.bind (mX12_diesNow F x1 q7.2) fun q16 => some q16)))))))
set_option maxHeartbeats 4000000 in
set_option maxRecDepth 100000 in
theorem kX12_hourOf {V : jV} {F : Nat} {x1 : Int32} {x2 : Int32} {σ : jS} {v : jS} (hm : mX12_hourOf F x1 x2 σ = some v) : Ct cfM 33 V yX12_hourOf cX12_hourOf 4 none 4 [.ref (vad V 0), .int x1, .int x2] σ (0, v) := by
  refine j_start (own := RX12) (by decide) rfl (Nat.le_of_ble_eq_true rfl) ?_
  intro G hV C
  subst hV
  unfold mX12_hourOf at hm
  show JM G 0 [(0, .ref (vad (gV G) 0)), (1, .int x1), (2, .int x2)] [] σ (0, v)
  refine j_aloadn (pc := 0) C 0 dX12_hourOf_0 rfl rfl ?_
  refine gf_X12_7 (c := 0) (pc := 1) C km_0 dX12_hourOf_1 ?_
  refine j_sipush (v := 211) (pc := 4) C dX12_hourOf_4 (by decide) ?_
  refine j_sipush (v := 25173) (pc := 7) C dX12_hourOf_7 (by decide) ?_
  refine j_aloadn (pc := 10) C 0 dX12_hourOf_10 rfl rfl ?_
  refine gf_X12_7 (c := 0) (pc := 11) C km_0 dX12_hourOf_11 ?_
  refine j_sipush (v := 211) (pc := 14) C dX12_hourOf_14 (by decide) ?_
  refine j_ialdK (c := 1) (n := 212) (k := 211) (pc := 17) C (kM_lt km_1 (by decide)) (cm_a km_1 lm_1 _) rfl (by decide) dX12_hourOf_17 ?_
  refine j_imul (pc := 18) C dX12_hourOf_18 ?_
  refine j_sipush (v := 13849) (pc := 19) C dX12_hourOf_19 (by decide) ?_
  refine j_iadd (pc := 22) C dX12_hourOf_22 ?_
  refine j_ldcw (v := 65536) (pc := 23) C dX12_hourOf_23 tw_6_169 ?_
  refine j_iremK (pc := 26) C dX12_hourOf_26 (by decide) ?_
  refine j_iastK (c := 1) (n := 212) (k := 211) (pc := 27) C (kM_lt km_1 (by decide)) (cm_a km_1 lm_1) rfl (by decide) dX12_hourOf_27 hm (fun σ2 hm => ?_)
  refine j_aloadn (pc := 28) C 0 dX12_hourOf_28 rfl rfl ?_
  refine j_iloadn (pc := 29) C 1 dX12_hourOf_29 rfl rfl ?_
  refine j_iloadn (pc := 30) C 2 dX12_hourOf_30 rfl rfl ?_
  refine j_aloadn (pc := 31) C 0 dX12_hourOf_31 rfl rfl ?_
  refine j_iloadn (pc := 32) C 1 dX12_hourOf_32 rfl rfl ?_
  refine j_iloadn (pc := 33) C 2 dX12_hourOf_33 rfl rfl ?_
  obtain ⟨q3, hq3, hm⟩ := Option.bind_eq_some_iff.mp hm
  refine cl_X12_289 (c := 0) (pc := 34) C km_0 (kX12_othersDoing hq3) (by decide) (Nat.le_of_ble_eq_true rfl) dX12_hourOf_34 ?_
  refine j_aloadn (pc := 37) C 0 dX12_hourOf_37 rfl rfl ?_
  refine gf_X12_7 (c := 0) (pc := 38) C km_0 dX12_hourOf_38 ?_
  refine j_sipush (v := 211) (pc := 41) C dX12_hourOf_41 (by decide) ?_
  refine j_ialdK (c := 1) (n := 212) (k := 211) (pc := 44) C (kM_lt km_1 (by decide)) (cm_a km_1 lm_1 _) rfl (by decide) dX12_hourOf_44 ?_
  refine j_bipush (v := 10) (pc := 45) C dX12_hourOf_45 (by decide) ?_
  refine j_iremK (pc := 47) C dX12_hourOf_47 (by decide) ?_
  obtain ⟨q5, hq5, hm⟩ := Option.bind_eq_some_iff.mp hm
  refine cl_X12_292 (c := 0) (pc := 48) C km_0 (kX12_feels hq5) (by decide) (Nat.le_of_ble_eq_true rfl) dX12_hourOf_48 ?_
  refine j_aloadn (pc := 51) C 0 dX12_hourOf_51 rfl rfl ?_
  obtain ⟨q6, hq6, hm⟩ := Option.bind_eq_some_iff.mp hm
  refine cl_X12_296 (c := 0) (pc := 52) C km_0 (kX12_paceNow hq6) (by decide) (Nat.le_of_ble_eq_true rfl) dX12_hourOf_52 ?_
  refine j_istoren (ls' := [(3, .int q6.1), (0, .ref (vad (gV G) 0)), (1, .int x1), (2, .int x2)]) (pc := 55) C dX12_hourOf_55 rfl (by decide) rfl ?_
  refine j_aloadn (pc := 56) C 1 dX12_hourOf_56 rfl rfl ?_
  refine j_bipush (v := 120) (pc := 57) C dX12_hourOf_57 (by decide) ?_
  obtain ⟨q7, hq7, hm⟩ := Option.bind_eq_some_iff.mp hm
  refine cl_X12_299 (c := 0) (pc := 59) C km_0 (kX12_holdsAny hq7) (by decide) (Nat.le_of_ble_eq_true rfl) dX12_hourOf_59 ?_
  refine j_if_ne (tgt := 102) (pc := 62) C dX12_hourOf_62 (by decide) hm (fun _ hm => ?_) (fun _ hm => ?_)
  · refine j_aloadn (pc := 65) C 1 dX12_hourOf_65 rfl rfl ?_
    refine gf_X12_7 (c := 0) (pc := 66) C km_0 dX12_hourOf_66 ?_
    refine j_bipush (v := 16) (pc := 69) C dX12_hourOf_69 (by decide) ?_
    refine j_iloadn (pc := 71) C 2 dX12_hourOf_71 rfl rfl ?_
    refine j_iadd (pc := 72) C dX12_hourOf_72 ?_
    refine j_iconst (v := 0) (pc := 73) C dX12_hourOf_73 (by decide) ?_
    refine j_aloadn (pc := 74) C 1 dX12_hourOf_74 rfl rfl ?_
    refine gf_X12_7 (c := 0) (pc := 75) C km_0 dX12_hourOf_75 ?_
    refine j_bipush (v := 16) (pc := 78) C dX12_hourOf_78 (by decide) ?_
    refine j_iloadn (pc := 80) C 2 dX12_hourOf_80 rfl rfl ?_
    refine j_iadd (pc := 81) C dX12_hourOf_81 ?_
    refine j_lti hm (fun y8 hm => ?_)
    refine j_guard hm (fun hg9 hm => ?_)
    refine j_iald (c := 1) (n := 212) (pc := 82) C (kM_lt km_1 (by decide)) (cm_a km_1 lm_1 _) hg9 dX12_hourOf_82 ?_
    refine j_iloadn (pc := 83) C 0 dX12_hourOf_83 rfl rfl ?_
    refine j_isub (pc := 84) C dX12_hourOf_84 ?_
    obtain ⟨q10, hq10, hm⟩ := Option.bind_eq_some_iff.mp hm
    refine cl_X12_302 (pc := 85) C (kX12_max hq10) (by decide) (Nat.le_of_ble_eq_true rfl) dX12_hourOf_85 ?_
    refine j_guard hm (fun hg12 hm => ?_)
    refine j_iastL (c := 1) (n := 212) (pc := 88) C (kM_lt km_1 (by decide)) (cm_a km_1 lm_1) hg12 dX12_hourOf_88 hm (fun σ11 hm => ?_)
    refine j_aloadn (pc := 89) C 1 dX12_hourOf_89 rfl rfl ?_
    refine gf_X12_7 (c := 0) (pc := 90) C km_0 dX12_hourOf_90 ?_
    refine j_bipush (v := 16) (pc := 93) C dX12_hourOf_93 (by decide) ?_
    refine j_iloadn (pc := 95) C 2 dX12_hourOf_95 rfl rfl ?_
    refine j_iadd (pc := 96) C dX12_hourOf_96 ?_
    refine j_lti hm (fun y13 hm => ?_)
    refine j_guard hm (fun hg14 hm => ?_)
    refine j_iald (c := 1) (n := 212) (pc := 97) C (kM_lt km_1 (by decide)) (cm_a km_1 lm_1 _) hg14 dX12_hourOf_97 ?_
    refine j_if_le (tgt := 102) (pc := 98) C dX12_hourOf_98 (by decide) hm (fun _ hm => ?_) (fun _ hm => ?_)
    · exact j_vret (pc := 101) C rfl dX12_hourOf_101 hm
    · refine j_aloadn (pc := 102) C 1 dX12_hourOf_102 rfl rfl ?_
      refine j_iloadn (pc := 103) C 2 dX12_hourOf_103 rfl rfl ?_
      obtain ⟨q15, hq15, hm⟩ := Option.bind_eq_some_iff.mp hm
      refine cl_X12_305 (c := 0) (pc := 104) C km_0 (kX12_diesNow hq15) (by decide) (Nat.le_of_ble_eq_true rfl) dX12_hourOf_104 ?_
      exact j_vret (pc := 107) C rfl dX12_hourOf_107 hm
  · refine j_aloadn (pc := 102) C 1 dX12_hourOf_102 rfl rfl ?_
    refine j_iloadn (pc := 103) C 2 dX12_hourOf_103 rfl rfl ?_
    obtain ⟨q16, hq16, hm⟩ := Option.bind_eq_some_iff.mp hm
    refine cl_X12_305 (c := 0) (pc := 104) C km_0 (kX12_diesNow hq16) (by decide) (Nat.le_of_ble_eq_true rfl) dX12_hourOf_104 ?_
    exact j_vret (pc := 107) C rfl dX12_hourOf_107 hm

def mX12_grownBy (F : Nat) (x0 : Int32) (x1 : Int32) (σ : jS) : Option Int32 := (Option.bind (mX12_min F (9999999 : Int32) ((x0 + (((x0 * x1) + (99 : Int32)) / (100 : Int32)))) σ) fun q2 => some q2)
set_option maxHeartbeats 4000000 in
set_option maxRecDepth 100000 in
theorem kX12_grownBy {V : jV} {F : Nat} {x0 : Int32} {x1 : Int32} {σ : jS} {v : Int32} (hm : mX12_grownBy F x0 x1 σ = some v) : Ct cfM 33 V yX12_grownBy cX12_grownBy 2 (some .int) 1 [.int x0, .int x1] σ (v, σ) := by
  refine j_start (own := RX12) (by decide) rfl (Nat.le_of_ble_eq_true rfl) ?_
  intro G hV C
  subst hV
  unfold mX12_grownBy at hm
  show JM G 0 [(0, .int x0), (1, .int x1)] [] σ (v, σ)
  refine j_ldcw (v := 9999999) (pc := 0) C dX12_grownBy_0 tw_6_222 ?_
  refine j_iloadn (pc := 3) C 0 dX12_grownBy_3 rfl rfl ?_
  refine j_iloadn (pc := 4) C 0 dX12_grownBy_4 rfl rfl ?_
  refine j_iloadn (pc := 5) C 1 dX12_grownBy_5 rfl rfl ?_
  refine j_imul (pc := 6) C dX12_grownBy_6 ?_
  refine j_bipush (v := 99) (pc := 7) C dX12_grownBy_7 (by decide) ?_
  refine j_iadd (pc := 9) C dX12_grownBy_9 ?_
  refine j_bipush (v := 100) (pc := 10) C dX12_grownBy_10 (by decide) ?_
  refine j_idivK (pc := 12) C dX12_grownBy_12 (by decide) ?_
  refine j_iadd (pc := 13) C dX12_grownBy_13 ?_
  obtain ⟨q2, hq2, hm⟩ := Option.bind_eq_some_iff.mp hm
  refine cl_X12_272 (pc := 14) C (kX12_min hq2) (by decide) (Nat.le_of_ble_eq_true rfl) dX12_grownBy_14 ?_
  exact j_iret (pc := 17) C rfl dX12_grownBy_17 hm

def mX12_loanGoes (F : Nat) (x1 : Int32) (σ : jS) : Option jS := (lt ((64 : Int32) + x1) fun y1 => (if jin y1 212 = true then (lt (σ 1 y1.toNatClampNeg) fun y3 => (lt ((88 : Int32) + x1) fun y4 => (if jin y4 212 = true then (lt (σ 1 y4.toNatClampNeg) fun y6 => (Option.bind (mX12_isLiving F y3 σ) fun q7 => (if q7 = 0 then some σ else (Option.bind (mX12_isLiving F y6 σ) fun q8 => (if q8 = 0 then some σ else (lt ((184 : Int32) + x1) fun y9 => (if jin y9 212 = true then (lt ((136 : Int32) + x1) fun y11 => (if jin y11 212 = true then (Option.bind (mX12_grownBy F ((σ 1 y9.toNatClampNeg)) ((σ 1 y11.toNatClampNeg)) σ) fun q13 => (if jin ((184 : Int32) + x1) 212 = true then (lt (js σ 1 ((184 : Int32) + x1).toNatClampNeg q13) fun σ14 => (lt ((160 : Int32) + x1) fun y16 => (if jin y16 212 = true then (lt ((184 : Int32) + x1) fun y18 => (if jin y18 212 = true then (lt ((16 : Int32) + y6) fun y20 => (if jin y20 212 = true then (Option.bind (mX12_min F ((σ14 1 y18.toNatClampNeg)) (((σ14 1 y20.toNatClampNeg) - (1 : Int32))) σ14) fun q22 => (Option.bind (mX12_min F ((σ14 1 y16.toNatClampNeg)) q22 σ14) fun q23 => (lt ((184 : Int32) + x1) fun y24 => (if jin y24 212 = true then (if jin ((184 : Int32) + x1) 212 = true then (lt (js σ14 1 ((184 : Int32) + x1).toNatClampNeg ((σ14 1 y24.toNatClampNeg) - q23)) fun σ26 => (lt ((16 : Int32) + y6) fun y28 => (if jin y28 212 = true then (if jin ((16 : Int32) + y6) 212 = true then (lt (js σ26 1 ((16 : Int32) + y6).toNatClampNeg ((σ26 1 y28.toNatClampNeg) - q23)) fun σ30 => (lt ((16 : Int32) + y3) fun y32 => (if jin y32 212 = true then (Option.bind (mX12_min F (999999999 : Int32) (((σ30 1 y32.toNatClampNeg) + q23)) σ30) fun q34 => (if jin ((16 : Int32) + y3) 212 = true then (lt (js σ30 1 ((16 : Int32) + y3).toNatClampNeg q34) fun σ35 => some σ35) else none)) else none))) else none) else none))) else none) else none)))) else none)) else none)) else none))) else none)) else none)) else none))))))) else none))) else none))
set_option maxHeartbeats 4000000 in
set_option maxRecDepth 100000 in
theorem kX12_loanGoes {V : jV} {F : Nat} {x1 : Int32} {σ : jS} {v : jS} (hm : mX12_loanGoes F x1 σ = some v) : Ct cfM 33 V yX12_loanGoes cX12_loanGoes 5 none 3 [.ref (vad V 0), .int x1] σ (0, v) := by
  refine j_start (own := RX12) (by decide) rfl (Nat.le_of_ble_eq_true rfl) ?_
  intro G hV C
  subst hV
  unfold mX12_loanGoes at hm
  show JM G 0 [(0, .ref (vad (gV G) 0)), (1, .int x1)] [] σ (0, v)
  refine j_aloadn (pc := 0) C 0 dX12_loanGoes_0 rfl rfl ?_
  refine gf_X12_7 (c := 0) (pc := 1) C km_0 dX12_loanGoes_1 ?_
  refine j_bipush (v := 64) (pc := 4) C dX12_loanGoes_4 (by decide) ?_
  refine j_iloadn (pc := 6) C 1 dX12_loanGoes_6 rfl rfl ?_
  refine j_iadd (pc := 7) C dX12_loanGoes_7 ?_
  refine j_lti hm (fun y1 hm => ?_)
  refine j_guard hm (fun hg2 hm => ?_)
  refine j_iald (c := 1) (n := 212) (pc := 8) C (kM_lt km_1 (by decide)) (cm_a km_1 lm_1 _) hg2 dX12_loanGoes_8 ?_
  refine j_lti hm (fun y3 hm => ?_)
  refine j_istoren (ls' := [(2, .int y3), (0, .ref (vad (gV G) 0)), (1, .int x1)]) (pc := 9) C dX12_loanGoes_9 rfl (by decide) rfl ?_
  refine j_aloadn (pc := 10) C 1 dX12_loanGoes_10 rfl rfl ?_
  refine gf_X12_7 (c := 0) (pc := 11) C km_0 dX12_loanGoes_11 ?_
  refine j_bipush (v := 88) (pc := 14) C dX12_loanGoes_14 (by decide) ?_
  refine j_iloadn (pc := 16) C 2 dX12_loanGoes_16 rfl rfl ?_
  refine j_iadd (pc := 17) C dX12_loanGoes_17 ?_
  refine j_lti hm (fun y4 hm => ?_)
  refine j_guard hm (fun hg5 hm => ?_)
  refine j_iald (c := 1) (n := 212) (pc := 18) C (kM_lt km_1 (by decide)) (cm_a km_1 lm_1 _) hg5 dX12_loanGoes_18 ?_
  refine j_lti hm (fun y6 hm => ?_)
  refine j_istoren (ls' := [(3, .int y6), (2, .int y3), (0, .ref (vad (gV G) 0)), (1, .int x1)]) (pc := 19) C dX12_loanGoes_19 rfl (by decide) rfl ?_
  refine j_aloadn (pc := 20) C 2 dX12_loanGoes_20 rfl rfl ?_
  refine j_iloadn (pc := 21) C 1 dX12_loanGoes_21 rfl rfl ?_
  obtain ⟨q7, hq7, hm⟩ := Option.bind_eq_some_iff.mp hm
  refine cl_X12_115 (c := 0) (pc := 22) C km_0 (kX12_isLiving hq7) (by decide) (Nat.le_of_ble_eq_true rfl) dX12_loanGoes_22 ?_
  refine j_if_eq (tgt := 36) (pc := 25) C dX12_loanGoes_25 (by decide) hm (fun _ hm => ?_) (fun _ hm => ?_)
  · exact j_vret (pc := 36) C rfl dX12_loanGoes_36 hm
  · refine j_aloadn (pc := 28) C 2 dX12_loanGoes_28 rfl rfl ?_
    refine j_iloadn (pc := 29) C 0 dX12_loanGoes_29 rfl rfl ?_
    obtain ⟨q8, hq8, hm⟩ := Option.bind_eq_some_iff.mp hm
    refine cl_X12_115 (c := 0) (pc := 30) C km_0 (kX12_isLiving hq8) (by decide) (Nat.le_of_ble_eq_true rfl) dX12_loanGoes_30 ?_
    refine j_if_ne (tgt := 37) (pc := 33) C dX12_loanGoes_33 (by decide) hm (fun _ hm => ?_) (fun _ hm => ?_)
    · exact j_vret (pc := 36) C rfl dX12_loanGoes_36 hm
    · refine j_aloadn (pc := 37) C 2 dX12_loanGoes_37 rfl rfl ?_
      refine gf_X12_7 (c := 0) (pc := 38) C km_0 dX12_loanGoes_38 ?_
      refine j_sipush (v := 184) (pc := 41) C dX12_loanGoes_41 (by decide) ?_
      refine j_iloadn (pc := 44) C 3 dX12_loanGoes_44 rfl rfl ?_
      refine j_iadd (pc := 45) C dX12_loanGoes_45 ?_
      refine j_aloadn (pc := 46) C 2 dX12_loanGoes_46 rfl rfl ?_
      refine gf_X12_7 (c := 0) (pc := 47) C km_0 dX12_loanGoes_47 ?_
      refine j_sipush (v := 184) (pc := 50) C dX12_loanGoes_50 (by decide) ?_
      refine j_iloadn (pc := 53) C 3 dX12_loanGoes_53 rfl rfl ?_
      refine j_iadd (pc := 54) C dX12_loanGoes_54 ?_
      refine j_lti hm (fun y9 hm => ?_)
      refine j_guard hm (fun hg10 hm => ?_)
      refine j_iald (c := 1) (n := 212) (pc := 55) C (kM_lt km_1 (by decide)) (cm_a km_1 lm_1 _) hg10 dX12_loanGoes_55 ?_
      refine j_aloadn (pc := 56) C 2 dX12_loanGoes_56 rfl rfl ?_
      refine gf_X12_7 (c := 0) (pc := 57) C km_0 dX12_loanGoes_57 ?_
      refine j_sipush (v := 136) (pc := 60) C dX12_loanGoes_60 (by decide) ?_
      refine j_iloadn (pc := 63) C 3 dX12_loanGoes_63 rfl rfl ?_
      refine j_iadd (pc := 64) C dX12_loanGoes_64 ?_
      refine j_lti hm (fun y11 hm => ?_)
      refine j_guard hm (fun hg12 hm => ?_)
      refine j_iald (c := 1) (n := 212) (pc := 65) C (kM_lt km_1 (by decide)) (cm_a km_1 lm_1 _) hg12 dX12_loanGoes_65 ?_
      obtain ⟨q13, hq13, hm⟩ := Option.bind_eq_some_iff.mp hm
      refine cl_X12_309 (pc := 66) C (kX12_grownBy hq13) (by decide) (Nat.le_of_ble_eq_true rfl) dX12_loanGoes_66 ?_
      refine j_guard hm (fun hg15 hm => ?_)
      refine j_iastL (c := 1) (n := 212) (pc := 69) C (kM_lt km_1 (by decide)) (cm_a km_1 lm_1) hg15 dX12_loanGoes_69 hm (fun σ14 hm => ?_)
      refine j_aloadn (pc := 70) C 2 dX12_loanGoes_70 rfl rfl ?_
      refine gf_X12_7 (c := 0) (pc := 71) C km_0 dX12_loanGoes_71 ?_
      refine j_sipush (v := 160) (pc := 74) C dX12_loanGoes_74 (by decide) ?_
      refine j_iloadn (pc := 77) C 3 dX12_loanGoes_77 rfl rfl ?_
      refine j_iadd (pc := 78) C dX12_loanGoes_78 ?_
      refine j_lti hm (fun y16 hm => ?_)
      refine j_guard hm (fun hg17 hm => ?_)
      refine j_iald (c := 1) (n := 212) (pc := 79) C (kM_lt km_1 (by decide)) (cm_a km_1 lm_1 _) hg17 dX12_loanGoes_79 ?_
      refine j_aloadn (pc := 80) C 2 dX12_loanGoes_80 rfl rfl ?_
      refine gf_X12_7 (c := 0) (pc := 81) C km_0 dX12_loanGoes_81 ?_
      refine j_sipush (v := 184) (pc := 84) C dX12_loanGoes_84 (by decide) ?_
      refine j_iloadn (pc := 87) C 3 dX12_loanGoes_87 rfl rfl ?_
      refine j_iadd (pc := 88) C dX12_loanGoes_88 ?_
      refine j_lti hm (fun y18 hm => ?_)
      refine j_guard hm (fun hg19 hm => ?_)
      refine j_iald (c := 1) (n := 212) (pc := 89) C (kM_lt km_1 (by decide)) (cm_a km_1 lm_1 _) hg19 dX12_loanGoes_89 ?_
      refine j_aloadn (pc := 90) C 2 dX12_loanGoes_90 rfl rfl ?_
      refine gf_X12_7 (c := 0) (pc := 91) C km_0 dX12_loanGoes_91 ?_
      refine j_bipush (v := 16) (pc := 94) C dX12_loanGoes_94 (by decide) ?_
      refine j_iloadn (pc := 96) C 0 dX12_loanGoes_96 rfl rfl ?_
      refine j_iadd (pc := 97) C dX12_loanGoes_97 ?_
      refine j_lti hm (fun y20 hm => ?_)
      refine j_guard hm (fun hg21 hm => ?_)
      refine j_iald (c := 1) (n := 212) (pc := 98) C (kM_lt km_1 (by decide)) (cm_a km_1 lm_1 _) hg21 dX12_loanGoes_98 ?_
      refine j_iconst (v := 1) (pc := 99) C dX12_loanGoes_99 (by decide) ?_
      refine j_isub (pc := 100) C dX12_loanGoes_100 ?_
      obtain ⟨q22, hq22, hm⟩ := Option.bind_eq_some_iff.mp hm
      refine cl_X12_272 (pc := 101) C (kX12_min hq22) (by decide) (Nat.le_of_ble_eq_true rfl) dX12_loanGoes_101 ?_
      obtain ⟨q23, hq23, hm⟩ := Option.bind_eq_some_iff.mp hm
      refine cl_X12_272 (pc := 104) C (kX12_min hq23) (by decide) (Nat.le_of_ble_eq_true rfl) dX12_loanGoes_104 ?_
      refine j_istore (ls' := [(4, .int q23), (3, .int y6), (2, .int y3), (0, .ref (vad (gV G) 0)), (1, .int x1)]) (pc := 107) C dX12_loanGoes_107 (by decide) rfl ?_
      refine j_aloadn (pc := 109) C 3 dX12_loanGoes_109 rfl rfl ?_
      refine gf_X12_7 (c := 0) (pc := 110) C km_0 dX12_loanGoes_110 ?_
      refine j_sipush (v := 184) (pc := 113) C dX12_loanGoes_113 (by decide) ?_
      refine j_iloadn (pc := 116) C 4 dX12_loanGoes_116 rfl rfl ?_
      refine j_iadd (pc := 117) C dX12_loanGoes_117 ?_
      refine j_aloadn (pc := 118) C 3 dX12_loanGoes_118 rfl rfl ?_
      refine gf_X12_7 (c := 0) (pc := 119) C km_0 dX12_loanGoes_119 ?_
      refine j_sipush (v := 184) (pc := 122) C dX12_loanGoes_122 (by decide) ?_
      refine j_iloadn (pc := 125) C 4 dX12_loanGoes_125 rfl rfl ?_
      refine j_iadd (pc := 126) C dX12_loanGoes_126 ?_
      refine j_lti hm (fun y24 hm => ?_)
      refine j_guard hm (fun hg25 hm => ?_)
      refine j_iald (c := 1) (n := 212) (pc := 127) C (kM_lt km_1 (by decide)) (cm_a km_1 lm_1 _) hg25 dX12_loanGoes_127 ?_
      refine j_iload (pc := 128) C 0 dX12_loanGoes_128 rfl ?_
      refine j_isub (pc := 130) C dX12_loanGoes_130 ?_
      refine j_guard hm (fun hg27 hm => ?_)
      refine j_iastL (c := 1) (n := 212) (pc := 131) C (kM_lt km_1 (by decide)) (cm_a km_1 lm_1) hg27 dX12_loanGoes_131 hm (fun σ26 hm => ?_)
      refine j_aloadn (pc := 132) C 3 dX12_loanGoes_132 rfl rfl ?_
      refine gf_X12_7 (c := 0) (pc := 133) C km_0 dX12_loanGoes_133 ?_
      refine j_bipush (v := 16) (pc := 136) C dX12_loanGoes_136 (by decide) ?_
      refine j_iloadn (pc := 138) C 1 dX12_loanGoes_138 rfl rfl ?_
      refine j_iadd (pc := 139) C dX12_loanGoes_139 ?_
      refine j_aloadn (pc := 140) C 3 dX12_loanGoes_140 rfl rfl ?_
      refine gf_X12_7 (c := 0) (pc := 141) C km_0 dX12_loanGoes_141 ?_
      refine j_bipush (v := 16) (pc := 144) C dX12_loanGoes_144 (by decide) ?_
      refine j_iloadn (pc := 146) C 1 dX12_loanGoes_146 rfl rfl ?_
      refine j_iadd (pc := 147) C dX12_loanGoes_147 ?_
      refine j_lti hm (fun y28 hm => ?_)
      refine j_guard hm (fun hg29 hm => ?_)
      refine j_iald (c := 1) (n := 212) (pc := 148) C (kM_lt km_1 (by decide)) (cm_a km_1 lm_1 _) hg29 dX12_loanGoes_148 ?_
      refine j_iload (pc := 149) C 0 dX12_loanGoes_149 rfl ?_
      refine j_isub (pc := 151) C dX12_loanGoes_151 ?_
      refine j_guard hm (fun hg31 hm => ?_)
      refine j_iastL (c := 1) (n := 212) (pc := 152) C (kM_lt km_1 (by decide)) (cm_a km_1 lm_1) hg31 dX12_loanGoes_152 hm (fun σ30 hm => ?_)
      refine j_aloadn (pc := 153) C 3 dX12_loanGoes_153 rfl rfl ?_
      refine gf_X12_7 (c := 0) (pc := 154) C km_0 dX12_loanGoes_154 ?_
      refine j_bipush (v := 16) (pc := 157) C dX12_loanGoes_157 (by decide) ?_
      refine j_iloadn (pc := 159) C 2 dX12_loanGoes_159 rfl rfl ?_
      refine j_iadd (pc := 160) C dX12_loanGoes_160 ?_
      refine j_ldc (v := 999999999) (pc := 161) C dX12_loanGoes_161 tw_6_9 ?_
      refine j_aloadn (pc := 163) C 3 dX12_loanGoes_163 rfl rfl ?_
      refine gf_X12_7 (c := 0) (pc := 164) C km_0 dX12_loanGoes_164 ?_
      refine j_bipush (v := 16) (pc := 167) C dX12_loanGoes_167 (by decide) ?_
      refine j_iloadn (pc := 169) C 2 dX12_loanGoes_169 rfl rfl ?_
      refine j_iadd (pc := 170) C dX12_loanGoes_170 ?_
      refine j_lti hm (fun y32 hm => ?_)
      refine j_guard hm (fun hg33 hm => ?_)
      refine j_iald (c := 1) (n := 212) (pc := 171) C (kM_lt km_1 (by decide)) (cm_a km_1 lm_1 _) hg33 dX12_loanGoes_171 ?_
      refine j_iload (pc := 172) C 0 dX12_loanGoes_172 rfl ?_
      refine j_iadd (pc := 174) C dX12_loanGoes_174 ?_
      obtain ⟨q34, hq34, hm⟩ := Option.bind_eq_some_iff.mp hm
      refine cl_X12_272 (pc := 175) C (kX12_min hq34) (by decide) (Nat.le_of_ble_eq_true rfl) dX12_loanGoes_175 ?_
      refine j_guard hm (fun hg36 hm => ?_)
      refine j_iastL (c := 1) (n := 212) (pc := 178) C (kM_lt km_1 (by decide)) (cm_a km_1 lm_1) hg36 dX12_loanGoes_178 hm (fun σ35 hm => ?_)
      exact j_vret (pc := 179) C rfl dX12_loanGoes_179 hm

def mX12_parishGives (F : Nat) (x1 : Int32) (σ : jS) : Option jS := (Option.bind (mX12_feels F x1 (24 : Int32) (0 : Int32) (0 : Int32) σ) fun q1 => (Option.bind (mX12_byLaw F (105 : Int32) (0 : Int32) (9999 : Int32) (0 : Int32) q1) fun q2 => (lt ((16 : Int32) + x1) fun y3 => (if jin y3 212 = true then (Option.bind (mX12_min F ((q2.2 1 209)) (((999999999 : Int32) - (q2.2 1 y3.toNatClampNeg))) q2.2) fun q5 => (Option.bind (mX12_min F q2.1 q5 q2.2) fun q6 => (lt (js q2.2 1 209 ((q2.2 1 209) - q6)) fun σ7 => (lt ((16 : Int32) + x1) fun y8 => (if jin y8 212 = true then (if jin ((16 : Int32) + x1) 212 = true then (lt (js σ7 1 ((16 : Int32) + x1).toNatClampNeg ((σ7 1 y8.toNatClampNeg) + q6)) fun σ10 => some σ10) else none) else none))))) else none))))
set_option maxHeartbeats 4000000 in
set_option maxRecDepth 100000 in
theorem kX12_parishGives {V : jV} {F : Nat} {x1 : Int32} {σ : jS} {v : jS} (hm : mX12_parishGives F x1 σ = some v) : Ct cfM 33 V yX12_parishGives cX12_parishGives 3 none 3 [.ref (vad V 0), .int x1] σ (0, v) := by
  refine j_start (own := RX12) (by decide) rfl (Nat.le_of_ble_eq_true rfl) ?_
  intro G hV C
  subst hV
  unfold mX12_parishGives at hm
  show JM G 0 [(0, .ref (vad (gV G) 0)), (1, .int x1)] [] σ (0, v)
  refine j_aloadn (pc := 0) C 0 dX12_parishGives_0 rfl rfl ?_
  refine j_iloadn (pc := 1) C 1 dX12_parishGives_1 rfl rfl ?_
  refine j_bipush (v := 24) (pc := 2) C dX12_parishGives_2 (by decide) ?_
  refine j_iconst (v := 0) (pc := 4) C dX12_parishGives_4 (by decide) ?_
  refine j_iconst (v := 0) (pc := 5) C dX12_parishGives_5 (by decide) ?_
  obtain ⟨q1, hq1, hm⟩ := Option.bind_eq_some_iff.mp hm
  refine cl_X12_292 (c := 0) (pc := 6) C km_0 (kX12_feels hq1) (by decide) (Nat.le_of_ble_eq_true rfl) dX12_parishGives_6 ?_
  refine j_aloadn (pc := 9) C 0 dX12_parishGives_9 rfl rfl ?_
  refine j_bipush (v := 105) (pc := 10) C dX12_parishGives_10 (by decide) ?_
  refine j_iconst (v := 0) (pc := 12) C dX12_parishGives_12 (by decide) ?_
  refine j_sipush (v := 9999) (pc := 13) C dX12_parishGives_13 (by decide) ?_
  refine j_iconst (v := 0) (pc := 16) C dX12_parishGives_16 (by decide) ?_
  obtain ⟨q2, hq2, hm⟩ := Option.bind_eq_some_iff.mp hm
  refine cl_X12_281 (c := 0) (pc := 17) C km_0 (kX12_byLaw hq2) (by decide) (Nat.le_of_ble_eq_true rfl) dX12_parishGives_17 ?_
  refine j_aloadn (pc := 20) C 0 dX12_parishGives_20 rfl rfl ?_
  refine gf_X12_7 (c := 0) (pc := 21) C km_0 dX12_parishGives_21 ?_
  refine j_sipush (v := 209) (pc := 24) C dX12_parishGives_24 (by decide) ?_
  refine j_ialdK (c := 1) (n := 212) (k := 209) (pc := 27) C (kM_lt km_1 (by decide)) (cm_a km_1 lm_1 _) rfl (by decide) dX12_parishGives_27 ?_
  refine j_ldc (v := 999999999) (pc := 28) C dX12_parishGives_28 tw_6_9 ?_
  refine j_aloadn (pc := 30) C 0 dX12_parishGives_30 rfl rfl ?_
  refine gf_X12_7 (c := 0) (pc := 31) C km_0 dX12_parishGives_31 ?_
  refine j_bipush (v := 16) (pc := 34) C dX12_parishGives_34 (by decide) ?_
  refine j_iloadn (pc := 36) C 1 dX12_parishGives_36 rfl rfl ?_
  refine j_iadd (pc := 37) C dX12_parishGives_37 ?_
  refine j_lti hm (fun y3 hm => ?_)
  refine j_guard hm (fun hg4 hm => ?_)
  refine j_iald (c := 1) (n := 212) (pc := 38) C (kM_lt km_1 (by decide)) (cm_a km_1 lm_1 _) hg4 dX12_parishGives_38 ?_
  refine j_isub (pc := 39) C dX12_parishGives_39 ?_
  obtain ⟨q5, hq5, hm⟩ := Option.bind_eq_some_iff.mp hm
  refine cl_X12_272 (pc := 40) C (kX12_min hq5) (by decide) (Nat.le_of_ble_eq_true rfl) dX12_parishGives_40 ?_
  obtain ⟨q6, hq6, hm⟩ := Option.bind_eq_some_iff.mp hm
  refine cl_X12_272 (pc := 43) C (kX12_min hq6) (by decide) (Nat.le_of_ble_eq_true rfl) dX12_parishGives_43 ?_
  refine j_istoren (ls' := [(2, .int q6), (0, .ref (vad (gV G) 0)), (1, .int x1)]) (pc := 46) C dX12_parishGives_46 rfl (by decide) rfl ?_
  refine j_aloadn (pc := 47) C 1 dX12_parishGives_47 rfl rfl ?_
  refine gf_X12_7 (c := 0) (pc := 48) C km_0 dX12_parishGives_48 ?_
  refine j_sipush (v := 209) (pc := 51) C dX12_parishGives_51 (by decide) ?_
  refine j_aloadn (pc := 54) C 1 dX12_parishGives_54 rfl rfl ?_
  refine gf_X12_7 (c := 0) (pc := 55) C km_0 dX12_parishGives_55 ?_
  refine j_sipush (v := 209) (pc := 58) C dX12_parishGives_58 (by decide) ?_
  refine j_ialdK (c := 1) (n := 212) (k := 209) (pc := 61) C (kM_lt km_1 (by decide)) (cm_a km_1 lm_1 _) rfl (by decide) dX12_parishGives_61 ?_
  refine j_iloadn (pc := 62) C 0 dX12_parishGives_62 rfl rfl ?_
  refine j_isub (pc := 63) C dX12_parishGives_63 ?_
  refine j_iastK (c := 1) (n := 212) (k := 209) (pc := 64) C (kM_lt km_1 (by decide)) (cm_a km_1 lm_1) rfl (by decide) dX12_parishGives_64 hm (fun σ7 hm => ?_)
  refine j_aloadn (pc := 65) C 1 dX12_parishGives_65 rfl rfl ?_
  refine gf_X12_7 (c := 0) (pc := 66) C km_0 dX12_parishGives_66 ?_
  refine j_bipush (v := 16) (pc := 69) C dX12_parishGives_69 (by decide) ?_
  refine j_iloadn (pc := 71) C 2 dX12_parishGives_71 rfl rfl ?_
  refine j_iadd (pc := 72) C dX12_parishGives_72 ?_
  refine j_aloadn (pc := 73) C 1 dX12_parishGives_73 rfl rfl ?_
  refine gf_X12_7 (c := 0) (pc := 74) C km_0 dX12_parishGives_74 ?_
  refine j_bipush (v := 16) (pc := 77) C dX12_parishGives_77 (by decide) ?_
  refine j_iloadn (pc := 79) C 2 dX12_parishGives_79 rfl rfl ?_
  refine j_iadd (pc := 80) C dX12_parishGives_80 ?_
  refine j_lti hm (fun y8 hm => ?_)
  refine j_guard hm (fun hg9 hm => ?_)
  refine j_iald (c := 1) (n := 212) (pc := 81) C (kM_lt km_1 (by decide)) (cm_a km_1 lm_1 _) hg9 dX12_parishGives_81 ?_
  refine j_iloadn (pc := 82) C 0 dX12_parishGives_82 rfl rfl ?_
  refine j_iadd (pc := 83) C dX12_parishGives_83 ?_
  refine j_guard hm (fun hg11 hm => ?_)
  refine j_iastL (c := 1) (n := 212) (pc := 84) C (kM_lt km_1 (by decide)) (cm_a km_1 lm_1) hg11 dX12_parishGives_84 hm (fun σ10 hm => ?_)
  exact j_vret (pc := 85) C rfl dX12_parishGives_85 hm

def lp_X12_dayGoes_10 (F : Nat) (k36 : Int32 → jS → Option jS) : Nat → Int32 → Int32 → jS → Option jS
  | 0, _, _, _ => none
  | n + 1, x1, x2, σ => (if x2 < (16 : Int32) then (Option.bind (mX12_isLiving F x2 σ) fun q1 => (if q1 = 0 then (lp_X12_dayGoes_10 F k36 n x1 ((x2 + (1 : Int32))) σ) else (Option.bind (mX12_hourOf F x2 x1 σ) fun q2 => (lp_X12_dayGoes_10 F k36 n x1 ((x2 + (1 : Int32))) q2)))) else (k36 x1 σ))
set_option maxHeartbeats 4000000 in
set_option maxRecDepth 100000 in
theorem lp_X12_dayGoes_10_ok {G : jG} (C : jc cfM 33 G cX12_dayGoes RX12 3 none 5) (F : Nat) {v : jS} (k36 : Int32 → jS → Option jS) (hk36 : ∀ (x1 : Int32) (σ : jS), k36 x1 σ = some v → JM G 36 [(0, .ref (vad (gV G) 0)), (1, .int x1)] [] σ (0, v)) : ∀ (n : Nat) (x1 : Int32) (x2 : Int32) (σ : jS), lp_X12_dayGoes_10 F k36 n x1 x2 σ = some v → JM G 10 [(0, .ref (vad (gV G) 0)), (1, .int x1), (2, .int x2)] [] σ (0, v) := by
  intro n
  induction n with
  | zero =>
    intro x1 x2 σ hm
    rw [lp_X12_dayGoes_10] at hm
    cases hm
  | succ n ih =>
    intro x1 x2 σ hm
    rw [lp_X12_dayGoes_10] at hm
    refine j_iloadn (pc := 10) C 2 dX12_dayGoes_10 rfl rfl ?_
    refine j_bipush (v := 16) (pc := 11) C dX12_dayGoes_11 (by decide) ?_
    refine j_icmp_ge (tgt := 36) (pc := 13) C dX12_dayGoes_13 (by decide) hm (fun _ hm => ?_) (fun _ hm => ?_)
    · refine j_aloadn (pc := 16) C 0 dX12_dayGoes_16 rfl rfl ?_
      refine j_iloadn (pc := 17) C 2 dX12_dayGoes_17 rfl rfl ?_
      obtain ⟨q1, hq1, hm⟩ := Option.bind_eq_some_iff.mp hm
      refine cl_X12_115 (c := 0) (pc := 18) C km_0 (kX12_isLiving hq1) (by decide) (Nat.le_of_ble_eq_true rfl) dX12_dayGoes_18 ?_
      refine j_if_eq (tgt := 30) (pc := 21) C dX12_dayGoes_21 (by decide) hm (fun _ hm => ?_) (fun _ hm => ?_)
      · refine j_iinc (v := (x2 + (1 : Int32))) (ls' := [(2, .int (x2 + (1 : Int32))), (0, .ref (vad (gV G) 0)), (1, .int x1)]) (pc := 30) C 2 dX12_dayGoes_30 rfl rfl (by decide) rfl ?_
        refine j_goto (tgt := 10) (pc := 33) C dX12_dayGoes_33 (by decide) ?_
        refine j_ls [1, 2, 0] rfl ?_
        exact ih _ _ _ hm
      · refine j_aloadn (pc := 24) C 0 dX12_dayGoes_24 rfl rfl ?_
        refine j_iloadn (pc := 25) C 2 dX12_dayGoes_25 rfl rfl ?_
        refine j_iloadn (pc := 26) C 1 dX12_dayGoes_26 rfl rfl ?_
        obtain ⟨q2, hq2, hm⟩ := Option.bind_eq_some_iff.mp hm
        refine cl_X12_312 (c := 0) (pc := 27) C km_0 (kX12_hourOf hq2) (by decide) (Nat.le_of_ble_eq_true rfl) dX12_dayGoes_27 ?_
        refine j_iinc (v := (x2 + (1 : Int32))) (ls' := [(2, .int (x2 + (1 : Int32))), (0, .ref (vad (gV G) 0)), (1, .int x1)]) (pc := 30) C 2 dX12_dayGoes_30 rfl rfl (by decide) rfl ?_
        refine j_goto (tgt := 10) (pc := 33) C dX12_dayGoes_33 (by decide) ?_
        refine j_ls [1, 2, 0] rfl ?_
        exact ih _ _ _ hm
    · refine j_ls [0, 1] rfl ?_
      exact hk36 _ _ hm

def lp_X12_dayGoes_2 (F : Nat) (k42 : jS → Option jS) : Nat → Int32 → jS → Option jS
  | 0, _, _ => none
  | n + 1, x1, σ => (if x1 < (24 : Int32) then (lp_X12_dayGoes_10 F (fun x1_3 σ3 => (lp_X12_dayGoes_2 F k42 n ((x1_3 + (1 : Int32))) σ3)) F x1 (0 : Int32) σ) else (k42 σ))
set_option maxHeartbeats 4000000 in
set_option maxRecDepth 100000 in
theorem lp_X12_dayGoes_2_ok {G : jG} (C : jc cfM 33 G cX12_dayGoes RX12 3 none 5) (F : Nat) {v : jS} (k42 : jS → Option jS) (hk42 : ∀ (σ : jS), k42 σ = some v → JM G 42 [(0, .ref (vad (gV G) 0))] [] σ (0, v)) : ∀ (n : Nat) (x1 : Int32) (σ : jS), lp_X12_dayGoes_2 F k42 n x1 σ = some v → JM G 2 [(0, .ref (vad (gV G) 0)), (1, .int x1)] [] σ (0, v) := by
  intro n
  induction n with
  | zero =>
    intro x1 σ hm
    rw [lp_X12_dayGoes_2] at hm
    cases hm
  | succ n ih =>
    intro x1 σ hm
    rw [lp_X12_dayGoes_2] at hm
    refine j_iloadn (pc := 2) C 1 dX12_dayGoes_2 rfl rfl ?_
    refine j_bipush (v := 24) (pc := 3) C dX12_dayGoes_3 (by decide) ?_
    refine j_icmp_ge (tgt := 42) (pc := 5) C dX12_dayGoes_5 (by decide) hm (fun _ hm => ?_) (fun _ hm => ?_)
    · refine j_iconst (v := 0) (pc := 8) C dX12_dayGoes_8 (by decide) ?_
      refine j_istoren (ls' := [(2, .int (0 : Int32)), (0, .ref (vad (gV G) 0)), (1, .int x1)]) (pc := 9) C dX12_dayGoes_9 rfl (by decide) rfl ?_
      refine j_ls [1, 2, 0] rfl ?_
      refine lp_X12_dayGoes_10_ok C F _ (fun x1_3 σ3 hm => ?_) F _ _ _ hm
      refine j_iinc (v := (x1_3 + (1 : Int32))) (ls' := [(1, .int (x1_3 + (1 : Int32))), (0, .ref (vad (gV G) 0))]) (pc := 36) C 1 dX12_dayGoes_36 rfl rfl (by decide) rfl ?_
      refine j_goto (tgt := 2) (pc := 39) C dX12_dayGoes_39 (by decide) ?_
      refine j_ls [1, 0] rfl ?_
      exact ih _ _ hm
    · refine j_ls [0] rfl ?_
      exact hk42 _ hm

def lp_X12_dayGoes_44 (F : Nat) (k67 : jS → Option jS) : Nat → Int32 → jS → Option jS
  | 0, _, _ => none
  | n + 1, x1, σ => (if x1 < (σ 1 208) then (Option.bind (mX12_loanGoes F x1 σ) fun q5 => (lp_X12_dayGoes_44 F k67 n ((x1 + (1 : Int32))) q5)) else (k67 σ))
set_option maxHeartbeats 4000000 in
set_option maxRecDepth 100000 in
theorem lp_X12_dayGoes_44_ok {G : jG} (C : jc cfM 33 G cX12_dayGoes RX12 3 none 5) (F : Nat) {v : jS} (k67 : jS → Option jS) (hk67 : ∀ (σ : jS), k67 σ = some v → JM G 67 [(0, .ref (vad (gV G) 0))] [] σ (0, v)) : ∀ (n : Nat) (x1 : Int32) (σ : jS), lp_X12_dayGoes_44 F k67 n x1 σ = some v → JM G 44 [(0, .ref (vad (gV G) 0)), (1, .int x1)] [] σ (0, v) := by
  intro n
  induction n with
  | zero =>
    intro x1 σ hm
    rw [lp_X12_dayGoes_44] at hm
    cases hm
  | succ n ih =>
    intro x1 σ hm
    rw [lp_X12_dayGoes_44] at hm
    refine j_iloadn (pc := 44) C 1 dX12_dayGoes_44 rfl rfl ?_
    refine j_aloadn (pc := 45) C 0 dX12_dayGoes_45 rfl rfl ?_
    refine gf_X12_7 (c := 0) (pc := 46) C km_0 dX12_dayGoes_46 ?_
    refine j_sipush (v := 208) (pc := 49) C dX12_dayGoes_49 (by decide) ?_
    refine j_ialdK (c := 1) (n := 212) (k := 208) (pc := 52) C (kM_lt km_1 (by decide)) (cm_a km_1 lm_1 _) rfl (by decide) dX12_dayGoes_52 ?_
    refine j_icmp_ge (tgt := 67) (pc := 53) C dX12_dayGoes_53 (by decide) hm (fun _ hm => ?_) (fun _ hm => ?_)
    · refine j_aloadn (pc := 56) C 0 dX12_dayGoes_56 rfl rfl ?_
      refine j_iloadn (pc := 57) C 1 dX12_dayGoes_57 rfl rfl ?_
      obtain ⟨q5, hq5, hm⟩ := Option.bind_eq_some_iff.mp hm
      refine cl_X12_315 (c := 0) (pc := 58) C km_0 (kX12_loanGoes hq5) (by decide) (Nat.le_of_ble_eq_true rfl) dX12_dayGoes_58 ?_
      refine j_iinc (v := (x1 + (1 : Int32))) (ls' := [(1, .int (x1 + (1 : Int32))), (0, .ref (vad (gV G) 0))]) (pc := 61) C 1 dX12_dayGoes_61 rfl rfl (by decide) rfl ?_
      refine j_goto (tgt := 44) (pc := 64) C dX12_dayGoes_64 (by decide) ?_
      refine j_ls [1, 0] rfl ?_
      exact ih _ _ hm
    · refine j_ls [0] rfl ?_
      exact hk67 _ hm

def lp_X12_dayGoes_69 (F : Nat) (k94 : jS → Option jS) : Nat → Int32 → jS → Option jS
  | 0, _, _ => none
  | n + 1, x1, σ => (if x1 < (16 : Int32) then (Option.bind (mX12_isLiving F x1 σ) fun q7 => (if q7 = 0 then (lp_X12_dayGoes_69 F k94 n ((x1 + (1 : Int32))) σ) else (Option.bind (mX12_parishGives F x1 σ) fun q8 => (lp_X12_dayGoes_69 F k94 n ((x1 + (1 : Int32))) q8)))) else (k94 σ))
set_option maxHeartbeats 4000000 in
set_option maxRecDepth 100000 in
theorem lp_X12_dayGoes_69_ok {G : jG} (C : jc cfM 33 G cX12_dayGoes RX12 3 none 5) (F : Nat) {v : jS} (k94 : jS → Option jS) (hk94 : ∀ (σ : jS), k94 σ = some v → JM G 94 [(0, .ref (vad (gV G) 0))] [] σ (0, v)) : ∀ (n : Nat) (x1 : Int32) (σ : jS), lp_X12_dayGoes_69 F k94 n x1 σ = some v → JM G 69 [(0, .ref (vad (gV G) 0)), (1, .int x1)] [] σ (0, v) := by
  intro n
  induction n with
  | zero =>
    intro x1 σ hm
    rw [lp_X12_dayGoes_69] at hm
    cases hm
  | succ n ih =>
    intro x1 σ hm
    rw [lp_X12_dayGoes_69] at hm
    refine j_iloadn (pc := 69) C 1 dX12_dayGoes_69 rfl rfl ?_
    refine j_bipush (v := 16) (pc := 70) C dX12_dayGoes_70 (by decide) ?_
    refine j_icmp_ge (tgt := 94) (pc := 72) C dX12_dayGoes_72 (by decide) hm (fun _ hm => ?_) (fun _ hm => ?_)
    · refine j_aloadn (pc := 75) C 0 dX12_dayGoes_75 rfl rfl ?_
      refine j_iloadn (pc := 76) C 1 dX12_dayGoes_76 rfl rfl ?_
      obtain ⟨q7, hq7, hm⟩ := Option.bind_eq_some_iff.mp hm
      refine cl_X12_115 (c := 0) (pc := 77) C km_0 (kX12_isLiving hq7) (by decide) (Nat.le_of_ble_eq_true rfl) dX12_dayGoes_77 ?_
      refine j_if_eq (tgt := 88) (pc := 80) C dX12_dayGoes_80 (by decide) hm (fun _ hm => ?_) (fun _ hm => ?_)
      · refine j_iinc (v := (x1 + (1 : Int32))) (ls' := [(1, .int (x1 + (1 : Int32))), (0, .ref (vad (gV G) 0))]) (pc := 88) C 1 dX12_dayGoes_88 rfl rfl (by decide) rfl ?_
        refine j_goto (tgt := 69) (pc := 91) C dX12_dayGoes_91 (by decide) ?_
        refine j_ls [1, 0] rfl ?_
        exact ih _ _ hm
      · refine j_aloadn (pc := 83) C 0 dX12_dayGoes_83 rfl rfl ?_
        refine j_iloadn (pc := 84) C 1 dX12_dayGoes_84 rfl rfl ?_
        obtain ⟨q8, hq8, hm⟩ := Option.bind_eq_some_iff.mp hm
        refine cl_X12_318 (c := 0) (pc := 85) C km_0 (kX12_parishGives hq8) (by decide) (Nat.le_of_ble_eq_true rfl) dX12_dayGoes_85 ?_
        refine j_iinc (v := (x1 + (1 : Int32))) (ls' := [(1, .int (x1 + (1 : Int32))), (0, .ref (vad (gV G) 0))]) (pc := 88) C 1 dX12_dayGoes_88 rfl rfl (by decide) rfl ?_
        refine j_goto (tgt := 69) (pc := 91) C dX12_dayGoes_91 (by decide) ?_
        refine j_ls [1, 0] rfl ?_
        exact ih _ _ hm
    · refine j_ls [0] rfl ?_
      exact hk94 _ hm

def lp_X12_dayGoes_96 (F : Nat) (k141 : jS → Option jS) : Nat → Int32 → jS → Option jS
  | 0, _, _ => none
  | n + 1, x1, σ => (if x1 < (16 : Int32) then (Option.bind (mX12_isLiving F x1 σ) fun q10 => (if q10 = 0 then (lp_X12_dayGoes_96 F k141 n ((x1 + (1 : Int32))) σ) else (lt ((32 : Int32) + x1) fun y11 => (if jin y11 212 = true then (Option.bind (mX12_min F (99999 : Int32) (((σ 1 y11.toNatClampNeg) + (1 : Int32))) σ) fun q13 => (if jin ((32 : Int32) + x1) 212 = true then (lt (js σ 1 ((32 : Int32) + x1).toNatClampNeg q13) fun σ14 => (lp_X12_dayGoes_96 F k141 n ((x1 + (1 : Int32))) σ14)) else none)) else none)))) else (k141 σ))
set_option maxHeartbeats 4000000 in
set_option maxRecDepth 100000 in
theorem lp_X12_dayGoes_96_ok {G : jG} (C : jc cfM 33 G cX12_dayGoes RX12 3 none 5) (F : Nat) {v : jS} (k141 : jS → Option jS) (hk141 : ∀ (σ : jS), k141 σ = some v → JM G 141 [(0, .ref (vad (gV G) 0))] [] σ (0, v)) : ∀ (n : Nat) (x1 : Int32) (σ : jS), lp_X12_dayGoes_96 F k141 n x1 σ = some v → JM G 96 [(0, .ref (vad (gV G) 0)), (1, .int x1)] [] σ (0, v) := by
  intro n
  induction n with
  | zero =>
    intro x1 σ hm
    rw [lp_X12_dayGoes_96] at hm
    cases hm
  | succ n ih =>
    intro x1 σ hm
    rw [lp_X12_dayGoes_96] at hm
    refine j_iloadn (pc := 96) C 1 dX12_dayGoes_96 rfl rfl ?_
    refine j_bipush (v := 16) (pc := 97) C dX12_dayGoes_97 (by decide) ?_
    refine j_icmp_ge (tgt := 141) (pc := 99) C dX12_dayGoes_99 (by decide) hm (fun _ hm => ?_) (fun _ hm => ?_)
    · refine j_aloadn (pc := 102) C 0 dX12_dayGoes_102 rfl rfl ?_
      refine j_iloadn (pc := 103) C 1 dX12_dayGoes_103 rfl rfl ?_
      obtain ⟨q10, hq10, hm⟩ := Option.bind_eq_some_iff.mp hm
      refine cl_X12_115 (c := 0) (pc := 104) C km_0 (kX12_isLiving hq10) (by decide) (Nat.le_of_ble_eq_true rfl) dX12_dayGoes_104 ?_
      refine j_if_eq (tgt := 135) (pc := 107) C dX12_dayGoes_107 (by decide) hm (fun _ hm => ?_) (fun _ hm => ?_)
      · refine j_iinc (v := (x1 + (1 : Int32))) (ls' := [(1, .int (x1 + (1 : Int32))), (0, .ref (vad (gV G) 0))]) (pc := 135) C 1 dX12_dayGoes_135 rfl rfl (by decide) rfl ?_
        refine j_goto (tgt := 96) (pc := 138) C dX12_dayGoes_138 (by decide) ?_
        refine j_ls [1, 0] rfl ?_
        exact ih _ _ hm
      · refine j_aloadn (pc := 110) C 0 dX12_dayGoes_110 rfl rfl ?_
        refine gf_X12_7 (c := 0) (pc := 111) C km_0 dX12_dayGoes_111 ?_
        refine j_bipush (v := 32) (pc := 114) C dX12_dayGoes_114 (by decide) ?_
        refine j_iloadn (pc := 116) C 1 dX12_dayGoes_116 rfl rfl ?_
        refine j_iadd (pc := 117) C dX12_dayGoes_117 ?_
        refine j_ldc (v := 99999) (pc := 118) C dX12_dayGoes_118 tw_6_10 ?_
        refine j_aloadn (pc := 120) C 0 dX12_dayGoes_120 rfl rfl ?_
        refine gf_X12_7 (c := 0) (pc := 121) C km_0 dX12_dayGoes_121 ?_
        refine j_bipush (v := 32) (pc := 124) C dX12_dayGoes_124 (by decide) ?_
        refine j_iloadn (pc := 126) C 1 dX12_dayGoes_126 rfl rfl ?_
        refine j_iadd (pc := 127) C dX12_dayGoes_127 ?_
        refine j_lti hm (fun y11 hm => ?_)
        refine j_guard hm (fun hg12 hm => ?_)
        refine j_iald (c := 1) (n := 212) (pc := 128) C (kM_lt km_1 (by decide)) (cm_a km_1 lm_1 _) hg12 dX12_dayGoes_128 ?_
        refine j_iconst (v := 1) (pc := 129) C dX12_dayGoes_129 (by decide) ?_
        refine j_iadd (pc := 130) C dX12_dayGoes_130 ?_
        obtain ⟨q13, hq13, hm⟩ := Option.bind_eq_some_iff.mp hm
        refine cl_X12_272 (pc := 131) C (kX12_min hq13) (by decide) (Nat.le_of_ble_eq_true rfl) dX12_dayGoes_131 ?_
        refine j_guard hm (fun hg15 hm => ?_)
        refine j_iastL (c := 1) (n := 212) (pc := 134) C (kM_lt km_1 (by decide)) (cm_a km_1 lm_1) hg15 dX12_dayGoes_134 hm (fun σ14 hm => ?_)
        refine j_iinc (v := (x1 + (1 : Int32))) (ls' := [(1, .int (x1 + (1 : Int32))), (0, .ref (vad (gV G) 0))]) (pc := 135) C 1 dX12_dayGoes_135 rfl rfl (by decide) rfl ?_
        refine j_goto (tgt := 96) (pc := 138) C dX12_dayGoes_138 (by decide) ?_
        refine j_ls [1, 0] rfl ?_
        exact ih _ _ hm
    · refine j_ls [0] rfl ?_
      exact hk141 _ hm

def mX12_dayGoes (F : Nat) (σ : jS) : Option jS := (lp_X12_dayGoes_2 F (fun σ4 => (lp_X12_dayGoes_44 F (fun σ6 => (lp_X12_dayGoes_69 F (fun σ9 => (lp_X12_dayGoes_96 F (fun σ16 => (lt (js σ16 1 210 ((σ16 1 210) + (1 : Int32))) fun σ17 => some σ17)) F (0 : Int32) σ9)) F (0 : Int32) σ6)) F (0 : Int32) σ4)) F (0 : Int32) σ)
set_option maxHeartbeats 4000000 in
set_option maxRecDepth 100000 in
theorem kX12_dayGoes {V : jV} {F : Nat} {σ : jS} {v : jS} (hm : mX12_dayGoes F σ = some v) : Ct cfM 33 V yX12_dayGoes cX12_dayGoes 3 none 5 [.ref (vad V 0)] σ (0, v) := by
  refine j_start (own := RX12) (by decide) rfl (Nat.le_of_ble_eq_true rfl) ?_
  intro G hV C
  subst hV
  unfold mX12_dayGoes at hm
  show JM G 0 [(0, .ref (vad (gV G) 0))] [] σ (0, v)
  refine j_iconst (v := 0) (pc := 0) C dX12_dayGoes_0 (by decide) ?_
  refine j_istoren (ls' := [(1, .int (0 : Int32)), (0, .ref (vad (gV G) 0))]) (pc := 1) C dX12_dayGoes_1 rfl (by decide) rfl ?_
  refine j_ls [1, 0] rfl ?_
  refine lp_X12_dayGoes_2_ok C F _ (fun σ4 hm => ?_) F _ _ hm
  refine j_iconst (v := 0) (pc := 42) C dX12_dayGoes_42 (by decide) ?_
  refine j_istoren (ls' := [(1, .int (0 : Int32)), (0, .ref (vad (gV G) 0))]) (pc := 43) C dX12_dayGoes_43 rfl (by decide) rfl ?_
  refine j_ls [1, 0] rfl ?_
  refine lp_X12_dayGoes_44_ok C F _ (fun σ6 hm => ?_) F _ _ hm
  refine j_iconst (v := 0) (pc := 67) C dX12_dayGoes_67 (by decide) ?_
  refine j_istoren (ls' := [(1, .int (0 : Int32)), (0, .ref (vad (gV G) 0))]) (pc := 68) C dX12_dayGoes_68 rfl (by decide) rfl ?_
  refine j_ls [1, 0] rfl ?_
  refine lp_X12_dayGoes_69_ok C F _ (fun σ9 hm => ?_) F _ _ hm
  refine j_iconst (v := 0) (pc := 94) C dX12_dayGoes_94 (by decide) ?_
  refine j_istoren (ls' := [(1, .int (0 : Int32)), (0, .ref (vad (gV G) 0))]) (pc := 95) C dX12_dayGoes_95 rfl (by decide) rfl ?_
  refine j_ls [1, 0] rfl ?_
  refine lp_X12_dayGoes_96_ok C F _ (fun σ16 hm => ?_) F _ _ hm
  refine j_aloadn (pc := 141) C 0 dX12_dayGoes_141 rfl rfl ?_
  refine gf_X12_7 (c := 0) (pc := 142) C km_0 dX12_dayGoes_142 ?_
  refine j_sipush (v := 210) (pc := 145) C dX12_dayGoes_145 (by decide) ?_
  refine j_aloadn (pc := 148) C 0 dX12_dayGoes_148 rfl rfl ?_
  refine gf_X12_7 (c := 0) (pc := 149) C km_0 dX12_dayGoes_149 ?_
  refine j_sipush (v := 210) (pc := 152) C dX12_dayGoes_152 (by decide) ?_
  refine j_ialdK (c := 1) (n := 212) (k := 210) (pc := 155) C (kM_lt km_1 (by decide)) (cm_a km_1 lm_1 _) rfl (by decide) dX12_dayGoes_155 ?_
  refine j_iconst (v := 1) (pc := 156) C dX12_dayGoes_156 (by decide) ?_
  refine j_iadd (pc := 157) C dX12_dayGoes_157 ?_
  refine j_iastK (c := 1) (n := 212) (k := 210) (pc := 158) C (kM_lt km_1 (by decide)) (cm_a km_1 lm_1) rfl (by decide) dX12_dayGoes_158 hm (fun σ17 hm => ?_)
  exact j_vret (pc := 159) C rfl dX12_dayGoes_159 hm

def lp_X12_daysGo_7 (F : Nat) : Nat → Int32 → Int32 → jS → Option jS
  | 0, _, _, _ => none
  | n + 1, x1, x2, σ => (if x2 < x1 then (if (σ 1 210) < (9999 : Int32) then (Option.bind (mX12_dayGoes F σ) fun q2 => (lp_X12_daysGo_7 F n x1 ((x2 + (1 : Int32))) q2)) else some σ) else some σ)
set_option maxHeartbeats 4000000 in
set_option maxRecDepth 100000 in
theorem lp_X12_daysGo_7_ok {G : jG} (C : jc cfM 33 G cX12_daysGo RX12 3 none 6) (F : Nat) {v : jS} : ∀ (n : Nat) (x1 : Int32) (x2 : Int32) (σ : jS), lp_X12_daysGo_7 F n x1 x2 σ = some v → JM G 7 [(0, .ref (vad (gV G) 0)), (1, .int x1), (2, .int x2)] [] σ (0, v) := by
  intro n
  induction n with
  | zero =>
    intro x1 x2 σ hm
    rw [lp_X12_daysGo_7] at hm
    cases hm
  | succ n ih =>
    intro x1 x2 σ hm
    rw [lp_X12_daysGo_7] at hm
    refine j_iloadn (pc := 7) C 2 dX12_daysGo_7 rfl rfl ?_
    refine j_iloadn (pc := 8) C 1 dX12_daysGo_8 rfl rfl ?_
    refine j_icmp_ge (tgt := 36) (pc := 9) C dX12_daysGo_9 (by decide) hm (fun _ hm => ?_) (fun _ hm => ?_)
    · refine j_aloadn (pc := 12) C 0 dX12_daysGo_12 rfl rfl ?_
      refine gf_X12_7 (c := 0) (pc := 13) C km_0 dX12_daysGo_13 ?_
      refine j_sipush (v := 210) (pc := 16) C dX12_daysGo_16 (by decide) ?_
      refine j_ialdK (c := 1) (n := 212) (k := 210) (pc := 19) C (kM_lt km_1 (by decide)) (cm_a km_1 lm_1 _) rfl (by decide) dX12_daysGo_19 ?_
      refine j_sipush (v := 9999) (pc := 20) C dX12_daysGo_20 (by decide) ?_
      refine j_icmp_ge (tgt := 36) (pc := 23) C dX12_daysGo_23 (by decide) hm (fun _ hm => ?_) (fun _ hm => ?_)
      · refine j_aloadn (pc := 26) C 0 dX12_daysGo_26 rfl rfl ?_
        obtain ⟨q2, hq2, hm⟩ := Option.bind_eq_some_iff.mp hm
        refine cl_X12_321 (c := 0) (pc := 27) C km_0 (kX12_dayGoes hq2) (by decide) (Nat.le_of_ble_eq_true rfl) dX12_daysGo_27 ?_
        refine j_iinc (v := (x2 + (1 : Int32))) (ls' := [(2, .int (x2 + (1 : Int32))), (0, .ref (vad (gV G) 0)), (1, .int x1)]) (pc := 30) C 2 dX12_daysGo_30 rfl rfl (by decide) rfl ?_
        refine j_goto (tgt := 7) (pc := 33) C dX12_daysGo_33 (by decide) ?_
        refine j_ls [1, 2, 0] rfl ?_
        exact ih _ _ _ hm
      · exact j_vret (pc := 36) C rfl dX12_daysGo_36 hm
    · exact j_vret (pc := 36) C rfl dX12_daysGo_36 hm

def mX12_daysGo (F : Nat) (x1 : Int32) (σ : jS) : Option jS := (lt (js σ 0 39 (0 : Int32)) fun σ1 => (lp_X12_daysGo_7 F F x1 (0 : Int32) σ1))
set_option maxHeartbeats 4000000 in
set_option maxRecDepth 100000 in
theorem kX12_daysGo {V : jV} {F : Nat} {x1 : Int32} {σ : jS} {v : jS} (hm : mX12_daysGo F x1 σ = some v) : Ct cfM 33 V yX12_daysGo cX12_daysGo 3 none 6 [.ref (vad V 0), .int x1] σ (0, v) := by
  refine j_start (own := RX12) (by decide) rfl (Nat.le_of_ble_eq_true rfl) ?_
  intro G hV C
  subst hV
  unfold mX12_daysGo at hm
  show JM G 0 [(0, .ref (vad (gV G) 0)), (1, .int x1)] [] σ (0, v)
  refine j_aloadn (pc := 0) C 0 dX12_daysGo_0 rfl rfl ?_
  refine j_iconst (v := 0) (pc := 1) C dX12_daysGo_1 (by decide) ?_
  refine pf_X12_285 (c := 0) (pc := 2) C km_0 dX12_daysGo_2 hm (fun σ1 hm => ?_)
  refine j_iconst (v := 0) (pc := 5) C dX12_daysGo_5 (by decide) ?_
  refine j_istoren (ls' := [(2, .int (0 : Int32)), (0, .ref (vad (gV G) 0)), (1, .int x1)]) (pc := 6) C dX12_daysGo_6 rfl (by decide) rfl ?_
  refine j_ls [1, 2, 0] rfl ?_
  exact lp_X12_daysGo_7_ok C F  F _ _ _ hm

def mX12_days (F : Nat) (x1 : Int32) (σ : jS) : Option (Int32 × jS) := (Option.bind (mX12_in F x1 (1 : Int32) (60 : Int32) σ) fun q1 => (if q1 = 0 then some ((-1 : Int32), σ) else (Option.bind (mX12_daysGo F x1 σ) fun q2 => some ((q2 0 39), q2))))
set_option maxHeartbeats 4000000 in
set_option maxRecDepth 100000 in
theorem kX12_days {V : jV} {F : Nat} {x1 : Int32} {σ : jS} {v : (Int32 × jS)} (hm : mX12_days F x1 σ = some v) : Ct cfM 33 V yX12_days cX12_days 2 (some .int) 7 [.ref (vad V 0), .int x1] σ v := by
  refine j_start (own := RX12) (by decide) rfl (Nat.le_of_ble_eq_true rfl) ?_
  intro G hV C
  subst hV
  unfold mX12_days at hm
  show JM G 0 [(0, .ref (vad (gV G) 0)), (1, .int x1)] [] σ v
  refine j_iloadn (pc := 0) C 1 dX12_days_0 rfl rfl ?_
  refine j_iconst (v := 1) (pc := 1) C dX12_days_1 (by decide) ?_
  refine j_bipush (v := 60) (pc := 2) C dX12_days_2 (by decide) ?_
  obtain ⟨q1, hq1, hm⟩ := Option.bind_eq_some_iff.mp hm
  refine cl_X12_107 (pc := 4) C (kX12_in hq1) (by decide) (Nat.le_of_ble_eq_true rfl) dX12_days_4 ?_
  refine j_if_ne (tgt := 12) (pc := 7) C dX12_days_7 (by decide) hm (fun _ hm => ?_) (fun _ hm => ?_)
  · refine j_iconst (v := -1) (pc := 10) C dX12_days_10 (by decide) ?_
    exact j_iretS (pc := 11) C rfl dX12_days_11 hm
  · refine j_aloadn (pc := 12) C 0 dX12_days_12 rfl rfl ?_
    refine j_iloadn (pc := 13) C 1 dX12_days_13 rfl rfl ?_
    obtain ⟨q2, hq2, hm⟩ := Option.bind_eq_some_iff.mp hm
    refine cl_X12_324 (c := 0) (pc := 14) C km_0 (kX12_daysGo hq2) (by decide) (Nat.le_of_ble_eq_true rfl) dX12_days_14 ?_
    refine j_aloadn (pc := 17) C 0 dX12_days_17 rfl rfl ?_
    refine gf_X12_285 (c := 0) (pc := 18) C km_0 dX12_days_18 ?_
    exact j_iretS (pc := 21) C rfl dX12_days_21 hm

def jn_X12_tried_44 (F : Nat) (x1 : Int32) (x2 : Int32) (σ : jS) : Option (Int32 × jS) := (Option.bind (mX12_copies F 1 2 σ) fun q5 => (Option.bind (mX12_daysGo F x1 q5) fun q6 => (if x2 = (0 : Int32) then (lt (q6 0 39) fun y7 => (Option.bind (mX12_copies F 2 1 q6) fun q8 => some (y7, q8))) else (if x2 = (1 : Int32) then (lt (q6 1 209) fun y9 => (Option.bind (mX12_copies F 2 1 q6) fun q10 => some (y9, q10))) else (if x2 = (2 : Int32) then (Option.bind (mX12_livingSet F q6) fun q11 => (Option.bind (mX12_copies F 2 1 q6) fun q12 => some (q11, q12))) else (if x2 < (200 : Int32) then (lt (((16 : Int32) + x2) - (100 : Int32)) fun y13 => (if jin y13 212 = true then (lt (q6 1 y13.toNatClampNeg) fun y15 => (Option.bind (mX12_copies F 2 1 q6) fun q16 => some (y15, q16))) else none)) else (lt (((184 : Int32) + x2) - (200 : Int32)) fun y17 => (if jin y17 212 = true then (lt (q6 1 y17.toNatClampNeg) fun y19 => (Option.bind (mX12_copies F 2 1 q6) fun q20 => some (y19, q20))) else none))))))))
set_option maxHeartbeats 4000000 in
set_option maxRecDepth 100000 in
theorem jn_X12_tried_44_ok {G : jG} (C : jc cfM 33 G cX12_tried RX12 4 (some .int) 7) (F : Nat) {v : (Int32 × jS)} : ∀ (x1 : Int32) (x2 : Int32) (σ : jS), jn_X12_tried_44 F x1 x2 σ = some v → JM G 44 [(0, .ref (vad (gV G) 0)), (1, .int x1), (2, .int x2)] [] σ v := by
  intro x1 x2 σ hm
  unfold jn_X12_tried_44 at hm
  refine j_aloadn (pc := 44) C 0 dX12_tried_44 rfl rfl ?_
  refine gf_X12_7 (c := 0) (pc := 45) C km_0 dX12_tried_45 ?_
  refine j_aloadn (pc := 48) C 0 dX12_tried_48 rfl rfl ?_
  refine gf_X12_13 (c := 0) (pc := 49) C km_0 dX12_tried_49 ?_
  obtain ⟨q5, hq5, hm⟩ := Option.bind_eq_some_iff.mp hm
  refine cl_X12_330 (pc := 52) C (kX12_copies km_1 lm_1 km_2 lm_2 hq5) (by decide) (Nat.le_of_ble_eq_true rfl) dX12_tried_52 ?_
  refine j_aloadn (pc := 55) C 0 dX12_tried_55 rfl rfl ?_
  refine j_iloadn (pc := 56) C 1 dX12_tried_56 rfl rfl ?_
  obtain ⟨q6, hq6, hm⟩ := Option.bind_eq_some_iff.mp hm
  refine cl_X12_324 (c := 0) (pc := 57) C km_0 (kX12_daysGo hq6) (by decide) (Nat.le_of_ble_eq_true rfl) dX12_tried_57 ?_
  refine j_iloadn (pc := 60) C 2 dX12_tried_60 rfl rfl ?_
  refine j_sw (b := 0) hm (fun hs hm => ?_) (fun hs0 hm => ?_)
  · refine j_swIn (tgt := 88) (b := 0) (pc := 61) C dX12_tried_61 hs (by decide) (by decide) rfl (by decide) ?_
    refine j_aloadn (pc := 88) C 0 dX12_tried_88 rfl rfl ?_
    refine gf_X12_285 (c := 0) (pc := 89) C km_0 dX12_tried_89 ?_
    refine j_lti hm (fun y7 hm => ?_)
    refine j_istoren (ls' := [(3, .int y7), (0, .ref (vad (gV G) 0)), (1, .int x1), (2, .int x2)]) (pc := 92) C dX12_tried_92 rfl (by decide) rfl ?_
    refine j_goto (tgt := 153) (pc := 93) C dX12_tried_93 (by decide) ?_
    refine j_aloadn (pc := 153) C 1 dX12_tried_153 rfl rfl ?_
    refine gf_X12_13 (c := 0) (pc := 154) C km_0 dX12_tried_154 ?_
    refine j_aloadn (pc := 157) C 1 dX12_tried_157 rfl rfl ?_
    refine gf_X12_7 (c := 0) (pc := 158) C km_0 dX12_tried_158 ?_
    obtain ⟨q8, hq8, hm⟩ := Option.bind_eq_some_iff.mp hm
    refine cl_X12_330 (pc := 161) C (kX12_copies km_2 lm_2 km_1 lm_1 hq8) (by decide) (Nat.le_of_ble_eq_true rfl) dX12_tried_161 ?_
    refine j_iloadn (pc := 164) C 0 dX12_tried_164 rfl rfl ?_
    exact j_iretS (pc := 165) C rfl dX12_tried_165 hm
  · refine j_sw (b := 1) hm (fun hs hm => ?_) (fun hs1 hm => ?_)
    · refine j_swIn (tgt := 96) (b := 1) (pc := 61) C dX12_tried_61 hs (by decide) (by decide) rfl (by decide) ?_
      refine j_aloadn (pc := 96) C 0 dX12_tried_96 rfl rfl ?_
      refine gf_X12_7 (c := 0) (pc := 97) C km_0 dX12_tried_97 ?_
      refine j_sipush (v := 209) (pc := 100) C dX12_tried_100 (by decide) ?_
      refine j_ialdK (c := 1) (n := 212) (k := 209) (pc := 103) C (kM_lt km_1 (by decide)) (cm_a km_1 lm_1 _) rfl (by decide) dX12_tried_103 ?_
      refine j_lti hm (fun y9 hm => ?_)
      refine j_istoren (ls' := [(3, .int y9), (0, .ref (vad (gV G) 0)), (1, .int x1), (2, .int x2)]) (pc := 104) C dX12_tried_104 rfl (by decide) rfl ?_
      refine j_goto (tgt := 153) (pc := 105) C dX12_tried_105 (by decide) ?_
      refine j_aloadn (pc := 153) C 1 dX12_tried_153 rfl rfl ?_
      refine gf_X12_13 (c := 0) (pc := 154) C km_0 dX12_tried_154 ?_
      refine j_aloadn (pc := 157) C 1 dX12_tried_157 rfl rfl ?_
      refine gf_X12_7 (c := 0) (pc := 158) C km_0 dX12_tried_158 ?_
      obtain ⟨q10, hq10, hm⟩ := Option.bind_eq_some_iff.mp hm
      refine cl_X12_330 (pc := 161) C (kX12_copies km_2 lm_2 km_1 lm_1 hq10) (by decide) (Nat.le_of_ble_eq_true rfl) dX12_tried_161 ?_
      refine j_iloadn (pc := 164) C 0 dX12_tried_164 rfl rfl ?_
      exact j_iretS (pc := 165) C rfl dX12_tried_165 hm
    · refine j_sw (b := 2) hm (fun hs hm => ?_) (fun hs2 hm => ?_)
      · refine j_swIn (tgt := 108) (b := 2) (pc := 61) C dX12_tried_61 hs (by decide) (by decide) rfl (by decide) ?_
        refine j_aloadn (pc := 108) C 0 dX12_tried_108 rfl rfl ?_
        obtain ⟨q11, hq11, hm⟩ := Option.bind_eq_some_iff.mp hm
        refine cl_X12_334 (c := 0) (pc := 109) C km_0 (kX12_livingSet hq11) (by decide) (Nat.le_of_ble_eq_true rfl) dX12_tried_109 ?_
        refine j_istoren (ls' := [(3, .int q11), (0, .ref (vad (gV G) 0)), (1, .int x1), (2, .int x2)]) (pc := 112) C dX12_tried_112 rfl (by decide) rfl ?_
        refine j_goto (tgt := 153) (pc := 113) C dX12_tried_113 (by decide) ?_
        refine j_aloadn (pc := 153) C 1 dX12_tried_153 rfl rfl ?_
        refine gf_X12_13 (c := 0) (pc := 154) C km_0 dX12_tried_154 ?_
        refine j_aloadn (pc := 157) C 1 dX12_tried_157 rfl rfl ?_
        refine gf_X12_7 (c := 0) (pc := 158) C km_0 dX12_tried_158 ?_
        obtain ⟨q12, hq12, hm⟩ := Option.bind_eq_some_iff.mp hm
        refine cl_X12_330 (pc := 161) C (kX12_copies km_2 lm_2 km_1 lm_1 hq12) (by decide) (Nat.le_of_ble_eq_true rfl) dX12_tried_161 ?_
        refine j_iloadn (pc := 164) C 0 dX12_tried_164 rfl rfl ?_
        exact j_iretS (pc := 165) C rfl dX12_tried_165 hm
      · refine j_swOut (tgt := 116) (pc := 61) C dX12_tried_61 (by have hx := jsw_out (lo := 0) (n := 3) (by decide) (by decide) (fun i hi => by rcases i with _ | _ | _ | i <;> first | assumption | (exact absurd hi (by omega))); exact hx) (by decide) ?_
        refine j_iloadn (pc := 116) C 2 dX12_tried_116 rfl rfl ?_
        refine j_sipush (v := 200) (pc := 117) C dX12_tried_117 (by decide) ?_
        refine j_icmp_ge (tgt := 138) (pc := 120) C dX12_tried_120 (by decide) hm (fun _ hm => ?_) (fun _ hm => ?_)
        · refine j_aloadn (pc := 123) C 0 dX12_tried_123 rfl rfl ?_
          refine gf_X12_7 (c := 0) (pc := 124) C km_0 dX12_tried_124 ?_
          refine j_bipush (v := 16) (pc := 127) C dX12_tried_127 (by decide) ?_
          refine j_iloadn (pc := 129) C 2 dX12_tried_129 rfl rfl ?_
          refine j_iadd (pc := 130) C dX12_tried_130 ?_
          refine j_bipush (v := 100) (pc := 131) C dX12_tried_131 (by decide) ?_
          refine j_isub (pc := 133) C dX12_tried_133 ?_
          refine j_lti hm (fun y13 hm => ?_)
          refine j_guard hm (fun hg14 hm => ?_)
          refine j_iald (c := 1) (n := 212) (pc := 134) C (kM_lt km_1 (by decide)) (cm_a km_1 lm_1 _) hg14 dX12_tried_134 ?_
          refine j_goto (tgt := 152) (pc := 135) C dX12_tried_135 (by decide) ?_
          refine j_lti hm (fun y15 hm => ?_)
          refine j_istoren (ls' := [(3, .int y15), (0, .ref (vad (gV G) 0)), (1, .int x1), (2, .int x2)]) (pc := 152) C dX12_tried_152 rfl (by decide) rfl ?_
          refine j_aloadn (pc := 153) C 1 dX12_tried_153 rfl rfl ?_
          refine gf_X12_13 (c := 0) (pc := 154) C km_0 dX12_tried_154 ?_
          refine j_aloadn (pc := 157) C 1 dX12_tried_157 rfl rfl ?_
          refine gf_X12_7 (c := 0) (pc := 158) C km_0 dX12_tried_158 ?_
          obtain ⟨q16, hq16, hm⟩ := Option.bind_eq_some_iff.mp hm
          refine cl_X12_330 (pc := 161) C (kX12_copies km_2 lm_2 km_1 lm_1 hq16) (by decide) (Nat.le_of_ble_eq_true rfl) dX12_tried_161 ?_
          refine j_iloadn (pc := 164) C 0 dX12_tried_164 rfl rfl ?_
          exact j_iretS (pc := 165) C rfl dX12_tried_165 hm
        · refine j_aloadn (pc := 138) C 0 dX12_tried_138 rfl rfl ?_
          refine gf_X12_7 (c := 0) (pc := 139) C km_0 dX12_tried_139 ?_
          refine j_sipush (v := 184) (pc := 142) C dX12_tried_142 (by decide) ?_
          refine j_iloadn (pc := 145) C 2 dX12_tried_145 rfl rfl ?_
          refine j_iadd (pc := 146) C dX12_tried_146 ?_
          refine j_sipush (v := 200) (pc := 147) C dX12_tried_147 (by decide) ?_
          refine j_isub (pc := 150) C dX12_tried_150 ?_
          refine j_lti hm (fun y17 hm => ?_)
          refine j_guard hm (fun hg18 hm => ?_)
          refine j_iald (c := 1) (n := 212) (pc := 151) C (kM_lt km_1 (by decide)) (cm_a km_1 lm_1 _) hg18 dX12_tried_151 ?_
          refine j_lti hm (fun y19 hm => ?_)
          refine j_istoren (ls' := [(3, .int y19), (0, .ref (vad (gV G) 0)), (1, .int x1), (2, .int x2)]) (pc := 152) C dX12_tried_152 rfl (by decide) rfl ?_
          refine j_aloadn (pc := 153) C 1 dX12_tried_153 rfl rfl ?_
          refine gf_X12_13 (c := 0) (pc := 154) C km_0 dX12_tried_154 ?_
          refine j_aloadn (pc := 157) C 1 dX12_tried_157 rfl rfl ?_
          refine gf_X12_7 (c := 0) (pc := 158) C km_0 dX12_tried_158 ?_
          obtain ⟨q20, hq20, hm⟩ := Option.bind_eq_some_iff.mp hm
          refine cl_X12_330 (pc := 161) C (kX12_copies km_2 lm_2 km_1 lm_1 hq20) (by decide) (Nat.le_of_ble_eq_true rfl) dX12_tried_161 ?_
          refine j_iloadn (pc := 164) C 0 dX12_tried_164 rfl rfl ?_
          exact j_iretS (pc := 165) C rfl dX12_tried_165 hm

def mX12_tried (F : Nat) (x1 : Int32) (x2 : Int32) (σ : jS) : Option (Int32 × jS) := (Option.bind (mX12_in F x1 (1 : Int32) (60 : Int32) σ) fun q1 => (if q1 = 0 then some ((-1 : Int32), σ) else (Option.bind (mX12_in F x2 (0 : Int32) (2 : Int32) σ) fun q2 => (if q2 = 0 then (Option.bind (mX12_isTold F ((x2 - (100 : Int32))) σ) fun q3 => (if q3 = 0 then (Option.bind (mX12_isLoan F ((x2 - (200 : Int32))) σ) fun q4 => (if q4 = 0 then some ((-1 : Int32), σ) else (jn_X12_tried_44 F x1 x2 σ))) else (jn_X12_tried_44 F x1 x2 σ))) else (jn_X12_tried_44 F x1 x2 σ)))))
set_option maxHeartbeats 4000000 in
set_option maxRecDepth 100000 in
theorem kX12_tried {V : jV} {F : Nat} {x1 : Int32} {x2 : Int32} {σ : jS} {v : (Int32 × jS)} (hm : mX12_tried F x1 x2 σ = some v) : Ct cfM 33 V yX12_tried cX12_tried 4 (some .int) 7 [.ref (vad V 0), .int x1, .int x2] σ v := by
  refine j_start (own := RX12) (by decide) rfl (Nat.le_of_ble_eq_true rfl) ?_
  intro G hV C
  subst hV
  unfold mX12_tried at hm
  show JM G 0 [(0, .ref (vad (gV G) 0)), (1, .int x1), (2, .int x2)] [] σ v
  refine j_iloadn (pc := 0) C 1 dX12_tried_0 rfl rfl ?_
  refine j_iconst (v := 1) (pc := 1) C dX12_tried_1 (by decide) ?_
  refine j_bipush (v := 60) (pc := 2) C dX12_tried_2 (by decide) ?_
  obtain ⟨q1, hq1, hm⟩ := Option.bind_eq_some_iff.mp hm
  refine cl_X12_107 (pc := 4) C (kX12_in hq1) (by decide) (Nat.le_of_ble_eq_true rfl) dX12_tried_4 ?_
  refine j_if_eq (tgt := 42) (pc := 7) C dX12_tried_7 (by decide) hm (fun _ hm => ?_) (fun _ hm => ?_)
  · refine j_iconst (v := -1) (pc := 42) C dX12_tried_42 (by decide) ?_
    exact j_iretS (pc := 43) C rfl dX12_tried_43 hm
  · refine j_iloadn (pc := 10) C 2 dX12_tried_10 rfl rfl ?_
    refine j_iconst (v := 0) (pc := 11) C dX12_tried_11 (by decide) ?_
    refine j_iconst (v := 2) (pc := 12) C dX12_tried_12 (by decide) ?_
    obtain ⟨q2, hq2, hm⟩ := Option.bind_eq_some_iff.mp hm
    refine cl_X12_107 (pc := 13) C (kX12_in hq2) (by decide) (Nat.le_of_ble_eq_true rfl) dX12_tried_13 ?_
    refine j_if_ne (tgt := 44) (pc := 16) C dX12_tried_16 (by decide) hm (fun _ hm => ?_) (fun _ hm => ?_)
    · refine j_aloadn (pc := 19) C 0 dX12_tried_19 rfl rfl ?_
      refine j_iloadn (pc := 20) C 2 dX12_tried_20 rfl rfl ?_
      refine j_bipush (v := 100) (pc := 21) C dX12_tried_21 (by decide) ?_
      refine j_isub (pc := 23) C dX12_tried_23 ?_
      obtain ⟨q3, hq3, hm⟩ := Option.bind_eq_some_iff.mp hm
      refine cl_X12_111 (c := 0) (pc := 24) C km_0 (kX12_isTold hq3) (by decide) (Nat.le_of_ble_eq_true rfl) dX12_tried_24 ?_
      refine j_if_ne (tgt := 44) (pc := 27) C dX12_tried_27 (by decide) hm (fun _ hm => ?_) (fun _ hm => ?_)
      · refine j_aloadn (pc := 30) C 0 dX12_tried_30 rfl rfl ?_
        refine j_iloadn (pc := 31) C 2 dX12_tried_31 rfl rfl ?_
        refine j_sipush (v := 200) (pc := 32) C dX12_tried_32 (by decide) ?_
        refine j_isub (pc := 35) C dX12_tried_35 ?_
        obtain ⟨q4, hq4, hm⟩ := Option.bind_eq_some_iff.mp hm
        refine cl_X12_327 (c := 0) (pc := 36) C km_0 (kX12_isLoan hq4) (by decide) (Nat.le_of_ble_eq_true rfl) dX12_tried_36 ?_
        refine j_if_ne (tgt := 44) (pc := 39) C dX12_tried_39 (by decide) hm (fun _ hm => ?_) (fun _ hm => ?_)
        · refine j_iconst (v := -1) (pc := 42) C dX12_tried_42 (by decide) ?_
          exact j_iretS (pc := 43) C rfl dX12_tried_43 hm
        · exact jn_X12_tried_44_ok C F  _ _ _ hm
      · exact jn_X12_tried_44_ok C F  _ _ _ hm
    · exact jn_X12_tried_44_ok C F  _ _ _ hm

def lp_X12_dies_33 (F : Nat) (k71 : Int32 → Int32 → jS → Option (Int32 × jS)) : Nat → Int32 → Int32 → Int32 → jS → Option (Int32 × jS)
  | 0, _, _, _, _ => none
  | n + 1, x1, x2, x3, σ => (Option.bind (mX12_isLiving F x1 σ) fun q4 => (if q4 = 0 then (k71 x1 x3 σ) else (if x3 < x2 then (if (σ 1 210) < (9999 : Int32) then (Option.bind (mX12_dayGoes F σ) fun q5 => (lt (x3 + (1 : Int32)) fun y6 => (lp_X12_dies_33 F k71 n x1 x2 y6 q5))) else (k71 x1 x3 σ)) else (k71 x1 x3 σ))))
set_option maxHeartbeats 4000000 in
set_option maxRecDepth 100000 in
theorem lp_X12_dies_33_ok {G : jG} (C : jc cfM 33 G cX12_dies RX12 5 (some .int) 6) (F : Nat) {v : (Int32 × jS)} (k71 : Int32 → Int32 → jS → Option (Int32 × jS)) (hk71 : ∀ (x1 : Int32) (x3 : Int32) (σ : jS), k71 x1 x3 σ = some v → JM G 71 [(0, .ref (vad (gV G) 0)), (1, .int x1), (3, .int x3)] [] σ v) : ∀ (n : Nat) (x1 : Int32) (x2 : Int32) (x3 : Int32) (σ : jS), lp_X12_dies_33 F k71 n x1 x2 x3 σ = some v → JM G 33 [(0, .ref (vad (gV G) 0)), (1, .int x1), (2, .int x2), (3, .int x3)] [] σ v := by
  intro n
  induction n with
  | zero =>
    intro x1 x2 x3 σ hm
    rw [lp_X12_dies_33] at hm
    cases hm
  | succ n ih =>
    intro x1 x2 x3 σ hm
    rw [lp_X12_dies_33] at hm
    refine j_aloadn (pc := 33) C 0 dX12_dies_33 rfl rfl ?_
    refine j_iloadn (pc := 34) C 1 dX12_dies_34 rfl rfl ?_
    obtain ⟨q4, hq4, hm⟩ := Option.bind_eq_some_iff.mp hm
    refine cl_X12_115 (c := 0) (pc := 35) C km_0 (kX12_isLiving hq4) (by decide) (Nat.le_of_ble_eq_true rfl) dX12_dies_35 ?_
    refine j_if_eq (tgt := 71) (pc := 38) C dX12_dies_38 (by decide) hm (fun _ hm => ?_) (fun _ hm => ?_)
    · refine j_ls [0, 1, 3] rfl ?_
      exact hk71 _ _ _ hm
    · refine j_iloadn (pc := 41) C 3 dX12_dies_41 rfl rfl ?_
      refine j_iloadn (pc := 42) C 2 dX12_dies_42 rfl rfl ?_
      refine j_icmp_ge (tgt := 71) (pc := 43) C dX12_dies_43 (by decide) hm (fun _ hm => ?_) (fun _ hm => ?_)
      · refine j_aloadn (pc := 46) C 0 dX12_dies_46 rfl rfl ?_
        refine gf_X12_7 (c := 0) (pc := 47) C km_0 dX12_dies_47 ?_
        refine j_sipush (v := 210) (pc := 50) C dX12_dies_50 (by decide) ?_
        refine j_ialdK (c := 1) (n := 212) (k := 210) (pc := 53) C (kM_lt km_1 (by decide)) (cm_a km_1 lm_1 _) rfl (by decide) dX12_dies_53 ?_
        refine j_sipush (v := 9999) (pc := 54) C dX12_dies_54 (by decide) ?_
        refine j_icmp_ge (tgt := 71) (pc := 57) C dX12_dies_57 (by decide) hm (fun _ hm => ?_) (fun _ hm => ?_)
        · refine j_aloadn (pc := 60) C 0 dX12_dies_60 rfl rfl ?_
          obtain ⟨q5, hq5, hm⟩ := Option.bind_eq_some_iff.mp hm
          refine cl_X12_321 (c := 0) (pc := 61) C km_0 (kX12_dayGoes hq5) (by decide) (Nat.le_of_ble_eq_true rfl) dX12_dies_61 ?_
          refine j_iloadn (pc := 64) C 3 dX12_dies_64 rfl rfl ?_
          refine j_iconst (v := 1) (pc := 65) C dX12_dies_65 (by decide) ?_
          refine j_iadd (pc := 66) C dX12_dies_66 ?_
          refine j_lti hm (fun y6 hm => ?_)
          refine j_istoren (ls' := [(3, .int y6), (0, .ref (vad (gV G) 0)), (1, .int x1), (2, .int x2)]) (pc := 67) C dX12_dies_67 rfl (by decide) rfl ?_
          refine j_goto (tgt := 33) (pc := 68) C dX12_dies_68 (by decide) ?_
          refine j_ls [1, 2, 3, 0] rfl ?_
          exact ih _ _ _ _ hm
        · refine j_ls [0, 1, 3] rfl ?_
          exact hk71 _ _ _ hm
      · refine j_ls [0, 1, 3] rfl ?_
        exact hk71 _ _ _ hm

def jn_X12_dies_84 (F : Nat) (x3 : Int32) (s0 : Int32) (σ : jS) : Option (Int32 × jS) := (Option.bind (mX12_copies F 2 1 σ) fun q9 => (if s0 = 0 then some ((-2 : Int32), q9) else some (x3, q9)))
set_option maxHeartbeats 4000000 in
set_option maxRecDepth 100000 in
theorem jn_X12_dies_84_ok {G : jG} (C : jc cfM 33 G cX12_dies RX12 5 (some .int) 6) (F : Nat) {v : (Int32 × jS)} : ∀ (x3 : Int32) (s0 : Int32) (σ : jS), jn_X12_dies_84 F x3 s0 σ = some v → JM G 84 [(0, .ref (vad (gV G) 0)), (3, .int x3)] [.int s0] σ v := by
  intro x3 s0 σ hm
  unfold jn_X12_dies_84 at hm
  refine j_istore (ls' := [(4, .int s0), (0, .ref (vad (gV G) 0)), (3, .int x3)]) (pc := 84) C dX12_dies_84 (by decide) rfl ?_
  refine j_aloadn (pc := 86) C 1 dX12_dies_86 rfl rfl ?_
  refine gf_X12_13 (c := 0) (pc := 87) C km_0 dX12_dies_87 ?_
  refine j_aloadn (pc := 90) C 1 dX12_dies_90 rfl rfl ?_
  refine gf_X12_7 (c := 0) (pc := 91) C km_0 dX12_dies_91 ?_
  obtain ⟨q9, hq9, hm⟩ := Option.bind_eq_some_iff.mp hm
  refine cl_X12_330 (pc := 94) C (kX12_copies km_2 lm_2 km_1 lm_1 hq9) (by decide) (Nat.le_of_ble_eq_true rfl) dX12_dies_94 ?_
  refine j_iload (pc := 97) C 0 dX12_dies_97 rfl ?_
  refine j_if_eq (tgt := 106) (pc := 99) C dX12_dies_99 (by decide) hm (fun _ hm => ?_) (fun _ hm => ?_)
  · refine j_bipush (v := -2) (pc := 106) C dX12_dies_106 (by decide) ?_
    exact j_iretS (pc := 108) C rfl dX12_dies_108 hm
  · refine j_iloadn (pc := 102) C 2 dX12_dies_102 rfl rfl ?_
    refine j_goto (tgt := 108) (pc := 103) C dX12_dies_103 (by decide) ?_
    exact j_iretS (pc := 108) C rfl dX12_dies_108 hm

def jn_X12_dies_71 (F : Nat) (x1 : Int32) (x3 : Int32) (σ : jS) : Option (Int32 × jS) := (Option.bind (mX12_isLiving F x1 σ) fun q8 => (if q8 = 0 then (jn_X12_dies_84 F x3 (1 : Int32) σ) else (jn_X12_dies_84 F x3 (0 : Int32) σ)))
set_option maxHeartbeats 4000000 in
set_option maxRecDepth 100000 in
theorem jn_X12_dies_71_ok {G : jG} (C : jc cfM 33 G cX12_dies RX12 5 (some .int) 6) (F : Nat) {v : (Int32 × jS)} : ∀ (x1 : Int32) (x3 : Int32) (σ : jS), jn_X12_dies_71 F x1 x3 σ = some v → JM G 71 [(0, .ref (vad (gV G) 0)), (1, .int x1), (3, .int x3)] [] σ v := by
  intro x1 x3 σ hm
  unfold jn_X12_dies_71 at hm
  refine j_aloadn (pc := 71) C 0 dX12_dies_71 rfl rfl ?_
  refine j_iloadn (pc := 72) C 1 dX12_dies_72 rfl rfl ?_
  obtain ⟨q8, hq8, hm⟩ := Option.bind_eq_some_iff.mp hm
  refine cl_X12_115 (c := 0) (pc := 73) C km_0 (kX12_isLiving hq8) (by decide) (Nat.le_of_ble_eq_true rfl) dX12_dies_73 ?_
  refine j_if_ne (tgt := 83) (pc := 76) C dX12_dies_76 (by decide) hm (fun _ hm => ?_) (fun _ hm => ?_)
  · refine j_iconst (v := 1) (pc := 79) C dX12_dies_79 (by decide) ?_
    refine j_goto (tgt := 84) (pc := 80) C dX12_dies_80 (by decide) ?_
    refine j_ls [0, 2] rfl ?_
    exact jn_X12_dies_84_ok C F  _ _ _ hm
  · refine j_iconst (v := 0) (pc := 83) C dX12_dies_83 (by decide) ?_
    refine j_ls [0, 2] rfl ?_
    exact jn_X12_dies_84_ok C F  _ _ _ hm

def mX12_dies (F : Nat) (x1 : Int32) (x2 : Int32) (σ : jS) : Option (Int32 × jS) := (Option.bind (mX12_isTold F x1 σ) fun q1 => (if q1 = 0 then some ((-1 : Int32), σ) else (Option.bind (mX12_in F x2 (1 : Int32) (60 : Int32) σ) fun q2 => (if q2 = 0 then some ((-1 : Int32), σ) else (Option.bind (mX12_copies F 1 2 σ) fun q3 => (lp_X12_dies_33 F (fun x1_7 x3_7 σ7 => (jn_X12_dies_71 F x1_7 x3_7 σ7)) F x1 x2 (0 : Int32) q3))))))
set_option maxHeartbeats 4000000 in
set_option maxRecDepth 100000 in
theorem kX12_dies {V : jV} {F : Nat} {x1 : Int32} {x2 : Int32} {σ : jS} {v : (Int32 × jS)} (hm : mX12_dies F x1 x2 σ = some v) : Ct cfM 33 V yX12_dies cX12_dies 5 (some .int) 6 [.ref (vad V 0), .int x1, .int x2] σ v := by
  refine j_start (own := RX12) (by decide) rfl (Nat.le_of_ble_eq_true rfl) ?_
  intro G hV C
  subst hV
  unfold mX12_dies at hm
  show JM G 0 [(0, .ref (vad (gV G) 0)), (1, .int x1), (2, .int x2)] [] σ v
  refine j_aloadn (pc := 0) C 0 dX12_dies_0 rfl rfl ?_
  refine j_iloadn (pc := 1) C 1 dX12_dies_1 rfl rfl ?_
  obtain ⟨q1, hq1, hm⟩ := Option.bind_eq_some_iff.mp hm
  refine cl_X12_111 (c := 0) (pc := 2) C km_0 (kX12_isTold hq1) (by decide) (Nat.le_of_ble_eq_true rfl) dX12_dies_2 ?_
  refine j_if_eq (tgt := 18) (pc := 5) C dX12_dies_5 (by decide) hm (fun _ hm => ?_) (fun _ hm => ?_)
  · refine j_iconst (v := -1) (pc := 18) C dX12_dies_18 (by decide) ?_
    exact j_iretS (pc := 19) C rfl dX12_dies_19 hm
  · refine j_iloadn (pc := 8) C 2 dX12_dies_8 rfl rfl ?_
    refine j_iconst (v := 1) (pc := 9) C dX12_dies_9 (by decide) ?_
    refine j_bipush (v := 60) (pc := 10) C dX12_dies_10 (by decide) ?_
    obtain ⟨q2, hq2, hm⟩ := Option.bind_eq_some_iff.mp hm
    refine cl_X12_107 (pc := 12) C (kX12_in hq2) (by decide) (Nat.le_of_ble_eq_true rfl) dX12_dies_12 ?_
    refine j_if_ne (tgt := 20) (pc := 15) C dX12_dies_15 (by decide) hm (fun _ hm => ?_) (fun _ hm => ?_)
    · refine j_iconst (v := -1) (pc := 18) C dX12_dies_18 (by decide) ?_
      exact j_iretS (pc := 19) C rfl dX12_dies_19 hm
    · refine j_aloadn (pc := 20) C 0 dX12_dies_20 rfl rfl ?_
      refine gf_X12_7 (c := 0) (pc := 21) C km_0 dX12_dies_21 ?_
      refine j_aloadn (pc := 24) C 0 dX12_dies_24 rfl rfl ?_
      refine gf_X12_13 (c := 0) (pc := 25) C km_0 dX12_dies_25 ?_
      obtain ⟨q3, hq3, hm⟩ := Option.bind_eq_some_iff.mp hm
      refine cl_X12_330 (pc := 28) C (kX12_copies km_1 lm_1 km_2 lm_2 hq3) (by decide) (Nat.le_of_ble_eq_true rfl) dX12_dies_28 ?_
      refine j_iconst (v := 0) (pc := 31) C dX12_dies_31 (by decide) ?_
      refine j_istoren (ls' := [(3, .int (0 : Int32)), (0, .ref (vad (gV G) 0)), (1, .int x1), (2, .int x2)]) (pc := 32) C dX12_dies_32 rfl (by decide) rfl ?_
      refine j_ls [1, 2, 3, 0] rfl ?_
      refine lp_X12_dies_33_ok C F _ (fun x1_7 x3_7 σ7 hm => ?_) F _ _ _ _ hm
      exact jn_X12_dies_71_ok C F  _ _ _ hm

def jn_X12_netOf_42 (F : Nat) (σ : jS) (k4 : Int32 → Int32 → Int32 → Option Int32) (x1 : Int32) (x2 : Int32) (x3 : Int32) : Option Int32 := (lt ((88 : Int32) + x3) fun y6 => (if jin y6 212 = true then (if (σ 1 y6.toNatClampNeg) = x1 then (lt ((184 : Int32) + x3) fun y8 => (if jin y8 212 = true then (lt (x2 - (σ 1 y8.toNatClampNeg)) fun y10 => (k4 x1 y10 ((x3 + (1 : Int32))))) else none)) else (k4 x1 x2 ((x3 + (1 : Int32))))) else none))
set_option maxHeartbeats 4000000 in
set_option maxRecDepth 100000 in
theorem jn_X12_netOf_42_ok {G : jG} (C : jc cfM 33 G cX12_netOf RX12 4 (some .int) 0) (F : Nat) (σ : jS) {v : Int32} (k4 : Int32 → Int32 → Int32 → Option Int32) (hk4 : ∀ (x1 : Int32) (x2 : Int32) (x3 : Int32), k4 x1 x2 x3 = some v → JM G 4 [(0, .ref (vad (gV G) 0)), (1, .int x1), (2, .int x2), (3, .int x3)] [] σ (v, σ)) : ∀ (x1 : Int32) (x2 : Int32) (x3 : Int32), jn_X12_netOf_42 F σ k4 x1 x2 x3 = some v → JM G 42 [(0, .ref (vad (gV G) 0)), (1, .int x1), (2, .int x2), (3, .int x3)] [] σ (v, σ) := by
  intro x1 x2 x3 hm
  unfold jn_X12_netOf_42 at hm
  refine j_aloadn (pc := 42) C 0 dX12_netOf_42 rfl rfl ?_
  refine gf_X12_7 (c := 0) (pc := 43) C km_0 dX12_netOf_43 ?_
  refine j_bipush (v := 88) (pc := 46) C dX12_netOf_46 (by decide) ?_
  refine j_iloadn (pc := 48) C 3 dX12_netOf_48 rfl rfl ?_
  refine j_iadd (pc := 49) C dX12_netOf_49 ?_
  refine j_lti hm (fun y6 hm => ?_)
  refine j_guard hm (fun hg7 hm => ?_)
  refine j_iald (c := 1) (n := 212) (pc := 50) C (kM_lt km_1 (by decide)) (cm_a km_1 lm_1 _) hg7 dX12_netOf_50 ?_
  refine j_iloadn (pc := 51) C 1 dX12_netOf_51 rfl rfl ?_
  refine j_icmp_ne (tgt := 68) (pc := 52) C dX12_netOf_52 (by decide) hm (fun _ hm => ?_) (fun _ hm => ?_)
  · refine j_iloadn (pc := 55) C 2 dX12_netOf_55 rfl rfl ?_
    refine j_aloadn (pc := 56) C 0 dX12_netOf_56 rfl rfl ?_
    refine gf_X12_7 (c := 0) (pc := 57) C km_0 dX12_netOf_57 ?_
    refine j_sipush (v := 184) (pc := 60) C dX12_netOf_60 (by decide) ?_
    refine j_iloadn (pc := 63) C 3 dX12_netOf_63 rfl rfl ?_
    refine j_iadd (pc := 64) C dX12_netOf_64 ?_
    refine j_lti hm (fun y8 hm => ?_)
    refine j_guard hm (fun hg9 hm => ?_)
    refine j_iald (c := 1) (n := 212) (pc := 65) C (kM_lt km_1 (by decide)) (cm_a km_1 lm_1 _) hg9 dX12_netOf_65 ?_
    refine j_isub (pc := 66) C dX12_netOf_66 ?_
    refine j_lti hm (fun y10 hm => ?_)
    refine j_istoren (ls' := [(2, .int y10), (0, .ref (vad (gV G) 0)), (1, .int x1), (3, .int x3)]) (pc := 67) C dX12_netOf_67 rfl (by decide) rfl ?_
    refine j_iinc (v := (x3 + (1 : Int32))) (ls' := [(3, .int (x3 + (1 : Int32))), (2, .int y10), (0, .ref (vad (gV G) 0)), (1, .int x1)]) (pc := 68) C 3 dX12_netOf_68 rfl rfl (by decide) rfl ?_
    refine j_goto (tgt := 4) (pc := 71) C dX12_netOf_71 (by decide) ?_
    refine j_ls [2, 3, 1, 0] rfl ?_
    exact hk4 _ _ _ hm
  · refine j_iinc (v := (x3 + (1 : Int32))) (ls' := [(3, .int (x3 + (1 : Int32))), (0, .ref (vad (gV G) 0)), (1, .int x1), (2, .int x2)]) (pc := 68) C 3 dX12_netOf_68 rfl rfl (by decide) rfl ?_
    refine j_goto (tgt := 4) (pc := 71) C dX12_netOf_71 (by decide) ?_
    refine j_ls [1, 2, 3, 0] rfl ?_
    exact hk4 _ _ _ hm

def lp_X12_netOf_4 (F : Nat) (σ : jS) : Nat → Int32 → Int32 → Int32 → Option Int32
  | 0, _, _, _ => none
  | n + 1, x1, x2, x3 => (if x3 < (σ 1 208) then (lt ((64 : Int32) + x3) fun y1 => (if jin y1 212 = true then (if (σ 1 y1.toNatClampNeg) = x1 then (lt ((184 : Int32) + x3) fun y3 => (if jin y3 212 = true then (lt (x2 + (σ 1 y3.toNatClampNeg)) fun y5 => (jn_X12_netOf_42 F σ (lp_X12_netOf_4 F σ n) x1 y5 x3)) else none)) else (jn_X12_netOf_42 F σ (lp_X12_netOf_4 F σ n) x1 x2 x3)) else none)) else some x2)
set_option maxHeartbeats 4000000 in
set_option maxRecDepth 100000 in
theorem lp_X12_netOf_4_ok {G : jG} (C : jc cfM 33 G cX12_netOf RX12 4 (some .int) 0) (F : Nat) (σ : jS) {v : Int32} : ∀ (n : Nat) (x1 : Int32) (x2 : Int32) (x3 : Int32), lp_X12_netOf_4 F σ n x1 x2 x3 = some v → JM G 4 [(0, .ref (vad (gV G) 0)), (1, .int x1), (2, .int x2), (3, .int x3)] [] σ (v, σ) := by
  intro n
  induction n with
  | zero =>
    intro x1 x2 x3 hm
    rw [lp_X12_netOf_4] at hm
    cases hm
  | succ n ih =>
    intro x1 x2 x3 hm
    rw [lp_X12_netOf_4] at hm
    refine j_iloadn (pc := 4) C 3 dX12_netOf_4 rfl rfl ?_
    refine j_aloadn (pc := 5) C 0 dX12_netOf_5 rfl rfl ?_
    refine gf_X12_7 (c := 0) (pc := 6) C km_0 dX12_netOf_6 ?_
    refine j_sipush (v := 208) (pc := 9) C dX12_netOf_9 (by decide) ?_
    refine j_ialdK (c := 1) (n := 212) (k := 208) (pc := 12) C (kM_lt km_1 (by decide)) (cm_a km_1 lm_1 _) rfl (by decide) dX12_netOf_12 ?_
    refine j_icmp_ge (tgt := 74) (pc := 13) C dX12_netOf_13 (by decide) hm (fun _ hm => ?_) (fun _ hm => ?_)
    · refine j_aloadn (pc := 16) C 0 dX12_netOf_16 rfl rfl ?_
      refine gf_X12_7 (c := 0) (pc := 17) C km_0 dX12_netOf_17 ?_
      refine j_bipush (v := 64) (pc := 20) C dX12_netOf_20 (by decide) ?_
      refine j_iloadn (pc := 22) C 3 dX12_netOf_22 rfl rfl ?_
      refine j_iadd (pc := 23) C dX12_netOf_23 ?_
      refine j_lti hm (fun y1 hm => ?_)
      refine j_guard hm (fun hg2 hm => ?_)
      refine j_iald (c := 1) (n := 212) (pc := 24) C (kM_lt km_1 (by decide)) (cm_a km_1 lm_1 _) hg2 dX12_netOf_24 ?_
      refine j_iloadn (pc := 25) C 1 dX12_netOf_25 rfl rfl ?_
      refine j_icmp_ne (tgt := 42) (pc := 26) C dX12_netOf_26 (by decide) hm (fun _ hm => ?_) (fun _ hm => ?_)
      · refine j_iloadn (pc := 29) C 2 dX12_netOf_29 rfl rfl ?_
        refine j_aloadn (pc := 30) C 0 dX12_netOf_30 rfl rfl ?_
        refine gf_X12_7 (c := 0) (pc := 31) C km_0 dX12_netOf_31 ?_
        refine j_sipush (v := 184) (pc := 34) C dX12_netOf_34 (by decide) ?_
        refine j_iloadn (pc := 37) C 3 dX12_netOf_37 rfl rfl ?_
        refine j_iadd (pc := 38) C dX12_netOf_38 ?_
        refine j_lti hm (fun y3 hm => ?_)
        refine j_guard hm (fun hg4 hm => ?_)
        refine j_iald (c := 1) (n := 212) (pc := 39) C (kM_lt km_1 (by decide)) (cm_a km_1 lm_1 _) hg4 dX12_netOf_39 ?_
        refine j_iadd (pc := 40) C dX12_netOf_40 ?_
        refine j_lti hm (fun y5 hm => ?_)
        refine j_istoren (ls' := [(2, .int y5), (0, .ref (vad (gV G) 0)), (1, .int x1), (3, .int x3)]) (pc := 41) C dX12_netOf_41 rfl (by decide) rfl ?_
        refine j_ls [1, 2, 0, 3] rfl ?_
        exact jn_X12_netOf_42_ok C F σ _ (fun _ _ _ hm => ih _ _ _ hm) _ _ _ hm
      · exact jn_X12_netOf_42_ok C F σ _ (fun _ _ _ hm => ih _ _ _ hm) _ _ _ hm
    · refine j_iloadn (pc := 74) C 2 dX12_netOf_74 rfl rfl ?_
      exact j_iret (pc := 75) C rfl dX12_netOf_75 hm

def mX12_netOf (F : Nat) (x1 : Int32) (σ : jS) : Option Int32 := (lp_X12_netOf_4 F σ F x1 (0 : Int32) (0 : Int32))
set_option maxHeartbeats 4000000 in
set_option maxRecDepth 100000 in
theorem kX12_netOf {V : jV} {F : Nat} {x1 : Int32} {σ : jS} {v : Int32} (hm : mX12_netOf F x1 σ = some v) : Ct cfM 33 V yX12_netOf cX12_netOf 4 (some .int) 0 [.ref (vad V 0), .int x1] σ (v, σ) := by
  refine j_start (own := RX12) (by decide) rfl (Nat.le_of_ble_eq_true rfl) ?_
  intro G hV C
  subst hV
  unfold mX12_netOf at hm
  show JM G 0 [(0, .ref (vad (gV G) 0)), (1, .int x1)] [] σ (v, σ)
  refine j_iconst (v := 0) (pc := 0) C dX12_netOf_0 (by decide) ?_
  refine j_istoren (ls' := [(2, .int (0 : Int32)), (0, .ref (vad (gV G) 0)), (1, .int x1)]) (pc := 1) C dX12_netOf_1 rfl (by decide) rfl ?_
  refine j_iconst (v := 0) (pc := 2) C dX12_netOf_2 (by decide) ?_
  refine j_istoren (ls' := [(3, .int (0 : Int32)), (2, .int (0 : Int32)), (0, .ref (vad (gV G) 0)), (1, .int x1)]) (pc := 3) C dX12_netOf_3 rfl (by decide) rfl ?_
  refine j_ls [2, 3, 1, 0] rfl ?_
  exact lp_X12_netOf_4_ok C F σ  F _ _ _ hm

def mX12_personIs (F : Nat) (x1 : Int32) (x2 : Int32) (σ : jS) : Option Int32 := (Option.bind (mX12_isTold F x1 σ) fun q1 => (if q1 = 0 then some (-1000000000 : Int32) else (if x2 = (0 : Int32) then (lt ((16 : Int32) + x1) fun y2 => (if jin y2 212 = true then some (σ 1 y2.toNatClampNeg) else none)) else (if x2 = (1 : Int32) then (lt ((32 : Int32) + x1) fun y4 => (if jin y4 212 = true then some (σ 1 y4.toNatClampNeg) else none)) else (if x2 = (2 : Int32) then (lt ((48 : Int32) + x1) fun y6 => (if jin y6 212 = true then some (σ 1 y6.toNatClampNeg) else none)) else (if x2 = (3 : Int32) then (if jin x1 16 = true then some (σ 5 x1.toNatClampNeg) else none) else (if x2 = (4 : Int32) then (Option.bind (mX12_netOf F x1 σ) fun q9 => some q9) else some (-1000000000 : Int32))))))))
set_option maxHeartbeats 4000000 in
set_option maxRecDepth 100000 in
theorem kX12_personIs {V : jV} {F : Nat} {x1 : Int32} {x2 : Int32} {σ : jS} {v : Int32} (hm : mX12_personIs F x1 x2 σ = some v) : Ct cfM 33 V yX12_personIs cX12_personIs 3 (some .int) 2 [.ref (vad V 0), .int x1, .int x2] σ (v, σ) := by
  refine j_start (own := RX12) (by decide) rfl (Nat.le_of_ble_eq_true rfl) ?_
  intro G hV C
  subst hV
  unfold mX12_personIs at hm
  show JM G 0 [(0, .ref (vad (gV G) 0)), (1, .int x1), (2, .int x2)] [] σ (v, σ)
  refine j_aloadn (pc := 0) C 0 dX12_personIs_0 rfl rfl ?_
  refine j_iloadn (pc := 1) C 1 dX12_personIs_1 rfl rfl ?_
  obtain ⟨q1, hq1, hm⟩ := Option.bind_eq_some_iff.mp hm
  refine cl_X12_111 (c := 0) (pc := 2) C km_0 (kX12_isTold hq1) (by decide) (Nat.le_of_ble_eq_true rfl) dX12_personIs_2 ?_
  refine j_if_ne (tgt := 12) (pc := 5) C dX12_personIs_5 (by decide) hm (fun _ hm => ?_) (fun _ hm => ?_)
  · refine j_ldcw (v := -1000000000) (pc := 8) C dX12_personIs_8 tw_7_10 ?_
    exact j_iret (pc := 11) C rfl dX12_personIs_11 hm
  · refine j_iloadn (pc := 12) C 2 dX12_personIs_12 rfl rfl ?_
    refine j_sw (b := 0) hm (fun hs hm => ?_) (fun hs0 hm => ?_)
    · refine j_swIn (tgt := 48) (b := 0) (pc := 13) C dX12_personIs_13 hs (by decide) (by decide) rfl (by decide) ?_
      refine j_aloadn (pc := 48) C 0 dX12_personIs_48 rfl rfl ?_
      refine gf_X12_7 (c := 0) (pc := 49) C km_0 dX12_personIs_49 ?_
      refine j_bipush (v := 16) (pc := 52) C dX12_personIs_52 (by decide) ?_
      refine j_iloadn (pc := 54) C 1 dX12_personIs_54 rfl rfl ?_
      refine j_iadd (pc := 55) C dX12_personIs_55 ?_
      refine j_lti hm (fun y2 hm => ?_)
      refine j_guard hm (fun hg3 hm => ?_)
      refine j_iald (c := 1) (n := 212) (pc := 56) C (kM_lt km_1 (by decide)) (cm_a km_1 lm_1 _) hg3 dX12_personIs_56 ?_
      exact j_iret (pc := 57) C rfl dX12_personIs_57 hm
    · refine j_sw (b := 1) hm (fun hs hm => ?_) (fun hs1 hm => ?_)
      · refine j_swIn (tgt := 58) (b := 1) (pc := 13) C dX12_personIs_13 hs (by decide) (by decide) rfl (by decide) ?_
        refine j_aloadn (pc := 58) C 0 dX12_personIs_58 rfl rfl ?_
        refine gf_X12_7 (c := 0) (pc := 59) C km_0 dX12_personIs_59 ?_
        refine j_bipush (v := 32) (pc := 62) C dX12_personIs_62 (by decide) ?_
        refine j_iloadn (pc := 64) C 1 dX12_personIs_64 rfl rfl ?_
        refine j_iadd (pc := 65) C dX12_personIs_65 ?_
        refine j_lti hm (fun y4 hm => ?_)
        refine j_guard hm (fun hg5 hm => ?_)
        refine j_iald (c := 1) (n := 212) (pc := 66) C (kM_lt km_1 (by decide)) (cm_a km_1 lm_1 _) hg5 dX12_personIs_66 ?_
        exact j_iret (pc := 67) C rfl dX12_personIs_67 hm
      · refine j_sw (b := 2) hm (fun hs hm => ?_) (fun hs2 hm => ?_)
        · refine j_swIn (tgt := 68) (b := 2) (pc := 13) C dX12_personIs_13 hs (by decide) (by decide) rfl (by decide) ?_
          refine j_aloadn (pc := 68) C 0 dX12_personIs_68 rfl rfl ?_
          refine gf_X12_7 (c := 0) (pc := 69) C km_0 dX12_personIs_69 ?_
          refine j_bipush (v := 48) (pc := 72) C dX12_personIs_72 (by decide) ?_
          refine j_iloadn (pc := 74) C 1 dX12_personIs_74 rfl rfl ?_
          refine j_iadd (pc := 75) C dX12_personIs_75 ?_
          refine j_lti hm (fun y6 hm => ?_)
          refine j_guard hm (fun hg7 hm => ?_)
          refine j_iald (c := 1) (n := 212) (pc := 76) C (kM_lt km_1 (by decide)) (cm_a km_1 lm_1 _) hg7 dX12_personIs_76 ?_
          exact j_iret (pc := 77) C rfl dX12_personIs_77 hm
        · refine j_sw (b := 3) hm (fun hs hm => ?_) (fun hs3 hm => ?_)
          · refine j_swIn (tgt := 78) (b := 3) (pc := 13) C dX12_personIs_13 hs (by decide) (by decide) rfl (by decide) ?_
            refine j_aloadn (pc := 78) C 0 dX12_personIs_78 rfl rfl ?_
            refine gf_X12_22 (c := 0) (pc := 79) C km_0 dX12_personIs_79 ?_
            refine j_iloadn (pc := 82) C 1 dX12_personIs_82 rfl rfl ?_
            refine j_guard hm (fun hg8 hm => ?_)
            refine j_iald (c := 5) (n := 16) (pc := 83) C (kM_lt km_5 (by decide)) (cm_a km_5 lm_5 _) hg8 dX12_personIs_83 ?_
            exact j_iret (pc := 84) C rfl dX12_personIs_84 hm
          · refine j_sw (b := 4) hm (fun hs hm => ?_) (fun hs4 hm => ?_)
            · refine j_swIn (tgt := 85) (b := 4) (pc := 13) C dX12_personIs_13 hs (by decide) (by decide) rfl (by decide) ?_
              refine j_aloadn (pc := 85) C 0 dX12_personIs_85 rfl rfl ?_
              refine j_iloadn (pc := 86) C 1 dX12_personIs_86 rfl rfl ?_
              obtain ⟨q9, hq9, hm⟩ := Option.bind_eq_some_iff.mp hm
              refine cl_X12_338 (c := 0) (pc := 87) C km_0 (kX12_netOf hq9) (by decide) (Nat.le_of_ble_eq_true rfl) dX12_personIs_87 ?_
              exact j_iret (pc := 90) C rfl dX12_personIs_90 hm
            · refine j_swOut (tgt := 91) (pc := 13) C dX12_personIs_13 (by have hx := jsw_out (lo := 0) (n := 5) (by decide) (by decide) (fun i hi => by rcases i with _ | _ | _ | _ | _ | i <;> first | assumption | (exact absurd hi (by omega))); exact hx) (by decide) ?_
              refine j_ldcw (v := -1000000000) (pc := 91) C dX12_personIs_91 tw_7_10 ?_
              exact j_iret (pc := 94) C rfl dX12_personIs_94 hm

def mX12_loanIs (F : Nat) (x1 : Int32) (x2 : Int32) (σ : jS) : Option Int32 := (Option.bind (mX12_isLoan F x1 σ) fun q1 => (if q1 = 0 then some (-1 : Int32) else (Option.bind (mX12_in F x2 (0 : Int32) (5 : Int32) σ) fun q2 => (if q2 = 0 then some (-1 : Int32) else (lt (((64 : Int32) + ((24 : Int32) * x2)) + x1) fun y3 => (if jin y3 212 = true then some (σ 1 y3.toNatClampNeg) else none))))))
set_option maxHeartbeats 4000000 in
set_option maxRecDepth 100000 in
theorem kX12_loanIs {V : jV} {F : Nat} {x1 : Int32} {x2 : Int32} {σ : jS} {v : Int32} (hm : mX12_loanIs F x1 x2 σ = some v) : Ct cfM 33 V yX12_loanIs cX12_loanIs 3 (some .int) 2 [.ref (vad V 0), .int x1, .int x2] σ (v, σ) := by
  refine j_start (own := RX12) (by decide) rfl (Nat.le_of_ble_eq_true rfl) ?_
  intro G hV C
  subst hV
  unfold mX12_loanIs at hm
  show JM G 0 [(0, .ref (vad (gV G) 0)), (1, .int x1), (2, .int x2)] [] σ (v, σ)
  refine j_aloadn (pc := 0) C 0 dX12_loanIs_0 rfl rfl ?_
  refine j_iloadn (pc := 1) C 1 dX12_loanIs_1 rfl rfl ?_
  obtain ⟨q1, hq1, hm⟩ := Option.bind_eq_some_iff.mp hm
  refine cl_X12_327 (c := 0) (pc := 2) C km_0 (kX12_isLoan hq1) (by decide) (Nat.le_of_ble_eq_true rfl) dX12_loanIs_2 ?_
  refine j_if_eq (tgt := 34) (pc := 5) C dX12_loanIs_5 (by decide) hm (fun _ hm => ?_) (fun _ hm => ?_)
  · refine j_iconst (v := -1) (pc := 34) C dX12_loanIs_34 (by decide) ?_
    exact j_iret (pc := 35) C rfl dX12_loanIs_35 hm
  · refine j_iloadn (pc := 8) C 2 dX12_loanIs_8 rfl rfl ?_
    refine j_iconst (v := 0) (pc := 9) C dX12_loanIs_9 (by decide) ?_
    refine j_iconst (v := 5) (pc := 10) C dX12_loanIs_10 (by decide) ?_
    obtain ⟨q2, hq2, hm⟩ := Option.bind_eq_some_iff.mp hm
    refine cl_X12_107 (pc := 11) C (kX12_in hq2) (by decide) (Nat.le_of_ble_eq_true rfl) dX12_loanIs_11 ?_
    refine j_if_eq (tgt := 34) (pc := 14) C dX12_loanIs_14 (by decide) hm (fun _ hm => ?_) (fun _ hm => ?_)
    · refine j_iconst (v := -1) (pc := 34) C dX12_loanIs_34 (by decide) ?_
      exact j_iret (pc := 35) C rfl dX12_loanIs_35 hm
    · refine j_aloadn (pc := 17) C 0 dX12_loanIs_17 rfl rfl ?_
      refine gf_X12_7 (c := 0) (pc := 18) C km_0 dX12_loanIs_18 ?_
      refine j_bipush (v := 64) (pc := 21) C dX12_loanIs_21 (by decide) ?_
      refine j_bipush (v := 24) (pc := 23) C dX12_loanIs_23 (by decide) ?_
      refine j_iloadn (pc := 25) C 2 dX12_loanIs_25 rfl rfl ?_
      refine j_imul (pc := 26) C dX12_loanIs_26 ?_
      refine j_iadd (pc := 27) C dX12_loanIs_27 ?_
      refine j_iloadn (pc := 28) C 1 dX12_loanIs_28 rfl rfl ?_
      refine j_iadd (pc := 29) C dX12_loanIs_29 ?_
      refine j_lti hm (fun y3 hm => ?_)
      refine j_guard hm (fun hg4 hm => ?_)
      refine j_iald (c := 1) (n := 212) (pc := 30) C (kM_lt km_1 (by decide)) (cm_a km_1 lm_1 _) hg4 dX12_loanIs_30 ?_
      refine j_goto (tgt := 35) (pc := 31) C dX12_loanIs_31 (by decide) ?_
      exact j_iret (pc := 35) C rfl dX12_loanIs_35 hm

def mX12_costsIn (F : Nat) (x1 : Int32) (x2 : Int32) (σ : jS) : Option (Int32 × jS) := (Option.bind (mX12_feels F x1 x2 (0 : Int32) (0 : Int32) σ) fun q1 => (Option.bind (mX12_paceNow F q1) fun q2 => some (q2.1, q2.2)))
set_option maxHeartbeats 4000000 in
set_option maxRecDepth 100000 in
theorem kX12_costsIn {V : jV} {F : Nat} {x1 : Int32} {x2 : Int32} {σ : jS} {v : (Int32 × jS)} (hm : mX12_costsIn F x1 x2 σ = some v) : Ct cfM 33 V yX12_costsIn cX12_costsIn 3 (some .int) 4 [.ref (vad V 0), .int x1, .int x2] σ v := by
  refine j_start (own := RX12) (by decide) rfl (Nat.le_of_ble_eq_true rfl) ?_
  intro G hV C
  subst hV
  unfold mX12_costsIn at hm
  show JM G 0 [(0, .ref (vad (gV G) 0)), (1, .int x1), (2, .int x2)] [] σ v
  refine j_aloadn (pc := 0) C 0 dX12_costsIn_0 rfl rfl ?_
  refine j_iloadn (pc := 1) C 1 dX12_costsIn_1 rfl rfl ?_
  refine j_iloadn (pc := 2) C 2 dX12_costsIn_2 rfl rfl ?_
  refine j_iconst (v := 0) (pc := 3) C dX12_costsIn_3 (by decide) ?_
  refine j_iconst (v := 0) (pc := 4) C dX12_costsIn_4 (by decide) ?_
  obtain ⟨q1, hq1, hm⟩ := Option.bind_eq_some_iff.mp hm
  refine cl_X12_292 (c := 0) (pc := 5) C km_0 (kX12_feels hq1) (by decide) (Nat.le_of_ble_eq_true rfl) dX12_costsIn_5 ?_
  refine j_aloadn (pc := 8) C 0 dX12_costsIn_8 rfl rfl ?_
  obtain ⟨q2, hq2, hm⟩ := Option.bind_eq_some_iff.mp hm
  refine cl_X12_296 (c := 0) (pc := 9) C km_0 (kX12_paceNow hq2) (by decide) (Nat.le_of_ble_eq_true rfl) dX12_costsIn_9 ?_
  exact j_iretS (pc := 12) C rfl dX12_costsIn_12 hm

def lp_X12_costsOfDay_4 (F : Nat) : Nat → Int32 → Int32 → Int32 → jS → Option (Int32 × jS)
  | 0, _, _, _, _ => none
  | n + 1, x1, x2, x3, σ => (if x3 < (24 : Int32) then (Option.bind (mX12_costsIn F x1 x3 σ) fun q1 => (lt (x2 + q1.1) fun y2 => (lp_X12_costsOfDay_4 F n x1 y2 ((x3 + (1 : Int32))) q1.2))) else some (x2, σ))
set_option maxHeartbeats 4000000 in
set_option maxRecDepth 100000 in
theorem lp_X12_costsOfDay_4_ok {G : jG} (C : jc cfM 33 G cX12_costsOfDay RX12 4 (some .int) 5) (F : Nat) {v : (Int32 × jS)} : ∀ (n : Nat) (x1 : Int32) (x2 : Int32) (x3 : Int32) (σ : jS), lp_X12_costsOfDay_4 F n x1 x2 x3 σ = some v → JM G 4 [(0, .ref (vad (gV G) 0)), (1, .int x1), (2, .int x2), (3, .int x3)] [] σ v := by
  intro n
  induction n with
  | zero =>
    intro x1 x2 x3 σ hm
    rw [lp_X12_costsOfDay_4] at hm
    cases hm
  | succ n ih =>
    intro x1 x2 x3 σ hm
    rw [lp_X12_costsOfDay_4] at hm
    refine j_iloadn (pc := 4) C 3 dX12_costsOfDay_4 rfl rfl ?_
    refine j_bipush (v := 24) (pc := 5) C dX12_costsOfDay_5 (by decide) ?_
    refine j_icmp_ge (tgt := 25) (pc := 7) C dX12_costsOfDay_7 (by decide) hm (fun _ hm => ?_) (fun _ hm => ?_)
    · refine j_iloadn (pc := 10) C 2 dX12_costsOfDay_10 rfl rfl ?_
      refine j_aloadn (pc := 11) C 0 dX12_costsOfDay_11 rfl rfl ?_
      refine j_iloadn (pc := 12) C 1 dX12_costsOfDay_12 rfl rfl ?_
      refine j_iloadn (pc := 13) C 3 dX12_costsOfDay_13 rfl rfl ?_
      obtain ⟨q1, hq1, hm⟩ := Option.bind_eq_some_iff.mp hm
      refine cl_X12_341 (c := 0) (pc := 14) C km_0 (kX12_costsIn hq1) (by decide) (Nat.le_of_ble_eq_true rfl) dX12_costsOfDay_14 ?_
      refine j_iadd (pc := 17) C dX12_costsOfDay_17 ?_
      refine j_lti hm (fun y2 hm => ?_)
      refine j_istoren (ls' := [(2, .int y2), (0, .ref (vad (gV G) 0)), (1, .int x1), (3, .int x3)]) (pc := 18) C dX12_costsOfDay_18 rfl (by decide) rfl ?_
      refine j_iinc (v := (x3 + (1 : Int32))) (ls' := [(3, .int (x3 + (1 : Int32))), (2, .int y2), (0, .ref (vad (gV G) 0)), (1, .int x1)]) (pc := 19) C 3 dX12_costsOfDay_19 rfl rfl (by decide) rfl ?_
      refine j_goto (tgt := 4) (pc := 22) C dX12_costsOfDay_22 (by decide) ?_
      refine j_ls [2, 3, 1, 0] rfl ?_
      exact ih _ _ _ _ hm
    · refine j_iloadn (pc := 25) C 2 dX12_costsOfDay_25 rfl rfl ?_
      exact j_iretS (pc := 26) C rfl dX12_costsOfDay_26 hm

def mX12_costsOfDay (F : Nat) (x1 : Int32) (σ : jS) : Option (Int32 × jS) := (lp_X12_costsOfDay_4 F F x1 (0 : Int32) (0 : Int32) σ)
set_option maxHeartbeats 4000000 in
set_option maxRecDepth 100000 in
theorem kX12_costsOfDay {V : jV} {F : Nat} {x1 : Int32} {σ : jS} {v : (Int32 × jS)} (hm : mX12_costsOfDay F x1 σ = some v) : Ct cfM 33 V yX12_costsOfDay cX12_costsOfDay 4 (some .int) 5 [.ref (vad V 0), .int x1] σ v := by
  refine j_start (own := RX12) (by decide) rfl (Nat.le_of_ble_eq_true rfl) ?_
  intro G hV C
  subst hV
  unfold mX12_costsOfDay at hm
  show JM G 0 [(0, .ref (vad (gV G) 0)), (1, .int x1)] [] σ v
  refine j_iconst (v := 0) (pc := 0) C dX12_costsOfDay_0 (by decide) ?_
  refine j_istoren (ls' := [(2, .int (0 : Int32)), (0, .ref (vad (gV G) 0)), (1, .int x1)]) (pc := 1) C dX12_costsOfDay_1 rfl (by decide) rfl ?_
  refine j_iconst (v := 0) (pc := 2) C dX12_costsOfDay_2 (by decide) ?_
  refine j_istoren (ls' := [(3, .int (0 : Int32)), (2, .int (0 : Int32)), (0, .ref (vad (gV G) 0)), (1, .int x1)]) (pc := 3) C dX12_costsOfDay_3 rfl (by decide) rfl ?_
  refine j_ls [2, 3, 1, 0] rfl ?_
  exact lp_X12_costsOfDay_4_ok C F  F _ _ _ _ hm

def mX12_costs (F : Nat) (x1 : Int32) (x2 : Int32) (σ : jS) : Option (Int32 × jS) := (Option.bind (mX12_isLiving F x1 σ) fun q1 => (if q1 = 0 then some ((-1 : Int32), σ) else (Option.bind (mX12_in F x2 (0 : Int32) (24 : Int32) σ) fun q2 => (if q2 = 0 then some ((-1 : Int32), σ) else (if x2 = (24 : Int32) then (Option.bind (mX12_costsOfDay F x1 σ) fun q3 => some (q3.1, q3.2)) else (Option.bind (mX12_costsIn F x1 x2 σ) fun q4 => some (q4.1, q4.2)))))))
set_option maxHeartbeats 4000000 in
set_option maxRecDepth 100000 in
theorem kX12_costs {V : jV} {F : Nat} {x1 : Int32} {x2 : Int32} {σ : jS} {v : (Int32 × jS)} (hm : mX12_costs F x1 x2 σ = some v) : Ct cfM 33 V yX12_costs cX12_costs 3 (some .int) 6 [.ref (vad V 0), .int x1, .int x2] σ v := by
  refine j_start (own := RX12) (by decide) rfl (Nat.le_of_ble_eq_true rfl) ?_
  intro G hV C
  subst hV
  unfold mX12_costs at hm
  show JM G 0 [(0, .ref (vad (gV G) 0)), (1, .int x1), (2, .int x2)] [] σ v
  refine j_aloadn (pc := 0) C 0 dX12_costs_0 rfl rfl ?_
  refine j_iloadn (pc := 1) C 1 dX12_costs_1 rfl rfl ?_
  obtain ⟨q1, hq1, hm⟩ := Option.bind_eq_some_iff.mp hm
  refine cl_X12_115 (c := 0) (pc := 2) C km_0 (kX12_isLiving hq1) (by decide) (Nat.le_of_ble_eq_true rfl) dX12_costs_2 ?_
  refine j_if_eq (tgt := 18) (pc := 5) C dX12_costs_5 (by decide) hm (fun _ hm => ?_) (fun _ hm => ?_)
  · refine j_iconst (v := -1) (pc := 18) C dX12_costs_18 (by decide) ?_
    exact j_iretS (pc := 19) C rfl dX12_costs_19 hm
  · refine j_iloadn (pc := 8) C 2 dX12_costs_8 rfl rfl ?_
    refine j_iconst (v := 0) (pc := 9) C dX12_costs_9 (by decide) ?_
    refine j_bipush (v := 24) (pc := 10) C dX12_costs_10 (by decide) ?_
    obtain ⟨q2, hq2, hm⟩ := Option.bind_eq_some_iff.mp hm
    refine cl_X12_107 (pc := 12) C (kX12_in hq2) (by decide) (Nat.le_of_ble_eq_true rfl) dX12_costs_12 ?_
    refine j_if_ne (tgt := 20) (pc := 15) C dX12_costs_15 (by decide) hm (fun _ hm => ?_) (fun _ hm => ?_)
    · refine j_iconst (v := -1) (pc := 18) C dX12_costs_18 (by decide) ?_
      exact j_iretS (pc := 19) C rfl dX12_costs_19 hm
    · refine j_iloadn (pc := 20) C 2 dX12_costs_20 rfl rfl ?_
      refine j_bipush (v := 24) (pc := 21) C dX12_costs_21 (by decide) ?_
      refine j_icmp_ne (tgt := 34) (pc := 23) C dX12_costs_23 (by decide) hm (fun _ hm => ?_) (fun _ hm => ?_)
      · refine j_aloadn (pc := 26) C 0 dX12_costs_26 rfl rfl ?_
        refine j_iloadn (pc := 27) C 1 dX12_costs_27 rfl rfl ?_
        obtain ⟨q3, hq3, hm⟩ := Option.bind_eq_some_iff.mp hm
        refine cl_X12_344 (c := 0) (pc := 28) C km_0 (kX12_costsOfDay hq3) (by decide) (Nat.le_of_ble_eq_true rfl) dX12_costs_28 ?_
        refine j_goto (tgt := 40) (pc := 31) C dX12_costs_31 (by decide) ?_
        exact j_iretS (pc := 40) C rfl dX12_costs_40 hm
      · refine j_aloadn (pc := 34) C 0 dX12_costs_34 rfl rfl ?_
        refine j_iloadn (pc := 35) C 1 dX12_costs_35 rfl rfl ?_
        refine j_iloadn (pc := 36) C 2 dX12_costs_36 rfl rfl ?_
        obtain ⟨q4, hq4, hm⟩ := Option.bind_eq_some_iff.mp hm
        refine cl_X12_341 (c := 0) (pc := 37) C km_0 (kX12_costsIn hq4) (by decide) (Nat.le_of_ble_eq_true rfl) dX12_costs_37 ?_
        exact j_iretS (pc := 40) C rfl dX12_costs_40 hm

def mX12_lessBy (F : Nat) (x0 : Int32) (x1 : Int32) (σ : jS) : Option Int32 := (Option.bind (mX12_min F x0 x1 σ) fun q1 => some (x0 - q1))
set_option maxHeartbeats 4000000 in
set_option maxRecDepth 100000 in
theorem kX12_lessBy {V : jV} {F : Nat} {x0 : Int32} {x1 : Int32} {σ : jS} {v : Int32} (hm : mX12_lessBy F x0 x1 σ = some v) : Ct cfM 33 V yX12_lessBy cX12_lessBy 2 (some .int) 1 [.int x0, .int x1] σ (v, σ) := by
  refine j_start (own := RX12) (by decide) rfl (Nat.le_of_ble_eq_true rfl) ?_
  intro G hV C
  subst hV
  unfold mX12_lessBy at hm
  show JM G 0 [(0, .int x0), (1, .int x1)] [] σ (v, σ)
  refine j_iloadn (pc := 0) C 0 dX12_lessBy_0 rfl rfl ?_
  refine j_iloadn (pc := 1) C 0 dX12_lessBy_1 rfl rfl ?_
  refine j_iloadn (pc := 2) C 1 dX12_lessBy_2 rfl rfl ?_
  obtain ⟨q1, hq1, hm⟩ := Option.bind_eq_some_iff.mp hm
  refine cl_X12_272 (pc := 3) C (kX12_min hq1) (by decide) (Nat.le_of_ble_eq_true rfl) dX12_lessBy_3 ?_
  refine j_isub (pc := 6) C dX12_lessBy_6 ?_
  exact j_iret (pc := 7) C rfl dX12_lessBy_7 hm

def lp_X12_paidOff_23 (F : Nat) (σ : jS) : Nat → Int32 → Int32 → Int32 → Option Int32
  | 0, _, _, _ => none
  | n + 1, x1, x2, x3 => (if 0 < x2 then (if x3 < (3650 : Int32) then (lt ((136 : Int32) + x1) fun y5 => (if jin y5 212 = true then (Option.bind (mX12_grownBy F x2 ((σ 1 y5.toNatClampNeg)) σ) fun q7 => (lt ((160 : Int32) + x1) fun y8 => (if jin y8 212 = true then (Option.bind (mX12_lessBy F q7 ((σ 1 y8.toNatClampNeg)) σ) fun q10 => (lt (x3 + (1 : Int32)) fun y11 => (lp_X12_paidOff_23 F σ n x1 q10 y11))) else none))) else none)) else (if x2 = 0 then some x3 else some (-2 : Int32))) else (if x2 = 0 then some x3 else some (-2 : Int32)))
set_option maxHeartbeats 4000000 in
set_option maxRecDepth 100000 in
theorem lp_X12_paidOff_23_ok {G : jG} (C : jc cfM 33 G cX12_paidOff RX12 4 (some .int) 2) (F : Nat) (σ : jS) {v : Int32} : ∀ (n : Nat) (x1 : Int32) (x2 : Int32) (x3 : Int32), lp_X12_paidOff_23 F σ n x1 x2 x3 = some v → JM G 23 [(0, .ref (vad (gV G) 0)), (1, .int x1), (2, .int x2), (3, .int x3)] [] σ (v, σ) := by
  intro n
  induction n with
  | zero =>
    intro x1 x2 x3 hm
    rw [lp_X12_paidOff_23] at hm
    cases hm
  | succ n ih =>
    intro x1 x2 x3 hm
    rw [lp_X12_paidOff_23] at hm
    refine j_iloadn (pc := 23) C 2 dX12_paidOff_23 rfl rfl ?_
    refine j_if_le (tgt := 69) (pc := 24) C dX12_paidOff_24 (by decide) hm (fun _ hm => ?_) (fun _ hm => ?_)
    · refine j_iloadn (pc := 27) C 3 dX12_paidOff_27 rfl rfl ?_
      refine j_sipush (v := 3650) (pc := 28) C dX12_paidOff_28 (by decide) ?_
      refine j_icmp_ge (tgt := 69) (pc := 31) C dX12_paidOff_31 (by decide) hm (fun _ hm => ?_) (fun _ hm => ?_)
      · refine j_iloadn (pc := 34) C 2 dX12_paidOff_34 rfl rfl ?_
        refine j_aloadn (pc := 35) C 0 dX12_paidOff_35 rfl rfl ?_
        refine gf_X12_7 (c := 0) (pc := 36) C km_0 dX12_paidOff_36 ?_
        refine j_sipush (v := 136) (pc := 39) C dX12_paidOff_39 (by decide) ?_
        refine j_iloadn (pc := 42) C 1 dX12_paidOff_42 rfl rfl ?_
        refine j_iadd (pc := 43) C dX12_paidOff_43 ?_
        refine j_lti hm (fun y5 hm => ?_)
        refine j_guard hm (fun hg6 hm => ?_)
        refine j_iald (c := 1) (n := 212) (pc := 44) C (kM_lt km_1 (by decide)) (cm_a km_1 lm_1 _) hg6 dX12_paidOff_44 ?_
        obtain ⟨q7, hq7, hm⟩ := Option.bind_eq_some_iff.mp hm
        refine cl_X12_309 (pc := 45) C (kX12_grownBy hq7) (by decide) (Nat.le_of_ble_eq_true rfl) dX12_paidOff_45 ?_
        refine j_aloadn (pc := 48) C 0 dX12_paidOff_48 rfl rfl ?_
        refine gf_X12_7 (c := 0) (pc := 49) C km_0 dX12_paidOff_49 ?_
        refine j_sipush (v := 160) (pc := 52) C dX12_paidOff_52 (by decide) ?_
        refine j_iloadn (pc := 55) C 1 dX12_paidOff_55 rfl rfl ?_
        refine j_iadd (pc := 56) C dX12_paidOff_56 ?_
        refine j_lti hm (fun y8 hm => ?_)
        refine j_guard hm (fun hg9 hm => ?_)
        refine j_iald (c := 1) (n := 212) (pc := 57) C (kM_lt km_1 (by decide)) (cm_a km_1 lm_1 _) hg9 dX12_paidOff_57 ?_
        obtain ⟨q10, hq10, hm⟩ := Option.bind_eq_some_iff.mp hm
        refine cl_X12_347 (pc := 58) C (kX12_lessBy hq10) (by decide) (Nat.le_of_ble_eq_true rfl) dX12_paidOff_58 ?_
        refine j_istoren (ls' := [(2, .int q10), (0, .ref (vad (gV G) 0)), (1, .int x1), (3, .int x3)]) (pc := 61) C dX12_paidOff_61 rfl (by decide) rfl ?_
        refine j_iloadn (pc := 62) C 3 dX12_paidOff_62 rfl rfl ?_
        refine j_iconst (v := 1) (pc := 63) C dX12_paidOff_63 (by decide) ?_
        refine j_iadd (pc := 64) C dX12_paidOff_64 ?_
        refine j_lti hm (fun y11 hm => ?_)
        refine j_istoren (ls' := [(3, .int y11), (2, .int q10), (0, .ref (vad (gV G) 0)), (1, .int x1)]) (pc := 65) C dX12_paidOff_65 rfl (by decide) rfl ?_
        refine j_goto (tgt := 23) (pc := 66) C dX12_paidOff_66 (by decide) ?_
        refine j_ls [2, 3, 1, 0] rfl ?_
        exact ih _ _ _ hm
      · refine j_iloadn (pc := 69) C 2 dX12_paidOff_69 rfl rfl ?_
        refine j_if_ne (tgt := 77) (pc := 70) C dX12_paidOff_70 (by decide) hm (fun _ hm => ?_) (fun _ hm => ?_)
        · refine j_iloadn (pc := 73) C 3 dX12_paidOff_73 rfl rfl ?_
          refine j_goto (tgt := 79) (pc := 74) C dX12_paidOff_74 (by decide) ?_
          exact j_iret (pc := 79) C rfl dX12_paidOff_79 hm
        · refine j_bipush (v := -2) (pc := 77) C dX12_paidOff_77 (by decide) ?_
          exact j_iret (pc := 79) C rfl dX12_paidOff_79 hm
    · refine j_iloadn (pc := 69) C 2 dX12_paidOff_69 rfl rfl ?_
      refine j_if_ne (tgt := 77) (pc := 70) C dX12_paidOff_70 (by decide) hm (fun _ hm => ?_) (fun _ hm => ?_)
      · refine j_iloadn (pc := 73) C 3 dX12_paidOff_73 rfl rfl ?_
        refine j_goto (tgt := 79) (pc := 74) C dX12_paidOff_74 (by decide) ?_
        exact j_iret (pc := 79) C rfl dX12_paidOff_79 hm
      · refine j_bipush (v := -2) (pc := 77) C dX12_paidOff_77 (by decide) ?_
        exact j_iret (pc := 79) C rfl dX12_paidOff_79 hm

def mX12_paidOff (F : Nat) (x1 : Int32) (σ : jS) : Option Int32 := (Option.bind (mX12_isLoan F x1 σ) fun q1 => (if q1 = 0 then some (-1 : Int32) else (lt ((184 : Int32) + x1) fun y2 => (if jin y2 212 = true then (lt (σ 1 y2.toNatClampNeg) fun y4 => (lp_X12_paidOff_23 F σ F x1 y4 (0 : Int32))) else none))))
set_option maxHeartbeats 4000000 in
set_option maxRecDepth 100000 in
theorem kX12_paidOff {V : jV} {F : Nat} {x1 : Int32} {σ : jS} {v : Int32} (hm : mX12_paidOff F x1 σ = some v) : Ct cfM 33 V yX12_paidOff cX12_paidOff 4 (some .int) 2 [.ref (vad V 0), .int x1] σ (v, σ) := by
  refine j_start (own := RX12) (by decide) rfl (Nat.le_of_ble_eq_true rfl) ?_
  intro G hV C
  subst hV
  unfold mX12_paidOff at hm
  show JM G 0 [(0, .ref (vad (gV G) 0)), (1, .int x1)] [] σ (v, σ)
  refine j_aloadn (pc := 0) C 0 dX12_paidOff_0 rfl rfl ?_
  refine j_iloadn (pc := 1) C 1 dX12_paidOff_1 rfl rfl ?_
  obtain ⟨q1, hq1, hm⟩ := Option.bind_eq_some_iff.mp hm
  refine cl_X12_327 (c := 0) (pc := 2) C km_0 (kX12_isLoan hq1) (by decide) (Nat.le_of_ble_eq_true rfl) dX12_paidOff_2 ?_
  refine j_if_ne (tgt := 10) (pc := 5) C dX12_paidOff_5 (by decide) hm (fun _ hm => ?_) (fun _ hm => ?_)
  · refine j_iconst (v := -1) (pc := 8) C dX12_paidOff_8 (by decide) ?_
    exact j_iret (pc := 9) C rfl dX12_paidOff_9 hm
  · refine j_aloadn (pc := 10) C 0 dX12_paidOff_10 rfl rfl ?_
    refine gf_X12_7 (c := 0) (pc := 11) C km_0 dX12_paidOff_11 ?_
    refine j_sipush (v := 184) (pc := 14) C dX12_paidOff_14 (by decide) ?_
    refine j_iloadn (pc := 17) C 1 dX12_paidOff_17 rfl rfl ?_
    refine j_iadd (pc := 18) C dX12_paidOff_18 ?_
    refine j_lti hm (fun y2 hm => ?_)
    refine j_guard hm (fun hg3 hm => ?_)
    refine j_iald (c := 1) (n := 212) (pc := 19) C (kM_lt km_1 (by decide)) (cm_a km_1 lm_1 _) hg3 dX12_paidOff_19 ?_
    refine j_lti hm (fun y4 hm => ?_)
    refine j_istoren (ls' := [(2, .int y4), (0, .ref (vad (gV G) 0)), (1, .int x1)]) (pc := 20) C dX12_paidOff_20 rfl (by decide) rfl ?_
    refine j_iconst (v := 0) (pc := 21) C dX12_paidOff_21 (by decide) ?_
    refine j_istoren (ls' := [(3, .int (0 : Int32)), (2, .int y4), (0, .ref (vad (gV G) 0)), (1, .int x1)]) (pc := 22) C dX12_paidOff_22 rfl (by decide) rfl ?_
    refine j_ls [2, 3, 1, 0] rfl ?_
    exact lp_X12_paidOff_23_ok C F σ  F _ _ _ hm

