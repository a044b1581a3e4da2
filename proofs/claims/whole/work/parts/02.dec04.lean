theorem dX6_newLet_0 : decode cX6_newLet 0 = .ok (.aload_n 0, 1) := by decide +kernel
theorem dX6_newLet_1 : decode cX6_newLet 1 = .ok (.iconst 4, 1) := by decide +kernel
theorem dX6_newLet_2 : decode cX6_newLet 2 = .ok (.iload_n 1, 1) := by decide +kernel
theorem dX6_newLet_3 : decode cX6_newLet 3 = .ok (.bipush (-2), 2) := by decide +kernel
theorem dX6_newLet_5 : decode cX6_newLet 5 = .ok (.iload_n 2, 1) := by decide +kernel
theorem dX6_newLet_6 : decode cX6_newLet 6 = .ok (.iload_n 3, 1) := by decide +kernel
theorem dX6_newLet_7 : decode cX6_newLet 7 = .ok (.bipush (-2), 2) := by decide +kernel
theorem dX6_newLet_9 : decode cX6_newLet 9 = .ok (.invokevirtual 87, 3) := by decide +kernel
theorem dX6_newLet_12 : decode cX6_newLet 12 = .ok (.ireturn, 1) := by decide +kernel
theorem dX6_newJoined_0 : decode cX6_newJoined 0 = .ok (.aload_n 0, 1) := by decide +kernel
theorem dX6_newJoined_1 : decode cX6_newJoined 1 = .ok (.iload_n 1, 1) := by decide +kernel
theorem dX6_newJoined_2 : decode cX6_newJoined 2 = .ok (.bipush (-2), 2) := by decide +kernel
theorem dX6_newJoined_4 : decode cX6_newJoined 4 = .ok (.bipush (-2), 2) := by decide +kernel
theorem dX6_newJoined_6 : decode cX6_newJoined 6 = .ok (.iload_n 2, 1) := by decide +kernel
theorem dX6_newJoined_7 : decode cX6_newJoined 7 = .ok (.iload_n 3, 1) := by decide +kernel
theorem dX6_newJoined_8 : decode cX6_newJoined 8 = .ok (.iload 4, 2) := by decide +kernel
theorem dX6_newJoined_10 : decode cX6_newJoined 10 = .ok (.invokevirtual 87, 3) := by decide +kernel
theorem dX6_newJoined_13 : decode cX6_newJoined 13 = .ok (.ireturn, 1) := by decide +kernel
theorem dX6_withParts_0 : decode cX6_withParts 0 = .ok (.iload_n 2, 1) := by decide +kernel
theorem dX6_withParts_1 : decode cX6_withParts 1 = .ok (.aload_n 0, 1) := by decide +kernel
theorem dX6_withParts_2 : decode cX6_withParts 2 = .ok (.iload_n 1, 1) := by decide +kernel
theorem dX6_withParts_3 : decode cX6_withParts 3 = .ok (.invokevirtual 71, 3) := by decide +kernel
theorem dX6_withParts_6 : decode cX6_withParts 6 = .ok (.if_icmp .ne 34, 3) := by decide +kernel
theorem dX6_withParts_9 : decode cX6_withParts 9 = .ok (.iload_n 3, 1) := by decide +kernel
theorem dX6_withParts_10 : decode cX6_withParts 10 = .ok (.aload_n 0, 1) := by decide +kernel
theorem dX6_withParts_11 : decode cX6_withParts 11 = .ok (.iload_n 1, 1) := by decide +kernel
theorem dX6_withParts_12 : decode cX6_withParts 12 = .ok (.invokevirtual 74, 3) := by decide +kernel
theorem dX6_withParts_15 : decode cX6_withParts 15 = .ok (.if_icmp .ne 25, 3) := by decide +kernel
theorem dX6_withParts_18 : decode cX6_withParts 18 = .ok (.iload 4, 2) := by decide +kernel
theorem dX6_withParts_20 : decode cX6_withParts 20 = .ok (.aload_n 0, 1) := by decide +kernel
theorem dX6_withParts_21 : decode cX6_withParts 21 = .ok (.iload_n 1, 1) := by decide +kernel
theorem dX6_withParts_22 : decode cX6_withParts 22 = .ok (.invokevirtual 81, 3) := by decide +kernel
theorem dX6_withParts_25 : decode cX6_withParts 25 = .ok (.if_icmp .ne 15, 3) := by decide +kernel
theorem dX6_withParts_28 : decode cX6_withParts 28 = .ok (.iload 5, 2) := by decide +kernel
theorem dX6_withParts_30 : decode cX6_withParts 30 = .ok (.aload_n 0, 1) := by decide +kernel
theorem dX6_withParts_31 : decode cX6_withParts 31 = .ok (.iload_n 1, 1) := by decide +kernel
theorem dX6_withParts_32 : decode cX6_withParts 32 = .ok (.invokevirtual 84, 3) := by decide +kernel
theorem dX6_withParts_35 : decode cX6_withParts 35 = .ok (.if_icmp .ne 5, 3) := by decide +kernel
theorem dX6_withParts_38 : decode cX6_withParts 38 = .ok (.iload_n 1, 1) := by decide +kernel
theorem dX6_withParts_39 : decode cX6_withParts 39 = .ok (.ireturn, 1) := by decide +kernel
theorem dX6_withParts_40 : decode cX6_withParts 40 = .ok (.aload_n 0, 1) := by decide +kernel
theorem dX6_withParts_41 : decode cX6_withParts 41 = .ok (.aload_n 0, 1) := by decide +kernel
theorem dX6_withParts_42 : decode cX6_withParts 42 = .ok (.iload_n 1, 1) := by decide +kernel
theorem dX6_withParts_43 : decode cX6_withParts 43 = .ok (.invokevirtual 68, 3) := by decide +kernel
theorem dX6_withParts_46 : decode cX6_withParts 46 = .ok (.iload_n 2, 1) := by decide +kernel
theorem dX6_withParts_47 : decode cX6_withParts 47 = .ok (.aload_n 0, 1) := by decide +kernel
theorem dX6_withParts_48 : decode cX6_withParts 48 = .ok (.iload_n 1, 1) := by decide +kernel
theorem dX6_withParts_49 : decode cX6_withParts 49 = .ok (.invokevirtual 94, 3) := by decide +kernel
theorem dX6_withParts_52 : decode cX6_withParts 52 = .ok (.iload_n 3, 1) := by decide +kernel
theorem dX6_withParts_53 : decode cX6_withParts 53 = .ok (.iload 4, 2) := by decide +kernel
theorem dX6_withParts_55 : decode cX6_withParts 55 = .ok (.iload 5, 2) := by decide +kernel
theorem dX6_withParts_57 : decode cX6_withParts 57 = .ok (.invokevirtual 87, 3) := by decide +kernel
theorem dX6_withParts_60 : decode cX6_withParts 60 = .ok (.ireturn, 1) := by decide +kernel
theorem dX6_cutTo_0 : decode cX6_cutTo 0 = .ok (.iload_n 1, 1) := by decide +kernel
theorem dX6_cutTo_1 : decode cX6_cutTo 1 = .ok (.ifCond .lt 16, 3) := by decide +kernel
theorem dX6_cutTo_4 : decode cX6_cutTo 4 = .ok (.iload_n 1, 1) := by decide +kernel
theorem dX6_cutTo_5 : decode cX6_cutTo 5 = .ok (.aload_n 0, 1) := by decide +kernel
theorem dX6_cutTo_6 : decode cX6_cutTo 6 = .ok (.getfield 49, 3) := by decide +kernel
theorem dX6_cutTo_9 : decode cX6_cutTo 9 = .ok (.if_icmp .ge 8, 3) := by decide +kernel
theorem dX6_cutTo_12 : decode cX6_cutTo 12 = .ok (.aload_n 0, 1) := by decide +kernel
theorem dX6_cutTo_13 : decode cX6_cutTo 13 = .ok (.iload_n 1, 1) := by decide +kernel
theorem dX6_cutTo_14 : decode cX6_cutTo 14 = .ok (.putfield 49, 3) := by decide +kernel
theorem dX6_cutTo_17 : decode cX6_cutTo 17 = .ok (.return_, 1) := by decide +kernel
theorem dX6_made_0 : decode cX6_made 0 = .ok (.iconst 1, 1) := by decide +kernel
theorem dX6_made_1 : decode cX6_made 1 = .ok (.aload_n 0, 1) := by decide +kernel
theorem dX6_made_2 : decode cX6_made 2 = .ok (.iload 4, 2) := by decide +kernel
theorem dX6_made_4 : decode cX6_made 4 = .ok (.invokevirtual 97, 3) := by decide +kernel
theorem dX6_made_7 : decode cX6_made 7 = .ok (.iadd, 1) := by decide +kernel
theorem dX6_made_8 : decode cX6_made 8 = .ok (.aload_n 0, 1) := by decide +kernel
theorem dX6_made_9 : decode cX6_made 9 = .ok (.iload 5, 2) := by decide +kernel
theorem dX6_made_11 : decode cX6_made 11 = .ok (.invokevirtual 97, 3) := by decide +kernel
theorem dX6_made_14 : decode cX6_made 14 = .ok (.iadd, 1) := by decide +kernel
theorem dX6_made_15 : decode cX6_made 15 = .ok (.aload_n 0, 1) := by decide +kernel
theorem dX6_made_16 : decode cX6_made 16 = .ok (.iload 6, 2) := by decide +kernel
theorem dX6_made_18 : decode cX6_made 18 = .ok (.invokevirtual 97, 3) := by decide +kernel
theorem dX6_made_21 : decode cX6_made 21 = .ok (.iadd, 1) := by decide +kernel
theorem dX6_made_22 : decode cX6_made 22 = .ok (.istore 7, 2) := by decide +kernel
theorem dX6_made_24 : decode cX6_made 24 = .ok (.iconst 1, 1) := by decide +kernel
theorem dX6_made_25 : decode cX6_made 25 = .ok (.aload_n 0, 1) := by decide +kernel
theorem dX6_made_26 : decode cX6_made 26 = .ok (.iload 4, 2) := by decide +kernel
theorem dX6_made_28 : decode cX6_made 28 = .ok (.invokevirtual 100, 3) := by decide +kernel
theorem dX6_made_31 : decode cX6_made 31 = .ok (.aload_n 0, 1) := by decide +kernel
theorem dX6_made_32 : decode cX6_made 32 = .ok (.iload 5, 2) := by decide +kernel
theorem dX6_made_34 : decode cX6_made 34 = .ok (.invokevirtual 100, 3) := by decide +kernel
theorem dX6_made_37 : decode cX6_made 37 = .ok (.aload_n 0, 1) := by decide +kernel
theorem dX6_made_38 : decode cX6_made 38 = .ok (.iload 6, 2) := by decide +kernel
theorem dX6_made_40 : decode cX6_made 40 = .ok (.invokevirtual 100, 3) := by decide +kernel
theorem dX6_made_43 : decode cX6_made 43 = .ok (.invokestatic 103, 3) := by decide +kernel
theorem dX6_made_46 : decode cX6_made 46 = .ok (.invokestatic 103, 3) := by decide +kernel
theorem dX6_made_49 : decode cX6_made 49 = .ok (.iadd, 1) := by decide +kernel
theorem dX6_made_50 : decode cX6_made 50 = .ok (.istore 8, 2) := by decide +kernel
theorem dX6_made_52 : decode cX6_made 52 = .ok (.aload_n 0, 1) := by decide +kernel
theorem dX6_made_53 : decode cX6_made 53 = .ok (.getfield 49, 3) := by decide +kernel
theorem dX6_made_56 : decode cX6_made 56 = .ok (.sipush 400, 3) := by decide +kernel
theorem dX6_made_59 : decode cX6_made 59 = .ok (.if_icmp .ge 18, 3) := by decide +kernel
theorem dX6_made_62 : decode cX6_made 62 = .ok (.iload 7, 2) := by decide +kernel
theorem dX6_made_64 : decode cX6_made 64 = .ok (.sipush 1000, 3) := by decide +kernel
theorem dX6_made_67 : decode cX6_made 67 = .ok (.if_icmp .gt 10, 3) := by decide +kernel
theorem dX6_made_70 : decode cX6_made 70 = .ok (.iload 8, 2) := by decide +kernel
theorem dX6_made_72 : decode cX6_made 72 = .ok (.bipush 40, 2) := by decide +kernel
theorem dX6_made_74 : decode cX6_made 74 = .ok (.if_icmp .le 6, 3) := by decide +kernel
theorem dX6_made_77 : decode cX6_made 77 = .ok (.bipush (-3), 2) := by decide +kernel
theorem dX6_made_79 : decode cX6_made 79 = .ok (.ireturn, 1) := by decide +kernel
theorem dX6_made_80 : decode cX6_made 80 = .ok (.aload_n 0, 1) := by decide +kernel
theorem dX6_made_81 : decode cX6_made 81 = .ok (.getfield 49, 3) := by decide +kernel
theorem dX6_made_84 : decode cX6_made 84 = .ok (.istore 9, 2) := by decide +kernel
theorem dX6_made_86 : decode cX6_made 86 = .ok (.aload_n 0, 1) := by decide +kernel
theorem dX6_made_87 : decode cX6_made 87 = .ok (.getfield 9, 3) := by decide +kernel
theorem dX6_made_90 : decode cX6_made 90 = .ok (.iload 9, 2) := by decide +kernel
theorem dX6_made_92 : decode cX6_made 92 = .ok (.iload_n 1, 1) := by decide +kernel
theorem dX6_made_93 : decode cX6_made 93 = .ok (.iastore, 1) := by decide +kernel
theorem dX6_made_94 : decode cX6_made 94 = .ok (.aload_n 0, 1) := by decide +kernel
theorem dX6_made_95 : decode cX6_made 95 = .ok (.getfield 15, 3) := by decide +kernel
theorem dX6_made_98 : decode cX6_made 98 = .ok (.iload 9, 2) := by decide +kernel
theorem dX6_made_100 : decode cX6_made 100 = .ok (.iconst 0, 1) := by decide +kernel
theorem dX6_made_101 : decode cX6_made 101 = .ok (.iastore, 1) := by decide +kernel
theorem dX6_made_102 : decode cX6_made 102 = .ok (.aload_n 0, 1) := by decide +kernel
theorem dX6_made_103 : decode cX6_made 103 = .ok (.getfield 18, 3) := by decide +kernel
theorem dX6_made_106 : decode cX6_made 106 = .ok (.iload 9, 2) := by decide +kernel
theorem dX6_made_108 : decode cX6_made 108 = .ok (.iload_n 2, 1) := by decide +kernel
theorem dX6_made_109 : decode cX6_made 109 = .ok (.iastore, 1) := by decide +kernel
theorem dX6_made_110 : decode cX6_made 110 = .ok (.aload_n 0, 1) := by decide +kernel
theorem dX6_made_111 : decode cX6_made 111 = .ok (.getfield 21, 3) := by decide +kernel
theorem dX6_made_114 : decode cX6_made 114 = .ok (.iload 9, 2) := by decide +kernel
theorem dX6_made_116 : decode cX6_made 116 = .ok (.iload_n 3, 1) := by decide +kernel
theorem dX6_made_117 : decode cX6_made 117 = .ok (.iastore, 1) := by decide +kernel
theorem dX6_made_118 : decode cX6_made 118 = .ok (.aload_n 0, 1) := by decide +kernel
theorem dX6_made_119 : decode cX6_made 119 = .ok (.getfield 24, 3) := by decide +kernel
theorem dX6_made_122 : decode cX6_made 122 = .ok (.iload 9, 2) := by decide +kernel
theorem dX6_made_124 : decode cX6_made 124 = .ok (.iload 4, 2) := by decide +kernel
theorem dX6_made_126 : decode cX6_made 126 = .ok (.iastore, 1) := by decide +kernel
theorem dX6_made_127 : decode cX6_made 127 = .ok (.aload_n 0, 1) := by decide +kernel
theorem dX6_made_128 : decode cX6_made 128 = .ok (.getfield 27, 3) := by decide +kernel
theorem dX6_made_131 : decode cX6_made 131 = .ok (.iload 9, 2) := by decide +kernel
theorem dX6_made_133 : decode cX6_made 133 = .ok (.iload 5, 2) := by decide +kernel
theorem dX6_made_135 : decode cX6_made 135 = .ok (.iastore, 1) := by decide +kernel
theorem dX6_made_136 : decode cX6_made 136 = .ok (.aload_n 0, 1) := by decide +kernel
theorem dX6_made_137 : decode cX6_made 137 = .ok (.getfield 30, 3) := by decide +kernel
theorem dX6_made_140 : decode cX6_made 140 = .ok (.iload 9, 2) := by decide +kernel
theorem dX6_made_142 : decode cX6_made 142 = .ok (.iload 6, 2) := by decide +kernel
theorem dX6_made_144 : decode cX6_made 144 = .ok (.iastore, 1) := by decide +kernel
theorem dX6_made_145 : decode cX6_made 145 = .ok (.aload_n 0, 1) := by decide +kernel
theorem dX6_made_146 : decode cX6_made 146 = .ok (.getfield 33, 3) := by decide +kernel
theorem dX6_made_149 : decode cX6_made 149 = .ok (.iload 9, 2) := by decide +kernel
theorem dX6_made_151 : decode cX6_made 151 = .ok (.iload 7, 2) := by decide +kernel
theorem dX6_made_153 : decode cX6_made 153 = .ok (.iastore, 1) := by decide +kernel
theorem dX6_made_154 : decode cX6_made 154 = .ok (.aload_n 0, 1) := by decide +kernel
theorem dX6_made_155 : decode cX6_made 155 = .ok (.getfield 36, 3) := by decide +kernel
theorem dX6_made_158 : decode cX6_made 158 = .ok (.iload 9, 2) := by decide +kernel
theorem dX6_made_160 : decode cX6_made 160 = .ok (.iload 8, 2) := by decide +kernel
theorem dX6_made_162 : decode cX6_made 162 = .ok (.iastore, 1) := by decide +kernel
theorem dX6_made_163 : decode cX6_made 163 = .ok (.aload_n 0, 1) := by decide +kernel
theorem dX6_made_164 : decode cX6_made 164 = .ok (.getfield 39, 3) := by decide +kernel
theorem dX6_made_167 : decode cX6_made 167 = .ok (.iload 9, 2) := by decide +kernel
theorem dX6_made_169 : decode cX6_made 169 = .ok (.iload_n 1, 1) := by decide +kernel
theorem dX6_made_170 : decode cX6_made 170 = .ok (.iload_n 2, 1) := by decide +kernel
theorem dX6_made_171 : decode cX6_made 171 = .ok (.invokestatic 61, 3) := by decide +kernel
theorem dX6_made_174 : decode cX6_made 174 = .ok (.aload_n 0, 1) := by decide +kernel
theorem dX6_made_175 : decode cX6_made 175 = .ok (.iload 4, 2) := by decide +kernel
theorem dX6_made_177 : decode cX6_made 177 = .ok (.invokevirtual 57, 3) := by decide +kernel
theorem dX6_made_180 : decode cX6_made 180 = .ok (.aload_n 0, 1) := by decide +kernel
theorem dX6_made_181 : decode cX6_made 181 = .ok (.iload 5, 2) := by decide +kernel
theorem dX6_made_183 : decode cX6_made 183 = .ok (.invokevirtual 57, 3) := by decide +kernel
theorem dX6_made_186 : decode cX6_made 186 = .ok (.aload_n 0, 1) := by decide +kernel
theorem dX6_made_187 : decode cX6_made 187 = .ok (.iload 6, 2) := by decide +kernel
theorem dX6_made_189 : decode cX6_made 189 = .ok (.invokevirtual 57, 3) := by decide +kernel
theorem dX6_made_192 : decode cX6_made 192 = .ok (.invokestatic 108, 3) := by decide +kernel
theorem dX6_made_195 : decode cX6_made 195 = .ok (.iastore, 1) := by decide +kernel
theorem dX6_made_196 : decode cX6_made 196 = .ok (.aload_n 0, 1) := by decide +kernel
theorem dX6_made_197 : decode cX6_made 197 = .ok (.getfield 42, 3) := by decide +kernel
theorem dX6_made_200 : decode cX6_made 200 = .ok (.iload 9, 2) := by decide +kernel
theorem dX6_made_202 : decode cX6_made 202 = .ok (.iload_n 1, 1) := by decide +kernel
theorem dX6_made_203 : decode cX6_made 203 = .ok (.invokestatic 112, 3) := by decide +kernel
theorem dX6_made_206 : decode cX6_made 206 = .ok (.aload_n 0, 1) := by decide +kernel
theorem dX6_made_207 : decode cX6_made 207 = .ok (.getfield 45, 3) := by decide +kernel
theorem dX6_made_210 : decode cX6_made 210 = .ok (.iload_n 3, 1) := by decide +kernel
theorem dX6_made_211 : decode cX6_made 211 = .ok (.invokevirtual 115, 3) := by decide +kernel
theorem dX6_made_214 : decode cX6_made 214 = .ok (.iadd, 1) := by decide +kernel
theorem dX6_made_215 : decode cX6_made 215 = .ok (.aload_n 0, 1) := by decide +kernel
theorem dX6_made_216 : decode cX6_made 216 = .ok (.iload 4, 2) := by decide +kernel
theorem dX6_made_218 : decode cX6_made 218 = .ok (.invokevirtual 120, 3) := by decide +kernel
theorem dX6_made_221 : decode cX6_made 221 = .ok (.iadd, 1) := by decide +kernel
theorem dX6_made_222 : decode cX6_made 222 = .ok (.aload_n 0, 1) := by decide +kernel
theorem dX6_made_223 : decode cX6_made 223 = .ok (.iload 5, 2) := by decide +kernel
theorem dX6_made_225 : decode cX6_made 225 = .ok (.invokevirtual 120, 3) := by decide +kernel
theorem dX6_made_228 : decode cX6_made 228 = .ok (.iadd, 1) := by decide +kernel
theorem dX6_made_229 : decode cX6_made 229 = .ok (.aload_n 0, 1) := by decide +kernel
theorem dX6_made_230 : decode cX6_made 230 = .ok (.iload 6, 2) := by decide +kernel
theorem dX6_made_232 : decode cX6_made 232 = .ok (.invokevirtual 120, 3) := by decide +kernel
theorem dX6_made_235 : decode cX6_made 235 = .ok (.iadd, 1) := by decide +kernel
theorem dX6_made_236 : decode cX6_made 236 = .ok (.iastore, 1) := by decide +kernel
theorem dX6_made_237 : decode cX6_made 237 = .ok (.aload_n 0, 1) := by decide +kernel
theorem dX6_made_238 : decode cX6_made 238 = .ok (.dup, 1) := by decide +kernel
theorem dX6_made_239 : decode cX6_made 239 = .ok (.getfield 49, 3) := by decide +kernel
theorem dX6_made_242 : decode cX6_made 242 = .ok (.iconst 1, 1) := by decide +kernel
theorem dX6_made_243 : decode cX6_made 243 = .ok (.iadd, 1) := by decide +kernel
theorem dX6_made_244 : decode cX6_made 244 = .ok (.putfield 49, 3) := by decide +kernel
theorem dX6_made_247 : decode cX6_made 247 = .ok (.iload 9, 2) := by decide +kernel
theorem dX6_made_249 : decode cX6_made 249 = .ok (.ireturn, 1) := by decide +kernel
theorem dX6_freeLettersFor_0 : decode cX6_freeLettersFor 0 = .ok (.iload_n 0, 1) := by decide +kernel
theorem dX6_freeLettersFor_1 : decode cX6_freeLettersFor 1 = .ok (.tableswitch 47 1 4 #[31, 33, 47, 39], 31) := by decide +kernel
theorem dX6_freeLettersFor_32 : decode cX6_freeLettersFor 32 = .ok (.iload_n 1, 1) := by decide +kernel
theorem dX6_freeLettersFor_33 : decode cX6_freeLettersFor 33 = .ok (.ireturn, 1) := by decide +kernel
theorem dX6_freeLettersFor_34 : decode cX6_freeLettersFor 34 = .ok (.iload_n 2, 1) := by decide +kernel
theorem dX6_freeLettersFor_35 : decode cX6_freeLettersFor 35 = .ok (.iload_n 1, 1) := by decide +kernel
theorem dX6_freeLettersFor_36 : decode cX6_freeLettersFor 36 = .ok (.iconst (-1), 1) := by decide +kernel
theorem dX6_freeLettersFor_37 : decode cX6_freeLettersFor 37 = .ok (.ixor, 1) := by decide +kernel
theorem dX6_freeLettersFor_38 : decode cX6_freeLettersFor 38 = .ok (.iand, 1) := by decide +kernel
theorem dX6_freeLettersFor_39 : decode cX6_freeLettersFor 39 = .ok (.ireturn, 1) := by decide +kernel
theorem dX6_freeLettersFor_40 : decode cX6_freeLettersFor 40 = .ok (.iload_n 2, 1) := by decide +kernel
theorem dX6_freeLettersFor_41 : decode cX6_freeLettersFor 41 = .ok (.iload_n 3, 1) := by decide +kernel
theorem dX6_freeLettersFor_42 : decode cX6_freeLettersFor 42 = .ok (.iload_n 1, 1) := by decide +kernel
theorem dX6_freeLettersFor_43 : decode cX6_freeLettersFor 43 = .ok (.iconst (-1), 1) := by decide +kernel
theorem dX6_freeLettersFor_44 : decode cX6_freeLettersFor 44 = .ok (.ixor, 1) := by decide +kernel
theorem dX6_freeLettersFor_45 : decode cX6_freeLettersFor 45 = .ok (.iand, 1) := by decide +kernel
theorem dX6_freeLettersFor_46 : decode cX6_freeLettersFor 46 = .ok (.ior, 1) := by decide +kernel
theorem dX6_freeLettersFor_47 : decode cX6_freeLettersFor 47 = .ok (.ireturn, 1) := by decide +kernel
theorem dX6_freeLettersFor_48 : decode cX6_freeLettersFor 48 = .ok (.iload_n 2, 1) := by decide +kernel
theorem dX6_freeLettersFor_49 : decode cX6_freeLettersFor 49 = .ok (.iload_n 3, 1) := by decide +kernel
theorem dX6_freeLettersFor_50 : decode cX6_freeLettersFor 50 = .ok (.ior, 1) := by decide +kernel
theorem dX6_freeLettersFor_51 : decode cX6_freeLettersFor 51 = .ok (.iload 4, 2) := by decide +kernel
theorem dX6_freeLettersFor_53 : decode cX6_freeLettersFor 53 = .ok (.ior, 1) := by decide +kernel
theorem dX6_freeLettersFor_54 : decode cX6_freeLettersFor 54 = .ok (.ireturn, 1) := by decide +kernel
theorem dX6_marksOf_0 : decode cX6_marksOf 0 = .ok (.iload_n 0, 1) := by decide +kernel
theorem dX6_marksOf_1 : decode cX6_marksOf 1 = .ok (.tableswitch 51 1 6 #[39, 41, 43, 45, 47, 49], 39) := by decide +kernel
theorem dX6_marksOf_40 : decode cX6_marksOf 40 = .ok (.iconst 1, 1) := by decide +kernel
theorem dX6_marksOf_41 : decode cX6_marksOf 41 = .ok (.ireturn, 1) := by decide +kernel
theorem dX6_marksOf_42 : decode cX6_marksOf 42 = .ok (.iconst 4, 1) := by decide +kernel
theorem dX6_marksOf_43 : decode cX6_marksOf 43 = .ok (.ireturn, 1) := by decide +kernel
theorem dX6_marksOf_44 : decode cX6_marksOf 44 = .ok (.iconst 3, 1) := by decide +kernel
theorem dX6_marksOf_45 : decode cX6_marksOf 45 = .ok (.ireturn, 1) := by decide +kernel
theorem dX6_marksOf_46 : decode cX6_marksOf 46 = .ok (.iconst 4, 1) := by decide +kernel
theorem dX6_marksOf_47 : decode cX6_marksOf 47 = .ok (.ireturn, 1) := by decide +kernel
theorem dX6_marksOf_48 : decode cX6_marksOf 48 = .ok (.iconst 3, 1) := by decide +kernel
theorem dX6_marksOf_49 : decode cX6_marksOf 49 = .ok (.ireturn, 1) := by decide +kernel
theorem dX6_marksOf_50 : decode cX6_marksOf 50 = .ok (.iconst 4, 1) := by decide +kernel
theorem dX6_marksOf_51 : decode cX6_marksOf 51 = .ok (.ireturn, 1) := by decide +kernel
theorem dX6_marksOf_52 : decode cX6_marksOf 52 = .ok (.iconst 0, 1) := by decide +kernel
theorem dX6_marksOf_53 : decode cX6_marksOf 53 = .ok (.ireturn, 1) := by decide +kernel
theorem dX6_digitsOf_0 : decode cX6_digitsOf 0 = .ok (.iload_n 0, 1) := by decide +kernel
theorem dX6_digitsOf_1 : decode cX6_digitsOf 1 = .ok (.ifCond .ge 7, 3) := by decide +kernel
theorem dX6_digitsOf_4 : decode cX6_digitsOf 4 = .ok (.iconst 2, 1) := by decide +kernel
theorem dX6_digitsOf_5 : decode cX6_digitsOf 5 = .ok (.goto 4, 3) := by decide +kernel
theorem dX6_digitsOf_8 : decode cX6_digitsOf 8 = .ok (.iconst 1, 1) := by decide +kernel
theorem dX6_digitsOf_9 : decode cX6_digitsOf 9 = .ok (.istore_n 1, 1) := by decide +kernel
theorem dX6_digitsOf_10 : decode cX6_digitsOf 10 = .ok (.iload_n 0, 1) := by decide +kernel
theorem dX6_digitsOf_11 : decode cX6_digitsOf 11 = .ok (.bipush 10, 2) := by decide +kernel
theorem dX6_digitsOf_13 : decode cX6_digitsOf 13 = .ok (.idiv, 1) := by decide +kernel
theorem dX6_digitsOf_14 : decode cX6_digitsOf 14 = .ok (.istore_n 2, 1) := by decide +kernel
theorem dX6_digitsOf_15 : decode cX6_digitsOf 15 = .ok (.iconst 0, 1) := by decide +kernel
theorem dX6_digitsOf_16 : decode cX6_digitsOf 16 = .ok (.istore_n 3, 1) := by decide +kernel
theorem dX6_digitsOf_17 : decode cX6_digitsOf 17 = .ok (.iload_n 3, 1) := by decide +kernel
theorem dX6_digitsOf_18 : decode cX6_digitsOf 18 = .ok (.bipush 10, 2) := by decide +kernel
theorem dX6_digitsOf_20 : decode cX6_digitsOf 20 = .ok (.if_icmp .ge 21, 3) := by decide +kernel
theorem dX6_digitsOf_23 : decode cX6_digitsOf 23 = .ok (.iload_n 2, 1) := by decide +kernel
theorem dX6_digitsOf_24 : decode cX6_digitsOf 24 = .ok (.ifCond .eq 17, 3) := by decide +kernel
theorem dX6_digitsOf_27 : decode cX6_digitsOf 27 = .ok (.iload_n 2, 1) := by decide +kernel
theorem dX6_digitsOf_28 : decode cX6_digitsOf 28 = .ok (.bipush 10, 2) := by decide +kernel
theorem dX6_digitsOf_30 : decode cX6_digitsOf 30 = .ok (.idiv, 1) := by decide +kernel
theorem dX6_digitsOf_31 : decode cX6_digitsOf 31 = .ok (.istore_n 2, 1) := by decide +kernel
theorem dX6_digitsOf_32 : decode cX6_digitsOf 32 = .ok (.iinc 1 1, 3) := by decide +kernel
theorem dX6_digitsOf_35 : decode cX6_digitsOf 35 = .ok (.iinc 3 1, 3) := by decide +kernel
theorem dX6_digitsOf_38 : decode cX6_digitsOf 38 = .ok (.goto (-21), 3) := by decide +kernel
theorem dX6_digitsOf_41 : decode cX6_digitsOf 41 = .ok (.iload_n 1, 1) := by decide +kernel
theorem dX6_digitsOf_42 : decode cX6_digitsOf 42 = .ok (.ireturn, 1) := by decide +kernel
theorem dX6_bit_0 : decode cX6_bit 0 = .ok (.iload_n 0, 1) := by decide +kernel
theorem dX6_bit_1 : decode cX6_bit 1 = .ok (.ifCond .lt 15, 3) := by decide +kernel
theorem dX6_bit_4 : decode cX6_bit 4 = .ok (.iload_n 0, 1) := by decide +kernel
theorem dX6_bit_5 : decode cX6_bit 5 = .ok (.bipush 26, 2) := by decide +kernel
theorem dX6_bit_7 : decode cX6_bit 7 = .ok (.if_icmp .ge 9, 3) := by decide +kernel
theorem dX6_bit_10 : decode cX6_bit 10 = .ok (.iconst 1, 1) := by decide +kernel
theorem dX6_bit_11 : decode cX6_bit 11 = .ok (.iload_n 0, 1) := by decide +kernel
theorem dX6_bit_12 : decode cX6_bit 12 = .ok (.ishl, 1) := by decide +kernel
theorem dX6_bit_13 : decode cX6_bit 13 = .ok (.goto 4, 3) := by decide +kernel
theorem dX6_bit_16 : decode cX6_bit 16 = .ok (.iconst 0, 1) := by decide +kernel
theorem dX6_bit_17 : decode cX6_bit 17 = .ok (.ireturn, 1) := by decide +kernel
theorem dX7_init_0 : decode cX7_init 0 = .ok (.aload_n 0, 1) := by decide +kernel
theorem dX7_init_1 : decode cX7_init 1 = .ok (.invokespecial 3, 3) := by decide +kernel
theorem dX7_init_4 : decode cX7_init 4 = .ok (.aload_n 0, 1) := by decide +kernel
theorem dX7_init_5 : decode cX7_init 5 = .ok (.bipush 40, 2) := by decide +kernel
theorem dX7_init_7 : decode cX7_init 7 = .ok (.newarray .int, 2) := by decide +kernel
theorem dX7_init_9 : decode cX7_init 9 = .ok (.putfield 9, 3) := by decide +kernel
theorem dX7_init_12 : decode cX7_init 12 = .ok (.aload_n 0, 1) := by decide +kernel
theorem dX7_init_13 : decode cX7_init 13 = .ok (.bipush 40, 2) := by decide +kernel
theorem dX7_init_15 : decode cX7_init 15 = .ok (.newarray .int, 2) := by decide +kernel
theorem dX7_init_17 : decode cX7_init 17 = .ok (.putfield 15, 3) := by decide +kernel
theorem dX7_init_20 : decode cX7_init 20 = .ok (.aload_n 0, 1) := by decide +kernel
theorem dX7_init_21 : decode cX7_init 21 = .ok (.bipush 40, 2) := by decide +kernel
theorem dX7_init_23 : decode cX7_init 23 = .ok (.newarray .int, 2) := by decide +kernel
theorem dX7_init_25 : decode cX7_init 25 = .ok (.putfield 18, 3) := by decide +kernel
theorem dX7_init_28 : decode cX7_init 28 = .ok (.aload_n 0, 1) := by decide +kernel
theorem dX7_init_29 : decode cX7_init 29 = .ok (.getfield 9, 3) := by decide +kernel
theorem dX7_init_32 : decode cX7_init 32 = .ok (.iconst 0, 1) := by decide +kernel
theorem dX7_init_33 : decode cX7_init 33 = .ok (.bipush (-2), 2) := by decide +kernel
theorem dX7_init_35 : decode cX7_init 35 = .ok (.iastore, 1) := by decide +kernel
theorem dX7_init_36 : decode cX7_init 36 = .ok (.aload_n 0, 1) := by decide +kernel
theorem dX7_init_37 : decode cX7_init 37 = .ok (.getfield 15, 3) := by decide +kernel
theorem dX7_init_40 : decode cX7_init 40 = .ok (.iconst 0, 1) := by decide +kernel
theorem dX7_init_41 : decode cX7_init 41 = .ok (.bipush (-2), 2) := by decide +kernel
theorem dX7_init_43 : decode cX7_init 43 = .ok (.iastore, 1) := by decide +kernel
theorem dX7_init_44 : decode cX7_init 44 = .ok (.aload_n 0, 1) := by decide +kernel
theorem dX7_init_45 : decode cX7_init 45 = .ok (.getfield 18, 3) := by decide +kernel
theorem dX7_init_48 : decode cX7_init 48 = .ok (.iconst 0, 1) := by decide +kernel
theorem dX7_init_49 : decode cX7_init 49 = .ok (.iconst 1, 1) := by decide +kernel
theorem dX7_init_50 : decode cX7_init 50 = .ok (.iastore, 1) := by decide +kernel
theorem dX7_init_51 : decode cX7_init 51 = .ok (.aload_n 0, 1) := by decide +kernel
theorem dX7_init_52 : decode cX7_init 52 = .ok (.iconst 1, 1) := by decide +kernel
theorem dX7_init_53 : decode cX7_init 53 = .ok (.putfield 21, 3) := by decide +kernel
theorem dX7_init_56 : decode cX7_init 56 = .ok (.return_, 1) := by decide +kernel
theorem dX7_total_0 : decode cX7_total 0 = .ok (.aload_n 0, 1) := by decide +kernel
theorem dX7_total_1 : decode cX7_total 1 = .ok (.getfield 21, 3) := by decide +kernel
theorem dX7_total_4 : decode cX7_total 4 = .ok (.ireturn, 1) := by decide +kernel
theorem dX7_has_0 : decode cX7_has 0 = .ok (.iload_n 1, 1) := by decide +kernel
theorem dX7_has_1 : decode cX7_has 1 = .ok (.ifCond .lt 21, 3) := by decide +kernel
theorem dX7_has_4 : decode cX7_has 4 = .ok (.iload_n 1, 1) := by decide +kernel
theorem dX7_has_5 : decode cX7_has 5 = .ok (.aload_n 0, 1) := by decide +kernel
theorem dX7_has_6 : decode cX7_has 6 = .ok (.getfield 21, 3) := by decide +kernel
theorem dX7_has_9 : decode cX7_has 9 = .ok (.if_icmp .ge 13, 3) := by decide +kernel
theorem dX7_has_12 : decode cX7_has 12 = .ok (.iload_n 1, 1) := by decide +kernel
theorem dX7_has_13 : decode cX7_has 13 = .ok (.bipush 40, 2) := by decide +kernel
theorem dX7_has_15 : decode cX7_has 15 = .ok (.if_icmp .ge 7, 3) := by decide +kernel
theorem dX7_has_18 : decode cX7_has 18 = .ok (.iconst 1, 1) := by decide +kernel
theorem dX7_has_19 : decode cX7_has 19 = .ok (.goto 4, 3) := by decide +kernel
theorem dX7_has_22 : decode cX7_has 22 = .ok (.iconst 0, 1) := by decide +kernel
theorem dX7_has_23 : decode cX7_has 23 = .ok (.ireturn, 1) := by decide +kernel
theorem dX7_fromOf_0 : decode cX7_fromOf 0 = .ok (.aload_n 0, 1) := by decide +kernel
theorem dX7_fromOf_1 : decode cX7_fromOf 1 = .ok (.iload_n 1, 1) := by decide +kernel
theorem dX7_fromOf_2 : decode cX7_fromOf 2 = .ok (.invokevirtual 25, 3) := by decide +kernel
theorem dX7_fromOf_5 : decode cX7_fromOf 5 = .ok (.ifCond .eq 12, 3) := by decide +kernel
theorem dX7_fromOf_8 : decode cX7_fromOf 8 = .ok (.aload_n 0, 1) := by decide +kernel
theorem dX7_fromOf_9 : decode cX7_fromOf 9 = .ok (.getfield 9, 3) := by decide +kernel
theorem dX7_fromOf_12 : decode cX7_fromOf 12 = .ok (.iload_n 1, 1) := by decide +kernel
theorem dX7_fromOf_13 : decode cX7_fromOf 13 = .ok (.iaload, 1) := by decide +kernel
theorem dX7_fromOf_14 : decode cX7_fromOf 14 = .ok (.goto 5, 3) := by decide +kernel
theorem dX7_fromOf_17 : decode cX7_fromOf 17 = .ok (.bipush (-2), 2) := by decide +kernel
theorem dX7_fromOf_19 : decode cX7_fromOf 19 = .ok (.ireturn, 1) := by decide +kernel
theorem dX7_toOf_0 : decode cX7_toOf 0 = .ok (.aload_n 0, 1) := by decide +kernel
theorem dX7_toOf_1 : decode cX7_toOf 1 = .ok (.iload_n 1, 1) := by decide +kernel
theorem dX7_toOf_2 : decode cX7_toOf 2 = .ok (.invokevirtual 25, 3) := by decide +kernel
theorem dX7_toOf_5 : decode cX7_toOf 5 = .ok (.ifCond .eq 12, 3) := by decide +kernel
theorem dX7_toOf_8 : decode cX7_toOf 8 = .ok (.aload_n 0, 1) := by decide +kernel
theorem dX7_toOf_9 : decode cX7_toOf 9 = .ok (.getfield 15, 3) := by decide +kernel
theorem dX7_toOf_12 : decode cX7_toOf 12 = .ok (.iload_n 1, 1) := by decide +kernel
theorem dX7_toOf_13 : decode cX7_toOf 13 = .ok (.iaload, 1) := by decide +kernel
theorem dX7_toOf_14 : decode cX7_toOf 14 = .ok (.goto 5, 3) := by decide +kernel
theorem dX7_toOf_17 : decode cX7_toOf 17 = .ok (.bipush (-2), 2) := by decide +kernel
theorem dX7_toOf_19 : decode cX7_toOf 19 = .ok (.ireturn, 1) := by decide +kernel
theorem dX7_lengthOf_0 : decode cX7_lengthOf 0 = .ok (.aload_n 0, 1) := by decide +kernel
theorem dX7_lengthOf_1 : decode cX7_lengthOf 1 = .ok (.iload_n 1, 1) := by decide +kernel
theorem dX7_lengthOf_2 : decode cX7_lengthOf 2 = .ok (.invokevirtual 25, 3) := by decide +kernel
theorem dX7_lengthOf_5 : decode cX7_lengthOf 5 = .ok (.ifCond .eq 12, 3) := by decide +kernel
theorem dX7_lengthOf_8 : decode cX7_lengthOf 8 = .ok (.aload_n 0, 1) := by decide +kernel
theorem dX7_lengthOf_9 : decode cX7_lengthOf 9 = .ok (.getfield 18, 3) := by decide +kernel
theorem dX7_lengthOf_12 : decode cX7_lengthOf 12 = .ok (.iload_n 1, 1) := by decide +kernel
theorem dX7_lengthOf_13 : decode cX7_lengthOf 13 = .ok (.iaload, 1) := by decide +kernel
theorem dX7_lengthOf_14 : decode cX7_lengthOf 14 = .ok (.goto 4, 3) := by decide +kernel
theorem dX7_lengthOf_17 : decode cX7_lengthOf 17 = .ok (.iconst 0, 1) := by decide +kernel
theorem dX7_lengthOf_18 : decode cX7_lengthOf 18 = .ok (.ireturn, 1) := by decide +kernel
theorem dX7_arrowOf_0 : decode cX7_arrowOf 0 = .ok (.iconst 0, 1) := by decide +kernel
theorem dX7_arrowOf_1 : decode cX7_arrowOf 1 = .ok (.istore_n 3, 1) := by decide +kernel
theorem dX7_arrowOf_2 : decode cX7_arrowOf 2 = .ok (.iload_n 3, 1) := by decide +kernel
theorem dX7_arrowOf_3 : decode cX7_arrowOf 3 = .ok (.aload_n 0, 1) := by decide +kernel
theorem dX7_arrowOf_4 : decode cX7_arrowOf 4 = .ok (.getfield 21, 3) := by decide +kernel
theorem dX7_arrowOf_7 : decode cX7_arrowOf 7 = .ok (.if_icmp .ge 37, 3) := by decide +kernel
theorem dX7_arrowOf_10 : decode cX7_arrowOf 10 = .ok (.iload_n 3, 1) := by decide +kernel
theorem dX7_arrowOf_11 : decode cX7_arrowOf 11 = .ok (.bipush 40, 2) := by decide +kernel
theorem dX7_arrowOf_13 : decode cX7_arrowOf 13 = .ok (.if_icmp .ge 31, 3) := by decide +kernel
theorem dX7_arrowOf_16 : decode cX7_arrowOf 16 = .ok (.aload_n 0, 1) := by decide +kernel
theorem dX7_arrowOf_17 : decode cX7_arrowOf 17 = .ok (.getfield 9, 3) := by decide +kernel
theorem dX7_arrowOf_20 : decode cX7_arrowOf 20 = .ok (.iload_n 3, 1) := by decide +kernel
theorem dX7_arrowOf_21 : decode cX7_arrowOf 21 = .ok (.iaload, 1) := by decide +kernel
theorem dX7_arrowOf_22 : decode cX7_arrowOf 22 = .ok (.iload_n 1, 1) := by decide +kernel
theorem dX7_arrowOf_23 : decode cX7_arrowOf 23 = .ok (.if_icmp .ne 15, 3) := by decide +kernel
theorem dX7_arrowOf_26 : decode cX7_arrowOf 26 = .ok (.aload_n 0, 1) := by decide +kernel
theorem dX7_arrowOf_27 : decode cX7_arrowOf 27 = .ok (.getfield 15, 3) := by decide +kernel
theorem dX7_arrowOf_30 : decode cX7_arrowOf 30 = .ok (.iload_n 3, 1) := by decide +kernel
theorem dX7_arrowOf_31 : decode cX7_arrowOf 31 = .ok (.iaload, 1) := by decide +kernel
theorem dX7_arrowOf_32 : decode cX7_arrowOf 32 = .ok (.iload_n 2, 1) := by decide +kernel
theorem dX7_arrowOf_33 : decode cX7_arrowOf 33 = .ok (.if_icmp .ne 5, 3) := by decide +kernel
theorem dX7_arrowOf_36 : decode cX7_arrowOf 36 = .ok (.iload_n 3, 1) := by decide +kernel
theorem dX7_arrowOf_37 : decode cX7_arrowOf 37 = .ok (.ireturn, 1) := by decide +kernel
theorem dX7_arrowOf_38 : decode cX7_arrowOf 38 = .ok (.iinc 3 1, 3) := by decide +kernel
theorem dX7_arrowOf_41 : decode cX7_arrowOf 41 = .ok (.goto (-39), 3) := by decide +kernel
theorem dX7_arrowOf_44 : decode cX7_arrowOf 44 = .ok (.aload_n 0, 1) := by decide +kernel
theorem dX7_arrowOf_45 : decode cX7_arrowOf 45 = .ok (.iload_n 1, 1) := by decide +kernel
theorem dX7_arrowOf_46 : decode cX7_arrowOf 46 = .ok (.invokevirtual 29, 3) := by decide +kernel
theorem dX7_arrowOf_49 : decode cX7_arrowOf 49 = .ok (.aload_n 0, 1) := by decide +kernel
theorem dX7_arrowOf_50 : decode cX7_arrowOf 50 = .ok (.iload_n 2, 1) := by decide +kernel
theorem dX7_arrowOf_51 : decode cX7_arrowOf 51 = .ok (.invokevirtual 29, 3) := by decide +kernel
theorem dX7_arrowOf_54 : decode cX7_arrowOf 54 = .ok (.iadd, 1) := by decide +kernel
theorem dX7_arrowOf_55 : decode cX7_arrowOf 55 = .ok (.iconst 3, 1) := by decide +kernel
theorem dX7_arrowOf_56 : decode cX7_arrowOf 56 = .ok (.iadd, 1) := by decide +kernel
theorem dX7_arrowOf_57 : decode cX7_arrowOf 57 = .ok (.istore_n 3, 1) := by decide +kernel
theorem dX7_arrowOf_58 : decode cX7_arrowOf 58 = .ok (.aload_n 0, 1) := by decide +kernel
theorem dX7_arrowOf_59 : decode cX7_arrowOf 59 = .ok (.getfield 21, 3) := by decide +kernel
theorem dX7_arrowOf_62 : decode cX7_arrowOf 62 = .ok (.bipush 40, 2) := by decide +kernel
theorem dX7_arrowOf_64 : decode cX7_arrowOf 64 = .ok (.if_icmp .ge 9, 3) := by decide +kernel
theorem dX7_arrowOf_67 : decode cX7_arrowOf 67 = .ok (.iload_n 3, 1) := by decide +kernel
theorem dX7_arrowOf_68 : decode cX7_arrowOf 68 = .ok (.bipush 40, 2) := by decide +kernel
theorem dX7_arrowOf_70 : decode cX7_arrowOf 70 = .ok (.if_icmp .le 6, 3) := by decide +kernel
theorem dX7_arrowOf_73 : decode cX7_arrowOf 73 = .ok (.bipush (-3), 2) := by decide +kernel
theorem dX7_arrowOf_75 : decode cX7_arrowOf 75 = .ok (.ireturn, 1) := by decide +kernel
theorem dX7_arrowOf_76 : decode cX7_arrowOf 76 = .ok (.aload_n 0, 1) := by decide +kernel
theorem dX7_arrowOf_77 : decode cX7_arrowOf 77 = .ok (.getfield 9, 3) := by decide +kernel
theorem dX7_arrowOf_80 : decode cX7_arrowOf 80 = .ok (.aload_n 0, 1) := by decide +kernel
theorem dX7_arrowOf_81 : decode cX7_arrowOf 81 = .ok (.getfield 21, 3) := by decide +kernel
theorem dX7_arrowOf_84 : decode cX7_arrowOf 84 = .ok (.iload_n 1, 1) := by decide +kernel
theorem dX7_arrowOf_85 : decode cX7_arrowOf 85 = .ok (.iastore, 1) := by decide +kernel
theorem dX7_arrowOf_86 : decode cX7_arrowOf 86 = .ok (.aload_n 0, 1) := by decide +kernel
theorem dX7_arrowOf_87 : decode cX7_arrowOf 87 = .ok (.getfield 15, 3) := by decide +kernel
theorem dX7_arrowOf_90 : decode cX7_arrowOf 90 = .ok (.aload_n 0, 1) := by decide +kernel
theorem dX7_arrowOf_91 : decode cX7_arrowOf 91 = .ok (.getfield 21, 3) := by decide +kernel
theorem dX7_arrowOf_94 : decode cX7_arrowOf 94 = .ok (.iload_n 2, 1) := by decide +kernel
theorem dX7_arrowOf_95 : decode cX7_arrowOf 95 = .ok (.iastore, 1) := by decide +kernel
theorem dX7_arrowOf_96 : decode cX7_arrowOf 96 = .ok (.aload_n 0, 1) := by decide +kernel
theorem dX7_arrowOf_97 : decode cX7_arrowOf 97 = .ok (.getfield 18, 3) := by decide +kernel
theorem dX7_arrowOf_100 : decode cX7_arrowOf 100 = .ok (.aload_n 0, 1) := by decide +kernel
theorem dX7_arrowOf_101 : decode cX7_arrowOf 101 = .ok (.getfield 21, 3) := by decide +kernel
theorem dX7_arrowOf_104 : decode cX7_arrowOf 104 = .ok (.iload_n 3, 1) := by decide +kernel
theorem dX7_arrowOf_105 : decode cX7_arrowOf 105 = .ok (.iastore, 1) := by decide +kernel
theorem dX7_arrowOf_106 : decode cX7_arrowOf 106 = .ok (.aload_n 0, 1) := by decide +kernel
theorem dX7_arrowOf_107 : decode cX7_arrowOf 107 = .ok (.dup, 1) := by decide +kernel
theorem dX7_arrowOf_108 : decode cX7_arrowOf 108 = .ok (.getfield 21, 3) := by decide +kernel
theorem dX7_arrowOf_111 : decode cX7_arrowOf 111 = .ok (.iconst 1, 1) := by decide +kernel
theorem dX7_arrowOf_112 : decode cX7_arrowOf 112 = .ok (.iadd, 1) := by decide +kernel
theorem dX7_arrowOf_113 : decode cX7_arrowOf 113 = .ok (.putfield 21, 3) := by decide +kernel
theorem dX7_arrowOf_116 : decode cX7_arrowOf 116 = .ok (.aload_n 0, 1) := by decide +kernel
theorem dX7_arrowOf_117 : decode cX7_arrowOf 117 = .ok (.getfield 21, 3) := by decide +kernel
theorem dX7_arrowOf_120 : decode cX7_arrowOf 120 = .ok (.iconst 1, 1) := by decide +kernel
theorem dX7_arrowOf_121 : decode cX7_arrowOf 121 = .ok (.isub, 1) := by decide +kernel
theorem dX7_arrowOf_122 : decode cX7_arrowOf 122 = .ok (.ireturn, 1) := by decide +kernel
theorem dX7_cutTo_0 : decode cX7_cutTo 0 = .ok (.iload_n 1, 1) := by decide +kernel
theorem dX7_cutTo_1 : decode cX7_cutTo 1 = .ok (.iconst 1, 1) := by decide +kernel
theorem dX7_cutTo_2 : decode cX7_cutTo 2 = .ok (.if_icmp .lt 16, 3) := by decide +kernel
theorem dX7_cutTo_5 : decode cX7_cutTo 5 = .ok (.iload_n 1, 1) := by decide +kernel
theorem dX7_cutTo_6 : decode cX7_cutTo 6 = .ok (.aload_n 0, 1) := by decide +kernel
theorem dX7_cutTo_7 : decode cX7_cutTo 7 = .ok (.getfield 21, 3) := by decide +kernel
theorem dX7_cutTo_10 : decode cX7_cutTo 10 = .ok (.if_icmp .ge 8, 3) := by decide +kernel
theorem dX7_cutTo_13 : decode cX7_cutTo 13 = .ok (.aload_n 0, 1) := by decide +kernel
theorem dX7_cutTo_14 : decode cX7_cutTo 14 = .ok (.iload_n 1, 1) := by decide +kernel
theorem dX7_cutTo_15 : decode cX7_cutTo 15 = .ok (.putfield 21, 3) := by decide +kernel
theorem dX7_cutTo_18 : decode cX7_cutTo 18 = .ok (.return_, 1) := by decide +kernel
theorem dX8_init_0 : decode cX8_init 0 = .ok (.aload_n 0, 1) := by decide +kernel
theorem dX8_init_1 : decode cX8_init 1 = .ok (.invokespecial 3, 3) := by decide +kernel
theorem dX8_init_4 : decode cX8_init 4 = .ok (.aload_n 0, 1) := by decide +kernel
theorem dX8_init_5 : decode cX8_init 5 = .ok (.bipush 26, 2) := by decide +kernel
theorem dX8_init_7 : decode cX8_init 7 = .ok (.newarray .int, 2) := by decide +kernel
theorem dX8_init_9 : decode cX8_init 9 = .ok (.putfield 9, 3) := by decide +kernel
theorem dX8_init_12 : decode cX8_init 12 = .ok (.aload_n 0, 1) := by decide +kernel
theorem dX8_init_13 : decode cX8_init 13 = .ok (.bipush 26, 2) := by decide +kernel
theorem dX8_init_15 : decode cX8_init 15 = .ok (.newarray .int, 2) := by decide +kernel
theorem dX8_init_17 : decode cX8_init 17 = .ok (.putfield 15, 3) := by decide +kernel
theorem dX8_init_20 : decode cX8_init 20 = .ok (.aload_n 0, 1) := by decide +kernel
theorem dX8_init_21 : decode cX8_init 21 = .ok (.aload_n 1, 1) := by decide +kernel
theorem dX8_init_22 : decode cX8_init 22 = .ok (.putfield 18, 3) := by decide +kernel
theorem dX8_init_25 : decode cX8_init 25 = .ok (.aload_n 0, 1) := by decide +kernel
theorem dX8_init_26 : decode cX8_init 26 = .ok (.aload_n 2, 1) := by decide +kernel
theorem dX8_init_27 : decode cX8_init 27 = .ok (.putfield 22, 3) := by decide +kernel
theorem dX8_init_30 : decode cX8_init 30 = .ok (.iconst 0, 1) := by decide +kernel
theorem dX8_init_31 : decode cX8_init 31 = .ok (.istore_n 3, 1) := by decide +kernel
theorem dX8_init_32 : decode cX8_init 32 = .ok (.iload_n 3, 1) := by decide +kernel
theorem dX8_init_33 : decode cX8_init 33 = .ok (.bipush 26, 2) := by decide +kernel
theorem dX8_init_35 : decode cX8_init 35 = .ok (.if_icmp .ge 17, 3) := by decide +kernel
theorem dX8_init_38 : decode cX8_init 38 = .ok (.aload_n 0, 1) := by decide +kernel
theorem dX8_init_39 : decode cX8_init 39 = .ok (.getfield 9, 3) := by decide +kernel
theorem dX8_init_42 : decode cX8_init 42 = .ok (.iload_n 3, 1) := by decide +kernel
theorem dX8_init_43 : decode cX8_init 43 = .ok (.bipush (-2), 2) := by decide +kernel
theorem dX8_init_45 : decode cX8_init 45 = .ok (.iastore, 1) := by decide +kernel
theorem dX8_init_46 : decode cX8_init 46 = .ok (.iinc 3 1, 3) := by decide +kernel
theorem dX8_init_49 : decode cX8_init 49 = .ok (.goto (-17), 3) := by decide +kernel
theorem dX8_init_52 : decode cX8_init 52 = .ok (.aload_n 0, 1) := by decide +kernel
theorem dX8_init_53 : decode cX8_init 53 = .ok (.iconst 0, 1) := by decide +kernel
theorem dX8_init_54 : decode cX8_init 54 = .ok (.putfield 26, 3) := by decide +kernel
theorem dX8_init_57 : decode cX8_init 57 = .ok (.aload_n 0, 1) := by decide +kernel
theorem dX8_init_58 : decode cX8_init 58 = .ok (.bipush (-2), 2) := by decide +kernel
theorem dX8_init_60 : decode cX8_init 60 = .ok (.putfield 30, 3) := by decide +kernel
theorem dX8_init_63 : decode cX8_init 63 = .ok (.return_, 1) := by decide +kernel
theorem dX8_setDeclared_0 : decode cX8_setDeclared 0 = .ok (.iload_n 1, 1) := by decide +kernel
theorem dX8_setDeclared_1 : decode cX8_setDeclared 1 = .ok (.invokestatic 33, 3) := by decide +kernel
theorem dX8_setDeclared_4 : decode cX8_setDeclared 4 = .ok (.ifCond .eq 10, 3) := by decide +kernel
theorem dX8_setDeclared_7 : decode cX8_setDeclared 7 = .ok (.aload_n 0, 1) := by decide +kernel
theorem dX8_setDeclared_8 : decode cX8_setDeclared 8 = .ok (.getfield 9, 3) := by decide +kernel
theorem dX8_setDeclared_11 : decode cX8_setDeclared 11 = .ok (.iload_n 1, 1) := by decide +kernel
theorem dX8_setDeclared_12 : decode cX8_setDeclared 12 = .ok (.iload_n 2, 1) := by decide +kernel
theorem dX8_setDeclared_13 : decode cX8_setDeclared 13 = .ok (.iastore, 1) := by decide +kernel
theorem dX8_setDeclared_14 : decode cX8_setDeclared 14 = .ok (.return_, 1) := by decide +kernel
theorem dX8_latestFault_0 : decode cX8_latestFault 0 = .ok (.aload_n 0, 1) := by decide +kernel
theorem dX8_latestFault_1 : decode cX8_latestFault 1 = .ok (.getfield 26, 3) := by decide +kernel
theorem dX8_latestFault_4 : decode cX8_latestFault 4 = .ok (.ireturn, 1) := by decide +kernel
theorem dX8_latestFaultAt_0 : decode cX8_latestFaultAt 0 = .ok (.aload_n 0, 1) := by decide +kernel
theorem dX8_latestFaultAt_1 : decode cX8_latestFaultAt 1 = .ok (.getfield 30, 3) := by decide +kernel
theorem dX8_latestFaultAt_4 : decode cX8_latestFaultAt 4 = .ok (.ireturn, 1) := by decide +kernel
theorem dX8_wholeTypeOf_0 : decode cX8_wholeTypeOf 0 = .ok (.aload_n 0, 1) := by decide +kernel
theorem dX8_wholeTypeOf_1 : decode cX8_wholeTypeOf 1 = .ok (.iconst 0, 1) := by decide +kernel
theorem dX8_wholeTypeOf_2 : decode cX8_wholeTypeOf 2 = .ok (.putfield 26, 3) := by decide +kernel
theorem dX8_wholeTypeOf_5 : decode cX8_wholeTypeOf 5 = .ok (.aload_n 0, 1) := by decide +kernel
theorem dX8_wholeTypeOf_6 : decode cX8_wholeTypeOf 6 = .ok (.bipush (-2), 2) := by decide +kernel
theorem dX8_wholeTypeOf_8 : decode cX8_wholeTypeOf 8 = .ok (.putfield 30, 3) := by decide +kernel
theorem dX8_wholeTypeOf_11 : decode cX8_wholeTypeOf 11 = .ok (.iconst 0, 1) := by decide +kernel
theorem dX8_wholeTypeOf_12 : decode cX8_wholeTypeOf 12 = .ok (.istore_n 2, 1) := by decide +kernel
theorem dX8_wholeTypeOf_13 : decode cX8_wholeTypeOf 13 = .ok (.iload_n 2, 1) := by decide +kernel
theorem dX8_wholeTypeOf_14 : decode cX8_wholeTypeOf 14 = .ok (.bipush 26, 2) := by decide +kernel
theorem dX8_wholeTypeOf_16 : decode cX8_wholeTypeOf 16 = .ok (.if_icmp .ge 21, 3) := by decide +kernel
theorem dX8_wholeTypeOf_19 : decode cX8_wholeTypeOf 19 = .ok (.aload_n 0, 1) := by decide +kernel
theorem dX8_wholeTypeOf_20 : decode cX8_wholeTypeOf 20 = .ok (.getfield 15, 3) := by decide +kernel
theorem dX8_wholeTypeOf_23 : decode cX8_wholeTypeOf 23 = .ok (.iload_n 2, 1) := by decide +kernel
theorem dX8_wholeTypeOf_24 : decode cX8_wholeTypeOf 24 = .ok (.aload_n 0, 1) := by decide +kernel
theorem dX8_wholeTypeOf_25 : decode cX8_wholeTypeOf 25 = .ok (.getfield 9, 3) := by decide +kernel
theorem dX8_wholeTypeOf_28 : decode cX8_wholeTypeOf 28 = .ok (.iload_n 2, 1) := by decide +kernel
theorem dX8_wholeTypeOf_29 : decode cX8_wholeTypeOf 29 = .ok (.iaload, 1) := by decide +kernel
theorem dX8_wholeTypeOf_30 : decode cX8_wholeTypeOf 30 = .ok (.iastore, 1) := by decide +kernel
theorem dX8_wholeTypeOf_31 : decode cX8_wholeTypeOf 31 = .ok (.iinc 2 1, 3) := by decide +kernel
theorem dX8_wholeTypeOf_34 : decode cX8_wholeTypeOf 34 = .ok (.goto (-21), 3) := by decide +kernel
theorem dX8_wholeTypeOf_37 : decode cX8_wholeTypeOf 37 = .ok (.aload_n 0, 1) := by decide +kernel
theorem dX8_wholeTypeOf_38 : decode cX8_wholeTypeOf 38 = .ok (.getfield 18, 3) := by decide +kernel
theorem dX8_wholeTypeOf_41 : decode cX8_wholeTypeOf 41 = .ok (.invokevirtual 37, 3) := by decide +kernel
theorem dX8_wholeTypeOf_44 : decode cX8_wholeTypeOf 44 = .ok (.istore_n 2, 1) := by decide +kernel
theorem dX8_wholeTypeOf_45 : decode cX8_wholeTypeOf 45 = .ok (.aload_n 0, 1) := by decide +kernel
theorem dX8_wholeTypeOf_46 : decode cX8_wholeTypeOf 46 = .ok (.iload_n 1, 1) := by decide +kernel
theorem dX8_wholeTypeOf_47 : decode cX8_wholeTypeOf 47 = .ok (.invokevirtual 43, 3) := by decide +kernel
theorem dX8_wholeTypeOf_50 : decode cX8_wholeTypeOf 50 = .ok (.istore_n 3, 1) := by decide +kernel
theorem dX8_wholeTypeOf_51 : decode cX8_wholeTypeOf 51 = .ok (.iload_n 3, 1) := by decide +kernel
theorem dX8_wholeTypeOf_52 : decode cX8_wholeTypeOf 52 = .ok (.ifCond .ge 11, 3) := by decide +kernel
theorem dX8_wholeTypeOf_55 : decode cX8_wholeTypeOf 55 = .ok (.aload_n 0, 1) := by decide +kernel
theorem dX8_wholeTypeOf_56 : decode cX8_wholeTypeOf 56 = .ok (.getfield 18, 3) := by decide +kernel
theorem dX8_wholeTypeOf_59 : decode cX8_wholeTypeOf 59 = .ok (.iload_n 2, 1) := by decide +kernel
theorem dX8_wholeTypeOf_60 : decode cX8_wholeTypeOf 60 = .ok (.invokevirtual 47, 3) := by decide +kernel
theorem dX8_wholeTypeOf_63 : decode cX8_wholeTypeOf 63 = .ok (.iload_n 3, 1) := by decide +kernel
theorem dX8_wholeTypeOf_64 : decode cX8_wholeTypeOf 64 = .ok (.ireturn, 1) := by decide +kernel
theorem dX8_typeFor_0 : decode cX8_typeFor 0 = .ok (.aload_n 0, 1) := by decide +kernel
theorem dX8_typeFor_1 : decode cX8_typeFor 1 = .ok (.getfield 22, 3) := by decide +kernel
theorem dX8_typeFor_4 : decode cX8_typeFor 4 = .ok (.iload_n 1, 1) := by decide +kernel
theorem dX8_typeFor_5 : decode cX8_typeFor 5 = .ok (.invokevirtual 51, 3) := by decide +kernel
theorem dX8_typeFor_8 : decode cX8_typeFor 8 = .ok (.tableswitch 82 0 6 #[44, 46, 52, 58, 64, 70, 76], 44) := by decide +kernel
theorem dX8_typeFor_52 : decode cX8_typeFor 52 = .ok (.iconst 0, 1) := by decide +kernel
theorem dX8_typeFor_53 : decode cX8_typeFor 53 = .ok (.ireturn, 1) := by decide +kernel
theorem dX8_typeFor_54 : decode cX8_typeFor 54 = .ok (.aload_n 0, 1) := by decide +kernel
theorem dX8_typeFor_55 : decode cX8_typeFor 55 = .ok (.iload_n 1, 1) := by decide +kernel
theorem dX8_typeFor_56 : decode cX8_typeFor 56 = .ok (.invokevirtual 56, 3) := by decide +kernel
theorem dX8_typeFor_59 : decode cX8_typeFor 59 = .ok (.ireturn, 1) := by decide +kernel
theorem dX8_typeFor_60 : decode cX8_typeFor 60 = .ok (.aload_n 0, 1) := by decide +kernel
theorem dX8_typeFor_61 : decode cX8_typeFor 61 = .ok (.iload_n 1, 1) := by decide +kernel
theorem dX8_typeFor_62 : decode cX8_typeFor 62 = .ok (.invokevirtual 59, 3) := by decide +kernel
theorem dX8_typeFor_65 : decode cX8_typeFor 65 = .ok (.ireturn, 1) := by decide +kernel
theorem dX8_typeFor_66 : decode cX8_typeFor 66 = .ok (.aload_n 0, 1) := by decide +kernel
theorem dX8_typeFor_67 : decode cX8_typeFor 67 = .ok (.iload_n 1, 1) := by decide +kernel
theorem dX8_typeFor_68 : decode cX8_typeFor 68 = .ok (.invokevirtual 62, 3) := by decide +kernel
theorem dX8_typeFor_71 : decode cX8_typeFor 71 = .ok (.ireturn, 1) := by decide +kernel
theorem dX8_typeFor_72 : decode cX8_typeFor 72 = .ok (.aload_n 0, 1) := by decide +kernel
theorem dX8_typeFor_73 : decode cX8_typeFor 73 = .ok (.iload_n 1, 1) := by decide +kernel
theorem dX8_typeFor_74 : decode cX8_typeFor 74 = .ok (.invokevirtual 65, 3) := by decide +kernel
theorem dX8_typeFor_77 : decode cX8_typeFor 77 = .ok (.ireturn, 1) := by decide +kernel
theorem dX8_typeFor_78 : decode cX8_typeFor 78 = .ok (.aload_n 0, 1) := by decide +kernel
theorem dX8_typeFor_79 : decode cX8_typeFor 79 = .ok (.iload_n 1, 1) := by decide +kernel
theorem dX8_typeFor_80 : decode cX8_typeFor 80 = .ok (.invokevirtual 68, 3) := by decide +kernel
theorem dX8_typeFor_83 : decode cX8_typeFor 83 = .ok (.ireturn, 1) := by decide +kernel
theorem dX8_typeFor_84 : decode cX8_typeFor 84 = .ok (.aload_n 0, 1) := by decide +kernel
theorem dX8_typeFor_85 : decode cX8_typeFor 85 = .ok (.iload_n 1, 1) := by decide +kernel
theorem dX8_typeFor_86 : decode cX8_typeFor 86 = .ok (.invokevirtual 71, 3) := by decide +kernel
theorem dX8_typeFor_89 : decode cX8_typeFor 89 = .ok (.ireturn, 1) := by decide +kernel
theorem dX8_typeFor_90 : decode cX8_typeFor 90 = .ok (.bipush (-2), 2) := by decide +kernel
theorem dX8_typeFor_92 : decode cX8_typeFor 92 = .ok (.ireturn, 1) := by decide +kernel
theorem dX8_typeForName_0 : decode cX8_typeForName 0 = .ok (.aload_n 0, 1) := by decide +kernel
theorem dX8_typeForName_1 : decode cX8_typeForName 1 = .ok (.aload_n 0, 1) := by decide +kernel
theorem dX8_typeForName_2 : decode cX8_typeForName 2 = .ok (.getfield 22, 3) := by decide +kernel
theorem dX8_typeForName_5 : decode cX8_typeForName 5 = .ok (.iload_n 1, 1) := by decide +kernel
theorem dX8_typeForName_6 : decode cX8_typeForName 6 = .ok (.invokevirtual 74, 3) := by decide +kernel
theorem dX8_typeForName_9 : decode cX8_typeForName 9 = .ok (.invokevirtual 77, 3) := by decide +kernel
theorem dX8_typeForName_12 : decode cX8_typeForName 12 = .ok (.istore_n 2, 1) := by decide +kernel
theorem dX8_typeForName_13 : decode cX8_typeForName 13 = .ok (.iload_n 2, 1) := by decide +kernel
theorem dX8_typeForName_14 : decode cX8_typeForName 14 = .ok (.ifCond .ge 12, 3) := by decide +kernel
theorem dX8_typeForName_17 : decode cX8_typeForName 17 = .ok (.aload_n 0, 1) := by decide +kernel
theorem dX8_typeForName_18 : decode cX8_typeForName 18 = .ok (.iconst 1, 1) := by decide +kernel
theorem dX8_typeForName_19 : decode cX8_typeForName 19 = .ok (.iload_n 1, 1) := by decide +kernel
theorem dX8_typeForName_20 : decode cX8_typeForName 20 = .ok (.invokevirtual 80, 3) := by decide +kernel
theorem dX8_typeForName_23 : decode cX8_typeForName 23 = .ok (.goto 4, 3) := by decide +kernel
theorem dX8_typeForName_26 : decode cX8_typeForName 26 = .ok (.iload_n 2, 1) := by decide +kernel
theorem dX8_typeForName_27 : decode cX8_typeForName 27 = .ok (.ireturn, 1) := by decide +kernel
theorem dX8_typeForFunction_0 : decode cX8_typeForFunction 0 = .ok (.aload_n 0, 1) := by decide +kernel
theorem dX8_typeForFunction_1 : decode cX8_typeForFunction 1 = .ok (.getfield 22, 3) := by decide +kernel
theorem dX8_typeForFunction_4 : decode cX8_typeForFunction 4 = .ok (.iload_n 1, 1) := by decide +kernel
theorem dX8_typeForFunction_5 : decode cX8_typeForFunction 5 = .ok (.invokevirtual 84, 3) := by decide +kernel
theorem dX8_typeForFunction_8 : decode cX8_typeForFunction 8 = .ok (.istore_n 2, 1) := by decide +kernel
theorem dX8_typeForFunction_9 : decode cX8_typeForFunction 9 = .ok (.aload_n 0, 1) := by decide +kernel
theorem dX8_typeForFunction_10 : decode cX8_typeForFunction 10 = .ok (.aload_n 0, 1) := by decide +kernel
theorem dX8_typeForFunction_11 : decode cX8_typeForFunction 11 = .ok (.getfield 22, 3) := by decide +kernel
theorem dX8_typeForFunction_14 : decode cX8_typeForFunction 14 = .ok (.iload_n 1, 1) := by decide +kernel
theorem dX8_typeForFunction_15 : decode cX8_typeForFunction 15 = .ok (.invokevirtual 74, 3) := by decide +kernel
theorem dX8_typeForFunction_18 : decode cX8_typeForFunction 18 = .ok (.iload_n 2, 1) := by decide +kernel
theorem dX8_typeForFunction_19 : decode cX8_typeForFunction 19 = .ok (.aload_n 0, 1) := by decide +kernel
theorem dX8_typeForFunction_20 : decode cX8_typeForFunction 20 = .ok (.getfield 22, 3) := by decide +kernel
theorem dX8_typeForFunction_23 : decode cX8_typeForFunction 23 = .ok (.iload_n 1, 1) := by decide +kernel
theorem dX8_typeForFunction_24 : decode cX8_typeForFunction 24 = .ok (.invokevirtual 87, 3) := by decide +kernel
theorem dX8_typeForFunction_27 : decode cX8_typeForFunction 27 = .ok (.invokevirtual 90, 3) := by decide +kernel
theorem dX8_typeForFunction_30 : decode cX8_typeForFunction 30 = .ok (.istore_n 3, 1) := by decide +kernel
theorem dX8_typeForFunction_31 : decode cX8_typeForFunction 31 = .ok (.iload_n 3, 1) := by decide +kernel
theorem dX8_typeForFunction_32 : decode cX8_typeForFunction 32 = .ok (.ifCond .ge 7, 3) := by decide +kernel
theorem dX8_typeForFunction_35 : decode cX8_typeForFunction 35 = .ok (.iload_n 3, 1) := by decide +kernel
theorem dX8_typeForFunction_36 : decode cX8_typeForFunction 36 = .ok (.goto 12, 3) := by decide +kernel
theorem dX8_typeForFunction_39 : decode cX8_typeForFunction 39 = .ok (.aload_n 0, 1) := by decide +kernel
theorem dX8_typeForFunction_40 : decode cX8_typeForFunction 40 = .ok (.getfield 18, 3) := by decide +kernel
theorem dX8_typeForFunction_43 : decode cX8_typeForFunction 43 = .ok (.iload_n 2, 1) := by decide +kernel
theorem dX8_typeForFunction_44 : decode cX8_typeForFunction 44 = .ok (.iload_n 3, 1) := by decide +kernel
theorem dX8_typeForFunction_45 : decode cX8_typeForFunction 45 = .ok (.invokevirtual 94, 3) := by decide +kernel
theorem dX8_typeForFunction_48 : decode cX8_typeForFunction 48 = .ok (.ireturn, 1) := by decide +kernel
theorem dX8_typeForCall_0 : decode cX8_typeForCall 0 = .ok (.aload_n 0, 1) := by decide +kernel
theorem dX8_typeForCall_1 : decode cX8_typeForCall 1 = .ok (.getfield 22, 3) := by decide +kernel
theorem dX8_typeForCall_4 : decode cX8_typeForCall 4 = .ok (.iload_n 1, 1) := by decide +kernel
theorem dX8_typeForCall_5 : decode cX8_typeForCall 5 = .ok (.invokevirtual 87, 3) := by decide +kernel
theorem dX8_typeForCall_8 : decode cX8_typeForCall 8 = .ok (.istore_n 2, 1) := by decide +kernel
theorem dX8_typeForCall_9 : decode cX8_typeForCall 9 = .ok (.aload_n 0, 1) := by decide +kernel
theorem dX8_typeForCall_10 : decode cX8_typeForCall 10 = .ok (.iload_n 2, 1) := by decide +kernel
theorem dX8_typeForCall_11 : decode cX8_typeForCall 11 = .ok (.invokevirtual 43, 3) := by decide +kernel
theorem dX8_typeForCall_14 : decode cX8_typeForCall 14 = .ok (.istore_n 3, 1) := by decide +kernel
theorem dX8_typeForCall_15 : decode cX8_typeForCall 15 = .ok (.iload_n 3, 1) := by decide +kernel
theorem dX8_typeForCall_16 : decode cX8_typeForCall 16 = .ok (.ifCond .ge 5, 3) := by decide +kernel
theorem dX8_typeForCall_19 : decode cX8_typeForCall 19 = .ok (.iload_n 3, 1) := by decide +kernel
theorem dX8_typeForCall_20 : decode cX8_typeForCall 20 = .ok (.ireturn, 1) := by decide +kernel
theorem dX8_typeForCall_21 : decode cX8_typeForCall 21 = .ok (.iload_n 3, 1) := by decide +kernel
theorem dX8_typeForCall_22 : decode cX8_typeForCall 22 = .ok (.ifCond .ne 10, 3) := by decide +kernel
theorem dX8_typeForCall_25 : decode cX8_typeForCall 25 = .ok (.aload_n 0, 1) := by decide +kernel
theorem dX8_typeForCall_26 : decode cX8_typeForCall 26 = .ok (.iconst 2, 1) := by decide +kernel
theorem dX8_typeForCall_27 : decode cX8_typeForCall 27 = .ok (.iload_n 2, 1) := by decide +kernel
theorem dX8_typeForCall_28 : decode cX8_typeForCall 28 = .ok (.invokevirtual 80, 3) := by decide +kernel
theorem dX8_typeForCall_31 : decode cX8_typeForCall 31 = .ok (.ireturn, 1) := by decide +kernel
theorem dX8_typeForCall_32 : decode cX8_typeForCall 32 = .ok (.aload_n 0, 1) := by decide +kernel
theorem dX8_typeForCall_33 : decode cX8_typeForCall 33 = .ok (.aload_n 0, 1) := by decide +kernel
theorem dX8_typeForCall_34 : decode cX8_typeForCall 34 = .ok (.getfield 18, 3) := by decide +kernel
theorem dX8_typeForCall_37 : decode cX8_typeForCall 37 = .ok (.iload_n 3, 1) := by decide +kernel
theorem dX8_typeForCall_38 : decode cX8_typeForCall 38 = .ok (.invokevirtual 97, 3) := by decide +kernel
theorem dX8_typeForCall_41 : decode cX8_typeForCall 41 = .ok (.aload_n 0, 1) := by decide +kernel
theorem dX8_typeForCall_42 : decode cX8_typeForCall 42 = .ok (.getfield 22, 3) := by decide +kernel
theorem dX8_typeForCall_45 : decode cX8_typeForCall 45 = .ok (.iload_n 1, 1) := by decide +kernel
theorem dX8_typeForCall_46 : decode cX8_typeForCall 46 = .ok (.invokevirtual 100, 3) := by decide +kernel
theorem dX8_typeForCall_49 : decode cX8_typeForCall 49 = .ok (.invokevirtual 103, 3) := by decide +kernel
theorem dX8_typeForCall_52 : decode cX8_typeForCall 52 = .ok (.istore 4, 2) := by decide +kernel
theorem dX8_typeForCall_54 : decode cX8_typeForCall 54 = .ok (.iload 4, 2) := by decide +kernel
theorem dX8_typeForCall_56 : decode cX8_typeForCall 56 = .ok (.ifCond .ge 8, 3) := by decide +kernel
theorem dX8_typeForCall_59 : decode cX8_typeForCall 59 = .ok (.iload 4, 2) := by decide +kernel
theorem dX8_typeForCall_61 : decode cX8_typeForCall 61 = .ok (.goto 11, 3) := by decide +kernel
theorem dX8_typeForCall_64 : decode cX8_typeForCall 64 = .ok (.aload_n 0, 1) := by decide +kernel
theorem dX8_typeForCall_65 : decode cX8_typeForCall 65 = .ok (.getfield 18, 3) := by decide +kernel
theorem dX8_typeForCall_68 : decode cX8_typeForCall 68 = .ok (.iload_n 3, 1) := by decide +kernel
theorem dX8_typeForCall_69 : decode cX8_typeForCall 69 = .ok (.invokevirtual 106, 3) := by decide +kernel
theorem dX8_typeForCall_72 : decode cX8_typeForCall 72 = .ok (.ireturn, 1) := by decide +kernel
theorem dX8_typeForLet_0 : decode cX8_typeForLet 0 = .ok (.aload_n 0, 1) := by decide +kernel
theorem dX8_typeForLet_1 : decode cX8_typeForLet 1 = .ok (.aload_n 0, 1) := by decide +kernel
theorem dX8_typeForLet_2 : decode cX8_typeForLet 2 = .ok (.getfield 22, 3) := by decide +kernel
theorem dX8_typeForLet_5 : decode cX8_typeForLet 5 = .ok (.iload_n 1, 1) := by decide +kernel
theorem dX8_typeForLet_6 : decode cX8_typeForLet 6 = .ok (.invokevirtual 87, 3) := by decide +kernel
theorem dX8_typeForLet_9 : decode cX8_typeForLet 9 = .ok (.invokevirtual 43, 3) := by decide +kernel
theorem dX8_typeForLet_12 : decode cX8_typeForLet 12 = .ok (.istore_n 2, 1) := by decide +kernel
theorem dX8_typeForLet_13 : decode cX8_typeForLet 13 = .ok (.iload_n 2, 1) := by decide +kernel
theorem dX8_typeForLet_14 : decode cX8_typeForLet 14 = .ok (.ifCond .ge 7, 3) := by decide +kernel
theorem dX8_typeForLet_17 : decode cX8_typeForLet 17 = .ok (.iload_n 2, 1) := by decide +kernel
theorem dX8_typeForLet_18 : decode cX8_typeForLet 18 = .ok (.goto 24, 3) := by decide +kernel
theorem dX8_typeForLet_21 : decode cX8_typeForLet 21 = .ok (.aload_n 0, 1) := by decide +kernel
theorem dX8_typeForLet_22 : decode cX8_typeForLet 22 = .ok (.aload_n 0, 1) := by decide +kernel
theorem dX8_typeForLet_23 : decode cX8_typeForLet 23 = .ok (.getfield 22, 3) := by decide +kernel
theorem dX8_typeForLet_26 : decode cX8_typeForLet 26 = .ok (.iload_n 1, 1) := by decide +kernel
theorem dX8_typeForLet_27 : decode cX8_typeForLet 27 = .ok (.invokevirtual 74, 3) := by decide +kernel
theorem dX8_typeForLet_30 : decode cX8_typeForLet 30 = .ok (.iload_n 2, 1) := by decide +kernel
theorem dX8_typeForLet_31 : decode cX8_typeForLet 31 = .ok (.aload_n 0, 1) := by decide +kernel
theorem dX8_typeForLet_32 : decode cX8_typeForLet 32 = .ok (.getfield 22, 3) := by decide +kernel
theorem dX8_typeForLet_35 : decode cX8_typeForLet 35 = .ok (.iload_n 1, 1) := by decide +kernel
theorem dX8_typeForLet_36 : decode cX8_typeForLet 36 = .ok (.invokevirtual 100, 3) := by decide +kernel
theorem dX8_typeForLet_39 : decode cX8_typeForLet 39 = .ok (.invokevirtual 90, 3) := by decide +kernel
theorem dX8_typeForLet_42 : decode cX8_typeForLet 42 = .ok (.ireturn, 1) := by decide +kernel
theorem dX8_typeForSum_0 : decode cX8_typeForSum 0 = .ok (.aload_n 0, 1) := by decide +kernel
theorem dX8_typeForSum_1 : decode cX8_typeForSum 1 = .ok (.iconst 0, 1) := by decide +kernel
theorem dX8_typeForSum_2 : decode cX8_typeForSum 2 = .ok (.aload_n 0, 1) := by decide +kernel
theorem dX8_typeForSum_3 : decode cX8_typeForSum 3 = .ok (.getfield 22, 3) := by decide +kernel
theorem dX8_typeForSum_6 : decode cX8_typeForSum 6 = .ok (.iload_n 1, 1) := by decide +kernel
theorem dX8_typeForSum_7 : decode cX8_typeForSum 7 = .ok (.invokevirtual 87, 3) := by decide +kernel
theorem dX8_typeForSum_10 : decode cX8_typeForSum 10 = .ok (.invokevirtual 103, 3) := by decide +kernel
theorem dX8_typeForSum_13 : decode cX8_typeForSum 13 = .ok (.istore_n 2, 1) := by decide +kernel
theorem dX8_typeForSum_14 : decode cX8_typeForSum 14 = .ok (.iload_n 2, 1) := by decide +kernel
theorem dX8_typeForSum_15 : decode cX8_typeForSum 15 = .ok (.ifCond .ge 7, 3) := by decide +kernel
theorem dX8_typeForSum_18 : decode cX8_typeForSum 18 = .ok (.iload_n 2, 1) := by decide +kernel
theorem dX8_typeForSum_19 : decode cX8_typeForSum 19 = .ok (.goto 16, 3) := by decide +kernel
theorem dX8_typeForSum_22 : decode cX8_typeForSum 22 = .ok (.aload_n 0, 1) := by decide +kernel
theorem dX8_typeForSum_23 : decode cX8_typeForSum 23 = .ok (.iconst 0, 1) := by decide +kernel
theorem dX8_typeForSum_24 : decode cX8_typeForSum 24 = .ok (.aload_n 0, 1) := by decide +kernel
theorem dX8_typeForSum_25 : decode cX8_typeForSum 25 = .ok (.getfield 22, 3) := by decide +kernel
theorem dX8_typeForSum_28 : decode cX8_typeForSum 28 = .ok (.iload_n 1, 1) := by decide +kernel
theorem dX8_typeForSum_29 : decode cX8_typeForSum 29 = .ok (.invokevirtual 100, 3) := by decide +kernel
theorem dX8_typeForSum_32 : decode cX8_typeForSum 32 = .ok (.invokevirtual 103, 3) := by decide +kernel
theorem dX8_typeForSum_35 : decode cX8_typeForSum 35 = .ok (.ireturn, 1) := by decide +kernel
theorem dX8_typeForChoice_0 : decode cX8_typeForChoice 0 = .ok (.aload_n 0, 1) := by decide +kernel
theorem dX8_typeForChoice_1 : decode cX8_typeForChoice 1 = .ok (.iconst 0, 1) := by decide +kernel
theorem dX8_typeForChoice_2 : decode cX8_typeForChoice 2 = .ok (.aload_n 0, 1) := by decide +kernel
theorem dX8_typeForChoice_3 : decode cX8_typeForChoice 3 = .ok (.getfield 22, 3) := by decide +kernel
theorem dX8_typeForChoice_6 : decode cX8_typeForChoice 6 = .ok (.iload_n 1, 1) := by decide +kernel
theorem dX8_typeForChoice_7 : decode cX8_typeForChoice 7 = .ok (.invokevirtual 87, 3) := by decide +kernel
theorem dX8_typeForChoice_10 : decode cX8_typeForChoice 10 = .ok (.invokevirtual 103, 3) := by decide +kernel
theorem dX8_typeForChoice_13 : decode cX8_typeForChoice 13 = .ok (.istore_n 2, 1) := by decide +kernel
theorem dX8_typeForChoice_14 : decode cX8_typeForChoice 14 = .ok (.iload_n 2, 1) := by decide +kernel
theorem dX8_typeForChoice_15 : decode cX8_typeForChoice 15 = .ok (.ifCond .ge 5, 3) := by decide +kernel
theorem dX8_typeForChoice_18 : decode cX8_typeForChoice 18 = .ok (.iload_n 2, 1) := by decide +kernel
theorem dX8_typeForChoice_19 : decode cX8_typeForChoice 19 = .ok (.ireturn, 1) := by decide +kernel
