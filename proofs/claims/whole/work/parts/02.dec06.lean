theorem dX10_isLetter_4 : decode cX10_isLetter 4 = .ok (.invokestatic 3, 3) := by decide +kernel
theorem dX10_isLetter_7 : decode cX10_isLetter 7 = .ok (.ireturn, 1) := by decide +kernel
theorem dX10_init_0 : decode cX10_init 0 = .ok (.aload_n 0, 1) := by decide +kernel
theorem dX10_init_1 : decode cX10_init 1 = .ok (.invokespecial 7, 3) := by decide +kernel
theorem dX10_init_4 : decode cX10_init 4 = .ok (.aload_n 0, 1) := by decide +kernel
theorem dX10_init_5 : decode cX10_init 5 = .ok (.iconst 1, 1) := by decide +kernel
theorem dX10_init_6 : decode cX10_init 6 = .ok (.putfield 13, 3) := by decide +kernel
theorem dX10_init_9 : decode cX10_init 9 = .ok (.aload_n 0, 1) := by decide +kernel
theorem dX10_init_10 : decode cX10_init 10 = .ok (.bipush 40, 2) := by decide +kernel
theorem dX10_init_12 : decode cX10_init 12 = .ok (.newarray .int, 2) := by decide +kernel
theorem dX10_init_14 : decode cX10_init 14 = .ok (.putfield 17, 3) := by decide +kernel
theorem dX10_init_17 : decode cX10_init 17 = .ok (.aload_n 0, 1) := by decide +kernel
theorem dX10_init_18 : decode cX10_init 18 = .ok (.bipush 40, 2) := by decide +kernel
theorem dX10_init_20 : decode cX10_init 20 = .ok (.newarray .int, 2) := by decide +kernel
theorem dX10_init_22 : decode cX10_init 22 = .ok (.putfield 21, 3) := by decide +kernel
theorem dX10_init_25 : decode cX10_init 25 = .ok (.aload_n 0, 1) := by decide +kernel
theorem dX10_init_26 : decode cX10_init 26 = .ok (.bipush 40, 2) := by decide +kernel
theorem dX10_init_28 : decode cX10_init 28 = .ok (.newarray .int, 2) := by decide +kernel
theorem dX10_init_30 : decode cX10_init 30 = .ok (.putfield 24, 3) := by decide +kernel
theorem dX10_init_33 : decode cX10_init 33 = .ok (.aload_n 0, 1) := by decide +kernel
theorem dX10_init_34 : decode cX10_init 34 = .ok (.bipush 26, 2) := by decide +kernel
theorem dX10_init_36 : decode cX10_init 36 = .ok (.newarray .int, 2) := by decide +kernel
theorem dX10_init_38 : decode cX10_init 38 = .ok (.putfield 27, 3) := by decide +kernel
theorem dX10_init_41 : decode cX10_init 41 = .ok (.aload_n 0, 1) := by decide +kernel
theorem dX10_init_42 : decode cX10_init 42 = .ok (.sipush 400, 3) := by decide +kernel
theorem dX10_init_45 : decode cX10_init 45 = .ok (.newarray .int, 2) := by decide +kernel
theorem dX10_init_47 : decode cX10_init 47 = .ok (.putfield 30, 3) := by decide +kernel
theorem dX10_init_50 : decode cX10_init 50 = .ok (.aload_n 0, 1) := by decide +kernel
theorem dX10_init_51 : decode cX10_init 51 = .ok (.sipush 400, 3) := by decide +kernel
theorem dX10_init_54 : decode cX10_init 54 = .ok (.newarray .int, 2) := by decide +kernel
theorem dX10_init_56 : decode cX10_init 56 = .ok (.putfield 33, 3) := by decide +kernel
theorem dX10_init_59 : decode cX10_init 59 = .ok (.aload_n 0, 1) := by decide +kernel
theorem dX10_init_60 : decode cX10_init 60 = .ok (.sipush 400, 3) := by decide +kernel
theorem dX10_init_63 : decode cX10_init 63 = .ok (.newarray .int, 2) := by decide +kernel
theorem dX10_init_65 : decode cX10_init 65 = .ok (.putfield 36, 3) := by decide +kernel
theorem dX10_init_68 : decode cX10_init 68 = .ok (.aload_n 0, 1) := by decide +kernel
theorem dX10_init_69 : decode cX10_init 69 = .ok (.sipush 400, 3) := by decide +kernel
theorem dX10_init_72 : decode cX10_init 72 = .ok (.newarray .int, 2) := by decide +kernel
theorem dX10_init_74 : decode cX10_init 74 = .ok (.putfield 39, 3) := by decide +kernel
theorem dX10_init_77 : decode cX10_init 77 = .ok (.aload_n 0, 1) := by decide +kernel
theorem dX10_init_78 : decode cX10_init 78 = .ok (.sipush 1200, 3) := by decide +kernel
theorem dX10_init_81 : decode cX10_init 81 = .ok (.newarray .int, 2) := by decide +kernel
theorem dX10_init_83 : decode cX10_init 83 = .ok (.putfield 42, 3) := by decide +kernel
theorem dX10_init_86 : decode cX10_init 86 = .ok (.aload_n 0, 1) := by decide +kernel
theorem dX10_init_87 : decode cX10_init 87 = .ok (.sipush 400, 3) := by decide +kernel
theorem dX10_init_90 : decode cX10_init 90 = .ok (.newarray .int, 2) := by decide +kernel
theorem dX10_init_92 : decode cX10_init 92 = .ok (.putfield 45, 3) := by decide +kernel
theorem dX10_init_95 : decode cX10_init 95 = .ok (.aload_n 0, 1) := by decide +kernel
theorem dX10_init_96 : decode cX10_init 96 = .ok (.sipush 400, 3) := by decide +kernel
theorem dX10_init_99 : decode cX10_init 99 = .ok (.newarray .int, 2) := by decide +kernel
theorem dX10_init_101 : decode cX10_init 101 = .ok (.putfield 48, 3) := by decide +kernel
theorem dX10_init_104 : decode cX10_init 104 = .ok (.aload_n 0, 1) := by decide +kernel
theorem dX10_init_105 : decode cX10_init 105 = .ok (.sipush 10400, 3) := by decide +kernel
theorem dX10_init_108 : decode cX10_init 108 = .ok (.newarray .int, 2) := by decide +kernel
theorem dX10_init_110 : decode cX10_init 110 = .ok (.putfield 51, 3) := by decide +kernel
theorem dX10_init_113 : decode cX10_init 113 = .ok (.aload_n 0, 1) := by decide +kernel
theorem dX10_init_114 : decode cX10_init 114 = .ok (.bipush 90, 2) := by decide +kernel
theorem dX10_init_116 : decode cX10_init 116 = .ok (.newarray .int, 2) := by decide +kernel
theorem dX10_init_118 : decode cX10_init 118 = .ok (.putfield 54, 3) := by decide +kernel
theorem dX10_init_121 : decode cX10_init 121 = .ok (.aload_n 0, 1) := by decide +kernel
theorem dX10_init_122 : decode cX10_init 122 = .ok (.bipush 90, 2) := by decide +kernel
theorem dX10_init_124 : decode cX10_init 124 = .ok (.newarray .int, 2) := by decide +kernel
theorem dX10_init_126 : decode cX10_init 126 = .ok (.putfield 57, 3) := by decide +kernel
theorem dX10_init_129 : decode cX10_init 129 = .ok (.aload_n 0, 1) := by decide +kernel
theorem dX10_init_130 : decode cX10_init 130 = .ok (.bipush 90, 2) := by decide +kernel
theorem dX10_init_132 : decode cX10_init 132 = .ok (.newarray .int, 2) := by decide +kernel
theorem dX10_init_134 : decode cX10_init 134 = .ok (.putfield 60, 3) := by decide +kernel
theorem dX10_init_137 : decode cX10_init 137 = .ok (.aload_n 0, 1) := by decide +kernel
theorem dX10_init_138 : decode cX10_init 138 = .ok (.bipush 90, 2) := by decide +kernel
theorem dX10_init_140 : decode cX10_init 140 = .ok (.newarray .int, 2) := by decide +kernel
theorem dX10_init_142 : decode cX10_init 142 = .ok (.putfield 63, 3) := by decide +kernel
theorem dX10_init_145 : decode cX10_init 145 = .ok (.aload_n 0, 1) := by decide +kernel
theorem dX10_init_146 : decode cX10_init 146 = .ok (.bipush 90, 2) := by decide +kernel
theorem dX10_init_148 : decode cX10_init 148 = .ok (.newarray .int, 2) := by decide +kernel
theorem dX10_init_150 : decode cX10_init 150 = .ok (.putfield 66, 3) := by decide +kernel
theorem dX10_init_153 : decode cX10_init 153 = .ok (.aload_n 0, 1) := by decide +kernel
theorem dX10_init_154 : decode cX10_init 154 = .ok (.bipush 90, 2) := by decide +kernel
theorem dX10_init_156 : decode cX10_init 156 = .ok (.newarray .int, 2) := by decide +kernel
theorem dX10_init_158 : decode cX10_init 158 = .ok (.putfield 69, 3) := by decide +kernel
theorem dX10_init_161 : decode cX10_init 161 = .ok (.aload_n 0, 1) := by decide +kernel
theorem dX10_init_162 : decode cX10_init 162 = .ok (.bipush 90, 2) := by decide +kernel
theorem dX10_init_164 : decode cX10_init 164 = .ok (.newarray .int, 2) := by decide +kernel
theorem dX10_init_166 : decode cX10_init 166 = .ok (.putfield 72, 3) := by decide +kernel
theorem dX10_init_169 : decode cX10_init 169 = .ok (.aload_n 0, 1) := by decide +kernel
theorem dX10_init_170 : decode cX10_init 170 = .ok (.bipush 26, 2) := by decide +kernel
theorem dX10_init_172 : decode cX10_init 172 = .ok (.newarray .int, 2) := by decide +kernel
theorem dX10_init_174 : decode cX10_init 174 = .ok (.putfield 75, 3) := by decide +kernel
theorem dX10_init_177 : decode cX10_init 177 = .ok (.aload_n 0, 1) := by decide +kernel
theorem dX10_init_178 : decode cX10_init 178 = .ok (.bipush (-2), 2) := by decide +kernel
theorem dX10_init_180 : decode cX10_init 180 = .ok (.putfield 78, 3) := by decide +kernel
theorem dX10_init_183 : decode cX10_init 183 = .ok (.aload_n 0, 1) := by decide +kernel
theorem dX10_init_184 : decode cX10_init 184 = .ok (.bipush 26, 2) := by decide +kernel
theorem dX10_init_186 : decode cX10_init 186 = .ok (.newarray .int, 2) := by decide +kernel
theorem dX10_init_188 : decode cX10_init 188 = .ok (.putfield 81, 3) := by decide +kernel
theorem dX10_init_191 : decode cX10_init 191 = .ok (.aload_n 0, 1) := by decide +kernel
theorem dX10_init_192 : decode cX10_init 192 = .ok (.bipush 26, 2) := by decide +kernel
theorem dX10_init_194 : decode cX10_init 194 = .ok (.newarray .int, 2) := by decide +kernel
theorem dX10_init_196 : decode cX10_init 196 = .ok (.putfield 84, 3) := by decide +kernel
theorem dX10_init_199 : decode cX10_init 199 = .ok (.aload_n 0, 1) := by decide +kernel
theorem dX10_init_200 : decode cX10_init 200 = .ok (.bipush 41, 2) := by decide +kernel
theorem dX10_init_202 : decode cX10_init 202 = .ok (.newarray .int, 2) := by decide +kernel
theorem dX10_init_204 : decode cX10_init 204 = .ok (.putfield 87, 3) := by decide +kernel
theorem dX10_init_207 : decode cX10_init 207 = .ok (.aload_n 0, 1) := by decide +kernel
theorem dX10_init_208 : decode cX10_init 208 = .ok (.bipush 41, 2) := by decide +kernel
theorem dX10_init_210 : decode cX10_init 210 = .ok (.newarray .int, 2) := by decide +kernel
theorem dX10_init_212 : decode cX10_init 212 = .ok (.putfield 90, 3) := by decide +kernel
theorem dX10_init_215 : decode cX10_init 215 = .ok (.aload_n 0, 1) := by decide +kernel
theorem dX10_init_216 : decode cX10_init 216 = .ok (.sipush 4000, 3) := by decide +kernel
theorem dX10_init_219 : decode cX10_init 219 = .ok (.newarray .int, 2) := by decide +kernel
theorem dX10_init_221 : decode cX10_init 221 = .ok (.putfield 93, 3) := by decide +kernel
theorem dX10_init_224 : decode cX10_init 224 = .ok (.aload_n 0, 1) := by decide +kernel
theorem dX10_init_225 : decode cX10_init 225 = .ok (.sipush 4000, 3) := by decide +kernel
theorem dX10_init_228 : decode cX10_init 228 = .ok (.newarray .int, 2) := by decide +kernel
theorem dX10_init_230 : decode cX10_init 230 = .ok (.putfield 96, 3) := by decide +kernel
theorem dX10_init_233 : decode cX10_init 233 = .ok (.aload_n 0, 1) := by decide +kernel
theorem dX10_init_234 : decode cX10_init 234 = .ok (.bipush 44, 2) := by decide +kernel
theorem dX10_init_236 : decode cX10_init 236 = .ok (.newarray .int, 2) := by decide +kernel
theorem dX10_init_238 : decode cX10_init 238 = .ok (.putfield 99, 3) := by decide +kernel
theorem dX10_init_241 : decode cX10_init 241 = .ok (.aload_n 0, 1) := by decide +kernel
theorem dX10_init_242 : decode cX10_init 242 = .ok (.bipush 44, 2) := by decide +kernel
theorem dX10_init_244 : decode cX10_init 244 = .ok (.newarray .int, 2) := by decide +kernel
theorem dX10_init_246 : decode cX10_init 246 = .ok (.putfield 102, 3) := by decide +kernel
theorem dX10_init_249 : decode cX10_init 249 = .ok (.aload_n 0, 1) := by decide +kernel
theorem dX10_init_250 : decode cX10_init 250 = .ok (.sipush 600, 3) := by decide +kernel
theorem dX10_init_253 : decode cX10_init 253 = .ok (.newarray .int, 2) := by decide +kernel
theorem dX10_init_255 : decode cX10_init 255 = .ok (.putfield 105, 3) := by decide +kernel
theorem dX10_init_258 : decode cX10_init 258 = .ok (.aload_n 0, 1) := by decide +kernel
theorem dX10_init_259 : decode cX10_init 259 = .ok (.getfield 24, 3) := by decide +kernel
theorem dX10_init_262 : decode cX10_init 262 = .ok (.iconst 0, 1) := by decide +kernel
theorem dX10_init_263 : decode cX10_init 263 = .ok (.iconst 1, 1) := by decide +kernel
theorem dX10_init_264 : decode cX10_init 264 = .ok (.iastore, 1) := by decide +kernel
theorem dX10_init_265 : decode cX10_init 265 = .ok (.aload_n 0, 1) := by decide +kernel
theorem dX10_init_266 : decode cX10_init 266 = .ok (.getfield 17, 3) := by decide +kernel
theorem dX10_init_269 : decode cX10_init 269 = .ok (.iconst 0, 1) := by decide +kernel
theorem dX10_init_270 : decode cX10_init 270 = .ok (.bipush (-2), 2) := by decide +kernel
theorem dX10_init_272 : decode cX10_init 272 = .ok (.iastore, 1) := by decide +kernel
theorem dX10_init_273 : decode cX10_init 273 = .ok (.aload_n 0, 1) := by decide +kernel
theorem dX10_init_274 : decode cX10_init 274 = .ok (.getfield 21, 3) := by decide +kernel
theorem dX10_init_277 : decode cX10_init 277 = .ok (.iconst 0, 1) := by decide +kernel
theorem dX10_init_278 : decode cX10_init 278 = .ok (.bipush (-2), 2) := by decide +kernel
theorem dX10_init_280 : decode cX10_init 280 = .ok (.iastore, 1) := by decide +kernel
theorem dX10_init_281 : decode cX10_init 281 = .ok (.iconst 0, 1) := by decide +kernel
theorem dX10_init_282 : decode cX10_init 282 = .ok (.istore_n 1, 1) := by decide +kernel
theorem dX10_init_283 : decode cX10_init 283 = .ok (.iload_n 1, 1) := by decide +kernel
theorem dX10_init_284 : decode cX10_init 284 = .ok (.bipush 26, 2) := by decide +kernel
theorem dX10_init_286 : decode cX10_init 286 = .ok (.if_icmp .ge 17, 3) := by decide +kernel
theorem dX10_init_289 : decode cX10_init 289 = .ok (.aload_n 0, 1) := by decide +kernel
theorem dX10_init_290 : decode cX10_init 290 = .ok (.getfield 27, 3) := by decide +kernel
theorem dX10_init_293 : decode cX10_init 293 = .ok (.iload_n 1, 1) := by decide +kernel
theorem dX10_init_294 : decode cX10_init 294 = .ok (.bipush (-2), 2) := by decide +kernel
theorem dX10_init_296 : decode cX10_init 296 = .ok (.iastore, 1) := by decide +kernel
theorem dX10_init_297 : decode cX10_init 297 = .ok (.iinc 1 1, 3) := by decide +kernel
theorem dX10_init_300 : decode cX10_init 300 = .ok (.goto (-17), 3) := by decide +kernel
theorem dX10_init_303 : decode cX10_init 303 = .ok (.return_, 1) := by decide +kernel
theorem dX10_isType_0 : decode cX10_isType 0 = .ok (.iload_n 1, 1) := by decide +kernel
theorem dX10_isType_1 : decode cX10_isType 1 = .ok (.iconst 0, 1) := by decide +kernel
theorem dX10_isType_2 : decode cX10_isType 2 = .ok (.aload_n 0, 1) := by decide +kernel
theorem dX10_isType_3 : decode cX10_isType 3 = .ok (.getfield 13, 3) := by decide +kernel
theorem dX10_isType_6 : decode cX10_isType 6 = .ok (.iconst 1, 1) := by decide +kernel
theorem dX10_isType_7 : decode cX10_isType 7 = .ok (.isub, 1) := by decide +kernel
theorem dX10_isType_8 : decode cX10_isType 8 = .ok (.invokestatic 3, 3) := by decide +kernel
theorem dX10_isType_11 : decode cX10_isType 11 = .ok (.ireturn, 1) := by decide +kernel
theorem dX10_arrowOf_0 : decode cX10_arrowOf 0 = .ok (.iconst 1, 1) := by decide +kernel
theorem dX10_arrowOf_1 : decode cX10_arrowOf 1 = .ok (.istore_n 3, 1) := by decide +kernel
theorem dX10_arrowOf_2 : decode cX10_arrowOf 2 = .ok (.iload_n 3, 1) := by decide +kernel
theorem dX10_arrowOf_3 : decode cX10_arrowOf 3 = .ok (.aload_n 0, 1) := by decide +kernel
theorem dX10_arrowOf_4 : decode cX10_arrowOf 4 = .ok (.getfield 13, 3) := by decide +kernel
theorem dX10_arrowOf_7 : decode cX10_arrowOf 7 = .ok (.if_icmp .ge 31, 3) := by decide +kernel
theorem dX10_arrowOf_10 : decode cX10_arrowOf 10 = .ok (.aload_n 0, 1) := by decide +kernel
theorem dX10_arrowOf_11 : decode cX10_arrowOf 11 = .ok (.getfield 17, 3) := by decide +kernel
theorem dX10_arrowOf_14 : decode cX10_arrowOf 14 = .ok (.iload_n 3, 1) := by decide +kernel
theorem dX10_arrowOf_15 : decode cX10_arrowOf 15 = .ok (.iaload, 1) := by decide +kernel
theorem dX10_arrowOf_16 : decode cX10_arrowOf 16 = .ok (.iload_n 1, 1) := by decide +kernel
theorem dX10_arrowOf_17 : decode cX10_arrowOf 17 = .ok (.if_icmp .ne 15, 3) := by decide +kernel
theorem dX10_arrowOf_20 : decode cX10_arrowOf 20 = .ok (.aload_n 0, 1) := by decide +kernel
theorem dX10_arrowOf_21 : decode cX10_arrowOf 21 = .ok (.getfield 21, 3) := by decide +kernel
theorem dX10_arrowOf_24 : decode cX10_arrowOf 24 = .ok (.iload_n 3, 1) := by decide +kernel
theorem dX10_arrowOf_25 : decode cX10_arrowOf 25 = .ok (.iaload, 1) := by decide +kernel
theorem dX10_arrowOf_26 : decode cX10_arrowOf 26 = .ok (.iload_n 2, 1) := by decide +kernel
theorem dX10_arrowOf_27 : decode cX10_arrowOf 27 = .ok (.if_icmp .ne 5, 3) := by decide +kernel
theorem dX10_arrowOf_30 : decode cX10_arrowOf 30 = .ok (.iload_n 3, 1) := by decide +kernel
theorem dX10_arrowOf_31 : decode cX10_arrowOf 31 = .ok (.ireturn, 1) := by decide +kernel
theorem dX10_arrowOf_32 : decode cX10_arrowOf 32 = .ok (.iinc 3 1, 3) := by decide +kernel
theorem dX10_arrowOf_35 : decode cX10_arrowOf 35 = .ok (.goto (-33), 3) := by decide +kernel
theorem dX10_arrowOf_38 : decode cX10_arrowOf 38 = .ok (.aload_n 0, 1) := by decide +kernel
theorem dX10_arrowOf_39 : decode cX10_arrowOf 39 = .ok (.getfield 13, 3) := by decide +kernel
theorem dX10_arrowOf_42 : decode cX10_arrowOf 42 = .ok (.bipush 40, 2) := by decide +kernel
theorem dX10_arrowOf_44 : decode cX10_arrowOf 44 = .ok (.if_icmp .eq 23, 3) := by decide +kernel
theorem dX10_arrowOf_47 : decode cX10_arrowOf 47 = .ok (.aload_n 0, 1) := by decide +kernel
theorem dX10_arrowOf_48 : decode cX10_arrowOf 48 = .ok (.getfield 24, 3) := by decide +kernel
theorem dX10_arrowOf_51 : decode cX10_arrowOf 51 = .ok (.iload_n 1, 1) := by decide +kernel
theorem dX10_arrowOf_52 : decode cX10_arrowOf 52 = .ok (.iaload, 1) := by decide +kernel
theorem dX10_arrowOf_53 : decode cX10_arrowOf 53 = .ok (.aload_n 0, 1) := by decide +kernel
theorem dX10_arrowOf_54 : decode cX10_arrowOf 54 = .ok (.getfield 24, 3) := by decide +kernel
theorem dX10_arrowOf_57 : decode cX10_arrowOf 57 = .ok (.iload_n 2, 1) := by decide +kernel
theorem dX10_arrowOf_58 : decode cX10_arrowOf 58 = .ok (.iaload, 1) := by decide +kernel
theorem dX10_arrowOf_59 : decode cX10_arrowOf 59 = .ok (.iadd, 1) := by decide +kernel
theorem dX10_arrowOf_60 : decode cX10_arrowOf 60 = .ok (.iconst 3, 1) := by decide +kernel
theorem dX10_arrowOf_61 : decode cX10_arrowOf 61 = .ok (.iadd, 1) := by decide +kernel
theorem dX10_arrowOf_62 : decode cX10_arrowOf 62 = .ok (.bipush 40, 2) := by decide +kernel
theorem dX10_arrowOf_64 : decode cX10_arrowOf 64 = .ok (.if_icmp .le 6, 3) := by decide +kernel
theorem dX10_arrowOf_67 : decode cX10_arrowOf 67 = .ok (.bipush (-3), 2) := by decide +kernel
theorem dX10_arrowOf_69 : decode cX10_arrowOf 69 = .ok (.ireturn, 1) := by decide +kernel
theorem dX10_arrowOf_70 : decode cX10_arrowOf 70 = .ok (.aload_n 0, 1) := by decide +kernel
theorem dX10_arrowOf_71 : decode cX10_arrowOf 71 = .ok (.getfield 17, 3) := by decide +kernel
theorem dX10_arrowOf_74 : decode cX10_arrowOf 74 = .ok (.aload_n 0, 1) := by decide +kernel
theorem dX10_arrowOf_75 : decode cX10_arrowOf 75 = .ok (.getfield 13, 3) := by decide +kernel
theorem dX10_arrowOf_78 : decode cX10_arrowOf 78 = .ok (.iload_n 1, 1) := by decide +kernel
theorem dX10_arrowOf_79 : decode cX10_arrowOf 79 = .ok (.iastore, 1) := by decide +kernel
theorem dX10_arrowOf_80 : decode cX10_arrowOf 80 = .ok (.aload_n 0, 1) := by decide +kernel
theorem dX10_arrowOf_81 : decode cX10_arrowOf 81 = .ok (.getfield 21, 3) := by decide +kernel
theorem dX10_arrowOf_84 : decode cX10_arrowOf 84 = .ok (.aload_n 0, 1) := by decide +kernel
theorem dX10_arrowOf_85 : decode cX10_arrowOf 85 = .ok (.getfield 13, 3) := by decide +kernel
theorem dX10_arrowOf_88 : decode cX10_arrowOf 88 = .ok (.iload_n 2, 1) := by decide +kernel
theorem dX10_arrowOf_89 : decode cX10_arrowOf 89 = .ok (.iastore, 1) := by decide +kernel
theorem dX10_arrowOf_90 : decode cX10_arrowOf 90 = .ok (.aload_n 0, 1) := by decide +kernel
theorem dX10_arrowOf_91 : decode cX10_arrowOf 91 = .ok (.getfield 24, 3) := by decide +kernel
theorem dX10_arrowOf_94 : decode cX10_arrowOf 94 = .ok (.aload_n 0, 1) := by decide +kernel
theorem dX10_arrowOf_95 : decode cX10_arrowOf 95 = .ok (.getfield 13, 3) := by decide +kernel
theorem dX10_arrowOf_98 : decode cX10_arrowOf 98 = .ok (.aload_n 0, 1) := by decide +kernel
theorem dX10_arrowOf_99 : decode cX10_arrowOf 99 = .ok (.getfield 24, 3) := by decide +kernel
theorem dX10_arrowOf_102 : decode cX10_arrowOf 102 = .ok (.iload_n 1, 1) := by decide +kernel
theorem dX10_arrowOf_103 : decode cX10_arrowOf 103 = .ok (.iaload, 1) := by decide +kernel
theorem dX10_arrowOf_104 : decode cX10_arrowOf 104 = .ok (.aload_n 0, 1) := by decide +kernel
theorem dX10_arrowOf_105 : decode cX10_arrowOf 105 = .ok (.getfield 24, 3) := by decide +kernel
theorem dX10_arrowOf_108 : decode cX10_arrowOf 108 = .ok (.iload_n 2, 1) := by decide +kernel
theorem dX10_arrowOf_109 : decode cX10_arrowOf 109 = .ok (.iaload, 1) := by decide +kernel
theorem dX10_arrowOf_110 : decode cX10_arrowOf 110 = .ok (.iadd, 1) := by decide +kernel
theorem dX10_arrowOf_111 : decode cX10_arrowOf 111 = .ok (.iconst 3, 1) := by decide +kernel
theorem dX10_arrowOf_112 : decode cX10_arrowOf 112 = .ok (.iadd, 1) := by decide +kernel
theorem dX10_arrowOf_113 : decode cX10_arrowOf 113 = .ok (.iastore, 1) := by decide +kernel
theorem dX10_arrowOf_114 : decode cX10_arrowOf 114 = .ok (.aload_n 0, 1) := by decide +kernel
theorem dX10_arrowOf_115 : decode cX10_arrowOf 115 = .ok (.dup, 1) := by decide +kernel
theorem dX10_arrowOf_116 : decode cX10_arrowOf 116 = .ok (.getfield 13, 3) := by decide +kernel
theorem dX10_arrowOf_119 : decode cX10_arrowOf 119 = .ok (.iconst 1, 1) := by decide +kernel
theorem dX10_arrowOf_120 : decode cX10_arrowOf 120 = .ok (.iadd, 1) := by decide +kernel
theorem dX10_arrowOf_121 : decode cX10_arrowOf 121 = .ok (.putfield 13, 3) := by decide +kernel
theorem dX10_arrowOf_124 : decode cX10_arrowOf 124 = .ok (.aload_n 0, 1) := by decide +kernel
theorem dX10_arrowOf_125 : decode cX10_arrowOf 125 = .ok (.getfield 13, 3) := by decide +kernel
theorem dX10_arrowOf_128 : decode cX10_arrowOf 128 = .ok (.iconst 1, 1) := by decide +kernel
theorem dX10_arrowOf_129 : decode cX10_arrowOf 129 = .ok (.isub, 1) := by decide +kernel
theorem dX10_arrowOf_130 : decode cX10_arrowOf 130 = .ok (.ireturn, 1) := by decide +kernel
theorem dX10_arrow_0 : decode cX10_arrow 0 = .ok (.aload_n 0, 1) := by decide +kernel
theorem dX10_arrow_1 : decode cX10_arrow 1 = .ok (.iload_n 1, 1) := by decide +kernel
theorem dX10_arrow_2 : decode cX10_arrow 2 = .ok (.invokevirtual 108, 3) := by decide +kernel
theorem dX10_arrow_5 : decode cX10_arrow 5 = .ok (.ifCond .eq 20, 3) := by decide +kernel
theorem dX10_arrow_8 : decode cX10_arrow 8 = .ok (.aload_n 0, 1) := by decide +kernel
theorem dX10_arrow_9 : decode cX10_arrow 9 = .ok (.iload_n 2, 1) := by decide +kernel
theorem dX10_arrow_10 : decode cX10_arrow 10 = .ok (.invokevirtual 108, 3) := by decide +kernel
theorem dX10_arrow_13 : decode cX10_arrow 13 = .ok (.ifCond .eq 12, 3) := by decide +kernel
theorem dX10_arrow_16 : decode cX10_arrow 16 = .ok (.aload_n 0, 1) := by decide +kernel
theorem dX10_arrow_17 : decode cX10_arrow 17 = .ok (.iload_n 1, 1) := by decide +kernel
theorem dX10_arrow_18 : decode cX10_arrow 18 = .ok (.iload_n 2, 1) := by decide +kernel
theorem dX10_arrow_19 : decode cX10_arrow 19 = .ok (.invokevirtual 112, 3) := by decide +kernel
theorem dX10_arrow_22 : decode cX10_arrow 22 = .ok (.goto 4, 3) := by decide +kernel
theorem dX10_arrow_25 : decode cX10_arrow 25 = .ok (.iconst (-1), 1) := by decide +kernel
theorem dX10_arrow_26 : decode cX10_arrow 26 = .ok (.ireturn, 1) := by decide +kernel
theorem dX10_side_0 : decode cX10_side 0 = .ok (.aload_n 0, 1) := by decide +kernel
theorem dX10_side_1 : decode cX10_side 1 = .ok (.iload_n 1, 1) := by decide +kernel
theorem dX10_side_2 : decode cX10_side 2 = .ok (.invokevirtual 108, 3) := by decide +kernel
theorem dX10_side_5 : decode cX10_side 5 = .ok (.ifCond .eq 12, 3) := by decide +kernel
theorem dX10_side_8 : decode cX10_side 8 = .ok (.iload_n 2, 1) := by decide +kernel
theorem dX10_side_9 : decode cX10_side 9 = .ok (.iconst 0, 1) := by decide +kernel
theorem dX10_side_10 : decode cX10_side 10 = .ok (.iconst 1, 1) := by decide +kernel
theorem dX10_side_11 : decode cX10_side 11 = .ok (.invokestatic 3, 3) := by decide +kernel
theorem dX10_side_14 : decode cX10_side 14 = .ok (.ifCond .ne 7, 3) := by decide +kernel
theorem dX10_side_17 : decode cX10_side 17 = .ok (.iconst (-1), 1) := by decide +kernel
theorem dX10_side_18 : decode cX10_side 18 = .ok (.goto 22, 3) := by decide +kernel
theorem dX10_side_21 : decode cX10_side 21 = .ok (.iload_n 2, 1) := by decide +kernel
theorem dX10_side_22 : decode cX10_side 22 = .ok (.ifCond .ne 12, 3) := by decide +kernel
theorem dX10_side_25 : decode cX10_side 25 = .ok (.aload_n 0, 1) := by decide +kernel
theorem dX10_side_26 : decode cX10_side 26 = .ok (.getfield 17, 3) := by decide +kernel
theorem dX10_side_29 : decode cX10_side 29 = .ok (.iload_n 1, 1) := by decide +kernel
theorem dX10_side_30 : decode cX10_side 30 = .ok (.iaload, 1) := by decide +kernel
theorem dX10_side_31 : decode cX10_side 31 = .ok (.goto 9, 3) := by decide +kernel
theorem dX10_side_34 : decode cX10_side 34 = .ok (.aload_n 0, 1) := by decide +kernel
theorem dX10_side_35 : decode cX10_side 35 = .ok (.getfield 21, 3) := by decide +kernel
theorem dX10_side_38 : decode cX10_side 38 = .ok (.iload_n 1, 1) := by decide +kernel
theorem dX10_side_39 : decode cX10_side 39 = .ok (.iaload, 1) := by decide +kernel
theorem dX10_side_40 : decode cX10_side 40 = .ok (.ireturn, 1) := by decide +kernel
theorem dX10_declare_0 : decode cX10_declare 0 = .ok (.iload_n 1, 1) := by decide +kernel
theorem dX10_declare_1 : decode cX10_declare 1 = .ok (.invokestatic 116, 3) := by decide +kernel
theorem dX10_declare_4 : decode cX10_declare 4 = .ok (.ifCond .eq 17, 3) := by decide +kernel
theorem dX10_declare_7 : decode cX10_declare 7 = .ok (.iload_n 2, 1) := by decide +kernel
theorem dX10_declare_8 : decode cX10_declare 8 = .ok (.bipush (-2), 2) := by decide +kernel
theorem dX10_declare_10 : decode cX10_declare 10 = .ok (.if_icmp .eq 13, 3) := by decide +kernel
theorem dX10_declare_13 : decode cX10_declare 13 = .ok (.aload_n 0, 1) := by decide +kernel
theorem dX10_declare_14 : decode cX10_declare 14 = .ok (.iload_n 2, 1) := by decide +kernel
theorem dX10_declare_15 : decode cX10_declare 15 = .ok (.invokevirtual 108, 3) := by decide +kernel
theorem dX10_declare_18 : decode cX10_declare 18 = .ok (.ifCond .ne 5, 3) := by decide +kernel
theorem dX10_declare_21 : decode cX10_declare 21 = .ok (.iconst (-1), 1) := by decide +kernel
theorem dX10_declare_22 : decode cX10_declare 22 = .ok (.ireturn, 1) := by decide +kernel
theorem dX10_declare_23 : decode cX10_declare 23 = .ok (.aload_n 0, 1) := by decide +kernel
theorem dX10_declare_24 : decode cX10_declare 24 = .ok (.getfield 27, 3) := by decide +kernel
theorem dX10_declare_27 : decode cX10_declare 27 = .ok (.iload_n 1, 1) := by decide +kernel
theorem dX10_declare_28 : decode cX10_declare 28 = .ok (.iload_n 2, 1) := by decide +kernel
theorem dX10_declare_29 : decode cX10_declare 29 = .ok (.iastore, 1) := by decide +kernel
theorem dX10_declare_30 : decode cX10_declare 30 = .ok (.iconst 1, 1) := by decide +kernel
theorem dX10_declare_31 : decode cX10_declare 31 = .ok (.ireturn, 1) := by decide +kernel
theorem dX10_isTerm_0 : decode cX10_isTerm 0 = .ok (.iload_n 1, 1) := by decide +kernel
theorem dX10_isTerm_1 : decode cX10_isTerm 1 = .ok (.iconst 0, 1) := by decide +kernel
theorem dX10_isTerm_2 : decode cX10_isTerm 2 = .ok (.aload_n 0, 1) := by decide +kernel
theorem dX10_isTerm_3 : decode cX10_isTerm 3 = .ok (.getfield 119, 3) := by decide +kernel
theorem dX10_isTerm_6 : decode cX10_isTerm 6 = .ok (.iconst 1, 1) := by decide +kernel
theorem dX10_isTerm_7 : decode cX10_isTerm 7 = .ok (.isub, 1) := by decide +kernel
theorem dX10_isTerm_8 : decode cX10_isTerm 8 = .ok (.invokestatic 3, 3) := by decide +kernel
theorem dX10_isTerm_11 : decode cX10_isTerm 11 = .ok (.ireturn, 1) := by decide +kernel
theorem dX10_partsOf_0 : decode cX10_partsOf 0 = .ok (.iload_n 0, 1) := by decide +kernel
theorem dX10_partsOf_1 : decode cX10_partsOf 1 = .ok (.iconst 2, 1) := by decide +kernel
theorem dX10_partsOf_2 : decode cX10_partsOf 2 = .ok (.if_icmp .ge 7, 3) := by decide +kernel
theorem dX10_partsOf_5 : decode cX10_partsOf 5 = .ok (.iconst 0, 1) := by decide +kernel
theorem dX10_partsOf_6 : decode cX10_partsOf 6 = .ok (.goto 23, 3) := by decide +kernel
theorem dX10_partsOf_9 : decode cX10_partsOf 9 = .ok (.iload_n 0, 1) := by decide +kernel
theorem dX10_partsOf_10 : decode cX10_partsOf 10 = .ok (.iconst 2, 1) := by decide +kernel
theorem dX10_partsOf_11 : decode cX10_partsOf 11 = .ok (.if_icmp .ne 7, 3) := by decide +kernel
theorem dX10_partsOf_14 : decode cX10_partsOf 14 = .ok (.iconst 1, 1) := by decide +kernel
theorem dX10_partsOf_15 : decode cX10_partsOf 15 = .ok (.goto 14, 3) := by decide +kernel
theorem dX10_partsOf_18 : decode cX10_partsOf 18 = .ok (.iload_n 0, 1) := by decide +kernel
theorem dX10_partsOf_19 : decode cX10_partsOf 19 = .ok (.bipush 6, 2) := by decide +kernel
theorem dX10_partsOf_21 : decode cX10_partsOf 21 = .ok (.if_icmp .ne 7, 3) := by decide +kernel
theorem dX10_partsOf_24 : decode cX10_partsOf 24 = .ok (.iconst 3, 1) := by decide +kernel
theorem dX10_partsOf_25 : decode cX10_partsOf 25 = .ok (.goto 4, 3) := by decide +kernel
theorem dX10_partsOf_28 : decode cX10_partsOf 28 = .ok (.iconst 2, 1) := by decide +kernel
theorem dX10_partsOf_29 : decode cX10_partsOf 29 = .ok (.ireturn, 1) := by decide +kernel
theorem dX10_part_0 : decode cX10_part 0 = .ok (.aload_n 0, 1) := by decide +kernel
theorem dX10_part_1 : decode cX10_part 1 = .ok (.getfield 42, 3) := by decide +kernel
theorem dX10_part_4 : decode cX10_part 4 = .ok (.iconst 3, 1) := by decide +kernel
theorem dX10_part_5 : decode cX10_part 5 = .ok (.iload_n 1, 1) := by decide +kernel
theorem dX10_part_6 : decode cX10_part 6 = .ok (.imul, 1) := by decide +kernel
theorem dX10_part_7 : decode cX10_part 7 = .ok (.iload_n 2, 1) := by decide +kernel
theorem dX10_part_8 : decode cX10_part 8 = .ok (.iadd, 1) := by decide +kernel
theorem dX10_part_9 : decode cX10_part 9 = .ok (.iaload, 1) := by decide +kernel
theorem dX10_part_10 : decode cX10_part 10 = .ok (.ireturn, 1) := by decide +kernel
theorem dX10_freeOf_0 : decode cX10_freeOf 0 = .ok (.aload_n 0, 1) := by decide +kernel
theorem dX10_freeOf_1 : decode cX10_freeOf 1 = .ok (.getfield 51, 3) := by decide +kernel
theorem dX10_freeOf_4 : decode cX10_freeOf 4 = .ok (.bipush 26, 2) := by decide +kernel
theorem dX10_freeOf_6 : decode cX10_freeOf 6 = .ok (.iload_n 1, 1) := by decide +kernel
theorem dX10_freeOf_7 : decode cX10_freeOf 7 = .ok (.imul, 1) := by decide +kernel
theorem dX10_freeOf_8 : decode cX10_freeOf 8 = .ok (.iload_n 2, 1) := by decide +kernel
theorem dX10_freeOf_9 : decode cX10_freeOf 9 = .ok (.iadd, 1) := by decide +kernel
theorem dX10_freeOf_10 : decode cX10_freeOf 10 = .ok (.iaload, 1) := by decide +kernel
theorem dX10_freeOf_11 : decode cX10_freeOf 11 = .ok (.ireturn, 1) := by decide +kernel
theorem dX10_isFree_0 : decode cX10_isFree 0 = .ok (.aload_n 0, 1) := by decide +kernel
theorem dX10_isFree_1 : decode cX10_isFree 1 = .ok (.getfield 51, 3) := by decide +kernel
theorem dX10_isFree_4 : decode cX10_isFree 4 = .ok (.bipush 26, 2) := by decide +kernel
theorem dX10_isFree_6 : decode cX10_isFree 6 = .ok (.iload_n 1, 1) := by decide +kernel
theorem dX10_isFree_7 : decode cX10_isFree 7 = .ok (.imul, 1) := by decide +kernel
theorem dX10_isFree_8 : decode cX10_isFree 8 = .ok (.iload_n 2, 1) := by decide +kernel
theorem dX10_isFree_9 : decode cX10_isFree 9 = .ok (.iadd, 1) := by decide +kernel
theorem dX10_isFree_10 : decode cX10_isFree 10 = .ok (.iaload, 1) := by decide +kernel
theorem dX10_isFree_11 : decode cX10_isFree 11 = .ok (.ifCond .le 7, 3) := by decide +kernel
theorem dX10_isFree_14 : decode cX10_isFree 14 = .ok (.iconst 1, 1) := by decide +kernel
theorem dX10_isFree_15 : decode cX10_isFree 15 = .ok (.goto 4, 3) := by decide +kernel
theorem dX10_isFree_18 : decode cX10_isFree 18 = .ok (.iconst 0, 1) := by decide +kernel
theorem dX10_isFree_19 : decode cX10_isFree 19 = .ok (.ireturn, 1) := by decide +kernel
theorem dX10_make_0 : decode cX10_make 0 = .ok (.aload_n 0, 1) := by decide +kernel
theorem dX10_make_1 : decode cX10_make 1 = .ok (.getfield 119, 3) := by decide +kernel
theorem dX10_make_4 : decode cX10_make 4 = .ok (.istore 8, 2) := by decide +kernel
theorem dX10_make_6 : decode cX10_make 6 = .ok (.iload 8, 2) := by decide +kernel
theorem dX10_make_8 : decode cX10_make 8 = .ok (.sipush 400, 3) := by decide +kernel
theorem dX10_make_11 : decode cX10_make 11 = .ok (.if_icmp .ne 6, 3) := by decide +kernel
theorem dX10_make_14 : decode cX10_make 14 = .ok (.bipush (-3), 2) := by decide +kernel
theorem dX10_make_16 : decode cX10_make 16 = .ok (.ireturn, 1) := by decide +kernel
theorem dX10_make_17 : decode cX10_make 17 = .ok (.aload_n 0, 1) := by decide +kernel
theorem dX10_make_18 : decode cX10_make 18 = .ok (.getfield 30, 3) := by decide +kernel
theorem dX10_make_21 : decode cX10_make 21 = .ok (.iload 8, 2) := by decide +kernel
theorem dX10_make_23 : decode cX10_make 23 = .ok (.iload_n 1, 1) := by decide +kernel
theorem dX10_make_24 : decode cX10_make 24 = .ok (.iastore, 1) := by decide +kernel
theorem dX10_make_25 : decode cX10_make 25 = .ok (.aload_n 0, 1) := by decide +kernel
theorem dX10_make_26 : decode cX10_make 26 = .ok (.getfield 33, 3) := by decide +kernel
theorem dX10_make_29 : decode cX10_make 29 = .ok (.iload 8, 2) := by decide +kernel
theorem dX10_make_31 : decode cX10_make 31 = .ok (.iload_n 2, 1) := by decide +kernel
theorem dX10_make_32 : decode cX10_make 32 = .ok (.iastore, 1) := by decide +kernel
theorem dX10_make_33 : decode cX10_make 33 = .ok (.aload_n 0, 1) := by decide +kernel
theorem dX10_make_34 : decode cX10_make 34 = .ok (.getfield 36, 3) := by decide +kernel
theorem dX10_make_37 : decode cX10_make 37 = .ok (.iload 8, 2) := by decide +kernel
theorem dX10_make_39 : decode cX10_make 39 = .ok (.iload_n 3, 1) := by decide +kernel
theorem dX10_make_40 : decode cX10_make 40 = .ok (.iastore, 1) := by decide +kernel
theorem dX10_make_41 : decode cX10_make 41 = .ok (.aload_n 0, 1) := by decide +kernel
theorem dX10_make_42 : decode cX10_make 42 = .ok (.getfield 39, 3) := by decide +kernel
theorem dX10_make_45 : decode cX10_make 45 = .ok (.iload 8, 2) := by decide +kernel
theorem dX10_make_47 : decode cX10_make 47 = .ok (.iload 4, 2) := by decide +kernel
theorem dX10_make_49 : decode cX10_make 49 = .ok (.iastore, 1) := by decide +kernel
theorem dX10_make_50 : decode cX10_make 50 = .ok (.aload_n 0, 1) := by decide +kernel
theorem dX10_make_51 : decode cX10_make 51 = .ok (.getfield 42, 3) := by decide +kernel
theorem dX10_make_54 : decode cX10_make 54 = .ok (.iconst 3, 1) := by decide +kernel
theorem dX10_make_55 : decode cX10_make 55 = .ok (.iload 8, 2) := by decide +kernel
theorem dX10_make_57 : decode cX10_make 57 = .ok (.imul, 1) := by decide +kernel
theorem dX10_make_58 : decode cX10_make 58 = .ok (.iload 5, 2) := by decide +kernel
theorem dX10_make_60 : decode cX10_make 60 = .ok (.iastore, 1) := by decide +kernel
theorem dX10_make_61 : decode cX10_make 61 = .ok (.aload_n 0, 1) := by decide +kernel
theorem dX10_make_62 : decode cX10_make 62 = .ok (.getfield 42, 3) := by decide +kernel
theorem dX10_make_65 : decode cX10_make 65 = .ok (.iconst 3, 1) := by decide +kernel
theorem dX10_make_66 : decode cX10_make 66 = .ok (.iload 8, 2) := by decide +kernel
theorem dX10_make_68 : decode cX10_make 68 = .ok (.imul, 1) := by decide +kernel
theorem dX10_make_69 : decode cX10_make 69 = .ok (.iconst 1, 1) := by decide +kernel
theorem dX10_make_70 : decode cX10_make 70 = .ok (.iadd, 1) := by decide +kernel
theorem dX10_make_71 : decode cX10_make 71 = .ok (.iload 6, 2) := by decide +kernel
theorem dX10_make_73 : decode cX10_make 73 = .ok (.iastore, 1) := by decide +kernel
theorem dX10_make_74 : decode cX10_make 74 = .ok (.aload_n 0, 1) := by decide +kernel
theorem dX10_make_75 : decode cX10_make 75 = .ok (.getfield 42, 3) := by decide +kernel
theorem dX10_make_78 : decode cX10_make 78 = .ok (.iconst 3, 1) := by decide +kernel
theorem dX10_make_79 : decode cX10_make 79 = .ok (.iload 8, 2) := by decide +kernel
theorem dX10_make_81 : decode cX10_make 81 = .ok (.imul, 1) := by decide +kernel
theorem dX10_make_82 : decode cX10_make 82 = .ok (.iconst 2, 1) := by decide +kernel
theorem dX10_make_83 : decode cX10_make 83 = .ok (.iadd, 1) := by decide +kernel
theorem dX10_make_84 : decode cX10_make 84 = .ok (.iload 7, 2) := by decide +kernel
theorem dX10_make_86 : decode cX10_make 86 = .ok (.iastore, 1) := by decide +kernel
theorem dX10_make_87 : decode cX10_make 87 = .ok (.iconst 1, 1) := by decide +kernel
theorem dX10_make_88 : decode cX10_make 88 = .ok (.istore 9, 2) := by decide +kernel
theorem dX10_make_90 : decode cX10_make 90 = .ok (.iconst 0, 1) := by decide +kernel
theorem dX10_make_91 : decode cX10_make 91 = .ok (.istore 10, 2) := by decide +kernel
theorem dX10_make_93 : decode cX10_make 93 = .ok (.iconst 0, 1) := by decide +kernel
theorem dX10_make_94 : decode cX10_make 94 = .ok (.istore 11, 2) := by decide +kernel
theorem dX10_make_96 : decode cX10_make 96 = .ok (.iload 11, 2) := by decide +kernel
theorem dX10_make_98 : decode cX10_make 98 = .ok (.bipush 26, 2) := by decide +kernel
theorem dX10_make_100 : decode cX10_make 100 = .ok (.if_icmp .ge 38, 3) := by decide +kernel
theorem dX10_make_103 : decode cX10_make 103 = .ok (.aload_n 0, 1) := by decide +kernel
theorem dX10_make_104 : decode cX10_make 104 = .ok (.getfield 51, 3) := by decide +kernel
theorem dX10_make_107 : decode cX10_make 107 = .ok (.bipush 26, 2) := by decide +kernel
theorem dX10_make_109 : decode cX10_make 109 = .ok (.iload 8, 2) := by decide +kernel
theorem dX10_make_111 : decode cX10_make 111 = .ok (.imul, 1) := by decide +kernel
theorem dX10_make_112 : decode cX10_make 112 = .ok (.iload 11, 2) := by decide +kernel
theorem dX10_make_114 : decode cX10_make 114 = .ok (.iadd, 1) := by decide +kernel
theorem dX10_make_115 : decode cX10_make 115 = .ok (.iload_n 1, 1) := by decide +kernel
theorem dX10_make_116 : decode cX10_make 116 = .ok (.iconst 1, 1) := by decide +kernel
theorem dX10_make_117 : decode cX10_make 117 = .ok (.if_icmp .ne 13, 3) := by decide +kernel
theorem dX10_make_120 : decode cX10_make 120 = .ok (.iload 11, 2) := by decide +kernel
theorem dX10_make_122 : decode cX10_make 122 = .ok (.iload_n 3, 1) := by decide +kernel
theorem dX10_make_123 : decode cX10_make 123 = .ok (.if_icmp .ne 7, 3) := by decide +kernel
theorem dX10_make_126 : decode cX10_make 126 = .ok (.iconst 1, 1) := by decide +kernel
theorem dX10_make_127 : decode cX10_make 127 = .ok (.goto 4, 3) := by decide +kernel
theorem dX10_make_130 : decode cX10_make 130 = .ok (.iconst 0, 1) := by decide +kernel
theorem dX10_make_131 : decode cX10_make 131 = .ok (.iastore, 1) := by decide +kernel
theorem dX10_make_132 : decode cX10_make 132 = .ok (.iinc 11 1, 3) := by decide +kernel
theorem dX10_make_135 : decode cX10_make 135 = .ok (.goto (-39), 3) := by decide +kernel
theorem dX10_make_138 : decode cX10_make 138 = .ok (.iconst 0, 1) := by decide +kernel
theorem dX10_make_139 : decode cX10_make 139 = .ok (.istore 11, 2) := by decide +kernel
theorem dX10_make_141 : decode cX10_make 141 = .ok (.iload 11, 2) := by decide +kernel
theorem dX10_make_143 : decode cX10_make 143 = .ok (.iload_n 1, 1) := by decide +kernel
theorem dX10_make_144 : decode cX10_make 144 = .ok (.invokestatic 122, 3) := by decide +kernel
theorem dX10_make_147 : decode cX10_make 147 = .ok (.if_icmp .ge 135, 3) := by decide +kernel
theorem dX10_make_150 : decode cX10_make 150 = .ok (.aload_n 0, 1) := by decide +kernel
theorem dX10_make_151 : decode cX10_make 151 = .ok (.iload 8, 2) := by decide +kernel
theorem dX10_make_153 : decode cX10_make 153 = .ok (.iload 11, 2) := by decide +kernel
theorem dX10_make_155 : decode cX10_make 155 = .ok (.invokevirtual 126, 3) := by decide +kernel
theorem dX10_make_158 : decode cX10_make 158 = .ok (.istore 12, 2) := by decide +kernel
theorem dX10_make_160 : decode cX10_make 160 = .ok (.iload 9, 2) := by decide +kernel
theorem dX10_make_162 : decode cX10_make 162 = .ok (.aload_n 0, 1) := by decide +kernel
theorem dX10_make_163 : decode cX10_make 163 = .ok (.getfield 45, 3) := by decide +kernel
theorem dX10_make_166 : decode cX10_make 166 = .ok (.iload 12, 2) := by decide +kernel
theorem dX10_make_168 : decode cX10_make 168 = .ok (.iaload, 1) := by decide +kernel
theorem dX10_make_169 : decode cX10_make 169 = .ok (.iadd, 1) := by decide +kernel
theorem dX10_make_170 : decode cX10_make 170 = .ok (.istore 9, 2) := by decide +kernel
theorem dX10_make_172 : decode cX10_make 172 = .ok (.aload_n 0, 1) := by decide +kernel
theorem dX10_make_173 : decode cX10_make 173 = .ok (.getfield 48, 3) := by decide +kernel
theorem dX10_make_176 : decode cX10_make 176 = .ok (.iload 12, 2) := by decide +kernel
theorem dX10_make_178 : decode cX10_make 178 = .ok (.iaload, 1) := by decide +kernel
theorem dX10_make_179 : decode cX10_make 179 = .ok (.iload 10, 2) := by decide +kernel
theorem dX10_make_181 : decode cX10_make 181 = .ok (.if_icmp .le 13, 3) := by decide +kernel
theorem dX10_make_184 : decode cX10_make 184 = .ok (.aload_n 0, 1) := by decide +kernel
theorem dX10_make_185 : decode cX10_make 185 = .ok (.getfield 48, 3) := by decide +kernel
theorem dX10_make_188 : decode cX10_make 188 = .ok (.iload 12, 2) := by decide +kernel
theorem dX10_make_190 : decode cX10_make 190 = .ok (.iaload, 1) := by decide +kernel
theorem dX10_make_191 : decode cX10_make 191 = .ok (.goto 5, 3) := by decide +kernel
theorem dX10_make_194 : decode cX10_make 194 = .ok (.iload 10, 2) := by decide +kernel
theorem dX10_make_196 : decode cX10_make 196 = .ok (.istore 10, 2) := by decide +kernel
theorem dX10_make_198 : decode cX10_make 198 = .ok (.iconst 0, 1) := by decide +kernel
theorem dX10_make_199 : decode cX10_make 199 = .ok (.istore 13, 2) := by decide +kernel
theorem dX10_make_201 : decode cX10_make 201 = .ok (.iload 13, 2) := by decide +kernel
theorem dX10_make_203 : decode cX10_make 203 = .ok (.bipush 26, 2) := by decide +kernel
theorem dX10_make_205 : decode cX10_make 205 = .ok (.if_icmp .ge 71, 3) := by decide +kernel
theorem dX10_make_208 : decode cX10_make 208 = .ok (.iload 13, 2) := by decide +kernel
theorem dX10_make_210 : decode cX10_make 210 = .ok (.iload_n 3, 1) := by decide +kernel
theorem dX10_make_211 : decode cX10_make 211 = .ok (.if_icmp .ne 23, 3) := by decide +kernel
theorem dX10_make_214 : decode cX10_make 214 = .ok (.iload_n 1, 1) := by decide +kernel
theorem dX10_make_215 : decode cX10_make 215 = .ok (.iconst 2, 1) := by decide +kernel
theorem dX10_make_216 : decode cX10_make 216 = .ok (.if_icmp .eq 14, 3) := by decide +kernel
theorem dX10_make_219 : decode cX10_make 219 = .ok (.iload_n 1, 1) := by decide +kernel
theorem dX10_make_220 : decode cX10_make 220 = .ok (.iconst 4, 1) := by decide +kernel
theorem dX10_make_221 : decode cX10_make 221 = .ok (.if_icmp .ne 13, 3) := by decide +kernel
theorem dX10_make_224 : decode cX10_make 224 = .ok (.iload 11, 2) := by decide +kernel
theorem dX10_make_226 : decode cX10_make 226 = .ok (.iconst 1, 1) := by decide +kernel
theorem dX10_make_227 : decode cX10_make 227 = .ok (.if_icmp .ne 7, 3) := by decide +kernel
theorem dX10_make_230 : decode cX10_make 230 = .ok (.iconst 1, 1) := by decide +kernel
theorem dX10_make_231 : decode cX10_make 231 = .ok (.goto 4, 3) := by decide +kernel
theorem dX10_make_234 : decode cX10_make 234 = .ok (.iconst 0, 1) := by decide +kernel
theorem dX10_make_235 : decode cX10_make 235 = .ok (.istore 14, 2) := by decide +kernel
theorem dX10_make_237 : decode cX10_make 237 = .ok (.aload_n 0, 1) := by decide +kernel
theorem dX10_make_238 : decode cX10_make 238 = .ok (.getfield 51, 3) := by decide +kernel
theorem dX10_make_241 : decode cX10_make 241 = .ok (.bipush 26, 2) := by decide +kernel
theorem dX10_make_243 : decode cX10_make 243 = .ok (.iload 8, 2) := by decide +kernel
theorem dX10_make_245 : decode cX10_make 245 = .ok (.imul, 1) := by decide +kernel
theorem dX10_make_246 : decode cX10_make 246 = .ok (.iload 13, 2) := by decide +kernel
theorem dX10_make_248 : decode cX10_make 248 = .ok (.iadd, 1) := by decide +kernel
theorem dX10_make_249 : decode cX10_make 249 = .ok (.dup2, 1) := by decide +kernel
theorem dX10_make_250 : decode cX10_make 250 = .ok (.iaload, 1) := by decide +kernel
theorem dX10_make_251 : decode cX10_make 251 = .ok (.iload 14, 2) := by decide +kernel
theorem dX10_make_253 : decode cX10_make 253 = .ok (.ifCond .eq 7, 3) := by decide +kernel
theorem dX10_make_256 : decode cX10_make 256 = .ok (.iconst 0, 1) := by decide +kernel
theorem dX10_make_257 : decode cX10_make 257 = .ok (.goto 11, 3) := by decide +kernel
theorem dX10_make_260 : decode cX10_make 260 = .ok (.aload_n 0, 1) := by decide +kernel
theorem dX10_make_261 : decode cX10_make 261 = .ok (.iload 12, 2) := by decide +kernel
theorem dX10_make_263 : decode cX10_make 263 = .ok (.iload 13, 2) := by decide +kernel
theorem dX10_make_265 : decode cX10_make 265 = .ok (.invokevirtual 129, 3) := by decide +kernel
theorem dX10_make_268 : decode cX10_make 268 = .ok (.iadd, 1) := by decide +kernel
theorem dX10_make_269 : decode cX10_make 269 = .ok (.iastore, 1) := by decide +kernel
theorem dX10_make_270 : decode cX10_make 270 = .ok (.iinc 13 1, 3) := by decide +kernel
theorem dX10_make_273 : decode cX10_make 273 = .ok (.goto (-72), 3) := by decide +kernel
theorem dX10_make_276 : decode cX10_make 276 = .ok (.iinc 11 1, 3) := by decide +kernel
theorem dX10_make_279 : decode cX10_make 279 = .ok (.goto (-138), 3) := by decide +kernel
theorem dX10_make_282 : decode cX10_make 282 = .ok (.aload_n 0, 1) := by decide +kernel
theorem dX10_make_283 : decode cX10_make 283 = .ok (.getfield 45, 3) := by decide +kernel
theorem dX10_make_286 : decode cX10_make 286 = .ok (.iload 8, 2) := by decide +kernel
theorem dX10_make_288 : decode cX10_make 288 = .ok (.iload 9, 2) := by decide +kernel
theorem dX10_make_290 : decode cX10_make 290 = .ok (.iastore, 1) := by decide +kernel
theorem dX10_make_291 : decode cX10_make 291 = .ok (.aload_n 0, 1) := by decide +kernel
theorem dX10_make_292 : decode cX10_make 292 = .ok (.getfield 48, 3) := by decide +kernel
theorem dX10_make_295 : decode cX10_make 295 = .ok (.iload 8, 2) := by decide +kernel
theorem dX10_make_297 : decode cX10_make 297 = .ok (.iload 10, 2) := by decide +kernel
theorem dX10_make_299 : decode cX10_make 299 = .ok (.iconst 1, 1) := by decide +kernel
theorem dX10_make_300 : decode cX10_make 300 = .ok (.iadd, 1) := by decide +kernel
theorem dX10_make_301 : decode cX10_make 301 = .ok (.iastore, 1) := by decide +kernel
theorem dX10_make_302 : decode cX10_make 302 = .ok (.iload 9, 2) := by decide +kernel
theorem dX10_make_304 : decode cX10_make 304 = .ok (.sipush 1000, 3) := by decide +kernel
theorem dX10_make_307 : decode cX10_make 307 = .ok (.if_icmp .gt 12, 3) := by decide +kernel
theorem dX10_make_310 : decode cX10_make 310 = .ok (.iload 10, 2) := by decide +kernel
theorem dX10_make_312 : decode cX10_make 312 = .ok (.iconst 1, 1) := by decide +kernel
theorem dX10_make_313 : decode cX10_make 313 = .ok (.iadd, 1) := by decide +kernel
theorem dX10_make_314 : decode cX10_make 314 = .ok (.bipush 40, 2) := by decide +kernel
theorem dX10_make_316 : decode cX10_make 316 = .ok (.if_icmp .le 6, 3) := by decide +kernel
theorem dX10_make_319 : decode cX10_make 319 = .ok (.bipush (-3), 2) := by decide +kernel
theorem dX10_make_321 : decode cX10_make 321 = .ok (.ireturn, 1) := by decide +kernel
theorem dX10_make_322 : decode cX10_make 322 = .ok (.aload_n 0, 1) := by decide +kernel
theorem dX10_make_323 : decode cX10_make 323 = .ok (.dup, 1) := by decide +kernel
theorem dX10_make_324 : decode cX10_make 324 = .ok (.getfield 119, 3) := by decide +kernel
theorem dX10_make_327 : decode cX10_make 327 = .ok (.iconst 1, 1) := by decide +kernel
theorem dX10_make_328 : decode cX10_make 328 = .ok (.iadd, 1) := by decide +kernel
theorem dX10_make_329 : decode cX10_make 329 = .ok (.putfield 119, 3) := by decide +kernel
theorem dX10_make_332 : decode cX10_make 332 = .ok (.iload 8, 2) := by decide +kernel
theorem dX10_make_334 : decode cX10_make 334 = .ok (.ireturn, 1) := by decide +kernel
theorem dX10_number_0 : decode cX10_number 0 = .ok (.aload_n 0, 1) := by decide +kernel
theorem dX10_number_1 : decode cX10_number 1 = .ok (.iconst 0, 1) := by decide +kernel
theorem dX10_number_2 : decode cX10_number 2 = .ok (.iload_n 1, 1) := by decide +kernel
theorem dX10_number_3 : decode cX10_number 3 = .ok (.bipush (-2), 2) := by decide +kernel
theorem dX10_number_5 : decode cX10_number 5 = .ok (.bipush (-2), 2) := by decide +kernel
theorem dX10_number_7 : decode cX10_number 7 = .ok (.bipush (-2), 2) := by decide +kernel
theorem dX10_number_9 : decode cX10_number 9 = .ok (.bipush (-2), 2) := by decide +kernel
theorem dX10_number_11 : decode cX10_number 11 = .ok (.bipush (-2), 2) := by decide +kernel
theorem dX10_number_13 : decode cX10_number 13 = .ok (.invokevirtual 132, 3) := by decide +kernel
theorem dX10_number_16 : decode cX10_number 16 = .ok (.ireturn, 1) := by decide +kernel
theorem dX10_name_0 : decode cX10_name 0 = .ok (.iload_n 1, 1) := by decide +kernel
theorem dX10_name_1 : decode cX10_name 1 = .ok (.invokestatic 116, 3) := by decide +kernel
theorem dX10_name_4 : decode cX10_name 4 = .ok (.ifCond .eq 21, 3) := by decide +kernel
theorem dX10_name_7 : decode cX10_name 7 = .ok (.aload_n 0, 1) := by decide +kernel
theorem dX10_name_8 : decode cX10_name 8 = .ok (.iconst 1, 1) := by decide +kernel
theorem dX10_name_9 : decode cX10_name 9 = .ok (.iconst 0, 1) := by decide +kernel
theorem dX10_name_10 : decode cX10_name 10 = .ok (.iload_n 1, 1) := by decide +kernel
theorem dX10_name_11 : decode cX10_name 11 = .ok (.bipush (-2), 2) := by decide +kernel
theorem dX10_name_13 : decode cX10_name 13 = .ok (.bipush (-2), 2) := by decide +kernel
theorem dX10_name_15 : decode cX10_name 15 = .ok (.bipush (-2), 2) := by decide +kernel
theorem dX10_name_17 : decode cX10_name 17 = .ok (.bipush (-2), 2) := by decide +kernel
theorem dX10_name_19 : decode cX10_name 19 = .ok (.invokevirtual 132, 3) := by decide +kernel
theorem dX10_name_22 : decode cX10_name 22 = .ok (.goto 4, 3) := by decide +kernel
theorem dX10_name_25 : decode cX10_name 25 = .ok (.iconst (-1), 1) := by decide +kernel
theorem dX10_name_26 : decode cX10_name 26 = .ok (.ireturn, 1) := by decide +kernel
theorem dX10_function_0 : decode cX10_function 0 = .ok (.iload_n 1, 1) := by decide +kernel
theorem dX10_function_1 : decode cX10_function 1 = .ok (.invokestatic 116, 3) := by decide +kernel
theorem dX10_function_4 : decode cX10_function 4 = .ok (.ifCond .eq 35, 3) := by decide +kernel
theorem dX10_function_7 : decode cX10_function 7 = .ok (.aload_n 0, 1) := by decide +kernel
theorem dX10_function_8 : decode cX10_function 8 = .ok (.iload_n 2, 1) := by decide +kernel
theorem dX10_function_9 : decode cX10_function 9 = .ok (.invokevirtual 108, 3) := by decide +kernel
theorem dX10_function_12 : decode cX10_function 12 = .ok (.ifCond .eq 27, 3) := by decide +kernel
theorem dX10_function_15 : decode cX10_function 15 = .ok (.aload_n 0, 1) := by decide +kernel
theorem dX10_function_16 : decode cX10_function 16 = .ok (.iload_n 3, 1) := by decide +kernel
theorem dX10_function_17 : decode cX10_function 17 = .ok (.invokevirtual 136, 3) := by decide +kernel
theorem dX10_function_20 : decode cX10_function 20 = .ok (.ifCond .eq 19, 3) := by decide +kernel
theorem dX10_function_23 : decode cX10_function 23 = .ok (.aload_n 0, 1) := by decide +kernel
theorem dX10_function_24 : decode cX10_function 24 = .ok (.iconst 2, 1) := by decide +kernel
theorem dX10_function_25 : decode cX10_function 25 = .ok (.iconst 0, 1) := by decide +kernel
theorem dX10_function_26 : decode cX10_function 26 = .ok (.iload_n 1, 1) := by decide +kernel
theorem dX10_function_27 : decode cX10_function 27 = .ok (.iload_n 2, 1) := by decide +kernel
theorem dX10_function_28 : decode cX10_function 28 = .ok (.iload_n 3, 1) := by decide +kernel
theorem dX10_function_29 : decode cX10_function 29 = .ok (.bipush (-2), 2) := by decide +kernel
theorem dX10_function_31 : decode cX10_function 31 = .ok (.bipush (-2), 2) := by decide +kernel
theorem dX10_function_33 : decode cX10_function 33 = .ok (.invokevirtual 132, 3) := by decide +kernel
theorem dX10_function_36 : decode cX10_function 36 = .ok (.goto 4, 3) := by decide +kernel
theorem dX10_function_39 : decode cX10_function 39 = .ok (.iconst (-1), 1) := by decide +kernel
theorem dX10_function_40 : decode cX10_function 40 = .ok (.ireturn, 1) := by decide +kernel
theorem dX10_let_0 : decode cX10_let 0 = .ok (.iload_n 1, 1) := by decide +kernel
theorem dX10_let_1 : decode cX10_let 1 = .ok (.invokestatic 116, 3) := by decide +kernel
theorem dX10_let_4 : decode cX10_let 4 = .ok (.ifCond .eq 35, 3) := by decide +kernel
theorem dX10_let_7 : decode cX10_let 7 = .ok (.aload_n 0, 1) := by decide +kernel
theorem dX10_let_8 : decode cX10_let 8 = .ok (.iload_n 2, 1) := by decide +kernel
theorem dX10_let_9 : decode cX10_let 9 = .ok (.invokevirtual 136, 3) := by decide +kernel
theorem dX10_let_12 : decode cX10_let 12 = .ok (.ifCond .eq 27, 3) := by decide +kernel
theorem dX10_let_15 : decode cX10_let 15 = .ok (.aload_n 0, 1) := by decide +kernel
theorem dX10_let_16 : decode cX10_let 16 = .ok (.iload_n 3, 1) := by decide +kernel
theorem dX10_let_17 : decode cX10_let 17 = .ok (.invokevirtual 136, 3) := by decide +kernel
theorem dX10_let_20 : decode cX10_let 20 = .ok (.ifCond .eq 19, 3) := by decide +kernel
theorem dX10_let_23 : decode cX10_let 23 = .ok (.aload_n 0, 1) := by decide +kernel
theorem dX10_let_24 : decode cX10_let 24 = .ok (.iconst 4, 1) := by decide +kernel
theorem dX10_let_25 : decode cX10_let 25 = .ok (.iconst 0, 1) := by decide +kernel
theorem dX10_let_26 : decode cX10_let 26 = .ok (.iload_n 1, 1) := by decide +kernel
theorem dX10_let_27 : decode cX10_let 27 = .ok (.bipush (-2), 2) := by decide +kernel
theorem dX10_let_29 : decode cX10_let 29 = .ok (.iload_n 2, 1) := by decide +kernel
theorem dX10_let_30 : decode cX10_let 30 = .ok (.iload_n 3, 1) := by decide +kernel
theorem dX10_let_31 : decode cX10_let 31 = .ok (.bipush (-2), 2) := by decide +kernel
theorem dX10_let_33 : decode cX10_let 33 = .ok (.invokevirtual 132, 3) := by decide +kernel
theorem dX10_let_36 : decode cX10_let 36 = .ok (.goto 4, 3) := by decide +kernel
theorem dX10_let_39 : decode cX10_let 39 = .ok (.iconst (-1), 1) := by decide +kernel
theorem dX10_let_40 : decode cX10_let 40 = .ok (.ireturn, 1) := by decide +kernel
theorem dX10_join_0 : decode cX10_join 0 = .ok (.iload_n 1, 1) := by decide +kernel
theorem dX10_join_1 : decode cX10_join 1 = .ok (.iconst 3, 1) := by decide +kernel
theorem dX10_join_2 : decode cX10_join 2 = .ok (.if_icmp .eq 23, 3) := by decide +kernel
theorem dX10_join_5 : decode cX10_join 5 = .ok (.iload_n 1, 1) := by decide +kernel
theorem dX10_join_6 : decode cX10_join 6 = .ok (.iconst 5, 1) := by decide +kernel
theorem dX10_join_7 : decode cX10_join 7 = .ok (.if_icmp .eq 18, 3) := by decide +kernel
theorem dX10_join_10 : decode cX10_join 10 = .ok (.iload_n 1, 1) := by decide +kernel
theorem dX10_join_11 : decode cX10_join 11 = .ok (.bipush 6, 2) := by decide +kernel
theorem dX10_join_13 : decode cX10_join 13 = .ok (.if_icmp .ne 32, 3) := by decide +kernel
theorem dX10_join_16 : decode cX10_join 16 = .ok (.aload_n 0, 1) := by decide +kernel
theorem dX10_join_17 : decode cX10_join 17 = .ok (.iload 4, 2) := by decide +kernel
theorem dX10_join_19 : decode cX10_join 19 = .ok (.invokevirtual 136, 3) := by decide +kernel
theorem dX10_join_22 : decode cX10_join 22 = .ok (.ifCond .eq 23, 3) := by decide +kernel
theorem dX10_join_25 : decode cX10_join 25 = .ok (.aload_n 0, 1) := by decide +kernel
theorem dX10_join_26 : decode cX10_join 26 = .ok (.iload_n 2, 1) := by decide +kernel
theorem dX10_join_27 : decode cX10_join 27 = .ok (.invokevirtual 136, 3) := by decide +kernel
theorem dX10_join_30 : decode cX10_join 30 = .ok (.ifCond .eq 15, 3) := by decide +kernel
theorem dX10_join_33 : decode cX10_join 33 = .ok (.aload_n 0, 1) := by decide +kernel
theorem dX10_join_34 : decode cX10_join 34 = .ok (.iload_n 3, 1) := by decide +kernel
theorem dX10_join_35 : decode cX10_join 35 = .ok (.invokevirtual 136, 3) := by decide +kernel
theorem dX10_join_38 : decode cX10_join 38 = .ok (.ifCond .eq 7, 3) := by decide +kernel
theorem dX10_join_41 : decode cX10_join 41 = .ok (.iconst 1, 1) := by decide +kernel
theorem dX10_join_42 : decode cX10_join 42 = .ok (.goto 4, 3) := by decide +kernel
theorem dX10_join_45 : decode cX10_join 45 = .ok (.iconst 0, 1) := by decide +kernel
theorem dX10_join_46 : decode cX10_join 46 = .ok (.istore 5, 2) := by decide +kernel
theorem dX10_join_48 : decode cX10_join 48 = .ok (.iload 5, 2) := by decide +kernel
theorem dX10_join_50 : decode cX10_join 50 = .ok (.ifCond .eq 31, 3) := by decide +kernel
theorem dX10_join_53 : decode cX10_join 53 = .ok (.aload_n 0, 1) := by decide +kernel
theorem dX10_join_54 : decode cX10_join 54 = .ok (.iload_n 1, 1) := by decide +kernel
theorem dX10_join_55 : decode cX10_join 55 = .ok (.iconst 0, 1) := by decide +kernel
theorem dX10_join_56 : decode cX10_join 56 = .ok (.bipush (-2), 2) := by decide +kernel
theorem dX10_join_58 : decode cX10_join 58 = .ok (.bipush (-2), 2) := by decide +kernel
theorem dX10_join_60 : decode cX10_join 60 = .ok (.iload_n 2, 1) := by decide +kernel
theorem dX10_join_61 : decode cX10_join 61 = .ok (.iload_n 3, 1) := by decide +kernel
theorem dX10_join_62 : decode cX10_join 62 = .ok (.iload_n 1, 1) := by decide +kernel
theorem dX10_join_63 : decode cX10_join 63 = .ok (.bipush 6, 2) := by decide +kernel
theorem dX10_join_65 : decode cX10_join 65 = .ok (.if_icmp .ne 8, 3) := by decide +kernel
theorem dX10_join_68 : decode cX10_join 68 = .ok (.iload 4, 2) := by decide +kernel
theorem dX10_join_70 : decode cX10_join 70 = .ok (.goto 5, 3) := by decide +kernel
theorem dX10_join_73 : decode cX10_join 73 = .ok (.bipush (-2), 2) := by decide +kernel
theorem dX10_join_75 : decode cX10_join 75 = .ok (.invokevirtual 132, 3) := by decide +kernel
theorem dX10_join_78 : decode cX10_join 78 = .ok (.goto 4, 3) := by decide +kernel
theorem dX10_join_81 : decode cX10_join 81 = .ok (.iconst (-1), 1) := by decide +kernel
theorem dX10_join_82 : decode cX10_join 82 = .ok (.ireturn, 1) := by decide +kernel
theorem dX10_told_0 : decode cX10_told 0 = .ok (.aload_n 0, 1) := by decide +kernel
theorem dX10_told_1 : decode cX10_told 1 = .ok (.iload_n 1, 1) := by decide +kernel
theorem dX10_told_2 : decode cX10_told 2 = .ok (.invokevirtual 136, 3) := by decide +kernel
theorem dX10_told_5 : decode cX10_told 5 = .ok (.ifCond .eq 13, 3) := by decide +kernel
theorem dX10_told_8 : decode cX10_told 8 = .ok (.iload_n 2, 1) := by decide +kernel
theorem dX10_told_9 : decode cX10_told 9 = .ok (.iconst 0, 1) := by decide +kernel
theorem dX10_told_10 : decode cX10_told 10 = .ok (.bipush 8, 2) := by decide +kernel
theorem dX10_told_12 : decode cX10_told 12 = .ok (.invokestatic 3, 3) := by decide +kernel
theorem dX10_told_15 : decode cX10_told 15 = .ok (.ifCond .ne 7, 3) := by decide +kernel
theorem dX10_told_18 : decode cX10_told 18 = .ok (.ldc2_w 139, 3) := by decide +kernel
theorem dX10_told_21 : decode cX10_told 21 = .ok (.lreturn, 1) := by decide +kernel
theorem dX10_told_22 : decode cX10_told 22 = .ok (.iload_n 2, 1) := by decide +kernel
theorem dX10_told_23 : decode cX10_told 23 = .ok (.tableswitch 85 0 5 #[37, 45, 53, 61, 69, 77], 37) := by decide +kernel
theorem dX10_told_60 : decode cX10_told 60 = .ok (.aload_n 0, 1) := by decide +kernel
theorem dX10_told_61 : decode cX10_told 61 = .ok (.getfield 30, 3) := by decide +kernel
theorem dX10_told_64 : decode cX10_told 64 = .ok (.iload_n 1, 1) := by decide +kernel
theorem dX10_told_65 : decode cX10_told 65 = .ok (.iaload, 1) := by decide +kernel
theorem dX10_told_66 : decode cX10_told 66 = .ok (.i2l, 1) := by decide +kernel
theorem dX10_told_67 : decode cX10_told 67 = .ok (.lreturn, 1) := by decide +kernel
theorem dX10_told_68 : decode cX10_told 68 = .ok (.aload_n 0, 1) := by decide +kernel
theorem dX10_told_69 : decode cX10_told 69 = .ok (.getfield 45, 3) := by decide +kernel
theorem dX10_told_72 : decode cX10_told 72 = .ok (.iload_n 1, 1) := by decide +kernel
theorem dX10_told_73 : decode cX10_told 73 = .ok (.iaload, 1) := by decide +kernel
theorem dX10_told_74 : decode cX10_told 74 = .ok (.i2l, 1) := by decide +kernel
theorem dX10_told_75 : decode cX10_told 75 = .ok (.lreturn, 1) := by decide +kernel
theorem dX10_told_76 : decode cX10_told 76 = .ok (.aload_n 0, 1) := by decide +kernel
theorem dX10_told_77 : decode cX10_told 77 = .ok (.getfield 48, 3) := by decide +kernel
theorem dX10_told_80 : decode cX10_told 80 = .ok (.iload_n 1, 1) := by decide +kernel
theorem dX10_told_81 : decode cX10_told 81 = .ok (.iaload, 1) := by decide +kernel
theorem dX10_told_82 : decode cX10_told 82 = .ok (.i2l, 1) := by decide +kernel
theorem dX10_told_83 : decode cX10_told 83 = .ok (.lreturn, 1) := by decide +kernel
theorem dX10_told_84 : decode cX10_told 84 = .ok (.aload_n 0, 1) := by decide +kernel
theorem dX10_told_85 : decode cX10_told 85 = .ok (.getfield 33, 3) := by decide +kernel
theorem dX10_told_88 : decode cX10_told 88 = .ok (.iload_n 1, 1) := by decide +kernel
theorem dX10_told_89 : decode cX10_told 89 = .ok (.iaload, 1) := by decide +kernel
theorem dX10_told_90 : decode cX10_told 90 = .ok (.i2l, 1) := by decide +kernel
theorem dX10_told_91 : decode cX10_told 91 = .ok (.lreturn, 1) := by decide +kernel
theorem dX10_told_92 : decode cX10_told 92 = .ok (.aload_n 0, 1) := by decide +kernel
theorem dX10_told_93 : decode cX10_told 93 = .ok (.getfield 36, 3) := by decide +kernel
theorem dX10_told_96 : decode cX10_told 96 = .ok (.iload_n 1, 1) := by decide +kernel
theorem dX10_told_97 : decode cX10_told 97 = .ok (.iaload, 1) := by decide +kernel
theorem dX10_told_98 : decode cX10_told 98 = .ok (.i2l, 1) := by decide +kernel
theorem dX10_told_99 : decode cX10_told 99 = .ok (.lreturn, 1) := by decide +kernel
theorem dX10_told_100 : decode cX10_told 100 = .ok (.aload_n 0, 1) := by decide +kernel
