theorem dX10_readPart_21 : decode cX10_readPart 21 = .ok (.aload_n 0, 1) := by decide +kernel
theorem dX10_readPart_22 : decode cX10_readPart 22 = .ok (.getfield 151, 3) := by decide +kernel
theorem dX10_readPart_25 : decode cX10_readPart 25 = .ok (.istore 4, 2) := by decide +kernel
theorem dX10_readPart_27 : decode cX10_readPart 27 = .ok (.aload_n 0, 1) := by decide +kernel
theorem dX10_readPart_28 : decode cX10_readPart 28 = .ok (.getfield 57, 3) := by decide +kernel
theorem dX10_readPart_31 : decode cX10_readPart 31 = .ok (.iload_n 1, 1) := by decide +kernel
theorem dX10_readPart_32 : decode cX10_readPart 32 = .ok (.dup2, 1) := by decide +kernel
theorem dX10_readPart_33 : decode cX10_readPart 33 = .ok (.iaload, 1) := by decide +kernel
theorem dX10_readPart_34 : decode cX10_readPart 34 = .ok (.iconst 1, 1) := by decide +kernel
theorem dX10_readPart_35 : decode cX10_readPart 35 = .ok (.iadd, 1) := by decide +kernel
theorem dX10_readPart_36 : decode cX10_readPart 36 = .ok (.iastore, 1) := by decide +kernel
theorem dX10_readPart_37 : decode cX10_readPart 37 = .ok (.aload_n 0, 1) := by decide +kernel
theorem dX10_readPart_38 : decode cX10_readPart 38 = .ok (.getfield 60, 3) := by decide +kernel
theorem dX10_readPart_41 : decode cX10_readPart 41 = .ok (.iload_n 1, 1) := by decide +kernel
theorem dX10_readPart_42 : decode cX10_readPart 42 = .ok (.iload_n 3, 1) := by decide +kernel
theorem dX10_readPart_43 : decode cX10_readPart 43 = .ok (.ifCond .ne 8, 3) := by decide +kernel
theorem dX10_readPart_46 : decode cX10_readPart 46 = .ok (.iload 4, 2) := by decide +kernel
theorem dX10_readPart_48 : decode cX10_readPart 48 = .ok (.goto 9, 3) := by decide +kernel
theorem dX10_readPart_51 : decode cX10_readPart 51 = .ok (.aload_n 0, 1) := by decide +kernel
theorem dX10_readPart_52 : decode cX10_readPart 52 = .ok (.getfield 60, 3) := by decide +kernel
theorem dX10_readPart_55 : decode cX10_readPart 55 = .ok (.iload_n 1, 1) := by decide +kernel
theorem dX10_readPart_56 : decode cX10_readPart 56 = .ok (.iaload, 1) := by decide +kernel
theorem dX10_readPart_57 : decode cX10_readPart 57 = .ok (.iastore, 1) := by decide +kernel
theorem dX10_readPart_58 : decode cX10_readPart 58 = .ok (.aload_n 0, 1) := by decide +kernel
theorem dX10_readPart_59 : decode cX10_readPart 59 = .ok (.getfield 63, 3) := by decide +kernel
theorem dX10_readPart_62 : decode cX10_readPart 62 = .ok (.iload_n 1, 1) := by decide +kernel
theorem dX10_readPart_63 : decode cX10_readPart 63 = .ok (.iload_n 3, 1) := by decide +kernel
theorem dX10_readPart_64 : decode cX10_readPart 64 = .ok (.iconst 1, 1) := by decide +kernel
theorem dX10_readPart_65 : decode cX10_readPart 65 = .ok (.if_icmp .ne 8, 3) := by decide +kernel
theorem dX10_readPart_68 : decode cX10_readPart 68 = .ok (.iload 4, 2) := by decide +kernel
theorem dX10_readPart_70 : decode cX10_readPart 70 = .ok (.goto 9, 3) := by decide +kernel
theorem dX10_readPart_73 : decode cX10_readPart 73 = .ok (.aload_n 0, 1) := by decide +kernel
theorem dX10_readPart_74 : decode cX10_readPart 74 = .ok (.getfield 63, 3) := by decide +kernel
theorem dX10_readPart_77 : decode cX10_readPart 77 = .ok (.iload_n 1, 1) := by decide +kernel
theorem dX10_readPart_78 : decode cX10_readPart 78 = .ok (.iaload, 1) := by decide +kernel
theorem dX10_readPart_79 : decode cX10_readPart 79 = .ok (.iastore, 1) := by decide +kernel
theorem dX10_readPart_80 : decode cX10_readPart 80 = .ok (.aload_n 0, 1) := by decide +kernel
theorem dX10_readPart_81 : decode cX10_readPart 81 = .ok (.getfield 66, 3) := by decide +kernel
theorem dX10_readPart_84 : decode cX10_readPart 84 = .ok (.iload_n 1, 1) := by decide +kernel
theorem dX10_readPart_85 : decode cX10_readPart 85 = .ok (.iload_n 3, 1) := by decide +kernel
theorem dX10_readPart_86 : decode cX10_readPart 86 = .ok (.iconst 2, 1) := by decide +kernel
theorem dX10_readPart_87 : decode cX10_readPart 87 = .ok (.if_icmp .ne 8, 3) := by decide +kernel
theorem dX10_readPart_90 : decode cX10_readPart 90 = .ok (.iload 4, 2) := by decide +kernel
theorem dX10_readPart_92 : decode cX10_readPart 92 = .ok (.goto 9, 3) := by decide +kernel
theorem dX10_readPart_95 : decode cX10_readPart 95 = .ok (.aload_n 0, 1) := by decide +kernel
theorem dX10_readPart_96 : decode cX10_readPart 96 = .ok (.getfield 66, 3) := by decide +kernel
theorem dX10_readPart_99 : decode cX10_readPart 99 = .ok (.iload_n 1, 1) := by decide +kernel
theorem dX10_readPart_100 : decode cX10_readPart 100 = .ok (.iaload, 1) := by decide +kernel
theorem dX10_readPart_101 : decode cX10_readPart 101 = .ok (.iastore, 1) := by decide +kernel
theorem dX10_readPart_102 : decode cX10_readPart 102 = .ok (.aload_n 0, 1) := by decide +kernel
theorem dX10_readPart_103 : decode cX10_readPart 103 = .ok (.bipush (-2), 2) := by decide +kernel
theorem dX10_readPart_105 : decode cX10_readPart 105 = .ok (.putfield 151, 3) := by decide +kernel
theorem dX10_readPart_108 : decode cX10_readPart 108 = .ok (.iload_n 3, 1) := by decide +kernel
theorem dX10_readPart_109 : decode cX10_readPart 109 = .ok (.ifCond .ne 51, 3) := by decide +kernel
theorem dX10_readPart_112 : decode cX10_readPart 112 = .ok (.iload_n 2, 1) := by decide +kernel
theorem dX10_readPart_113 : decode cX10_readPart 113 = .ok (.iconst 3, 1) := by decide +kernel
theorem dX10_readPart_114 : decode cX10_readPart 114 = .ok (.if_icmp .ne 46, 3) := by decide +kernel
theorem dX10_readPart_117 : decode cX10_readPart 117 = .ok (.aload_n 0, 1) := by decide +kernel
theorem dX10_readPart_118 : decode cX10_readPart 118 = .ok (.getfield 54, 3) := by decide +kernel
theorem dX10_readPart_121 : decode cX10_readPart 121 = .ok (.iload_n 1, 1) := by decide +kernel
theorem dX10_readPart_122 : decode cX10_readPart 122 = .ok (.aload_n 0, 1) := by decide +kernel
theorem dX10_readPart_123 : decode cX10_readPart 123 = .ok (.invokevirtual 257, 3) := by decide +kernel
theorem dX10_readPart_126 : decode cX10_readPart 126 = .ok (.bipush 43, 2) := by decide +kernel
theorem dX10_readPart_128 : decode cX10_readPart 128 = .ok (.if_icmp .ne 7, 3) := by decide +kernel
theorem dX10_readPart_131 : decode cX10_readPart 131 = .ok (.iconst 5, 1) := by decide +kernel
theorem dX10_readPart_132 : decode cX10_readPart 132 = .ok (.goto 4, 3) := by decide +kernel
theorem dX10_readPart_135 : decode cX10_readPart 135 = .ok (.iconst 3, 1) := by decide +kernel
theorem dX10_readPart_136 : decode cX10_readPart 136 = .ok (.iastore, 1) := by decide +kernel
theorem dX10_readPart_137 : decode cX10_readPart 137 = .ok (.aload_n 0, 1) := by decide +kernel
theorem dX10_readPart_138 : decode cX10_readPart 138 = .ok (.aload_n 0, 1) := by decide +kernel
theorem dX10_readPart_139 : decode cX10_readPart 139 = .ok (.invokevirtual 257, 3) := by decide +kernel
theorem dX10_readPart_142 : decode cX10_readPart 142 = .ok (.bipush 43, 2) := by decide +kernel
theorem dX10_readPart_144 : decode cX10_readPart 144 = .ok (.if_icmp .ne 8, 3) := by decide +kernel
theorem dX10_readPart_147 : decode cX10_readPart 147 = .ok (.bipush 43, 2) := by decide +kernel
theorem dX10_readPart_149 : decode cX10_readPart 149 = .ok (.goto 5, 3) := by decide +kernel
theorem dX10_readPart_152 : decode cX10_readPart 152 = .ok (.bipush 32, 2) := by decide +kernel
theorem dX10_readPart_154 : decode cX10_readPart 154 = .ok (.invokevirtual 261, 3) := by decide +kernel
theorem dX10_readPart_157 : decode cX10_readPart 157 = .ok (.goto 175, 3) := by decide +kernel
theorem dX10_readPart_160 : decode cX10_readPart 160 = .ok (.iload_n 3, 1) := by decide +kernel
theorem dX10_readPart_161 : decode cX10_readPart 161 = .ok (.ifCond .ne 17, 3) := by decide +kernel
theorem dX10_readPart_164 : decode cX10_readPart 164 = .ok (.iload_n 2, 1) := by decide +kernel
theorem dX10_readPart_165 : decode cX10_readPart 165 = .ok (.iconst 4, 1) := by decide +kernel
theorem dX10_readPart_166 : decode cX10_readPart 166 = .ok (.if_icmp .ne 12, 3) := by decide +kernel
theorem dX10_readPart_169 : decode cX10_readPart 169 = .ok (.aload_n 0, 1) := by decide +kernel
theorem dX10_readPart_170 : decode cX10_readPart 170 = .ok (.bipush 93, 2) := by decide +kernel
theorem dX10_readPart_172 : decode cX10_readPart 172 = .ok (.invokevirtual 261, 3) := by decide +kernel
theorem dX10_readPart_175 : decode cX10_readPart 175 = .ok (.goto 157, 3) := by decide +kernel
theorem dX10_readPart_178 : decode cX10_readPart 178 = .ok (.iload_n 2, 1) := by decide +kernel
theorem dX10_readPart_179 : decode cX10_readPart 179 = .ok (.bipush 6, 2) := by decide +kernel
theorem dX10_readPart_181 : decode cX10_readPart 181 = .ok (.if_icmp .ne 26, 3) := by decide +kernel
theorem dX10_readPart_184 : decode cX10_readPart 184 = .ok (.iload_n 3, 1) := by decide +kernel
theorem dX10_readPart_185 : decode cX10_readPart 185 = .ok (.iconst 2, 1) := by decide +kernel
theorem dX10_readPart_186 : decode cX10_readPart 186 = .ok (.if_icmp .ge 21, 3) := by decide +kernel
theorem dX10_readPart_189 : decode cX10_readPart 189 = .ok (.aload_n 0, 1) := by decide +kernel
theorem dX10_readPart_190 : decode cX10_readPart 190 = .ok (.iload_n 3, 1) := by decide +kernel
theorem dX10_readPart_191 : decode cX10_readPart 191 = .ok (.ifCond .ne 8, 3) := by decide +kernel
theorem dX10_readPart_194 : decode cX10_readPart 194 = .ok (.bipush 63, 2) := by decide +kernel
theorem dX10_readPart_196 : decode cX10_readPart 196 = .ok (.goto 5, 3) := by decide +kernel
theorem dX10_readPart_199 : decode cX10_readPart 199 = .ok (.bipush 58, 2) := by decide +kernel
theorem dX10_readPart_201 : decode cX10_readPart 201 = .ok (.invokevirtual 261, 3) := by decide +kernel
theorem dX10_readPart_204 : decode cX10_readPart 204 = .ok (.goto 128, 3) := by decide +kernel
theorem dX10_readPart_207 : decode cX10_readPart 207 = .ok (.iload_n 2, 1) := by decide +kernel
theorem dX10_readPart_208 : decode cX10_readPart 208 = .ok (.iconst 3, 1) := by decide +kernel
theorem dX10_readPart_209 : decode cX10_readPart 209 = .ok (.if_icmp .eq 8, 3) := by decide +kernel
theorem dX10_readPart_212 : decode cX10_readPart 212 = .ok (.iload_n 2, 1) := by decide +kernel
theorem dX10_readPart_213 : decode cX10_readPart 213 = .ok (.iconst 5, 1) := by decide +kernel
theorem dX10_readPart_214 : decode cX10_readPart 214 = .ok (.if_icmp .ne 12, 3) := by decide +kernel
theorem dX10_readPart_217 : decode cX10_readPart 217 = .ok (.aload_n 0, 1) := by decide +kernel
theorem dX10_readPart_218 : decode cX10_readPart 218 = .ok (.bipush 41, 2) := by decide +kernel
theorem dX10_readPart_220 : decode cX10_readPart 220 = .ok (.invokevirtual 261, 3) := by decide +kernel
theorem dX10_readPart_223 : decode cX10_readPart 223 = .ok (.goto 15, 3) := by decide +kernel
theorem dX10_readPart_226 : decode cX10_readPart 226 = .ok (.iload_n 2, 1) := by decide +kernel
theorem dX10_readPart_227 : decode cX10_readPart 227 = .ok (.bipush 6, 2) := by decide +kernel
theorem dX10_readPart_229 : decode cX10_readPart 229 = .ok (.if_icmp .ne 9, 3) := by decide +kernel
theorem dX10_readPart_232 : decode cX10_readPart 232 = .ok (.aload_n 0, 1) := by decide +kernel
theorem dX10_readPart_233 : decode cX10_readPart 233 = .ok (.bipush 125, 2) := by decide +kernel
theorem dX10_readPart_235 : decode cX10_readPart 235 = .ok (.invokevirtual 261, 3) := by decide +kernel
theorem dX10_readPart_238 : decode cX10_readPart 238 = .ok (.aload_n 0, 1) := by decide +kernel
theorem dX10_readPart_239 : decode cX10_readPart 239 = .ok (.getfield 254, 3) := by decide +kernel
theorem dX10_readPart_242 : decode cX10_readPart 242 = .ok (.ifCond .ne 90, 3) := by decide +kernel
theorem dX10_readPart_245 : decode cX10_readPart 245 = .ok (.aload_n 0, 1) := by decide +kernel
theorem dX10_readPart_246 : decode cX10_readPart 246 = .ok (.dup, 1) := by decide +kernel
theorem dX10_readPart_247 : decode cX10_readPart 247 = .ok (.getfield 145, 3) := by decide +kernel
theorem dX10_readPart_250 : decode cX10_readPart 250 = .ok (.iconst 1, 1) := by decide +kernel
theorem dX10_readPart_251 : decode cX10_readPart 251 = .ok (.isub, 1) := by decide +kernel
theorem dX10_readPart_252 : decode cX10_readPart 252 = .ok (.putfield 145, 3) := by decide +kernel
theorem dX10_readPart_255 : decode cX10_readPart 255 = .ok (.iload_n 2, 1) := by decide +kernel
theorem dX10_readPart_256 : decode cX10_readPart 256 = .ok (.iconst 2, 1) := by decide +kernel
theorem dX10_readPart_257 : decode cX10_readPart 257 = .ok (.if_icmp .eq 8, 3) := by decide +kernel
theorem dX10_readPart_260 : decode cX10_readPart 260 = .ok (.iload_n 2, 1) := by decide +kernel
theorem dX10_readPart_261 : decode cX10_readPart 261 = .ok (.iconst 4, 1) := by decide +kernel
theorem dX10_readPart_262 : decode cX10_readPart 262 = .ok (.if_icmp .ne 7, 3) := by decide +kernel
theorem dX10_readPart_265 : decode cX10_readPart 265 = .ok (.iconst 1, 1) := by decide +kernel
theorem dX10_readPart_266 : decode cX10_readPart 266 = .ok (.goto 4, 3) := by decide +kernel
theorem dX10_readPart_269 : decode cX10_readPart 269 = .ok (.iconst 0, 1) := by decide +kernel
theorem dX10_readPart_270 : decode cX10_readPart 270 = .ok (.istore 5, 2) := by decide +kernel
theorem dX10_readPart_272 : decode cX10_readPart 272 = .ok (.aload_n 0, 1) := by decide +kernel
theorem dX10_readPart_273 : decode cX10_readPart 273 = .ok (.aload_n 0, 1) := by decide +kernel
theorem dX10_readPart_274 : decode cX10_readPart 274 = .ok (.iload_n 2, 1) := by decide +kernel
theorem dX10_readPart_275 : decode cX10_readPart 275 = .ok (.iconst 0, 1) := by decide +kernel
theorem dX10_readPart_276 : decode cX10_readPart 276 = .ok (.iload 5, 2) := by decide +kernel
theorem dX10_readPart_278 : decode cX10_readPart 278 = .ok (.ifCond .eq 12, 3) := by decide +kernel
theorem dX10_readPart_281 : decode cX10_readPart 281 = .ok (.aload_n 0, 1) := by decide +kernel
theorem dX10_readPart_282 : decode cX10_readPart 282 = .ok (.getfield 69, 3) := by decide +kernel
theorem dX10_readPart_285 : decode cX10_readPart 285 = .ok (.iload_n 1, 1) := by decide +kernel
theorem dX10_readPart_286 : decode cX10_readPart 286 = .ok (.iaload, 1) := by decide +kernel
theorem dX10_readPart_287 : decode cX10_readPart 287 = .ok (.goto 5, 3) := by decide +kernel
theorem dX10_readPart_290 : decode cX10_readPart 290 = .ok (.bipush (-2), 2) := by decide +kernel
theorem dX10_readPart_292 : decode cX10_readPart 292 = .ok (.iload_n 2, 1) := by decide +kernel
theorem dX10_readPart_293 : decode cX10_readPart 293 = .ok (.iconst 2, 1) := by decide +kernel
theorem dX10_readPart_294 : decode cX10_readPart 294 = .ok (.if_icmp .ne 12, 3) := by decide +kernel
theorem dX10_readPart_297 : decode cX10_readPart 297 = .ok (.aload_n 0, 1) := by decide +kernel
theorem dX10_readPart_298 : decode cX10_readPart 298 = .ok (.getfield 72, 3) := by decide +kernel
theorem dX10_readPart_301 : decode cX10_readPart 301 = .ok (.iload_n 1, 1) := by decide +kernel
theorem dX10_readPart_302 : decode cX10_readPart 302 = .ok (.iaload, 1) := by decide +kernel
theorem dX10_readPart_303 : decode cX10_readPart 303 = .ok (.goto 5, 3) := by decide +kernel
theorem dX10_readPart_306 : decode cX10_readPart 306 = .ok (.bipush (-2), 2) := by decide +kernel
theorem dX10_readPart_308 : decode cX10_readPart 308 = .ok (.aload_n 0, 1) := by decide +kernel
theorem dX10_readPart_309 : decode cX10_readPart 309 = .ok (.getfield 60, 3) := by decide +kernel
theorem dX10_readPart_312 : decode cX10_readPart 312 = .ok (.iload_n 1, 1) := by decide +kernel
theorem dX10_readPart_313 : decode cX10_readPart 313 = .ok (.iaload, 1) := by decide +kernel
theorem dX10_readPart_314 : decode cX10_readPart 314 = .ok (.aload_n 0, 1) := by decide +kernel
theorem dX10_readPart_315 : decode cX10_readPart 315 = .ok (.getfield 63, 3) := by decide +kernel
theorem dX10_readPart_318 : decode cX10_readPart 318 = .ok (.iload_n 1, 1) := by decide +kernel
theorem dX10_readPart_319 : decode cX10_readPart 319 = .ok (.iaload, 1) := by decide +kernel
theorem dX10_readPart_320 : decode cX10_readPart 320 = .ok (.aload_n 0, 1) := by decide +kernel
theorem dX10_readPart_321 : decode cX10_readPart 321 = .ok (.getfield 66, 3) := by decide +kernel
theorem dX10_readPart_324 : decode cX10_readPart 324 = .ok (.iload_n 1, 1) := by decide +kernel
theorem dX10_readPart_325 : decode cX10_readPart 325 = .ok (.iaload, 1) := by decide +kernel
theorem dX10_readPart_326 : decode cX10_readPart 326 = .ok (.invokevirtual 132, 3) := by decide +kernel
theorem dX10_readPart_329 : decode cX10_readPart 329 = .ok (.invokevirtual 270, 3) := by decide +kernel
theorem dX10_readPart_332 : decode cX10_readPart 332 = .ok (.return_, 1) := by decide +kernel
theorem dX10_begins_0 : decode cX10_begins 0 = .ok (.iload_n 0, 1) := by decide +kernel
theorem dX10_begins_1 : decode cX10_begins 1 = .ok (.bipush 97, 2) := by decide +kernel
theorem dX10_begins_3 : decode cX10_begins 3 = .ok (.bipush 122, 2) := by decide +kernel
theorem dX10_begins_5 : decode cX10_begins 5 = .ok (.invokestatic 3, 3) := by decide +kernel
theorem dX10_begins_8 : decode cX10_begins 8 = .ok (.ifCond .ne 44, 3) := by decide +kernel
theorem dX10_begins_11 : decode cX10_begins 11 = .ok (.iload_n 0, 1) := by decide +kernel
theorem dX10_begins_12 : decode cX10_begins 12 = .ok (.bipush 48, 2) := by decide +kernel
theorem dX10_begins_14 : decode cX10_begins 14 = .ok (.bipush 57, 2) := by decide +kernel
theorem dX10_begins_16 : decode cX10_begins 16 = .ok (.invokestatic 3, 3) := by decide +kernel
theorem dX10_begins_19 : decode cX10_begins 19 = .ok (.ifCond .ne 33, 3) := by decide +kernel
theorem dX10_begins_22 : decode cX10_begins 22 = .ok (.iload_n 0, 1) := by decide +kernel
theorem dX10_begins_23 : decode cX10_begins 23 = .ok (.bipush 45, 2) := by decide +kernel
theorem dX10_begins_25 : decode cX10_begins 25 = .ok (.if_icmp .eq 27, 3) := by decide +kernel
theorem dX10_begins_28 : decode cX10_begins 28 = .ok (.iload_n 0, 1) := by decide +kernel
theorem dX10_begins_29 : decode cX10_begins 29 = .ok (.bipush 92, 2) := by decide +kernel
theorem dX10_begins_31 : decode cX10_begins 31 = .ok (.if_icmp .eq 21, 3) := by decide +kernel
theorem dX10_begins_34 : decode cX10_begins 34 = .ok (.iload_n 0, 1) := by decide +kernel
theorem dX10_begins_35 : decode cX10_begins 35 = .ok (.bipush 40, 2) := by decide +kernel
theorem dX10_begins_37 : decode cX10_begins 37 = .ok (.if_icmp .eq 15, 3) := by decide +kernel
theorem dX10_begins_40 : decode cX10_begins 40 = .ok (.iload_n 0, 1) := by decide +kernel
theorem dX10_begins_41 : decode cX10_begins 41 = .ok (.bipush 91, 2) := by decide +kernel
theorem dX10_begins_43 : decode cX10_begins 43 = .ok (.if_icmp .eq 9, 3) := by decide +kernel
theorem dX10_begins_46 : decode cX10_begins 46 = .ok (.iload_n 0, 1) := by decide +kernel
theorem dX10_begins_47 : decode cX10_begins 47 = .ok (.bipush 123, 2) := by decide +kernel
theorem dX10_begins_49 : decode cX10_begins 49 = .ok (.if_icmp .ne 7, 3) := by decide +kernel
theorem dX10_begins_52 : decode cX10_begins 52 = .ok (.iconst 1, 1) := by decide +kernel
theorem dX10_begins_53 : decode cX10_begins 53 = .ok (.goto 4, 3) := by decide +kernel
theorem dX10_begins_56 : decode cX10_begins 56 = .ok (.iconst 0, 1) := by decide +kernel
theorem dX10_begins_57 : decode cX10_begins 57 = .ok (.ireturn, 1) := by decide +kernel
theorem dX10_read_0 : decode cX10_read 0 = .ok (.aload_n 0, 1) := by decide +kernel
theorem dX10_read_1 : decode cX10_read 1 = .ok (.getfield 119, 3) := by decide +kernel
theorem dX10_read_4 : decode cX10_read 4 = .ok (.istore_n 1, 1) := by decide +kernel
theorem dX10_read_5 : decode cX10_read 5 = .ok (.aload_n 0, 1) := by decide +kernel
theorem dX10_read_6 : decode cX10_read 6 = .ok (.getfield 13, 3) := by decide +kernel
theorem dX10_read_9 : decode cX10_read 9 = .ok (.istore_n 2, 1) := by decide +kernel
theorem dX10_read_10 : decode cX10_read 10 = .ok (.aload_n 0, 1) := by decide +kernel
theorem dX10_read_11 : decode cX10_read 11 = .ok (.iconst 0, 1) := by decide +kernel
theorem dX10_read_12 : decode cX10_read 12 = .ok (.putfield 251, 3) := by decide +kernel
theorem dX10_read_15 : decode cX10_read 15 = .ok (.aload_n 0, 1) := by decide +kernel
theorem dX10_read_16 : decode cX10_read 16 = .ok (.iconst 0, 1) := by decide +kernel
theorem dX10_read_17 : decode cX10_read 17 = .ok (.putfield 254, 3) := by decide +kernel
theorem dX10_read_20 : decode cX10_read 20 = .ok (.aload_n 0, 1) := by decide +kernel
theorem dX10_read_21 : decode cX10_read 21 = .ok (.iconst 0, 1) := by decide +kernel
theorem dX10_read_22 : decode cX10_read 22 = .ok (.putfield 145, 3) := by decide +kernel
theorem dX10_read_25 : decode cX10_read 25 = .ok (.aload_n 0, 1) := by decide +kernel
theorem dX10_read_26 : decode cX10_read 26 = .ok (.bipush (-2), 2) := by decide +kernel
theorem dX10_read_28 : decode cX10_read 28 = .ok (.putfield 151, 3) := by decide +kernel
theorem dX10_read_31 : decode cX10_read 31 = .ok (.aload_n 0, 1) := by decide +kernel
theorem dX10_read_32 : decode cX10_read 32 = .ok (.getfield 254, 3) := by decide +kernel
theorem dX10_read_35 : decode cX10_read 35 = .ok (.ifCond .ne 73, 3) := by decide +kernel
theorem dX10_read_38 : decode cX10_read 38 = .ok (.aload_n 0, 1) := by decide +kernel
theorem dX10_read_39 : decode cX10_read 39 = .ok (.getfield 145, 3) := by decide +kernel
theorem dX10_read_42 : decode cX10_read 42 = .ok (.ifCond .gt 12, 3) := by decide +kernel
theorem dX10_read_45 : decode cX10_read 45 = .ok (.aload_n 0, 1) := by decide +kernel
theorem dX10_read_46 : decode cX10_read 46 = .ok (.getfield 151, 3) := by decide +kernel
theorem dX10_read_49 : decode cX10_read 49 = .ok (.bipush (-2), 2) := by decide +kernel
theorem dX10_read_51 : decode cX10_read 51 = .ok (.if_icmp .ne 57, 3) := by decide +kernel
theorem dX10_read_54 : decode cX10_read 54 = .ok (.aload_n 0, 1) := by decide +kernel
theorem dX10_read_55 : decode cX10_read 55 = .ok (.getfield 151, 3) := by decide +kernel
theorem dX10_read_58 : decode cX10_read 58 = .ok (.bipush (-2), 2) := by decide +kernel
theorem dX10_read_60 : decode cX10_read 60 = .ok (.if_icmp .eq 10, 3) := by decide +kernel
theorem dX10_read_63 : decode cX10_read 63 = .ok (.aload_n 0, 1) := by decide +kernel
theorem dX10_read_64 : decode cX10_read 64 = .ok (.invokevirtual 282, 3) := by decide +kernel
theorem dX10_read_67 : decode cX10_read 67 = .ok (.goto (-36), 3) := by decide +kernel
theorem dX10_read_70 : decode cX10_read 70 = .ok (.aload_n 0, 1) := by decide +kernel
theorem dX10_read_71 : decode cX10_read 71 = .ok (.getfield 145, 3) := by decide +kernel
theorem dX10_read_74 : decode cX10_read 74 = .ok (.bipush 40, 2) := by decide +kernel
theorem dX10_read_76 : decode cX10_read 76 = .ok (.if_icmp .ne 25, 3) := by decide +kernel
theorem dX10_read_79 : decode cX10_read 79 = .ok (.aload_n 0, 1) := by decide +kernel
theorem dX10_read_80 : decode cX10_read 80 = .ok (.aload_n 0, 1) := by decide +kernel
theorem dX10_read_81 : decode cX10_read 81 = .ok (.invokevirtual 257, 3) := by decide +kernel
theorem dX10_read_84 : decode cX10_read 84 = .ok (.invokestatic 285, 3) := by decide +kernel
theorem dX10_read_87 : decode cX10_read 87 = .ok (.ifCond .eq 7, 3) := by decide +kernel
theorem dX10_read_90 : decode cX10_read 90 = .ok (.iconst 2, 1) := by decide +kernel
theorem dX10_read_91 : decode cX10_read 91 = .ok (.goto 4, 3) := by decide +kernel
theorem dX10_read_94 : decode cX10_read 94 = .ok (.iconst 1, 1) := by decide +kernel
theorem dX10_read_95 : decode cX10_read 95 = .ok (.putfield 254, 3) := by decide +kernel
theorem dX10_read_98 : decode cX10_read 98 = .ok (.goto (-67), 3) := by decide +kernel
theorem dX10_read_101 : decode cX10_read 101 = .ok (.aload_n 0, 1) := by decide +kernel
theorem dX10_read_102 : decode cX10_read 102 = .ok (.invokevirtual 288, 3) := by decide +kernel
theorem dX10_read_105 : decode cX10_read 105 = .ok (.goto (-74), 3) := by decide +kernel
theorem dX10_read_108 : decode cX10_read 108 = .ok (.aload_n 0, 1) := by decide +kernel
theorem dX10_read_109 : decode cX10_read 109 = .ok (.getfield 254, 3) := by decide +kernel
theorem dX10_read_112 : decode cX10_read 112 = .ok (.ifCond .ne 19, 3) := by decide +kernel
theorem dX10_read_115 : decode cX10_read 115 = .ok (.aload_n 0, 1) := by decide +kernel
theorem dX10_read_116 : decode cX10_read 116 = .ok (.getfield 251, 3) := by decide +kernel
theorem dX10_read_119 : decode cX10_read 119 = .ok (.aload_n 0, 1) := by decide +kernel
theorem dX10_read_120 : decode cX10_read 120 = .ok (.getfield 248, 3) := by decide +kernel
theorem dX10_read_123 : decode cX10_read 123 = .ok (.if_icmp .ge 8, 3) := by decide +kernel
theorem dX10_read_126 : decode cX10_read 126 = .ok (.aload_n 0, 1) := by decide +kernel
theorem dX10_read_127 : decode cX10_read 127 = .ok (.iconst 1, 1) := by decide +kernel
theorem dX10_read_128 : decode cX10_read 128 = .ok (.putfield 254, 3) := by decide +kernel
theorem dX10_read_131 : decode cX10_read 131 = .ok (.aload_n 0, 1) := by decide +kernel
theorem dX10_read_132 : decode cX10_read 132 = .ok (.iconst 0, 1) := by decide +kernel
theorem dX10_read_133 : decode cX10_read 133 = .ok (.putfield 248, 3) := by decide +kernel
theorem dX10_read_136 : decode cX10_read 136 = .ok (.aload_n 0, 1) := by decide +kernel
theorem dX10_read_137 : decode cX10_read 137 = .ok (.getfield 254, 3) := by decide +kernel
theorem dX10_read_140 : decode cX10_read 140 = .ok (.ifCond .le 34, 3) := by decide +kernel
theorem dX10_read_143 : decode cX10_read 143 = .ok (.aload_n 0, 1) := by decide +kernel
theorem dX10_read_144 : decode cX10_read 144 = .ok (.iload_n 1, 1) := by decide +kernel
theorem dX10_read_145 : decode cX10_read 145 = .ok (.putfield 119, 3) := by decide +kernel
theorem dX10_read_148 : decode cX10_read 148 = .ok (.aload_n 0, 1) := by decide +kernel
theorem dX10_read_149 : decode cX10_read 149 = .ok (.iload_n 2, 1) := by decide +kernel
theorem dX10_read_150 : decode cX10_read 150 = .ok (.putfield 13, 3) := by decide +kernel
theorem dX10_read_153 : decode cX10_read 153 = .ok (.aload_n 0, 1) := by decide +kernel
theorem dX10_read_154 : decode cX10_read 154 = .ok (.getfield 254, 3) := by decide +kernel
theorem dX10_read_157 : decode cX10_read 157 = .ok (.iconst 2, 1) := by decide +kernel
theorem dX10_read_158 : decode cX10_read 158 = .ok (.if_icmp .ne 8, 3) := by decide +kernel
theorem dX10_read_161 : decode cX10_read 161 = .ok (.bipush (-3), 2) := by decide +kernel
theorem dX10_read_163 : decode cX10_read 163 = .ok (.goto 10, 3) := by decide +kernel
theorem dX10_read_166 : decode cX10_read 166 = .ok (.bipush (-10), 2) := by decide +kernel
theorem dX10_read_168 : decode cX10_read 168 = .ok (.aload_n 0, 1) := by decide +kernel
theorem dX10_read_169 : decode cX10_read 169 = .ok (.getfield 251, 3) := by decide +kernel
theorem dX10_read_172 : decode cX10_read 172 = .ok (.isub, 1) := by decide +kernel
theorem dX10_read_173 : decode cX10_read 173 = .ok (.ireturn, 1) := by decide +kernel
theorem dX10_read_174 : decode cX10_read 174 = .ok (.aload_n 0, 1) := by decide +kernel
theorem dX10_read_175 : decode cX10_read 175 = .ok (.getfield 151, 3) := by decide +kernel
theorem dX10_read_178 : decode cX10_read 178 = .ok (.ireturn, 1) := by decide +kernel
theorem dX10_count_0 : decode cX10_count 0 = .ok (.iload_n 1, 1) := by decide +kernel
theorem dX10_count_1 : decode cX10_count 1 = .ok (.tableswitch 51 0 3 #[31, 36, 41, 46], 31) := by decide +kernel
theorem dX10_count_32 : decode cX10_count 32 = .ok (.aload_n 0, 1) := by decide +kernel
theorem dX10_count_33 : decode cX10_count 33 = .ok (.getfield 119, 3) := by decide +kernel
theorem dX10_count_36 : decode cX10_count 36 = .ok (.ireturn, 1) := by decide +kernel
theorem dX10_count_37 : decode cX10_count 37 = .ok (.aload_n 0, 1) := by decide +kernel
theorem dX10_count_38 : decode cX10_count 38 = .ok (.getfield 13, 3) := by decide +kernel
theorem dX10_count_41 : decode cX10_count 41 = .ok (.ireturn, 1) := by decide +kernel
theorem dX10_count_42 : decode cX10_count 42 = .ok (.aload_n 0, 1) := by decide +kernel
theorem dX10_count_43 : decode cX10_count 43 = .ok (.getfield 248, 3) := by decide +kernel
theorem dX10_count_46 : decode cX10_count 46 = .ok (.ireturn, 1) := by decide +kernel
theorem dX10_count_47 : decode cX10_count 47 = .ok (.aload_n 0, 1) := by decide +kernel
theorem dX10_count_48 : decode cX10_count 48 = .ok (.getfield 245, 3) := by decide +kernel
theorem dX10_count_51 : decode cX10_count 51 = .ok (.ireturn, 1) := by decide +kernel
theorem dX10_count_52 : decode cX10_count 52 = .ok (.iconst (-1), 1) := by decide +kernel
theorem dX10_count_53 : decode cX10_count 53 = .ok (.ireturn, 1) := by decide +kernel
theorem dX10_clear_0 : decode cX10_clear 0 = .ok (.aload_n 0, 1) := by decide +kernel
theorem dX10_clear_1 : decode cX10_clear 1 = .ok (.getfield 119, 3) := by decide +kernel
theorem dX10_clear_4 : decode cX10_clear 4 = .ok (.istore_n 1, 1) := by decide +kernel
theorem dX10_clear_5 : decode cX10_clear 5 = .ok (.aload_n 0, 1) := by decide +kernel
theorem dX10_clear_6 : decode cX10_clear 6 = .ok (.iconst 0, 1) := by decide +kernel
theorem dX10_clear_7 : decode cX10_clear 7 = .ok (.putfield 119, 3) := by decide +kernel
theorem dX10_clear_10 : decode cX10_clear 10 = .ok (.iload_n 1, 1) := by decide +kernel
theorem dX10_clear_11 : decode cX10_clear 11 = .ok (.ireturn, 1) := by decide +kernel
theorem dL_law_0 : decode cL_law 0 = .ok (.new 7, 3) := by decide +kernel
theorem dL_law_3 : decode cL_law 3 = .ok (.dup, 1) := by decide +kernel
theorem dL_law_4 : decode cL_law 4 = .ok (.invokespecial 9, 3) := by decide +kernel
theorem dL_law_7 : decode cL_law 7 = .ok (.astore_n 1, 1) := by decide +kernel
theorem dL_law_8 : decode cL_law 8 = .ok (.new 10, 3) := by decide +kernel
theorem dL_law_11 : decode cL_law 11 = .ok (.dup, 1) := by decide +kernel
theorem dL_law_12 : decode cL_law 12 = .ok (.invokespecial 12, 3) := by decide +kernel
theorem dL_law_15 : decode cL_law 15 = .ok (.astore_n 2, 1) := by decide +kernel
theorem dL_law_16 : decode cL_law 16 = .ok (.iconst 0, 1) := by decide +kernel
theorem dL_law_17 : decode cL_law 17 = .ok (.istore_n 3, 1) := by decide +kernel
theorem dL_law_18 : decode cL_law 18 = .ok (.iload_n 3, 1) := by decide +kernel
theorem dL_law_19 : decode cL_law 19 = .ok (.aload_n 0, 1) := by decide +kernel
theorem dL_law_20 : decode cL_law 20 = .ok (.arraylength, 1) := by decide +kernel
theorem dL_law_21 : decode cL_law 21 = .ok (.iconst 5, 1) := by decide +kernel
theorem dL_law_22 : decode cL_law 22 = .ok (.isub, 1) := by decide +kernel
theorem dL_law_23 : decode cL_law 23 = .ok (.if_icmp .gt 921, 3) := by decide +kernel
theorem dL_law_26 : decode cL_law 26 = .ok (.aload_n 0, 1) := by decide +kernel
theorem dL_law_27 : decode cL_law 27 = .ok (.iload_n 3, 1) := by decide +kernel
theorem dL_law_28 : decode cL_law 28 = .ok (.iaload, 1) := by decide +kernel
theorem dL_law_29 : decode cL_law 29 = .ok (.bipush 31, 2) := by decide +kernel
theorem dL_law_31 : decode cL_law 31 = .ok (.iand, 1) := by decide +kernel
theorem dL_law_32 : decode cL_law 32 = .ok (.tableswitch 906 0 26 #[124, 157, 190, 223, 246, 269, 312, 355, 408, 442, 465, 498, 521, 544, 577, 600, 643, 666, 699, 712, 735, 758, 781, 844, 857, 870, 893], 124) := by decide +kernel
theorem dL_law_156 : decode cL_law 156 = .ok (.aload_n 1, 1) := by decide +kernel
theorem dL_law_157 : decode cL_law 157 = .ok (.aload_n 0, 1) := by decide +kernel
theorem dL_law_158 : decode cL_law 158 = .ok (.iload_n 3, 1) := by decide +kernel
theorem dL_law_159 : decode cL_law 159 = .ok (.iconst 1, 1) := by decide +kernel
theorem dL_law_160 : decode cL_law 160 = .ok (.iadd, 1) := by decide +kernel
theorem dL_law_161 : decode cL_law 161 = .ok (.iaload, 1) := by decide +kernel
theorem dL_law_162 : decode cL_law 162 = .ok (.aload_n 0, 1) := by decide +kernel
theorem dL_law_163 : decode cL_law 163 = .ok (.iload_n 3, 1) := by decide +kernel
theorem dL_law_164 : decode cL_law 164 = .ok (.iconst 2, 1) := by decide +kernel
theorem dL_law_165 : decode cL_law 165 = .ok (.iadd, 1) := by decide +kernel
theorem dL_law_166 : decode cL_law 166 = .ok (.iaload, 1) := by decide +kernel
theorem dL_law_167 : decode cL_law 167 = .ok (.invokevirtual 13, 3) := by decide +kernel
theorem dL_law_170 : decode cL_law 170 = .ok (.aload_n 2, 1) := by decide +kernel
theorem dL_law_171 : decode cL_law 171 = .ok (.aload_n 0, 1) := by decide +kernel
theorem dL_law_172 : decode cL_law 172 = .ok (.iload_n 3, 1) := by decide +kernel
theorem dL_law_173 : decode cL_law 173 = .ok (.iconst 1, 1) := by decide +kernel
theorem dL_law_174 : decode cL_law 174 = .ok (.iadd, 1) := by decide +kernel
theorem dL_law_175 : decode cL_law 175 = .ok (.iaload, 1) := by decide +kernel
theorem dL_law_176 : decode cL_law 176 = .ok (.aload_n 0, 1) := by decide +kernel
theorem dL_law_177 : decode cL_law 177 = .ok (.iload_n 3, 1) := by decide +kernel
theorem dL_law_178 : decode cL_law 178 = .ok (.iconst 2, 1) := by decide +kernel
theorem dL_law_179 : decode cL_law 179 = .ok (.iadd, 1) := by decide +kernel
theorem dL_law_180 : decode cL_law 180 = .ok (.iaload, 1) := by decide +kernel
theorem dL_law_181 : decode cL_law 181 = .ok (.invokevirtual 17, 3) := by decide +kernel
theorem dL_law_184 : decode cL_law 184 = .ok (.if_icmp .eq 754, 3) := by decide +kernel
theorem dL_law_187 : decode cL_law 187 = .ok (.iconst 0, 1) := by decide +kernel
theorem dL_law_188 : decode cL_law 188 = .ok (.ireturn, 1) := by decide +kernel
theorem dL_law_189 : decode cL_law 189 = .ok (.aload_n 1, 1) := by decide +kernel
theorem dL_law_190 : decode cL_law 190 = .ok (.aload_n 0, 1) := by decide +kernel
theorem dL_law_191 : decode cL_law 191 = .ok (.iload_n 3, 1) := by decide +kernel
theorem dL_law_192 : decode cL_law 192 = .ok (.iconst 1, 1) := by decide +kernel
theorem dL_law_193 : decode cL_law 193 = .ok (.iadd, 1) := by decide +kernel
theorem dL_law_194 : decode cL_law 194 = .ok (.iaload, 1) := by decide +kernel
theorem dL_law_195 : decode cL_law 195 = .ok (.aload_n 0, 1) := by decide +kernel
theorem dL_law_196 : decode cL_law 196 = .ok (.iload_n 3, 1) := by decide +kernel
theorem dL_law_197 : decode cL_law 197 = .ok (.iconst 2, 1) := by decide +kernel
theorem dL_law_198 : decode cL_law 198 = .ok (.iadd, 1) := by decide +kernel
theorem dL_law_199 : decode cL_law 199 = .ok (.iaload, 1) := by decide +kernel
theorem dL_law_200 : decode cL_law 200 = .ok (.invokevirtual 18, 3) := by decide +kernel
theorem dL_law_203 : decode cL_law 203 = .ok (.aload_n 2, 1) := by decide +kernel
theorem dL_law_204 : decode cL_law 204 = .ok (.aload_n 0, 1) := by decide +kernel
theorem dL_law_205 : decode cL_law 205 = .ok (.iload_n 3, 1) := by decide +kernel
theorem dL_law_206 : decode cL_law 206 = .ok (.iconst 1, 1) := by decide +kernel
theorem dL_law_207 : decode cL_law 207 = .ok (.iadd, 1) := by decide +kernel
theorem dL_law_208 : decode cL_law 208 = .ok (.iaload, 1) := by decide +kernel
theorem dL_law_209 : decode cL_law 209 = .ok (.aload_n 0, 1) := by decide +kernel
theorem dL_law_210 : decode cL_law 210 = .ok (.iload_n 3, 1) := by decide +kernel
theorem dL_law_211 : decode cL_law 211 = .ok (.iconst 2, 1) := by decide +kernel
theorem dL_law_212 : decode cL_law 212 = .ok (.iadd, 1) := by decide +kernel
theorem dL_law_213 : decode cL_law 213 = .ok (.iaload, 1) := by decide +kernel
theorem dL_law_214 : decode cL_law 214 = .ok (.invokevirtual 21, 3) := by decide +kernel
theorem dL_law_217 : decode cL_law 217 = .ok (.if_icmp .eq 721, 3) := by decide +kernel
theorem dL_law_220 : decode cL_law 220 = .ok (.iconst 0, 1) := by decide +kernel
theorem dL_law_221 : decode cL_law 221 = .ok (.ireturn, 1) := by decide +kernel
theorem dL_law_222 : decode cL_law 222 = .ok (.aload_n 1, 1) := by decide +kernel
theorem dL_law_223 : decode cL_law 223 = .ok (.aload_n 0, 1) := by decide +kernel
theorem dL_law_224 : decode cL_law 224 = .ok (.iload_n 3, 1) := by decide +kernel
theorem dL_law_225 : decode cL_law 225 = .ok (.iconst 1, 1) := by decide +kernel
theorem dL_law_226 : decode cL_law 226 = .ok (.iadd, 1) := by decide +kernel
theorem dL_law_227 : decode cL_law 227 = .ok (.iaload, 1) := by decide +kernel
theorem dL_law_228 : decode cL_law 228 = .ok (.aload_n 0, 1) := by decide +kernel
theorem dL_law_229 : decode cL_law 229 = .ok (.iload_n 3, 1) := by decide +kernel
theorem dL_law_230 : decode cL_law 230 = .ok (.iconst 2, 1) := by decide +kernel
theorem dL_law_231 : decode cL_law 231 = .ok (.iadd, 1) := by decide +kernel
theorem dL_law_232 : decode cL_law 232 = .ok (.iaload, 1) := by decide +kernel
theorem dL_law_233 : decode cL_law 233 = .ok (.invokevirtual 22, 3) := by decide +kernel
theorem dL_law_236 : decode cL_law 236 = .ok (.aload_n 2, 1) := by decide +kernel
theorem dL_law_237 : decode cL_law 237 = .ok (.aload_n 0, 1) := by decide +kernel
theorem dL_law_238 : decode cL_law 238 = .ok (.iload_n 3, 1) := by decide +kernel
theorem dL_law_239 : decode cL_law 239 = .ok (.iconst 1, 1) := by decide +kernel
theorem dL_law_240 : decode cL_law 240 = .ok (.iadd, 1) := by decide +kernel
theorem dL_law_241 : decode cL_law 241 = .ok (.iaload, 1) := by decide +kernel
theorem dL_law_242 : decode cL_law 242 = .ok (.aload_n 0, 1) := by decide +kernel
theorem dL_law_243 : decode cL_law 243 = .ok (.iload_n 3, 1) := by decide +kernel
theorem dL_law_244 : decode cL_law 244 = .ok (.iconst 2, 1) := by decide +kernel
theorem dL_law_245 : decode cL_law 245 = .ok (.iadd, 1) := by decide +kernel
theorem dL_law_246 : decode cL_law 246 = .ok (.iaload, 1) := by decide +kernel
theorem dL_law_247 : decode cL_law 247 = .ok (.invokevirtual 25, 3) := by decide +kernel
theorem dL_law_250 : decode cL_law 250 = .ok (.if_icmp .eq 688, 3) := by decide +kernel
theorem dL_law_253 : decode cL_law 253 = .ok (.iconst 0, 1) := by decide +kernel
theorem dL_law_254 : decode cL_law 254 = .ok (.ireturn, 1) := by decide +kernel
theorem dL_law_255 : decode cL_law 255 = .ok (.aload_n 1, 1) := by decide +kernel
theorem dL_law_256 : decode cL_law 256 = .ok (.aload_n 0, 1) := by decide +kernel
theorem dL_law_257 : decode cL_law 257 = .ok (.iload_n 3, 1) := by decide +kernel
theorem dL_law_258 : decode cL_law 258 = .ok (.iconst 1, 1) := by decide +kernel
theorem dL_law_259 : decode cL_law 259 = .ok (.iadd, 1) := by decide +kernel
theorem dL_law_260 : decode cL_law 260 = .ok (.iaload, 1) := by decide +kernel
theorem dL_law_261 : decode cL_law 261 = .ok (.invokevirtual 26, 3) := by decide +kernel
theorem dL_law_264 : decode cL_law 264 = .ok (.aload_n 2, 1) := by decide +kernel
theorem dL_law_265 : decode cL_law 265 = .ok (.aload_n 0, 1) := by decide +kernel
theorem dL_law_266 : decode cL_law 266 = .ok (.iload_n 3, 1) := by decide +kernel
theorem dL_law_267 : decode cL_law 267 = .ok (.iconst 1, 1) := by decide +kernel
theorem dL_law_268 : decode cL_law 268 = .ok (.iadd, 1) := by decide +kernel
theorem dL_law_269 : decode cL_law 269 = .ok (.iaload, 1) := by decide +kernel
theorem dL_law_270 : decode cL_law 270 = .ok (.invokevirtual 30, 3) := by decide +kernel
theorem dL_law_273 : decode cL_law 273 = .ok (.if_icmp .eq 665, 3) := by decide +kernel
theorem dL_law_276 : decode cL_law 276 = .ok (.iconst 0, 1) := by decide +kernel
theorem dL_law_277 : decode cL_law 277 = .ok (.ireturn, 1) := by decide +kernel
theorem dL_law_278 : decode cL_law 278 = .ok (.aload_n 1, 1) := by decide +kernel
theorem dL_law_279 : decode cL_law 279 = .ok (.aload_n 0, 1) := by decide +kernel
theorem dL_law_280 : decode cL_law 280 = .ok (.iload_n 3, 1) := by decide +kernel
theorem dL_law_281 : decode cL_law 281 = .ok (.iconst 1, 1) := by decide +kernel
theorem dL_law_282 : decode cL_law 282 = .ok (.iadd, 1) := by decide +kernel
theorem dL_law_283 : decode cL_law 283 = .ok (.iaload, 1) := by decide +kernel
theorem dL_law_284 : decode cL_law 284 = .ok (.invokevirtual 31, 3) := by decide +kernel
theorem dL_law_287 : decode cL_law 287 = .ok (.aload_n 2, 1) := by decide +kernel
theorem dL_law_288 : decode cL_law 288 = .ok (.aload_n 0, 1) := by decide +kernel
theorem dL_law_289 : decode cL_law 289 = .ok (.iload_n 3, 1) := by decide +kernel
theorem dL_law_290 : decode cL_law 290 = .ok (.iconst 1, 1) := by decide +kernel
theorem dL_law_291 : decode cL_law 291 = .ok (.iadd, 1) := by decide +kernel
theorem dL_law_292 : decode cL_law 292 = .ok (.iaload, 1) := by decide +kernel
theorem dL_law_293 : decode cL_law 293 = .ok (.invokevirtual 34, 3) := by decide +kernel
theorem dL_law_296 : decode cL_law 296 = .ok (.if_icmp .eq 642, 3) := by decide +kernel
theorem dL_law_299 : decode cL_law 299 = .ok (.iconst 0, 1) := by decide +kernel
theorem dL_law_300 : decode cL_law 300 = .ok (.ireturn, 1) := by decide +kernel
theorem dL_law_301 : decode cL_law 301 = .ok (.aload_n 1, 1) := by decide +kernel
theorem dL_law_302 : decode cL_law 302 = .ok (.aload_n 0, 1) := by decide +kernel
theorem dL_law_303 : decode cL_law 303 = .ok (.iload_n 3, 1) := by decide +kernel
theorem dL_law_304 : decode cL_law 304 = .ok (.iconst 1, 1) := by decide +kernel
theorem dL_law_305 : decode cL_law 305 = .ok (.iadd, 1) := by decide +kernel
theorem dL_law_306 : decode cL_law 306 = .ok (.iaload, 1) := by decide +kernel
theorem dL_law_307 : decode cL_law 307 = .ok (.aload_n 0, 1) := by decide +kernel
theorem dL_law_308 : decode cL_law 308 = .ok (.iload_n 3, 1) := by decide +kernel
theorem dL_law_309 : decode cL_law 309 = .ok (.iconst 2, 1) := by decide +kernel
theorem dL_law_310 : decode cL_law 310 = .ok (.iadd, 1) := by decide +kernel
theorem dL_law_311 : decode cL_law 311 = .ok (.iaload, 1) := by decide +kernel
theorem dL_law_312 : decode cL_law 312 = .ok (.aload_n 0, 1) := by decide +kernel
theorem dL_law_313 : decode cL_law 313 = .ok (.iload_n 3, 1) := by decide +kernel
theorem dL_law_314 : decode cL_law 314 = .ok (.iconst 3, 1) := by decide +kernel
theorem dL_law_315 : decode cL_law 315 = .ok (.iadd, 1) := by decide +kernel
theorem dL_law_316 : decode cL_law 316 = .ok (.iaload, 1) := by decide +kernel
theorem dL_law_317 : decode cL_law 317 = .ok (.invokevirtual 35, 3) := by decide +kernel
theorem dL_law_320 : decode cL_law 320 = .ok (.aload_n 2, 1) := by decide +kernel
theorem dL_law_321 : decode cL_law 321 = .ok (.aload_n 0, 1) := by decide +kernel
theorem dL_law_322 : decode cL_law 322 = .ok (.iload_n 3, 1) := by decide +kernel
theorem dL_law_323 : decode cL_law 323 = .ok (.iconst 1, 1) := by decide +kernel
theorem dL_law_324 : decode cL_law 324 = .ok (.iadd, 1) := by decide +kernel
theorem dL_law_325 : decode cL_law 325 = .ok (.iaload, 1) := by decide +kernel
theorem dL_law_326 : decode cL_law 326 = .ok (.aload_n 0, 1) := by decide +kernel
theorem dL_law_327 : decode cL_law 327 = .ok (.iload_n 3, 1) := by decide +kernel
theorem dL_law_328 : decode cL_law 328 = .ok (.iconst 2, 1) := by decide +kernel
theorem dL_law_329 : decode cL_law 329 = .ok (.iadd, 1) := by decide +kernel
theorem dL_law_330 : decode cL_law 330 = .ok (.iaload, 1) := by decide +kernel
theorem dL_law_331 : decode cL_law 331 = .ok (.aload_n 0, 1) := by decide +kernel
theorem dL_law_332 : decode cL_law 332 = .ok (.iload_n 3, 1) := by decide +kernel
theorem dL_law_333 : decode cL_law 333 = .ok (.iconst 3, 1) := by decide +kernel
theorem dL_law_334 : decode cL_law 334 = .ok (.iadd, 1) := by decide +kernel
theorem dL_law_335 : decode cL_law 335 = .ok (.iaload, 1) := by decide +kernel
theorem dL_law_336 : decode cL_law 336 = .ok (.invokevirtual 39, 3) := by decide +kernel
theorem dL_law_339 : decode cL_law 339 = .ok (.if_icmp .eq 599, 3) := by decide +kernel
theorem dL_law_342 : decode cL_law 342 = .ok (.iconst 0, 1) := by decide +kernel
theorem dL_law_343 : decode cL_law 343 = .ok (.ireturn, 1) := by decide +kernel
theorem dL_law_344 : decode cL_law 344 = .ok (.aload_n 1, 1) := by decide +kernel
theorem dL_law_345 : decode cL_law 345 = .ok (.aload_n 0, 1) := by decide +kernel
theorem dL_law_346 : decode cL_law 346 = .ok (.iload_n 3, 1) := by decide +kernel
theorem dL_law_347 : decode cL_law 347 = .ok (.iconst 1, 1) := by decide +kernel
theorem dL_law_348 : decode cL_law 348 = .ok (.iadd, 1) := by decide +kernel
theorem dL_law_349 : decode cL_law 349 = .ok (.iaload, 1) := by decide +kernel
theorem dL_law_350 : decode cL_law 350 = .ok (.aload_n 0, 1) := by decide +kernel
theorem dL_law_351 : decode cL_law 351 = .ok (.iload_n 3, 1) := by decide +kernel
theorem dL_law_352 : decode cL_law 352 = .ok (.iconst 2, 1) := by decide +kernel
theorem dL_law_353 : decode cL_law 353 = .ok (.iadd, 1) := by decide +kernel
theorem dL_law_354 : decode cL_law 354 = .ok (.iaload, 1) := by decide +kernel
theorem dL_law_355 : decode cL_law 355 = .ok (.aload_n 0, 1) := by decide +kernel
theorem dL_law_356 : decode cL_law 356 = .ok (.iload_n 3, 1) := by decide +kernel
theorem dL_law_357 : decode cL_law 357 = .ok (.iconst 3, 1) := by decide +kernel
theorem dL_law_358 : decode cL_law 358 = .ok (.iadd, 1) := by decide +kernel
theorem dL_law_359 : decode cL_law 359 = .ok (.iaload, 1) := by decide +kernel
theorem dL_law_360 : decode cL_law 360 = .ok (.invokevirtual 40, 3) := by decide +kernel
theorem dL_law_363 : decode cL_law 363 = .ok (.aload_n 2, 1) := by decide +kernel
theorem dL_law_364 : decode cL_law 364 = .ok (.aload_n 0, 1) := by decide +kernel
theorem dL_law_365 : decode cL_law 365 = .ok (.iload_n 3, 1) := by decide +kernel
theorem dL_law_366 : decode cL_law 366 = .ok (.iconst 1, 1) := by decide +kernel
theorem dL_law_367 : decode cL_law 367 = .ok (.iadd, 1) := by decide +kernel
theorem dL_law_368 : decode cL_law 368 = .ok (.iaload, 1) := by decide +kernel
theorem dL_law_369 : decode cL_law 369 = .ok (.aload_n 0, 1) := by decide +kernel
theorem dL_law_370 : decode cL_law 370 = .ok (.iload_n 3, 1) := by decide +kernel
theorem dL_law_371 : decode cL_law 371 = .ok (.iconst 2, 1) := by decide +kernel
theorem dL_law_372 : decode cL_law 372 = .ok (.iadd, 1) := by decide +kernel
theorem dL_law_373 : decode cL_law 373 = .ok (.iaload, 1) := by decide +kernel
theorem dL_law_374 : decode cL_law 374 = .ok (.aload_n 0, 1) := by decide +kernel
theorem dL_law_375 : decode cL_law 375 = .ok (.iload_n 3, 1) := by decide +kernel
theorem dL_law_376 : decode cL_law 376 = .ok (.iconst 3, 1) := by decide +kernel
theorem dL_law_377 : decode cL_law 377 = .ok (.iadd, 1) := by decide +kernel
theorem dL_law_378 : decode cL_law 378 = .ok (.iaload, 1) := by decide +kernel
theorem dL_law_379 : decode cL_law 379 = .ok (.invokevirtual 43, 3) := by decide +kernel
theorem dL_law_382 : decode cL_law 382 = .ok (.if_icmp .eq 556, 3) := by decide +kernel
theorem dL_law_385 : decode cL_law 385 = .ok (.iconst 0, 1) := by decide +kernel
theorem dL_law_386 : decode cL_law 386 = .ok (.ireturn, 1) := by decide +kernel
theorem dL_law_387 : decode cL_law 387 = .ok (.aload_n 1, 1) := by decide +kernel
theorem dL_law_388 : decode cL_law 388 = .ok (.aload_n 0, 1) := by decide +kernel
theorem dL_law_389 : decode cL_law 389 = .ok (.iload_n 3, 1) := by decide +kernel
theorem dL_law_390 : decode cL_law 390 = .ok (.iconst 1, 1) := by decide +kernel
theorem dL_law_391 : decode cL_law 391 = .ok (.iadd, 1) := by decide +kernel
theorem dL_law_392 : decode cL_law 392 = .ok (.iaload, 1) := by decide +kernel
theorem dL_law_393 : decode cL_law 393 = .ok (.aload_n 0, 1) := by decide +kernel
theorem dL_law_394 : decode cL_law 394 = .ok (.iload_n 3, 1) := by decide +kernel
theorem dL_law_395 : decode cL_law 395 = .ok (.iconst 2, 1) := by decide +kernel
theorem dL_law_396 : decode cL_law 396 = .ok (.iadd, 1) := by decide +kernel
theorem dL_law_397 : decode cL_law 397 = .ok (.iaload, 1) := by decide +kernel
theorem dL_law_398 : decode cL_law 398 = .ok (.aload_n 0, 1) := by decide +kernel
theorem dL_law_399 : decode cL_law 399 = .ok (.iload_n 3, 1) := by decide +kernel
theorem dL_law_400 : decode cL_law 400 = .ok (.iconst 3, 1) := by decide +kernel
theorem dL_law_401 : decode cL_law 401 = .ok (.iadd, 1) := by decide +kernel
theorem dL_law_402 : decode cL_law 402 = .ok (.iaload, 1) := by decide +kernel
theorem dL_law_403 : decode cL_law 403 = .ok (.aload_n 0, 1) := by decide +kernel
theorem dL_law_404 : decode cL_law 404 = .ok (.iload_n 3, 1) := by decide +kernel
theorem dL_law_405 : decode cL_law 405 = .ok (.iconst 4, 1) := by decide +kernel
theorem dL_law_406 : decode cL_law 406 = .ok (.iadd, 1) := by decide +kernel
theorem dL_law_407 : decode cL_law 407 = .ok (.iaload, 1) := by decide +kernel
theorem dL_law_408 : decode cL_law 408 = .ok (.invokevirtual 44, 3) := by decide +kernel
theorem dL_law_411 : decode cL_law 411 = .ok (.aload_n 2, 1) := by decide +kernel
theorem dL_law_412 : decode cL_law 412 = .ok (.aload_n 0, 1) := by decide +kernel
theorem dL_law_413 : decode cL_law 413 = .ok (.iload_n 3, 1) := by decide +kernel
theorem dL_law_414 : decode cL_law 414 = .ok (.iconst 1, 1) := by decide +kernel
theorem dL_law_415 : decode cL_law 415 = .ok (.iadd, 1) := by decide +kernel
theorem dL_law_416 : decode cL_law 416 = .ok (.iaload, 1) := by decide +kernel
theorem dL_law_417 : decode cL_law 417 = .ok (.aload_n 0, 1) := by decide +kernel
theorem dL_law_418 : decode cL_law 418 = .ok (.iload_n 3, 1) := by decide +kernel
theorem dL_law_419 : decode cL_law 419 = .ok (.iconst 2, 1) := by decide +kernel
theorem dL_law_420 : decode cL_law 420 = .ok (.iadd, 1) := by decide +kernel
theorem dL_law_421 : decode cL_law 421 = .ok (.iaload, 1) := by decide +kernel
theorem dL_law_422 : decode cL_law 422 = .ok (.aload_n 0, 1) := by decide +kernel
theorem dL_law_423 : decode cL_law 423 = .ok (.iload_n 3, 1) := by decide +kernel
theorem dL_law_424 : decode cL_law 424 = .ok (.iconst 3, 1) := by decide +kernel
theorem dL_law_425 : decode cL_law 425 = .ok (.iadd, 1) := by decide +kernel
theorem dL_law_426 : decode cL_law 426 = .ok (.iaload, 1) := by decide +kernel
theorem dL_law_427 : decode cL_law 427 = .ok (.aload_n 0, 1) := by decide +kernel
theorem dL_law_428 : decode cL_law 428 = .ok (.iload_n 3, 1) := by decide +kernel
theorem dL_law_429 : decode cL_law 429 = .ok (.iconst 4, 1) := by decide +kernel
theorem dL_law_430 : decode cL_law 430 = .ok (.iadd, 1) := by decide +kernel
theorem dL_law_431 : decode cL_law 431 = .ok (.iaload, 1) := by decide +kernel
theorem dL_law_432 : decode cL_law 432 = .ok (.invokevirtual 48, 3) := by decide +kernel
theorem dL_law_435 : decode cL_law 435 = .ok (.if_icmp .eq 503, 3) := by decide +kernel
theorem dL_law_438 : decode cL_law 438 = .ok (.iconst 0, 1) := by decide +kernel
theorem dL_law_439 : decode cL_law 439 = .ok (.ireturn, 1) := by decide +kernel
theorem dL_law_440 : decode cL_law 440 = .ok (.aload_n 1, 1) := by decide +kernel
theorem dL_law_441 : decode cL_law 441 = .ok (.aload_n 0, 1) := by decide +kernel
theorem dL_law_442 : decode cL_law 442 = .ok (.iload_n 3, 1) := by decide +kernel
theorem dL_law_443 : decode cL_law 443 = .ok (.iconst 1, 1) := by decide +kernel
theorem dL_law_444 : decode cL_law 444 = .ok (.iadd, 1) := by decide +kernel
theorem dL_law_445 : decode cL_law 445 = .ok (.iaload, 1) := by decide +kernel
theorem dL_law_446 : decode cL_law 446 = .ok (.aload_n 0, 1) := by decide +kernel
theorem dL_law_447 : decode cL_law 447 = .ok (.iload_n 3, 1) := by decide +kernel
theorem dL_law_448 : decode cL_law 448 = .ok (.iconst 2, 1) := by decide +kernel
theorem dL_law_449 : decode cL_law 449 = .ok (.iadd, 1) := by decide +kernel
theorem dL_law_450 : decode cL_law 450 = .ok (.iaload, 1) := by decide +kernel
theorem dL_law_451 : decode cL_law 451 = .ok (.invokevirtual 49, 3) := by decide +kernel
theorem dL_law_454 : decode cL_law 454 = .ok (.aload_n 2, 1) := by decide +kernel
theorem dL_law_455 : decode cL_law 455 = .ok (.aload_n 0, 1) := by decide +kernel
theorem dL_law_456 : decode cL_law 456 = .ok (.iload_n 3, 1) := by decide +kernel
theorem dL_law_457 : decode cL_law 457 = .ok (.iconst 1, 1) := by decide +kernel
theorem dL_law_458 : decode cL_law 458 = .ok (.iadd, 1) := by decide +kernel
theorem dL_law_459 : decode cL_law 459 = .ok (.iaload, 1) := by decide +kernel
theorem dL_law_460 : decode cL_law 460 = .ok (.aload_n 0, 1) := by decide +kernel
theorem dL_law_461 : decode cL_law 461 = .ok (.iload_n 3, 1) := by decide +kernel
theorem dL_law_462 : decode cL_law 462 = .ok (.iconst 2, 1) := by decide +kernel
theorem dL_law_463 : decode cL_law 463 = .ok (.iadd, 1) := by decide +kernel
theorem dL_law_464 : decode cL_law 464 = .ok (.iaload, 1) := by decide +kernel
theorem dL_law_465 : decode cL_law 465 = .ok (.invokevirtual 53, 3) := by decide +kernel
theorem dL_law_468 : decode cL_law 468 = .ok (.lcmp, 1) := by decide +kernel
theorem dL_law_469 : decode cL_law 469 = .ok (.ifCond .eq 469, 3) := by decide +kernel
theorem dL_law_472 : decode cL_law 472 = .ok (.iconst 0, 1) := by decide +kernel
theorem dL_law_473 : decode cL_law 473 = .ok (.ireturn, 1) := by decide +kernel
theorem dL_law_474 : decode cL_law 474 = .ok (.aload_n 1, 1) := by decide +kernel
theorem dL_law_475 : decode cL_law 475 = .ok (.aload_n 0, 1) := by decide +kernel
theorem dL_law_476 : decode cL_law 476 = .ok (.iload_n 3, 1) := by decide +kernel
theorem dL_law_477 : decode cL_law 477 = .ok (.iconst 1, 1) := by decide +kernel
theorem dL_law_478 : decode cL_law 478 = .ok (.iadd, 1) := by decide +kernel
theorem dL_law_479 : decode cL_law 479 = .ok (.iaload, 1) := by decide +kernel
theorem dL_law_480 : decode cL_law 480 = .ok (.invokevirtual 54, 3) := by decide +kernel
theorem dL_law_483 : decode cL_law 483 = .ok (.aload_n 2, 1) := by decide +kernel
theorem dL_law_484 : decode cL_law 484 = .ok (.aload_n 0, 1) := by decide +kernel
theorem dL_law_485 : decode cL_law 485 = .ok (.iload_n 3, 1) := by decide +kernel
theorem dL_law_486 : decode cL_law 486 = .ok (.iconst 1, 1) := by decide +kernel
theorem dL_law_487 : decode cL_law 487 = .ok (.iadd, 1) := by decide +kernel
theorem dL_law_488 : decode cL_law 488 = .ok (.iaload, 1) := by decide +kernel
theorem dL_law_489 : decode cL_law 489 = .ok (.invokevirtual 57, 3) := by decide +kernel
theorem dL_law_492 : decode cL_law 492 = .ok (.if_icmp .eq 446, 3) := by decide +kernel
theorem dL_law_495 : decode cL_law 495 = .ok (.iconst 0, 1) := by decide +kernel
theorem dL_law_496 : decode cL_law 496 = .ok (.ireturn, 1) := by decide +kernel
theorem dL_law_497 : decode cL_law 497 = .ok (.aload_n 1, 1) := by decide +kernel
theorem dL_law_498 : decode cL_law 498 = .ok (.aload_n 0, 1) := by decide +kernel
theorem dL_law_499 : decode cL_law 499 = .ok (.iload_n 3, 1) := by decide +kernel
theorem dL_law_500 : decode cL_law 500 = .ok (.iconst 1, 1) := by decide +kernel
theorem dL_law_501 : decode cL_law 501 = .ok (.iadd, 1) := by decide +kernel
theorem dL_law_502 : decode cL_law 502 = .ok (.iaload, 1) := by decide +kernel
theorem dL_law_503 : decode cL_law 503 = .ok (.aload_n 0, 1) := by decide +kernel
theorem dL_law_504 : decode cL_law 504 = .ok (.iload_n 3, 1) := by decide +kernel
theorem dL_law_505 : decode cL_law 505 = .ok (.iconst 2, 1) := by decide +kernel
theorem dL_law_506 : decode cL_law 506 = .ok (.iadd, 1) := by decide +kernel
theorem dL_law_507 : decode cL_law 507 = .ok (.iaload, 1) := by decide +kernel
theorem dL_law_508 : decode cL_law 508 = .ok (.invokevirtual 58, 3) := by decide +kernel
theorem dL_law_511 : decode cL_law 511 = .ok (.aload_n 2, 1) := by decide +kernel
theorem dL_law_512 : decode cL_law 512 = .ok (.aload_n 0, 1) := by decide +kernel
theorem dL_law_513 : decode cL_law 513 = .ok (.iload_n 3, 1) := by decide +kernel
theorem dL_law_514 : decode cL_law 514 = .ok (.iconst 1, 1) := by decide +kernel
theorem dL_law_515 : decode cL_law 515 = .ok (.iadd, 1) := by decide +kernel
theorem dL_law_516 : decode cL_law 516 = .ok (.iaload, 1) := by decide +kernel
theorem dL_law_517 : decode cL_law 517 = .ok (.aload_n 0, 1) := by decide +kernel
theorem dL_law_518 : decode cL_law 518 = .ok (.iload_n 3, 1) := by decide +kernel
theorem dL_law_519 : decode cL_law 519 = .ok (.iconst 2, 1) := by decide +kernel
theorem dL_law_520 : decode cL_law 520 = .ok (.iadd, 1) := by decide +kernel
theorem dL_law_521 : decode cL_law 521 = .ok (.iaload, 1) := by decide +kernel
theorem dL_law_522 : decode cL_law 522 = .ok (.invokevirtual 61, 3) := by decide +kernel
theorem dL_law_525 : decode cL_law 525 = .ok (.if_icmp .eq 413, 3) := by decide +kernel
theorem dL_law_528 : decode cL_law 528 = .ok (.iconst 0, 1) := by decide +kernel
theorem dL_law_529 : decode cL_law 529 = .ok (.ireturn, 1) := by decide +kernel
theorem dL_law_530 : decode cL_law 530 = .ok (.aload_n 1, 1) := by decide +kernel
theorem dL_law_531 : decode cL_law 531 = .ok (.aload_n 0, 1) := by decide +kernel
theorem dL_law_532 : decode cL_law 532 = .ok (.iload_n 3, 1) := by decide +kernel
theorem dL_law_533 : decode cL_law 533 = .ok (.iconst 1, 1) := by decide +kernel
theorem dL_law_534 : decode cL_law 534 = .ok (.iadd, 1) := by decide +kernel
theorem dL_law_535 : decode cL_law 535 = .ok (.iaload, 1) := by decide +kernel
theorem dL_law_536 : decode cL_law 536 = .ok (.invokevirtual 62, 3) := by decide +kernel
theorem dL_law_539 : decode cL_law 539 = .ok (.aload_n 2, 1) := by decide +kernel
theorem dL_law_540 : decode cL_law 540 = .ok (.aload_n 0, 1) := by decide +kernel
theorem dL_law_541 : decode cL_law 541 = .ok (.iload_n 3, 1) := by decide +kernel
theorem dL_law_542 : decode cL_law 542 = .ok (.iconst 1, 1) := by decide +kernel
theorem dL_law_543 : decode cL_law 543 = .ok (.iadd, 1) := by decide +kernel
theorem dL_law_544 : decode cL_law 544 = .ok (.iaload, 1) := by decide +kernel
theorem dL_law_545 : decode cL_law 545 = .ok (.invokevirtual 65, 3) := by decide +kernel
theorem dL_law_548 : decode cL_law 548 = .ok (.if_icmp .eq 390, 3) := by decide +kernel
theorem dL_law_551 : decode cL_law 551 = .ok (.iconst 0, 1) := by decide +kernel
theorem dL_law_552 : decode cL_law 552 = .ok (.ireturn, 1) := by decide +kernel
theorem dL_law_553 : decode cL_law 553 = .ok (.aload_n 1, 1) := by decide +kernel
theorem dL_law_554 : decode cL_law 554 = .ok (.aload_n 0, 1) := by decide +kernel
theorem dL_law_555 : decode cL_law 555 = .ok (.iload_n 3, 1) := by decide +kernel
theorem dL_law_556 : decode cL_law 556 = .ok (.iconst 1, 1) := by decide +kernel
theorem dL_law_557 : decode cL_law 557 = .ok (.iadd, 1) := by decide +kernel
theorem dL_law_558 : decode cL_law 558 = .ok (.iaload, 1) := by decide +kernel
theorem dL_law_559 : decode cL_law 559 = .ok (.invokevirtual 66, 3) := by decide +kernel
theorem dL_law_562 : decode cL_law 562 = .ok (.aload_n 2, 1) := by decide +kernel
theorem dL_law_563 : decode cL_law 563 = .ok (.aload_n 0, 1) := by decide +kernel
theorem dL_law_564 : decode cL_law 564 = .ok (.iload_n 3, 1) := by decide +kernel
theorem dL_law_565 : decode cL_law 565 = .ok (.iconst 1, 1) := by decide +kernel
theorem dL_law_566 : decode cL_law 566 = .ok (.iadd, 1) := by decide +kernel
theorem dL_law_567 : decode cL_law 567 = .ok (.iaload, 1) := by decide +kernel
theorem dL_law_568 : decode cL_law 568 = .ok (.invokevirtual 69, 3) := by decide +kernel
theorem dL_law_571 : decode cL_law 571 = .ok (.if_icmp .eq 367, 3) := by decide +kernel
theorem dL_law_574 : decode cL_law 574 = .ok (.iconst 0, 1) := by decide +kernel
theorem dL_law_575 : decode cL_law 575 = .ok (.ireturn, 1) := by decide +kernel
theorem dL_law_576 : decode cL_law 576 = .ok (.aload_n 1, 1) := by decide +kernel
theorem dL_law_577 : decode cL_law 577 = .ok (.aload_n 0, 1) := by decide +kernel
theorem dL_law_578 : decode cL_law 578 = .ok (.iload_n 3, 1) := by decide +kernel
theorem dL_law_579 : decode cL_law 579 = .ok (.iconst 1, 1) := by decide +kernel
theorem dL_law_580 : decode cL_law 580 = .ok (.iadd, 1) := by decide +kernel
theorem dL_law_581 : decode cL_law 581 = .ok (.iaload, 1) := by decide +kernel
theorem dL_law_582 : decode cL_law 582 = .ok (.aload_n 0, 1) := by decide +kernel
theorem dL_law_583 : decode cL_law 583 = .ok (.iload_n 3, 1) := by decide +kernel
theorem dL_law_584 : decode cL_law 584 = .ok (.iconst 2, 1) := by decide +kernel
theorem dL_law_585 : decode cL_law 585 = .ok (.iadd, 1) := by decide +kernel
theorem dL_law_586 : decode cL_law 586 = .ok (.iaload, 1) := by decide +kernel
theorem dL_law_587 : decode cL_law 587 = .ok (.invokevirtual 70, 3) := by decide +kernel
theorem dL_law_590 : decode cL_law 590 = .ok (.aload_n 2, 1) := by decide +kernel
theorem dL_law_591 : decode cL_law 591 = .ok (.aload_n 0, 1) := by decide +kernel
theorem dL_law_592 : decode cL_law 592 = .ok (.iload_n 3, 1) := by decide +kernel
theorem dL_law_593 : decode cL_law 593 = .ok (.iconst 1, 1) := by decide +kernel
theorem dL_law_594 : decode cL_law 594 = .ok (.iadd, 1) := by decide +kernel
theorem dL_law_595 : decode cL_law 595 = .ok (.iaload, 1) := by decide +kernel
theorem dL_law_596 : decode cL_law 596 = .ok (.aload_n 0, 1) := by decide +kernel
theorem dL_law_597 : decode cL_law 597 = .ok (.iload_n 3, 1) := by decide +kernel
theorem dL_law_598 : decode cL_law 598 = .ok (.iconst 2, 1) := by decide +kernel
theorem dL_law_599 : decode cL_law 599 = .ok (.iadd, 1) := by decide +kernel
