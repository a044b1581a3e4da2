theorem dX0_init_0 : decode cX0_init 0 = .ok (.aload_n 0, 1) := by decide +kernel
theorem dX0_init_1 : decode cX0_init 1 = .ok (.invokespecial 3, 3) := by decide +kernel
theorem dX0_init_4 : decode cX0_init 4 = .ok (.aload_n 0, 1) := by decide +kernel
theorem dX0_init_5 : decode cX0_init 5 = .ok (.bipush 26, 2) := by decide +kernel
theorem dX0_init_7 : decode cX0_init 7 = .ok (.newarray .int, 2) := by decide +kernel
theorem dX0_init_9 : decode cX0_init 9 = .ok (.putfield 9, 3) := by decide +kernel
theorem dX0_init_12 : decode cX0_init 12 = .ok (.aload_n 0, 1) := by decide +kernel
theorem dX0_init_13 : decode cX0_init 13 = .ok (.bipush 26, 2) := by decide +kernel
theorem dX0_init_15 : decode cX0_init 15 = .ok (.newarray .int, 2) := by decide +kernel
theorem dX0_init_17 : decode cX0_init 17 = .ok (.putfield 15, 3) := by decide +kernel
theorem dX0_init_20 : decode cX0_init 20 = .ok (.aload_n 0, 1) := by decide +kernel
theorem dX0_init_21 : decode cX0_init 21 = .ok (.aload_n 1, 1) := by decide +kernel
theorem dX0_init_22 : decode cX0_init 22 = .ok (.putfield 18, 3) := by decide +kernel
theorem dX0_init_25 : decode cX0_init 25 = .ok (.return_, 1) := by decide +kernel
theorem dX0_areAlike_0 : decode cX0_areAlike 0 = .ok (.iconst 0, 1) := by decide +kernel
theorem dX0_areAlike_1 : decode cX0_areAlike 1 = .ok (.istore_n 3, 1) := by decide +kernel
theorem dX0_areAlike_2 : decode cX0_areAlike 2 = .ok (.iload_n 3, 1) := by decide +kernel
theorem dX0_areAlike_3 : decode cX0_areAlike 3 = .ok (.bipush 26, 2) := by decide +kernel
theorem dX0_areAlike_5 : decode cX0_areAlike 5 = .ok (.if_icmp .ge 25, 3) := by decide +kernel
theorem dX0_areAlike_8 : decode cX0_areAlike 8 = .ok (.aload_n 0, 1) := by decide +kernel
theorem dX0_areAlike_9 : decode cX0_areAlike 9 = .ok (.getfield 9, 3) := by decide +kernel
theorem dX0_areAlike_12 : decode cX0_areAlike 12 = .ok (.iload_n 3, 1) := by decide +kernel
theorem dX0_areAlike_13 : decode cX0_areAlike 13 = .ok (.bipush (-2), 2) := by decide +kernel
theorem dX0_areAlike_15 : decode cX0_areAlike 15 = .ok (.iastore, 1) := by decide +kernel
theorem dX0_areAlike_16 : decode cX0_areAlike 16 = .ok (.aload_n 0, 1) := by decide +kernel
theorem dX0_areAlike_17 : decode cX0_areAlike 17 = .ok (.getfield 15, 3) := by decide +kernel
theorem dX0_areAlike_20 : decode cX0_areAlike 20 = .ok (.iload_n 3, 1) := by decide +kernel
theorem dX0_areAlike_21 : decode cX0_areAlike 21 = .ok (.bipush (-2), 2) := by decide +kernel
theorem dX0_areAlike_23 : decode cX0_areAlike 23 = .ok (.iastore, 1) := by decide +kernel
theorem dX0_areAlike_24 : decode cX0_areAlike 24 = .ok (.iinc 3 1, 3) := by decide +kernel
theorem dX0_areAlike_27 : decode cX0_areAlike 27 = .ok (.goto (-25), 3) := by decide +kernel
theorem dX0_areAlike_30 : decode cX0_areAlike 30 = .ok (.aload_n 0, 1) := by decide +kernel
theorem dX0_areAlike_31 : decode cX0_areAlike 31 = .ok (.iload_n 1, 1) := by decide +kernel
theorem dX0_areAlike_32 : decode cX0_areAlike 32 = .ok (.iload_n 2, 1) := by decide +kernel
theorem dX0_areAlike_33 : decode cX0_areAlike 33 = .ok (.iconst 0, 1) := by decide +kernel
theorem dX0_areAlike_34 : decode cX0_areAlike 34 = .ok (.invokevirtual 22, 3) := by decide +kernel
theorem dX0_areAlike_37 : decode cX0_areAlike 37 = .ok (.ireturn, 1) := by decide +kernel
theorem dX0_same_0 : decode cX0_same 0 = .ok (.aload_n 0, 1) := by decide +kernel
theorem dX0_same_1 : decode cX0_same 1 = .ok (.getfield 18, 3) := by decide +kernel
theorem dX0_same_4 : decode cX0_same 4 = .ok (.iload_n 1, 1) := by decide +kernel
theorem dX0_same_5 : decode cX0_same 5 = .ok (.invokevirtual 26, 3) := by decide +kernel
theorem dX0_same_8 : decode cX0_same 8 = .ok (.istore 4, 2) := by decide +kernel
theorem dX0_same_10 : decode cX0_same 10 = .ok (.iload 4, 2) := by decide +kernel
theorem dX0_same_12 : decode cX0_same 12 = .ok (.aload_n 0, 1) := by decide +kernel
theorem dX0_same_13 : decode cX0_same 13 = .ok (.getfield 18, 3) := by decide +kernel
theorem dX0_same_16 : decode cX0_same 16 = .ok (.iload_n 2, 1) := by decide +kernel
theorem dX0_same_17 : decode cX0_same 17 = .ok (.invokevirtual 26, 3) := by decide +kernel
theorem dX0_same_20 : decode cX0_same 20 = .ok (.if_icmp .ne 22, 3) := by decide +kernel
theorem dX0_same_23 : decode cX0_same 23 = .ok (.aload_n 0, 1) := by decide +kernel
theorem dX0_same_24 : decode cX0_same 24 = .ok (.getfield 18, 3) := by decide +kernel
theorem dX0_same_27 : decode cX0_same 27 = .ok (.iload_n 1, 1) := by decide +kernel
theorem dX0_same_28 : decode cX0_same 28 = .ok (.invokevirtual 32, 3) := by decide +kernel
theorem dX0_same_31 : decode cX0_same 31 = .ok (.aload_n 0, 1) := by decide +kernel
theorem dX0_same_32 : decode cX0_same 32 = .ok (.getfield 18, 3) := by decide +kernel
theorem dX0_same_35 : decode cX0_same 35 = .ok (.iload_n 2, 1) := by decide +kernel
theorem dX0_same_36 : decode cX0_same 36 = .ok (.invokevirtual 32, 3) := by decide +kernel
theorem dX0_same_39 : decode cX0_same 39 = .ok (.if_icmp .eq 5, 3) := by decide +kernel
theorem dX0_same_42 : decode cX0_same 42 = .ok (.iconst 0, 1) := by decide +kernel
theorem dX0_same_43 : decode cX0_same 43 = .ok (.ireturn, 1) := by decide +kernel
theorem dX0_same_44 : decode cX0_same 44 = .ok (.iload 4, 2) := by decide +kernel
theorem dX0_same_46 : decode cX0_same 46 = .ok (.tableswitch 273 0 6 #[42, 67, 88, 195, 139, 195, 195], 42) := by decide +kernel
theorem dX0_same_88 : decode cX0_same 88 = .ok (.aload_n 0, 1) := by decide +kernel
theorem dX0_same_89 : decode cX0_same 89 = .ok (.getfield 18, 3) := by decide +kernel
theorem dX0_same_92 : decode cX0_same 92 = .ok (.iload_n 1, 1) := by decide +kernel
theorem dX0_same_93 : decode cX0_same 93 = .ok (.invokevirtual 35, 3) := by decide +kernel
theorem dX0_same_96 : decode cX0_same 96 = .ok (.aload_n 0, 1) := by decide +kernel
theorem dX0_same_97 : decode cX0_same 97 = .ok (.getfield 18, 3) := by decide +kernel
theorem dX0_same_100 : decode cX0_same 100 = .ok (.iload_n 2, 1) := by decide +kernel
theorem dX0_same_101 : decode cX0_same 101 = .ok (.invokevirtual 35, 3) := by decide +kernel
theorem dX0_same_104 : decode cX0_same 104 = .ok (.if_icmp .ne 7, 3) := by decide +kernel
theorem dX0_same_107 : decode cX0_same 107 = .ok (.iconst 1, 1) := by decide +kernel
theorem dX0_same_108 : decode cX0_same 108 = .ok (.goto 4, 3) := by decide +kernel
theorem dX0_same_111 : decode cX0_same 111 = .ok (.iconst 0, 1) := by decide +kernel
theorem dX0_same_112 : decode cX0_same 112 = .ok (.ireturn, 1) := by decide +kernel
theorem dX0_same_113 : decode cX0_same 113 = .ok (.aload_n 0, 1) := by decide +kernel
theorem dX0_same_114 : decode cX0_same 114 = .ok (.aload_n 0, 1) := by decide +kernel
theorem dX0_same_115 : decode cX0_same 115 = .ok (.getfield 18, 3) := by decide +kernel
theorem dX0_same_118 : decode cX0_same 118 = .ok (.iload_n 1, 1) := by decide +kernel
theorem dX0_same_119 : decode cX0_same 119 = .ok (.invokevirtual 38, 3) := by decide +kernel
theorem dX0_same_122 : decode cX0_same 122 = .ok (.aload_n 0, 1) := by decide +kernel
theorem dX0_same_123 : decode cX0_same 123 = .ok (.getfield 18, 3) := by decide +kernel
theorem dX0_same_126 : decode cX0_same 126 = .ok (.iload_n 2, 1) := by decide +kernel
theorem dX0_same_127 : decode cX0_same 127 = .ok (.invokevirtual 38, 3) := by decide +kernel
theorem dX0_same_130 : decode cX0_same 130 = .ok (.invokevirtual 41, 3) := by decide +kernel
theorem dX0_same_133 : decode cX0_same 133 = .ok (.ireturn, 1) := by decide +kernel
theorem dX0_same_134 : decode cX0_same 134 = .ok (.aload_n 0, 1) := by decide +kernel
theorem dX0_same_135 : decode cX0_same 135 = .ok (.getfield 18, 3) := by decide +kernel
theorem dX0_same_138 : decode cX0_same 138 = .ok (.iload_n 1, 1) := by decide +kernel
theorem dX0_same_139 : decode cX0_same 139 = .ok (.invokevirtual 45, 3) := by decide +kernel
theorem dX0_same_142 : decode cX0_same 142 = .ok (.aload_n 0, 1) := by decide +kernel
theorem dX0_same_143 : decode cX0_same 143 = .ok (.getfield 18, 3) := by decide +kernel
theorem dX0_same_146 : decode cX0_same 146 = .ok (.iload_n 2, 1) := by decide +kernel
theorem dX0_same_147 : decode cX0_same 147 = .ok (.invokevirtual 45, 3) := by decide +kernel
theorem dX0_same_150 : decode cX0_same 150 = .ok (.if_icmp .ne 33, 3) := by decide +kernel
theorem dX0_same_153 : decode cX0_same 153 = .ok (.aload_n 0, 1) := by decide +kernel
theorem dX0_same_154 : decode cX0_same 154 = .ok (.iload_n 1, 1) := by decide +kernel
theorem dX0_same_155 : decode cX0_same 155 = .ok (.aload_n 0, 1) := by decide +kernel
theorem dX0_same_156 : decode cX0_same 156 = .ok (.getfield 18, 3) := by decide +kernel
theorem dX0_same_159 : decode cX0_same 159 = .ok (.iload_n 1, 1) := by decide +kernel
theorem dX0_same_160 : decode cX0_same 160 = .ok (.invokevirtual 48, 3) := by decide +kernel
theorem dX0_same_163 : decode cX0_same 163 = .ok (.iload_n 2, 1) := by decide +kernel
theorem dX0_same_164 : decode cX0_same 164 = .ok (.aload_n 0, 1) := by decide +kernel
theorem dX0_same_165 : decode cX0_same 165 = .ok (.getfield 18, 3) := by decide +kernel
theorem dX0_same_168 : decode cX0_same 168 = .ok (.iload_n 2, 1) := by decide +kernel
theorem dX0_same_169 : decode cX0_same 169 = .ok (.invokevirtual 48, 3) := by decide +kernel
theorem dX0_same_172 : decode cX0_same 172 = .ok (.iload_n 3, 1) := by decide +kernel
theorem dX0_same_173 : decode cX0_same 173 = .ok (.invokevirtual 51, 3) := by decide +kernel
theorem dX0_same_176 : decode cX0_same 176 = .ok (.ifCond .eq 7, 3) := by decide +kernel
theorem dX0_same_179 : decode cX0_same 179 = .ok (.iconst 1, 1) := by decide +kernel
theorem dX0_same_180 : decode cX0_same 180 = .ok (.goto 4, 3) := by decide +kernel
theorem dX0_same_183 : decode cX0_same 183 = .ok (.iconst 0, 1) := by decide +kernel
theorem dX0_same_184 : decode cX0_same 184 = .ok (.ireturn, 1) := by decide +kernel
theorem dX0_same_185 : decode cX0_same 185 = .ok (.aload_n 0, 1) := by decide +kernel
theorem dX0_same_186 : decode cX0_same 186 = .ok (.aload_n 0, 1) := by decide +kernel
theorem dX0_same_187 : decode cX0_same 187 = .ok (.getfield 18, 3) := by decide +kernel
theorem dX0_same_190 : decode cX0_same 190 = .ok (.iload_n 1, 1) := by decide +kernel
theorem dX0_same_191 : decode cX0_same 191 = .ok (.invokevirtual 48, 3) := by decide +kernel
theorem dX0_same_194 : decode cX0_same 194 = .ok (.aload_n 0, 1) := by decide +kernel
theorem dX0_same_195 : decode cX0_same 195 = .ok (.getfield 18, 3) := by decide +kernel
theorem dX0_same_198 : decode cX0_same 198 = .ok (.iload_n 2, 1) := by decide +kernel
theorem dX0_same_199 : decode cX0_same 199 = .ok (.invokevirtual 48, 3) := by decide +kernel
theorem dX0_same_202 : decode cX0_same 202 = .ok (.iload_n 3, 1) := by decide +kernel
theorem dX0_same_203 : decode cX0_same 203 = .ok (.invokevirtual 22, 3) := by decide +kernel
theorem dX0_same_206 : decode cX0_same 206 = .ok (.ifCond .eq 33, 3) := by decide +kernel
theorem dX0_same_209 : decode cX0_same 209 = .ok (.aload_n 0, 1) := by decide +kernel
theorem dX0_same_210 : decode cX0_same 210 = .ok (.iload_n 1, 1) := by decide +kernel
theorem dX0_same_211 : decode cX0_same 211 = .ok (.aload_n 0, 1) := by decide +kernel
theorem dX0_same_212 : decode cX0_same 212 = .ok (.getfield 18, 3) := by decide +kernel
theorem dX0_same_215 : decode cX0_same 215 = .ok (.iload_n 1, 1) := by decide +kernel
theorem dX0_same_216 : decode cX0_same 216 = .ok (.invokevirtual 55, 3) := by decide +kernel
theorem dX0_same_219 : decode cX0_same 219 = .ok (.iload_n 2, 1) := by decide +kernel
theorem dX0_same_220 : decode cX0_same 220 = .ok (.aload_n 0, 1) := by decide +kernel
theorem dX0_same_221 : decode cX0_same 221 = .ok (.getfield 18, 3) := by decide +kernel
theorem dX0_same_224 : decode cX0_same 224 = .ok (.iload_n 2, 1) := by decide +kernel
theorem dX0_same_225 : decode cX0_same 225 = .ok (.invokevirtual 55, 3) := by decide +kernel
theorem dX0_same_228 : decode cX0_same 228 = .ok (.iload_n 3, 1) := by decide +kernel
theorem dX0_same_229 : decode cX0_same 229 = .ok (.invokevirtual 51, 3) := by decide +kernel
theorem dX0_same_232 : decode cX0_same 232 = .ok (.ifCond .eq 7, 3) := by decide +kernel
theorem dX0_same_235 : decode cX0_same 235 = .ok (.iconst 1, 1) := by decide +kernel
theorem dX0_same_236 : decode cX0_same 236 = .ok (.goto 4, 3) := by decide +kernel
theorem dX0_same_239 : decode cX0_same 239 = .ok (.iconst 0, 1) := by decide +kernel
theorem dX0_same_240 : decode cX0_same 240 = .ok (.ireturn, 1) := by decide +kernel
theorem dX0_same_241 : decode cX0_same 241 = .ok (.aload_n 0, 1) := by decide +kernel
theorem dX0_same_242 : decode cX0_same 242 = .ok (.aload_n 0, 1) := by decide +kernel
theorem dX0_same_243 : decode cX0_same 243 = .ok (.getfield 18, 3) := by decide +kernel
theorem dX0_same_246 : decode cX0_same 246 = .ok (.iload_n 1, 1) := by decide +kernel
theorem dX0_same_247 : decode cX0_same 247 = .ok (.invokevirtual 48, 3) := by decide +kernel
theorem dX0_same_250 : decode cX0_same 250 = .ok (.aload_n 0, 1) := by decide +kernel
theorem dX0_same_251 : decode cX0_same 251 = .ok (.getfield 18, 3) := by decide +kernel
theorem dX0_same_254 : decode cX0_same 254 = .ok (.iload_n 2, 1) := by decide +kernel
theorem dX0_same_255 : decode cX0_same 255 = .ok (.invokevirtual 48, 3) := by decide +kernel
theorem dX0_same_258 : decode cX0_same 258 = .ok (.iload_n 3, 1) := by decide +kernel
theorem dX0_same_259 : decode cX0_same 259 = .ok (.invokevirtual 22, 3) := by decide +kernel
theorem dX0_same_262 : decode cX0_same 262 = .ok (.ifCond .eq 55, 3) := by decide +kernel
theorem dX0_same_265 : decode cX0_same 265 = .ok (.aload_n 0, 1) := by decide +kernel
theorem dX0_same_266 : decode cX0_same 266 = .ok (.aload_n 0, 1) := by decide +kernel
theorem dX0_same_267 : decode cX0_same 267 = .ok (.getfield 18, 3) := by decide +kernel
theorem dX0_same_270 : decode cX0_same 270 = .ok (.iload_n 1, 1) := by decide +kernel
theorem dX0_same_271 : decode cX0_same 271 = .ok (.invokevirtual 55, 3) := by decide +kernel
theorem dX0_same_274 : decode cX0_same 274 = .ok (.aload_n 0, 1) := by decide +kernel
theorem dX0_same_275 : decode cX0_same 275 = .ok (.getfield 18, 3) := by decide +kernel
theorem dX0_same_278 : decode cX0_same 278 = .ok (.iload_n 2, 1) := by decide +kernel
theorem dX0_same_279 : decode cX0_same 279 = .ok (.invokevirtual 55, 3) := by decide +kernel
theorem dX0_same_282 : decode cX0_same 282 = .ok (.iload_n 3, 1) := by decide +kernel
theorem dX0_same_283 : decode cX0_same 283 = .ok (.invokevirtual 22, 3) := by decide +kernel
theorem dX0_same_286 : decode cX0_same 286 = .ok (.ifCond .eq 31, 3) := by decide +kernel
theorem dX0_same_289 : decode cX0_same 289 = .ok (.aload_n 0, 1) := by decide +kernel
theorem dX0_same_290 : decode cX0_same 290 = .ok (.aload_n 0, 1) := by decide +kernel
theorem dX0_same_291 : decode cX0_same 291 = .ok (.getfield 18, 3) := by decide +kernel
theorem dX0_same_294 : decode cX0_same 294 = .ok (.iload_n 1, 1) := by decide +kernel
theorem dX0_same_295 : decode cX0_same 295 = .ok (.invokevirtual 58, 3) := by decide +kernel
theorem dX0_same_298 : decode cX0_same 298 = .ok (.aload_n 0, 1) := by decide +kernel
theorem dX0_same_299 : decode cX0_same 299 = .ok (.getfield 18, 3) := by decide +kernel
theorem dX0_same_302 : decode cX0_same 302 = .ok (.iload_n 2, 1) := by decide +kernel
theorem dX0_same_303 : decode cX0_same 303 = .ok (.invokevirtual 58, 3) := by decide +kernel
theorem dX0_same_306 : decode cX0_same 306 = .ok (.iload_n 3, 1) := by decide +kernel
theorem dX0_same_307 : decode cX0_same 307 = .ok (.invokevirtual 22, 3) := by decide +kernel
theorem dX0_same_310 : decode cX0_same 310 = .ok (.ifCond .eq 7, 3) := by decide +kernel
theorem dX0_same_313 : decode cX0_same 313 = .ok (.iconst 1, 1) := by decide +kernel
theorem dX0_same_314 : decode cX0_same 314 = .ok (.goto 4, 3) := by decide +kernel
theorem dX0_same_317 : decode cX0_same 317 = .ok (.iconst 0, 1) := by decide +kernel
theorem dX0_same_318 : decode cX0_same 318 = .ok (.ireturn, 1) := by decide +kernel
theorem dX0_same_319 : decode cX0_same 319 = .ok (.iconst 1, 1) := by decide +kernel
theorem dX0_same_320 : decode cX0_same 320 = .ok (.ireturn, 1) := by decide +kernel
theorem dX0_sameName_0 : decode cX0_sameName 0 = .ok (.iload_n 1, 1) := by decide +kernel
theorem dX0_sameName_1 : decode cX0_sameName 1 = .ok (.invokestatic 61, 3) := by decide +kernel
theorem dX0_sameName_4 : decode cX0_sameName 4 = .ok (.ifCond .eq 25, 3) := by decide +kernel
theorem dX0_sameName_7 : decode cX0_sameName 7 = .ok (.iload_n 2, 1) := by decide +kernel
theorem dX0_sameName_8 : decode cX0_sameName 8 = .ok (.invokestatic 61, 3) := by decide +kernel
theorem dX0_sameName_11 : decode cX0_sameName 11 = .ok (.ifCond .eq 18, 3) := by decide +kernel
theorem dX0_sameName_14 : decode cX0_sameName 14 = .ok (.aload_n 0, 1) := by decide +kernel
theorem dX0_sameName_15 : decode cX0_sameName 15 = .ok (.getfield 9, 3) := by decide +kernel
theorem dX0_sameName_18 : decode cX0_sameName 18 = .ok (.iload_n 1, 1) := by decide +kernel
theorem dX0_sameName_19 : decode cX0_sameName 19 = .ok (.iaload, 1) := by decide +kernel
theorem dX0_sameName_20 : decode cX0_sameName 20 = .ok (.aload_n 0, 1) := by decide +kernel
theorem dX0_sameName_21 : decode cX0_sameName 21 = .ok (.getfield 15, 3) := by decide +kernel
theorem dX0_sameName_24 : decode cX0_sameName 24 = .ok (.iload_n 2, 1) := by decide +kernel
theorem dX0_sameName_25 : decode cX0_sameName 25 = .ok (.iaload, 1) := by decide +kernel
theorem dX0_sameName_26 : decode cX0_sameName 26 = .ok (.if_icmp .eq 5, 3) := by decide +kernel
theorem dX0_sameName_29 : decode cX0_sameName 29 = .ok (.iconst 0, 1) := by decide +kernel
theorem dX0_sameName_30 : decode cX0_sameName 30 = .ok (.ireturn, 1) := by decide +kernel
theorem dX0_sameName_31 : decode cX0_sameName 31 = .ok (.aload_n 0, 1) := by decide +kernel
theorem dX0_sameName_32 : decode cX0_sameName 32 = .ok (.getfield 9, 3) := by decide +kernel
theorem dX0_sameName_35 : decode cX0_sameName 35 = .ok (.iload_n 1, 1) := by decide +kernel
theorem dX0_sameName_36 : decode cX0_sameName 36 = .ok (.iaload, 1) := by decide +kernel
theorem dX0_sameName_37 : decode cX0_sameName 37 = .ok (.bipush (-2), 2) := by decide +kernel
theorem dX0_sameName_39 : decode cX0_sameName 39 = .ok (.if_icmp .ne 8, 3) := by decide +kernel
theorem dX0_sameName_42 : decode cX0_sameName 42 = .ok (.iload_n 1, 1) := by decide +kernel
theorem dX0_sameName_43 : decode cX0_sameName 43 = .ok (.iload_n 2, 1) := by decide +kernel
theorem dX0_sameName_44 : decode cX0_sameName 44 = .ok (.if_icmp .ne 7, 3) := by decide +kernel
theorem dX0_sameName_47 : decode cX0_sameName 47 = .ok (.iconst 1, 1) := by decide +kernel
theorem dX0_sameName_48 : decode cX0_sameName 48 = .ok (.goto 4, 3) := by decide +kernel
theorem dX0_sameName_51 : decode cX0_sameName 51 = .ok (.iconst 0, 1) := by decide +kernel
theorem dX0_sameName_52 : decode cX0_sameName 52 = .ok (.ireturn, 1) := by decide +kernel
theorem dX0_sameUnder_0 : decode cX0_sameUnder 0 = .ok (.aload_n 0, 1) := by decide +kernel
theorem dX0_sameUnder_1 : decode cX0_sameUnder 1 = .ok (.getfield 18, 3) := by decide +kernel
theorem dX0_sameUnder_4 : decode cX0_sameUnder 4 = .ok (.iload_n 1, 1) := by decide +kernel
theorem dX0_sameUnder_5 : decode cX0_sameUnder 5 = .ok (.invokevirtual 38, 3) := by decide +kernel
theorem dX0_sameUnder_8 : decode cX0_sameUnder 8 = .ok (.istore 6, 2) := by decide +kernel
theorem dX0_sameUnder_10 : decode cX0_sameUnder 10 = .ok (.aload_n 0, 1) := by decide +kernel
theorem dX0_sameUnder_11 : decode cX0_sameUnder 11 = .ok (.getfield 18, 3) := by decide +kernel
theorem dX0_sameUnder_14 : decode cX0_sameUnder 14 = .ok (.iload_n 3, 1) := by decide +kernel
theorem dX0_sameUnder_15 : decode cX0_sameUnder 15 = .ok (.invokevirtual 38, 3) := by decide +kernel
theorem dX0_sameUnder_18 : decode cX0_sameUnder 18 = .ok (.istore 7, 2) := by decide +kernel
theorem dX0_sameUnder_20 : decode cX0_sameUnder 20 = .ok (.iload 6, 2) := by decide +kernel
theorem dX0_sameUnder_22 : decode cX0_sameUnder 22 = .ok (.invokestatic 61, 3) := by decide +kernel
theorem dX0_sameUnder_25 : decode cX0_sameUnder 25 = .ok (.ifCond .eq 11, 3) := by decide +kernel
theorem dX0_sameUnder_28 : decode cX0_sameUnder 28 = .ok (.iload 7, 2) := by decide +kernel
theorem dX0_sameUnder_30 : decode cX0_sameUnder 30 = .ok (.invokestatic 61, 3) := by decide +kernel
theorem dX0_sameUnder_33 : decode cX0_sameUnder 33 = .ok (.ifCond .ne 5, 3) := by decide +kernel
theorem dX0_sameUnder_36 : decode cX0_sameUnder 36 = .ok (.iconst 0, 1) := by decide +kernel
theorem dX0_sameUnder_37 : decode cX0_sameUnder 37 = .ok (.ireturn, 1) := by decide +kernel
theorem dX0_sameUnder_38 : decode cX0_sameUnder 38 = .ok (.aload_n 0, 1) := by decide +kernel
theorem dX0_sameUnder_39 : decode cX0_sameUnder 39 = .ok (.getfield 9, 3) := by decide +kernel
theorem dX0_sameUnder_42 : decode cX0_sameUnder 42 = .ok (.iload 6, 2) := by decide +kernel
theorem dX0_sameUnder_44 : decode cX0_sameUnder 44 = .ok (.iaload, 1) := by decide +kernel
theorem dX0_sameUnder_45 : decode cX0_sameUnder 45 = .ok (.istore 8, 2) := by decide +kernel
theorem dX0_sameUnder_47 : decode cX0_sameUnder 47 = .ok (.aload_n 0, 1) := by decide +kernel
theorem dX0_sameUnder_48 : decode cX0_sameUnder 48 = .ok (.getfield 15, 3) := by decide +kernel
theorem dX0_sameUnder_51 : decode cX0_sameUnder 51 = .ok (.iload 7, 2) := by decide +kernel
theorem dX0_sameUnder_53 : decode cX0_sameUnder 53 = .ok (.iaload, 1) := by decide +kernel
theorem dX0_sameUnder_54 : decode cX0_sameUnder 54 = .ok (.istore 9, 2) := by decide +kernel
theorem dX0_sameUnder_56 : decode cX0_sameUnder 56 = .ok (.aload_n 0, 1) := by decide +kernel
theorem dX0_sameUnder_57 : decode cX0_sameUnder 57 = .ok (.getfield 9, 3) := by decide +kernel
theorem dX0_sameUnder_60 : decode cX0_sameUnder 60 = .ok (.iload 6, 2) := by decide +kernel
theorem dX0_sameUnder_62 : decode cX0_sameUnder 62 = .ok (.iload 5, 2) := by decide +kernel
theorem dX0_sameUnder_64 : decode cX0_sameUnder 64 = .ok (.iastore, 1) := by decide +kernel
theorem dX0_sameUnder_65 : decode cX0_sameUnder 65 = .ok (.aload_n 0, 1) := by decide +kernel
theorem dX0_sameUnder_66 : decode cX0_sameUnder 66 = .ok (.getfield 15, 3) := by decide +kernel
theorem dX0_sameUnder_69 : decode cX0_sameUnder 69 = .ok (.iload 7, 2) := by decide +kernel
theorem dX0_sameUnder_71 : decode cX0_sameUnder 71 = .ok (.iload 5, 2) := by decide +kernel
theorem dX0_sameUnder_73 : decode cX0_sameUnder 73 = .ok (.iastore, 1) := by decide +kernel
theorem dX0_sameUnder_74 : decode cX0_sameUnder 74 = .ok (.aload_n 0, 1) := by decide +kernel
theorem dX0_sameUnder_75 : decode cX0_sameUnder 75 = .ok (.iload_n 2, 1) := by decide +kernel
theorem dX0_sameUnder_76 : decode cX0_sameUnder 76 = .ok (.iload 4, 2) := by decide +kernel
theorem dX0_sameUnder_78 : decode cX0_sameUnder 78 = .ok (.iload 5, 2) := by decide +kernel
theorem dX0_sameUnder_80 : decode cX0_sameUnder 80 = .ok (.iconst 1, 1) := by decide +kernel
theorem dX0_sameUnder_81 : decode cX0_sameUnder 81 = .ok (.iadd, 1) := by decide +kernel
theorem dX0_sameUnder_82 : decode cX0_sameUnder 82 = .ok (.invokevirtual 22, 3) := by decide +kernel
theorem dX0_sameUnder_85 : decode cX0_sameUnder 85 = .ok (.istore 10, 2) := by decide +kernel
theorem dX0_sameUnder_87 : decode cX0_sameUnder 87 = .ok (.aload_n 0, 1) := by decide +kernel
theorem dX0_sameUnder_88 : decode cX0_sameUnder 88 = .ok (.getfield 9, 3) := by decide +kernel
theorem dX0_sameUnder_91 : decode cX0_sameUnder 91 = .ok (.iload 6, 2) := by decide +kernel
theorem dX0_sameUnder_93 : decode cX0_sameUnder 93 = .ok (.iload 8, 2) := by decide +kernel
theorem dX0_sameUnder_95 : decode cX0_sameUnder 95 = .ok (.iastore, 1) := by decide +kernel
theorem dX0_sameUnder_96 : decode cX0_sameUnder 96 = .ok (.aload_n 0, 1) := by decide +kernel
theorem dX0_sameUnder_97 : decode cX0_sameUnder 97 = .ok (.getfield 15, 3) := by decide +kernel
theorem dX0_sameUnder_100 : decode cX0_sameUnder 100 = .ok (.iload 7, 2) := by decide +kernel
theorem dX0_sameUnder_102 : decode cX0_sameUnder 102 = .ok (.iload 9, 2) := by decide +kernel
theorem dX0_sameUnder_104 : decode cX0_sameUnder 104 = .ok (.iastore, 1) := by decide +kernel
theorem dX0_sameUnder_105 : decode cX0_sameUnder 105 = .ok (.iload 10, 2) := by decide +kernel
theorem dX0_sameUnder_107 : decode cX0_sameUnder 107 = .ok (.ireturn, 1) := by decide +kernel
theorem dX1_init_0 : decode cX1_init 0 = .ok (.aload_n 0, 1) := by decide +kernel
theorem dX1_init_1 : decode cX1_init 1 = .ok (.invokespecial 3, 3) := by decide +kernel
theorem dX1_init_4 : decode cX1_init 4 = .ok (.aload_n 0, 1) := by decide +kernel
theorem dX1_init_5 : decode cX1_init 5 = .ok (.aload_n 1, 1) := by decide +kernel
theorem dX1_init_6 : decode cX1_init 6 = .ok (.putfield 9, 3) := by decide +kernel
theorem dX1_init_9 : decode cX1_init 9 = .ok (.return_, 1) := by decide +kernel
theorem dX1_withoutLets_0 : decode cX1_withoutLets 0 = .ok (.aload_n 0, 1) := by decide +kernel
theorem dX1_withoutLets_1 : decode cX1_withoutLets 1 = .ok (.getfield 9, 3) := by decide +kernel
theorem dX1_withoutLets_4 : decode cX1_withoutLets 4 = .ok (.iload_n 1, 1) := by decide +kernel
theorem dX1_withoutLets_5 : decode cX1_withoutLets 5 = .ok (.invokevirtual 15, 3) := by decide +kernel
theorem dX1_withoutLets_8 : decode cX1_withoutLets 8 = .ok (.ifCond .ne 5, 3) := by decide +kernel
theorem dX1_withoutLets_11 : decode cX1_withoutLets 11 = .ok (.iload_n 1, 1) := by decide +kernel
theorem dX1_withoutLets_12 : decode cX1_withoutLets 12 = .ok (.ireturn, 1) := by decide +kernel
theorem dX1_withoutLets_13 : decode cX1_withoutLets 13 = .ok (.aload_n 0, 1) := by decide +kernel
theorem dX1_withoutLets_14 : decode cX1_withoutLets 14 = .ok (.aload_n 0, 1) := by decide +kernel
theorem dX1_withoutLets_15 : decode cX1_withoutLets 15 = .ok (.getfield 9, 3) := by decide +kernel
theorem dX1_withoutLets_18 : decode cX1_withoutLets 18 = .ok (.iload_n 1, 1) := by decide +kernel
theorem dX1_withoutLets_19 : decode cX1_withoutLets 19 = .ok (.invokevirtual 21, 3) := by decide +kernel
theorem dX1_withoutLets_22 : decode cX1_withoutLets 22 = .ok (.invokevirtual 25, 3) := by decide +kernel
theorem dX1_withoutLets_25 : decode cX1_withoutLets 25 = .ok (.istore_n 2, 1) := by decide +kernel
theorem dX1_withoutLets_26 : decode cX1_withoutLets 26 = .ok (.iload_n 2, 1) := by decide +kernel
theorem dX1_withoutLets_27 : decode cX1_withoutLets 27 = .ok (.bipush (-3), 2) := by decide +kernel
theorem dX1_withoutLets_29 : decode cX1_withoutLets 29 = .ok (.if_icmp .ne 6, 3) := by decide +kernel
theorem dX1_withoutLets_32 : decode cX1_withoutLets 32 = .ok (.bipush (-3), 2) := by decide +kernel
theorem dX1_withoutLets_34 : decode cX1_withoutLets 34 = .ok (.ireturn, 1) := by decide +kernel
theorem dX1_withoutLets_35 : decode cX1_withoutLets 35 = .ok (.aload_n 0, 1) := by decide +kernel
theorem dX1_withoutLets_36 : decode cX1_withoutLets 36 = .ok (.aload_n 0, 1) := by decide +kernel
theorem dX1_withoutLets_37 : decode cX1_withoutLets 37 = .ok (.getfield 9, 3) := by decide +kernel
theorem dX1_withoutLets_40 : decode cX1_withoutLets 40 = .ok (.iload_n 1, 1) := by decide +kernel
theorem dX1_withoutLets_41 : decode cX1_withoutLets 41 = .ok (.invokevirtual 28, 3) := by decide +kernel
theorem dX1_withoutLets_44 : decode cX1_withoutLets 44 = .ok (.invokevirtual 25, 3) := by decide +kernel
theorem dX1_withoutLets_47 : decode cX1_withoutLets 47 = .ok (.istore_n 3, 1) := by decide +kernel
theorem dX1_withoutLets_48 : decode cX1_withoutLets 48 = .ok (.iload_n 3, 1) := by decide +kernel
theorem dX1_withoutLets_49 : decode cX1_withoutLets 49 = .ok (.bipush (-3), 2) := by decide +kernel
theorem dX1_withoutLets_51 : decode cX1_withoutLets 51 = .ok (.if_icmp .ne 6, 3) := by decide +kernel
theorem dX1_withoutLets_54 : decode cX1_withoutLets 54 = .ok (.bipush (-3), 2) := by decide +kernel
theorem dX1_withoutLets_56 : decode cX1_withoutLets 56 = .ok (.ireturn, 1) := by decide +kernel
theorem dX1_withoutLets_57 : decode cX1_withoutLets 57 = .ok (.aload_n 0, 1) := by decide +kernel
theorem dX1_withoutLets_58 : decode cX1_withoutLets 58 = .ok (.aload_n 0, 1) := by decide +kernel
theorem dX1_withoutLets_59 : decode cX1_withoutLets 59 = .ok (.getfield 9, 3) := by decide +kernel
theorem dX1_withoutLets_62 : decode cX1_withoutLets 62 = .ok (.iload_n 1, 1) := by decide +kernel
theorem dX1_withoutLets_63 : decode cX1_withoutLets 63 = .ok (.invokevirtual 31, 3) := by decide +kernel
theorem dX1_withoutLets_66 : decode cX1_withoutLets 66 = .ok (.invokevirtual 25, 3) := by decide +kernel
theorem dX1_withoutLets_69 : decode cX1_withoutLets 69 = .ok (.istore 4, 2) := by decide +kernel
theorem dX1_withoutLets_71 : decode cX1_withoutLets 71 = .ok (.iload 4, 2) := by decide +kernel
theorem dX1_withoutLets_73 : decode cX1_withoutLets 73 = .ok (.bipush (-3), 2) := by decide +kernel
theorem dX1_withoutLets_75 : decode cX1_withoutLets 75 = .ok (.if_icmp .ne 6, 3) := by decide +kernel
theorem dX1_withoutLets_78 : decode cX1_withoutLets 78 = .ok (.bipush (-3), 2) := by decide +kernel
theorem dX1_withoutLets_80 : decode cX1_withoutLets 80 = .ok (.ireturn, 1) := by decide +kernel
theorem dX1_withoutLets_81 : decode cX1_withoutLets 81 = .ok (.aload_n 0, 1) := by decide +kernel
theorem dX1_withoutLets_82 : decode cX1_withoutLets 82 = .ok (.getfield 9, 3) := by decide +kernel
theorem dX1_withoutLets_85 : decode cX1_withoutLets 85 = .ok (.iload_n 1, 1) := by decide +kernel
theorem dX1_withoutLets_86 : decode cX1_withoutLets 86 = .ok (.invokevirtual 34, 3) := by decide +kernel
theorem dX1_withoutLets_89 : decode cX1_withoutLets 89 = .ok (.iconst 4, 1) := by decide +kernel
theorem dX1_withoutLets_90 : decode cX1_withoutLets 90 = .ok (.if_icmp .ne 24, 3) := by decide +kernel
theorem dX1_withoutLets_93 : decode cX1_withoutLets 93 = .ok (.aload_n 0, 1) := by decide +kernel
theorem dX1_withoutLets_94 : decode cX1_withoutLets 94 = .ok (.getfield 9, 3) := by decide +kernel
theorem dX1_withoutLets_97 : decode cX1_withoutLets 97 = .ok (.iload_n 3, 1) := by decide +kernel
theorem dX1_withoutLets_98 : decode cX1_withoutLets 98 = .ok (.aload_n 0, 1) := by decide +kernel
theorem dX1_withoutLets_99 : decode cX1_withoutLets 99 = .ok (.getfield 9, 3) := by decide +kernel
theorem dX1_withoutLets_102 : decode cX1_withoutLets 102 = .ok (.iload_n 1, 1) := by decide +kernel
theorem dX1_withoutLets_103 : decode cX1_withoutLets 103 = .ok (.invokevirtual 37, 3) := by decide +kernel
theorem dX1_withoutLets_106 : decode cX1_withoutLets 106 = .ok (.invokevirtual 40, 3) := by decide +kernel
theorem dX1_withoutLets_109 : decode cX1_withoutLets 109 = .ok (.ifCond .ne 5, 3) := by decide +kernel
theorem dX1_withoutLets_112 : decode cX1_withoutLets 112 = .ok (.iload_n 3, 1) := by decide +kernel
theorem dX1_withoutLets_113 : decode cX1_withoutLets 113 = .ok (.ireturn, 1) := by decide +kernel
theorem dX1_withoutLets_114 : decode cX1_withoutLets 114 = .ok (.aload_n 0, 1) := by decide +kernel
theorem dX1_withoutLets_115 : decode cX1_withoutLets 115 = .ok (.getfield 9, 3) := by decide +kernel
theorem dX1_withoutLets_118 : decode cX1_withoutLets 118 = .ok (.iload_n 1, 1) := by decide +kernel
theorem dX1_withoutLets_119 : decode cX1_withoutLets 119 = .ok (.aload_n 0, 1) := by decide +kernel
theorem dX1_withoutLets_120 : decode cX1_withoutLets 120 = .ok (.getfield 9, 3) := by decide +kernel
theorem dX1_withoutLets_123 : decode cX1_withoutLets 123 = .ok (.iload_n 1, 1) := by decide +kernel
theorem dX1_withoutLets_124 : decode cX1_withoutLets 124 = .ok (.invokevirtual 37, 3) := by decide +kernel
theorem dX1_withoutLets_127 : decode cX1_withoutLets 127 = .ok (.iload_n 2, 1) := by decide +kernel
theorem dX1_withoutLets_128 : decode cX1_withoutLets 128 = .ok (.iload_n 3, 1) := by decide +kernel
theorem dX1_withoutLets_129 : decode cX1_withoutLets 129 = .ok (.iload 4, 2) := by decide +kernel
theorem dX1_withoutLets_131 : decode cX1_withoutLets 131 = .ok (.invokevirtual 44, 3) := by decide +kernel
theorem dX1_withoutLets_134 : decode cX1_withoutLets 134 = .ok (.ireturn, 1) := by decide +kernel
theorem dX2_init_0 : decode cX2_init 0 = .ok (.aload_n 0, 1) := by decide +kernel
theorem dX2_init_1 : decode cX2_init 1 = .ok (.invokespecial 3, 3) := by decide +kernel
theorem dX2_init_4 : decode cX2_init 4 = .ok (.aload_n 0, 1) := by decide +kernel
theorem dX2_init_5 : decode cX2_init 5 = .ok (.sipush 4000, 3) := by decide +kernel
theorem dX2_init_8 : decode cX2_init 8 = .ok (.newarray .byte, 2) := by decide +kernel
theorem dX2_init_10 : decode cX2_init 10 = .ok (.putfield 9, 3) := by decide +kernel
theorem dX2_init_13 : decode cX2_init 13 = .ok (.aload_n 0, 1) := by decide +kernel
theorem dX2_init_14 : decode cX2_init 14 = .ok (.aload_n 1, 1) := by decide +kernel
theorem dX2_init_15 : decode cX2_init 15 = .ok (.putfield 15, 3) := by decide +kernel
theorem dX2_init_18 : decode cX2_init 18 = .ok (.aload_n 0, 1) := by decide +kernel
theorem dX2_init_19 : decode cX2_init 19 = .ok (.aload_n 2, 1) := by decide +kernel
theorem dX2_init_20 : decode cX2_init 20 = .ok (.putfield 19, 3) := by decide +kernel
theorem dX2_init_23 : decode cX2_init 23 = .ok (.aload_n 0, 1) := by decide +kernel
theorem dX2_init_24 : decode cX2_init 24 = .ok (.iconst 0, 1) := by decide +kernel
theorem dX2_init_25 : decode cX2_init 25 = .ok (.putfield 23, 3) := by decide +kernel
theorem dX2_init_28 : decode cX2_init 28 = .ok (.return_, 1) := by decide +kernel
theorem dX2_printLength_0 : decode cX2_printLength 0 = .ok (.aload_n 0, 1) := by decide +kernel
theorem dX2_printLength_1 : decode cX2_printLength 1 = .ok (.getfield 23, 3) := by decide +kernel
theorem dX2_printLength_4 : decode cX2_printLength 4 = .ok (.ireturn, 1) := by decide +kernel
theorem dX2_byteAt_0 : decode cX2_byteAt 0 = .ok (.iload_n 1, 1) := by decide +kernel
theorem dX2_byteAt_1 : decode cX2_byteAt 1 = .ok (.ifCond .lt 31, 3) := by decide +kernel
theorem dX2_byteAt_4 : decode cX2_byteAt 4 = .ok (.iload_n 1, 1) := by decide +kernel
theorem dX2_byteAt_5 : decode cX2_byteAt 5 = .ok (.aload_n 0, 1) := by decide +kernel
theorem dX2_byteAt_6 : decode cX2_byteAt 6 = .ok (.getfield 23, 3) := by decide +kernel
theorem dX2_byteAt_9 : decode cX2_byteAt 9 = .ok (.if_icmp .ge 23, 3) := by decide +kernel
theorem dX2_byteAt_12 : decode cX2_byteAt 12 = .ok (.iload_n 1, 1) := by decide +kernel
theorem dX2_byteAt_13 : decode cX2_byteAt 13 = .ok (.sipush 4000, 3) := by decide +kernel
theorem dX2_byteAt_16 : decode cX2_byteAt 16 = .ok (.if_icmp .ge 16, 3) := by decide +kernel
theorem dX2_byteAt_19 : decode cX2_byteAt 19 = .ok (.aload_n 0, 1) := by decide +kernel
theorem dX2_byteAt_20 : decode cX2_byteAt 20 = .ok (.getfield 9, 3) := by decide +kernel
theorem dX2_byteAt_23 : decode cX2_byteAt 23 = .ok (.iload_n 1, 1) := by decide +kernel
theorem dX2_byteAt_24 : decode cX2_byteAt 24 = .ok (.baload, 1) := by decide +kernel
theorem dX2_byteAt_25 : decode cX2_byteAt 25 = .ok (.sipush 255, 3) := by decide +kernel
theorem dX2_byteAt_28 : decode cX2_byteAt 28 = .ok (.iand, 1) := by decide +kernel
theorem dX2_byteAt_29 : decode cX2_byteAt 29 = .ok (.goto 4, 3) := by decide +kernel
theorem dX2_byteAt_32 : decode cX2_byteAt 32 = .ok (.iconst (-1), 1) := by decide +kernel
theorem dX2_byteAt_33 : decode cX2_byteAt 33 = .ok (.ireturn, 1) := by decide +kernel
theorem dX2_show_0 : decode cX2_show 0 = .ok (.aload_n 0, 1) := by decide +kernel
theorem dX2_show_1 : decode cX2_show 1 = .ok (.getfield 19, 3) := by decide +kernel
theorem dX2_show_4 : decode cX2_show 4 = .ok (.iload_n 1, 1) := by decide +kernel
theorem dX2_show_5 : decode cX2_show 5 = .ok (.invokevirtual 27, 3) := by decide +kernel
theorem dX2_show_8 : decode cX2_show 8 = .ok (.sipush 4000, 3) := by decide +kernel
theorem dX2_show_11 : decode cX2_show 11 = .ok (.if_icmp .le 6, 3) := by decide +kernel
theorem dX2_show_14 : decode cX2_show 14 = .ok (.bipush (-3), 2) := by decide +kernel
theorem dX2_show_16 : decode cX2_show 16 = .ok (.ireturn, 1) := by decide +kernel
theorem dX2_show_17 : decode cX2_show 17 = .ok (.aload_n 0, 1) := by decide +kernel
theorem dX2_show_18 : decode cX2_show 18 = .ok (.iconst 0, 1) := by decide +kernel
theorem dX2_show_19 : decode cX2_show 19 = .ok (.putfield 23, 3) := by decide +kernel
theorem dX2_show_22 : decode cX2_show 22 = .ok (.aload_n 0, 1) := by decide +kernel
theorem dX2_show_23 : decode cX2_show 23 = .ok (.iload_n 1, 1) := by decide +kernel
theorem dX2_show_24 : decode cX2_show 24 = .ok (.invokevirtual 33, 3) := by decide +kernel
theorem dX2_show_27 : decode cX2_show 27 = .ok (.aload_n 0, 1) := by decide +kernel
theorem dX2_show_28 : decode cX2_show 28 = .ok (.getfield 23, 3) := by decide +kernel
theorem dX2_show_31 : decode cX2_show 31 = .ok (.ireturn, 1) := by decide +kernel
theorem dX2_writeTerm_0 : decode cX2_writeTerm 0 = .ok (.aload_n 0, 1) := by decide +kernel
theorem dX2_writeTerm_1 : decode cX2_writeTerm 1 = .ok (.getfield 19, 3) := by decide +kernel
theorem dX2_writeTerm_4 : decode cX2_writeTerm 4 = .ok (.iload_n 1, 1) := by decide +kernel
theorem dX2_writeTerm_5 : decode cX2_writeTerm 5 = .ok (.invokevirtual 37, 3) := by decide +kernel
theorem dX2_writeTerm_8 : decode cX2_writeTerm 8 = .ok (.tableswitch 126 0 6 #[44, 67, 82, 90, 100, 108, 118], 44) := by decide +kernel
theorem dX2_writeTerm_52 : decode cX2_writeTerm 52 = .ok (.aload_n 0, 1) := by decide +kernel
theorem dX2_writeTerm_53 : decode cX2_writeTerm 53 = .ok (.aload_n 0, 1) := by decide +kernel
theorem dX2_writeTerm_54 : decode cX2_writeTerm 54 = .ok (.getfield 19, 3) := by decide +kernel
theorem dX2_writeTerm_57 : decode cX2_writeTerm 57 = .ok (.iload_n 1, 1) := by decide +kernel
theorem dX2_writeTerm_58 : decode cX2_writeTerm 58 = .ok (.invokevirtual 40, 3) := by decide +kernel
theorem dX2_writeTerm_61 : decode cX2_writeTerm 61 = .ok (.aload_n 0, 1) := by decide +kernel
theorem dX2_writeTerm_62 : decode cX2_writeTerm 62 = .ok (.getfield 19, 3) := by decide +kernel
theorem dX2_writeTerm_65 : decode cX2_writeTerm 65 = .ok (.iload_n 1, 1) := by decide +kernel
theorem dX2_writeTerm_66 : decode cX2_writeTerm 66 = .ok (.invokevirtual 27, 3) := by decide +kernel
theorem dX2_writeTerm_69 : decode cX2_writeTerm 69 = .ok (.invokevirtual 43, 3) := by decide +kernel
theorem dX2_writeTerm_72 : decode cX2_writeTerm 72 = .ok (.goto 62, 3) := by decide +kernel
theorem dX2_writeTerm_75 : decode cX2_writeTerm 75 = .ok (.aload_n 0, 1) := by decide +kernel
theorem dX2_writeTerm_76 : decode cX2_writeTerm 76 = .ok (.aload_n 0, 1) := by decide +kernel
theorem dX2_writeTerm_77 : decode cX2_writeTerm 77 = .ok (.getfield 19, 3) := by decide +kernel
theorem dX2_writeTerm_80 : decode cX2_writeTerm 80 = .ok (.iload_n 1, 1) := by decide +kernel
theorem dX2_writeTerm_81 : decode cX2_writeTerm 81 = .ok (.invokevirtual 47, 3) := by decide +kernel
theorem dX2_writeTerm_84 : decode cX2_writeTerm 84 = .ok (.invokevirtual 50, 3) := by decide +kernel
theorem dX2_writeTerm_87 : decode cX2_writeTerm 87 = .ok (.goto 47, 3) := by decide +kernel
theorem dX2_writeTerm_90 : decode cX2_writeTerm 90 = .ok (.aload_n 0, 1) := by decide +kernel
theorem dX2_writeTerm_91 : decode cX2_writeTerm 91 = .ok (.iload_n 1, 1) := by decide +kernel
theorem dX2_writeTerm_92 : decode cX2_writeTerm 92 = .ok (.invokevirtual 53, 3) := by decide +kernel
theorem dX2_writeTerm_95 : decode cX2_writeTerm 95 = .ok (.goto 39, 3) := by decide +kernel
theorem dX2_writeTerm_98 : decode cX2_writeTerm 98 = .ok (.aload_n 0, 1) := by decide +kernel
theorem dX2_writeTerm_99 : decode cX2_writeTerm 99 = .ok (.iload_n 1, 1) := by decide +kernel
theorem dX2_writeTerm_100 : decode cX2_writeTerm 100 = .ok (.bipush 32, 2) := by decide +kernel
theorem dX2_writeTerm_102 : decode cX2_writeTerm 102 = .ok (.invokevirtual 56, 3) := by decide +kernel
theorem dX2_writeTerm_105 : decode cX2_writeTerm 105 = .ok (.goto 29, 3) := by decide +kernel
theorem dX2_writeTerm_108 : decode cX2_writeTerm 108 = .ok (.aload_n 0, 1) := by decide +kernel
theorem dX2_writeTerm_109 : decode cX2_writeTerm 109 = .ok (.iload_n 1, 1) := by decide +kernel
theorem dX2_writeTerm_110 : decode cX2_writeTerm 110 = .ok (.invokevirtual 59, 3) := by decide +kernel
theorem dX2_writeTerm_113 : decode cX2_writeTerm 113 = .ok (.goto 21, 3) := by decide +kernel
theorem dX2_writeTerm_116 : decode cX2_writeTerm 116 = .ok (.aload_n 0, 1) := by decide +kernel
theorem dX2_writeTerm_117 : decode cX2_writeTerm 117 = .ok (.iload_n 1, 1) := by decide +kernel
theorem dX2_writeTerm_118 : decode cX2_writeTerm 118 = .ok (.bipush 43, 2) := by decide +kernel
theorem dX2_writeTerm_120 : decode cX2_writeTerm 120 = .ok (.invokevirtual 56, 3) := by decide +kernel
theorem dX2_writeTerm_123 : decode cX2_writeTerm 123 = .ok (.goto 11, 3) := by decide +kernel
theorem dX2_writeTerm_126 : decode cX2_writeTerm 126 = .ok (.aload_n 0, 1) := by decide +kernel
theorem dX2_writeTerm_127 : decode cX2_writeTerm 127 = .ok (.iload_n 1, 1) := by decide +kernel
theorem dX2_writeTerm_128 : decode cX2_writeTerm 128 = .ok (.invokevirtual 62, 3) := by decide +kernel
theorem dX2_writeTerm_131 : decode cX2_writeTerm 131 = .ok (.goto 3, 3) := by decide +kernel
theorem dX2_writeTerm_134 : decode cX2_writeTerm 134 = .ok (.return_, 1) := by decide +kernel
theorem dX2_writeNumber_0 : decode cX2_writeNumber 0 = .ok (.iload_n 1, 1) := by decide +kernel
theorem dX2_writeNumber_1 : decode cX2_writeNumber 1 = .ok (.i2l, 1) := by decide +kernel
theorem dX2_writeNumber_2 : decode cX2_writeNumber 2 = .ok (.invokestatic 65, 3) := by decide +kernel
theorem dX2_writeNumber_5 : decode cX2_writeNumber 5 = .ok (.lstore_n 3, 1) := by decide +kernel
theorem dX2_writeNumber_6 : decode cX2_writeNumber 6 = .ok (.aload_n 0, 1) := by decide +kernel
theorem dX2_writeNumber_7 : decode cX2_writeNumber 7 = .ok (.getfield 23, 3) := by decide +kernel
theorem dX2_writeNumber_10 : decode cX2_writeNumber 10 = .ok (.istore 5, 2) := by decide +kernel
theorem dX2_writeNumber_12 : decode cX2_writeNumber 12 = .ok (.iconst 0, 1) := by decide +kernel
theorem dX2_writeNumber_13 : decode cX2_writeNumber 13 = .ok (.istore 6, 2) := by decide +kernel
theorem dX2_writeNumber_15 : decode cX2_writeNumber 15 = .ok (.iload 6, 2) := by decide +kernel
theorem dX2_writeNumber_17 : decode cX2_writeNumber 17 = .ok (.iload_n 2, 1) := by decide +kernel
theorem dX2_writeNumber_18 : decode cX2_writeNumber 18 = .ok (.if_icmp .ge 15, 3) := by decide +kernel
theorem dX2_writeNumber_21 : decode cX2_writeNumber 21 = .ok (.aload_n 0, 1) := by decide +kernel
theorem dX2_writeNumber_22 : decode cX2_writeNumber 22 = .ok (.bipush 48, 2) := by decide +kernel
theorem dX2_writeNumber_24 : decode cX2_writeNumber 24 = .ok (.invokevirtual 71, 3) := by decide +kernel
theorem dX2_writeNumber_27 : decode cX2_writeNumber 27 = .ok (.iinc 6 1, 3) := by decide +kernel
theorem dX2_writeNumber_30 : decode cX2_writeNumber 30 = .ok (.goto (-15), 3) := by decide +kernel
theorem dX2_writeNumber_33 : decode cX2_writeNumber 33 = .ok (.aload_n 0, 1) := by decide +kernel
theorem dX2_writeNumber_34 : decode cX2_writeNumber 34 = .ok (.getfield 23, 3) := by decide +kernel
theorem dX2_writeNumber_37 : decode cX2_writeNumber 37 = .ok (.iconst 1, 1) := by decide +kernel
theorem dX2_writeNumber_38 : decode cX2_writeNumber 38 = .ok (.isub, 1) := by decide +kernel
theorem dX2_writeNumber_39 : decode cX2_writeNumber 39 = .ok (.istore 6, 2) := by decide +kernel
theorem dX2_writeNumber_41 : decode cX2_writeNumber 41 = .ok (.iload 6, 2) := by decide +kernel
theorem dX2_writeNumber_43 : decode cX2_writeNumber 43 = .ok (.iload 5, 2) := by decide +kernel
theorem dX2_writeNumber_45 : decode cX2_writeNumber 45 = .ok (.if_icmp .lt 46, 3) := by decide +kernel
theorem dX2_writeNumber_48 : decode cX2_writeNumber 48 = .ok (.iload 6, 2) := by decide +kernel
theorem dX2_writeNumber_50 : decode cX2_writeNumber 50 = .ok (.ifCond .lt 41, 3) := by decide +kernel
theorem dX2_writeNumber_53 : decode cX2_writeNumber 53 = .ok (.iload 6, 2) := by decide +kernel
theorem dX2_writeNumber_55 : decode cX2_writeNumber 55 = .ok (.sipush 4000, 3) := by decide +kernel
theorem dX2_writeNumber_58 : decode cX2_writeNumber 58 = .ok (.if_icmp .ge 33, 3) := by decide +kernel
theorem dX2_writeNumber_61 : decode cX2_writeNumber 61 = .ok (.aload_n 0, 1) := by decide +kernel
theorem dX2_writeNumber_62 : decode cX2_writeNumber 62 = .ok (.getfield 9, 3) := by decide +kernel
theorem dX2_writeNumber_65 : decode cX2_writeNumber 65 = .ok (.iload 6, 2) := by decide +kernel
theorem dX2_writeNumber_67 : decode cX2_writeNumber 67 = .ok (.ldc2_w 74, 3) := by decide +kernel
theorem dX2_writeNumber_70 : decode cX2_writeNumber 70 = .ok (.lload_n 3, 1) := by decide +kernel
theorem dX2_writeNumber_71 : decode cX2_writeNumber 71 = .ok (.ldc2_w 76, 3) := by decide +kernel
theorem dX2_writeNumber_74 : decode cX2_writeNumber 74 = .ok (.lrem, 1) := by decide +kernel
theorem dX2_writeNumber_75 : decode cX2_writeNumber 75 = .ok (.ladd, 1) := by decide +kernel
theorem dX2_writeNumber_76 : decode cX2_writeNumber 76 = .ok (.l2i, 1) := by decide +kernel
theorem dX2_writeNumber_77 : decode cX2_writeNumber 77 = .ok (.i2b, 1) := by decide +kernel
theorem dX2_writeNumber_78 : decode cX2_writeNumber 78 = .ok (.bastore, 1) := by decide +kernel
theorem dX2_writeNumber_79 : decode cX2_writeNumber 79 = .ok (.lload_n 3, 1) := by decide +kernel
theorem dX2_writeNumber_80 : decode cX2_writeNumber 80 = .ok (.ldc2_w 76, 3) := by decide +kernel
theorem dX2_writeNumber_83 : decode cX2_writeNumber 83 = .ok (.ldiv, 1) := by decide +kernel
theorem dX2_writeNumber_84 : decode cX2_writeNumber 84 = .ok (.lstore_n 3, 1) := by decide +kernel
theorem dX2_writeNumber_85 : decode cX2_writeNumber 85 = .ok (.iinc 6 (-1), 3) := by decide +kernel
theorem dX2_writeNumber_88 : decode cX2_writeNumber 88 = .ok (.goto (-47), 3) := by decide +kernel
theorem dX2_writeNumber_91 : decode cX2_writeNumber 91 = .ok (.iload_n 1, 1) := by decide +kernel
theorem dX2_writeNumber_92 : decode cX2_writeNumber 92 = .ok (.ifCond .ge 20, 3) := by decide +kernel
theorem dX2_writeNumber_95 : decode cX2_writeNumber 95 = .ok (.iload 5, 2) := by decide +kernel
theorem dX2_writeNumber_97 : decode cX2_writeNumber 97 = .ok (.sipush 4000, 3) := by decide +kernel
theorem dX2_writeNumber_100 : decode cX2_writeNumber 100 = .ok (.if_icmp .ge 12, 3) := by decide +kernel
theorem dX2_writeNumber_103 : decode cX2_writeNumber 103 = .ok (.aload_n 0, 1) := by decide +kernel
theorem dX2_writeNumber_104 : decode cX2_writeNumber 104 = .ok (.getfield 9, 3) := by decide +kernel
theorem dX2_writeNumber_107 : decode cX2_writeNumber 107 = .ok (.iload 5, 2) := by decide +kernel
theorem dX2_writeNumber_109 : decode cX2_writeNumber 109 = .ok (.bipush 45, 2) := by decide +kernel
theorem dX2_writeNumber_111 : decode cX2_writeNumber 111 = .ok (.bastore, 1) := by decide +kernel
theorem dX2_writeNumber_112 : decode cX2_writeNumber 112 = .ok (.return_, 1) := by decide +kernel
theorem dX2_writeFunction_0 : decode cX2_writeFunction 0 = .ok (.aload_n 0, 1) := by decide +kernel
theorem dX2_writeFunction_1 : decode cX2_writeFunction 1 = .ok (.bipush 92, 2) := by decide +kernel
theorem dX2_writeFunction_3 : decode cX2_writeFunction 3 = .ok (.invokevirtual 71, 3) := by decide +kernel
theorem dX2_writeFunction_6 : decode cX2_writeFunction 6 = .ok (.aload_n 0, 1) := by decide +kernel
theorem dX2_writeFunction_7 : decode cX2_writeFunction 7 = .ok (.aload_n 0, 1) := by decide +kernel
theorem dX2_writeFunction_8 : decode cX2_writeFunction 8 = .ok (.getfield 19, 3) := by decide +kernel
theorem dX2_writeFunction_11 : decode cX2_writeFunction 11 = .ok (.iload_n 1, 1) := by decide +kernel
theorem dX2_writeFunction_12 : decode cX2_writeFunction 12 = .ok (.invokevirtual 47, 3) := by decide +kernel
theorem dX2_writeFunction_15 : decode cX2_writeFunction 15 = .ok (.invokevirtual 50, 3) := by decide +kernel
theorem dX2_writeFunction_18 : decode cX2_writeFunction 18 = .ok (.aload_n 0, 1) := by decide +kernel
theorem dX2_writeFunction_19 : decode cX2_writeFunction 19 = .ok (.bipush 58, 2) := by decide +kernel
theorem dX2_writeFunction_21 : decode cX2_writeFunction 21 = .ok (.invokevirtual 71, 3) := by decide +kernel
theorem dX2_writeFunction_24 : decode cX2_writeFunction 24 = .ok (.aload_n 0, 1) := by decide +kernel
theorem dX2_writeFunction_25 : decode cX2_writeFunction 25 = .ok (.aload_n 0, 1) := by decide +kernel
theorem dX2_writeFunction_26 : decode cX2_writeFunction 26 = .ok (.getfield 19, 3) := by decide +kernel
theorem dX2_writeFunction_29 : decode cX2_writeFunction 29 = .ok (.iload_n 1, 1) := by decide +kernel
theorem dX2_writeFunction_30 : decode cX2_writeFunction 30 = .ok (.invokevirtual 78, 3) := by decide +kernel
theorem dX2_writeFunction_33 : decode cX2_writeFunction 33 = .ok (.invokevirtual 81, 3) := by decide +kernel
theorem dX2_writeFunction_36 : decode cX2_writeFunction 36 = .ok (.aload_n 0, 1) := by decide +kernel
theorem dX2_writeFunction_37 : decode cX2_writeFunction 37 = .ok (.bipush 46, 2) := by decide +kernel
theorem dX2_writeFunction_39 : decode cX2_writeFunction 39 = .ok (.invokevirtual 71, 3) := by decide +kernel
theorem dX2_writeFunction_42 : decode cX2_writeFunction 42 = .ok (.aload_n 0, 1) := by decide +kernel
theorem dX2_writeFunction_43 : decode cX2_writeFunction 43 = .ok (.aload_n 0, 1) := by decide +kernel
theorem dX2_writeFunction_44 : decode cX2_writeFunction 44 = .ok (.getfield 19, 3) := by decide +kernel
theorem dX2_writeFunction_47 : decode cX2_writeFunction 47 = .ok (.iload_n 1, 1) := by decide +kernel
theorem dX2_writeFunction_48 : decode cX2_writeFunction 48 = .ok (.invokevirtual 84, 3) := by decide +kernel
theorem dX2_writeFunction_51 : decode cX2_writeFunction 51 = .ok (.invokevirtual 33, 3) := by decide +kernel
theorem dX2_writeFunction_54 : decode cX2_writeFunction 54 = .ok (.return_, 1) := by decide +kernel
theorem dX2_writeLet_0 : decode cX2_writeLet 0 = .ok (.aload_n 0, 1) := by decide +kernel
theorem dX2_writeLet_1 : decode cX2_writeLet 1 = .ok (.bipush 91, 2) := by decide +kernel
theorem dX2_writeLet_3 : decode cX2_writeLet 3 = .ok (.invokevirtual 71, 3) := by decide +kernel
theorem dX2_writeLet_6 : decode cX2_writeLet 6 = .ok (.aload_n 0, 1) := by decide +kernel
theorem dX2_writeLet_7 : decode cX2_writeLet 7 = .ok (.aload_n 0, 1) := by decide +kernel
theorem dX2_writeLet_8 : decode cX2_writeLet 8 = .ok (.getfield 19, 3) := by decide +kernel
theorem dX2_writeLet_11 : decode cX2_writeLet 11 = .ok (.iload_n 1, 1) := by decide +kernel
theorem dX2_writeLet_12 : decode cX2_writeLet 12 = .ok (.invokevirtual 47, 3) := by decide +kernel
theorem dX2_writeLet_15 : decode cX2_writeLet 15 = .ok (.invokevirtual 50, 3) := by decide +kernel
theorem dX2_writeLet_18 : decode cX2_writeLet 18 = .ok (.aload_n 0, 1) := by decide +kernel
theorem dX2_writeLet_19 : decode cX2_writeLet 19 = .ok (.bipush 61, 2) := by decide +kernel
theorem dX2_writeLet_21 : decode cX2_writeLet 21 = .ok (.invokevirtual 71, 3) := by decide +kernel
theorem dX2_writeLet_24 : decode cX2_writeLet 24 = .ok (.aload_n 0, 1) := by decide +kernel
theorem dX2_writeLet_25 : decode cX2_writeLet 25 = .ok (.aload_n 0, 1) := by decide +kernel
theorem dX2_writeLet_26 : decode cX2_writeLet 26 = .ok (.getfield 19, 3) := by decide +kernel
theorem dX2_writeLet_29 : decode cX2_writeLet 29 = .ok (.iload_n 1, 1) := by decide +kernel
theorem dX2_writeLet_30 : decode cX2_writeLet 30 = .ok (.invokevirtual 84, 3) := by decide +kernel
theorem dX2_writeLet_33 : decode cX2_writeLet 33 = .ok (.invokevirtual 33, 3) := by decide +kernel
theorem dX2_writeLet_36 : decode cX2_writeLet 36 = .ok (.aload_n 0, 1) := by decide +kernel
theorem dX2_writeLet_37 : decode cX2_writeLet 37 = .ok (.bipush 93, 2) := by decide +kernel
theorem dX2_writeLet_39 : decode cX2_writeLet 39 = .ok (.invokevirtual 71, 3) := by decide +kernel
theorem dX2_writeLet_42 : decode cX2_writeLet 42 = .ok (.aload_n 0, 1) := by decide +kernel
theorem dX2_writeLet_43 : decode cX2_writeLet 43 = .ok (.aload_n 0, 1) := by decide +kernel
theorem dX2_writeLet_44 : decode cX2_writeLet 44 = .ok (.getfield 19, 3) := by decide +kernel
theorem dX2_writeLet_47 : decode cX2_writeLet 47 = .ok (.iload_n 1, 1) := by decide +kernel
theorem dX2_writeLet_48 : decode cX2_writeLet 48 = .ok (.invokevirtual 87, 3) := by decide +kernel
theorem dX2_writeLet_51 : decode cX2_writeLet 51 = .ok (.invokevirtual 33, 3) := by decide +kernel
theorem dX2_writeLet_54 : decode cX2_writeLet 54 = .ok (.return_, 1) := by decide +kernel
theorem dX2_writePair_0 : decode cX2_writePair 0 = .ok (.aload_n 0, 1) := by decide +kernel
theorem dX2_writePair_1 : decode cX2_writePair 1 = .ok (.bipush 40, 2) := by decide +kernel
theorem dX2_writePair_3 : decode cX2_writePair 3 = .ok (.invokevirtual 71, 3) := by decide +kernel
theorem dX2_writePair_6 : decode cX2_writePair 6 = .ok (.aload_n 0, 1) := by decide +kernel
theorem dX2_writePair_7 : decode cX2_writePair 7 = .ok (.aload_n 0, 1) := by decide +kernel
theorem dX2_writePair_8 : decode cX2_writePair 8 = .ok (.getfield 19, 3) := by decide +kernel
theorem dX2_writePair_11 : decode cX2_writePair 11 = .ok (.iload_n 1, 1) := by decide +kernel
theorem dX2_writePair_12 : decode cX2_writePair 12 = .ok (.invokevirtual 84, 3) := by decide +kernel
theorem dX2_writePair_15 : decode cX2_writePair 15 = .ok (.invokevirtual 33, 3) := by decide +kernel
theorem dX2_writePair_18 : decode cX2_writePair 18 = .ok (.aload_n 0, 1) := by decide +kernel
theorem dX2_writePair_19 : decode cX2_writePair 19 = .ok (.iload_n 2, 1) := by decide +kernel
theorem dX2_writePair_20 : decode cX2_writePair 20 = .ok (.invokevirtual 71, 3) := by decide +kernel
theorem dX2_writePair_23 : decode cX2_writePair 23 = .ok (.aload_n 0, 1) := by decide +kernel
theorem dX2_writePair_24 : decode cX2_writePair 24 = .ok (.aload_n 0, 1) := by decide +kernel
theorem dX2_writePair_25 : decode cX2_writePair 25 = .ok (.getfield 19, 3) := by decide +kernel
theorem dX2_writePair_28 : decode cX2_writePair 28 = .ok (.iload_n 1, 1) := by decide +kernel
theorem dX2_writePair_29 : decode cX2_writePair 29 = .ok (.invokevirtual 87, 3) := by decide +kernel
theorem dX2_writePair_32 : decode cX2_writePair 32 = .ok (.invokevirtual 33, 3) := by decide +kernel
theorem dX2_writePair_35 : decode cX2_writePair 35 = .ok (.aload_n 0, 1) := by decide +kernel
theorem dX2_writePair_36 : decode cX2_writePair 36 = .ok (.bipush 41, 2) := by decide +kernel
theorem dX2_writePair_38 : decode cX2_writePair 38 = .ok (.invokevirtual 71, 3) := by decide +kernel
theorem dX2_writePair_41 : decode cX2_writePair 41 = .ok (.return_, 1) := by decide +kernel
theorem dX2_writeChoice_0 : decode cX2_writeChoice 0 = .ok (.aload_n 0, 1) := by decide +kernel
theorem dX2_writeChoice_1 : decode cX2_writeChoice 1 = .ok (.bipush 123, 2) := by decide +kernel
theorem dX2_writeChoice_3 : decode cX2_writeChoice 3 = .ok (.invokevirtual 71, 3) := by decide +kernel
theorem dX2_writeChoice_6 : decode cX2_writeChoice 6 = .ok (.aload_n 0, 1) := by decide +kernel
theorem dX2_writeChoice_7 : decode cX2_writeChoice 7 = .ok (.aload_n 0, 1) := by decide +kernel
theorem dX2_writeChoice_8 : decode cX2_writeChoice 8 = .ok (.getfield 19, 3) := by decide +kernel
theorem dX2_writeChoice_11 : decode cX2_writeChoice 11 = .ok (.iload_n 1, 1) := by decide +kernel
theorem dX2_writeChoice_12 : decode cX2_writeChoice 12 = .ok (.invokevirtual 84, 3) := by decide +kernel
theorem dX2_writeChoice_15 : decode cX2_writeChoice 15 = .ok (.invokevirtual 33, 3) := by decide +kernel
theorem dX2_writeChoice_18 : decode cX2_writeChoice 18 = .ok (.aload_n 0, 1) := by decide +kernel
theorem dX2_writeChoice_19 : decode cX2_writeChoice 19 = .ok (.bipush 63, 2) := by decide +kernel
theorem dX2_writeChoice_21 : decode cX2_writeChoice 21 = .ok (.invokevirtual 71, 3) := by decide +kernel
theorem dX2_writeChoice_24 : decode cX2_writeChoice 24 = .ok (.aload_n 0, 1) := by decide +kernel
theorem dX2_writeChoice_25 : decode cX2_writeChoice 25 = .ok (.aload_n 0, 1) := by decide +kernel
theorem dX2_writeChoice_26 : decode cX2_writeChoice 26 = .ok (.getfield 19, 3) := by decide +kernel
theorem dX2_writeChoice_29 : decode cX2_writeChoice 29 = .ok (.iload_n 1, 1) := by decide +kernel
theorem dX2_writeChoice_30 : decode cX2_writeChoice 30 = .ok (.invokevirtual 87, 3) := by decide +kernel
theorem dX2_writeChoice_33 : decode cX2_writeChoice 33 = .ok (.invokevirtual 33, 3) := by decide +kernel
theorem dX2_writeChoice_36 : decode cX2_writeChoice 36 = .ok (.aload_n 0, 1) := by decide +kernel
theorem dX2_writeChoice_37 : decode cX2_writeChoice 37 = .ok (.bipush 58, 2) := by decide +kernel
theorem dX2_writeChoice_39 : decode cX2_writeChoice 39 = .ok (.invokevirtual 71, 3) := by decide +kernel
theorem dX2_writeChoice_42 : decode cX2_writeChoice 42 = .ok (.aload_n 0, 1) := by decide +kernel
theorem dX2_writeChoice_43 : decode cX2_writeChoice 43 = .ok (.aload_n 0, 1) := by decide +kernel
theorem dX2_writeChoice_44 : decode cX2_writeChoice 44 = .ok (.getfield 19, 3) := by decide +kernel
theorem dX2_writeChoice_47 : decode cX2_writeChoice 47 = .ok (.iload_n 1, 1) := by decide +kernel
theorem dX2_writeChoice_48 : decode cX2_writeChoice 48 = .ok (.invokevirtual 90, 3) := by decide +kernel
theorem dX2_writeChoice_51 : decode cX2_writeChoice 51 = .ok (.invokevirtual 33, 3) := by decide +kernel
theorem dX2_writeChoice_54 : decode cX2_writeChoice 54 = .ok (.aload_n 0, 1) := by decide +kernel
theorem dX2_writeChoice_55 : decode cX2_writeChoice 55 = .ok (.bipush 125, 2) := by decide +kernel
theorem dX2_writeChoice_57 : decode cX2_writeChoice 57 = .ok (.invokevirtual 71, 3) := by decide +kernel
theorem dX2_writeChoice_60 : decode cX2_writeChoice 60 = .ok (.return_, 1) := by decide +kernel
theorem dX2_writeType_0 : decode cX2_writeType 0 = .ok (.iload_n 1, 1) := by decide +kernel
theorem dX2_writeType_1 : decode cX2_writeType 1 = .ok (.ifCond .le 14, 3) := by decide +kernel
theorem dX2_writeType_4 : decode cX2_writeType 4 = .ok (.aload_n 0, 1) := by decide +kernel
theorem dX2_writeType_5 : decode cX2_writeType 5 = .ok (.getfield 15, 3) := by decide +kernel
theorem dX2_writeType_8 : decode cX2_writeType 8 = .ok (.iload_n 1, 1) := by decide +kernel
theorem dX2_writeType_9 : decode cX2_writeType 9 = .ok (.invokevirtual 93, 3) := by decide +kernel
theorem dX2_writeType_12 : decode cX2_writeType 12 = .ok (.ifCond .ne 10, 3) := by decide +kernel
theorem dX2_writeType_15 : decode cX2_writeType 15 = .ok (.aload_n 0, 1) := by decide +kernel
theorem dX2_writeType_16 : decode cX2_writeType 16 = .ok (.bipush 105, 2) := by decide +kernel
theorem dX2_writeType_18 : decode cX2_writeType 18 = .ok (.invokevirtual 71, 3) := by decide +kernel
theorem dX2_writeType_21 : decode cX2_writeType 21 = .ok (.return_, 1) := by decide +kernel
theorem dX2_writeType_22 : decode cX2_writeType 22 = .ok (.aload_n 0, 1) := by decide +kernel
theorem dX2_writeType_23 : decode cX2_writeType 23 = .ok (.bipush 40, 2) := by decide +kernel
theorem dX2_writeType_25 : decode cX2_writeType 25 = .ok (.invokevirtual 71, 3) := by decide +kernel
theorem dX2_writeType_28 : decode cX2_writeType 28 = .ok (.aload_n 0, 1) := by decide +kernel
theorem dX2_writeType_29 : decode cX2_writeType 29 = .ok (.aload_n 0, 1) := by decide +kernel
theorem dX2_writeType_30 : decode cX2_writeType 30 = .ok (.getfield 15, 3) := by decide +kernel
theorem dX2_writeType_33 : decode cX2_writeType 33 = .ok (.iload_n 1, 1) := by decide +kernel
theorem dX2_writeType_34 : decode cX2_writeType 34 = .ok (.invokevirtual 99, 3) := by decide +kernel
theorem dX2_writeType_37 : decode cX2_writeType 37 = .ok (.invokevirtual 81, 3) := by decide +kernel
theorem dX2_writeType_40 : decode cX2_writeType 40 = .ok (.aload_n 0, 1) := by decide +kernel
theorem dX2_writeType_41 : decode cX2_writeType 41 = .ok (.bipush 62, 2) := by decide +kernel
theorem dX2_writeType_43 : decode cX2_writeType 43 = .ok (.invokevirtual 71, 3) := by decide +kernel
theorem dX2_writeType_46 : decode cX2_writeType 46 = .ok (.aload_n 0, 1) := by decide +kernel
theorem dX2_writeType_47 : decode cX2_writeType 47 = .ok (.aload_n 0, 1) := by decide +kernel
theorem dX2_writeType_48 : decode cX2_writeType 48 = .ok (.getfield 15, 3) := by decide +kernel
theorem dX2_writeType_51 : decode cX2_writeType 51 = .ok (.iload_n 1, 1) := by decide +kernel
theorem dX2_writeType_52 : decode cX2_writeType 52 = .ok (.invokevirtual 102, 3) := by decide +kernel
theorem dX2_writeType_55 : decode cX2_writeType 55 = .ok (.invokevirtual 81, 3) := by decide +kernel
theorem dX2_writeType_58 : decode cX2_writeType 58 = .ok (.aload_n 0, 1) := by decide +kernel
theorem dX2_writeType_59 : decode cX2_writeType 59 = .ok (.bipush 41, 2) := by decide +kernel
theorem dX2_writeType_61 : decode cX2_writeType 61 = .ok (.invokevirtual 71, 3) := by decide +kernel
theorem dX2_writeType_64 : decode cX2_writeType 64 = .ok (.return_, 1) := by decide +kernel
theorem dX2_writeLetter_0 : decode cX2_writeLetter 0 = .ok (.aload_n 0, 1) := by decide +kernel
theorem dX2_writeLetter_1 : decode cX2_writeLetter 1 = .ok (.bipush 97, 2) := by decide +kernel
theorem dX2_writeLetter_3 : decode cX2_writeLetter 3 = .ok (.iload_n 1, 1) := by decide +kernel
theorem dX2_writeLetter_4 : decode cX2_writeLetter 4 = .ok (.iadd, 1) := by decide +kernel
theorem dX2_writeLetter_5 : decode cX2_writeLetter 5 = .ok (.invokevirtual 71, 3) := by decide +kernel
theorem dX2_writeLetter_8 : decode cX2_writeLetter 8 = .ok (.return_, 1) := by decide +kernel
theorem dX2_write_0 : decode cX2_write 0 = .ok (.aload_n 0, 1) := by decide +kernel
theorem dX2_write_1 : decode cX2_write 1 = .ok (.getfield 23, 3) := by decide +kernel
theorem dX2_write_4 : decode cX2_write 4 = .ok (.ifCond .lt 34, 3) := by decide +kernel
theorem dX2_write_7 : decode cX2_write 7 = .ok (.aload_n 0, 1) := by decide +kernel
theorem dX2_write_8 : decode cX2_write 8 = .ok (.getfield 23, 3) := by decide +kernel
theorem dX2_write_11 : decode cX2_write 11 = .ok (.sipush 4000, 3) := by decide +kernel
theorem dX2_write_14 : decode cX2_write 14 = .ok (.if_icmp .ge 24, 3) := by decide +kernel
theorem dX2_write_17 : decode cX2_write 17 = .ok (.aload_n 0, 1) := by decide +kernel
theorem dX2_write_18 : decode cX2_write 18 = .ok (.getfield 9, 3) := by decide +kernel
theorem dX2_write_21 : decode cX2_write 21 = .ok (.aload_n 0, 1) := by decide +kernel
theorem dX2_write_22 : decode cX2_write 22 = .ok (.getfield 23, 3) := by decide +kernel
theorem dX2_write_25 : decode cX2_write 25 = .ok (.iload_n 1, 1) := by decide +kernel
theorem dX2_write_26 : decode cX2_write 26 = .ok (.i2b, 1) := by decide +kernel
theorem dX2_write_27 : decode cX2_write 27 = .ok (.bastore, 1) := by decide +kernel
theorem dX2_write_28 : decode cX2_write 28 = .ok (.aload_n 0, 1) := by decide +kernel
theorem dX2_write_29 : decode cX2_write 29 = .ok (.dup, 1) := by decide +kernel
theorem dX2_write_30 : decode cX2_write 30 = .ok (.getfield 23, 3) := by decide +kernel
theorem dX2_write_33 : decode cX2_write 33 = .ok (.iconst 1, 1) := by decide +kernel
theorem dX2_write_34 : decode cX2_write 34 = .ok (.iadd, 1) := by decide +kernel
theorem dX2_write_35 : decode cX2_write 35 = .ok (.putfield 23, 3) := by decide +kernel
theorem dX2_write_38 : decode cX2_write 38 = .ok (.return_, 1) := by decide +kernel
theorem dX3_init_0 : decode cX3_init 0 = .ok (.aload_n 0, 1) := by decide +kernel
theorem dX3_init_1 : decode cX3_init 1 = .ok (.invokespecial 3, 3) := by decide +kernel
theorem dX3_init_4 : decode cX3_init 4 = .ok (.aload_n 0, 1) := by decide +kernel
theorem dX3_init_5 : decode cX3_init 5 = .ok (.aload_n 1, 1) := by decide +kernel
theorem dX3_init_6 : decode cX3_init 6 = .ok (.putfield 9, 3) := by decide +kernel
theorem dX3_init_9 : decode cX3_init 9 = .ok (.return_, 1) := by decide +kernel
theorem dX3_into_0 : decode cX3_into 0 = .ok (.aload_n 0, 1) := by decide +kernel
theorem dX3_into_1 : decode cX3_into 1 = .ok (.getfield 9, 3) := by decide +kernel
theorem dX3_into_4 : decode cX3_into 4 = .ok (.iload_n 1, 1) := by decide +kernel
theorem dX3_into_5 : decode cX3_into 5 = .ok (.iload_n 2, 1) := by decide +kernel
theorem dX3_into_6 : decode cX3_into 6 = .ok (.invokevirtual 15, 3) := by decide +kernel
theorem dX3_into_9 : decode cX3_into 9 = .ok (.ifCond .ne 5, 3) := by decide +kernel
theorem dX3_into_12 : decode cX3_into 12 = .ok (.iload_n 1, 1) := by decide +kernel
theorem dX3_into_13 : decode cX3_into 13 = .ok (.ireturn, 1) := by decide +kernel
theorem dX3_into_14 : decode cX3_into 14 = .ok (.aload_n 0, 1) := by decide +kernel
theorem dX3_into_15 : decode cX3_into 15 = .ok (.getfield 9, 3) := by decide +kernel
theorem dX3_into_18 : decode cX3_into 18 = .ok (.iload_n 1, 1) := by decide +kernel
theorem dX3_into_19 : decode cX3_into 19 = .ok (.invokevirtual 21, 3) := by decide +kernel
theorem dX3_into_22 : decode cX3_into 22 = .ok (.tableswitch 48 1 4 #[30, 32, 48, 40], 30) := by decide +kernel
theorem dX3_into_52 : decode cX3_into 52 = .ok (.iload_n 3, 1) := by decide +kernel
theorem dX3_into_53 : decode cX3_into 53 = .ok (.ireturn, 1) := by decide +kernel
theorem dX3_into_54 : decode cX3_into 54 = .ok (.aload_n 0, 1) := by decide +kernel
theorem dX3_into_55 : decode cX3_into 55 = .ok (.iload_n 1, 1) := by decide +kernel
