theorem dX10_sayAt_116 : decode cX10_sayAt 116 = .ok (.aload_n 0, 1) := by decide +kernel
theorem dX10_sayAt_117 : decode cX10_sayAt 117 = .ok (.getfield 36, 3) := by decide +kernel
theorem dX10_sayAt_120 : decode cX10_sayAt 120 = .ok (.iload_n 1, 1) := by decide +kernel
theorem dX10_sayAt_121 : decode cX10_sayAt 121 = .ok (.iaload, 1) := by decide +kernel
theorem dX10_sayAt_122 : decode cX10_sayAt 122 = .ok (.iadd, 1) := by decide +kernel
theorem dX10_sayAt_123 : decode cX10_sayAt 123 = .ok (.invokevirtual 229, 3) := by decide +kernel
theorem dX10_sayAt_126 : decode cX10_sayAt 126 = .ok (.aload_n 0, 1) := by decide +kernel
theorem dX10_sayAt_127 : decode cX10_sayAt 127 = .ok (.bipush 61, 2) := by decide +kernel
theorem dX10_sayAt_129 : decode cX10_sayAt 129 = .ok (.invokevirtual 229, 3) := by decide +kernel
theorem dX10_sayAt_132 : decode cX10_sayAt 132 = .ok (.goto 111, 3) := by decide +kernel
theorem dX10_sayAt_135 : decode cX10_sayAt 135 = .ok (.iload_n 3, 1) := by decide +kernel
theorem dX10_sayAt_136 : decode cX10_sayAt 136 = .ok (.iconst 4, 1) := by decide +kernel
theorem dX10_sayAt_137 : decode cX10_sayAt 137 = .ok (.if_icmp .ne 17, 3) := by decide +kernel
theorem dX10_sayAt_140 : decode cX10_sayAt 140 = .ok (.iload_n 2, 1) := by decide +kernel
theorem dX10_sayAt_141 : decode cX10_sayAt 141 = .ok (.iconst 1, 1) := by decide +kernel
theorem dX10_sayAt_142 : decode cX10_sayAt 142 = .ok (.if_icmp .ne 12, 3) := by decide +kernel
theorem dX10_sayAt_145 : decode cX10_sayAt 145 = .ok (.aload_n 0, 1) := by decide +kernel
theorem dX10_sayAt_146 : decode cX10_sayAt 146 = .ok (.bipush 93, 2) := by decide +kernel
theorem dX10_sayAt_148 : decode cX10_sayAt 148 = .ok (.invokevirtual 229, 3) := by decide +kernel
theorem dX10_sayAt_151 : decode cX10_sayAt 151 = .ok (.goto 92, 3) := by decide +kernel
theorem dX10_sayAt_154 : decode cX10_sayAt 154 = .ok (.iload_n 3, 1) := by decide +kernel
theorem dX10_sayAt_155 : decode cX10_sayAt 155 = .ok (.iconst 3, 1) := by decide +kernel
theorem dX10_sayAt_156 : decode cX10_sayAt 156 = .ok (.if_icmp .eq 8, 3) := by decide +kernel
theorem dX10_sayAt_159 : decode cX10_sayAt 159 = .ok (.iload_n 3, 1) := by decide +kernel
theorem dX10_sayAt_160 : decode cX10_sayAt 160 = .ok (.iconst 5, 1) := by decide +kernel
theorem dX10_sayAt_161 : decode cX10_sayAt 161 = .ok (.if_icmp .ne 41, 3) := by decide +kernel
theorem dX10_sayAt_164 : decode cX10_sayAt 164 = .ok (.aload_n 0, 1) := by decide +kernel
theorem dX10_sayAt_165 : decode cX10_sayAt 165 = .ok (.iload_n 2, 1) := by decide +kernel
theorem dX10_sayAt_166 : decode cX10_sayAt 166 = .ok (.ifCond .ne 8, 3) := by decide +kernel
theorem dX10_sayAt_169 : decode cX10_sayAt 169 = .ok (.bipush 40, 2) := by decide +kernel
theorem dX10_sayAt_171 : decode cX10_sayAt 171 = .ok (.goto 25, 3) := by decide +kernel
theorem dX10_sayAt_174 : decode cX10_sayAt 174 = .ok (.iload_n 2, 1) := by decide +kernel
theorem dX10_sayAt_175 : decode cX10_sayAt 175 = .ok (.iconst 2, 1) := by decide +kernel
theorem dX10_sayAt_176 : decode cX10_sayAt 176 = .ok (.if_icmp .ne 8, 3) := by decide +kernel
theorem dX10_sayAt_179 : decode cX10_sayAt 179 = .ok (.bipush 41, 2) := by decide +kernel
theorem dX10_sayAt_181 : decode cX10_sayAt 181 = .ok (.goto 15, 3) := by decide +kernel
theorem dX10_sayAt_184 : decode cX10_sayAt 184 = .ok (.iload_n 3, 1) := by decide +kernel
theorem dX10_sayAt_185 : decode cX10_sayAt 185 = .ok (.iconst 3, 1) := by decide +kernel
theorem dX10_sayAt_186 : decode cX10_sayAt 186 = .ok (.if_icmp .ne 8, 3) := by decide +kernel
theorem dX10_sayAt_189 : decode cX10_sayAt 189 = .ok (.bipush 32, 2) := by decide +kernel
theorem dX10_sayAt_191 : decode cX10_sayAt 191 = .ok (.goto 5, 3) := by decide +kernel
theorem dX10_sayAt_194 : decode cX10_sayAt 194 = .ok (.bipush 43, 2) := by decide +kernel
theorem dX10_sayAt_196 : decode cX10_sayAt 196 = .ok (.invokevirtual 229, 3) := by decide +kernel
theorem dX10_sayAt_199 : decode cX10_sayAt 199 = .ok (.goto 44, 3) := by decide +kernel
theorem dX10_sayAt_202 : decode cX10_sayAt 202 = .ok (.iload_n 3, 1) := by decide +kernel
theorem dX10_sayAt_203 : decode cX10_sayAt 203 = .ok (.bipush 6, 2) := by decide +kernel
theorem dX10_sayAt_205 : decode cX10_sayAt 205 = .ok (.if_icmp .ne 38, 3) := by decide +kernel
theorem dX10_sayAt_208 : decode cX10_sayAt 208 = .ok (.aload_n 0, 1) := by decide +kernel
theorem dX10_sayAt_209 : decode cX10_sayAt 209 = .ok (.iload_n 2, 1) := by decide +kernel
theorem dX10_sayAt_210 : decode cX10_sayAt 210 = .ok (.ifCond .ne 8, 3) := by decide +kernel
theorem dX10_sayAt_213 : decode cX10_sayAt 213 = .ok (.bipush 123, 2) := by decide +kernel
theorem dX10_sayAt_215 : decode cX10_sayAt 215 = .ok (.goto 25, 3) := by decide +kernel
theorem dX10_sayAt_218 : decode cX10_sayAt 218 = .ok (.iload_n 2, 1) := by decide +kernel
theorem dX10_sayAt_219 : decode cX10_sayAt 219 = .ok (.iconst 1, 1) := by decide +kernel
theorem dX10_sayAt_220 : decode cX10_sayAt 220 = .ok (.if_icmp .ne 8, 3) := by decide +kernel
theorem dX10_sayAt_223 : decode cX10_sayAt 223 = .ok (.bipush 63, 2) := by decide +kernel
theorem dX10_sayAt_225 : decode cX10_sayAt 225 = .ok (.goto 15, 3) := by decide +kernel
theorem dX10_sayAt_228 : decode cX10_sayAt 228 = .ok (.iload_n 2, 1) := by decide +kernel
theorem dX10_sayAt_229 : decode cX10_sayAt 229 = .ok (.iconst 2, 1) := by decide +kernel
theorem dX10_sayAt_230 : decode cX10_sayAt 230 = .ok (.if_icmp .ne 8, 3) := by decide +kernel
theorem dX10_sayAt_233 : decode cX10_sayAt 233 = .ok (.bipush 58, 2) := by decide +kernel
theorem dX10_sayAt_235 : decode cX10_sayAt 235 = .ok (.goto 5, 3) := by decide +kernel
theorem dX10_sayAt_238 : decode cX10_sayAt 238 = .ok (.bipush 125, 2) := by decide +kernel
theorem dX10_sayAt_240 : decode cX10_sayAt 240 = .ok (.invokevirtual 229, 3) := by decide +kernel
theorem dX10_sayAt_243 : decode cX10_sayAt 243 = .ok (.return_, 1) := by decide +kernel
theorem dX10_print_0 : decode cX10_print 0 = .ok (.aload_n 0, 1) := by decide +kernel
theorem dX10_print_1 : decode cX10_print 1 = .ok (.iload_n 1, 1) := by decide +kernel
theorem dX10_print_2 : decode cX10_print 2 = .ok (.invokevirtual 136, 3) := by decide +kernel
theorem dX10_print_5 : decode cX10_print 5 = .ok (.ifCond .ne 5, 3) := by decide +kernel
theorem dX10_print_8 : decode cX10_print 8 = .ok (.iconst (-1), 1) := by decide +kernel
theorem dX10_print_9 : decode cX10_print 9 = .ok (.ireturn, 1) := by decide +kernel
theorem dX10_print_10 : decode cX10_print 10 = .ok (.aload_n 0, 1) := by decide +kernel
theorem dX10_print_11 : decode cX10_print 11 = .ok (.iconst 0, 1) := by decide +kernel
theorem dX10_print_12 : decode cX10_print 12 = .ok (.putfield 222, 3) := by decide +kernel
theorem dX10_print_15 : decode cX10_print 15 = .ok (.aload_n 0, 1) := by decide +kernel
theorem dX10_print_16 : decode cX10_print 16 = .ok (.iconst 0, 1) := by decide +kernel
theorem dX10_print_17 : decode cX10_print 17 = .ok (.putfield 225, 3) := by decide +kernel
theorem dX10_print_20 : decode cX10_print 20 = .ok (.aload_n 0, 1) := by decide +kernel
theorem dX10_print_21 : decode cX10_print 21 = .ok (.iconst 0, 1) := by decide +kernel
theorem dX10_print_22 : decode cX10_print 22 = .ok (.putfield 145, 3) := by decide +kernel
theorem dX10_print_25 : decode cX10_print 25 = .ok (.aload_n 0, 1) := by decide +kernel
theorem dX10_print_26 : decode cX10_print 26 = .ok (.iload_n 1, 1) := by decide +kernel
theorem dX10_print_27 : decode cX10_print 27 = .ok (.invokevirtual 154, 3) := by decide +kernel
theorem dX10_print_30 : decode cX10_print 30 = .ok (.aload_n 0, 1) := by decide +kernel
theorem dX10_print_31 : decode cX10_print 31 = .ok (.getfield 145, 3) := by decide +kernel
theorem dX10_print_34 : decode cX10_print 34 = .ok (.ifCond .le 83, 3) := by decide +kernel
theorem dX10_print_37 : decode cX10_print 37 = .ok (.aload_n 0, 1) := by decide +kernel
theorem dX10_print_38 : decode cX10_print 38 = .ok (.getfield 145, 3) := by decide +kernel
theorem dX10_print_41 : decode cX10_print 41 = .ok (.iconst 1, 1) := by decide +kernel
theorem dX10_print_42 : decode cX10_print 42 = .ok (.isub, 1) := by decide +kernel
theorem dX10_print_43 : decode cX10_print 43 = .ok (.istore_n 2, 1) := by decide +kernel
theorem dX10_print_44 : decode cX10_print 44 = .ok (.aload_n 0, 1) := by decide +kernel
theorem dX10_print_45 : decode cX10_print 45 = .ok (.getfield 54, 3) := by decide +kernel
theorem dX10_print_48 : decode cX10_print 48 = .ok (.iload_n 2, 1) := by decide +kernel
theorem dX10_print_49 : decode cX10_print 49 = .ok (.iaload, 1) := by decide +kernel
theorem dX10_print_50 : decode cX10_print 50 = .ok (.istore_n 3, 1) := by decide +kernel
theorem dX10_print_51 : decode cX10_print 51 = .ok (.aload_n 0, 1) := by decide +kernel
theorem dX10_print_52 : decode cX10_print 52 = .ok (.getfield 57, 3) := by decide +kernel
theorem dX10_print_55 : decode cX10_print 55 = .ok (.iload_n 2, 1) := by decide +kernel
theorem dX10_print_56 : decode cX10_print 56 = .ok (.iaload, 1) := by decide +kernel
theorem dX10_print_57 : decode cX10_print 57 = .ok (.istore 4, 2) := by decide +kernel
theorem dX10_print_59 : decode cX10_print 59 = .ok (.aload_n 0, 1) := by decide +kernel
theorem dX10_print_60 : decode cX10_print 60 = .ok (.getfield 57, 3) := by decide +kernel
theorem dX10_print_63 : decode cX10_print 63 = .ok (.iload_n 2, 1) := by decide +kernel
theorem dX10_print_64 : decode cX10_print 64 = .ok (.dup2, 1) := by decide +kernel
theorem dX10_print_65 : decode cX10_print 65 = .ok (.iaload, 1) := by decide +kernel
theorem dX10_print_66 : decode cX10_print 66 = .ok (.iconst 1, 1) := by decide +kernel
theorem dX10_print_67 : decode cX10_print 67 = .ok (.iadd, 1) := by decide +kernel
theorem dX10_print_68 : decode cX10_print 68 = .ok (.iastore, 1) := by decide +kernel
theorem dX10_print_69 : decode cX10_print 69 = .ok (.aload_n 0, 1) := by decide +kernel
theorem dX10_print_70 : decode cX10_print 70 = .ok (.iload_n 3, 1) := by decide +kernel
theorem dX10_print_71 : decode cX10_print 71 = .ok (.iload 4, 2) := by decide +kernel
theorem dX10_print_73 : decode cX10_print 73 = .ok (.invokevirtual 242, 3) := by decide +kernel
theorem dX10_print_76 : decode cX10_print 76 = .ok (.iload 4, 2) := by decide +kernel
theorem dX10_print_78 : decode cX10_print 78 = .ok (.aload_n 0, 1) := by decide +kernel
theorem dX10_print_79 : decode cX10_print 79 = .ok (.getfield 30, 3) := by decide +kernel
theorem dX10_print_82 : decode cX10_print 82 = .ok (.iload_n 3, 1) := by decide +kernel
theorem dX10_print_83 : decode cX10_print 83 = .ok (.iaload, 1) := by decide +kernel
theorem dX10_print_84 : decode cX10_print 84 = .ok (.invokestatic 122, 3) := by decide +kernel
theorem dX10_print_87 : decode cX10_print 87 = .ok (.if_icmp .ge 17, 3) := by decide +kernel
theorem dX10_print_90 : decode cX10_print 90 = .ok (.aload_n 0, 1) := by decide +kernel
theorem dX10_print_91 : decode cX10_print 91 = .ok (.aload_n 0, 1) := by decide +kernel
theorem dX10_print_92 : decode cX10_print 92 = .ok (.iload_n 3, 1) := by decide +kernel
theorem dX10_print_93 : decode cX10_print 93 = .ok (.iload 4, 2) := by decide +kernel
theorem dX10_print_95 : decode cX10_print 95 = .ok (.invokevirtual 126, 3) := by decide +kernel
theorem dX10_print_98 : decode cX10_print 98 = .ok (.invokevirtual 154, 3) := by decide +kernel
theorem dX10_print_101 : decode cX10_print 101 = .ok (.goto 13, 3) := by decide +kernel
theorem dX10_print_104 : decode cX10_print 104 = .ok (.aload_n 0, 1) := by decide +kernel
theorem dX10_print_105 : decode cX10_print 105 = .ok (.dup, 1) := by decide +kernel
theorem dX10_print_106 : decode cX10_print 106 = .ok (.getfield 145, 3) := by decide +kernel
theorem dX10_print_109 : decode cX10_print 109 = .ok (.iconst 1, 1) := by decide +kernel
theorem dX10_print_110 : decode cX10_print 110 = .ok (.isub, 1) := by decide +kernel
theorem dX10_print_111 : decode cX10_print 111 = .ok (.putfield 145, 3) := by decide +kernel
theorem dX10_print_114 : decode cX10_print 114 = .ok (.goto (-84), 3) := by decide +kernel
theorem dX10_print_117 : decode cX10_print 117 = .ok (.aload_n 0, 1) := by decide +kernel
theorem dX10_print_118 : decode cX10_print 118 = .ok (.getfield 225, 3) := by decide +kernel
theorem dX10_print_121 : decode cX10_print 121 = .ok (.ifCond .eq 6, 3) := by decide +kernel
theorem dX10_print_124 : decode cX10_print 124 = .ok (.bipush (-3), 2) := by decide +kernel
theorem dX10_print_126 : decode cX10_print 126 = .ok (.ireturn, 1) := by decide +kernel
theorem dX10_print_127 : decode cX10_print 127 = .ok (.iconst 0, 1) := by decide +kernel
theorem dX10_print_128 : decode cX10_print 128 = .ok (.istore_n 2, 1) := by decide +kernel
theorem dX10_print_129 : decode cX10_print 129 = .ok (.iload_n 2, 1) := by decide +kernel
theorem dX10_print_130 : decode cX10_print 130 = .ok (.aload_n 0, 1) := by decide +kernel
theorem dX10_print_131 : decode cX10_print 131 = .ok (.getfield 222, 3) := by decide +kernel
theorem dX10_print_134 : decode cX10_print 134 = .ok (.if_icmp .ge 21, 3) := by decide +kernel
theorem dX10_print_137 : decode cX10_print 137 = .ok (.aload_n 0, 1) := by decide +kernel
theorem dX10_print_138 : decode cX10_print 138 = .ok (.getfield 93, 3) := by decide +kernel
theorem dX10_print_141 : decode cX10_print 141 = .ok (.iload_n 2, 1) := by decide +kernel
theorem dX10_print_142 : decode cX10_print 142 = .ok (.aload_n 0, 1) := by decide +kernel
theorem dX10_print_143 : decode cX10_print 143 = .ok (.getfield 96, 3) := by decide +kernel
theorem dX10_print_146 : decode cX10_print 146 = .ok (.iload_n 2, 1) := by decide +kernel
theorem dX10_print_147 : decode cX10_print 147 = .ok (.iaload, 1) := by decide +kernel
theorem dX10_print_148 : decode cX10_print 148 = .ok (.iastore, 1) := by decide +kernel
theorem dX10_print_149 : decode cX10_print 149 = .ok (.iinc 2 1, 3) := by decide +kernel
theorem dX10_print_152 : decode cX10_print 152 = .ok (.goto (-23), 3) := by decide +kernel
theorem dX10_print_155 : decode cX10_print 155 = .ok (.aload_n 0, 1) := by decide +kernel
theorem dX10_print_156 : decode cX10_print 156 = .ok (.aload_n 0, 1) := by decide +kernel
theorem dX10_print_157 : decode cX10_print 157 = .ok (.getfield 222, 3) := by decide +kernel
theorem dX10_print_160 : decode cX10_print 160 = .ok (.putfield 245, 3) := by decide +kernel
theorem dX10_print_163 : decode cX10_print 163 = .ok (.aload_n 0, 1) := by decide +kernel
theorem dX10_print_164 : decode cX10_print 164 = .ok (.getfield 245, 3) := by decide +kernel
theorem dX10_print_167 : decode cX10_print 167 = .ok (.ireturn, 1) := by decide +kernel
theorem dX10_at_0 : decode cX10_at 0 = .ok (.iload_n 1, 1) := by decide +kernel
theorem dX10_at_1 : decode cX10_at 1 = .ok (.iconst 0, 1) := by decide +kernel
theorem dX10_at_2 : decode cX10_at 2 = .ok (.aload_n 0, 1) := by decide +kernel
theorem dX10_at_3 : decode cX10_at 3 = .ok (.getfield 245, 3) := by decide +kernel
theorem dX10_at_6 : decode cX10_at 6 = .ok (.iconst 1, 1) := by decide +kernel
theorem dX10_at_7 : decode cX10_at 7 = .ok (.isub, 1) := by decide +kernel
theorem dX10_at_8 : decode cX10_at 8 = .ok (.invokestatic 3, 3) := by decide +kernel
theorem dX10_at_11 : decode cX10_at 11 = .ok (.ifCond .eq 12, 3) := by decide +kernel
theorem dX10_at_14 : decode cX10_at 14 = .ok (.aload_n 0, 1) := by decide +kernel
theorem dX10_at_15 : decode cX10_at 15 = .ok (.getfield 93, 3) := by decide +kernel
theorem dX10_at_18 : decode cX10_at 18 = .ok (.iload_n 1, 1) := by decide +kernel
theorem dX10_at_19 : decode cX10_at 19 = .ok (.iaload, 1) := by decide +kernel
theorem dX10_at_20 : decode cX10_at 20 = .ok (.goto 4, 3) := by decide +kernel
theorem dX10_at_23 : decode cX10_at 23 = .ok (.iconst (-1), 1) := by decide +kernel
theorem dX10_at_24 : decode cX10_at 24 = .ok (.ireturn, 1) := by decide +kernel
theorem dX10_feed_0 : decode cX10_feed 0 = .ok (.iload_n 3, 1) := by decide +kernel
theorem dX10_feed_1 : decode cX10_feed 1 = .ok (.iconst 1, 1) := by decide +kernel
theorem dX10_feed_2 : decode cX10_feed 2 = .ok (.bipush 8, 2) := by decide +kernel
theorem dX10_feed_4 : decode cX10_feed 4 = .ok (.invokestatic 3, 3) := by decide +kernel
theorem dX10_feed_7 : decode cX10_feed 7 = .ok (.ifCond .ne 5, 3) := by decide +kernel
theorem dX10_feed_10 : decode cX10_feed 10 = .ok (.iconst (-1), 1) := by decide +kernel
theorem dX10_feed_11 : decode cX10_feed 11 = .ok (.ireturn, 1) := by decide +kernel
theorem dX10_feed_12 : decode cX10_feed 12 = .ok (.aload_n 0, 1) := by decide +kernel
theorem dX10_feed_13 : decode cX10_feed 13 = .ok (.getfield 248, 3) := by decide +kernel
theorem dX10_feed_16 : decode cX10_feed 16 = .ok (.iload_n 3, 1) := by decide +kernel
theorem dX10_feed_17 : decode cX10_feed 17 = .ok (.iadd, 1) := by decide +kernel
theorem dX10_feed_18 : decode cX10_feed 18 = .ok (.sipush 600, 3) := by decide +kernel
theorem dX10_feed_21 : decode cX10_feed 21 = .ok (.if_icmp .le 6, 3) := by decide +kernel
theorem dX10_feed_24 : decode cX10_feed 24 = .ok (.bipush (-3), 2) := by decide +kernel
theorem dX10_feed_26 : decode cX10_feed 26 = .ok (.ireturn, 1) := by decide +kernel
theorem dX10_feed_27 : decode cX10_feed 27 = .ok (.iload_n 3, 1) := by decide +kernel
theorem dX10_feed_28 : decode cX10_feed 28 = .ok (.iconst 1, 1) := by decide +kernel
theorem dX10_feed_29 : decode cX10_feed 29 = .ok (.isub, 1) := by decide +kernel
theorem dX10_feed_30 : decode cX10_feed 30 = .ok (.istore 4, 2) := by decide +kernel
theorem dX10_feed_32 : decode cX10_feed 32 = .ok (.iload 4, 2) := by decide +kernel
theorem dX10_feed_34 : decode cX10_feed 34 = .ok (.ifCond .lt 40, 3) := by decide +kernel
theorem dX10_feed_37 : decode cX10_feed 37 = .ok (.aload_n 0, 1) := by decide +kernel
theorem dX10_feed_38 : decode cX10_feed 38 = .ok (.getfield 105, 3) := by decide +kernel
theorem dX10_feed_41 : decode cX10_feed 41 = .ok (.aload_n 0, 1) := by decide +kernel
theorem dX10_feed_42 : decode cX10_feed 42 = .ok (.getfield 248, 3) := by decide +kernel
theorem dX10_feed_45 : decode cX10_feed 45 = .ok (.lload_n 1, 1) := by decide +kernel
theorem dX10_feed_46 : decode cX10_feed 46 = .ok (.bipush 8, 2) := by decide +kernel
theorem dX10_feed_48 : decode cX10_feed 48 = .ok (.iload 4, 2) := by decide +kernel
theorem dX10_feed_50 : decode cX10_feed 50 = .ok (.imul, 1) := by decide +kernel
theorem dX10_feed_51 : decode cX10_feed 51 = .ok (.lshr, 1) := by decide +kernel
theorem dX10_feed_52 : decode cX10_feed 52 = .ok (.l2i, 1) := by decide +kernel
theorem dX10_feed_53 : decode cX10_feed 53 = .ok (.sipush 255, 3) := by decide +kernel
theorem dX10_feed_56 : decode cX10_feed 56 = .ok (.iand, 1) := by decide +kernel
theorem dX10_feed_57 : decode cX10_feed 57 = .ok (.iastore, 1) := by decide +kernel
theorem dX10_feed_58 : decode cX10_feed 58 = .ok (.aload_n 0, 1) := by decide +kernel
theorem dX10_feed_59 : decode cX10_feed 59 = .ok (.dup, 1) := by decide +kernel
theorem dX10_feed_60 : decode cX10_feed 60 = .ok (.getfield 248, 3) := by decide +kernel
theorem dX10_feed_63 : decode cX10_feed 63 = .ok (.iconst 1, 1) := by decide +kernel
theorem dX10_feed_64 : decode cX10_feed 64 = .ok (.iadd, 1) := by decide +kernel
theorem dX10_feed_65 : decode cX10_feed 65 = .ok (.putfield 248, 3) := by decide +kernel
theorem dX10_feed_68 : decode cX10_feed 68 = .ok (.iinc 4 (-1), 3) := by decide +kernel
theorem dX10_feed_71 : decode cX10_feed 71 = .ok (.goto (-39), 3) := by decide +kernel
theorem dX10_feed_74 : decode cX10_feed 74 = .ok (.aload_n 0, 1) := by decide +kernel
theorem dX10_feed_75 : decode cX10_feed 75 = .ok (.getfield 248, 3) := by decide +kernel
theorem dX10_feed_78 : decode cX10_feed 78 = .ok (.ireturn, 1) := by decide +kernel
theorem dX10_copy_0 : decode cX10_copy 0 = .ok (.aload_n 0, 1) := by decide +kernel
theorem dX10_copy_1 : decode cX10_copy 1 = .ok (.getfield 245, 3) := by decide +kernel
theorem dX10_copy_4 : decode cX10_copy 4 = .ok (.sipush 600, 3) := by decide +kernel
theorem dX10_copy_7 : decode cX10_copy 7 = .ok (.if_icmp .le 6, 3) := by decide +kernel
theorem dX10_copy_10 : decode cX10_copy 10 = .ok (.bipush (-3), 2) := by decide +kernel
theorem dX10_copy_12 : decode cX10_copy 12 = .ok (.ireturn, 1) := by decide +kernel
theorem dX10_copy_13 : decode cX10_copy 13 = .ok (.iconst 0, 1) := by decide +kernel
theorem dX10_copy_14 : decode cX10_copy 14 = .ok (.istore_n 1, 1) := by decide +kernel
theorem dX10_copy_15 : decode cX10_copy 15 = .ok (.iload_n 1, 1) := by decide +kernel
theorem dX10_copy_16 : decode cX10_copy 16 = .ok (.aload_n 0, 1) := by decide +kernel
theorem dX10_copy_17 : decode cX10_copy 17 = .ok (.getfield 245, 3) := by decide +kernel
theorem dX10_copy_20 : decode cX10_copy 20 = .ok (.if_icmp .ge 21, 3) := by decide +kernel
theorem dX10_copy_23 : decode cX10_copy 23 = .ok (.aload_n 0, 1) := by decide +kernel
theorem dX10_copy_24 : decode cX10_copy 24 = .ok (.getfield 105, 3) := by decide +kernel
theorem dX10_copy_27 : decode cX10_copy 27 = .ok (.iload_n 1, 1) := by decide +kernel
theorem dX10_copy_28 : decode cX10_copy 28 = .ok (.aload_n 0, 1) := by decide +kernel
theorem dX10_copy_29 : decode cX10_copy 29 = .ok (.getfield 93, 3) := by decide +kernel
theorem dX10_copy_32 : decode cX10_copy 32 = .ok (.iload_n 1, 1) := by decide +kernel
theorem dX10_copy_33 : decode cX10_copy 33 = .ok (.iaload, 1) := by decide +kernel
theorem dX10_copy_34 : decode cX10_copy 34 = .ok (.iastore, 1) := by decide +kernel
theorem dX10_copy_35 : decode cX10_copy 35 = .ok (.iinc 1 1, 3) := by decide +kernel
theorem dX10_copy_38 : decode cX10_copy 38 = .ok (.goto (-23), 3) := by decide +kernel
theorem dX10_copy_41 : decode cX10_copy 41 = .ok (.aload_n 0, 1) := by decide +kernel
theorem dX10_copy_42 : decode cX10_copy 42 = .ok (.aload_n 0, 1) := by decide +kernel
theorem dX10_copy_43 : decode cX10_copy 43 = .ok (.getfield 245, 3) := by decide +kernel
theorem dX10_copy_46 : decode cX10_copy 46 = .ok (.putfield 248, 3) := by decide +kernel
theorem dX10_copy_49 : decode cX10_copy 49 = .ok (.aload_n 0, 1) := by decide +kernel
theorem dX10_copy_50 : decode cX10_copy 50 = .ok (.getfield 248, 3) := by decide +kernel
theorem dX10_copy_53 : decode cX10_copy 53 = .ok (.ireturn, 1) := by decide +kernel
theorem dX10_byteHere_0 : decode cX10_byteHere 0 = .ok (.aload_n 0, 1) := by decide +kernel
theorem dX10_byteHere_1 : decode cX10_byteHere 1 = .ok (.getfield 251, 3) := by decide +kernel
theorem dX10_byteHere_4 : decode cX10_byteHere 4 = .ok (.aload_n 0, 1) := by decide +kernel
theorem dX10_byteHere_5 : decode cX10_byteHere 5 = .ok (.getfield 248, 3) := by decide +kernel
theorem dX10_byteHere_8 : decode cX10_byteHere 8 = .ok (.if_icmp .ge 15, 3) := by decide +kernel
theorem dX10_byteHere_11 : decode cX10_byteHere 11 = .ok (.aload_n 0, 1) := by decide +kernel
theorem dX10_byteHere_12 : decode cX10_byteHere 12 = .ok (.getfield 105, 3) := by decide +kernel
theorem dX10_byteHere_15 : decode cX10_byteHere 15 = .ok (.aload_n 0, 1) := by decide +kernel
theorem dX10_byteHere_16 : decode cX10_byteHere 16 = .ok (.getfield 251, 3) := by decide +kernel
theorem dX10_byteHere_19 : decode cX10_byteHere 19 = .ok (.iaload, 1) := by decide +kernel
theorem dX10_byteHere_20 : decode cX10_byteHere 20 = .ok (.goto 4, 3) := by decide +kernel
theorem dX10_byteHere_23 : decode cX10_byteHere 23 = .ok (.iconst (-1), 1) := by decide +kernel
theorem dX10_byteHere_24 : decode cX10_byteHere 24 = .ok (.ireturn, 1) := by decide +kernel
theorem dX10_must_0 : decode cX10_must 0 = .ok (.aload_n 0, 1) := by decide +kernel
theorem dX10_must_1 : decode cX10_must 1 = .ok (.getfield 254, 3) := by decide +kernel
theorem dX10_must_4 : decode cX10_must 4 = .ok (.ifCond .ne 24, 3) := by decide +kernel
theorem dX10_must_7 : decode cX10_must 7 = .ok (.aload_n 0, 1) := by decide +kernel
theorem dX10_must_8 : decode cX10_must 8 = .ok (.invokevirtual 257, 3) := by decide +kernel
theorem dX10_must_11 : decode cX10_must 11 = .ok (.iload_n 1, 1) := by decide +kernel
theorem dX10_must_12 : decode cX10_must 12 = .ok (.if_icmp .ne 16, 3) := by decide +kernel
theorem dX10_must_15 : decode cX10_must 15 = .ok (.aload_n 0, 1) := by decide +kernel
theorem dX10_must_16 : decode cX10_must 16 = .ok (.dup, 1) := by decide +kernel
theorem dX10_must_17 : decode cX10_must 17 = .ok (.getfield 251, 3) := by decide +kernel
theorem dX10_must_20 : decode cX10_must 20 = .ok (.iconst 1, 1) := by decide +kernel
theorem dX10_must_21 : decode cX10_must 21 = .ok (.iadd, 1) := by decide +kernel
theorem dX10_must_22 : decode cX10_must 22 = .ok (.putfield 251, 3) := by decide +kernel
theorem dX10_must_25 : decode cX10_must 25 = .ok (.goto 15, 3) := by decide +kernel
theorem dX10_must_28 : decode cX10_must 28 = .ok (.aload_n 0, 1) := by decide +kernel
theorem dX10_must_29 : decode cX10_must 29 = .ok (.getfield 254, 3) := by decide +kernel
theorem dX10_must_32 : decode cX10_must 32 = .ok (.ifCond .ne 8, 3) := by decide +kernel
theorem dX10_must_35 : decode cX10_must 35 = .ok (.aload_n 0, 1) := by decide +kernel
theorem dX10_must_36 : decode cX10_must 36 = .ok (.iconst 1, 1) := by decide +kernel
theorem dX10_must_37 : decode cX10_must 37 = .ok (.putfield 254, 3) := by decide +kernel
theorem dX10_must_40 : decode cX10_must 40 = .ok (.return_, 1) := by decide +kernel
theorem dX10_mustLetter_0 : decode cX10_mustLetter 0 = .ok (.aload_n 0, 1) := by decide +kernel
theorem dX10_mustLetter_1 : decode cX10_mustLetter 1 = .ok (.invokevirtual 257, 3) := by decide +kernel
theorem dX10_mustLetter_4 : decode cX10_mustLetter 4 = .ok (.istore_n 1, 1) := by decide +kernel
theorem dX10_mustLetter_5 : decode cX10_mustLetter 5 = .ok (.aload_n 0, 1) := by decide +kernel
theorem dX10_mustLetter_6 : decode cX10_mustLetter 6 = .ok (.getfield 254, 3) := by decide +kernel
theorem dX10_mustLetter_9 : decode cX10_mustLetter 9 = .ok (.ifCond .ne 29, 3) := by decide +kernel
theorem dX10_mustLetter_12 : decode cX10_mustLetter 12 = .ok (.iload_n 1, 1) := by decide +kernel
theorem dX10_mustLetter_13 : decode cX10_mustLetter 13 = .ok (.bipush 97, 2) := by decide +kernel
theorem dX10_mustLetter_15 : decode cX10_mustLetter 15 = .ok (.bipush 122, 2) := by decide +kernel
theorem dX10_mustLetter_17 : decode cX10_mustLetter 17 = .ok (.invokestatic 3, 3) := by decide +kernel
theorem dX10_mustLetter_20 : decode cX10_mustLetter 20 = .ok (.ifCond .eq 18, 3) := by decide +kernel
theorem dX10_mustLetter_23 : decode cX10_mustLetter 23 = .ok (.aload_n 0, 1) := by decide +kernel
theorem dX10_mustLetter_24 : decode cX10_mustLetter 24 = .ok (.dup, 1) := by decide +kernel
theorem dX10_mustLetter_25 : decode cX10_mustLetter 25 = .ok (.getfield 251, 3) := by decide +kernel
theorem dX10_mustLetter_28 : decode cX10_mustLetter 28 = .ok (.iconst 1, 1) := by decide +kernel
theorem dX10_mustLetter_29 : decode cX10_mustLetter 29 = .ok (.iadd, 1) := by decide +kernel
theorem dX10_mustLetter_30 : decode cX10_mustLetter 30 = .ok (.putfield 251, 3) := by decide +kernel
theorem dX10_mustLetter_33 : decode cX10_mustLetter 33 = .ok (.iload_n 1, 1) := by decide +kernel
theorem dX10_mustLetter_34 : decode cX10_mustLetter 34 = .ok (.bipush 97, 2) := by decide +kernel
theorem dX10_mustLetter_36 : decode cX10_mustLetter 36 = .ok (.isub, 1) := by decide +kernel
theorem dX10_mustLetter_37 : decode cX10_mustLetter 37 = .ok (.ireturn, 1) := by decide +kernel
theorem dX10_mustLetter_38 : decode cX10_mustLetter 38 = .ok (.aload_n 0, 1) := by decide +kernel
theorem dX10_mustLetter_39 : decode cX10_mustLetter 39 = .ok (.aload_n 0, 1) := by decide +kernel
theorem dX10_mustLetter_40 : decode cX10_mustLetter 40 = .ok (.getfield 254, 3) := by decide +kernel
theorem dX10_mustLetter_43 : decode cX10_mustLetter 43 = .ok (.ifCond .ne 7, 3) := by decide +kernel
theorem dX10_mustLetter_46 : decode cX10_mustLetter 46 = .ok (.iconst 1, 1) := by decide +kernel
theorem dX10_mustLetter_47 : decode cX10_mustLetter 47 = .ok (.goto 7, 3) := by decide +kernel
theorem dX10_mustLetter_50 : decode cX10_mustLetter 50 = .ok (.aload_n 0, 1) := by decide +kernel
theorem dX10_mustLetter_51 : decode cX10_mustLetter 51 = .ok (.getfield 254, 3) := by decide +kernel
theorem dX10_mustLetter_54 : decode cX10_mustLetter 54 = .ok (.putfield 254, 3) := by decide +kernel
theorem dX10_mustLetter_57 : decode cX10_mustLetter 57 = .ok (.iconst 0, 1) := by decide +kernel
theorem dX10_mustLetter_58 : decode cX10_mustLetter 58 = .ok (.ireturn, 1) := by decide +kernel
theorem dX10_made_0 : decode cX10_made 0 = .ok (.aload_n 0, 1) := by decide +kernel
theorem dX10_made_1 : decode cX10_made 1 = .ok (.iload_n 1, 1) := by decide +kernel
theorem dX10_made_2 : decode cX10_made 2 = .ok (.putfield 151, 3) := by decide +kernel
theorem dX10_made_5 : decode cX10_made 5 = .ok (.aload_n 0, 1) := by decide +kernel
theorem dX10_made_6 : decode cX10_made 6 = .ok (.iload_n 1, 1) := by decide +kernel
theorem dX10_made_7 : decode cX10_made 7 = .ok (.bipush (-3), 2) := by decide +kernel
theorem dX10_made_9 : decode cX10_made 9 = .ok (.if_icmp .ne 7, 3) := by decide +kernel
theorem dX10_made_12 : decode cX10_made 12 = .ok (.iconst 2, 1) := by decide +kernel
theorem dX10_made_13 : decode cX10_made 13 = .ok (.goto 7, 3) := by decide +kernel
theorem dX10_made_16 : decode cX10_made 16 = .ok (.aload_n 0, 1) := by decide +kernel
theorem dX10_made_17 : decode cX10_made 17 = .ok (.getfield 254, 3) := by decide +kernel
theorem dX10_made_20 : decode cX10_made 20 = .ok (.putfield 254, 3) := by decide +kernel
theorem dX10_made_23 : decode cX10_made 23 = .ok (.return_, 1) := by decide +kernel
theorem dX10_readType_0 : decode cX10_readType 0 = .ok (.iconst 0, 1) := by decide +kernel
theorem dX10_readType_1 : decode cX10_readType 1 = .ok (.istore_n 1, 1) := by decide +kernel
theorem dX10_readType_2 : decode cX10_readType 2 = .ok (.bipush (-2), 2) := by decide +kernel
theorem dX10_readType_4 : decode cX10_readType 4 = .ok (.istore_n 2, 1) := by decide +kernel
theorem dX10_readType_5 : decode cX10_readType 5 = .ok (.iconst 1, 1) := by decide +kernel
theorem dX10_readType_6 : decode cX10_readType 6 = .ok (.istore_n 3, 1) := by decide +kernel
theorem dX10_readType_7 : decode cX10_readType 7 = .ok (.aload_n 0, 1) := by decide +kernel
theorem dX10_readType_8 : decode cX10_readType 8 = .ok (.getfield 254, 3) := by decide +kernel
theorem dX10_readType_11 : decode cX10_readType 11 = .ok (.ifCond .ne 202, 3) := by decide +kernel
theorem dX10_readType_14 : decode cX10_readType 14 = .ok (.iload_n 3, 1) := by decide +kernel
theorem dX10_readType_15 : decode cX10_readType 15 = .ok (.ifCond .ne 7, 3) := by decide +kernel
theorem dX10_readType_18 : decode cX10_readType 18 = .ok (.iload_n 1, 1) := by decide +kernel
theorem dX10_readType_19 : decode cX10_readType 19 = .ok (.ifCond .le 194, 3) := by decide +kernel
theorem dX10_readType_22 : decode cX10_readType 22 = .ok (.iload_n 3, 1) := by decide +kernel
theorem dX10_readType_23 : decode cX10_readType 23 = .ok (.ifCond .eq 44, 3) := by decide +kernel
theorem dX10_readType_26 : decode cX10_readType 26 = .ok (.aload_n 0, 1) := by decide +kernel
theorem dX10_readType_27 : decode cX10_readType 27 = .ok (.getfield 145, 3) := by decide +kernel
theorem dX10_readType_30 : decode cX10_readType 30 = .ok (.iload_n 1, 1) := by decide +kernel
theorem dX10_readType_31 : decode cX10_readType 31 = .ok (.iadd, 1) := by decide +kernel
theorem dX10_readType_32 : decode cX10_readType 32 = .ok (.bipush 40, 2) := by decide +kernel
theorem dX10_readType_34 : decode cX10_readType 34 = .ok (.if_icmp .ne 33, 3) := by decide +kernel
theorem dX10_readType_37 : decode cX10_readType 37 = .ok (.aload_n 0, 1) := by decide +kernel
theorem dX10_readType_38 : decode cX10_readType 38 = .ok (.aload_n 0, 1) := by decide +kernel
theorem dX10_readType_39 : decode cX10_readType 39 = .ok (.invokevirtual 257, 3) := by decide +kernel
theorem dX10_readType_42 : decode cX10_readType 42 = .ok (.bipush 105, 2) := by decide +kernel
theorem dX10_readType_44 : decode cX10_readType 44 = .ok (.if_icmp .eq 12, 3) := by decide +kernel
theorem dX10_readType_47 : decode cX10_readType 47 = .ok (.aload_n 0, 1) := by decide +kernel
theorem dX10_readType_48 : decode cX10_readType 48 = .ok (.invokevirtual 257, 3) := by decide +kernel
theorem dX10_readType_51 : decode cX10_readType 51 = .ok (.bipush 40, 2) := by decide +kernel
theorem dX10_readType_53 : decode cX10_readType 53 = .ok (.if_icmp .ne 7, 3) := by decide +kernel
theorem dX10_readType_56 : decode cX10_readType 56 = .ok (.iconst 2, 1) := by decide +kernel
theorem dX10_readType_57 : decode cX10_readType 57 = .ok (.goto 4, 3) := by decide +kernel
theorem dX10_readType_60 : decode cX10_readType 60 = .ok (.iconst 1, 1) := by decide +kernel
theorem dX10_readType_61 : decode cX10_readType 61 = .ok (.putfield 254, 3) := by decide +kernel
theorem dX10_readType_64 : decode cX10_readType 64 = .ok (.goto (-57), 3) := by decide +kernel
theorem dX10_readType_67 : decode cX10_readType 67 = .ok (.iload_n 3, 1) := by decide +kernel
theorem dX10_readType_68 : decode cX10_readType 68 = .ok (.ifCond .eq 35, 3) := by decide +kernel
theorem dX10_readType_71 : decode cX10_readType 71 = .ok (.aload_n 0, 1) := by decide +kernel
theorem dX10_readType_72 : decode cX10_readType 72 = .ok (.invokevirtual 257, 3) := by decide +kernel
theorem dX10_readType_75 : decode cX10_readType 75 = .ok (.bipush 40, 2) := by decide +kernel
theorem dX10_readType_77 : decode cX10_readType 77 = .ok (.if_icmp .ne 26, 3) := by decide +kernel
theorem dX10_readType_80 : decode cX10_readType 80 = .ok (.aload_n 0, 1) := by decide +kernel
theorem dX10_readType_81 : decode cX10_readType 81 = .ok (.dup, 1) := by decide +kernel
theorem dX10_readType_82 : decode cX10_readType 82 = .ok (.getfield 251, 3) := by decide +kernel
theorem dX10_readType_85 : decode cX10_readType 85 = .ok (.iconst 1, 1) := by decide +kernel
theorem dX10_readType_86 : decode cX10_readType 86 = .ok (.iadd, 1) := by decide +kernel
theorem dX10_readType_87 : decode cX10_readType 87 = .ok (.putfield 251, 3) := by decide +kernel
theorem dX10_readType_90 : decode cX10_readType 90 = .ok (.aload_n 0, 1) := by decide +kernel
theorem dX10_readType_91 : decode cX10_readType 91 = .ok (.getfield 102, 3) := by decide +kernel
theorem dX10_readType_94 : decode cX10_readType 94 = .ok (.iload_n 1, 1) := by decide +kernel
theorem dX10_readType_95 : decode cX10_readType 95 = .ok (.iconst 0, 1) := by decide +kernel
theorem dX10_readType_96 : decode cX10_readType 96 = .ok (.iastore, 1) := by decide +kernel
theorem dX10_readType_97 : decode cX10_readType 97 = .ok (.iinc 1 1, 3) := by decide +kernel
theorem dX10_readType_100 : decode cX10_readType 100 = .ok (.goto (-93), 3) := by decide +kernel
theorem dX10_readType_103 : decode cX10_readType 103 = .ok (.iload_n 3, 1) := by decide +kernel
theorem dX10_readType_104 : decode cX10_readType 104 = .ok (.ifCond .eq 16, 3) := by decide +kernel
theorem dX10_readType_107 : decode cX10_readType 107 = .ok (.aload_n 0, 1) := by decide +kernel
theorem dX10_readType_108 : decode cX10_readType 108 = .ok (.bipush 105, 2) := by decide +kernel
theorem dX10_readType_110 : decode cX10_readType 110 = .ok (.invokevirtual 261, 3) := by decide +kernel
theorem dX10_readType_113 : decode cX10_readType 113 = .ok (.iconst 0, 1) := by decide +kernel
theorem dX10_readType_114 : decode cX10_readType 114 = .ok (.istore_n 2, 1) := by decide +kernel
theorem dX10_readType_115 : decode cX10_readType 115 = .ok (.iconst 0, 1) := by decide +kernel
theorem dX10_readType_116 : decode cX10_readType 116 = .ok (.istore_n 3, 1) := by decide +kernel
theorem dX10_readType_117 : decode cX10_readType 117 = .ok (.goto (-110), 3) := by decide +kernel
theorem dX10_readType_120 : decode cX10_readType 120 = .ok (.aload_n 0, 1) := by decide +kernel
theorem dX10_readType_121 : decode cX10_readType 121 = .ok (.getfield 102, 3) := by decide +kernel
theorem dX10_readType_124 : decode cX10_readType 124 = .ok (.iload_n 1, 1) := by decide +kernel
theorem dX10_readType_125 : decode cX10_readType 125 = .ok (.iconst 1, 1) := by decide +kernel
theorem dX10_readType_126 : decode cX10_readType 126 = .ok (.isub, 1) := by decide +kernel
theorem dX10_readType_127 : decode cX10_readType 127 = .ok (.iaload, 1) := by decide +kernel
theorem dX10_readType_128 : decode cX10_readType 128 = .ok (.ifCond .ne 32, 3) := by decide +kernel
theorem dX10_readType_131 : decode cX10_readType 131 = .ok (.aload_n 0, 1) := by decide +kernel
theorem dX10_readType_132 : decode cX10_readType 132 = .ok (.bipush 62, 2) := by decide +kernel
theorem dX10_readType_134 : decode cX10_readType 134 = .ok (.invokevirtual 261, 3) := by decide +kernel
theorem dX10_readType_137 : decode cX10_readType 137 = .ok (.aload_n 0, 1) := by decide +kernel
theorem dX10_readType_138 : decode cX10_readType 138 = .ok (.getfield 99, 3) := by decide +kernel
theorem dX10_readType_141 : decode cX10_readType 141 = .ok (.iload_n 1, 1) := by decide +kernel
theorem dX10_readType_142 : decode cX10_readType 142 = .ok (.iconst 1, 1) := by decide +kernel
theorem dX10_readType_143 : decode cX10_readType 143 = .ok (.isub, 1) := by decide +kernel
theorem dX10_readType_144 : decode cX10_readType 144 = .ok (.iload_n 2, 1) := by decide +kernel
theorem dX10_readType_145 : decode cX10_readType 145 = .ok (.iastore, 1) := by decide +kernel
theorem dX10_readType_146 : decode cX10_readType 146 = .ok (.aload_n 0, 1) := by decide +kernel
theorem dX10_readType_147 : decode cX10_readType 147 = .ok (.getfield 102, 3) := by decide +kernel
theorem dX10_readType_150 : decode cX10_readType 150 = .ok (.iload_n 1, 1) := by decide +kernel
theorem dX10_readType_151 : decode cX10_readType 151 = .ok (.iconst 1, 1) := by decide +kernel
theorem dX10_readType_152 : decode cX10_readType 152 = .ok (.isub, 1) := by decide +kernel
theorem dX10_readType_153 : decode cX10_readType 153 = .ok (.iconst 1, 1) := by decide +kernel
theorem dX10_readType_154 : decode cX10_readType 154 = .ok (.iastore, 1) := by decide +kernel
theorem dX10_readType_155 : decode cX10_readType 155 = .ok (.iconst 1, 1) := by decide +kernel
theorem dX10_readType_156 : decode cX10_readType 156 = .ok (.istore_n 3, 1) := by decide +kernel
theorem dX10_readType_157 : decode cX10_readType 157 = .ok (.goto (-150), 3) := by decide +kernel
theorem dX10_readType_160 : decode cX10_readType 160 = .ok (.aload_n 0, 1) := by decide +kernel
theorem dX10_readType_161 : decode cX10_readType 161 = .ok (.bipush 41, 2) := by decide +kernel
theorem dX10_readType_163 : decode cX10_readType 163 = .ok (.invokevirtual 261, 3) := by decide +kernel
theorem dX10_readType_166 : decode cX10_readType 166 = .ok (.iinc 1 (-1), 3) := by decide +kernel
theorem dX10_readType_169 : decode cX10_readType 169 = .ok (.aload_n 0, 1) := by decide +kernel
theorem dX10_readType_170 : decode cX10_readType 170 = .ok (.getfield 254, 3) := by decide +kernel
theorem dX10_readType_173 : decode cX10_readType 173 = .ok (.ifCond .ne 17, 3) := by decide +kernel
theorem dX10_readType_176 : decode cX10_readType 176 = .ok (.aload_n 0, 1) := by decide +kernel
theorem dX10_readType_177 : decode cX10_readType 177 = .ok (.aload_n 0, 1) := by decide +kernel
theorem dX10_readType_178 : decode cX10_readType 178 = .ok (.getfield 99, 3) := by decide +kernel
theorem dX10_readType_181 : decode cX10_readType 181 = .ok (.iload_n 1, 1) := by decide +kernel
theorem dX10_readType_182 : decode cX10_readType 182 = .ok (.iaload, 1) := by decide +kernel
theorem dX10_readType_183 : decode cX10_readType 183 = .ok (.iload_n 2, 1) := by decide +kernel
theorem dX10_readType_184 : decode cX10_readType 184 = .ok (.invokevirtual 112, 3) := by decide +kernel
theorem dX10_readType_187 : decode cX10_readType 187 = .ok (.goto 4, 3) := by decide +kernel
theorem dX10_readType_190 : decode cX10_readType 190 = .ok (.iconst 0, 1) := by decide +kernel
theorem dX10_readType_191 : decode cX10_readType 191 = .ok (.istore_n 2, 1) := by decide +kernel
theorem dX10_readType_192 : decode cX10_readType 192 = .ok (.aload_n 0, 1) := by decide +kernel
theorem dX10_readType_193 : decode cX10_readType 193 = .ok (.iload_n 2, 1) := by decide +kernel
theorem dX10_readType_194 : decode cX10_readType 194 = .ok (.bipush (-3), 2) := by decide +kernel
theorem dX10_readType_196 : decode cX10_readType 196 = .ok (.if_icmp .ne 7, 3) := by decide +kernel
theorem dX10_readType_199 : decode cX10_readType 199 = .ok (.iconst 2, 1) := by decide +kernel
theorem dX10_readType_200 : decode cX10_readType 200 = .ok (.goto 7, 3) := by decide +kernel
theorem dX10_readType_203 : decode cX10_readType 203 = .ok (.aload_n 0, 1) := by decide +kernel
theorem dX10_readType_204 : decode cX10_readType 204 = .ok (.getfield 254, 3) := by decide +kernel
theorem dX10_readType_207 : decode cX10_readType 207 = .ok (.putfield 254, 3) := by decide +kernel
theorem dX10_readType_210 : decode cX10_readType 210 = .ok (.goto (-203), 3) := by decide +kernel
theorem dX10_readType_213 : decode cX10_readType 213 = .ok (.iload_n 2, 1) := by decide +kernel
theorem dX10_readType_214 : decode cX10_readType 214 = .ok (.ireturn, 1) := by decide +kernel
theorem dX10_readNumber_0 : decode cX10_readNumber 0 = .ok (.aload_n 0, 1) := by decide +kernel
theorem dX10_readNumber_1 : decode cX10_readNumber 1 = .ok (.invokevirtual 257, 3) := by decide +kernel
theorem dX10_readNumber_4 : decode cX10_readNumber 4 = .ok (.bipush 45, 2) := by decide +kernel
theorem dX10_readNumber_6 : decode cX10_readNumber 6 = .ok (.if_icmp .ne 7, 3) := by decide +kernel
theorem dX10_readNumber_9 : decode cX10_readNumber 9 = .ok (.iconst 1, 1) := by decide +kernel
theorem dX10_readNumber_10 : decode cX10_readNumber 10 = .ok (.goto 4, 3) := by decide +kernel
theorem dX10_readNumber_13 : decode cX10_readNumber 13 = .ok (.iconst 0, 1) := by decide +kernel
theorem dX10_readNumber_14 : decode cX10_readNumber 14 = .ok (.istore_n 1, 1) := by decide +kernel
theorem dX10_readNumber_15 : decode cX10_readNumber 15 = .ok (.aload_n 0, 1) := by decide +kernel
theorem dX10_readNumber_16 : decode cX10_readNumber 16 = .ok (.dup, 1) := by decide +kernel
theorem dX10_readNumber_17 : decode cX10_readNumber 17 = .ok (.getfield 251, 3) := by decide +kernel
theorem dX10_readNumber_20 : decode cX10_readNumber 20 = .ok (.iload_n 1, 1) := by decide +kernel
theorem dX10_readNumber_21 : decode cX10_readNumber 21 = .ok (.ifCond .eq 7, 3) := by decide +kernel
theorem dX10_readNumber_24 : decode cX10_readNumber 24 = .ok (.iconst 1, 1) := by decide +kernel
theorem dX10_readNumber_25 : decode cX10_readNumber 25 = .ok (.goto 4, 3) := by decide +kernel
theorem dX10_readNumber_28 : decode cX10_readNumber 28 = .ok (.iconst 0, 1) := by decide +kernel
theorem dX10_readNumber_29 : decode cX10_readNumber 29 = .ok (.iadd, 1) := by decide +kernel
theorem dX10_readNumber_30 : decode cX10_readNumber 30 = .ok (.putfield 251, 3) := by decide +kernel
theorem dX10_readNumber_33 : decode cX10_readNumber 33 = .ok (.aload_n 0, 1) := by decide +kernel
theorem dX10_readNumber_34 : decode cX10_readNumber 34 = .ok (.invokevirtual 257, 3) := by decide +kernel
theorem dX10_readNumber_37 : decode cX10_readNumber 37 = .ok (.istore_n 2, 1) := by decide +kernel
theorem dX10_readNumber_38 : decode cX10_readNumber 38 = .ok (.iload_n 2, 1) := by decide +kernel
theorem dX10_readNumber_39 : decode cX10_readNumber 39 = .ok (.iload_n 1, 1) := by decide +kernel
theorem dX10_readNumber_40 : decode cX10_readNumber 40 = .ok (.ifCond .eq 8, 3) := by decide +kernel
theorem dX10_readNumber_43 : decode cX10_readNumber 43 = .ok (.bipush 49, 2) := by decide +kernel
theorem dX10_readNumber_45 : decode cX10_readNumber 45 = .ok (.goto 5, 3) := by decide +kernel
theorem dX10_readNumber_48 : decode cX10_readNumber 48 = .ok (.bipush 48, 2) := by decide +kernel
theorem dX10_readNumber_50 : decode cX10_readNumber 50 = .ok (.bipush 57, 2) := by decide +kernel
theorem dX10_readNumber_52 : decode cX10_readNumber 52 = .ok (.invokestatic 3, 3) := by decide +kernel
theorem dX10_readNumber_55 : decode cX10_readNumber 55 = .ok (.ifCond .ne 9, 3) := by decide +kernel
theorem dX10_readNumber_58 : decode cX10_readNumber 58 = .ok (.aload_n 0, 1) := by decide +kernel
theorem dX10_readNumber_59 : decode cX10_readNumber 59 = .ok (.iconst 1, 1) := by decide +kernel
theorem dX10_readNumber_60 : decode cX10_readNumber 60 = .ok (.putfield 254, 3) := by decide +kernel
theorem dX10_readNumber_63 : decode cX10_readNumber 63 = .ok (.return_, 1) := by decide +kernel
theorem dX10_readNumber_64 : decode cX10_readNumber 64 = .ok (.iload_n 1, 1) := by decide +kernel
theorem dX10_readNumber_65 : decode cX10_readNumber 65 = .ok (.ifCond .eq 9, 3) := by decide +kernel
theorem dX10_readNumber_68 : decode cX10_readNumber 68 = .ok (.ldc2_w 264, 3) := by decide +kernel
theorem dX10_readNumber_71 : decode cX10_readNumber 71 = .ok (.goto 6, 3) := by decide +kernel
theorem dX10_readNumber_74 : decode cX10_readNumber 74 = .ok (.ldc2_w 266, 3) := by decide +kernel
theorem dX10_readNumber_77 : decode cX10_readNumber 77 = .ok (.lstore_n 3, 1) := by decide +kernel
theorem dX10_readNumber_78 : decode cX10_readNumber 78 = .ok (.iload_n 2, 1) := by decide +kernel
theorem dX10_readNumber_79 : decode cX10_readNumber 79 = .ok (.bipush 48, 2) := by decide +kernel
theorem dX10_readNumber_81 : decode cX10_readNumber 81 = .ok (.isub, 1) := by decide +kernel
theorem dX10_readNumber_82 : decode cX10_readNumber 82 = .ok (.i2l, 1) := by decide +kernel
theorem dX10_readNumber_83 : decode cX10_readNumber 83 = .ok (.lstore 5, 2) := by decide +kernel
theorem dX10_readNumber_85 : decode cX10_readNumber 85 = .ok (.aload_n 0, 1) := by decide +kernel
theorem dX10_readNumber_86 : decode cX10_readNumber 86 = .ok (.dup, 1) := by decide +kernel
theorem dX10_readNumber_87 : decode cX10_readNumber 87 = .ok (.getfield 251, 3) := by decide +kernel
theorem dX10_readNumber_90 : decode cX10_readNumber 90 = .ok (.iconst 1, 1) := by decide +kernel
theorem dX10_readNumber_91 : decode cX10_readNumber 91 = .ok (.iadd, 1) := by decide +kernel
theorem dX10_readNumber_92 : decode cX10_readNumber 92 = .ok (.putfield 251, 3) := by decide +kernel
theorem dX10_readNumber_95 : decode cX10_readNumber 95 = .ok (.lload 5, 2) := by decide +kernel
theorem dX10_readNumber_97 : decode cX10_readNumber 97 = .ok (.lconst 0, 1) := by decide +kernel
theorem dX10_readNumber_98 : decode cX10_readNumber 98 = .ok (.lcmp, 1) := by decide +kernel
theorem dX10_readNumber_99 : decode cX10_readNumber 99 = .ok (.ifCond .le 70, 3) := by decide +kernel
theorem dX10_readNumber_102 : decode cX10_readNumber 102 = .ok (.aload_n 0, 1) := by decide +kernel
theorem dX10_readNumber_103 : decode cX10_readNumber 103 = .ok (.invokevirtual 257, 3) := by decide +kernel
theorem dX10_readNumber_106 : decode cX10_readNumber 106 = .ok (.bipush 48, 2) := by decide +kernel
theorem dX10_readNumber_108 : decode cX10_readNumber 108 = .ok (.bipush 57, 2) := by decide +kernel
theorem dX10_readNumber_110 : decode cX10_readNumber 110 = .ok (.invokestatic 3, 3) := by decide +kernel
theorem dX10_readNumber_113 : decode cX10_readNumber 113 = .ok (.ifCond .eq 56, 3) := by decide +kernel
theorem dX10_readNumber_116 : decode cX10_readNumber 116 = .ok (.aload_n 0, 1) := by decide +kernel
theorem dX10_readNumber_117 : decode cX10_readNumber 117 = .ok (.getfield 254, 3) := by decide +kernel
theorem dX10_readNumber_120 : decode cX10_readNumber 120 = .ok (.ifCond .ne 49, 3) := by decide +kernel
theorem dX10_readNumber_123 : decode cX10_readNumber 123 = .ok (.ldc2_w 234, 3) := by decide +kernel
theorem dX10_readNumber_126 : decode cX10_readNumber 126 = .ok (.lload 5, 2) := by decide +kernel
theorem dX10_readNumber_128 : decode cX10_readNumber 128 = .ok (.lmul, 1) := by decide +kernel
theorem dX10_readNumber_129 : decode cX10_readNumber 129 = .ok (.aload_n 0, 1) := by decide +kernel
theorem dX10_readNumber_130 : decode cX10_readNumber 130 = .ok (.invokevirtual 257, 3) := by decide +kernel
theorem dX10_readNumber_133 : decode cX10_readNumber 133 = .ok (.i2l, 1) := by decide +kernel
theorem dX10_readNumber_134 : decode cX10_readNumber 134 = .ok (.ladd, 1) := by decide +kernel
theorem dX10_readNumber_135 : decode cX10_readNumber 135 = .ok (.ldc2_w 268, 3) := by decide +kernel
theorem dX10_readNumber_138 : decode cX10_readNumber 138 = .ok (.lsub, 1) := by decide +kernel
theorem dX10_readNumber_139 : decode cX10_readNumber 139 = .ok (.lstore 5, 2) := by decide +kernel
theorem dX10_readNumber_141 : decode cX10_readNumber 141 = .ok (.lload 5, 2) := by decide +kernel
theorem dX10_readNumber_143 : decode cX10_readNumber 143 = .ok (.lload_n 3, 1) := by decide +kernel
theorem dX10_readNumber_144 : decode cX10_readNumber 144 = .ok (.lcmp, 1) := by decide +kernel
theorem dX10_readNumber_145 : decode cX10_readNumber 145 = .ok (.ifCond .le 11, 3) := by decide +kernel
theorem dX10_readNumber_148 : decode cX10_readNumber 148 = .ok (.aload_n 0, 1) := by decide +kernel
theorem dX10_readNumber_149 : decode cX10_readNumber 149 = .ok (.iconst 1, 1) := by decide +kernel
theorem dX10_readNumber_150 : decode cX10_readNumber 150 = .ok (.putfield 254, 3) := by decide +kernel
theorem dX10_readNumber_153 : decode cX10_readNumber 153 = .ok (.goto (-58), 3) := by decide +kernel
theorem dX10_readNumber_156 : decode cX10_readNumber 156 = .ok (.aload_n 0, 1) := by decide +kernel
theorem dX10_readNumber_157 : decode cX10_readNumber 157 = .ok (.dup, 1) := by decide +kernel
theorem dX10_readNumber_158 : decode cX10_readNumber 158 = .ok (.getfield 251, 3) := by decide +kernel
theorem dX10_readNumber_161 : decode cX10_readNumber 161 = .ok (.iconst 1, 1) := by decide +kernel
theorem dX10_readNumber_162 : decode cX10_readNumber 162 = .ok (.iadd, 1) := by decide +kernel
theorem dX10_readNumber_163 : decode cX10_readNumber 163 = .ok (.putfield 251, 3) := by decide +kernel
theorem dX10_readNumber_166 : decode cX10_readNumber 166 = .ok (.goto (-71), 3) := by decide +kernel
theorem dX10_readNumber_169 : decode cX10_readNumber 169 = .ok (.aload_n 0, 1) := by decide +kernel
theorem dX10_readNumber_170 : decode cX10_readNumber 170 = .ok (.getfield 254, 3) := by decide +kernel
theorem dX10_readNumber_173 : decode cX10_readNumber 173 = .ok (.ifCond .ne 35, 3) := by decide +kernel
theorem dX10_readNumber_176 : decode cX10_readNumber 176 = .ok (.aload_n 0, 1) := by decide +kernel
theorem dX10_readNumber_177 : decode cX10_readNumber 177 = .ok (.aload_n 0, 1) := by decide +kernel
theorem dX10_readNumber_178 : decode cX10_readNumber 178 = .ok (.iconst 0, 1) := by decide +kernel
theorem dX10_readNumber_179 : decode cX10_readNumber 179 = .ok (.iload_n 1, 1) := by decide +kernel
theorem dX10_readNumber_180 : decode cX10_readNumber 180 = .ok (.ifCond .eq 9, 3) := by decide +kernel
theorem dX10_readNumber_183 : decode cX10_readNumber 183 = .ok (.lload 5, 2) := by decide +kernel
theorem dX10_readNumber_185 : decode cX10_readNumber 185 = .ok (.lneg, 1) := by decide +kernel
theorem dX10_readNumber_186 : decode cX10_readNumber 186 = .ok (.goto 5, 3) := by decide +kernel
theorem dX10_readNumber_189 : decode cX10_readNumber 189 = .ok (.lload 5, 2) := by decide +kernel
theorem dX10_readNumber_191 : decode cX10_readNumber 191 = .ok (.l2i, 1) := by decide +kernel
theorem dX10_readNumber_192 : decode cX10_readNumber 192 = .ok (.bipush (-2), 2) := by decide +kernel
theorem dX10_readNumber_194 : decode cX10_readNumber 194 = .ok (.bipush (-2), 2) := by decide +kernel
theorem dX10_readNumber_196 : decode cX10_readNumber 196 = .ok (.bipush (-2), 2) := by decide +kernel
theorem dX10_readNumber_198 : decode cX10_readNumber 198 = .ok (.bipush (-2), 2) := by decide +kernel
theorem dX10_readNumber_200 : decode cX10_readNumber 200 = .ok (.bipush (-2), 2) := by decide +kernel
theorem dX10_readNumber_202 : decode cX10_readNumber 202 = .ok (.invokevirtual 132, 3) := by decide +kernel
theorem dX10_readNumber_205 : decode cX10_readNumber 205 = .ok (.invokevirtual 270, 3) := by decide +kernel
theorem dX10_readNumber_208 : decode cX10_readNumber 208 = .ok (.return_, 1) := by decide +kernel
theorem dX10_readBegin_0 : decode cX10_readBegin 0 = .ok (.aload_n 0, 1) := by decide +kernel
theorem dX10_readBegin_1 : decode cX10_readBegin 1 = .ok (.invokevirtual 257, 3) := by decide +kernel
theorem dX10_readBegin_4 : decode cX10_readBegin 4 = .ok (.istore_n 1, 1) := by decide +kernel
theorem dX10_readBegin_5 : decode cX10_readBegin 5 = .ok (.iload_n 1, 1) := by decide +kernel
theorem dX10_readBegin_6 : decode cX10_readBegin 6 = .ok (.bipush 97, 2) := by decide +kernel
theorem dX10_readBegin_8 : decode cX10_readBegin 8 = .ok (.bipush 122, 2) := by decide +kernel
theorem dX10_readBegin_10 : decode cX10_readBegin 10 = .ok (.invokestatic 3, 3) := by decide +kernel
theorem dX10_readBegin_13 : decode cX10_readBegin 13 = .ok (.ifCond .eq 36, 3) := by decide +kernel
theorem dX10_readBegin_16 : decode cX10_readBegin 16 = .ok (.aload_n 0, 1) := by decide +kernel
theorem dX10_readBegin_17 : decode cX10_readBegin 17 = .ok (.dup, 1) := by decide +kernel
theorem dX10_readBegin_18 : decode cX10_readBegin 18 = .ok (.getfield 251, 3) := by decide +kernel
theorem dX10_readBegin_21 : decode cX10_readBegin 21 = .ok (.iconst 1, 1) := by decide +kernel
theorem dX10_readBegin_22 : decode cX10_readBegin 22 = .ok (.iadd, 1) := by decide +kernel
theorem dX10_readBegin_23 : decode cX10_readBegin 23 = .ok (.putfield 251, 3) := by decide +kernel
theorem dX10_readBegin_26 : decode cX10_readBegin 26 = .ok (.aload_n 0, 1) := by decide +kernel
theorem dX10_readBegin_27 : decode cX10_readBegin 27 = .ok (.aload_n 0, 1) := by decide +kernel
theorem dX10_readBegin_28 : decode cX10_readBegin 28 = .ok (.iconst 1, 1) := by decide +kernel
theorem dX10_readBegin_29 : decode cX10_readBegin 29 = .ok (.iconst 0, 1) := by decide +kernel
theorem dX10_readBegin_30 : decode cX10_readBegin 30 = .ok (.iload_n 1, 1) := by decide +kernel
theorem dX10_readBegin_31 : decode cX10_readBegin 31 = .ok (.bipush 97, 2) := by decide +kernel
theorem dX10_readBegin_33 : decode cX10_readBegin 33 = .ok (.isub, 1) := by decide +kernel
theorem dX10_readBegin_34 : decode cX10_readBegin 34 = .ok (.bipush (-2), 2) := by decide +kernel
theorem dX10_readBegin_36 : decode cX10_readBegin 36 = .ok (.bipush (-2), 2) := by decide +kernel
theorem dX10_readBegin_38 : decode cX10_readBegin 38 = .ok (.bipush (-2), 2) := by decide +kernel
theorem dX10_readBegin_40 : decode cX10_readBegin 40 = .ok (.bipush (-2), 2) := by decide +kernel
theorem dX10_readBegin_42 : decode cX10_readBegin 42 = .ok (.invokevirtual 132, 3) := by decide +kernel
theorem dX10_readBegin_45 : decode cX10_readBegin 45 = .ok (.invokevirtual 270, 3) := by decide +kernel
theorem dX10_readBegin_48 : decode cX10_readBegin 48 = .ok (.return_, 1) := by decide +kernel
theorem dX10_readBegin_49 : decode cX10_readBegin 49 = .ok (.iload_n 1, 1) := by decide +kernel
theorem dX10_readBegin_50 : decode cX10_readBegin 50 = .ok (.bipush 45, 2) := by decide +kernel
theorem dX10_readBegin_52 : decode cX10_readBegin 52 = .ok (.if_icmp .eq 14, 3) := by decide +kernel
theorem dX10_readBegin_55 : decode cX10_readBegin 55 = .ok (.iload_n 1, 1) := by decide +kernel
theorem dX10_readBegin_56 : decode cX10_readBegin 56 = .ok (.bipush 48, 2) := by decide +kernel
theorem dX10_readBegin_58 : decode cX10_readBegin 58 = .ok (.bipush 57, 2) := by decide +kernel
theorem dX10_readBegin_60 : decode cX10_readBegin 60 = .ok (.invokestatic 3, 3) := by decide +kernel
theorem dX10_readBegin_63 : decode cX10_readBegin 63 = .ok (.ifCond .eq 8, 3) := by decide +kernel
theorem dX10_readBegin_66 : decode cX10_readBegin 66 = .ok (.aload_n 0, 1) := by decide +kernel
theorem dX10_readBegin_67 : decode cX10_readBegin 67 = .ok (.invokevirtual 273, 3) := by decide +kernel
theorem dX10_readBegin_70 : decode cX10_readBegin 70 = .ok (.return_, 1) := by decide +kernel
theorem dX10_readBegin_71 : decode cX10_readBegin 71 = .ok (.iload_n 1, 1) := by decide +kernel
theorem dX10_readBegin_72 : decode cX10_readBegin 72 = .ok (.bipush 92, 2) := by decide +kernel
theorem dX10_readBegin_74 : decode cX10_readBegin 74 = .ok (.if_icmp .ne 7, 3) := by decide +kernel
theorem dX10_readBegin_77 : decode cX10_readBegin 77 = .ok (.iconst 2, 1) := by decide +kernel
theorem dX10_readBegin_78 : decode cX10_readBegin 78 = .ok (.goto 36, 3) := by decide +kernel
theorem dX10_readBegin_81 : decode cX10_readBegin 81 = .ok (.iload_n 1, 1) := by decide +kernel
theorem dX10_readBegin_82 : decode cX10_readBegin 82 = .ok (.bipush 40, 2) := by decide +kernel
theorem dX10_readBegin_84 : decode cX10_readBegin 84 = .ok (.if_icmp .ne 7, 3) := by decide +kernel
theorem dX10_readBegin_87 : decode cX10_readBegin 87 = .ok (.iconst 3, 1) := by decide +kernel
theorem dX10_readBegin_88 : decode cX10_readBegin 88 = .ok (.goto 26, 3) := by decide +kernel
theorem dX10_readBegin_91 : decode cX10_readBegin 91 = .ok (.iload_n 1, 1) := by decide +kernel
theorem dX10_readBegin_92 : decode cX10_readBegin 92 = .ok (.bipush 91, 2) := by decide +kernel
theorem dX10_readBegin_94 : decode cX10_readBegin 94 = .ok (.if_icmp .ne 7, 3) := by decide +kernel
theorem dX10_readBegin_97 : decode cX10_readBegin 97 = .ok (.iconst 4, 1) := by decide +kernel
theorem dX10_readBegin_98 : decode cX10_readBegin 98 = .ok (.goto 16, 3) := by decide +kernel
theorem dX10_readBegin_101 : decode cX10_readBegin 101 = .ok (.iload_n 1, 1) := by decide +kernel
theorem dX10_readBegin_102 : decode cX10_readBegin 102 = .ok (.bipush 123, 2) := by decide +kernel
theorem dX10_readBegin_104 : decode cX10_readBegin 104 = .ok (.if_icmp .ne 8, 3) := by decide +kernel
theorem dX10_readBegin_107 : decode cX10_readBegin 107 = .ok (.bipush 6, 2) := by decide +kernel
theorem dX10_readBegin_109 : decode cX10_readBegin 109 = .ok (.goto 5, 3) := by decide +kernel
theorem dX10_readBegin_112 : decode cX10_readBegin 112 = .ok (.bipush (-2), 2) := by decide +kernel
theorem dX10_readBegin_114 : decode cX10_readBegin 114 = .ok (.istore_n 2, 1) := by decide +kernel
theorem dX10_readBegin_115 : decode cX10_readBegin 115 = .ok (.iload_n 2, 1) := by decide +kernel
theorem dX10_readBegin_116 : decode cX10_readBegin 116 = .ok (.bipush (-2), 2) := by decide +kernel
theorem dX10_readBegin_118 : decode cX10_readBegin 118 = .ok (.if_icmp .ne 9, 3) := by decide +kernel
theorem dX10_readBegin_121 : decode cX10_readBegin 121 = .ok (.aload_n 0, 1) := by decide +kernel
theorem dX10_readBegin_122 : decode cX10_readBegin 122 = .ok (.iconst 1, 1) := by decide +kernel
theorem dX10_readBegin_123 : decode cX10_readBegin 123 = .ok (.putfield 254, 3) := by decide +kernel
theorem dX10_readBegin_126 : decode cX10_readBegin 126 = .ok (.return_, 1) := by decide +kernel
theorem dX10_readBegin_127 : decode cX10_readBegin 127 = .ok (.aload_n 0, 1) := by decide +kernel
theorem dX10_readBegin_128 : decode cX10_readBegin 128 = .ok (.dup, 1) := by decide +kernel
theorem dX10_readBegin_129 : decode cX10_readBegin 129 = .ok (.getfield 251, 3) := by decide +kernel
theorem dX10_readBegin_132 : decode cX10_readBegin 132 = .ok (.iconst 1, 1) := by decide +kernel
theorem dX10_readBegin_133 : decode cX10_readBegin 133 = .ok (.iadd, 1) := by decide +kernel
theorem dX10_readBegin_134 : decode cX10_readBegin 134 = .ok (.putfield 251, 3) := by decide +kernel
theorem dX10_readBegin_137 : decode cX10_readBegin 137 = .ok (.aload_n 0, 1) := by decide +kernel
theorem dX10_readBegin_138 : decode cX10_readBegin 138 = .ok (.iload_n 2, 1) := by decide +kernel
theorem dX10_readBegin_139 : decode cX10_readBegin 139 = .ok (.invokevirtual 154, 3) := by decide +kernel
theorem dX10_readBegin_142 : decode cX10_readBegin 142 = .ok (.aload_n 0, 1) := by decide +kernel
theorem dX10_readBegin_143 : decode cX10_readBegin 143 = .ok (.getfield 145, 3) := by decide +kernel
theorem dX10_readBegin_146 : decode cX10_readBegin 146 = .ok (.iconst 1, 1) := by decide +kernel
theorem dX10_readBegin_147 : decode cX10_readBegin 147 = .ok (.isub, 1) := by decide +kernel
theorem dX10_readBegin_148 : decode cX10_readBegin 148 = .ok (.istore_n 3, 1) := by decide +kernel
theorem dX10_readBegin_149 : decode cX10_readBegin 149 = .ok (.aload_n 0, 1) := by decide +kernel
theorem dX10_readBegin_150 : decode cX10_readBegin 150 = .ok (.bipush (-2), 2) := by decide +kernel
theorem dX10_readBegin_152 : decode cX10_readBegin 152 = .ok (.putfield 151, 3) := by decide +kernel
theorem dX10_readBegin_155 : decode cX10_readBegin 155 = .ok (.iload_n 2, 1) := by decide +kernel
theorem dX10_readBegin_156 : decode cX10_readBegin 156 = .ok (.iconst 2, 1) := by decide +kernel
theorem dX10_readBegin_157 : decode cX10_readBegin 157 = .ok (.if_icmp .ne 50, 3) := by decide +kernel
theorem dX10_readBegin_160 : decode cX10_readBegin 160 = .ok (.aload_n 0, 1) := by decide +kernel
theorem dX10_readBegin_161 : decode cX10_readBegin 161 = .ok (.getfield 69, 3) := by decide +kernel
theorem dX10_readBegin_164 : decode cX10_readBegin 164 = .ok (.iload_n 3, 1) := by decide +kernel
theorem dX10_readBegin_165 : decode cX10_readBegin 165 = .ok (.aload_n 0, 1) := by decide +kernel
theorem dX10_readBegin_166 : decode cX10_readBegin 166 = .ok (.invokevirtual 276, 3) := by decide +kernel
theorem dX10_readBegin_169 : decode cX10_readBegin 169 = .ok (.iastore, 1) := by decide +kernel
theorem dX10_readBegin_170 : decode cX10_readBegin 170 = .ok (.aload_n 0, 1) := by decide +kernel
theorem dX10_readBegin_171 : decode cX10_readBegin 171 = .ok (.bipush 58, 2) := by decide +kernel
theorem dX10_readBegin_173 : decode cX10_readBegin 173 = .ok (.invokevirtual 261, 3) := by decide +kernel
theorem dX10_readBegin_176 : decode cX10_readBegin 176 = .ok (.aload_n 0, 1) := by decide +kernel
theorem dX10_readBegin_177 : decode cX10_readBegin 177 = .ok (.getfield 72, 3) := by decide +kernel
theorem dX10_readBegin_180 : decode cX10_readBegin 180 = .ok (.iload_n 3, 1) := by decide +kernel
theorem dX10_readBegin_181 : decode cX10_readBegin 181 = .ok (.aload_n 0, 1) := by decide +kernel
theorem dX10_readBegin_182 : decode cX10_readBegin 182 = .ok (.getfield 254, 3) := by decide +kernel
theorem dX10_readBegin_185 : decode cX10_readBegin 185 = .ok (.ifCond .ne 10, 3) := by decide +kernel
theorem dX10_readBegin_188 : decode cX10_readBegin 188 = .ok (.aload_n 0, 1) := by decide +kernel
theorem dX10_readBegin_189 : decode cX10_readBegin 189 = .ok (.invokevirtual 279, 3) := by decide +kernel
theorem dX10_readBegin_192 : decode cX10_readBegin 192 = .ok (.goto 5, 3) := by decide +kernel
theorem dX10_readBegin_195 : decode cX10_readBegin 195 = .ok (.bipush (-2), 2) := by decide +kernel
theorem dX10_readBegin_197 : decode cX10_readBegin 197 = .ok (.iastore, 1) := by decide +kernel
theorem dX10_readBegin_198 : decode cX10_readBegin 198 = .ok (.aload_n 0, 1) := by decide +kernel
theorem dX10_readBegin_199 : decode cX10_readBegin 199 = .ok (.bipush 46, 2) := by decide +kernel
theorem dX10_readBegin_201 : decode cX10_readBegin 201 = .ok (.invokevirtual 261, 3) := by decide +kernel
theorem dX10_readBegin_204 : decode cX10_readBegin 204 = .ok (.goto 24, 3) := by decide +kernel
theorem dX10_readBegin_207 : decode cX10_readBegin 207 = .ok (.iload_n 2, 1) := by decide +kernel
theorem dX10_readBegin_208 : decode cX10_readBegin 208 = .ok (.iconst 4, 1) := by decide +kernel
theorem dX10_readBegin_209 : decode cX10_readBegin 209 = .ok (.if_icmp .ne 19, 3) := by decide +kernel
theorem dX10_readBegin_212 : decode cX10_readBegin 212 = .ok (.aload_n 0, 1) := by decide +kernel
theorem dX10_readBegin_213 : decode cX10_readBegin 213 = .ok (.getfield 69, 3) := by decide +kernel
theorem dX10_readBegin_216 : decode cX10_readBegin 216 = .ok (.iload_n 3, 1) := by decide +kernel
theorem dX10_readBegin_217 : decode cX10_readBegin 217 = .ok (.aload_n 0, 1) := by decide +kernel
theorem dX10_readBegin_218 : decode cX10_readBegin 218 = .ok (.invokevirtual 276, 3) := by decide +kernel
theorem dX10_readBegin_221 : decode cX10_readBegin 221 = .ok (.iastore, 1) := by decide +kernel
theorem dX10_readBegin_222 : decode cX10_readBegin 222 = .ok (.aload_n 0, 1) := by decide +kernel
theorem dX10_readBegin_223 : decode cX10_readBegin 223 = .ok (.bipush 61, 2) := by decide +kernel
theorem dX10_readBegin_225 : decode cX10_readBegin 225 = .ok (.invokevirtual 261, 3) := by decide +kernel
theorem dX10_readBegin_228 : decode cX10_readBegin 228 = .ok (.return_, 1) := by decide +kernel
theorem dX10_readPart_0 : decode cX10_readPart 0 = .ok (.aload_n 0, 1) := by decide +kernel
theorem dX10_readPart_1 : decode cX10_readPart 1 = .ok (.getfield 145, 3) := by decide +kernel
theorem dX10_readPart_4 : decode cX10_readPart 4 = .ok (.iconst 1, 1) := by decide +kernel
theorem dX10_readPart_5 : decode cX10_readPart 5 = .ok (.isub, 1) := by decide +kernel
theorem dX10_readPart_6 : decode cX10_readPart 6 = .ok (.istore_n 1, 1) := by decide +kernel
theorem dX10_readPart_7 : decode cX10_readPart 7 = .ok (.aload_n 0, 1) := by decide +kernel
theorem dX10_readPart_8 : decode cX10_readPart 8 = .ok (.getfield 54, 3) := by decide +kernel
theorem dX10_readPart_11 : decode cX10_readPart 11 = .ok (.iload_n 1, 1) := by decide +kernel
theorem dX10_readPart_12 : decode cX10_readPart 12 = .ok (.iaload, 1) := by decide +kernel
theorem dX10_readPart_13 : decode cX10_readPart 13 = .ok (.istore_n 2, 1) := by decide +kernel
theorem dX10_readPart_14 : decode cX10_readPart 14 = .ok (.aload_n 0, 1) := by decide +kernel
theorem dX10_readPart_15 : decode cX10_readPart 15 = .ok (.getfield 57, 3) := by decide +kernel
theorem dX10_readPart_18 : decode cX10_readPart 18 = .ok (.iload_n 1, 1) := by decide +kernel
theorem dX10_readPart_19 : decode cX10_readPart 19 = .ok (.iaload, 1) := by decide +kernel
theorem dX10_readPart_20 : decode cX10_readPart 20 = .ok (.istore_n 3, 1) := by decide +kernel
