theorem dX10_told_101 : decode cX10_told 101 = .ok (.getfield 39, 3) := by decide +kernel
theorem dX10_told_104 : decode cX10_told 104 = .ok (.iload_n 1, 1) := by decide +kernel
theorem dX10_told_105 : decode cX10_told 105 = .ok (.iaload, 1) := by decide +kernel
theorem dX10_told_106 : decode cX10_told 106 = .ok (.i2l, 1) := by decide +kernel
theorem dX10_told_107 : decode cX10_told 107 = .ok (.lreturn, 1) := by decide +kernel
theorem dX10_told_108 : decode cX10_told 108 = .ok (.aload_n 0, 1) := by decide +kernel
theorem dX10_told_109 : decode cX10_told 109 = .ok (.iload_n 1, 1) := by decide +kernel
theorem dX10_told_110 : decode cX10_told 110 = .ok (.iload_n 2, 1) := by decide +kernel
theorem dX10_told_111 : decode cX10_told 111 = .ok (.bipush 6, 2) := by decide +kernel
theorem dX10_told_113 : decode cX10_told 113 = .ok (.isub, 1) := by decide +kernel
theorem dX10_told_114 : decode cX10_told 114 = .ok (.invokevirtual 126, 3) := by decide +kernel
theorem dX10_told_117 : decode cX10_told 117 = .ok (.i2l, 1) := by decide +kernel
theorem dX10_told_118 : decode cX10_told 118 = .ok (.lreturn, 1) := by decide +kernel
theorem dX10_free_0 : decode cX10_free 0 = .ok (.aload_n 0, 1) := by decide +kernel
theorem dX10_free_1 : decode cX10_free 1 = .ok (.iload_n 1, 1) := by decide +kernel
theorem dX10_free_2 : decode cX10_free 2 = .ok (.invokevirtual 136, 3) := by decide +kernel
theorem dX10_free_5 : decode cX10_free 5 = .ok (.ifCond .ne 5, 3) := by decide +kernel
theorem dX10_free_8 : decode cX10_free 8 = .ok (.iconst (-1), 1) := by decide +kernel
theorem dX10_free_9 : decode cX10_free 9 = .ok (.ireturn, 1) := by decide +kernel
theorem dX10_free_10 : decode cX10_free 10 = .ok (.iconst 0, 1) := by decide +kernel
theorem dX10_free_11 : decode cX10_free 11 = .ok (.istore_n 2, 1) := by decide +kernel
theorem dX10_free_12 : decode cX10_free 12 = .ok (.iconst 0, 1) := by decide +kernel
theorem dX10_free_13 : decode cX10_free 13 = .ok (.istore_n 3, 1) := by decide +kernel
theorem dX10_free_14 : decode cX10_free 14 = .ok (.iload_n 3, 1) := by decide +kernel
theorem dX10_free_15 : decode cX10_free 15 = .ok (.bipush 26, 2) := by decide +kernel
theorem dX10_free_17 : decode cX10_free 17 = .ok (.if_icmp .ge 28, 3) := by decide +kernel
theorem dX10_free_20 : decode cX10_free 20 = .ok (.iload_n 2, 1) := by decide +kernel
theorem dX10_free_21 : decode cX10_free 21 = .ok (.aload_n 0, 1) := by decide +kernel
theorem dX10_free_22 : decode cX10_free 22 = .ok (.iload_n 1, 1) := by decide +kernel
theorem dX10_free_23 : decode cX10_free 23 = .ok (.iload_n 3, 1) := by decide +kernel
theorem dX10_free_24 : decode cX10_free 24 = .ok (.invokevirtual 141, 3) := by decide +kernel
theorem dX10_free_27 : decode cX10_free 27 = .ok (.ifCond .eq 9, 3) := by decide +kernel
theorem dX10_free_30 : decode cX10_free 30 = .ok (.iconst 1, 1) := by decide +kernel
theorem dX10_free_31 : decode cX10_free 31 = .ok (.iload_n 3, 1) := by decide +kernel
theorem dX10_free_32 : decode cX10_free 32 = .ok (.ishl, 1) := by decide +kernel
theorem dX10_free_33 : decode cX10_free 33 = .ok (.goto 4, 3) := by decide +kernel
theorem dX10_free_36 : decode cX10_free 36 = .ok (.iconst 0, 1) := by decide +kernel
theorem dX10_free_37 : decode cX10_free 37 = .ok (.iadd, 1) := by decide +kernel
theorem dX10_free_38 : decode cX10_free 38 = .ok (.istore_n 2, 1) := by decide +kernel
theorem dX10_free_39 : decode cX10_free 39 = .ok (.iinc 3 1, 3) := by decide +kernel
theorem dX10_free_42 : decode cX10_free 42 = .ok (.goto (-28), 3) := by decide +kernel
theorem dX10_free_45 : decode cX10_free 45 = .ok (.iload_n 2, 1) := by decide +kernel
theorem dX10_free_46 : decode cX10_free 46 = .ok (.ireturn, 1) := by decide +kernel
theorem dX10_uses_0 : decode cX10_uses 0 = .ok (.aload_n 0, 1) := by decide +kernel
theorem dX10_uses_1 : decode cX10_uses 1 = .ok (.iload_n 1, 1) := by decide +kernel
theorem dX10_uses_2 : decode cX10_uses 2 = .ok (.invokevirtual 136, 3) := by decide +kernel
theorem dX10_uses_5 : decode cX10_uses 5 = .ok (.ifCond .eq 19, 3) := by decide +kernel
theorem dX10_uses_8 : decode cX10_uses 8 = .ok (.iload_n 2, 1) := by decide +kernel
theorem dX10_uses_9 : decode cX10_uses 9 = .ok (.invokestatic 116, 3) := by decide +kernel
theorem dX10_uses_12 : decode cX10_uses 12 = .ok (.ifCond .eq 12, 3) := by decide +kernel
theorem dX10_uses_15 : decode cX10_uses 15 = .ok (.aload_n 0, 1) := by decide +kernel
theorem dX10_uses_16 : decode cX10_uses 16 = .ok (.iload_n 1, 1) := by decide +kernel
theorem dX10_uses_17 : decode cX10_uses 17 = .ok (.iload_n 2, 1) := by decide +kernel
theorem dX10_uses_18 : decode cX10_uses 18 = .ok (.invokevirtual 129, 3) := by decide +kernel
theorem dX10_uses_21 : decode cX10_uses 21 = .ok (.goto 4, 3) := by decide +kernel
theorem dX10_uses_24 : decode cX10_uses 24 = .ok (.iconst (-1), 1) := by decide +kernel
theorem dX10_uses_25 : decode cX10_uses 25 = .ok (.ireturn, 1) := by decide +kernel
theorem dX10_push_0 : decode cX10_push 0 = .ok (.aload_n 0, 1) := by decide +kernel
theorem dX10_push_1 : decode cX10_push 1 = .ok (.getfield 54, 3) := by decide +kernel
theorem dX10_push_4 : decode cX10_push 4 = .ok (.aload_n 0, 1) := by decide +kernel
theorem dX10_push_5 : decode cX10_push 5 = .ok (.getfield 145, 3) := by decide +kernel
theorem dX10_push_8 : decode cX10_push 8 = .ok (.iload_n 1, 1) := by decide +kernel
theorem dX10_push_9 : decode cX10_push 9 = .ok (.iastore, 1) := by decide +kernel
theorem dX10_push_10 : decode cX10_push 10 = .ok (.aload_n 0, 1) := by decide +kernel
theorem dX10_push_11 : decode cX10_push 11 = .ok (.getfield 57, 3) := by decide +kernel
theorem dX10_push_14 : decode cX10_push 14 = .ok (.aload_n 0, 1) := by decide +kernel
theorem dX10_push_15 : decode cX10_push 15 = .ok (.getfield 145, 3) := by decide +kernel
theorem dX10_push_18 : decode cX10_push 18 = .ok (.iconst 0, 1) := by decide +kernel
theorem dX10_push_19 : decode cX10_push 19 = .ok (.iastore, 1) := by decide +kernel
theorem dX10_push_20 : decode cX10_push 20 = .ok (.aload_n 0, 1) := by decide +kernel
theorem dX10_push_21 : decode cX10_push 21 = .ok (.getfield 60, 3) := by decide +kernel
theorem dX10_push_24 : decode cX10_push 24 = .ok (.aload_n 0, 1) := by decide +kernel
theorem dX10_push_25 : decode cX10_push 25 = .ok (.getfield 145, 3) := by decide +kernel
theorem dX10_push_28 : decode cX10_push 28 = .ok (.bipush (-2), 2) := by decide +kernel
theorem dX10_push_30 : decode cX10_push 30 = .ok (.iastore, 1) := by decide +kernel
theorem dX10_push_31 : decode cX10_push 31 = .ok (.aload_n 0, 1) := by decide +kernel
theorem dX10_push_32 : decode cX10_push 32 = .ok (.getfield 63, 3) := by decide +kernel
theorem dX10_push_35 : decode cX10_push 35 = .ok (.aload_n 0, 1) := by decide +kernel
theorem dX10_push_36 : decode cX10_push 36 = .ok (.getfield 145, 3) := by decide +kernel
theorem dX10_push_39 : decode cX10_push 39 = .ok (.bipush (-2), 2) := by decide +kernel
theorem dX10_push_41 : decode cX10_push 41 = .ok (.iastore, 1) := by decide +kernel
theorem dX10_push_42 : decode cX10_push 42 = .ok (.aload_n 0, 1) := by decide +kernel
theorem dX10_push_43 : decode cX10_push 43 = .ok (.getfield 66, 3) := by decide +kernel
theorem dX10_push_46 : decode cX10_push 46 = .ok (.aload_n 0, 1) := by decide +kernel
theorem dX10_push_47 : decode cX10_push 47 = .ok (.getfield 145, 3) := by decide +kernel
theorem dX10_push_50 : decode cX10_push 50 = .ok (.bipush (-2), 2) := by decide +kernel
theorem dX10_push_52 : decode cX10_push 52 = .ok (.iastore, 1) := by decide +kernel
theorem dX10_push_53 : decode cX10_push 53 = .ok (.aload_n 0, 1) := by decide +kernel
theorem dX10_push_54 : decode cX10_push 54 = .ok (.dup, 1) := by decide +kernel
theorem dX10_push_55 : decode cX10_push 55 = .ok (.getfield 145, 3) := by decide +kernel
theorem dX10_push_58 : decode cX10_push 58 = .ok (.iconst 1, 1) := by decide +kernel
theorem dX10_push_59 : decode cX10_push 59 = .ok (.iadd, 1) := by decide +kernel
theorem dX10_push_60 : decode cX10_push 60 = .ok (.putfield 145, 3) := by decide +kernel
theorem dX10_push_63 : decode cX10_push 63 = .ok (.return_, 1) := by decide +kernel
theorem dX10_faults_0 : decode cX10_faults 0 = .ok (.aload_n 0, 1) := by decide +kernel
theorem dX10_faults_1 : decode cX10_faults 1 = .ok (.iload_n 1, 1) := by decide +kernel
theorem dX10_faults_2 : decode cX10_faults 2 = .ok (.putfield 148, 3) := by decide +kernel
theorem dX10_faults_5 : decode cX10_faults 5 = .ok (.aload_n 0, 1) := by decide +kernel
theorem dX10_faults_6 : decode cX10_faults 6 = .ok (.iload_n 2, 1) := by decide +kernel
theorem dX10_faults_7 : decode cX10_faults 7 = .ok (.putfield 78, 3) := by decide +kernel
theorem dX10_faults_10 : decode cX10_faults 10 = .ok (.aload_n 0, 1) := by decide +kernel
theorem dX10_faults_11 : decode cX10_faults 11 = .ok (.bipush (-2), 2) := by decide +kernel
theorem dX10_faults_13 : decode cX10_faults 13 = .ok (.putfield 151, 3) := by decide +kernel
theorem dX10_faults_16 : decode cX10_faults 16 = .ok (.return_, 1) := by decide +kernel
theorem dX10_binds_0 : decode cX10_binds 0 = .ok (.aload_n 0, 1) := by decide +kernel
theorem dX10_binds_1 : decode cX10_binds 1 = .ok (.getfield 66, 3) := by decide +kernel
theorem dX10_binds_4 : decode cX10_binds 4 = .ok (.iload_n 1, 1) := by decide +kernel
theorem dX10_binds_5 : decode cX10_binds 5 = .ok (.aload_n 0, 1) := by decide +kernel
theorem dX10_binds_6 : decode cX10_binds 6 = .ok (.getfield 75, 3) := by decide +kernel
theorem dX10_binds_9 : decode cX10_binds 9 = .ok (.iload_n 2, 1) := by decide +kernel
theorem dX10_binds_10 : decode cX10_binds 10 = .ok (.iaload, 1) := by decide +kernel
theorem dX10_binds_11 : decode cX10_binds 11 = .ok (.iastore, 1) := by decide +kernel
theorem dX10_binds_12 : decode cX10_binds 12 = .ok (.aload_n 0, 1) := by decide +kernel
theorem dX10_binds_13 : decode cX10_binds 13 = .ok (.getfield 75, 3) := by decide +kernel
theorem dX10_binds_16 : decode cX10_binds 16 = .ok (.iload_n 2, 1) := by decide +kernel
theorem dX10_binds_17 : decode cX10_binds 17 = .ok (.iload_n 3, 1) := by decide +kernel
theorem dX10_binds_18 : decode cX10_binds 18 = .ok (.iastore, 1) := by decide +kernel
theorem dX10_binds_19 : decode cX10_binds 19 = .ok (.return_, 1) := by decide +kernel
theorem dX10_typeOfNumbers_0 : decode cX10_typeOfNumbers 0 = .ok (.aload_n 0, 1) := by decide +kernel
theorem dX10_typeOfNumbers_1 : decode cX10_typeOfNumbers 1 = .ok (.getfield 30, 3) := by decide +kernel
theorem dX10_typeOfNumbers_4 : decode cX10_typeOfNumbers 4 = .ok (.iload_n 2, 1) := by decide +kernel
theorem dX10_typeOfNumbers_5 : decode cX10_typeOfNumbers 5 = .ok (.iaload, 1) := by decide +kernel
theorem dX10_typeOfNumbers_6 : decode cX10_typeOfNumbers 6 = .ok (.bipush 6, 2) := by decide +kernel
theorem dX10_typeOfNumbers_8 : decode cX10_typeOfNumbers 8 = .ok (.if_icmp .ne 7, 3) := by decide +kernel
theorem dX10_typeOfNumbers_11 : decode cX10_typeOfNumbers 11 = .ok (.iconst 1, 1) := by decide +kernel
theorem dX10_typeOfNumbers_12 : decode cX10_typeOfNumbers 12 = .ok (.goto 4, 3) := by decide +kernel
theorem dX10_typeOfNumbers_15 : decode cX10_typeOfNumbers 15 = .ok (.iconst 0, 1) := by decide +kernel
theorem dX10_typeOfNumbers_16 : decode cX10_typeOfNumbers 16 = .ok (.istore 4, 2) := by decide +kernel
theorem dX10_typeOfNumbers_18 : decode cX10_typeOfNumbers 18 = .ok (.iload_n 3, 1) := by decide +kernel
theorem dX10_typeOfNumbers_19 : decode cX10_typeOfNumbers 19 = .ok (.ifCond .ne 16, 3) := by decide +kernel
theorem dX10_typeOfNumbers_22 : decode cX10_typeOfNumbers 22 = .ok (.aload_n 0, 1) := by decide +kernel
theorem dX10_typeOfNumbers_23 : decode cX10_typeOfNumbers 23 = .ok (.aload_n 0, 1) := by decide +kernel
theorem dX10_typeOfNumbers_24 : decode cX10_typeOfNumbers 24 = .ok (.iload_n 2, 1) := by decide +kernel
theorem dX10_typeOfNumbers_25 : decode cX10_typeOfNumbers 25 = .ok (.iconst 0, 1) := by decide +kernel
theorem dX10_typeOfNumbers_26 : decode cX10_typeOfNumbers 26 = .ok (.invokevirtual 126, 3) := by decide +kernel
theorem dX10_typeOfNumbers_29 : decode cX10_typeOfNumbers 29 = .ok (.invokevirtual 154, 3) := by decide +kernel
theorem dX10_typeOfNumbers_32 : decode cX10_typeOfNumbers 32 = .ok (.goto 136, 3) := by decide +kernel
theorem dX10_typeOfNumbers_35 : decode cX10_typeOfNumbers 35 = .ok (.iload_n 3, 1) := by decide +kernel
theorem dX10_typeOfNumbers_36 : decode cX10_typeOfNumbers 36 = .ok (.iconst 1, 1) := by decide +kernel
theorem dX10_typeOfNumbers_37 : decode cX10_typeOfNumbers 37 = .ok (.if_icmp .ne 37, 3) := by decide +kernel
theorem dX10_typeOfNumbers_40 : decode cX10_typeOfNumbers 40 = .ok (.aload_n 0, 1) := by decide +kernel
theorem dX10_typeOfNumbers_41 : decode cX10_typeOfNumbers 41 = .ok (.getfield 151, 3) := by decide +kernel
theorem dX10_typeOfNumbers_44 : decode cX10_typeOfNumbers 44 = .ok (.ifCond .eq 17, 3) := by decide +kernel
theorem dX10_typeOfNumbers_47 : decode cX10_typeOfNumbers 47 = .ok (.aload_n 0, 1) := by decide +kernel
theorem dX10_typeOfNumbers_48 : decode cX10_typeOfNumbers 48 = .ok (.iconst 3, 1) := by decide +kernel
theorem dX10_typeOfNumbers_49 : decode cX10_typeOfNumbers 49 = .ok (.aload_n 0, 1) := by decide +kernel
theorem dX10_typeOfNumbers_50 : decode cX10_typeOfNumbers 50 = .ok (.iload_n 2, 1) := by decide +kernel
theorem dX10_typeOfNumbers_51 : decode cX10_typeOfNumbers 51 = .ok (.iconst 0, 1) := by decide +kernel
theorem dX10_typeOfNumbers_52 : decode cX10_typeOfNumbers 52 = .ok (.invokevirtual 126, 3) := by decide +kernel
theorem dX10_typeOfNumbers_55 : decode cX10_typeOfNumbers 55 = .ok (.invokevirtual 158, 3) := by decide +kernel
theorem dX10_typeOfNumbers_58 : decode cX10_typeOfNumbers 58 = .ok (.goto 110, 3) := by decide +kernel
theorem dX10_typeOfNumbers_61 : decode cX10_typeOfNumbers 61 = .ok (.aload_n 0, 1) := by decide +kernel
theorem dX10_typeOfNumbers_62 : decode cX10_typeOfNumbers 62 = .ok (.aload_n 0, 1) := by decide +kernel
theorem dX10_typeOfNumbers_63 : decode cX10_typeOfNumbers 63 = .ok (.iload_n 2, 1) := by decide +kernel
theorem dX10_typeOfNumbers_64 : decode cX10_typeOfNumbers 64 = .ok (.iconst 1, 1) := by decide +kernel
theorem dX10_typeOfNumbers_65 : decode cX10_typeOfNumbers 65 = .ok (.invokevirtual 126, 3) := by decide +kernel
theorem dX10_typeOfNumbers_68 : decode cX10_typeOfNumbers 68 = .ok (.invokevirtual 154, 3) := by decide +kernel
theorem dX10_typeOfNumbers_71 : decode cX10_typeOfNumbers 71 = .ok (.goto 97, 3) := by decide +kernel
theorem dX10_typeOfNumbers_74 : decode cX10_typeOfNumbers 74 = .ok (.iload 4, 2) := by decide +kernel
theorem dX10_typeOfNumbers_76 : decode cX10_typeOfNumbers 76 = .ok (.ifCond .eq 31, 3) := by decide +kernel
theorem dX10_typeOfNumbers_79 : decode cX10_typeOfNumbers 79 = .ok (.iload_n 3, 1) := by decide +kernel
theorem dX10_typeOfNumbers_80 : decode cX10_typeOfNumbers 80 = .ok (.iconst 2, 1) := by decide +kernel
theorem dX10_typeOfNumbers_81 : decode cX10_typeOfNumbers 81 = .ok (.if_icmp .ne 26, 3) := by decide +kernel
theorem dX10_typeOfNumbers_84 : decode cX10_typeOfNumbers 84 = .ok (.aload_n 0, 1) := by decide +kernel
theorem dX10_typeOfNumbers_85 : decode cX10_typeOfNumbers 85 = .ok (.getfield 63, 3) := by decide +kernel
theorem dX10_typeOfNumbers_88 : decode cX10_typeOfNumbers 88 = .ok (.iload_n 1, 1) := by decide +kernel
theorem dX10_typeOfNumbers_89 : decode cX10_typeOfNumbers 89 = .ok (.aload_n 0, 1) := by decide +kernel
theorem dX10_typeOfNumbers_90 : decode cX10_typeOfNumbers 90 = .ok (.getfield 151, 3) := by decide +kernel
theorem dX10_typeOfNumbers_93 : decode cX10_typeOfNumbers 93 = .ok (.iastore, 1) := by decide +kernel
theorem dX10_typeOfNumbers_94 : decode cX10_typeOfNumbers 94 = .ok (.aload_n 0, 1) := by decide +kernel
theorem dX10_typeOfNumbers_95 : decode cX10_typeOfNumbers 95 = .ok (.aload_n 0, 1) := by decide +kernel
theorem dX10_typeOfNumbers_96 : decode cX10_typeOfNumbers 96 = .ok (.iload_n 2, 1) := by decide +kernel
theorem dX10_typeOfNumbers_97 : decode cX10_typeOfNumbers 97 = .ok (.iconst 2, 1) := by decide +kernel
theorem dX10_typeOfNumbers_98 : decode cX10_typeOfNumbers 98 = .ok (.invokevirtual 126, 3) := by decide +kernel
theorem dX10_typeOfNumbers_101 : decode cX10_typeOfNumbers 101 = .ok (.invokevirtual 154, 3) := by decide +kernel
theorem dX10_typeOfNumbers_104 : decode cX10_typeOfNumbers 104 = .ok (.goto 64, 3) := by decide +kernel
theorem dX10_typeOfNumbers_107 : decode cX10_typeOfNumbers 107 = .ok (.iload 4, 2) := by decide +kernel
theorem dX10_typeOfNumbers_109 : decode cX10_typeOfNumbers 109 = .ok (.ifCond .eq 19, 3) := by decide +kernel
theorem dX10_typeOfNumbers_112 : decode cX10_typeOfNumbers 112 = .ok (.aload_n 0, 1) := by decide +kernel
theorem dX10_typeOfNumbers_113 : decode cX10_typeOfNumbers 113 = .ok (.getfield 151, 3) := by decide +kernel
theorem dX10_typeOfNumbers_116 : decode cX10_typeOfNumbers 116 = .ok (.aload_n 0, 1) := by decide +kernel
theorem dX10_typeOfNumbers_117 : decode cX10_typeOfNumbers 117 = .ok (.getfield 63, 3) := by decide +kernel
theorem dX10_typeOfNumbers_120 : decode cX10_typeOfNumbers 120 = .ok (.iload_n 1, 1) := by decide +kernel
theorem dX10_typeOfNumbers_121 : decode cX10_typeOfNumbers 121 = .ok (.iaload, 1) := by decide +kernel
theorem dX10_typeOfNumbers_122 : decode cX10_typeOfNumbers 122 = .ok (.if_icmp .eq 36, 3) := by decide +kernel
theorem dX10_typeOfNumbers_125 : decode cX10_typeOfNumbers 125 = .ok (.goto 10, 3) := by decide +kernel
theorem dX10_typeOfNumbers_128 : decode cX10_typeOfNumbers 128 = .ok (.aload_n 0, 1) := by decide +kernel
theorem dX10_typeOfNumbers_129 : decode cX10_typeOfNumbers 129 = .ok (.getfield 151, 3) := by decide +kernel
theorem dX10_typeOfNumbers_132 : decode cX10_typeOfNumbers 132 = .ok (.ifCond .eq 26, 3) := by decide +kernel
theorem dX10_typeOfNumbers_135 : decode cX10_typeOfNumbers 135 = .ok (.aload_n 0, 1) := by decide +kernel
theorem dX10_typeOfNumbers_136 : decode cX10_typeOfNumbers 136 = .ok (.iconst 3, 1) := by decide +kernel
theorem dX10_typeOfNumbers_137 : decode cX10_typeOfNumbers 137 = .ok (.aload_n 0, 1) := by decide +kernel
theorem dX10_typeOfNumbers_138 : decode cX10_typeOfNumbers 138 = .ok (.iload_n 2, 1) := by decide +kernel
theorem dX10_typeOfNumbers_139 : decode cX10_typeOfNumbers 139 = .ok (.iload 4, 2) := by decide +kernel
theorem dX10_typeOfNumbers_141 : decode cX10_typeOfNumbers 141 = .ok (.ifCond .eq 7, 3) := by decide +kernel
theorem dX10_typeOfNumbers_144 : decode cX10_typeOfNumbers 144 = .ok (.iconst 2, 1) := by decide +kernel
theorem dX10_typeOfNumbers_145 : decode cX10_typeOfNumbers 145 = .ok (.goto 4, 3) := by decide +kernel
theorem dX10_typeOfNumbers_148 : decode cX10_typeOfNumbers 148 = .ok (.iconst 1, 1) := by decide +kernel
theorem dX10_typeOfNumbers_149 : decode cX10_typeOfNumbers 149 = .ok (.invokevirtual 126, 3) := by decide +kernel
theorem dX10_typeOfNumbers_152 : decode cX10_typeOfNumbers 152 = .ok (.invokevirtual 158, 3) := by decide +kernel
theorem dX10_typeOfNumbers_155 : decode cX10_typeOfNumbers 155 = .ok (.goto 13, 3) := by decide +kernel
theorem dX10_typeOfNumbers_158 : decode cX10_typeOfNumbers 158 = .ok (.aload_n 0, 1) := by decide +kernel
theorem dX10_typeOfNumbers_159 : decode cX10_typeOfNumbers 159 = .ok (.dup, 1) := by decide +kernel
theorem dX10_typeOfNumbers_160 : decode cX10_typeOfNumbers 160 = .ok (.getfield 145, 3) := by decide +kernel
theorem dX10_typeOfNumbers_163 : decode cX10_typeOfNumbers 163 = .ok (.iconst 1, 1) := by decide +kernel
theorem dX10_typeOfNumbers_164 : decode cX10_typeOfNumbers 164 = .ok (.isub, 1) := by decide +kernel
theorem dX10_typeOfNumbers_165 : decode cX10_typeOfNumbers 165 = .ok (.putfield 145, 3) := by decide +kernel
theorem dX10_typeOfNumbers_168 : decode cX10_typeOfNumbers 168 = .ok (.return_, 1) := by decide +kernel
theorem dX10_typeOfCall_0 : decode cX10_typeOfCall 0 = .ok (.iload_n 3, 1) := by decide +kernel
theorem dX10_typeOfCall_1 : decode cX10_typeOfCall 1 = .ok (.ifCond .ne 16, 3) := by decide +kernel
theorem dX10_typeOfCall_4 : decode cX10_typeOfCall 4 = .ok (.aload_n 0, 1) := by decide +kernel
theorem dX10_typeOfCall_5 : decode cX10_typeOfCall 5 = .ok (.aload_n 0, 1) := by decide +kernel
theorem dX10_typeOfCall_6 : decode cX10_typeOfCall 6 = .ok (.iload_n 2, 1) := by decide +kernel
theorem dX10_typeOfCall_7 : decode cX10_typeOfCall 7 = .ok (.iconst 0, 1) := by decide +kernel
theorem dX10_typeOfCall_8 : decode cX10_typeOfCall 8 = .ok (.invokevirtual 126, 3) := by decide +kernel
theorem dX10_typeOfCall_11 : decode cX10_typeOfCall 11 = .ok (.invokevirtual 154, 3) := by decide +kernel
theorem dX10_typeOfCall_14 : decode cX10_typeOfCall 14 = .ok (.goto 109, 3) := by decide +kernel
theorem dX10_typeOfCall_17 : decode cX10_typeOfCall 17 = .ok (.iload_n 3, 1) := by decide +kernel
theorem dX10_typeOfCall_18 : decode cX10_typeOfCall 18 = .ok (.iconst 1, 1) := by decide +kernel
theorem dX10_typeOfCall_19 : decode cX10_typeOfCall 19 = .ok (.if_icmp .ne 47, 3) := by decide +kernel
theorem dX10_typeOfCall_22 : decode cX10_typeOfCall 22 = .ok (.aload_n 0, 1) := by decide +kernel
theorem dX10_typeOfCall_23 : decode cX10_typeOfCall 23 = .ok (.getfield 60, 3) := by decide +kernel
theorem dX10_typeOfCall_26 : decode cX10_typeOfCall 26 = .ok (.iload_n 1, 1) := by decide +kernel
theorem dX10_typeOfCall_27 : decode cX10_typeOfCall 27 = .ok (.aload_n 0, 1) := by decide +kernel
theorem dX10_typeOfCall_28 : decode cX10_typeOfCall 28 = .ok (.getfield 151, 3) := by decide +kernel
theorem dX10_typeOfCall_31 : decode cX10_typeOfCall 31 = .ok (.iastore, 1) := by decide +kernel
theorem dX10_typeOfCall_32 : decode cX10_typeOfCall 32 = .ok (.aload_n 0, 1) := by decide +kernel
theorem dX10_typeOfCall_33 : decode cX10_typeOfCall 33 = .ok (.getfield 151, 3) := by decide +kernel
theorem dX10_typeOfCall_36 : decode cX10_typeOfCall 36 = .ok (.ifCond .ne 17, 3) := by decide +kernel
theorem dX10_typeOfCall_39 : decode cX10_typeOfCall 39 = .ok (.aload_n 0, 1) := by decide +kernel
theorem dX10_typeOfCall_40 : decode cX10_typeOfCall 40 = .ok (.iconst 2, 1) := by decide +kernel
theorem dX10_typeOfCall_41 : decode cX10_typeOfCall 41 = .ok (.aload_n 0, 1) := by decide +kernel
theorem dX10_typeOfCall_42 : decode cX10_typeOfCall 42 = .ok (.iload_n 2, 1) := by decide +kernel
theorem dX10_typeOfCall_43 : decode cX10_typeOfCall 43 = .ok (.iconst 0, 1) := by decide +kernel
theorem dX10_typeOfCall_44 : decode cX10_typeOfCall 44 = .ok (.invokevirtual 126, 3) := by decide +kernel
theorem dX10_typeOfCall_47 : decode cX10_typeOfCall 47 = .ok (.invokevirtual 158, 3) := by decide +kernel
theorem dX10_typeOfCall_50 : decode cX10_typeOfCall 50 = .ok (.goto 73, 3) := by decide +kernel
theorem dX10_typeOfCall_53 : decode cX10_typeOfCall 53 = .ok (.aload_n 0, 1) := by decide +kernel
theorem dX10_typeOfCall_54 : decode cX10_typeOfCall 54 = .ok (.aload_n 0, 1) := by decide +kernel
theorem dX10_typeOfCall_55 : decode cX10_typeOfCall 55 = .ok (.iload_n 2, 1) := by decide +kernel
theorem dX10_typeOfCall_56 : decode cX10_typeOfCall 56 = .ok (.iconst 1, 1) := by decide +kernel
theorem dX10_typeOfCall_57 : decode cX10_typeOfCall 57 = .ok (.invokevirtual 126, 3) := by decide +kernel
theorem dX10_typeOfCall_60 : decode cX10_typeOfCall 60 = .ok (.invokevirtual 154, 3) := by decide +kernel
theorem dX10_typeOfCall_63 : decode cX10_typeOfCall 63 = .ok (.goto 60, 3) := by decide +kernel
theorem dX10_typeOfCall_66 : decode cX10_typeOfCall 66 = .ok (.aload_n 0, 1) := by decide +kernel
theorem dX10_typeOfCall_67 : decode cX10_typeOfCall 67 = .ok (.getfield 151, 3) := by decide +kernel
theorem dX10_typeOfCall_70 : decode cX10_typeOfCall 70 = .ok (.aload_n 0, 1) := by decide +kernel
theorem dX10_typeOfCall_71 : decode cX10_typeOfCall 71 = .ok (.getfield 17, 3) := by decide +kernel
theorem dX10_typeOfCall_74 : decode cX10_typeOfCall 74 = .ok (.aload_n 0, 1) := by decide +kernel
theorem dX10_typeOfCall_75 : decode cX10_typeOfCall 75 = .ok (.getfield 60, 3) := by decide +kernel
theorem dX10_typeOfCall_78 : decode cX10_typeOfCall 78 = .ok (.iload_n 1, 1) := by decide +kernel
theorem dX10_typeOfCall_79 : decode cX10_typeOfCall 79 = .ok (.iaload, 1) := by decide +kernel
theorem dX10_typeOfCall_80 : decode cX10_typeOfCall 80 = .ok (.iaload, 1) := by decide +kernel
theorem dX10_typeOfCall_81 : decode cX10_typeOfCall 81 = .ok (.if_icmp .eq 17, 3) := by decide +kernel
theorem dX10_typeOfCall_84 : decode cX10_typeOfCall 84 = .ok (.aload_n 0, 1) := by decide +kernel
theorem dX10_typeOfCall_85 : decode cX10_typeOfCall 85 = .ok (.iconst 3, 1) := by decide +kernel
theorem dX10_typeOfCall_86 : decode cX10_typeOfCall 86 = .ok (.aload_n 0, 1) := by decide +kernel
theorem dX10_typeOfCall_87 : decode cX10_typeOfCall 87 = .ok (.iload_n 2, 1) := by decide +kernel
theorem dX10_typeOfCall_88 : decode cX10_typeOfCall 88 = .ok (.iconst 1, 1) := by decide +kernel
theorem dX10_typeOfCall_89 : decode cX10_typeOfCall 89 = .ok (.invokevirtual 126, 3) := by decide +kernel
theorem dX10_typeOfCall_92 : decode cX10_typeOfCall 92 = .ok (.invokevirtual 158, 3) := by decide +kernel
theorem dX10_typeOfCall_95 : decode cX10_typeOfCall 95 = .ok (.goto 28, 3) := by decide +kernel
theorem dX10_typeOfCall_98 : decode cX10_typeOfCall 98 = .ok (.aload_n 0, 1) := by decide +kernel
theorem dX10_typeOfCall_99 : decode cX10_typeOfCall 99 = .ok (.aload_n 0, 1) := by decide +kernel
theorem dX10_typeOfCall_100 : decode cX10_typeOfCall 100 = .ok (.getfield 21, 3) := by decide +kernel
theorem dX10_typeOfCall_103 : decode cX10_typeOfCall 103 = .ok (.aload_n 0, 1) := by decide +kernel
theorem dX10_typeOfCall_104 : decode cX10_typeOfCall 104 = .ok (.getfield 60, 3) := by decide +kernel
theorem dX10_typeOfCall_107 : decode cX10_typeOfCall 107 = .ok (.iload_n 1, 1) := by decide +kernel
theorem dX10_typeOfCall_108 : decode cX10_typeOfCall 108 = .ok (.iaload, 1) := by decide +kernel
theorem dX10_typeOfCall_109 : decode cX10_typeOfCall 109 = .ok (.iaload, 1) := by decide +kernel
theorem dX10_typeOfCall_110 : decode cX10_typeOfCall 110 = .ok (.putfield 151, 3) := by decide +kernel
theorem dX10_typeOfCall_113 : decode cX10_typeOfCall 113 = .ok (.aload_n 0, 1) := by decide +kernel
theorem dX10_typeOfCall_114 : decode cX10_typeOfCall 114 = .ok (.dup, 1) := by decide +kernel
theorem dX10_typeOfCall_115 : decode cX10_typeOfCall 115 = .ok (.getfield 145, 3) := by decide +kernel
theorem dX10_typeOfCall_118 : decode cX10_typeOfCall 118 = .ok (.iconst 1, 1) := by decide +kernel
theorem dX10_typeOfCall_119 : decode cX10_typeOfCall 119 = .ok (.isub, 1) := by decide +kernel
theorem dX10_typeOfCall_120 : decode cX10_typeOfCall 120 = .ok (.putfield 145, 3) := by decide +kernel
theorem dX10_typeOfCall_123 : decode cX10_typeOfCall 123 = .ok (.return_, 1) := by decide +kernel
theorem dX10_typeOfBinder_0 : decode cX10_typeOfBinder 0 = .ok (.aload_n 0, 1) := by decide +kernel
theorem dX10_typeOfBinder_1 : decode cX10_typeOfBinder 1 = .ok (.getfield 30, 3) := by decide +kernel
theorem dX10_typeOfBinder_4 : decode cX10_typeOfBinder 4 = .ok (.iload_n 2, 1) := by decide +kernel
theorem dX10_typeOfBinder_5 : decode cX10_typeOfBinder 5 = .ok (.iaload, 1) := by decide +kernel
theorem dX10_typeOfBinder_6 : decode cX10_typeOfBinder 6 = .ok (.iconst 4, 1) := by decide +kernel
theorem dX10_typeOfBinder_7 : decode cX10_typeOfBinder 7 = .ok (.if_icmp .ne 7, 3) := by decide +kernel
theorem dX10_typeOfBinder_10 : decode cX10_typeOfBinder 10 = .ok (.iconst 1, 1) := by decide +kernel
theorem dX10_typeOfBinder_11 : decode cX10_typeOfBinder 11 = .ok (.goto 4, 3) := by decide +kernel
theorem dX10_typeOfBinder_14 : decode cX10_typeOfBinder 14 = .ok (.iconst 0, 1) := by decide +kernel
theorem dX10_typeOfBinder_15 : decode cX10_typeOfBinder 15 = .ok (.istore 4, 2) := by decide +kernel
theorem dX10_typeOfBinder_17 : decode cX10_typeOfBinder 17 = .ok (.aload_n 0, 1) := by decide +kernel
theorem dX10_typeOfBinder_18 : decode cX10_typeOfBinder 18 = .ok (.getfield 36, 3) := by decide +kernel
theorem dX10_typeOfBinder_21 : decode cX10_typeOfBinder 21 = .ok (.iload_n 2, 1) := by decide +kernel
theorem dX10_typeOfBinder_22 : decode cX10_typeOfBinder 22 = .ok (.iaload, 1) := by decide +kernel
theorem dX10_typeOfBinder_23 : decode cX10_typeOfBinder 23 = .ok (.istore 5, 2) := by decide +kernel
theorem dX10_typeOfBinder_25 : decode cX10_typeOfBinder 25 = .ok (.iload 4, 2) := by decide +kernel
theorem dX10_typeOfBinder_27 : decode cX10_typeOfBinder 27 = .ok (.ifCond .eq 20, 3) := by decide +kernel
theorem dX10_typeOfBinder_30 : decode cX10_typeOfBinder 30 = .ok (.iload_n 3, 1) := by decide +kernel
theorem dX10_typeOfBinder_31 : decode cX10_typeOfBinder 31 = .ok (.ifCond .ne 16, 3) := by decide +kernel
theorem dX10_typeOfBinder_34 : decode cX10_typeOfBinder 34 = .ok (.aload_n 0, 1) := by decide +kernel
theorem dX10_typeOfBinder_35 : decode cX10_typeOfBinder 35 = .ok (.aload_n 0, 1) := by decide +kernel
theorem dX10_typeOfBinder_36 : decode cX10_typeOfBinder 36 = .ok (.iload_n 2, 1) := by decide +kernel
theorem dX10_typeOfBinder_37 : decode cX10_typeOfBinder 37 = .ok (.iconst 0, 1) := by decide +kernel
theorem dX10_typeOfBinder_38 : decode cX10_typeOfBinder 38 = .ok (.invokevirtual 126, 3) := by decide +kernel
theorem dX10_typeOfBinder_41 : decode cX10_typeOfBinder 41 = .ok (.invokevirtual 154, 3) := by decide +kernel
theorem dX10_typeOfBinder_44 : decode cX10_typeOfBinder 44 = .ok (.goto 117, 3) := by decide +kernel
theorem dX10_typeOfBinder_47 : decode cX10_typeOfBinder 47 = .ok (.iload_n 3, 1) := by decide +kernel
theorem dX10_typeOfBinder_48 : decode cX10_typeOfBinder 48 = .ok (.iload 4, 2) := by decide +kernel
theorem dX10_typeOfBinder_50 : decode cX10_typeOfBinder 50 = .ok (.ifCond .eq 7, 3) := by decide +kernel
theorem dX10_typeOfBinder_53 : decode cX10_typeOfBinder 53 = .ok (.iconst 1, 1) := by decide +kernel
theorem dX10_typeOfBinder_54 : decode cX10_typeOfBinder 54 = .ok (.goto 4, 3) := by decide +kernel
theorem dX10_typeOfBinder_57 : decode cX10_typeOfBinder 57 = .ok (.iconst 0, 1) := by decide +kernel
theorem dX10_typeOfBinder_58 : decode cX10_typeOfBinder 58 = .ok (.if_icmp .ne 50, 3) := by decide +kernel
theorem dX10_typeOfBinder_61 : decode cX10_typeOfBinder 61 = .ok (.aload_n 0, 1) := by decide +kernel
theorem dX10_typeOfBinder_62 : decode cX10_typeOfBinder 62 = .ok (.iload_n 1, 1) := by decide +kernel
theorem dX10_typeOfBinder_63 : decode cX10_typeOfBinder 63 = .ok (.iload 5, 2) := by decide +kernel
theorem dX10_typeOfBinder_65 : decode cX10_typeOfBinder 65 = .ok (.iload 4, 2) := by decide +kernel
theorem dX10_typeOfBinder_67 : decode cX10_typeOfBinder 67 = .ok (.ifCond .eq 10, 3) := by decide +kernel
theorem dX10_typeOfBinder_70 : decode cX10_typeOfBinder 70 = .ok (.aload_n 0, 1) := by decide +kernel
theorem dX10_typeOfBinder_71 : decode cX10_typeOfBinder 71 = .ok (.getfield 151, 3) := by decide +kernel
theorem dX10_typeOfBinder_74 : decode cX10_typeOfBinder 74 = .ok (.goto 9, 3) := by decide +kernel
theorem dX10_typeOfBinder_77 : decode cX10_typeOfBinder 77 = .ok (.aload_n 0, 1) := by decide +kernel
theorem dX10_typeOfBinder_78 : decode cX10_typeOfBinder 78 = .ok (.getfield 39, 3) := by decide +kernel
theorem dX10_typeOfBinder_81 : decode cX10_typeOfBinder 81 = .ok (.iload_n 2, 1) := by decide +kernel
theorem dX10_typeOfBinder_82 : decode cX10_typeOfBinder 82 = .ok (.iaload, 1) := by decide +kernel
theorem dX10_typeOfBinder_83 : decode cX10_typeOfBinder 83 = .ok (.invokevirtual 162, 3) := by decide +kernel
theorem dX10_typeOfBinder_86 : decode cX10_typeOfBinder 86 = .ok (.aload_n 0, 1) := by decide +kernel
theorem dX10_typeOfBinder_87 : decode cX10_typeOfBinder 87 = .ok (.aload_n 0, 1) := by decide +kernel
theorem dX10_typeOfBinder_88 : decode cX10_typeOfBinder 88 = .ok (.iload_n 2, 1) := by decide +kernel
theorem dX10_typeOfBinder_89 : decode cX10_typeOfBinder 89 = .ok (.iload 4, 2) := by decide +kernel
theorem dX10_typeOfBinder_91 : decode cX10_typeOfBinder 91 = .ok (.ifCond .eq 7, 3) := by decide +kernel
theorem dX10_typeOfBinder_94 : decode cX10_typeOfBinder 94 = .ok (.iconst 1, 1) := by decide +kernel
theorem dX10_typeOfBinder_95 : decode cX10_typeOfBinder 95 = .ok (.goto 4, 3) := by decide +kernel
theorem dX10_typeOfBinder_98 : decode cX10_typeOfBinder 98 = .ok (.iconst 0, 1) := by decide +kernel
theorem dX10_typeOfBinder_99 : decode cX10_typeOfBinder 99 = .ok (.invokevirtual 126, 3) := by decide +kernel
theorem dX10_typeOfBinder_102 : decode cX10_typeOfBinder 102 = .ok (.invokevirtual 154, 3) := by decide +kernel
theorem dX10_typeOfBinder_105 : decode cX10_typeOfBinder 105 = .ok (.goto 56, 3) := by decide +kernel
theorem dX10_typeOfBinder_108 : decode cX10_typeOfBinder 108 = .ok (.aload_n 0, 1) := by decide +kernel
theorem dX10_typeOfBinder_109 : decode cX10_typeOfBinder 109 = .ok (.getfield 75, 3) := by decide +kernel
theorem dX10_typeOfBinder_112 : decode cX10_typeOfBinder 112 = .ok (.iload 5, 2) := by decide +kernel
theorem dX10_typeOfBinder_114 : decode cX10_typeOfBinder 114 = .ok (.aload_n 0, 1) := by decide +kernel
theorem dX10_typeOfBinder_115 : decode cX10_typeOfBinder 115 = .ok (.getfield 66, 3) := by decide +kernel
theorem dX10_typeOfBinder_118 : decode cX10_typeOfBinder 118 = .ok (.iload_n 1, 1) := by decide +kernel
theorem dX10_typeOfBinder_119 : decode cX10_typeOfBinder 119 = .ok (.iaload, 1) := by decide +kernel
theorem dX10_typeOfBinder_120 : decode cX10_typeOfBinder 120 = .ok (.iastore, 1) := by decide +kernel
theorem dX10_typeOfBinder_121 : decode cX10_typeOfBinder 121 = .ok (.aload_n 0, 1) := by decide +kernel
theorem dX10_typeOfBinder_122 : decode cX10_typeOfBinder 122 = .ok (.iload 4, 2) := by decide +kernel
theorem dX10_typeOfBinder_124 : decode cX10_typeOfBinder 124 = .ok (.ifCond .eq 10, 3) := by decide +kernel
theorem dX10_typeOfBinder_127 : decode cX10_typeOfBinder 127 = .ok (.aload_n 0, 1) := by decide +kernel
theorem dX10_typeOfBinder_128 : decode cX10_typeOfBinder 128 = .ok (.getfield 151, 3) := by decide +kernel
theorem dX10_typeOfBinder_131 : decode cX10_typeOfBinder 131 = .ok (.goto 17, 3) := by decide +kernel
theorem dX10_typeOfBinder_134 : decode cX10_typeOfBinder 134 = .ok (.aload_n 0, 1) := by decide +kernel
theorem dX10_typeOfBinder_135 : decode cX10_typeOfBinder 135 = .ok (.aload_n 0, 1) := by decide +kernel
theorem dX10_typeOfBinder_136 : decode cX10_typeOfBinder 136 = .ok (.getfield 39, 3) := by decide +kernel
theorem dX10_typeOfBinder_139 : decode cX10_typeOfBinder 139 = .ok (.iload_n 2, 1) := by decide +kernel
theorem dX10_typeOfBinder_140 : decode cX10_typeOfBinder 140 = .ok (.iaload, 1) := by decide +kernel
theorem dX10_typeOfBinder_141 : decode cX10_typeOfBinder 141 = .ok (.aload_n 0, 1) := by decide +kernel
theorem dX10_typeOfBinder_142 : decode cX10_typeOfBinder 142 = .ok (.getfield 151, 3) := by decide +kernel
theorem dX10_typeOfBinder_145 : decode cX10_typeOfBinder 145 = .ok (.invokevirtual 112, 3) := by decide +kernel
theorem dX10_typeOfBinder_148 : decode cX10_typeOfBinder 148 = .ok (.putfield 151, 3) := by decide +kernel
theorem dX10_typeOfBinder_151 : decode cX10_typeOfBinder 151 = .ok (.aload_n 0, 1) := by decide +kernel
theorem dX10_typeOfBinder_152 : decode cX10_typeOfBinder 152 = .ok (.dup, 1) := by decide +kernel
theorem dX10_typeOfBinder_153 : decode cX10_typeOfBinder 153 = .ok (.getfield 145, 3) := by decide +kernel
theorem dX10_typeOfBinder_156 : decode cX10_typeOfBinder 156 = .ok (.iconst 1, 1) := by decide +kernel
theorem dX10_typeOfBinder_157 : decode cX10_typeOfBinder 157 = .ok (.isub, 1) := by decide +kernel
theorem dX10_typeOfBinder_158 : decode cX10_typeOfBinder 158 = .ok (.putfield 145, 3) := by decide +kernel
theorem dX10_typeOfBinder_161 : decode cX10_typeOfBinder 161 = .ok (.return_, 1) := by decide +kernel
theorem dX10_type_0 : decode cX10_type 0 = .ok (.aload_n 0, 1) := by decide +kernel
theorem dX10_type_1 : decode cX10_type 1 = .ok (.iload_n 1, 1) := by decide +kernel
theorem dX10_type_2 : decode cX10_type 2 = .ok (.invokevirtual 136, 3) := by decide +kernel
theorem dX10_type_5 : decode cX10_type 5 = .ok (.ifCond .ne 5, 3) := by decide +kernel
theorem dX10_type_8 : decode cX10_type 8 = .ok (.iconst (-1), 1) := by decide +kernel
theorem dX10_type_9 : decode cX10_type 9 = .ok (.ireturn, 1) := by decide +kernel
theorem dX10_type_10 : decode cX10_type 10 = .ok (.aload_n 0, 1) := by decide +kernel
theorem dX10_type_11 : decode cX10_type 11 = .ok (.getfield 13, 3) := by decide +kernel
theorem dX10_type_14 : decode cX10_type 14 = .ok (.istore_n 2, 1) := by decide +kernel
theorem dX10_type_15 : decode cX10_type 15 = .ok (.aload_n 0, 1) := by decide +kernel
theorem dX10_type_16 : decode cX10_type 16 = .ok (.iconst 0, 1) := by decide +kernel
theorem dX10_type_17 : decode cX10_type 17 = .ok (.putfield 148, 3) := by decide +kernel
theorem dX10_type_20 : decode cX10_type 20 = .ok (.aload_n 0, 1) := by decide +kernel
theorem dX10_type_21 : decode cX10_type 21 = .ok (.bipush (-2), 2) := by decide +kernel
theorem dX10_type_23 : decode cX10_type 23 = .ok (.putfield 78, 3) := by decide +kernel
theorem dX10_type_26 : decode cX10_type 26 = .ok (.iconst 0, 1) := by decide +kernel
theorem dX10_type_27 : decode cX10_type 27 = .ok (.istore_n 3, 1) := by decide +kernel
theorem dX10_type_28 : decode cX10_type 28 = .ok (.iload_n 3, 1) := by decide +kernel
theorem dX10_type_29 : decode cX10_type 29 = .ok (.bipush 26, 2) := by decide +kernel
theorem dX10_type_31 : decode cX10_type 31 = .ok (.if_icmp .ge 21, 3) := by decide +kernel
theorem dX10_type_34 : decode cX10_type 34 = .ok (.aload_n 0, 1) := by decide +kernel
theorem dX10_type_35 : decode cX10_type 35 = .ok (.getfield 75, 3) := by decide +kernel
theorem dX10_type_38 : decode cX10_type 38 = .ok (.iload_n 3, 1) := by decide +kernel
theorem dX10_type_39 : decode cX10_type 39 = .ok (.aload_n 0, 1) := by decide +kernel
theorem dX10_type_40 : decode cX10_type 40 = .ok (.getfield 27, 3) := by decide +kernel
theorem dX10_type_43 : decode cX10_type 43 = .ok (.iload_n 3, 1) := by decide +kernel
theorem dX10_type_44 : decode cX10_type 44 = .ok (.iaload, 1) := by decide +kernel
theorem dX10_type_45 : decode cX10_type 45 = .ok (.iastore, 1) := by decide +kernel
theorem dX10_type_46 : decode cX10_type 46 = .ok (.iinc 3 1, 3) := by decide +kernel
theorem dX10_type_49 : decode cX10_type 49 = .ok (.goto (-21), 3) := by decide +kernel
theorem dX10_type_52 : decode cX10_type 52 = .ok (.aload_n 0, 1) := by decide +kernel
theorem dX10_type_53 : decode cX10_type 53 = .ok (.iconst 0, 1) := by decide +kernel
theorem dX10_type_54 : decode cX10_type 54 = .ok (.putfield 145, 3) := by decide +kernel
theorem dX10_type_57 : decode cX10_type 57 = .ok (.aload_n 0, 1) := by decide +kernel
theorem dX10_type_58 : decode cX10_type 58 = .ok (.iconst 0, 1) := by decide +kernel
theorem dX10_type_59 : decode cX10_type 59 = .ok (.putfield 151, 3) := by decide +kernel
theorem dX10_type_62 : decode cX10_type 62 = .ok (.aload_n 0, 1) := by decide +kernel
theorem dX10_type_63 : decode cX10_type 63 = .ok (.iload_n 1, 1) := by decide +kernel
theorem dX10_type_64 : decode cX10_type 64 = .ok (.invokevirtual 154, 3) := by decide +kernel
theorem dX10_type_67 : decode cX10_type 67 = .ok (.aload_n 0, 1) := by decide +kernel
theorem dX10_type_68 : decode cX10_type 68 = .ok (.getfield 145, 3) := by decide +kernel
theorem dX10_type_71 : decode cX10_type 71 = .ok (.ifCond .le 189, 3) := by decide +kernel
theorem dX10_type_74 : decode cX10_type 74 = .ok (.aload_n 0, 1) := by decide +kernel
theorem dX10_type_75 : decode cX10_type 75 = .ok (.getfield 148, 3) := by decide +kernel
theorem dX10_type_78 : decode cX10_type 78 = .ok (.ifCond .ne 182, 3) := by decide +kernel
theorem dX10_type_81 : decode cX10_type 81 = .ok (.aload_n 0, 1) := by decide +kernel
theorem dX10_type_82 : decode cX10_type 82 = .ok (.getfield 151, 3) := by decide +kernel
theorem dX10_type_85 : decode cX10_type 85 = .ok (.bipush (-3), 2) := by decide +kernel
theorem dX10_type_87 : decode cX10_type 87 = .ok (.if_icmp .eq 173, 3) := by decide +kernel
theorem dX10_type_90 : decode cX10_type 90 = .ok (.aload_n 0, 1) := by decide +kernel
theorem dX10_type_91 : decode cX10_type 91 = .ok (.getfield 145, 3) := by decide +kernel
theorem dX10_type_94 : decode cX10_type 94 = .ok (.iconst 1, 1) := by decide +kernel
theorem dX10_type_95 : decode cX10_type 95 = .ok (.isub, 1) := by decide +kernel
theorem dX10_type_96 : decode cX10_type 96 = .ok (.istore_n 3, 1) := by decide +kernel
theorem dX10_type_97 : decode cX10_type 97 = .ok (.aload_n 0, 1) := by decide +kernel
theorem dX10_type_98 : decode cX10_type 98 = .ok (.getfield 54, 3) := by decide +kernel
theorem dX10_type_101 : decode cX10_type 101 = .ok (.iload_n 3, 1) := by decide +kernel
theorem dX10_type_102 : decode cX10_type 102 = .ok (.iaload, 1) := by decide +kernel
theorem dX10_type_103 : decode cX10_type 103 = .ok (.istore 4, 2) := by decide +kernel
theorem dX10_type_105 : decode cX10_type 105 = .ok (.aload_n 0, 1) := by decide +kernel
theorem dX10_type_106 : decode cX10_type 106 = .ok (.getfield 57, 3) := by decide +kernel
theorem dX10_type_109 : decode cX10_type 109 = .ok (.iload_n 3, 1) := by decide +kernel
theorem dX10_type_110 : decode cX10_type 110 = .ok (.iaload, 1) := by decide +kernel
theorem dX10_type_111 : decode cX10_type 111 = .ok (.istore 5, 2) := by decide +kernel
theorem dX10_type_113 : decode cX10_type 113 = .ok (.aload_n 0, 1) := by decide +kernel
theorem dX10_type_114 : decode cX10_type 114 = .ok (.getfield 57, 3) := by decide +kernel
theorem dX10_type_117 : decode cX10_type 117 = .ok (.iload_n 3, 1) := by decide +kernel
theorem dX10_type_118 : decode cX10_type 118 = .ok (.dup2, 1) := by decide +kernel
theorem dX10_type_119 : decode cX10_type 119 = .ok (.iaload, 1) := by decide +kernel
theorem dX10_type_120 : decode cX10_type 120 = .ok (.iconst 1, 1) := by decide +kernel
theorem dX10_type_121 : decode cX10_type 121 = .ok (.iadd, 1) := by decide +kernel
theorem dX10_type_122 : decode cX10_type 122 = .ok (.iastore, 1) := by decide +kernel
theorem dX10_type_123 : decode cX10_type 123 = .ok (.aload_n 0, 1) := by decide +kernel
theorem dX10_type_124 : decode cX10_type 124 = .ok (.getfield 30, 3) := by decide +kernel
theorem dX10_type_127 : decode cX10_type 127 = .ok (.iload 4, 2) := by decide +kernel
theorem dX10_type_129 : decode cX10_type 129 = .ok (.iaload, 1) := by decide +kernel
theorem dX10_type_130 : decode cX10_type 130 = .ok (.istore 6, 2) := by decide +kernel
theorem dX10_type_132 : decode cX10_type 132 = .ok (.iload 6, 2) := by decide +kernel
theorem dX10_type_134 : decode cX10_type 134 = .ok (.ifCond .ne 21, 3) := by decide +kernel
theorem dX10_type_137 : decode cX10_type 137 = .ok (.aload_n 0, 1) := by decide +kernel
theorem dX10_type_138 : decode cX10_type 138 = .ok (.iconst 0, 1) := by decide +kernel
theorem dX10_type_139 : decode cX10_type 139 = .ok (.putfield 151, 3) := by decide +kernel
theorem dX10_type_142 : decode cX10_type 142 = .ok (.aload_n 0, 1) := by decide +kernel
theorem dX10_type_143 : decode cX10_type 143 = .ok (.dup, 1) := by decide +kernel
theorem dX10_type_144 : decode cX10_type 144 = .ok (.getfield 145, 3) := by decide +kernel
theorem dX10_type_147 : decode cX10_type 147 = .ok (.iconst 1, 1) := by decide +kernel
theorem dX10_type_148 : decode cX10_type 148 = .ok (.isub, 1) := by decide +kernel
theorem dX10_type_149 : decode cX10_type 149 = .ok (.putfield 145, 3) := by decide +kernel
theorem dX10_type_152 : decode cX10_type 152 = .ok (.goto 105, 3) := by decide +kernel
theorem dX10_type_155 : decode cX10_type 155 = .ok (.iload 6, 2) := by decide +kernel
theorem dX10_type_157 : decode cX10_type 157 = .ok (.iconst 1, 1) := by decide +kernel
theorem dX10_type_158 : decode cX10_type 158 = .ok (.if_icmp .ne 48, 3) := by decide +kernel
theorem dX10_type_161 : decode cX10_type 161 = .ok (.aload_n 0, 1) := by decide +kernel
theorem dX10_type_162 : decode cX10_type 162 = .ok (.aload_n 0, 1) := by decide +kernel
theorem dX10_type_163 : decode cX10_type 163 = .ok (.getfield 75, 3) := by decide +kernel
theorem dX10_type_166 : decode cX10_type 166 = .ok (.aload_n 0, 1) := by decide +kernel
theorem dX10_type_167 : decode cX10_type 167 = .ok (.getfield 36, 3) := by decide +kernel
theorem dX10_type_170 : decode cX10_type 170 = .ok (.iload 4, 2) := by decide +kernel
theorem dX10_type_172 : decode cX10_type 172 = .ok (.iaload, 1) := by decide +kernel
theorem dX10_type_173 : decode cX10_type 173 = .ok (.iaload, 1) := by decide +kernel
theorem dX10_type_174 : decode cX10_type 174 = .ok (.putfield 151, 3) := by decide +kernel
theorem dX10_type_177 : decode cX10_type 177 = .ok (.aload_n 0, 1) := by decide +kernel
theorem dX10_type_178 : decode cX10_type 178 = .ok (.dup, 1) := by decide +kernel
theorem dX10_type_179 : decode cX10_type 179 = .ok (.getfield 145, 3) := by decide +kernel
theorem dX10_type_182 : decode cX10_type 182 = .ok (.iconst 1, 1) := by decide +kernel
theorem dX10_type_183 : decode cX10_type 183 = .ok (.isub, 1) := by decide +kernel
theorem dX10_type_184 : decode cX10_type 184 = .ok (.putfield 145, 3) := by decide +kernel
theorem dX10_type_187 : decode cX10_type 187 = .ok (.aload_n 0, 1) := by decide +kernel
theorem dX10_type_188 : decode cX10_type 188 = .ok (.getfield 151, 3) := by decide +kernel
theorem dX10_type_191 : decode cX10_type 191 = .ok (.bipush (-2), 2) := by decide +kernel
theorem dX10_type_193 : decode cX10_type 193 = .ok (.if_icmp .ne 64, 3) := by decide +kernel
theorem dX10_type_196 : decode cX10_type 196 = .ok (.aload_n 0, 1) := by decide +kernel
theorem dX10_type_197 : decode cX10_type 197 = .ok (.iconst 1, 1) := by decide +kernel
theorem dX10_type_198 : decode cX10_type 198 = .ok (.iload 4, 2) := by decide +kernel
theorem dX10_type_200 : decode cX10_type 200 = .ok (.invokevirtual 158, 3) := by decide +kernel
theorem dX10_type_203 : decode cX10_type 203 = .ok (.goto 54, 3) := by decide +kernel
theorem dX10_type_206 : decode cX10_type 206 = .ok (.iload 6, 2) := by decide +kernel
theorem dX10_type_208 : decode cX10_type 208 = .ok (.iconst 2, 1) := by decide +kernel
theorem dX10_type_209 : decode cX10_type 209 = .ok (.if_icmp .eq 9, 3) := by decide +kernel
theorem dX10_type_212 : decode cX10_type 212 = .ok (.iload 6, 2) := by decide +kernel
theorem dX10_type_214 : decode cX10_type 214 = .ok (.iconst 4, 1) := by decide +kernel
theorem dX10_type_215 : decode cX10_type 215 = .ok (.if_icmp .ne 15, 3) := by decide +kernel
theorem dX10_type_218 : decode cX10_type 218 = .ok (.aload_n 0, 1) := by decide +kernel
theorem dX10_type_219 : decode cX10_type 219 = .ok (.iload_n 3, 1) := by decide +kernel
theorem dX10_type_220 : decode cX10_type 220 = .ok (.iload 4, 2) := by decide +kernel
theorem dX10_type_222 : decode cX10_type 222 = .ok (.iload 5, 2) := by decide +kernel
theorem dX10_type_224 : decode cX10_type 224 = .ok (.invokevirtual 166, 3) := by decide +kernel
theorem dX10_type_227 : decode cX10_type 227 = .ok (.goto 30, 3) := by decide +kernel
theorem dX10_type_230 : decode cX10_type 230 = .ok (.iload 6, 2) := by decide +kernel
theorem dX10_type_232 : decode cX10_type 232 = .ok (.iconst 3, 1) := by decide +kernel
theorem dX10_type_233 : decode cX10_type 233 = .ok (.if_icmp .ne 15, 3) := by decide +kernel
theorem dX10_type_236 : decode cX10_type 236 = .ok (.aload_n 0, 1) := by decide +kernel
theorem dX10_type_237 : decode cX10_type 237 = .ok (.iload_n 3, 1) := by decide +kernel
theorem dX10_type_238 : decode cX10_type 238 = .ok (.iload 4, 2) := by decide +kernel
theorem dX10_type_240 : decode cX10_type 240 = .ok (.iload 5, 2) := by decide +kernel
theorem dX10_type_242 : decode cX10_type 242 = .ok (.invokevirtual 169, 3) := by decide +kernel
theorem dX10_type_245 : decode cX10_type 245 = .ok (.goto 12, 3) := by decide +kernel
theorem dX10_type_248 : decode cX10_type 248 = .ok (.aload_n 0, 1) := by decide +kernel
theorem dX10_type_249 : decode cX10_type 249 = .ok (.iload_n 3, 1) := by decide +kernel
theorem dX10_type_250 : decode cX10_type 250 = .ok (.iload 4, 2) := by decide +kernel
theorem dX10_type_252 : decode cX10_type 252 = .ok (.iload 5, 2) := by decide +kernel
theorem dX10_type_254 : decode cX10_type 254 = .ok (.invokevirtual 172, 3) := by decide +kernel
theorem dX10_type_257 : decode cX10_type 257 = .ok (.goto (-190), 3) := by decide +kernel
theorem dX10_type_260 : decode cX10_type 260 = .ok (.aload_n 0, 1) := by decide +kernel
theorem dX10_type_261 : decode cX10_type 261 = .ok (.aload_n 0, 1) := by decide +kernel
theorem dX10_type_262 : decode cX10_type 262 = .ok (.getfield 148, 3) := by decide +kernel
theorem dX10_type_265 : decode cX10_type 265 = .ok (.ifCond .gt 12, 3) := by decide +kernel
theorem dX10_type_268 : decode cX10_type 268 = .ok (.aload_n 0, 1) := by decide +kernel
theorem dX10_type_269 : decode cX10_type 269 = .ok (.getfield 151, 3) := by decide +kernel
theorem dX10_type_272 : decode cX10_type 272 = .ok (.bipush (-3), 2) := by decide +kernel
theorem dX10_type_274 : decode cX10_type 274 = .ok (.if_icmp .ne 7, 3) := by decide +kernel
theorem dX10_type_277 : decode cX10_type 277 = .ok (.iload_n 2, 1) := by decide +kernel
theorem dX10_type_278 : decode cX10_type 278 = .ok (.goto 7, 3) := by decide +kernel
theorem dX10_type_281 : decode cX10_type 281 = .ok (.aload_n 0, 1) := by decide +kernel
theorem dX10_type_282 : decode cX10_type 282 = .ok (.getfield 13, 3) := by decide +kernel
theorem dX10_type_285 : decode cX10_type 285 = .ok (.putfield 13, 3) := by decide +kernel
theorem dX10_type_288 : decode cX10_type 288 = .ok (.aload_n 0, 1) := by decide +kernel
theorem dX10_type_289 : decode cX10_type 289 = .ok (.getfield 148, 3) := by decide +kernel
theorem dX10_type_292 : decode cX10_type 292 = .ok (.ifCond .le 8, 3) := by decide +kernel
theorem dX10_type_295 : decode cX10_type 295 = .ok (.bipush (-2), 2) := by decide +kernel
theorem dX10_type_297 : decode cX10_type 297 = .ok (.goto 7, 3) := by decide +kernel
theorem dX10_type_300 : decode cX10_type 300 = .ok (.aload_n 0, 1) := by decide +kernel
theorem dX10_type_301 : decode cX10_type 301 = .ok (.getfield 151, 3) := by decide +kernel
theorem dX10_type_304 : decode cX10_type 304 = .ok (.ireturn, 1) := by decide +kernel
theorem dX10_fault_0 : decode cX10_fault 0 = .ok (.iload_n 1, 1) := by decide +kernel
theorem dX10_fault_1 : decode cX10_fault 1 = .ok (.ifCond .ne 10, 3) := by decide +kernel
theorem dX10_fault_4 : decode cX10_fault 4 = .ok (.aload_n 0, 1) := by decide +kernel
theorem dX10_fault_5 : decode cX10_fault 5 = .ok (.getfield 148, 3) := by decide +kernel
theorem dX10_fault_8 : decode cX10_fault 8 = .ok (.goto 16, 3) := by decide +kernel
theorem dX10_fault_11 : decode cX10_fault 11 = .ok (.iload_n 1, 1) := by decide +kernel
theorem dX10_fault_12 : decode cX10_fault 12 = .ok (.iconst 1, 1) := by decide +kernel
theorem dX10_fault_13 : decode cX10_fault 13 = .ok (.if_icmp .ne 10, 3) := by decide +kernel
theorem dX10_fault_16 : decode cX10_fault 16 = .ok (.aload_n 0, 1) := by decide +kernel
theorem dX10_fault_17 : decode cX10_fault 17 = .ok (.getfield 78, 3) := by decide +kernel
theorem dX10_fault_20 : decode cX10_fault 20 = .ok (.goto 4, 3) := by decide +kernel
theorem dX10_fault_23 : decode cX10_fault 23 = .ok (.iconst (-1), 1) := by decide +kernel
theorem dX10_fault_24 : decode cX10_fault 24 = .ok (.ireturn, 1) := by decide +kernel
theorem dX10_areAlike_0 : decode cX10_areAlike 0 = .ok (.aload_n 0, 1) := by decide +kernel
theorem dX10_areAlike_1 : decode cX10_areAlike 1 = .ok (.getfield 45, 3) := by decide +kernel
theorem dX10_areAlike_4 : decode cX10_areAlike 4 = .ok (.iload_n 1, 1) := by decide +kernel
theorem dX10_areAlike_5 : decode cX10_areAlike 5 = .ok (.iaload, 1) := by decide +kernel
theorem dX10_areAlike_6 : decode cX10_areAlike 6 = .ok (.aload_n 0, 1) := by decide +kernel
theorem dX10_areAlike_7 : decode cX10_areAlike 7 = .ok (.getfield 45, 3) := by decide +kernel
theorem dX10_areAlike_10 : decode cX10_areAlike 10 = .ok (.iload_n 2, 1) := by decide +kernel
theorem dX10_areAlike_11 : decode cX10_areAlike 11 = .ok (.iaload, 1) := by decide +kernel
theorem dX10_areAlike_12 : decode cX10_areAlike 12 = .ok (.if_icmp .ne 18, 3) := by decide +kernel
theorem dX10_areAlike_15 : decode cX10_areAlike 15 = .ok (.aload_n 0, 1) := by decide +kernel
theorem dX10_areAlike_16 : decode cX10_areAlike 16 = .ok (.getfield 48, 3) := by decide +kernel
theorem dX10_areAlike_19 : decode cX10_areAlike 19 = .ok (.iload_n 1, 1) := by decide +kernel
theorem dX10_areAlike_20 : decode cX10_areAlike 20 = .ok (.iaload, 1) := by decide +kernel
theorem dX10_areAlike_21 : decode cX10_areAlike 21 = .ok (.aload_n 0, 1) := by decide +kernel
theorem dX10_areAlike_22 : decode cX10_areAlike 22 = .ok (.getfield 48, 3) := by decide +kernel
theorem dX10_areAlike_25 : decode cX10_areAlike 25 = .ok (.iload_n 2, 1) := by decide +kernel
theorem dX10_areAlike_26 : decode cX10_areAlike 26 = .ok (.iaload, 1) := by decide +kernel
theorem dX10_areAlike_27 : decode cX10_areAlike 27 = .ok (.if_icmp .eq 5, 3) := by decide +kernel
theorem dX10_areAlike_30 : decode cX10_areAlike 30 = .ok (.iconst 0, 1) := by decide +kernel
theorem dX10_areAlike_31 : decode cX10_areAlike 31 = .ok (.ireturn, 1) := by decide +kernel
theorem dX10_areAlike_32 : decode cX10_areAlike 32 = .ok (.iconst 0, 1) := by decide +kernel
theorem dX10_areAlike_33 : decode cX10_areAlike 33 = .ok (.istore_n 3, 1) := by decide +kernel
theorem dX10_areAlike_34 : decode cX10_areAlike 34 = .ok (.iload_n 3, 1) := by decide +kernel
theorem dX10_areAlike_35 : decode cX10_areAlike 35 = .ok (.bipush 26, 2) := by decide +kernel
theorem dX10_areAlike_37 : decode cX10_areAlike 37 = .ok (.if_icmp .ge 25, 3) := by decide +kernel
theorem dX10_areAlike_40 : decode cX10_areAlike 40 = .ok (.aload_n 0, 1) := by decide +kernel
theorem dX10_areAlike_41 : decode cX10_areAlike 41 = .ok (.getfield 81, 3) := by decide +kernel
theorem dX10_areAlike_44 : decode cX10_areAlike 44 = .ok (.iload_n 3, 1) := by decide +kernel
theorem dX10_areAlike_45 : decode cX10_areAlike 45 = .ok (.bipush (-2), 2) := by decide +kernel
theorem dX10_areAlike_47 : decode cX10_areAlike 47 = .ok (.iastore, 1) := by decide +kernel
theorem dX10_areAlike_48 : decode cX10_areAlike 48 = .ok (.aload_n 0, 1) := by decide +kernel
theorem dX10_areAlike_49 : decode cX10_areAlike 49 = .ok (.getfield 84, 3) := by decide +kernel
theorem dX10_areAlike_52 : decode cX10_areAlike 52 = .ok (.iload_n 3, 1) := by decide +kernel
theorem dX10_areAlike_53 : decode cX10_areAlike 53 = .ok (.bipush (-2), 2) := by decide +kernel
theorem dX10_areAlike_55 : decode cX10_areAlike 55 = .ok (.iastore, 1) := by decide +kernel
theorem dX10_areAlike_56 : decode cX10_areAlike 56 = .ok (.iinc 3 1, 3) := by decide +kernel
theorem dX10_areAlike_59 : decode cX10_areAlike 59 = .ok (.goto (-25), 3) := by decide +kernel
theorem dX10_areAlike_62 : decode cX10_areAlike 62 = .ok (.aload_n 0, 1) := by decide +kernel
theorem dX10_areAlike_63 : decode cX10_areAlike 63 = .ok (.iconst 0, 1) := by decide +kernel
theorem dX10_areAlike_64 : decode cX10_areAlike 64 = .ok (.putfield 175, 3) := by decide +kernel
theorem dX10_areAlike_67 : decode cX10_areAlike 67 = .ok (.aload_n 0, 1) := by decide +kernel
theorem dX10_areAlike_68 : decode cX10_areAlike 68 = .ok (.iconst 0, 1) := by decide +kernel
theorem dX10_areAlike_69 : decode cX10_areAlike 69 = .ok (.putfield 145, 3) := by decide +kernel
theorem dX10_areAlike_72 : decode cX10_areAlike 72 = .ok (.aload_n 0, 1) := by decide +kernel
theorem dX10_areAlike_73 : decode cX10_areAlike 73 = .ok (.iload_n 1, 1) := by decide +kernel
theorem dX10_areAlike_74 : decode cX10_areAlike 74 = .ok (.invokevirtual 154, 3) := by decide +kernel
theorem dX10_areAlike_77 : decode cX10_areAlike 77 = .ok (.aload_n 0, 1) := by decide +kernel
theorem dX10_areAlike_78 : decode cX10_areAlike 78 = .ok (.getfield 72, 3) := by decide +kernel
theorem dX10_areAlike_81 : decode cX10_areAlike 81 = .ok (.iconst 0, 1) := by decide +kernel
theorem dX10_areAlike_82 : decode cX10_areAlike 82 = .ok (.iload_n 2, 1) := by decide +kernel
theorem dX10_areAlike_83 : decode cX10_areAlike 83 = .ok (.iastore, 1) := by decide +kernel
theorem dX10_areAlike_84 : decode cX10_areAlike 84 = .ok (.iconst 1, 1) := by decide +kernel
theorem dX10_areAlike_85 : decode cX10_areAlike 85 = .ok (.istore_n 3, 1) := by decide +kernel
theorem dX10_areAlike_86 : decode cX10_areAlike 86 = .ok (.aload_n 0, 1) := by decide +kernel
theorem dX10_areAlike_87 : decode cX10_areAlike 87 = .ok (.getfield 145, 3) := by decide +kernel
theorem dX10_areAlike_90 : decode cX10_areAlike 90 = .ok (.ifCond .le 321, 3) := by decide +kernel
theorem dX10_areAlike_93 : decode cX10_areAlike 93 = .ok (.iload_n 3, 1) := by decide +kernel
theorem dX10_areAlike_94 : decode cX10_areAlike 94 = .ok (.ifCond .eq 317, 3) := by decide +kernel
theorem dX10_areAlike_97 : decode cX10_areAlike 97 = .ok (.aload_n 0, 1) := by decide +kernel
theorem dX10_areAlike_98 : decode cX10_areAlike 98 = .ok (.getfield 145, 3) := by decide +kernel
theorem dX10_areAlike_101 : decode cX10_areAlike 101 = .ok (.iconst 1, 1) := by decide +kernel
theorem dX10_areAlike_102 : decode cX10_areAlike 102 = .ok (.isub, 1) := by decide +kernel
theorem dX10_areAlike_103 : decode cX10_areAlike 103 = .ok (.istore 4, 2) := by decide +kernel
theorem dX10_areAlike_105 : decode cX10_areAlike 105 = .ok (.aload_n 0, 1) := by decide +kernel
theorem dX10_areAlike_106 : decode cX10_areAlike 106 = .ok (.getfield 57, 3) := by decide +kernel
theorem dX10_areAlike_109 : decode cX10_areAlike 109 = .ok (.iload 4, 2) := by decide +kernel
theorem dX10_areAlike_111 : decode cX10_areAlike 111 = .ok (.iaload, 1) := by decide +kernel
theorem dX10_areAlike_112 : decode cX10_areAlike 112 = .ok (.istore 5, 2) := by decide +kernel
theorem dX10_areAlike_114 : decode cX10_areAlike 114 = .ok (.aload_n 0, 1) := by decide +kernel
theorem dX10_areAlike_115 : decode cX10_areAlike 115 = .ok (.getfield 54, 3) := by decide +kernel
theorem dX10_areAlike_118 : decode cX10_areAlike 118 = .ok (.iload 4, 2) := by decide +kernel
theorem dX10_areAlike_120 : decode cX10_areAlike 120 = .ok (.iaload, 1) := by decide +kernel
theorem dX10_areAlike_121 : decode cX10_areAlike 121 = .ok (.istore 6, 2) := by decide +kernel
theorem dX10_areAlike_123 : decode cX10_areAlike 123 = .ok (.aload_n 0, 1) := by decide +kernel
theorem dX10_areAlike_124 : decode cX10_areAlike 124 = .ok (.getfield 72, 3) := by decide +kernel
theorem dX10_areAlike_127 : decode cX10_areAlike 127 = .ok (.iload 4, 2) := by decide +kernel
theorem dX10_areAlike_129 : decode cX10_areAlike 129 = .ok (.iaload, 1) := by decide +kernel
theorem dX10_areAlike_130 : decode cX10_areAlike 130 = .ok (.istore 7, 2) := by decide +kernel
theorem dX10_areAlike_132 : decode cX10_areAlike 132 = .ok (.aload_n 0, 1) := by decide +kernel
theorem dX10_areAlike_133 : decode cX10_areAlike 133 = .ok (.getfield 57, 3) := by decide +kernel
theorem dX10_areAlike_136 : decode cX10_areAlike 136 = .ok (.iload 4, 2) := by decide +kernel
theorem dX10_areAlike_138 : decode cX10_areAlike 138 = .ok (.dup2, 1) := by decide +kernel
theorem dX10_areAlike_139 : decode cX10_areAlike 139 = .ok (.iaload, 1) := by decide +kernel
theorem dX10_areAlike_140 : decode cX10_areAlike 140 = .ok (.iconst 1, 1) := by decide +kernel
theorem dX10_areAlike_141 : decode cX10_areAlike 141 = .ok (.iadd, 1) := by decide +kernel
theorem dX10_areAlike_142 : decode cX10_areAlike 142 = .ok (.iastore, 1) := by decide +kernel
theorem dX10_areAlike_143 : decode cX10_areAlike 143 = .ok (.iload 5, 2) := by decide +kernel
theorem dX10_areAlike_145 : decode cX10_areAlike 145 = .ok (.ifCond .gt 14, 3) := by decide +kernel
theorem dX10_areAlike_148 : decode cX10_areAlike 148 = .ok (.aload_n 0, 1) := by decide +kernel
theorem dX10_areAlike_149 : decode cX10_areAlike 149 = .ok (.iload 6, 2) := by decide +kernel
theorem dX10_areAlike_151 : decode cX10_areAlike 151 = .ok (.iload 7, 2) := by decide +kernel
theorem dX10_areAlike_153 : decode cX10_areAlike 153 = .ok (.invokevirtual 178, 3) := by decide +kernel
theorem dX10_areAlike_156 : decode cX10_areAlike 156 = .ok (.ifCond .eq 7, 3) := by decide +kernel
theorem dX10_areAlike_159 : decode cX10_areAlike 159 = .ok (.iconst 1, 1) := by decide +kernel
theorem dX10_areAlike_160 : decode cX10_areAlike 160 = .ok (.goto 4, 3) := by decide +kernel
theorem dX10_areAlike_163 : decode cX10_areAlike 163 = .ok (.iconst 0, 1) := by decide +kernel
theorem dX10_areAlike_164 : decode cX10_areAlike 164 = .ok (.istore_n 3, 1) := by decide +kernel
theorem dX10_areAlike_165 : decode cX10_areAlike 165 = .ok (.aload_n 0, 1) := by decide +kernel
theorem dX10_areAlike_166 : decode cX10_areAlike 166 = .ok (.getfield 30, 3) := by decide +kernel
theorem dX10_areAlike_169 : decode cX10_areAlike 169 = .ok (.iload 6, 2) := by decide +kernel
theorem dX10_areAlike_171 : decode cX10_areAlike 171 = .ok (.iaload, 1) := by decide +kernel
theorem dX10_areAlike_172 : decode cX10_areAlike 172 = .ok (.iconst 2, 1) := by decide +kernel
theorem dX10_areAlike_173 : decode cX10_areAlike 173 = .ok (.if_icmp .eq 14, 3) := by decide +kernel
theorem dX10_areAlike_176 : decode cX10_areAlike 176 = .ok (.aload_n 0, 1) := by decide +kernel
theorem dX10_areAlike_177 : decode cX10_areAlike 177 = .ok (.getfield 30, 3) := by decide +kernel
theorem dX10_areAlike_180 : decode cX10_areAlike 180 = .ok (.iload 6, 2) := by decide +kernel
theorem dX10_areAlike_182 : decode cX10_areAlike 182 = .ok (.iaload, 1) := by decide +kernel
theorem dX10_areAlike_183 : decode cX10_areAlike 183 = .ok (.iconst 4, 1) := by decide +kernel
theorem dX10_areAlike_184 : decode cX10_areAlike 184 = .ok (.if_icmp .ne 7, 3) := by decide +kernel
theorem dX10_areAlike_187 : decode cX10_areAlike 187 = .ok (.iconst 1, 1) := by decide +kernel
theorem dX10_areAlike_188 : decode cX10_areAlike 188 = .ok (.goto 4, 3) := by decide +kernel
theorem dX10_areAlike_191 : decode cX10_areAlike 191 = .ok (.iconst 0, 1) := by decide +kernel
theorem dX10_areAlike_192 : decode cX10_areAlike 192 = .ok (.istore 8, 2) := by decide +kernel
theorem dX10_areAlike_194 : decode cX10_areAlike 194 = .ok (.aload_n 0, 1) := by decide +kernel
theorem dX10_areAlike_195 : decode cX10_areAlike 195 = .ok (.getfield 30, 3) := by decide +kernel
theorem dX10_areAlike_198 : decode cX10_areAlike 198 = .ok (.iload 6, 2) := by decide +kernel
theorem dX10_areAlike_200 : decode cX10_areAlike 200 = .ok (.iaload, 1) := by decide +kernel
theorem dX10_areAlike_201 : decode cX10_areAlike 201 = .ok (.invokestatic 122, 3) := by decide +kernel
theorem dX10_areAlike_204 : decode cX10_areAlike 204 = .ok (.istore 9, 2) := by decide +kernel
theorem dX10_areAlike_206 : decode cX10_areAlike 206 = .ok (.iload 5, 2) := by decide +kernel
theorem dX10_areAlike_208 : decode cX10_areAlike 208 = .ok (.iload 9, 2) := by decide +kernel
theorem dX10_areAlike_210 : decode cX10_areAlike 210 = .ok (.if_icmp .ne 69, 3) := by decide +kernel
theorem dX10_areAlike_213 : decode cX10_areAlike 213 = .ok (.aload_n 0, 1) := by decide +kernel
theorem dX10_areAlike_214 : decode cX10_areAlike 214 = .ok (.dup, 1) := by decide +kernel
theorem dX10_areAlike_215 : decode cX10_areAlike 215 = .ok (.getfield 145, 3) := by decide +kernel
theorem dX10_areAlike_218 : decode cX10_areAlike 218 = .ok (.iconst 1, 1) := by decide +kernel
theorem dX10_areAlike_219 : decode cX10_areAlike 219 = .ok (.isub, 1) := by decide +kernel
theorem dX10_areAlike_220 : decode cX10_areAlike 220 = .ok (.putfield 145, 3) := by decide +kernel
theorem dX10_areAlike_223 : decode cX10_areAlike 223 = .ok (.iload 8, 2) := by decide +kernel
theorem dX10_areAlike_225 : decode cX10_areAlike 225 = .ok (.ifCond .eq 183, 3) := by decide +kernel
theorem dX10_areAlike_228 : decode cX10_areAlike 228 = .ok (.aload_n 0, 1) := by decide +kernel
theorem dX10_areAlike_229 : decode cX10_areAlike 229 = .ok (.getfield 81, 3) := by decide +kernel
theorem dX10_areAlike_232 : decode cX10_areAlike 232 = .ok (.aload_n 0, 1) := by decide +kernel
theorem dX10_areAlike_233 : decode cX10_areAlike 233 = .ok (.getfield 36, 3) := by decide +kernel
theorem dX10_areAlike_236 : decode cX10_areAlike 236 = .ok (.iload 6, 2) := by decide +kernel
theorem dX10_areAlike_238 : decode cX10_areAlike 238 = .ok (.iaload, 1) := by decide +kernel
theorem dX10_areAlike_239 : decode cX10_areAlike 239 = .ok (.aload_n 0, 1) := by decide +kernel
theorem dX10_areAlike_240 : decode cX10_areAlike 240 = .ok (.getfield 60, 3) := by decide +kernel
theorem dX10_areAlike_243 : decode cX10_areAlike 243 = .ok (.iload 4, 2) := by decide +kernel
theorem dX10_areAlike_245 : decode cX10_areAlike 245 = .ok (.iaload, 1) := by decide +kernel
theorem dX10_areAlike_246 : decode cX10_areAlike 246 = .ok (.iastore, 1) := by decide +kernel
theorem dX10_areAlike_247 : decode cX10_areAlike 247 = .ok (.aload_n 0, 1) := by decide +kernel
theorem dX10_areAlike_248 : decode cX10_areAlike 248 = .ok (.getfield 84, 3) := by decide +kernel
theorem dX10_areAlike_251 : decode cX10_areAlike 251 = .ok (.aload_n 0, 1) := by decide +kernel
theorem dX10_areAlike_252 : decode cX10_areAlike 252 = .ok (.getfield 36, 3) := by decide +kernel
theorem dX10_areAlike_255 : decode cX10_areAlike 255 = .ok (.iload 7, 2) := by decide +kernel
theorem dX10_areAlike_257 : decode cX10_areAlike 257 = .ok (.iaload, 1) := by decide +kernel
theorem dX10_areAlike_258 : decode cX10_areAlike 258 = .ok (.aload_n 0, 1) := by decide +kernel
theorem dX10_areAlike_259 : decode cX10_areAlike 259 = .ok (.getfield 63, 3) := by decide +kernel
theorem dX10_areAlike_262 : decode cX10_areAlike 262 = .ok (.iload 4, 2) := by decide +kernel
theorem dX10_areAlike_264 : decode cX10_areAlike 264 = .ok (.iaload, 1) := by decide +kernel
theorem dX10_areAlike_265 : decode cX10_areAlike 265 = .ok (.iastore, 1) := by decide +kernel
theorem dX10_areAlike_266 : decode cX10_areAlike 266 = .ok (.aload_n 0, 1) := by decide +kernel
theorem dX10_areAlike_267 : decode cX10_areAlike 267 = .ok (.dup, 1) := by decide +kernel
theorem dX10_areAlike_268 : decode cX10_areAlike 268 = .ok (.getfield 175, 3) := by decide +kernel
theorem dX10_areAlike_271 : decode cX10_areAlike 271 = .ok (.iconst 1, 1) := by decide +kernel
theorem dX10_areAlike_272 : decode cX10_areAlike 272 = .ok (.isub, 1) := by decide +kernel
theorem dX10_areAlike_273 : decode cX10_areAlike 273 = .ok (.putfield 175, 3) := by decide +kernel
