theorem dX3_into_56 : decode cX3_into 56 = .ok (.iload_n 2, 1) := by decide +kernel
theorem dX3_into_57 : decode cX3_into 57 = .ok (.iload_n 3, 1) := by decide +kernel
theorem dX3_into_58 : decode cX3_into 58 = .ok (.invokevirtual 25, 3) := by decide +kernel
theorem dX3_into_61 : decode cX3_into 61 = .ok (.ireturn, 1) := by decide +kernel
theorem dX3_into_62 : decode cX3_into 62 = .ok (.aload_n 0, 1) := by decide +kernel
theorem dX3_into_63 : decode cX3_into 63 = .ok (.iload_n 1, 1) := by decide +kernel
theorem dX3_into_64 : decode cX3_into 64 = .ok (.iload_n 2, 1) := by decide +kernel
theorem dX3_into_65 : decode cX3_into 65 = .ok (.iload_n 3, 1) := by decide +kernel
theorem dX3_into_66 : decode cX3_into 66 = .ok (.invokevirtual 29, 3) := by decide +kernel
theorem dX3_into_69 : decode cX3_into 69 = .ok (.ireturn, 1) := by decide +kernel
theorem dX3_into_70 : decode cX3_into 70 = .ok (.aload_n 0, 1) := by decide +kernel
theorem dX3_into_71 : decode cX3_into 71 = .ok (.iload_n 1, 1) := by decide +kernel
theorem dX3_into_72 : decode cX3_into 72 = .ok (.iload_n 2, 1) := by decide +kernel
theorem dX3_into_73 : decode cX3_into 73 = .ok (.iload_n 3, 1) := by decide +kernel
theorem dX3_into_74 : decode cX3_into 74 = .ok (.invokevirtual 32, 3) := by decide +kernel
theorem dX3_into_77 : decode cX3_into 77 = .ok (.ireturn, 1) := by decide +kernel
theorem dX3_intoParts_0 : decode cX3_intoParts 0 = .ok (.aload_n 0, 1) := by decide +kernel
theorem dX3_intoParts_1 : decode cX3_intoParts 1 = .ok (.aload_n 0, 1) := by decide +kernel
theorem dX3_intoParts_2 : decode cX3_intoParts 2 = .ok (.getfield 9, 3) := by decide +kernel
theorem dX3_intoParts_5 : decode cX3_intoParts 5 = .ok (.iload_n 1, 1) := by decide +kernel
theorem dX3_intoParts_6 : decode cX3_intoParts 6 = .ok (.invokevirtual 35, 3) := by decide +kernel
theorem dX3_intoParts_9 : decode cX3_intoParts 9 = .ok (.iload_n 2, 1) := by decide +kernel
theorem dX3_intoParts_10 : decode cX3_intoParts 10 = .ok (.iload_n 3, 1) := by decide +kernel
theorem dX3_intoParts_11 : decode cX3_intoParts 11 = .ok (.invokevirtual 38, 3) := by decide +kernel
theorem dX3_intoParts_14 : decode cX3_intoParts 14 = .ok (.istore 4, 2) := by decide +kernel
theorem dX3_intoParts_16 : decode cX3_intoParts 16 = .ok (.iload 4, 2) := by decide +kernel
theorem dX3_intoParts_18 : decode cX3_intoParts 18 = .ok (.bipush (-3), 2) := by decide +kernel
theorem dX3_intoParts_20 : decode cX3_intoParts 20 = .ok (.if_icmp .ne 6, 3) := by decide +kernel
theorem dX3_intoParts_23 : decode cX3_intoParts 23 = .ok (.bipush (-3), 2) := by decide +kernel
theorem dX3_intoParts_25 : decode cX3_intoParts 25 = .ok (.ireturn, 1) := by decide +kernel
theorem dX3_intoParts_26 : decode cX3_intoParts 26 = .ok (.aload_n 0, 1) := by decide +kernel
theorem dX3_intoParts_27 : decode cX3_intoParts 27 = .ok (.aload_n 0, 1) := by decide +kernel
theorem dX3_intoParts_28 : decode cX3_intoParts 28 = .ok (.getfield 9, 3) := by decide +kernel
theorem dX3_intoParts_31 : decode cX3_intoParts 31 = .ok (.iload_n 1, 1) := by decide +kernel
theorem dX3_intoParts_32 : decode cX3_intoParts 32 = .ok (.invokevirtual 41, 3) := by decide +kernel
theorem dX3_intoParts_35 : decode cX3_intoParts 35 = .ok (.iload_n 2, 1) := by decide +kernel
theorem dX3_intoParts_36 : decode cX3_intoParts 36 = .ok (.iload_n 3, 1) := by decide +kernel
theorem dX3_intoParts_37 : decode cX3_intoParts 37 = .ok (.invokevirtual 38, 3) := by decide +kernel
theorem dX3_intoParts_40 : decode cX3_intoParts 40 = .ok (.istore 5, 2) := by decide +kernel
theorem dX3_intoParts_42 : decode cX3_intoParts 42 = .ok (.iload 5, 2) := by decide +kernel
theorem dX3_intoParts_44 : decode cX3_intoParts 44 = .ok (.bipush (-3), 2) := by decide +kernel
theorem dX3_intoParts_46 : decode cX3_intoParts 46 = .ok (.if_icmp .ne 6, 3) := by decide +kernel
theorem dX3_intoParts_49 : decode cX3_intoParts 49 = .ok (.bipush (-3), 2) := by decide +kernel
theorem dX3_intoParts_51 : decode cX3_intoParts 51 = .ok (.ireturn, 1) := by decide +kernel
theorem dX3_intoParts_52 : decode cX3_intoParts 52 = .ok (.aload_n 0, 1) := by decide +kernel
theorem dX3_intoParts_53 : decode cX3_intoParts 53 = .ok (.aload_n 0, 1) := by decide +kernel
theorem dX3_intoParts_54 : decode cX3_intoParts 54 = .ok (.getfield 9, 3) := by decide +kernel
theorem dX3_intoParts_57 : decode cX3_intoParts 57 = .ok (.iload_n 1, 1) := by decide +kernel
theorem dX3_intoParts_58 : decode cX3_intoParts 58 = .ok (.invokevirtual 44, 3) := by decide +kernel
theorem dX3_intoParts_61 : decode cX3_intoParts 61 = .ok (.iload_n 2, 1) := by decide +kernel
theorem dX3_intoParts_62 : decode cX3_intoParts 62 = .ok (.iload_n 3, 1) := by decide +kernel
theorem dX3_intoParts_63 : decode cX3_intoParts 63 = .ok (.invokevirtual 38, 3) := by decide +kernel
theorem dX3_intoParts_66 : decode cX3_intoParts 66 = .ok (.istore 6, 2) := by decide +kernel
theorem dX3_intoParts_68 : decode cX3_intoParts 68 = .ok (.iload 6, 2) := by decide +kernel
theorem dX3_intoParts_70 : decode cX3_intoParts 70 = .ok (.bipush (-3), 2) := by decide +kernel
theorem dX3_intoParts_72 : decode cX3_intoParts 72 = .ok (.if_icmp .ne 8, 3) := by decide +kernel
theorem dX3_intoParts_75 : decode cX3_intoParts 75 = .ok (.bipush (-3), 2) := by decide +kernel
theorem dX3_intoParts_77 : decode cX3_intoParts 77 = .ok (.goto 25, 3) := by decide +kernel
theorem dX3_intoParts_80 : decode cX3_intoParts 80 = .ok (.aload_n 0, 1) := by decide +kernel
theorem dX3_intoParts_81 : decode cX3_intoParts 81 = .ok (.getfield 9, 3) := by decide +kernel
theorem dX3_intoParts_84 : decode cX3_intoParts 84 = .ok (.iload_n 1, 1) := by decide +kernel
theorem dX3_intoParts_85 : decode cX3_intoParts 85 = .ok (.aload_n 0, 1) := by decide +kernel
theorem dX3_intoParts_86 : decode cX3_intoParts 86 = .ok (.getfield 9, 3) := by decide +kernel
theorem dX3_intoParts_89 : decode cX3_intoParts 89 = .ok (.iload_n 1, 1) := by decide +kernel
theorem dX3_intoParts_90 : decode cX3_intoParts 90 = .ok (.invokevirtual 47, 3) := by decide +kernel
theorem dX3_intoParts_93 : decode cX3_intoParts 93 = .ok (.iload 4, 2) := by decide +kernel
theorem dX3_intoParts_95 : decode cX3_intoParts 95 = .ok (.iload 5, 2) := by decide +kernel
theorem dX3_intoParts_97 : decode cX3_intoParts 97 = .ok (.iload 6, 2) := by decide +kernel
theorem dX3_intoParts_99 : decode cX3_intoParts 99 = .ok (.invokevirtual 50, 3) := by decide +kernel
theorem dX3_intoParts_102 : decode cX3_intoParts 102 = .ok (.ireturn, 1) := by decide +kernel
theorem dX3_intoFunction_0 : decode cX3_intoFunction 0 = .ok (.aload_n 0, 1) := by decide +kernel
theorem dX3_intoFunction_1 : decode cX3_intoFunction 1 = .ok (.getfield 9, 3) := by decide +kernel
theorem dX3_intoFunction_4 : decode cX3_intoFunction 4 = .ok (.iload_n 1, 1) := by decide +kernel
theorem dX3_intoFunction_5 : decode cX3_intoFunction 5 = .ok (.invokevirtual 35, 3) := by decide +kernel
theorem dX3_intoFunction_8 : decode cX3_intoFunction 8 = .ok (.istore 4, 2) := by decide +kernel
theorem dX3_intoFunction_10 : decode cX3_intoFunction 10 = .ok (.aload_n 0, 1) := by decide +kernel
theorem dX3_intoFunction_11 : decode cX3_intoFunction 11 = .ok (.aload_n 0, 1) := by decide +kernel
theorem dX3_intoFunction_12 : decode cX3_intoFunction 12 = .ok (.getfield 9, 3) := by decide +kernel
theorem dX3_intoFunction_15 : decode cX3_intoFunction 15 = .ok (.iload_n 1, 1) := by decide +kernel
theorem dX3_intoFunction_16 : decode cX3_intoFunction 16 = .ok (.invokevirtual 47, 3) := by decide +kernel
theorem dX3_intoFunction_19 : decode cX3_intoFunction 19 = .ok (.iload 4, 2) := by decide +kernel
theorem dX3_intoFunction_21 : decode cX3_intoFunction 21 = .ok (.iload_n 3, 1) := by decide +kernel
theorem dX3_intoFunction_22 : decode cX3_intoFunction 22 = .ok (.invokevirtual 54, 3) := by decide +kernel
theorem dX3_intoFunction_25 : decode cX3_intoFunction 25 = .ok (.istore 5, 2) := by decide +kernel
theorem dX3_intoFunction_27 : decode cX3_intoFunction 27 = .ok (.aload_n 0, 1) := by decide +kernel
theorem dX3_intoFunction_28 : decode cX3_intoFunction 28 = .ok (.iload 4, 2) := by decide +kernel
theorem dX3_intoFunction_30 : decode cX3_intoFunction 30 = .ok (.aload_n 0, 1) := by decide +kernel
theorem dX3_intoFunction_31 : decode cX3_intoFunction 31 = .ok (.getfield 9, 3) := by decide +kernel
theorem dX3_intoFunction_34 : decode cX3_intoFunction 34 = .ok (.iload_n 1, 1) := by decide +kernel
theorem dX3_intoFunction_35 : decode cX3_intoFunction 35 = .ok (.invokevirtual 47, 3) := by decide +kernel
theorem dX3_intoFunction_38 : decode cX3_intoFunction 38 = .ok (.iload 5, 2) := by decide +kernel
theorem dX3_intoFunction_40 : decode cX3_intoFunction 40 = .ok (.iload_n 2, 1) := by decide +kernel
theorem dX3_intoFunction_41 : decode cX3_intoFunction 41 = .ok (.iload_n 3, 1) := by decide +kernel
theorem dX3_intoFunction_42 : decode cX3_intoFunction 42 = .ok (.invokevirtual 57, 3) := by decide +kernel
theorem dX3_intoFunction_45 : decode cX3_intoFunction 45 = .ok (.istore 6, 2) := by decide +kernel
theorem dX3_intoFunction_47 : decode cX3_intoFunction 47 = .ok (.iload 6, 2) := by decide +kernel
theorem dX3_intoFunction_49 : decode cX3_intoFunction 49 = .ok (.ifCond .ge 8, 3) := by decide +kernel
theorem dX3_intoFunction_52 : decode cX3_intoFunction 52 = .ok (.bipush (-3), 2) := by decide +kernel
theorem dX3_intoFunction_54 : decode cX3_intoFunction 54 = .ok (.goto 19, 3) := by decide +kernel
theorem dX3_intoFunction_57 : decode cX3_intoFunction 57 = .ok (.aload_n 0, 1) := by decide +kernel
theorem dX3_intoFunction_58 : decode cX3_intoFunction 58 = .ok (.getfield 9, 3) := by decide +kernel
theorem dX3_intoFunction_61 : decode cX3_intoFunction 61 = .ok (.iload_n 1, 1) := by decide +kernel
theorem dX3_intoFunction_62 : decode cX3_intoFunction 62 = .ok (.iload 5, 2) := by decide +kernel
theorem dX3_intoFunction_64 : decode cX3_intoFunction 64 = .ok (.iload 6, 2) := by decide +kernel
theorem dX3_intoFunction_66 : decode cX3_intoFunction 66 = .ok (.bipush (-2), 2) := by decide +kernel
theorem dX3_intoFunction_68 : decode cX3_intoFunction 68 = .ok (.bipush (-2), 2) := by decide +kernel
theorem dX3_intoFunction_70 : decode cX3_intoFunction 70 = .ok (.invokevirtual 50, 3) := by decide +kernel
theorem dX3_intoFunction_73 : decode cX3_intoFunction 73 = .ok (.ireturn, 1) := by decide +kernel
theorem dX3_intoLet_0 : decode cX3_intoLet 0 = .ok (.aload_n 0, 1) := by decide +kernel
theorem dX3_intoLet_1 : decode cX3_intoLet 1 = .ok (.getfield 9, 3) := by decide +kernel
theorem dX3_intoLet_4 : decode cX3_intoLet 4 = .ok (.iload_n 1, 1) := by decide +kernel
theorem dX3_intoLet_5 : decode cX3_intoLet 5 = .ok (.invokevirtual 47, 3) := by decide +kernel
theorem dX3_intoLet_8 : decode cX3_intoLet 8 = .ok (.istore 4, 2) := by decide +kernel
theorem dX3_intoLet_10 : decode cX3_intoLet 10 = .ok (.aload_n 0, 1) := by decide +kernel
theorem dX3_intoLet_11 : decode cX3_intoLet 11 = .ok (.getfield 9, 3) := by decide +kernel
theorem dX3_intoLet_14 : decode cX3_intoLet 14 = .ok (.iload_n 1, 1) := by decide +kernel
theorem dX3_intoLet_15 : decode cX3_intoLet 15 = .ok (.invokevirtual 41, 3) := by decide +kernel
theorem dX3_intoLet_18 : decode cX3_intoLet 18 = .ok (.istore 5, 2) := by decide +kernel
theorem dX3_intoLet_20 : decode cX3_intoLet 20 = .ok (.aload_n 0, 1) := by decide +kernel
theorem dX3_intoLet_21 : decode cX3_intoLet 21 = .ok (.aload_n 0, 1) := by decide +kernel
theorem dX3_intoLet_22 : decode cX3_intoLet 22 = .ok (.getfield 9, 3) := by decide +kernel
theorem dX3_intoLet_25 : decode cX3_intoLet 25 = .ok (.iload_n 1, 1) := by decide +kernel
theorem dX3_intoLet_26 : decode cX3_intoLet 26 = .ok (.invokevirtual 35, 3) := by decide +kernel
theorem dX3_intoLet_29 : decode cX3_intoLet 29 = .ok (.iload_n 2, 1) := by decide +kernel
theorem dX3_intoLet_30 : decode cX3_intoLet 30 = .ok (.iload_n 3, 1) := by decide +kernel
theorem dX3_intoLet_31 : decode cX3_intoLet 31 = .ok (.invokevirtual 38, 3) := by decide +kernel
theorem dX3_intoLet_34 : decode cX3_intoLet 34 = .ok (.istore 6, 2) := by decide +kernel
theorem dX3_intoLet_36 : decode cX3_intoLet 36 = .ok (.iload 6, 2) := by decide +kernel
theorem dX3_intoLet_38 : decode cX3_intoLet 38 = .ok (.ifCond .ge 6, 3) := by decide +kernel
theorem dX3_intoLet_41 : decode cX3_intoLet 41 = .ok (.bipush (-3), 2) := by decide +kernel
theorem dX3_intoLet_43 : decode cX3_intoLet 43 = .ok (.ireturn, 1) := by decide +kernel
theorem dX3_intoLet_44 : decode cX3_intoLet 44 = .ok (.iload 4, 2) := by decide +kernel
theorem dX3_intoLet_46 : decode cX3_intoLet 46 = .ok (.iload_n 2, 1) := by decide +kernel
theorem dX3_intoLet_47 : decode cX3_intoLet 47 = .ok (.if_icmp .eq 16, 3) := by decide +kernel
theorem dX3_intoLet_50 : decode cX3_intoLet 50 = .ok (.aload_n 0, 1) := by decide +kernel
theorem dX3_intoLet_51 : decode cX3_intoLet 51 = .ok (.getfield 9, 3) := by decide +kernel
theorem dX3_intoLet_54 : decode cX3_intoLet 54 = .ok (.iload 5, 2) := by decide +kernel
theorem dX3_intoLet_56 : decode cX3_intoLet 56 = .ok (.iload_n 2, 1) := by decide +kernel
theorem dX3_intoLet_57 : decode cX3_intoLet 57 = .ok (.invokevirtual 15, 3) := by decide +kernel
theorem dX3_intoLet_60 : decode cX3_intoLet 60 = .ok (.ifCond .ne 20, 3) := by decide +kernel
theorem dX3_intoLet_63 : decode cX3_intoLet 63 = .ok (.aload_n 0, 1) := by decide +kernel
theorem dX3_intoLet_64 : decode cX3_intoLet 64 = .ok (.getfield 9, 3) := by decide +kernel
theorem dX3_intoLet_67 : decode cX3_intoLet 67 = .ok (.iload_n 1, 1) := by decide +kernel
theorem dX3_intoLet_68 : decode cX3_intoLet 68 = .ok (.iload 4, 2) := by decide +kernel
theorem dX3_intoLet_70 : decode cX3_intoLet 70 = .ok (.iload 6, 2) := by decide +kernel
theorem dX3_intoLet_72 : decode cX3_intoLet 72 = .ok (.iload 5, 2) := by decide +kernel
theorem dX3_intoLet_74 : decode cX3_intoLet 74 = .ok (.bipush (-2), 2) := by decide +kernel
theorem dX3_intoLet_76 : decode cX3_intoLet 76 = .ok (.invokevirtual 50, 3) := by decide +kernel
theorem dX3_intoLet_79 : decode cX3_intoLet 79 = .ok (.ireturn, 1) := by decide +kernel
theorem dX3_intoLet_80 : decode cX3_intoLet 80 = .ok (.aload_n 0, 1) := by decide +kernel
theorem dX3_intoLet_81 : decode cX3_intoLet 81 = .ok (.iload 4, 2) := by decide +kernel
theorem dX3_intoLet_83 : decode cX3_intoLet 83 = .ok (.iload 5, 2) := by decide +kernel
theorem dX3_intoLet_85 : decode cX3_intoLet 85 = .ok (.iload_n 3, 1) := by decide +kernel
theorem dX3_intoLet_86 : decode cX3_intoLet 86 = .ok (.invokevirtual 54, 3) := by decide +kernel
theorem dX3_intoLet_89 : decode cX3_intoLet 89 = .ok (.istore 7, 2) := by decide +kernel
theorem dX3_intoLet_91 : decode cX3_intoLet 91 = .ok (.aload_n 0, 1) := by decide +kernel
theorem dX3_intoLet_92 : decode cX3_intoLet 92 = .ok (.iload 5, 2) := by decide +kernel
theorem dX3_intoLet_94 : decode cX3_intoLet 94 = .ok (.iload 4, 2) := by decide +kernel
theorem dX3_intoLet_96 : decode cX3_intoLet 96 = .ok (.iload 7, 2) := by decide +kernel
theorem dX3_intoLet_98 : decode cX3_intoLet 98 = .ok (.iload_n 2, 1) := by decide +kernel
theorem dX3_intoLet_99 : decode cX3_intoLet 99 = .ok (.iload_n 3, 1) := by decide +kernel
theorem dX3_intoLet_100 : decode cX3_intoLet 100 = .ok (.invokevirtual 57, 3) := by decide +kernel
theorem dX3_intoLet_103 : decode cX3_intoLet 103 = .ok (.istore 8, 2) := by decide +kernel
theorem dX3_intoLet_105 : decode cX3_intoLet 105 = .ok (.iload 8, 2) := by decide +kernel
theorem dX3_intoLet_107 : decode cX3_intoLet 107 = .ok (.ifCond .ge 8, 3) := by decide +kernel
theorem dX3_intoLet_110 : decode cX3_intoLet 110 = .ok (.bipush (-3), 2) := by decide +kernel
theorem dX3_intoLet_112 : decode cX3_intoLet 112 = .ok (.goto 19, 3) := by decide +kernel
theorem dX3_intoLet_115 : decode cX3_intoLet 115 = .ok (.aload_n 0, 1) := by decide +kernel
theorem dX3_intoLet_116 : decode cX3_intoLet 116 = .ok (.getfield 9, 3) := by decide +kernel
theorem dX3_intoLet_119 : decode cX3_intoLet 119 = .ok (.iload_n 1, 1) := by decide +kernel
theorem dX3_intoLet_120 : decode cX3_intoLet 120 = .ok (.iload 7, 2) := by decide +kernel
theorem dX3_intoLet_122 : decode cX3_intoLet 122 = .ok (.iload 6, 2) := by decide +kernel
theorem dX3_intoLet_124 : decode cX3_intoLet 124 = .ok (.iload 8, 2) := by decide +kernel
theorem dX3_intoLet_126 : decode cX3_intoLet 126 = .ok (.bipush (-2), 2) := by decide +kernel
theorem dX3_intoLet_128 : decode cX3_intoLet 128 = .ok (.invokevirtual 50, 3) := by decide +kernel
theorem dX3_intoLet_131 : decode cX3_intoLet 131 = .ok (.ireturn, 1) := by decide +kernel
theorem dX3_letterFor_0 : decode cX3_letterFor 0 = .ok (.aload_n 0, 1) := by decide +kernel
theorem dX3_letterFor_1 : decode cX3_letterFor 1 = .ok (.getfield 9, 3) := by decide +kernel
theorem dX3_letterFor_4 : decode cX3_letterFor 4 = .ok (.iload_n 3, 1) := by decide +kernel
theorem dX3_letterFor_5 : decode cX3_letterFor 5 = .ok (.iload_n 1, 1) := by decide +kernel
theorem dX3_letterFor_6 : decode cX3_letterFor 6 = .ok (.invokevirtual 15, 3) := by decide +kernel
theorem dX3_letterFor_9 : decode cX3_letterFor 9 = .ok (.ifCond .ne 5, 3) := by decide +kernel
theorem dX3_letterFor_12 : decode cX3_letterFor 12 = .ok (.iload_n 1, 1) := by decide +kernel
theorem dX3_letterFor_13 : decode cX3_letterFor 13 = .ok (.ireturn, 1) := by decide +kernel
theorem dX3_letterFor_14 : decode cX3_letterFor 14 = .ok (.iconst 0, 1) := by decide +kernel
theorem dX3_letterFor_15 : decode cX3_letterFor 15 = .ok (.istore 4, 2) := by decide +kernel
theorem dX3_letterFor_17 : decode cX3_letterFor 17 = .ok (.iload 4, 2) := by decide +kernel
theorem dX3_letterFor_19 : decode cX3_letterFor 19 = .ok (.bipush 26, 2) := by decide +kernel
theorem dX3_letterFor_21 : decode cX3_letterFor 21 = .ok (.if_icmp .ge 38, 3) := by decide +kernel
theorem dX3_letterFor_24 : decode cX3_letterFor 24 = .ok (.aload_n 0, 1) := by decide +kernel
theorem dX3_letterFor_25 : decode cX3_letterFor 25 = .ok (.getfield 9, 3) := by decide +kernel
theorem dX3_letterFor_28 : decode cX3_letterFor 28 = .ok (.iload_n 2, 1) := by decide +kernel
theorem dX3_letterFor_29 : decode cX3_letterFor 29 = .ok (.iload 4, 2) := by decide +kernel
theorem dX3_letterFor_31 : decode cX3_letterFor 31 = .ok (.invokevirtual 15, 3) := by decide +kernel
theorem dX3_letterFor_34 : decode cX3_letterFor 34 = .ok (.ifCond .ne 19, 3) := by decide +kernel
theorem dX3_letterFor_37 : decode cX3_letterFor 37 = .ok (.aload_n 0, 1) := by decide +kernel
theorem dX3_letterFor_38 : decode cX3_letterFor 38 = .ok (.getfield 9, 3) := by decide +kernel
theorem dX3_letterFor_41 : decode cX3_letterFor 41 = .ok (.iload_n 3, 1) := by decide +kernel
theorem dX3_letterFor_42 : decode cX3_letterFor 42 = .ok (.iload 4, 2) := by decide +kernel
theorem dX3_letterFor_44 : decode cX3_letterFor 44 = .ok (.invokevirtual 15, 3) := by decide +kernel
theorem dX3_letterFor_47 : decode cX3_letterFor 47 = .ok (.ifCond .ne 6, 3) := by decide +kernel
theorem dX3_letterFor_50 : decode cX3_letterFor 50 = .ok (.iload 4, 2) := by decide +kernel
theorem dX3_letterFor_52 : decode cX3_letterFor 52 = .ok (.ireturn, 1) := by decide +kernel
theorem dX3_letterFor_53 : decode cX3_letterFor 53 = .ok (.iinc 4 1, 3) := by decide +kernel
theorem dX3_letterFor_56 : decode cX3_letterFor 56 = .ok (.goto (-39), 3) := by decide +kernel
theorem dX3_letterFor_59 : decode cX3_letterFor 59 = .ok (.bipush (-3), 2) := by decide +kernel
theorem dX3_letterFor_61 : decode cX3_letterFor 61 = .ok (.ireturn, 1) := by decide +kernel
theorem dX3_intoBody_0 : decode cX3_intoBody 0 = .ok (.iload_n 3, 1) := by decide +kernel
theorem dX3_intoBody_1 : decode cX3_intoBody 1 = .ok (.ifCond .ge 6, 3) := by decide +kernel
theorem dX3_intoBody_4 : decode cX3_intoBody 4 = .ok (.bipush (-3), 2) := by decide +kernel
theorem dX3_intoBody_6 : decode cX3_intoBody 6 = .ok (.ireturn, 1) := by decide +kernel
theorem dX3_intoBody_7 : decode cX3_intoBody 7 = .ok (.iload_n 3, 1) := by decide +kernel
theorem dX3_intoBody_8 : decode cX3_intoBody 8 = .ok (.iload_n 2, 1) := by decide +kernel
theorem dX3_intoBody_9 : decode cX3_intoBody 9 = .ok (.if_icmp .ne 13, 3) := by decide +kernel
theorem dX3_intoBody_12 : decode cX3_intoBody 12 = .ok (.aload_n 0, 1) := by decide +kernel
theorem dX3_intoBody_13 : decode cX3_intoBody 13 = .ok (.iload_n 1, 1) := by decide +kernel
theorem dX3_intoBody_14 : decode cX3_intoBody 14 = .ok (.iload 4, 2) := by decide +kernel
theorem dX3_intoBody_16 : decode cX3_intoBody 16 = .ok (.iload 5, 2) := by decide +kernel
theorem dX3_intoBody_18 : decode cX3_intoBody 18 = .ok (.invokevirtual 38, 3) := by decide +kernel
theorem dX3_intoBody_21 : decode cX3_intoBody 21 = .ok (.ireturn, 1) := by decide +kernel
theorem dX3_intoBody_22 : decode cX3_intoBody 22 = .ok (.aload_n 0, 1) := by decide +kernel
theorem dX3_intoBody_23 : decode cX3_intoBody 23 = .ok (.getfield 9, 3) := by decide +kernel
theorem dX3_intoBody_26 : decode cX3_intoBody 26 = .ok (.iload_n 3, 1) := by decide +kernel
theorem dX3_intoBody_27 : decode cX3_intoBody 27 = .ok (.invokevirtual 60, 3) := by decide +kernel
theorem dX3_intoBody_30 : decode cX3_intoBody 30 = .ok (.istore 6, 2) := by decide +kernel
theorem dX3_intoBody_32 : decode cX3_intoBody 32 = .ok (.iload 6, 2) := by decide +kernel
theorem dX3_intoBody_34 : decode cX3_intoBody 34 = .ok (.ifCond .ge 6, 3) := by decide +kernel
theorem dX3_intoBody_37 : decode cX3_intoBody 37 = .ok (.bipush (-3), 2) := by decide +kernel
theorem dX3_intoBody_39 : decode cX3_intoBody 39 = .ok (.ireturn, 1) := by decide +kernel
theorem dX3_intoBody_40 : decode cX3_intoBody 40 = .ok (.aload_n 0, 1) := by decide +kernel
theorem dX3_intoBody_41 : decode cX3_intoBody 41 = .ok (.iload_n 1, 1) := by decide +kernel
theorem dX3_intoBody_42 : decode cX3_intoBody 42 = .ok (.iload_n 2, 1) := by decide +kernel
theorem dX3_intoBody_43 : decode cX3_intoBody 43 = .ok (.iload 6, 2) := by decide +kernel
theorem dX3_intoBody_45 : decode cX3_intoBody 45 = .ok (.invokevirtual 38, 3) := by decide +kernel
theorem dX3_intoBody_48 : decode cX3_intoBody 48 = .ok (.istore 7, 2) := by decide +kernel
theorem dX3_intoBody_50 : decode cX3_intoBody 50 = .ok (.iload 7, 2) := by decide +kernel
theorem dX3_intoBody_52 : decode cX3_intoBody 52 = .ok (.ifCond .ge 8, 3) := by decide +kernel
theorem dX3_intoBody_55 : decode cX3_intoBody 55 = .ok (.bipush (-3), 2) := by decide +kernel
theorem dX3_intoBody_57 : decode cX3_intoBody 57 = .ok (.goto 13, 3) := by decide +kernel
theorem dX3_intoBody_60 : decode cX3_intoBody 60 = .ok (.aload_n 0, 1) := by decide +kernel
theorem dX3_intoBody_61 : decode cX3_intoBody 61 = .ok (.iload 7, 2) := by decide +kernel
theorem dX3_intoBody_63 : decode cX3_intoBody 63 = .ok (.iload 4, 2) := by decide +kernel
theorem dX3_intoBody_65 : decode cX3_intoBody 65 = .ok (.iload 5, 2) := by decide +kernel
theorem dX3_intoBody_67 : decode cX3_intoBody 67 = .ok (.invokevirtual 38, 3) := by decide +kernel
theorem dX3_intoBody_70 : decode cX3_intoBody 70 = .ok (.ireturn, 1) := by decide +kernel
theorem dX4_init_0 : decode cX4_init 0 = .ok (.aload_n 0, 1) := by decide +kernel
theorem dX4_init_1 : decode cX4_init 1 = .ok (.invokespecial 3, 3) := by decide +kernel
theorem dX4_init_4 : decode cX4_init 4 = .ok (.aload_n 0, 1) := by decide +kernel
theorem dX4_init_5 : decode cX4_init 5 = .ok (.sipush 600, 3) := by decide +kernel
theorem dX4_init_8 : decode cX4_init 8 = .ok (.newarray .byte, 2) := by decide +kernel
theorem dX4_init_10 : decode cX4_init 10 = .ok (.putfield 9, 3) := by decide +kernel
theorem dX4_init_13 : decode cX4_init 13 = .ok (.aload_n 0, 1) := by decide +kernel
theorem dX4_init_14 : decode cX4_init 14 = .ok (.aload_n 1, 1) := by decide +kernel
theorem dX4_init_15 : decode cX4_init 15 = .ok (.putfield 15, 3) := by decide +kernel
theorem dX4_init_18 : decode cX4_init 18 = .ok (.aload_n 0, 1) := by decide +kernel
theorem dX4_init_19 : decode cX4_init 19 = .ok (.aload_n 2, 1) := by decide +kernel
theorem dX4_init_20 : decode cX4_init 20 = .ok (.putfield 19, 3) := by decide +kernel
theorem dX4_init_23 : decode cX4_init 23 = .ok (.aload_n 0, 1) := by decide +kernel
theorem dX4_init_24 : decode cX4_init 24 = .ok (.iconst 0, 1) := by decide +kernel
theorem dX4_init_25 : decode cX4_init 25 = .ok (.putfield 23, 3) := by decide +kernel
theorem dX4_init_28 : decode cX4_init 28 = .ok (.aload_n 0, 1) := by decide +kernel
theorem dX4_init_29 : decode cX4_init 29 = .ok (.iconst 0, 1) := by decide +kernel
theorem dX4_init_30 : decode cX4_init 30 = .ok (.putfield 27, 3) := by decide +kernel
theorem dX4_init_33 : decode cX4_init 33 = .ok (.return_, 1) := by decide +kernel
theorem dX4_tapeLength_0 : decode cX4_tapeLength 0 = .ok (.aload_n 0, 1) := by decide +kernel
theorem dX4_tapeLength_1 : decode cX4_tapeLength 1 = .ok (.getfield 23, 3) := by decide +kernel
theorem dX4_tapeLength_4 : decode cX4_tapeLength 4 = .ok (.ireturn, 1) := by decide +kernel
theorem dX4_addBytes_0 : decode cX4_addBytes 0 = .ok (.iload_n 3, 1) := by decide +kernel
theorem dX4_addBytes_1 : decode cX4_addBytes 1 = .ok (.iconst 1, 1) := by decide +kernel
theorem dX4_addBytes_2 : decode cX4_addBytes 2 = .ok (.if_icmp .lt 9, 3) := by decide +kernel
theorem dX4_addBytes_5 : decode cX4_addBytes 5 = .ok (.iload_n 3, 1) := by decide +kernel
theorem dX4_addBytes_6 : decode cX4_addBytes 6 = .ok (.bipush 8, 2) := by decide +kernel
theorem dX4_addBytes_8 : decode cX4_addBytes 8 = .ok (.if_icmp .le 5, 3) := by decide +kernel
theorem dX4_addBytes_11 : decode cX4_addBytes 11 = .ok (.iconst (-1), 1) := by decide +kernel
theorem dX4_addBytes_12 : decode cX4_addBytes 12 = .ok (.ireturn, 1) := by decide +kernel
theorem dX4_addBytes_13 : decode cX4_addBytes 13 = .ok (.aload_n 0, 1) := by decide +kernel
theorem dX4_addBytes_14 : decode cX4_addBytes 14 = .ok (.getfield 23, 3) := by decide +kernel
theorem dX4_addBytes_17 : decode cX4_addBytes 17 = .ok (.iload_n 3, 1) := by decide +kernel
theorem dX4_addBytes_18 : decode cX4_addBytes 18 = .ok (.iadd, 1) := by decide +kernel
theorem dX4_addBytes_19 : decode cX4_addBytes 19 = .ok (.sipush 600, 3) := by decide +kernel
theorem dX4_addBytes_22 : decode cX4_addBytes 22 = .ok (.if_icmp .le 6, 3) := by decide +kernel
theorem dX4_addBytes_25 : decode cX4_addBytes 25 = .ok (.bipush (-3), 2) := by decide +kernel
theorem dX4_addBytes_27 : decode cX4_addBytes 27 = .ok (.ireturn, 1) := by decide +kernel
theorem dX4_addBytes_28 : decode cX4_addBytes 28 = .ok (.iload_n 3, 1) := by decide +kernel
theorem dX4_addBytes_29 : decode cX4_addBytes 29 = .ok (.iconst 1, 1) := by decide +kernel
theorem dX4_addBytes_30 : decode cX4_addBytes 30 = .ok (.isub, 1) := by decide +kernel
theorem dX4_addBytes_31 : decode cX4_addBytes 31 = .ok (.istore 4, 2) := by decide +kernel
theorem dX4_addBytes_33 : decode cX4_addBytes 33 = .ok (.iload 4, 2) := by decide +kernel
theorem dX4_addBytes_35 : decode cX4_addBytes 35 = .ok (.ifCond .lt 21, 3) := by decide +kernel
theorem dX4_addBytes_38 : decode cX4_addBytes 38 = .ok (.aload_n 0, 1) := by decide +kernel
theorem dX4_addBytes_39 : decode cX4_addBytes 39 = .ok (.lload_n 1, 1) := by decide +kernel
theorem dX4_addBytes_40 : decode cX4_addBytes 40 = .ok (.bipush 8, 2) := by decide +kernel
theorem dX4_addBytes_42 : decode cX4_addBytes 42 = .ok (.iload 4, 2) := by decide +kernel
theorem dX4_addBytes_44 : decode cX4_addBytes 44 = .ok (.imul, 1) := by decide +kernel
theorem dX4_addBytes_45 : decode cX4_addBytes 45 = .ok (.lushr, 1) := by decide +kernel
theorem dX4_addBytes_46 : decode cX4_addBytes 46 = .ok (.l2i, 1) := by decide +kernel
theorem dX4_addBytes_47 : decode cX4_addBytes 47 = .ok (.invokevirtual 30, 3) := by decide +kernel
theorem dX4_addBytes_50 : decode cX4_addBytes 50 = .ok (.iinc 4 (-1), 3) := by decide +kernel
theorem dX4_addBytes_53 : decode cX4_addBytes 53 = .ok (.goto (-20), 3) := by decide +kernel
theorem dX4_addBytes_56 : decode cX4_addBytes 56 = .ok (.aload_n 0, 1) := by decide +kernel
theorem dX4_addBytes_57 : decode cX4_addBytes 57 = .ok (.getfield 23, 3) := by decide +kernel
theorem dX4_addBytes_60 : decode cX4_addBytes 60 = .ok (.ireturn, 1) := by decide +kernel
theorem dX4_takeFrom_0 : decode cX4_takeFrom 0 = .ok (.aload_n 1, 1) := by decide +kernel
theorem dX4_takeFrom_1 : decode cX4_takeFrom 1 = .ok (.invokevirtual 34, 3) := by decide +kernel
theorem dX4_takeFrom_4 : decode cX4_takeFrom 4 = .ok (.istore_n 2, 1) := by decide +kernel
theorem dX4_takeFrom_5 : decode cX4_takeFrom 5 = .ok (.iload_n 2, 1) := by decide +kernel
theorem dX4_takeFrom_6 : decode cX4_takeFrom 6 = .ok (.sipush 600, 3) := by decide +kernel
theorem dX4_takeFrom_9 : decode cX4_takeFrom 9 = .ok (.if_icmp .le 6, 3) := by decide +kernel
theorem dX4_takeFrom_12 : decode cX4_takeFrom 12 = .ok (.bipush (-3), 2) := by decide +kernel
theorem dX4_takeFrom_14 : decode cX4_takeFrom 14 = .ok (.ireturn, 1) := by decide +kernel
theorem dX4_takeFrom_15 : decode cX4_takeFrom 15 = .ok (.aload_n 0, 1) := by decide +kernel
theorem dX4_takeFrom_16 : decode cX4_takeFrom 16 = .ok (.iconst 0, 1) := by decide +kernel
theorem dX4_takeFrom_17 : decode cX4_takeFrom 17 = .ok (.putfield 23, 3) := by decide +kernel
theorem dX4_takeFrom_20 : decode cX4_takeFrom 20 = .ok (.iconst 0, 1) := by decide +kernel
theorem dX4_takeFrom_21 : decode cX4_takeFrom 21 = .ok (.istore_n 3, 1) := by decide +kernel
theorem dX4_takeFrom_22 : decode cX4_takeFrom 22 = .ok (.iload_n 3, 1) := by decide +kernel
theorem dX4_takeFrom_23 : decode cX4_takeFrom 23 = .ok (.iload_n 2, 1) := by decide +kernel
theorem dX4_takeFrom_24 : decode cX4_takeFrom 24 = .ok (.if_icmp .ge 18, 3) := by decide +kernel
theorem dX4_takeFrom_27 : decode cX4_takeFrom 27 = .ok (.aload_n 0, 1) := by decide +kernel
theorem dX4_takeFrom_28 : decode cX4_takeFrom 28 = .ok (.aload_n 1, 1) := by decide +kernel
theorem dX4_takeFrom_29 : decode cX4_takeFrom 29 = .ok (.iload_n 3, 1) := by decide +kernel
theorem dX4_takeFrom_30 : decode cX4_takeFrom 30 = .ok (.invokevirtual 40, 3) := by decide +kernel
theorem dX4_takeFrom_33 : decode cX4_takeFrom 33 = .ok (.invokevirtual 30, 3) := by decide +kernel
theorem dX4_takeFrom_36 : decode cX4_takeFrom 36 = .ok (.iinc 3 1, 3) := by decide +kernel
theorem dX4_takeFrom_39 : decode cX4_takeFrom 39 = .ok (.goto (-17), 3) := by decide +kernel
theorem dX4_takeFrom_42 : decode cX4_takeFrom 42 = .ok (.aload_n 0, 1) := by decide +kernel
theorem dX4_takeFrom_43 : decode cX4_takeFrom 43 = .ok (.getfield 23, 3) := by decide +kernel
theorem dX4_takeFrom_46 : decode cX4_takeFrom 46 = .ok (.ireturn, 1) := by decide +kernel
theorem dX4_wholeTape_0 : decode cX4_wholeTape 0 = .ok (.aload_n 0, 1) := by decide +kernel
theorem dX4_wholeTape_1 : decode cX4_wholeTape 1 = .ok (.getfield 19, 3) := by decide +kernel
theorem dX4_wholeTape_4 : decode cX4_wholeTape 4 = .ok (.invokevirtual 44, 3) := by decide +kernel
theorem dX4_wholeTape_7 : decode cX4_wholeTape 7 = .ok (.istore_n 1, 1) := by decide +kernel
theorem dX4_wholeTape_8 : decode cX4_wholeTape 8 = .ok (.aload_n 0, 1) := by decide +kernel
theorem dX4_wholeTape_9 : decode cX4_wholeTape 9 = .ok (.getfield 15, 3) := by decide +kernel
theorem dX4_wholeTape_12 : decode cX4_wholeTape 12 = .ok (.invokevirtual 49, 3) := by decide +kernel
theorem dX4_wholeTape_15 : decode cX4_wholeTape 15 = .ok (.istore_n 2, 1) := by decide +kernel
theorem dX4_wholeTape_16 : decode cX4_wholeTape 16 = .ok (.aload_n 0, 1) := by decide +kernel
theorem dX4_wholeTape_17 : decode cX4_wholeTape 17 = .ok (.iconst 0, 1) := by decide +kernel
theorem dX4_wholeTape_18 : decode cX4_wholeTape 18 = .ok (.putfield 27, 3) := by decide +kernel
theorem dX4_wholeTape_21 : decode cX4_wholeTape 21 = .ok (.aload_n 0, 1) := by decide +kernel
theorem dX4_wholeTape_22 : decode cX4_wholeTape 22 = .ok (.iconst 1, 1) := by decide +kernel
theorem dX4_wholeTape_23 : decode cX4_wholeTape 23 = .ok (.invokevirtual 52, 3) := by decide +kernel
theorem dX4_wholeTape_26 : decode cX4_wholeTape 26 = .ok (.istore_n 3, 1) := by decide +kernel
theorem dX4_wholeTape_27 : decode cX4_wholeTape 27 = .ok (.iload_n 3, 1) := by decide +kernel
theorem dX4_wholeTape_28 : decode cX4_wholeTape 28 = .ok (.ifCond .lt 19, 3) := by decide +kernel
theorem dX4_wholeTape_31 : decode cX4_wholeTape 31 = .ok (.aload_n 0, 1) := by decide +kernel
theorem dX4_wholeTape_32 : decode cX4_wholeTape 32 = .ok (.getfield 27, 3) := by decide +kernel
theorem dX4_wholeTape_35 : decode cX4_wholeTape 35 = .ok (.aload_n 0, 1) := by decide +kernel
theorem dX4_wholeTape_36 : decode cX4_wholeTape 36 = .ok (.getfield 23, 3) := by decide +kernel
theorem dX4_wholeTape_39 : decode cX4_wholeTape 39 = .ok (.if_icmp .ge 8, 3) := by decide +kernel
theorem dX4_wholeTape_42 : decode cX4_wholeTape 42 = .ok (.aload_n 0, 1) := by decide +kernel
theorem dX4_wholeTape_43 : decode cX4_wholeTape 43 = .ok (.invokevirtual 55, 3) := by decide +kernel
theorem dX4_wholeTape_46 : decode cX4_wholeTape 46 = .ok (.istore_n 3, 1) := by decide +kernel
theorem dX4_wholeTape_47 : decode cX4_wholeTape 47 = .ok (.iload_n 3, 1) := by decide +kernel
theorem dX4_wholeTape_48 : decode cX4_wholeTape 48 = .ok (.ifCond .ge 19, 3) := by decide +kernel
theorem dX4_wholeTape_51 : decode cX4_wholeTape 51 = .ok (.aload_n 0, 1) := by decide +kernel
theorem dX4_wholeTape_52 : decode cX4_wholeTape 52 = .ok (.getfield 19, 3) := by decide +kernel
theorem dX4_wholeTape_55 : decode cX4_wholeTape 55 = .ok (.iload_n 1, 1) := by decide +kernel
theorem dX4_wholeTape_56 : decode cX4_wholeTape 56 = .ok (.invokevirtual 58, 3) := by decide +kernel
theorem dX4_wholeTape_59 : decode cX4_wholeTape 59 = .ok (.aload_n 0, 1) := by decide +kernel
theorem dX4_wholeTape_60 : decode cX4_wholeTape 60 = .ok (.getfield 15, 3) := by decide +kernel
theorem dX4_wholeTape_63 : decode cX4_wholeTape 63 = .ok (.iload_n 2, 1) := by decide +kernel
theorem dX4_wholeTape_64 : decode cX4_wholeTape 64 = .ok (.invokevirtual 61, 3) := by decide +kernel
theorem dX4_wholeTape_67 : decode cX4_wholeTape 67 = .ok (.aload_n 0, 1) := by decide +kernel
theorem dX4_wholeTape_68 : decode cX4_wholeTape 68 = .ok (.iconst 0, 1) := by decide +kernel
theorem dX4_wholeTape_69 : decode cX4_wholeTape 69 = .ok (.putfield 23, 3) := by decide +kernel
theorem dX4_wholeTape_72 : decode cX4_wholeTape 72 = .ok (.iload_n 3, 1) := by decide +kernel
theorem dX4_wholeTape_73 : decode cX4_wholeTape 73 = .ok (.ireturn, 1) := by decide +kernel
theorem dX4_add_0 : decode cX4_add 0 = .ok (.aload_n 0, 1) := by decide +kernel
theorem dX4_add_1 : decode cX4_add 1 = .ok (.getfield 23, 3) := by decide +kernel
theorem dX4_add_4 : decode cX4_add 4 = .ok (.ifCond .lt 34, 3) := by decide +kernel
theorem dX4_add_7 : decode cX4_add 7 = .ok (.aload_n 0, 1) := by decide +kernel
theorem dX4_add_8 : decode cX4_add 8 = .ok (.getfield 23, 3) := by decide +kernel
theorem dX4_add_11 : decode cX4_add 11 = .ok (.sipush 600, 3) := by decide +kernel
theorem dX4_add_14 : decode cX4_add 14 = .ok (.if_icmp .ge 24, 3) := by decide +kernel
theorem dX4_add_17 : decode cX4_add 17 = .ok (.aload_n 0, 1) := by decide +kernel
theorem dX4_add_18 : decode cX4_add 18 = .ok (.getfield 9, 3) := by decide +kernel
theorem dX4_add_21 : decode cX4_add 21 = .ok (.aload_n 0, 1) := by decide +kernel
theorem dX4_add_22 : decode cX4_add 22 = .ok (.getfield 23, 3) := by decide +kernel
theorem dX4_add_25 : decode cX4_add 25 = .ok (.iload_n 1, 1) := by decide +kernel
theorem dX4_add_26 : decode cX4_add 26 = .ok (.i2b, 1) := by decide +kernel
theorem dX4_add_27 : decode cX4_add 27 = .ok (.bastore, 1) := by decide +kernel
theorem dX4_add_28 : decode cX4_add 28 = .ok (.aload_n 0, 1) := by decide +kernel
theorem dX4_add_29 : decode cX4_add 29 = .ok (.dup, 1) := by decide +kernel
theorem dX4_add_30 : decode cX4_add 30 = .ok (.getfield 23, 3) := by decide +kernel
theorem dX4_add_33 : decode cX4_add 33 = .ok (.iconst 1, 1) := by decide +kernel
theorem dX4_add_34 : decode cX4_add 34 = .ok (.iadd, 1) := by decide +kernel
theorem dX4_add_35 : decode cX4_add 35 = .ok (.putfield 23, 3) := by decide +kernel
theorem dX4_add_38 : decode cX4_add 38 = .ok (.return_, 1) := by decide +kernel
theorem dX4_termHere_0 : decode cX4_termHere 0 = .ok (.aload_n 0, 1) := by decide +kernel
theorem dX4_termHere_1 : decode cX4_termHere 1 = .ok (.invokevirtual 62, 3) := by decide +kernel
theorem dX4_termHere_4 : decode cX4_termHere 4 = .ok (.istore_n 2, 1) := by decide +kernel
theorem dX4_termHere_5 : decode cX4_termHere 5 = .ok (.iload_n 2, 1) := by decide +kernel
theorem dX4_termHere_6 : decode cX4_termHere 6 = .ok (.invokestatic 65, 3) := by decide +kernel
theorem dX4_termHere_9 : decode cX4_termHere 9 = .ok (.ifCond .ne 8, 3) := by decide +kernel
theorem dX4_termHere_12 : decode cX4_termHere 12 = .ok (.aload_n 0, 1) := by decide +kernel
theorem dX4_termHere_13 : decode cX4_termHere 13 = .ok (.invokevirtual 55, 3) := by decide +kernel
theorem dX4_termHere_16 : decode cX4_termHere 16 = .ok (.ireturn, 1) := by decide +kernel
theorem dX4_termHere_17 : decode cX4_termHere 17 = .ok (.iload_n 1, 1) := by decide +kernel
theorem dX4_termHere_18 : decode cX4_termHere 18 = .ok (.bipush 40, 2) := by decide +kernel
theorem dX4_termHere_20 : decode cX4_termHere 20 = .ok (.if_icmp .le 6, 3) := by decide +kernel
theorem dX4_termHere_23 : decode cX4_termHere 23 = .ok (.bipush (-3), 2) := by decide +kernel
theorem dX4_termHere_25 : decode cX4_termHere 25 = .ok (.ireturn, 1) := by decide +kernel
theorem dX4_termHere_26 : decode cX4_termHere 26 = .ok (.iload_n 2, 1) := by decide +kernel
theorem dX4_termHere_27 : decode cX4_termHere 27 = .ok (.lookupswitch 65 #[(40, 47), (91, 53), (92, 41), (123, 59)], 41) := by decide +kernel
theorem dX4_termHere_68 : decode cX4_termHere 68 = .ok (.aload_n 0, 1) := by decide +kernel
theorem dX4_termHere_69 : decode cX4_termHere 69 = .ok (.iload_n 1, 1) := by decide +kernel
theorem dX4_termHere_70 : decode cX4_termHere 70 = .ok (.invokevirtual 69, 3) := by decide +kernel
theorem dX4_termHere_73 : decode cX4_termHere 73 = .ok (.ireturn, 1) := by decide +kernel
theorem dX4_termHere_74 : decode cX4_termHere 74 = .ok (.aload_n 0, 1) := by decide +kernel
theorem dX4_termHere_75 : decode cX4_termHere 75 = .ok (.iload_n 1, 1) := by decide +kernel
theorem dX4_termHere_76 : decode cX4_termHere 76 = .ok (.invokevirtual 72, 3) := by decide +kernel
theorem dX4_termHere_79 : decode cX4_termHere 79 = .ok (.ireturn, 1) := by decide +kernel
theorem dX4_termHere_80 : decode cX4_termHere 80 = .ok (.aload_n 0, 1) := by decide +kernel
theorem dX4_termHere_81 : decode cX4_termHere 81 = .ok (.iload_n 1, 1) := by decide +kernel
theorem dX4_termHere_82 : decode cX4_termHere 82 = .ok (.invokevirtual 75, 3) := by decide +kernel
theorem dX4_termHere_85 : decode cX4_termHere 85 = .ok (.ireturn, 1) := by decide +kernel
theorem dX4_termHere_86 : decode cX4_termHere 86 = .ok (.aload_n 0, 1) := by decide +kernel
theorem dX4_termHere_87 : decode cX4_termHere 87 = .ok (.iload_n 1, 1) := by decide +kernel
theorem dX4_termHere_88 : decode cX4_termHere 88 = .ok (.invokevirtual 78, 3) := by decide +kernel
theorem dX4_termHere_91 : decode cX4_termHere 91 = .ok (.ireturn, 1) := by decide +kernel
theorem dX4_termHere_92 : decode cX4_termHere 92 = .ok (.iload_n 2, 1) := by decide +kernel
theorem dX4_termHere_93 : decode cX4_termHere 93 = .ok (.bipush 97, 2) := by decide +kernel
theorem dX4_termHere_95 : decode cX4_termHere 95 = .ok (.isub, 1) := by decide +kernel
theorem dX4_termHere_96 : decode cX4_termHere 96 = .ok (.invokestatic 81, 3) := by decide +kernel
theorem dX4_termHere_99 : decode cX4_termHere 99 = .ok (.ifCond .eq 10, 3) := by decide +kernel
theorem dX4_termHere_102 : decode cX4_termHere 102 = .ok (.aload_n 0, 1) := by decide +kernel
theorem dX4_termHere_103 : decode cX4_termHere 103 = .ok (.invokevirtual 84, 3) := by decide +kernel
theorem dX4_termHere_106 : decode cX4_termHere 106 = .ok (.goto 7, 3) := by decide +kernel
theorem dX4_termHere_109 : decode cX4_termHere 109 = .ok (.aload_n 0, 1) := by decide +kernel
theorem dX4_termHere_110 : decode cX4_termHere 110 = .ok (.invokevirtual 87, 3) := by decide +kernel
theorem dX4_termHere_113 : decode cX4_termHere 113 = .ok (.ireturn, 1) := by decide +kernel
theorem dX4_nameHere_0 : decode cX4_nameHere 0 = .ok (.aload_n 0, 1) := by decide +kernel
theorem dX4_nameHere_1 : decode cX4_nameHere 1 = .ok (.invokevirtual 62, 3) := by decide +kernel
theorem dX4_nameHere_4 : decode cX4_nameHere 4 = .ok (.bipush 97, 2) := by decide +kernel
theorem dX4_nameHere_6 : decode cX4_nameHere 6 = .ok (.isub, 1) := by decide +kernel
theorem dX4_nameHere_7 : decode cX4_nameHere 7 = .ok (.istore_n 1, 1) := by decide +kernel
theorem dX4_nameHere_8 : decode cX4_nameHere 8 = .ok (.aload_n 0, 1) := by decide +kernel
theorem dX4_nameHere_9 : decode cX4_nameHere 9 = .ok (.dup, 1) := by decide +kernel
theorem dX4_nameHere_10 : decode cX4_nameHere 10 = .ok (.getfield 27, 3) := by decide +kernel
theorem dX4_nameHere_13 : decode cX4_nameHere 13 = .ok (.iconst 1, 1) := by decide +kernel
theorem dX4_nameHere_14 : decode cX4_nameHere 14 = .ok (.iadd, 1) := by decide +kernel
theorem dX4_nameHere_15 : decode cX4_nameHere 15 = .ok (.putfield 27, 3) := by decide +kernel
theorem dX4_nameHere_18 : decode cX4_nameHere 18 = .ok (.aload_n 0, 1) := by decide +kernel
theorem dX4_nameHere_19 : decode cX4_nameHere 19 = .ok (.getfield 19, 3) := by decide +kernel
theorem dX4_nameHere_22 : decode cX4_nameHere 22 = .ok (.iload_n 1, 1) := by decide +kernel
theorem dX4_nameHere_23 : decode cX4_nameHere 23 = .ok (.invokevirtual 90, 3) := by decide +kernel
theorem dX4_nameHere_26 : decode cX4_nameHere 26 = .ok (.ireturn, 1) := by decide +kernel
theorem dX4_numberHere_0 : decode cX4_numberHere 0 = .ok (.iconst 1, 1) := by decide +kernel
theorem dX4_numberHere_1 : decode cX4_numberHere 1 = .ok (.istore_n 1, 1) := by decide +kernel
theorem dX4_numberHere_2 : decode cX4_numberHere 2 = .ok (.aload_n 0, 1) := by decide +kernel
theorem dX4_numberHere_3 : decode cX4_numberHere 3 = .ok (.invokevirtual 62, 3) := by decide +kernel
theorem dX4_numberHere_6 : decode cX4_numberHere 6 = .ok (.bipush 45, 2) := by decide +kernel
theorem dX4_numberHere_8 : decode cX4_numberHere 8 = .ok (.if_icmp .ne 39, 3) := by decide +kernel
theorem dX4_numberHere_11 : decode cX4_numberHere 11 = .ok (.iconst (-1), 1) := by decide +kernel
theorem dX4_numberHere_12 : decode cX4_numberHere 12 = .ok (.istore_n 1, 1) := by decide +kernel
theorem dX4_numberHere_13 : decode cX4_numberHere 13 = .ok (.aload_n 0, 1) := by decide +kernel
theorem dX4_numberHere_14 : decode cX4_numberHere 14 = .ok (.dup, 1) := by decide +kernel
theorem dX4_numberHere_15 : decode cX4_numberHere 15 = .ok (.getfield 27, 3) := by decide +kernel
theorem dX4_numberHere_18 : decode cX4_numberHere 18 = .ok (.iconst 1, 1) := by decide +kernel
theorem dX4_numberHere_19 : decode cX4_numberHere 19 = .ok (.iadd, 1) := by decide +kernel
theorem dX4_numberHere_20 : decode cX4_numberHere 20 = .ok (.putfield 27, 3) := by decide +kernel
theorem dX4_numberHere_23 : decode cX4_numberHere 23 = .ok (.aload_n 0, 1) := by decide +kernel
theorem dX4_numberHere_24 : decode cX4_numberHere 24 = .ok (.invokevirtual 62, 3) := by decide +kernel
theorem dX4_numberHere_27 : decode cX4_numberHere 27 = .ok (.invokestatic 93, 3) := by decide +kernel
theorem dX4_numberHere_30 : decode cX4_numberHere 30 = .ok (.ifCond .eq 12, 3) := by decide +kernel
theorem dX4_numberHere_33 : decode cX4_numberHere 33 = .ok (.aload_n 0, 1) := by decide +kernel
theorem dX4_numberHere_34 : decode cX4_numberHere 34 = .ok (.invokevirtual 62, 3) := by decide +kernel
theorem dX4_numberHere_37 : decode cX4_numberHere 37 = .ok (.bipush 48, 2) := by decide +kernel
theorem dX4_numberHere_39 : decode cX4_numberHere 39 = .ok (.if_icmp .ne 8, 3) := by decide +kernel
theorem dX4_numberHere_42 : decode cX4_numberHere 42 = .ok (.aload_n 0, 1) := by decide +kernel
theorem dX4_numberHere_43 : decode cX4_numberHere 43 = .ok (.invokevirtual 55, 3) := by decide +kernel
theorem dX4_numberHere_46 : decode cX4_numberHere 46 = .ok (.ireturn, 1) := by decide +kernel
theorem dX4_numberHere_47 : decode cX4_numberHere 47 = .ok (.aload_n 0, 1) := by decide +kernel
theorem dX4_numberHere_48 : decode cX4_numberHere 48 = .ok (.invokevirtual 62, 3) := by decide +kernel
theorem dX4_numberHere_51 : decode cX4_numberHere 51 = .ok (.bipush 48, 2) := by decide +kernel
theorem dX4_numberHere_53 : decode cX4_numberHere 53 = .ok (.if_icmp .ne 22, 3) := by decide +kernel
theorem dX4_numberHere_56 : decode cX4_numberHere 56 = .ok (.aload_n 0, 1) := by decide +kernel
theorem dX4_numberHere_57 : decode cX4_numberHere 57 = .ok (.dup, 1) := by decide +kernel
theorem dX4_numberHere_58 : decode cX4_numberHere 58 = .ok (.getfield 27, 3) := by decide +kernel
theorem dX4_numberHere_61 : decode cX4_numberHere 61 = .ok (.iconst 1, 1) := by decide +kernel
theorem dX4_numberHere_62 : decode cX4_numberHere 62 = .ok (.iadd, 1) := by decide +kernel
theorem dX4_numberHere_63 : decode cX4_numberHere 63 = .ok (.putfield 27, 3) := by decide +kernel
theorem dX4_numberHere_66 : decode cX4_numberHere 66 = .ok (.aload_n 0, 1) := by decide +kernel
theorem dX4_numberHere_67 : decode cX4_numberHere 67 = .ok (.getfield 19, 3) := by decide +kernel
theorem dX4_numberHere_70 : decode cX4_numberHere 70 = .ok (.iconst 0, 1) := by decide +kernel
theorem dX4_numberHere_71 : decode cX4_numberHere 71 = .ok (.invokevirtual 96, 3) := by decide +kernel
theorem dX4_numberHere_74 : decode cX4_numberHere 74 = .ok (.ireturn, 1) := by decide +kernel
theorem dX4_numberHere_75 : decode cX4_numberHere 75 = .ok (.lconst 0, 1) := by decide +kernel
theorem dX4_numberHere_76 : decode cX4_numberHere 76 = .ok (.lstore_n 2, 1) := by decide +kernel
theorem dX4_numberHere_77 : decode cX4_numberHere 77 = .ok (.aload_n 0, 1) := by decide +kernel
theorem dX4_numberHere_78 : decode cX4_numberHere 78 = .ok (.getfield 27, 3) := by decide +kernel
theorem dX4_numberHere_81 : decode cX4_numberHere 81 = .ok (.aload_n 0, 1) := by decide +kernel
theorem dX4_numberHere_82 : decode cX4_numberHere 82 = .ok (.getfield 23, 3) := by decide +kernel
theorem dX4_numberHere_85 : decode cX4_numberHere 85 = .ok (.if_icmp .ge 56, 3) := by decide +kernel
theorem dX4_numberHere_88 : decode cX4_numberHere 88 = .ok (.aload_n 0, 1) := by decide +kernel
theorem dX4_numberHere_89 : decode cX4_numberHere 89 = .ok (.invokevirtual 62, 3) := by decide +kernel
theorem dX4_numberHere_92 : decode cX4_numberHere 92 = .ok (.invokestatic 93, 3) := by decide +kernel
theorem dX4_numberHere_95 : decode cX4_numberHere 95 = .ok (.ifCond .eq 46, 3) := by decide +kernel
theorem dX4_numberHere_98 : decode cX4_numberHere 98 = .ok (.lload_n 2, 1) := by decide +kernel
theorem dX4_numberHere_99 : decode cX4_numberHere 99 = .ok (.ldc2_w 99, 3) := by decide +kernel
theorem dX4_numberHere_102 : decode cX4_numberHere 102 = .ok (.lmul, 1) := by decide +kernel
theorem dX4_numberHere_103 : decode cX4_numberHere 103 = .ok (.iload_n 1, 1) := by decide +kernel
theorem dX4_numberHere_104 : decode cX4_numberHere 104 = .ok (.aload_n 0, 1) := by decide +kernel
theorem dX4_numberHere_105 : decode cX4_numberHere 105 = .ok (.invokevirtual 62, 3) := by decide +kernel
theorem dX4_numberHere_108 : decode cX4_numberHere 108 = .ok (.bipush 48, 2) := by decide +kernel
theorem dX4_numberHere_110 : decode cX4_numberHere 110 = .ok (.isub, 1) := by decide +kernel
theorem dX4_numberHere_111 : decode cX4_numberHere 111 = .ok (.imul, 1) := by decide +kernel
theorem dX4_numberHere_112 : decode cX4_numberHere 112 = .ok (.i2l, 1) := by decide +kernel
theorem dX4_numberHere_113 : decode cX4_numberHere 113 = .ok (.ladd, 1) := by decide +kernel
theorem dX4_numberHere_114 : decode cX4_numberHere 114 = .ok (.lstore_n 2, 1) := by decide +kernel
theorem dX4_numberHere_115 : decode cX4_numberHere 115 = .ok (.lload_n 2, 1) := by decide +kernel
theorem dX4_numberHere_116 : decode cX4_numberHere 116 = .ok (.lload_n 2, 1) := by decide +kernel
theorem dX4_numberHere_117 : decode cX4_numberHere 117 = .ok (.l2i, 1) := by decide +kernel
theorem dX4_numberHere_118 : decode cX4_numberHere 118 = .ok (.i2l, 1) := by decide +kernel
theorem dX4_numberHere_119 : decode cX4_numberHere 119 = .ok (.lcmp, 1) := by decide +kernel
theorem dX4_numberHere_120 : decode cX4_numberHere 120 = .ok (.ifCond .eq 8, 3) := by decide +kernel
theorem dX4_numberHere_123 : decode cX4_numberHere 123 = .ok (.aload_n 0, 1) := by decide +kernel
theorem dX4_numberHere_124 : decode cX4_numberHere 124 = .ok (.invokevirtual 55, 3) := by decide +kernel
theorem dX4_numberHere_127 : decode cX4_numberHere 127 = .ok (.ireturn, 1) := by decide +kernel
theorem dX4_numberHere_128 : decode cX4_numberHere 128 = .ok (.aload_n 0, 1) := by decide +kernel
theorem dX4_numberHere_129 : decode cX4_numberHere 129 = .ok (.dup, 1) := by decide +kernel
theorem dX4_numberHere_130 : decode cX4_numberHere 130 = .ok (.getfield 27, 3) := by decide +kernel
theorem dX4_numberHere_133 : decode cX4_numberHere 133 = .ok (.iconst 1, 1) := by decide +kernel
theorem dX4_numberHere_134 : decode cX4_numberHere 134 = .ok (.iadd, 1) := by decide +kernel
theorem dX4_numberHere_135 : decode cX4_numberHere 135 = .ok (.putfield 27, 3) := by decide +kernel
theorem dX4_numberHere_138 : decode cX4_numberHere 138 = .ok (.goto (-61), 3) := by decide +kernel
theorem dX4_numberHere_141 : decode cX4_numberHere 141 = .ok (.aload_n 0, 1) := by decide +kernel
theorem dX4_numberHere_142 : decode cX4_numberHere 142 = .ok (.getfield 19, 3) := by decide +kernel
theorem dX4_numberHere_145 : decode cX4_numberHere 145 = .ok (.lload_n 2, 1) := by decide +kernel
theorem dX4_numberHere_146 : decode cX4_numberHere 146 = .ok (.l2i, 1) := by decide +kernel
theorem dX4_numberHere_147 : decode cX4_numberHere 147 = .ok (.invokevirtual 96, 3) := by decide +kernel
theorem dX4_numberHere_150 : decode cX4_numberHere 150 = .ok (.ireturn, 1) := by decide +kernel
theorem dX4_functionHere_0 : decode cX4_functionHere 0 = .ok (.aload_n 0, 1) := by decide +kernel
theorem dX4_functionHere_1 : decode cX4_functionHere 1 = .ok (.bipush 92, 2) := by decide +kernel
theorem dX4_functionHere_3 : decode cX4_functionHere 3 = .ok (.invokevirtual 101, 3) := by decide +kernel
theorem dX4_functionHere_6 : decode cX4_functionHere 6 = .ok (.istore_n 2, 1) := by decide +kernel
theorem dX4_functionHere_7 : decode cX4_functionHere 7 = .ok (.iload_n 2, 1) := by decide +kernel
theorem dX4_functionHere_8 : decode cX4_functionHere 8 = .ok (.ifCond .ge 5, 3) := by decide +kernel
theorem dX4_functionHere_11 : decode cX4_functionHere 11 = .ok (.iload_n 2, 1) := by decide +kernel
theorem dX4_functionHere_12 : decode cX4_functionHere 12 = .ok (.ireturn, 1) := by decide +kernel
theorem dX4_functionHere_13 : decode cX4_functionHere 13 = .ok (.aload_n 0, 1) := by decide +kernel
theorem dX4_functionHere_14 : decode cX4_functionHere 14 = .ok (.bipush 58, 2) := by decide +kernel
theorem dX4_functionHere_16 : decode cX4_functionHere 16 = .ok (.invokevirtual 104, 3) := by decide +kernel
theorem dX4_functionHere_19 : decode cX4_functionHere 19 = .ok (.istore_n 3, 1) := by decide +kernel
theorem dX4_functionHere_20 : decode cX4_functionHere 20 = .ok (.iload_n 3, 1) := by decide +kernel
theorem dX4_functionHere_21 : decode cX4_functionHere 21 = .ok (.ifCond .ge 5, 3) := by decide +kernel
theorem dX4_functionHere_24 : decode cX4_functionHere 24 = .ok (.iload_n 3, 1) := by decide +kernel
theorem dX4_functionHere_25 : decode cX4_functionHere 25 = .ok (.ireturn, 1) := by decide +kernel
theorem dX4_functionHere_26 : decode cX4_functionHere 26 = .ok (.aload_n 0, 1) := by decide +kernel
theorem dX4_functionHere_27 : decode cX4_functionHere 27 = .ok (.iload_n 1, 1) := by decide +kernel
theorem dX4_functionHere_28 : decode cX4_functionHere 28 = .ok (.iconst 1, 1) := by decide +kernel
theorem dX4_functionHere_29 : decode cX4_functionHere 29 = .ok (.iadd, 1) := by decide +kernel
theorem dX4_functionHere_30 : decode cX4_functionHere 30 = .ok (.invokevirtual 107, 3) := by decide +kernel
theorem dX4_functionHere_33 : decode cX4_functionHere 33 = .ok (.istore 4, 2) := by decide +kernel
theorem dX4_functionHere_35 : decode cX4_functionHere 35 = .ok (.iload 4, 2) := by decide +kernel
theorem dX4_functionHere_37 : decode cX4_functionHere 37 = .ok (.ifCond .ge 6, 3) := by decide +kernel
theorem dX4_functionHere_40 : decode cX4_functionHere 40 = .ok (.iload 4, 2) := by decide +kernel
theorem dX4_functionHere_42 : decode cX4_functionHere 42 = .ok (.ireturn, 1) := by decide +kernel
theorem dX4_functionHere_43 : decode cX4_functionHere 43 = .ok (.aload_n 0, 1) := by decide +kernel
theorem dX4_functionHere_44 : decode cX4_functionHere 44 = .ok (.bipush 46, 2) := by decide +kernel
theorem dX4_functionHere_46 : decode cX4_functionHere 46 = .ok (.iload_n 1, 1) := by decide +kernel
theorem dX4_functionHere_47 : decode cX4_functionHere 47 = .ok (.iconst 1, 1) := by decide +kernel
theorem dX4_functionHere_48 : decode cX4_functionHere 48 = .ok (.iadd, 1) := by decide +kernel
theorem dX4_functionHere_49 : decode cX4_functionHere 49 = .ok (.invokevirtual 110, 3) := by decide +kernel
theorem dX4_functionHere_52 : decode cX4_functionHere 52 = .ok (.istore 5, 2) := by decide +kernel
theorem dX4_functionHere_54 : decode cX4_functionHere 54 = .ok (.iload 5, 2) := by decide +kernel
theorem dX4_functionHere_56 : decode cX4_functionHere 56 = .ok (.ifCond .ge 8, 3) := by decide +kernel
theorem dX4_functionHere_59 : decode cX4_functionHere 59 = .ok (.iload 5, 2) := by decide +kernel
theorem dX4_functionHere_61 : decode cX4_functionHere 61 = .ok (.goto 15, 3) := by decide +kernel
theorem dX4_functionHere_64 : decode cX4_functionHere 64 = .ok (.aload_n 0, 1) := by decide +kernel
theorem dX4_functionHere_65 : decode cX4_functionHere 65 = .ok (.getfield 19, 3) := by decide +kernel
theorem dX4_functionHere_68 : decode cX4_functionHere 68 = .ok (.iload_n 2, 1) := by decide +kernel
theorem dX4_functionHere_69 : decode cX4_functionHere 69 = .ok (.iload 4, 2) := by decide +kernel
theorem dX4_functionHere_71 : decode cX4_functionHere 71 = .ok (.iload 5, 2) := by decide +kernel
theorem dX4_functionHere_73 : decode cX4_functionHere 73 = .ok (.invokevirtual 114, 3) := by decide +kernel
theorem dX4_functionHere_76 : decode cX4_functionHere 76 = .ok (.ireturn, 1) := by decide +kernel
theorem dX4_pairHere_0 : decode cX4_pairHere 0 = .ok (.aload_n 0, 1) := by decide +kernel
theorem dX4_pairHere_1 : decode cX4_pairHere 1 = .ok (.bipush 40, 2) := by decide +kernel
theorem dX4_pairHere_3 : decode cX4_pairHere 3 = .ok (.iload_n 1, 1) := by decide +kernel
theorem dX4_pairHere_4 : decode cX4_pairHere 4 = .ok (.iconst 1, 1) := by decide +kernel
theorem dX4_pairHere_5 : decode cX4_pairHere 5 = .ok (.iadd, 1) := by decide +kernel
theorem dX4_pairHere_6 : decode cX4_pairHere 6 = .ok (.invokevirtual 110, 3) := by decide +kernel
theorem dX4_pairHere_9 : decode cX4_pairHere 9 = .ok (.istore_n 2, 1) := by decide +kernel
theorem dX4_pairHere_10 : decode cX4_pairHere 10 = .ok (.iload_n 2, 1) := by decide +kernel
theorem dX4_pairHere_11 : decode cX4_pairHere 11 = .ok (.ifCond .ge 5, 3) := by decide +kernel
theorem dX4_pairHere_14 : decode cX4_pairHere 14 = .ok (.iload_n 2, 1) := by decide +kernel
theorem dX4_pairHere_15 : decode cX4_pairHere 15 = .ok (.ireturn, 1) := by decide +kernel
theorem dX4_pairHere_16 : decode cX4_pairHere 16 = .ok (.aload_n 0, 1) := by decide +kernel
theorem dX4_pairHere_17 : decode cX4_pairHere 17 = .ok (.invokevirtual 62, 3) := by decide +kernel
theorem dX4_pairHere_20 : decode cX4_pairHere 20 = .ok (.istore_n 3, 1) := by decide +kernel
theorem dX4_pairHere_21 : decode cX4_pairHere 21 = .ok (.iload_n 3, 1) := by decide +kernel
theorem dX4_pairHere_22 : decode cX4_pairHere 22 = .ok (.bipush 32, 2) := by decide +kernel
theorem dX4_pairHere_24 : decode cX4_pairHere 24 = .ok (.if_icmp .eq 14, 3) := by decide +kernel
theorem dX4_pairHere_27 : decode cX4_pairHere 27 = .ok (.iload_n 3, 1) := by decide +kernel
theorem dX4_pairHere_28 : decode cX4_pairHere 28 = .ok (.bipush 43, 2) := by decide +kernel
theorem dX4_pairHere_30 : decode cX4_pairHere 30 = .ok (.if_icmp .eq 8, 3) := by decide +kernel
theorem dX4_pairHere_33 : decode cX4_pairHere 33 = .ok (.aload_n 0, 1) := by decide +kernel
theorem dX4_pairHere_34 : decode cX4_pairHere 34 = .ok (.invokevirtual 55, 3) := by decide +kernel
theorem dX4_pairHere_37 : decode cX4_pairHere 37 = .ok (.ireturn, 1) := by decide +kernel
theorem dX4_pairHere_38 : decode cX4_pairHere 38 = .ok (.aload_n 0, 1) := by decide +kernel
theorem dX4_pairHere_39 : decode cX4_pairHere 39 = .ok (.iload_n 3, 1) := by decide +kernel
theorem dX4_pairHere_40 : decode cX4_pairHere 40 = .ok (.iload_n 1, 1) := by decide +kernel
theorem dX4_pairHere_41 : decode cX4_pairHere 41 = .ok (.iconst 1, 1) := by decide +kernel
theorem dX4_pairHere_42 : decode cX4_pairHere 42 = .ok (.iadd, 1) := by decide +kernel
theorem dX4_pairHere_43 : decode cX4_pairHere 43 = .ok (.invokevirtual 110, 3) := by decide +kernel
theorem dX4_pairHere_46 : decode cX4_pairHere 46 = .ok (.istore 4, 2) := by decide +kernel
theorem dX4_pairHere_48 : decode cX4_pairHere 48 = .ok (.iload 4, 2) := by decide +kernel
theorem dX4_pairHere_50 : decode cX4_pairHere 50 = .ok (.ifCond .ge 6, 3) := by decide +kernel
theorem dX4_pairHere_53 : decode cX4_pairHere 53 = .ok (.iload 4, 2) := by decide +kernel
theorem dX4_pairHere_55 : decode cX4_pairHere 55 = .ok (.ireturn, 1) := by decide +kernel
theorem dX4_pairHere_56 : decode cX4_pairHere 56 = .ok (.aload_n 0, 1) := by decide +kernel
theorem dX4_pairHere_57 : decode cX4_pairHere 57 = .ok (.bipush 41, 2) := by decide +kernel
theorem dX4_pairHere_59 : decode cX4_pairHere 59 = .ok (.invokevirtual 104, 3) := by decide +kernel
theorem dX4_pairHere_62 : decode cX4_pairHere 62 = .ok (.istore 5, 2) := by decide +kernel
theorem dX4_pairHere_64 : decode cX4_pairHere 64 = .ok (.iload 5, 2) := by decide +kernel
theorem dX4_pairHere_66 : decode cX4_pairHere 66 = .ok (.ifCond .ge 8, 3) := by decide +kernel
theorem dX4_pairHere_69 : decode cX4_pairHere 69 = .ok (.iload 5, 2) := by decide +kernel
theorem dX4_pairHere_71 : decode cX4_pairHere 71 = .ok (.goto 26, 3) := by decide +kernel
theorem dX4_pairHere_74 : decode cX4_pairHere 74 = .ok (.aload_n 0, 1) := by decide +kernel
theorem dX4_pairHere_75 : decode cX4_pairHere 75 = .ok (.getfield 19, 3) := by decide +kernel
theorem dX4_pairHere_78 : decode cX4_pairHere 78 = .ok (.iload_n 3, 1) := by decide +kernel
theorem dX4_pairHere_79 : decode cX4_pairHere 79 = .ok (.bipush 32, 2) := by decide +kernel
theorem dX4_pairHere_81 : decode cX4_pairHere 81 = .ok (.if_icmp .ne 7, 3) := by decide +kernel
theorem dX4_pairHere_84 : decode cX4_pairHere 84 = .ok (.iconst 3, 1) := by decide +kernel
theorem dX4_pairHere_85 : decode cX4_pairHere 85 = .ok (.goto 4, 3) := by decide +kernel
theorem dX4_pairHere_88 : decode cX4_pairHere 88 = .ok (.iconst 5, 1) := by decide +kernel
theorem dX4_pairHere_89 : decode cX4_pairHere 89 = .ok (.iload_n 2, 1) := by decide +kernel
theorem dX4_pairHere_90 : decode cX4_pairHere 90 = .ok (.iload 4, 2) := by decide +kernel
theorem dX4_pairHere_92 : decode cX4_pairHere 92 = .ok (.bipush (-2), 2) := by decide +kernel
theorem dX4_pairHere_94 : decode cX4_pairHere 94 = .ok (.invokevirtual 118, 3) := by decide +kernel
theorem dX4_pairHere_97 : decode cX4_pairHere 97 = .ok (.ireturn, 1) := by decide +kernel
theorem dX4_letHere_0 : decode cX4_letHere 0 = .ok (.aload_n 0, 1) := by decide +kernel
theorem dX4_letHere_1 : decode cX4_letHere 1 = .ok (.bipush 91, 2) := by decide +kernel
theorem dX4_letHere_3 : decode cX4_letHere 3 = .ok (.invokevirtual 101, 3) := by decide +kernel
theorem dX4_letHere_6 : decode cX4_letHere 6 = .ok (.istore_n 2, 1) := by decide +kernel
theorem dX4_letHere_7 : decode cX4_letHere 7 = .ok (.iload_n 2, 1) := by decide +kernel
theorem dX4_letHere_8 : decode cX4_letHere 8 = .ok (.ifCond .ge 5, 3) := by decide +kernel
theorem dX4_letHere_11 : decode cX4_letHere 11 = .ok (.iload_n 2, 1) := by decide +kernel
theorem dX4_letHere_12 : decode cX4_letHere 12 = .ok (.ireturn, 1) := by decide +kernel
theorem dX4_letHere_13 : decode cX4_letHere 13 = .ok (.aload_n 0, 1) := by decide +kernel
theorem dX4_letHere_14 : decode cX4_letHere 14 = .ok (.bipush 61, 2) := by decide +kernel
theorem dX4_letHere_16 : decode cX4_letHere 16 = .ok (.iload_n 1, 1) := by decide +kernel
theorem dX4_letHere_17 : decode cX4_letHere 17 = .ok (.iconst 1, 1) := by decide +kernel
theorem dX4_letHere_18 : decode cX4_letHere 18 = .ok (.iadd, 1) := by decide +kernel
theorem dX4_letHere_19 : decode cX4_letHere 19 = .ok (.invokevirtual 110, 3) := by decide +kernel
theorem dX4_letHere_22 : decode cX4_letHere 22 = .ok (.istore_n 3, 1) := by decide +kernel
theorem dX4_letHere_23 : decode cX4_letHere 23 = .ok (.iload_n 3, 1) := by decide +kernel
theorem dX4_letHere_24 : decode cX4_letHere 24 = .ok (.ifCond .ge 5, 3) := by decide +kernel
theorem dX4_letHere_27 : decode cX4_letHere 27 = .ok (.iload_n 3, 1) := by decide +kernel
theorem dX4_letHere_28 : decode cX4_letHere 28 = .ok (.ireturn, 1) := by decide +kernel
theorem dX4_letHere_29 : decode cX4_letHere 29 = .ok (.aload_n 0, 1) := by decide +kernel
theorem dX4_letHere_30 : decode cX4_letHere 30 = .ok (.bipush 93, 2) := by decide +kernel
theorem dX4_letHere_32 : decode cX4_letHere 32 = .ok (.iload_n 1, 1) := by decide +kernel
theorem dX4_letHere_33 : decode cX4_letHere 33 = .ok (.iconst 1, 1) := by decide +kernel
theorem dX4_letHere_34 : decode cX4_letHere 34 = .ok (.iadd, 1) := by decide +kernel
theorem dX4_letHere_35 : decode cX4_letHere 35 = .ok (.invokevirtual 110, 3) := by decide +kernel
theorem dX4_letHere_38 : decode cX4_letHere 38 = .ok (.istore 4, 2) := by decide +kernel
theorem dX4_letHere_40 : decode cX4_letHere 40 = .ok (.iload 4, 2) := by decide +kernel
theorem dX4_letHere_42 : decode cX4_letHere 42 = .ok (.ifCond .ge 8, 3) := by decide +kernel
theorem dX4_letHere_45 : decode cX4_letHere 45 = .ok (.iload 4, 2) := by decide +kernel
theorem dX4_letHere_47 : decode cX4_letHere 47 = .ok (.goto 14, 3) := by decide +kernel
theorem dX4_letHere_50 : decode cX4_letHere 50 = .ok (.aload_n 0, 1) := by decide +kernel
theorem dX4_letHere_51 : decode cX4_letHere 51 = .ok (.getfield 19, 3) := by decide +kernel
theorem dX4_letHere_54 : decode cX4_letHere 54 = .ok (.iload_n 2, 1) := by decide +kernel
theorem dX4_letHere_55 : decode cX4_letHere 55 = .ok (.iload_n 3, 1) := by decide +kernel
theorem dX4_letHere_56 : decode cX4_letHere 56 = .ok (.iload 4, 2) := by decide +kernel
theorem dX4_letHere_58 : decode cX4_letHere 58 = .ok (.invokevirtual 122, 3) := by decide +kernel
theorem dX4_letHere_61 : decode cX4_letHere 61 = .ok (.ireturn, 1) := by decide +kernel
theorem dX4_choiceHere_0 : decode cX4_choiceHere 0 = .ok (.aload_n 0, 1) := by decide +kernel
theorem dX4_choiceHere_1 : decode cX4_choiceHere 1 = .ok (.bipush 123, 2) := by decide +kernel
theorem dX4_choiceHere_3 : decode cX4_choiceHere 3 = .ok (.iload_n 1, 1) := by decide +kernel
theorem dX4_choiceHere_4 : decode cX4_choiceHere 4 = .ok (.iconst 1, 1) := by decide +kernel
theorem dX4_choiceHere_5 : decode cX4_choiceHere 5 = .ok (.iadd, 1) := by decide +kernel
theorem dX4_choiceHere_6 : decode cX4_choiceHere 6 = .ok (.invokevirtual 110, 3) := by decide +kernel
theorem dX4_choiceHere_9 : decode cX4_choiceHere 9 = .ok (.istore_n 2, 1) := by decide +kernel
theorem dX4_choiceHere_10 : decode cX4_choiceHere 10 = .ok (.iload_n 2, 1) := by decide +kernel
theorem dX4_choiceHere_11 : decode cX4_choiceHere 11 = .ok (.ifCond .ge 5, 3) := by decide +kernel
theorem dX4_choiceHere_14 : decode cX4_choiceHere 14 = .ok (.iload_n 2, 1) := by decide +kernel
theorem dX4_choiceHere_15 : decode cX4_choiceHere 15 = .ok (.ireturn, 1) := by decide +kernel
theorem dX4_choiceHere_16 : decode cX4_choiceHere 16 = .ok (.aload_n 0, 1) := by decide +kernel
theorem dX4_choiceHere_17 : decode cX4_choiceHere 17 = .ok (.bipush 63, 2) := by decide +kernel
theorem dX4_choiceHere_19 : decode cX4_choiceHere 19 = .ok (.iload_n 1, 1) := by decide +kernel
theorem dX4_choiceHere_20 : decode cX4_choiceHere 20 = .ok (.iconst 1, 1) := by decide +kernel
theorem dX4_choiceHere_21 : decode cX4_choiceHere 21 = .ok (.iadd, 1) := by decide +kernel
theorem dX4_choiceHere_22 : decode cX4_choiceHere 22 = .ok (.invokevirtual 110, 3) := by decide +kernel
theorem dX4_choiceHere_25 : decode cX4_choiceHere 25 = .ok (.istore_n 3, 1) := by decide +kernel
theorem dX4_choiceHere_26 : decode cX4_choiceHere 26 = .ok (.iload_n 3, 1) := by decide +kernel
theorem dX4_choiceHere_27 : decode cX4_choiceHere 27 = .ok (.ifCond .ge 5, 3) := by decide +kernel
theorem dX4_choiceHere_30 : decode cX4_choiceHere 30 = .ok (.iload_n 3, 1) := by decide +kernel
theorem dX4_choiceHere_31 : decode cX4_choiceHere 31 = .ok (.ireturn, 1) := by decide +kernel
theorem dX4_choiceHere_32 : decode cX4_choiceHere 32 = .ok (.aload_n 0, 1) := by decide +kernel
theorem dX4_choiceHere_33 : decode cX4_choiceHere 33 = .ok (.bipush 58, 2) := by decide +kernel
theorem dX4_choiceHere_35 : decode cX4_choiceHere 35 = .ok (.iload_n 1, 1) := by decide +kernel
theorem dX4_choiceHere_36 : decode cX4_choiceHere 36 = .ok (.iconst 1, 1) := by decide +kernel
theorem dX4_choiceHere_37 : decode cX4_choiceHere 37 = .ok (.iadd, 1) := by decide +kernel
theorem dX4_choiceHere_38 : decode cX4_choiceHere 38 = .ok (.invokevirtual 110, 3) := by decide +kernel
theorem dX4_choiceHere_41 : decode cX4_choiceHere 41 = .ok (.istore 4, 2) := by decide +kernel
theorem dX4_choiceHere_43 : decode cX4_choiceHere 43 = .ok (.iload 4, 2) := by decide +kernel
theorem dX4_choiceHere_45 : decode cX4_choiceHere 45 = .ok (.ifCond .ge 6, 3) := by decide +kernel
