theorem dX10_putOf_43 : decode cX10_putOf 43 = .ok (.goto (-20), 3) := by decide +kernel
theorem dX10_putOf_46 : decode cX10_putOf 46 = .ok (.aload_n 0, 1) := by decide +kernel
theorem dX10_putOf_47 : decode cX10_putOf 47 = .ok (.aload_n 0, 1) := by decide +kernel
theorem dX10_putOf_48 : decode cX10_putOf 48 = .ok (.getfield 151, 3) := by decide +kernel
theorem dX10_putOf_51 : decode cX10_putOf 51 = .ok (.bipush (-3), 2) := by decide +kernel
theorem dX10_putOf_53 : decode cX10_putOf 53 = .ok (.if_icmp .ne 8, 3) := by decide +kernel
theorem dX10_putOf_56 : decode cX10_putOf 56 = .ok (.iload 4, 2) := by decide +kernel
theorem dX10_putOf_58 : decode cX10_putOf 58 = .ok (.goto 7, 3) := by decide +kernel
theorem dX10_putOf_61 : decode cX10_putOf 61 = .ok (.aload_n 0, 1) := by decide +kernel
theorem dX10_putOf_62 : decode cX10_putOf 62 = .ok (.getfield 119, 3) := by decide +kernel
theorem dX10_putOf_65 : decode cX10_putOf 65 = .ok (.putfield 119, 3) := by decide +kernel
theorem dX10_putOf_68 : decode cX10_putOf 68 = .ok (.aload_n 0, 1) := by decide +kernel
theorem dX10_putOf_69 : decode cX10_putOf 69 = .ok (.getfield 151, 3) := by decide +kernel
theorem dX10_putOf_72 : decode cX10_putOf 72 = .ok (.ireturn, 1) := by decide +kernel
theorem dX10_put_0 : decode cX10_put 0 = .ok (.aload_n 0, 1) := by decide +kernel
theorem dX10_put_1 : decode cX10_put 1 = .ok (.iload_n 1, 1) := by decide +kernel
theorem dX10_put_2 : decode cX10_put 2 = .ok (.invokevirtual 136, 3) := by decide +kernel
theorem dX10_put_5 : decode cX10_put 5 = .ok (.ifCond .eq 28, 3) := by decide +kernel
theorem dX10_put_8 : decode cX10_put 8 = .ok (.iload_n 2, 1) := by decide +kernel
theorem dX10_put_9 : decode cX10_put 9 = .ok (.invokestatic 116, 3) := by decide +kernel
theorem dX10_put_12 : decode cX10_put 12 = .ok (.ifCond .eq 21, 3) := by decide +kernel
theorem dX10_put_15 : decode cX10_put 15 = .ok (.aload_n 0, 1) := by decide +kernel
theorem dX10_put_16 : decode cX10_put 16 = .ok (.iload_n 3, 1) := by decide +kernel
theorem dX10_put_17 : decode cX10_put 17 = .ok (.invokevirtual 136, 3) := by decide +kernel
theorem dX10_put_20 : decode cX10_put 20 = .ok (.ifCond .eq 13, 3) := by decide +kernel
theorem dX10_put_23 : decode cX10_put 23 = .ok (.aload_n 0, 1) := by decide +kernel
theorem dX10_put_24 : decode cX10_put 24 = .ok (.iload_n 1, 1) := by decide +kernel
theorem dX10_put_25 : decode cX10_put 25 = .ok (.iload_n 2, 1) := by decide +kernel
theorem dX10_put_26 : decode cX10_put 26 = .ok (.iload_n 3, 1) := by decide +kernel
theorem dX10_put_27 : decode cX10_put 27 = .ok (.invokevirtual 203, 3) := by decide +kernel
theorem dX10_put_30 : decode cX10_put 30 = .ok (.goto 4, 3) := by decide +kernel
theorem dX10_put_33 : decode cX10_put 33 = .ok (.iconst (-1), 1) := by decide +kernel
theorem dX10_put_34 : decode cX10_put 34 = .ok (.ireturn, 1) := by decide +kernel
theorem dX10_partToStep_0 : decode cX10_partToStep 0 = .ok (.aload_n 0, 1) := by decide +kernel
theorem dX10_partToStep_1 : decode cX10_partToStep 1 = .ok (.getfield 30, 3) := by decide +kernel
theorem dX10_partToStep_4 : decode cX10_partToStep 4 = .ok (.iload_n 1, 1) := by decide +kernel
theorem dX10_partToStep_5 : decode cX10_partToStep 5 = .ok (.iaload, 1) := by decide +kernel
theorem dX10_partToStep_6 : decode cX10_partToStep 6 = .ok (.tableswitch 112 3 6 #[30, 112, 52, 91], 30) := by decide +kernel
theorem dX10_partToStep_36 : decode cX10_partToStep 36 = .ok (.aload_n 0, 1) := by decide +kernel
theorem dX10_partToStep_37 : decode cX10_partToStep 37 = .ok (.getfield 30, 3) := by decide +kernel
theorem dX10_partToStep_40 : decode cX10_partToStep 40 = .ok (.aload_n 0, 1) := by decide +kernel
theorem dX10_partToStep_41 : decode cX10_partToStep 41 = .ok (.iload_n 1, 1) := by decide +kernel
theorem dX10_partToStep_42 : decode cX10_partToStep 42 = .ok (.iconst 0, 1) := by decide +kernel
theorem dX10_partToStep_43 : decode cX10_partToStep 43 = .ok (.invokevirtual 126, 3) := by decide +kernel
theorem dX10_partToStep_46 : decode cX10_partToStep 46 = .ok (.iaload, 1) := by decide +kernel
theorem dX10_partToStep_47 : decode cX10_partToStep 47 = .ok (.iconst 2, 1) := by decide +kernel
theorem dX10_partToStep_48 : decode cX10_partToStep 48 = .ok (.if_icmp .ne 8, 3) := by decide +kernel
theorem dX10_partToStep_51 : decode cX10_partToStep 51 = .ok (.bipush (-2), 2) := by decide +kernel
theorem dX10_partToStep_53 : decode cX10_partToStep 53 = .ok (.goto 4, 3) := by decide +kernel
theorem dX10_partToStep_56 : decode cX10_partToStep 56 = .ok (.iconst 0, 1) := by decide +kernel
theorem dX10_partToStep_57 : decode cX10_partToStep 57 = .ok (.ireturn, 1) := by decide +kernel
theorem dX10_partToStep_58 : decode cX10_partToStep 58 = .ok (.aload_n 0, 1) := by decide +kernel
theorem dX10_partToStep_59 : decode cX10_partToStep 59 = .ok (.getfield 30, 3) := by decide +kernel
theorem dX10_partToStep_62 : decode cX10_partToStep 62 = .ok (.aload_n 0, 1) := by decide +kernel
theorem dX10_partToStep_63 : decode cX10_partToStep 63 = .ok (.iload_n 1, 1) := by decide +kernel
theorem dX10_partToStep_64 : decode cX10_partToStep 64 = .ok (.iconst 0, 1) := by decide +kernel
theorem dX10_partToStep_65 : decode cX10_partToStep 65 = .ok (.invokevirtual 126, 3) := by decide +kernel
theorem dX10_partToStep_68 : decode cX10_partToStep 68 = .ok (.iaload, 1) := by decide +kernel
theorem dX10_partToStep_69 : decode cX10_partToStep 69 = .ok (.ifCond .eq 7, 3) := by decide +kernel
theorem dX10_partToStep_72 : decode cX10_partToStep 72 = .ok (.iconst 0, 1) := by decide +kernel
theorem dX10_partToStep_73 : decode cX10_partToStep 73 = .ok (.goto 23, 3) := by decide +kernel
theorem dX10_partToStep_76 : decode cX10_partToStep 76 = .ok (.aload_n 0, 1) := by decide +kernel
theorem dX10_partToStep_77 : decode cX10_partToStep 77 = .ok (.getfield 30, 3) := by decide +kernel
theorem dX10_partToStep_80 : decode cX10_partToStep 80 = .ok (.aload_n 0, 1) := by decide +kernel
theorem dX10_partToStep_81 : decode cX10_partToStep 81 = .ok (.iload_n 1, 1) := by decide +kernel
theorem dX10_partToStep_82 : decode cX10_partToStep 82 = .ok (.iconst 1, 1) := by decide +kernel
theorem dX10_partToStep_83 : decode cX10_partToStep 83 = .ok (.invokevirtual 126, 3) := by decide +kernel
theorem dX10_partToStep_86 : decode cX10_partToStep 86 = .ok (.iaload, 1) := by decide +kernel
theorem dX10_partToStep_87 : decode cX10_partToStep 87 = .ok (.ifCond .eq 7, 3) := by decide +kernel
theorem dX10_partToStep_90 : decode cX10_partToStep 90 = .ok (.iconst 1, 1) := by decide +kernel
theorem dX10_partToStep_91 : decode cX10_partToStep 91 = .ok (.goto 5, 3) := by decide +kernel
theorem dX10_partToStep_94 : decode cX10_partToStep 94 = .ok (.bipush (-2), 2) := by decide +kernel
theorem dX10_partToStep_96 : decode cX10_partToStep 96 = .ok (.ireturn, 1) := by decide +kernel
theorem dX10_partToStep_97 : decode cX10_partToStep 97 = .ok (.aload_n 0, 1) := by decide +kernel
theorem dX10_partToStep_98 : decode cX10_partToStep 98 = .ok (.getfield 30, 3) := by decide +kernel
theorem dX10_partToStep_101 : decode cX10_partToStep 101 = .ok (.aload_n 0, 1) := by decide +kernel
theorem dX10_partToStep_102 : decode cX10_partToStep 102 = .ok (.iload_n 1, 1) := by decide +kernel
theorem dX10_partToStep_103 : decode cX10_partToStep 103 = .ok (.iconst 0, 1) := by decide +kernel
theorem dX10_partToStep_104 : decode cX10_partToStep 104 = .ok (.invokevirtual 126, 3) := by decide +kernel
theorem dX10_partToStep_107 : decode cX10_partToStep 107 = .ok (.iaload, 1) := by decide +kernel
theorem dX10_partToStep_108 : decode cX10_partToStep 108 = .ok (.ifCond .eq 7, 3) := by decide +kernel
theorem dX10_partToStep_111 : decode cX10_partToStep 111 = .ok (.iconst 0, 1) := by decide +kernel
theorem dX10_partToStep_112 : decode cX10_partToStep 112 = .ok (.goto 5, 3) := by decide +kernel
theorem dX10_partToStep_115 : decode cX10_partToStep 115 = .ok (.bipush (-2), 2) := by decide +kernel
theorem dX10_partToStep_117 : decode cX10_partToStep 117 = .ok (.ireturn, 1) := by decide +kernel
theorem dX10_partToStep_118 : decode cX10_partToStep 118 = .ok (.bipush (-2), 2) := by decide +kernel
theorem dX10_partToStep_120 : decode cX10_partToStep 120 = .ok (.ireturn, 1) := by decide +kernel
theorem dX10_stepHere_0 : decode cX10_stepHere 0 = .ok (.aload_n 0, 1) := by decide +kernel
theorem dX10_stepHere_1 : decode cX10_stepHere 1 = .ok (.iload_n 1, 1) := by decide +kernel
theorem dX10_stepHere_2 : decode cX10_stepHere 2 = .ok (.iconst 0, 1) := by decide +kernel
theorem dX10_stepHere_3 : decode cX10_stepHere 3 = .ok (.invokevirtual 126, 3) := by decide +kernel
theorem dX10_stepHere_6 : decode cX10_stepHere 6 = .ok (.istore_n 2, 1) := by decide +kernel
theorem dX10_stepHere_7 : decode cX10_stepHere 7 = .ok (.aload_n 0, 1) := by decide +kernel
theorem dX10_stepHere_8 : decode cX10_stepHere 8 = .ok (.getfield 30, 3) := by decide +kernel
theorem dX10_stepHere_11 : decode cX10_stepHere 11 = .ok (.iload_n 1, 1) := by decide +kernel
theorem dX10_stepHere_12 : decode cX10_stepHere 12 = .ok (.iaload, 1) := by decide +kernel
theorem dX10_stepHere_13 : decode cX10_stepHere 13 = .ok (.tableswitch 126 3 6 #[31, 54, 72, 106], 31) := by decide +kernel
theorem dX10_stepHere_44 : decode cX10_stepHere 44 = .ok (.aload_n 0, 1) := by decide +kernel
theorem dX10_stepHere_45 : decode cX10_stepHere 45 = .ok (.aload_n 0, 1) := by decide +kernel
theorem dX10_stepHere_46 : decode cX10_stepHere 46 = .ok (.iload_n 2, 1) := by decide +kernel
theorem dX10_stepHere_47 : decode cX10_stepHere 47 = .ok (.iconst 0, 1) := by decide +kernel
theorem dX10_stepHere_48 : decode cX10_stepHere 48 = .ok (.invokevirtual 126, 3) := by decide +kernel
theorem dX10_stepHere_51 : decode cX10_stepHere 51 = .ok (.aload_n 0, 1) := by decide +kernel
theorem dX10_stepHere_52 : decode cX10_stepHere 52 = .ok (.getfield 36, 3) := by decide +kernel
theorem dX10_stepHere_55 : decode cX10_stepHere 55 = .ok (.iload_n 2, 1) := by decide +kernel
theorem dX10_stepHere_56 : decode cX10_stepHere 56 = .ok (.iaload, 1) := by decide +kernel
theorem dX10_stepHere_57 : decode cX10_stepHere 57 = .ok (.aload_n 0, 1) := by decide +kernel
theorem dX10_stepHere_58 : decode cX10_stepHere 58 = .ok (.iload_n 1, 1) := by decide +kernel
theorem dX10_stepHere_59 : decode cX10_stepHere 59 = .ok (.iconst 1, 1) := by decide +kernel
theorem dX10_stepHere_60 : decode cX10_stepHere 60 = .ok (.invokevirtual 126, 3) := by decide +kernel
theorem dX10_stepHere_63 : decode cX10_stepHere 63 = .ok (.invokevirtual 203, 3) := by decide +kernel
theorem dX10_stepHere_66 : decode cX10_stepHere 66 = .ok (.ireturn, 1) := by decide +kernel
theorem dX10_stepHere_67 : decode cX10_stepHere 67 = .ok (.aload_n 0, 1) := by decide +kernel
theorem dX10_stepHere_68 : decode cX10_stepHere 68 = .ok (.aload_n 0, 1) := by decide +kernel
theorem dX10_stepHere_69 : decode cX10_stepHere 69 = .ok (.iload_n 1, 1) := by decide +kernel
theorem dX10_stepHere_70 : decode cX10_stepHere 70 = .ok (.iconst 1, 1) := by decide +kernel
theorem dX10_stepHere_71 : decode cX10_stepHere 71 = .ok (.invokevirtual 126, 3) := by decide +kernel
theorem dX10_stepHere_74 : decode cX10_stepHere 74 = .ok (.aload_n 0, 1) := by decide +kernel
theorem dX10_stepHere_75 : decode cX10_stepHere 75 = .ok (.getfield 36, 3) := by decide +kernel
theorem dX10_stepHere_78 : decode cX10_stepHere 78 = .ok (.iload_n 1, 1) := by decide +kernel
theorem dX10_stepHere_79 : decode cX10_stepHere 79 = .ok (.iaload, 1) := by decide +kernel
theorem dX10_stepHere_80 : decode cX10_stepHere 80 = .ok (.iload_n 2, 1) := by decide +kernel
theorem dX10_stepHere_81 : decode cX10_stepHere 81 = .ok (.invokevirtual 203, 3) := by decide +kernel
theorem dX10_stepHere_84 : decode cX10_stepHere 84 = .ok (.ireturn, 1) := by decide +kernel
theorem dX10_stepHere_85 : decode cX10_stepHere 85 = .ok (.aload_n 0, 1) := by decide +kernel
theorem dX10_stepHere_86 : decode cX10_stepHere 86 = .ok (.iconst 0, 1) := by decide +kernel
theorem dX10_stepHere_87 : decode cX10_stepHere 87 = .ok (.aload_n 0, 1) := by decide +kernel
theorem dX10_stepHere_88 : decode cX10_stepHere 88 = .ok (.getfield 33, 3) := by decide +kernel
theorem dX10_stepHere_91 : decode cX10_stepHere 91 = .ok (.iload_n 2, 1) := by decide +kernel
theorem dX10_stepHere_92 : decode cX10_stepHere 92 = .ok (.iaload, 1) := by decide +kernel
theorem dX10_stepHere_93 : decode cX10_stepHere 93 = .ok (.aload_n 0, 1) := by decide +kernel
theorem dX10_stepHere_94 : decode cX10_stepHere 94 = .ok (.getfield 33, 3) := by decide +kernel
theorem dX10_stepHere_97 : decode cX10_stepHere 97 = .ok (.aload_n 0, 1) := by decide +kernel
theorem dX10_stepHere_98 : decode cX10_stepHere 98 = .ok (.iload_n 1, 1) := by decide +kernel
theorem dX10_stepHere_99 : decode cX10_stepHere 99 = .ok (.iconst 1, 1) := by decide +kernel
theorem dX10_stepHere_100 : decode cX10_stepHere 100 = .ok (.invokevirtual 126, 3) := by decide +kernel
theorem dX10_stepHere_103 : decode cX10_stepHere 103 = .ok (.iaload, 1) := by decide +kernel
theorem dX10_stepHere_104 : decode cX10_stepHere 104 = .ok (.iadd, 1) := by decide +kernel
theorem dX10_stepHere_105 : decode cX10_stepHere 105 = .ok (.bipush (-2), 2) := by decide +kernel
theorem dX10_stepHere_107 : decode cX10_stepHere 107 = .ok (.bipush (-2), 2) := by decide +kernel
theorem dX10_stepHere_109 : decode cX10_stepHere 109 = .ok (.bipush (-2), 2) := by decide +kernel
theorem dX10_stepHere_111 : decode cX10_stepHere 111 = .ok (.bipush (-2), 2) := by decide +kernel
theorem dX10_stepHere_113 : decode cX10_stepHere 113 = .ok (.bipush (-2), 2) := by decide +kernel
theorem dX10_stepHere_115 : decode cX10_stepHere 115 = .ok (.invokevirtual 132, 3) := by decide +kernel
theorem dX10_stepHere_118 : decode cX10_stepHere 118 = .ok (.ireturn, 1) := by decide +kernel
theorem dX10_stepHere_119 : decode cX10_stepHere 119 = .ok (.aload_n 0, 1) := by decide +kernel
theorem dX10_stepHere_120 : decode cX10_stepHere 120 = .ok (.iload_n 1, 1) := by decide +kernel
theorem dX10_stepHere_121 : decode cX10_stepHere 121 = .ok (.aload_n 0, 1) := by decide +kernel
theorem dX10_stepHere_122 : decode cX10_stepHere 122 = .ok (.getfield 33, 3) := by decide +kernel
theorem dX10_stepHere_125 : decode cX10_stepHere 125 = .ok (.iload_n 2, 1) := by decide +kernel
theorem dX10_stepHere_126 : decode cX10_stepHere 126 = .ok (.iaload, 1) := by decide +kernel
theorem dX10_stepHere_127 : decode cX10_stepHere 127 = .ok (.ifCond .eq 7, 3) := by decide +kernel
theorem dX10_stepHere_130 : decode cX10_stepHere 130 = .ok (.iconst 1, 1) := by decide +kernel
theorem dX10_stepHere_131 : decode cX10_stepHere 131 = .ok (.goto 4, 3) := by decide +kernel
theorem dX10_stepHere_134 : decode cX10_stepHere 134 = .ok (.iconst 2, 1) := by decide +kernel
theorem dX10_stepHere_135 : decode cX10_stepHere 135 = .ok (.invokevirtual 126, 3) := by decide +kernel
theorem dX10_stepHere_138 : decode cX10_stepHere 138 = .ok (.ireturn, 1) := by decide +kernel
theorem dX10_stepHere_139 : decode cX10_stepHere 139 = .ok (.bipush (-2), 2) := by decide +kernel
theorem dX10_stepHere_141 : decode cX10_stepHere 141 = .ok (.ireturn, 1) := by decide +kernel
theorem dX10_stepOf_0 : decode cX10_stepOf 0 = .ok (.aload_n 0, 1) := by decide +kernel
theorem dX10_stepOf_1 : decode cX10_stepOf 1 = .ok (.getfield 119, 3) := by decide +kernel
theorem dX10_stepOf_4 : decode cX10_stepOf 4 = .ok (.istore_n 2, 1) := by decide +kernel
theorem dX10_stepOf_5 : decode cX10_stepOf 5 = .ok (.iconst 0, 1) := by decide +kernel
theorem dX10_stepOf_6 : decode cX10_stepOf 6 = .ok (.istore_n 3, 1) := by decide +kernel
theorem dX10_stepOf_7 : decode cX10_stepOf 7 = .ok (.iload_n 1, 1) := by decide +kernel
theorem dX10_stepOf_8 : decode cX10_stepOf 8 = .ok (.istore 4, 2) := by decide +kernel
theorem dX10_stepOf_10 : decode cX10_stepOf 10 = .ok (.aload_n 0, 1) := by decide +kernel
theorem dX10_stepOf_11 : decode cX10_stepOf 11 = .ok (.iload 4, 2) := by decide +kernel
theorem dX10_stepOf_13 : decode cX10_stepOf 13 = .ok (.invokevirtual 207, 3) := by decide +kernel
theorem dX10_stepOf_16 : decode cX10_stepOf 16 = .ok (.istore 5, 2) := by decide +kernel
theorem dX10_stepOf_18 : decode cX10_stepOf 18 = .ok (.iload 5, 2) := by decide +kernel
theorem dX10_stepOf_20 : decode cX10_stepOf 20 = .ok (.bipush (-2), 2) := by decide +kernel
theorem dX10_stepOf_22 : decode cX10_stepOf 22 = .ok (.if_icmp .eq 43, 3) := by decide +kernel
theorem dX10_stepOf_25 : decode cX10_stepOf 25 = .ok (.aload_n 0, 1) := by decide +kernel
theorem dX10_stepOf_26 : decode cX10_stepOf 26 = .ok (.getfield 87, 3) := by decide +kernel
theorem dX10_stepOf_29 : decode cX10_stepOf 29 = .ok (.iload_n 3, 1) := by decide +kernel
theorem dX10_stepOf_30 : decode cX10_stepOf 30 = .ok (.iload 4, 2) := by decide +kernel
theorem dX10_stepOf_32 : decode cX10_stepOf 32 = .ok (.iastore, 1) := by decide +kernel
theorem dX10_stepOf_33 : decode cX10_stepOf 33 = .ok (.aload_n 0, 1) := by decide +kernel
theorem dX10_stepOf_34 : decode cX10_stepOf 34 = .ok (.getfield 90, 3) := by decide +kernel
theorem dX10_stepOf_37 : decode cX10_stepOf 37 = .ok (.iload_n 3, 1) := by decide +kernel
theorem dX10_stepOf_38 : decode cX10_stepOf 38 = .ok (.iload 5, 2) := by decide +kernel
theorem dX10_stepOf_40 : decode cX10_stepOf 40 = .ok (.iastore, 1) := by decide +kernel
theorem dX10_stepOf_41 : decode cX10_stepOf 41 = .ok (.iinc 3 1, 3) := by decide +kernel
theorem dX10_stepOf_44 : decode cX10_stepOf 44 = .ok (.aload_n 0, 1) := by decide +kernel
theorem dX10_stepOf_45 : decode cX10_stepOf 45 = .ok (.iload 4, 2) := by decide +kernel
theorem dX10_stepOf_47 : decode cX10_stepOf 47 = .ok (.iload 5, 2) := by decide +kernel
theorem dX10_stepOf_49 : decode cX10_stepOf 49 = .ok (.invokevirtual 126, 3) := by decide +kernel
theorem dX10_stepOf_52 : decode cX10_stepOf 52 = .ok (.istore 4, 2) := by decide +kernel
theorem dX10_stepOf_54 : decode cX10_stepOf 54 = .ok (.aload_n 0, 1) := by decide +kernel
theorem dX10_stepOf_55 : decode cX10_stepOf 55 = .ok (.iload 4, 2) := by decide +kernel
theorem dX10_stepOf_57 : decode cX10_stepOf 57 = .ok (.invokevirtual 207, 3) := by decide +kernel
theorem dX10_stepOf_60 : decode cX10_stepOf 60 = .ok (.istore 5, 2) := by decide +kernel
theorem dX10_stepOf_62 : decode cX10_stepOf 62 = .ok (.goto (-44), 3) := by decide +kernel
theorem dX10_stepOf_65 : decode cX10_stepOf 65 = .ok (.aload_n 0, 1) := by decide +kernel
theorem dX10_stepOf_66 : decode cX10_stepOf 66 = .ok (.iload 4, 2) := by decide +kernel
theorem dX10_stepOf_68 : decode cX10_stepOf 68 = .ok (.invokevirtual 210, 3) := by decide +kernel
theorem dX10_stepOf_71 : decode cX10_stepOf 71 = .ok (.istore 6, 2) := by decide +kernel
theorem dX10_stepOf_73 : decode cX10_stepOf 73 = .ok (.iload_n 3, 1) := by decide +kernel
theorem dX10_stepOf_74 : decode cX10_stepOf 74 = .ok (.ifCond .le 100, 3) := by decide +kernel
theorem dX10_stepOf_77 : decode cX10_stepOf 77 = .ok (.iload 6, 2) := by decide +kernel
theorem dX10_stepOf_79 : decode cX10_stepOf 79 = .ok (.ifCond .lt 95, 3) := by decide +kernel
theorem dX10_stepOf_82 : decode cX10_stepOf 82 = .ok (.iinc 3 (-1), 3) := by decide +kernel
theorem dX10_stepOf_85 : decode cX10_stepOf 85 = .ok (.aload_n 0, 1) := by decide +kernel
theorem dX10_stepOf_86 : decode cX10_stepOf 86 = .ok (.getfield 87, 3) := by decide +kernel
theorem dX10_stepOf_89 : decode cX10_stepOf 89 = .ok (.iload_n 3, 1) := by decide +kernel
theorem dX10_stepOf_90 : decode cX10_stepOf 90 = .ok (.iaload, 1) := by decide +kernel
theorem dX10_stepOf_91 : decode cX10_stepOf 91 = .ok (.istore 4, 2) := by decide +kernel
theorem dX10_stepOf_93 : decode cX10_stepOf 93 = .ok (.aload_n 0, 1) := by decide +kernel
theorem dX10_stepOf_94 : decode cX10_stepOf 94 = .ok (.getfield 90, 3) := by decide +kernel
theorem dX10_stepOf_97 : decode cX10_stepOf 97 = .ok (.iload_n 3, 1) := by decide +kernel
theorem dX10_stepOf_98 : decode cX10_stepOf 98 = .ok (.iaload, 1) := by decide +kernel
theorem dX10_stepOf_99 : decode cX10_stepOf 99 = .ok (.istore 5, 2) := by decide +kernel
theorem dX10_stepOf_101 : decode cX10_stepOf 101 = .ok (.aload_n 0, 1) := by decide +kernel
theorem dX10_stepOf_102 : decode cX10_stepOf 102 = .ok (.aload_n 0, 1) := by decide +kernel
theorem dX10_stepOf_103 : decode cX10_stepOf 103 = .ok (.getfield 30, 3) := by decide +kernel
theorem dX10_stepOf_106 : decode cX10_stepOf 106 = .ok (.iload 4, 2) := by decide +kernel
theorem dX10_stepOf_108 : decode cX10_stepOf 108 = .ok (.iaload, 1) := by decide +kernel
theorem dX10_stepOf_109 : decode cX10_stepOf 109 = .ok (.iconst 0, 1) := by decide +kernel
theorem dX10_stepOf_110 : decode cX10_stepOf 110 = .ok (.aload_n 0, 1) := by decide +kernel
theorem dX10_stepOf_111 : decode cX10_stepOf 111 = .ok (.getfield 36, 3) := by decide +kernel
theorem dX10_stepOf_114 : decode cX10_stepOf 114 = .ok (.iload 4, 2) := by decide +kernel
theorem dX10_stepOf_116 : decode cX10_stepOf 116 = .ok (.iaload, 1) := by decide +kernel
theorem dX10_stepOf_117 : decode cX10_stepOf 117 = .ok (.aload_n 0, 1) := by decide +kernel
theorem dX10_stepOf_118 : decode cX10_stepOf 118 = .ok (.getfield 39, 3) := by decide +kernel
theorem dX10_stepOf_121 : decode cX10_stepOf 121 = .ok (.iload 4, 2) := by decide +kernel
theorem dX10_stepOf_123 : decode cX10_stepOf 123 = .ok (.iaload, 1) := by decide +kernel
theorem dX10_stepOf_124 : decode cX10_stepOf 124 = .ok (.iload 5, 2) := by decide +kernel
theorem dX10_stepOf_126 : decode cX10_stepOf 126 = .ok (.ifCond .ne 8, 3) := by decide +kernel
theorem dX10_stepOf_129 : decode cX10_stepOf 129 = .ok (.iload 6, 2) := by decide +kernel
theorem dX10_stepOf_131 : decode cX10_stepOf 131 = .ok (.goto 10, 3) := by decide +kernel
theorem dX10_stepOf_134 : decode cX10_stepOf 134 = .ok (.aload_n 0, 1) := by decide +kernel
theorem dX10_stepOf_135 : decode cX10_stepOf 135 = .ok (.iload 4, 2) := by decide +kernel
theorem dX10_stepOf_137 : decode cX10_stepOf 137 = .ok (.iconst 0, 1) := by decide +kernel
theorem dX10_stepOf_138 : decode cX10_stepOf 138 = .ok (.invokevirtual 126, 3) := by decide +kernel
theorem dX10_stepOf_141 : decode cX10_stepOf 141 = .ok (.iload 5, 2) := by decide +kernel
theorem dX10_stepOf_143 : decode cX10_stepOf 143 = .ok (.iconst 1, 1) := by decide +kernel
theorem dX10_stepOf_144 : decode cX10_stepOf 144 = .ok (.if_icmp .ne 8, 3) := by decide +kernel
theorem dX10_stepOf_147 : decode cX10_stepOf 147 = .ok (.iload 6, 2) := by decide +kernel
theorem dX10_stepOf_149 : decode cX10_stepOf 149 = .ok (.goto 10, 3) := by decide +kernel
theorem dX10_stepOf_152 : decode cX10_stepOf 152 = .ok (.aload_n 0, 1) := by decide +kernel
theorem dX10_stepOf_153 : decode cX10_stepOf 153 = .ok (.iload 4, 2) := by decide +kernel
theorem dX10_stepOf_155 : decode cX10_stepOf 155 = .ok (.iconst 1, 1) := by decide +kernel
theorem dX10_stepOf_156 : decode cX10_stepOf 156 = .ok (.invokevirtual 126, 3) := by decide +kernel
theorem dX10_stepOf_159 : decode cX10_stepOf 159 = .ok (.aload_n 0, 1) := by decide +kernel
theorem dX10_stepOf_160 : decode cX10_stepOf 160 = .ok (.iload 4, 2) := by decide +kernel
theorem dX10_stepOf_162 : decode cX10_stepOf 162 = .ok (.iconst 2, 1) := by decide +kernel
theorem dX10_stepOf_163 : decode cX10_stepOf 163 = .ok (.invokevirtual 126, 3) := by decide +kernel
theorem dX10_stepOf_166 : decode cX10_stepOf 166 = .ok (.invokevirtual 132, 3) := by decide +kernel
theorem dX10_stepOf_169 : decode cX10_stepOf 169 = .ok (.istore 6, 2) := by decide +kernel
theorem dX10_stepOf_171 : decode cX10_stepOf 171 = .ok (.goto (-98), 3) := by decide +kernel
theorem dX10_stepOf_174 : decode cX10_stepOf 174 = .ok (.aload_n 0, 1) := by decide +kernel
theorem dX10_stepOf_175 : decode cX10_stepOf 175 = .ok (.iload 6, 2) := by decide +kernel
theorem dX10_stepOf_177 : decode cX10_stepOf 177 = .ok (.ifCond .ge 7, 3) := by decide +kernel
theorem dX10_stepOf_180 : decode cX10_stepOf 180 = .ok (.iload_n 2, 1) := by decide +kernel
theorem dX10_stepOf_181 : decode cX10_stepOf 181 = .ok (.goto 7, 3) := by decide +kernel
theorem dX10_stepOf_184 : decode cX10_stepOf 184 = .ok (.aload_n 0, 1) := by decide +kernel
theorem dX10_stepOf_185 : decode cX10_stepOf 185 = .ok (.getfield 119, 3) := by decide +kernel
theorem dX10_stepOf_188 : decode cX10_stepOf 188 = .ok (.putfield 119, 3) := by decide +kernel
theorem dX10_stepOf_191 : decode cX10_stepOf 191 = .ok (.iload 6, 2) := by decide +kernel
theorem dX10_stepOf_193 : decode cX10_stepOf 193 = .ok (.ireturn, 1) := by decide +kernel
theorem dX10_step_0 : decode cX10_step 0 = .ok (.aload_n 0, 1) := by decide +kernel
theorem dX10_step_1 : decode cX10_step 1 = .ok (.iload_n 1, 1) := by decide +kernel
theorem dX10_step_2 : decode cX10_step 2 = .ok (.invokevirtual 136, 3) := by decide +kernel
theorem dX10_step_5 : decode cX10_step 5 = .ok (.ifCond .eq 11, 3) := by decide +kernel
theorem dX10_step_8 : decode cX10_step 8 = .ok (.aload_n 0, 1) := by decide +kernel
theorem dX10_step_9 : decode cX10_step 9 = .ok (.iload_n 1, 1) := by decide +kernel
theorem dX10_step_10 : decode cX10_step 10 = .ok (.invokevirtual 213, 3) := by decide +kernel
theorem dX10_step_13 : decode cX10_step 13 = .ok (.goto 4, 3) := by decide +kernel
theorem dX10_step_16 : decode cX10_step 16 = .ok (.iconst (-1), 1) := by decide +kernel
theorem dX10_step_17 : decode cX10_step 17 = .ok (.ireturn, 1) := by decide +kernel
theorem dX10_run_0 : decode cX10_run 0 = .ok (.aload_n 0, 1) := by decide +kernel
theorem dX10_run_1 : decode cX10_run 1 = .ok (.iload_n 1, 1) := by decide +kernel
theorem dX10_run_2 : decode cX10_run 2 = .ok (.invokevirtual 136, 3) := by decide +kernel
theorem dX10_run_5 : decode cX10_run 5 = .ok (.ifCond .eq 13, 3) := by decide +kernel
theorem dX10_run_8 : decode cX10_run 8 = .ok (.iload_n 2, 1) := by decide +kernel
theorem dX10_run_9 : decode cX10_run 9 = .ok (.iconst 0, 1) := by decide +kernel
theorem dX10_run_10 : decode cX10_run 10 = .ok (.bipush 50, 2) := by decide +kernel
theorem dX10_run_12 : decode cX10_run 12 = .ok (.invokestatic 3, 3) := by decide +kernel
theorem dX10_run_15 : decode cX10_run 15 = .ok (.ifCond .ne 5, 3) := by decide +kernel
theorem dX10_run_18 : decode cX10_run 18 = .ok (.iconst (-1), 1) := by decide +kernel
theorem dX10_run_19 : decode cX10_run 19 = .ok (.ireturn, 1) := by decide +kernel
theorem dX10_run_20 : decode cX10_run 20 = .ok (.aload_n 0, 1) := by decide +kernel
theorem dX10_run_21 : decode cX10_run 21 = .ok (.getfield 119, 3) := by decide +kernel
theorem dX10_run_24 : decode cX10_run 24 = .ok (.istore_n 3, 1) := by decide +kernel
theorem dX10_run_25 : decode cX10_run 25 = .ok (.iload_n 1, 1) := by decide +kernel
theorem dX10_run_26 : decode cX10_run 26 = .ok (.istore 4, 2) := by decide +kernel
theorem dX10_run_28 : decode cX10_run 28 = .ok (.iload_n 1, 1) := by decide +kernel
theorem dX10_run_29 : decode cX10_run 29 = .ok (.istore 5, 2) := by decide +kernel
theorem dX10_run_31 : decode cX10_run 31 = .ok (.iconst 0, 1) := by decide +kernel
theorem dX10_run_32 : decode cX10_run 32 = .ok (.istore 6, 2) := by decide +kernel
theorem dX10_run_34 : decode cX10_run 34 = .ok (.iload 6, 2) := by decide +kernel
theorem dX10_run_36 : decode cX10_run 36 = .ok (.iload_n 2, 1) := by decide +kernel
theorem dX10_run_37 : decode cX10_run 37 = .ok (.if_icmp .ge 31, 3) := by decide +kernel
theorem dX10_run_40 : decode cX10_run 40 = .ok (.iload 5, 2) := by decide +kernel
theorem dX10_run_42 : decode cX10_run 42 = .ok (.ifCond .lt 26, 3) := by decide +kernel
theorem dX10_run_45 : decode cX10_run 45 = .ok (.aload_n 0, 1) := by decide +kernel
theorem dX10_run_46 : decode cX10_run 46 = .ok (.iload 4, 2) := by decide +kernel
theorem dX10_run_48 : decode cX10_run 48 = .ok (.invokevirtual 213, 3) := by decide +kernel
theorem dX10_run_51 : decode cX10_run 51 = .ok (.istore 5, 2) := by decide +kernel
theorem dX10_run_53 : decode cX10_run 53 = .ok (.iload 5, 2) := by decide +kernel
theorem dX10_run_55 : decode cX10_run 55 = .ok (.ifCond .lt (-21), 3) := by decide +kernel
theorem dX10_run_58 : decode cX10_run 58 = .ok (.iload 5, 2) := by decide +kernel
theorem dX10_run_60 : decode cX10_run 60 = .ok (.istore 4, 2) := by decide +kernel
theorem dX10_run_62 : decode cX10_run 62 = .ok (.iinc 6 1, 3) := by decide +kernel
theorem dX10_run_65 : decode cX10_run 65 = .ok (.goto (-31), 3) := by decide +kernel
theorem dX10_run_68 : decode cX10_run 68 = .ok (.iload 5, 2) := by decide +kernel
theorem dX10_run_70 : decode cX10_run 70 = .ok (.bipush (-3), 2) := by decide +kernel
theorem dX10_run_72 : decode cX10_run 72 = .ok (.if_icmp .ne 11, 3) := by decide +kernel
theorem dX10_run_75 : decode cX10_run 75 = .ok (.aload_n 0, 1) := by decide +kernel
theorem dX10_run_76 : decode cX10_run 76 = .ok (.iload_n 3, 1) := by decide +kernel
theorem dX10_run_77 : decode cX10_run 77 = .ok (.putfield 119, 3) := by decide +kernel
theorem dX10_run_80 : decode cX10_run 80 = .ok (.bipush (-3), 2) := by decide +kernel
theorem dX10_run_82 : decode cX10_run 82 = .ok (.ireturn, 1) := by decide +kernel
theorem dX10_run_83 : decode cX10_run 83 = .ok (.aload_n 0, 1) := by decide +kernel
theorem dX10_run_84 : decode cX10_run 84 = .ok (.iload 6, 2) := by decide +kernel
theorem dX10_run_86 : decode cX10_run 86 = .ok (.putfield 216, 3) := by decide +kernel
theorem dX10_run_89 : decode cX10_run 89 = .ok (.iload 4, 2) := by decide +kernel
theorem dX10_run_91 : decode cX10_run 91 = .ok (.ireturn, 1) := by decide +kernel
theorem dX10_ran_0 : decode cX10_ran 0 = .ok (.aload_n 0, 1) := by decide +kernel
theorem dX10_ran_1 : decode cX10_ran 1 = .ok (.getfield 216, 3) := by decide +kernel
theorem dX10_ran_4 : decode cX10_ran 4 = .ok (.ireturn, 1) := by decide +kernel
theorem dX10_dropTurn_0 : decode cX10_dropTurn 0 = .ok (.aload_n 0, 1) := by decide +kernel
theorem dX10_dropTurn_1 : decode cX10_dropTurn 1 = .ok (.getfield 145, 3) := by decide +kernel
theorem dX10_dropTurn_4 : decode cX10_dropTurn 4 = .ok (.iconst 1, 1) := by decide +kernel
theorem dX10_dropTurn_5 : decode cX10_dropTurn 5 = .ok (.isub, 1) := by decide +kernel
theorem dX10_dropTurn_6 : decode cX10_dropTurn 6 = .ok (.istore_n 1, 1) := by decide +kernel
theorem dX10_dropTurn_7 : decode cX10_dropTurn 7 = .ok (.aload_n 0, 1) := by decide +kernel
theorem dX10_dropTurn_8 : decode cX10_dropTurn 8 = .ok (.getfield 54, 3) := by decide +kernel
theorem dX10_dropTurn_11 : decode cX10_dropTurn 11 = .ok (.iload_n 1, 1) := by decide +kernel
theorem dX10_dropTurn_12 : decode cX10_dropTurn 12 = .ok (.iaload, 1) := by decide +kernel
theorem dX10_dropTurn_13 : decode cX10_dropTurn 13 = .ok (.istore_n 2, 1) := by decide +kernel
theorem dX10_dropTurn_14 : decode cX10_dropTurn 14 = .ok (.aload_n 0, 1) := by decide +kernel
theorem dX10_dropTurn_15 : decode cX10_dropTurn 15 = .ok (.getfield 57, 3) := by decide +kernel
theorem dX10_dropTurn_18 : decode cX10_dropTurn 18 = .ok (.iload_n 1, 1) := by decide +kernel
theorem dX10_dropTurn_19 : decode cX10_dropTurn 19 = .ok (.iaload, 1) := by decide +kernel
theorem dX10_dropTurn_20 : decode cX10_dropTurn 20 = .ok (.istore_n 3, 1) := by decide +kernel
theorem dX10_dropTurn_21 : decode cX10_dropTurn 21 = .ok (.aload_n 0, 1) := by decide +kernel
theorem dX10_dropTurn_22 : decode cX10_dropTurn 22 = .ok (.getfield 57, 3) := by decide +kernel
theorem dX10_dropTurn_25 : decode cX10_dropTurn 25 = .ok (.iload_n 1, 1) := by decide +kernel
theorem dX10_dropTurn_26 : decode cX10_dropTurn 26 = .ok (.dup2, 1) := by decide +kernel
theorem dX10_dropTurn_27 : decode cX10_dropTurn 27 = .ok (.iaload, 1) := by decide +kernel
theorem dX10_dropTurn_28 : decode cX10_dropTurn 28 = .ok (.iconst 1, 1) := by decide +kernel
theorem dX10_dropTurn_29 : decode cX10_dropTurn 29 = .ok (.iadd, 1) := by decide +kernel
theorem dX10_dropTurn_30 : decode cX10_dropTurn 30 = .ok (.iastore, 1) := by decide +kernel
theorem dX10_dropTurn_31 : decode cX10_dropTurn 31 = .ok (.iload_n 3, 1) := by decide +kernel
theorem dX10_dropTurn_32 : decode cX10_dropTurn 32 = .ok (.iconst 1, 1) := by decide +kernel
theorem dX10_dropTurn_33 : decode cX10_dropTurn 33 = .ok (.if_icmp .ne 16, 3) := by decide +kernel
theorem dX10_dropTurn_36 : decode cX10_dropTurn 36 = .ok (.aload_n 0, 1) := by decide +kernel
theorem dX10_dropTurn_37 : decode cX10_dropTurn 37 = .ok (.getfield 60, 3) := by decide +kernel
theorem dX10_dropTurn_40 : decode cX10_dropTurn 40 = .ok (.iload_n 1, 1) := by decide +kernel
theorem dX10_dropTurn_41 : decode cX10_dropTurn 41 = .ok (.aload_n 0, 1) := by decide +kernel
theorem dX10_dropTurn_42 : decode cX10_dropTurn 42 = .ok (.getfield 151, 3) := by decide +kernel
theorem dX10_dropTurn_45 : decode cX10_dropTurn 45 = .ok (.iastore, 1) := by decide +kernel
theorem dX10_dropTurn_46 : decode cX10_dropTurn 46 = .ok (.goto 36, 3) := by decide +kernel
theorem dX10_dropTurn_49 : decode cX10_dropTurn 49 = .ok (.iload_n 3, 1) := by decide +kernel
theorem dX10_dropTurn_50 : decode cX10_dropTurn 50 = .ok (.iconst 2, 1) := by decide +kernel
theorem dX10_dropTurn_51 : decode cX10_dropTurn 51 = .ok (.if_icmp .ne 16, 3) := by decide +kernel
theorem dX10_dropTurn_54 : decode cX10_dropTurn 54 = .ok (.aload_n 0, 1) := by decide +kernel
theorem dX10_dropTurn_55 : decode cX10_dropTurn 55 = .ok (.getfield 63, 3) := by decide +kernel
theorem dX10_dropTurn_58 : decode cX10_dropTurn 58 = .ok (.iload_n 1, 1) := by decide +kernel
theorem dX10_dropTurn_59 : decode cX10_dropTurn 59 = .ok (.aload_n 0, 1) := by decide +kernel
theorem dX10_dropTurn_60 : decode cX10_dropTurn 60 = .ok (.getfield 151, 3) := by decide +kernel
theorem dX10_dropTurn_63 : decode cX10_dropTurn 63 = .ok (.iastore, 1) := by decide +kernel
theorem dX10_dropTurn_64 : decode cX10_dropTurn 64 = .ok (.goto 18, 3) := by decide +kernel
theorem dX10_dropTurn_67 : decode cX10_dropTurn 67 = .ok (.iload_n 3, 1) := by decide +kernel
theorem dX10_dropTurn_68 : decode cX10_dropTurn 68 = .ok (.iconst 3, 1) := by decide +kernel
theorem dX10_dropTurn_69 : decode cX10_dropTurn 69 = .ok (.if_icmp .ne 13, 3) := by decide +kernel
theorem dX10_dropTurn_72 : decode cX10_dropTurn 72 = .ok (.aload_n 0, 1) := by decide +kernel
theorem dX10_dropTurn_73 : decode cX10_dropTurn 73 = .ok (.getfield 66, 3) := by decide +kernel
theorem dX10_dropTurn_76 : decode cX10_dropTurn 76 = .ok (.iload_n 1, 1) := by decide +kernel
theorem dX10_dropTurn_77 : decode cX10_dropTurn 77 = .ok (.aload_n 0, 1) := by decide +kernel
theorem dX10_dropTurn_78 : decode cX10_dropTurn 78 = .ok (.getfield 151, 3) := by decide +kernel
theorem dX10_dropTurn_81 : decode cX10_dropTurn 81 = .ok (.iastore, 1) := by decide +kernel
theorem dX10_dropTurn_82 : decode cX10_dropTurn 82 = .ok (.iload_n 3, 1) := by decide +kernel
theorem dX10_dropTurn_83 : decode cX10_dropTurn 83 = .ok (.aload_n 0, 1) := by decide +kernel
theorem dX10_dropTurn_84 : decode cX10_dropTurn 84 = .ok (.getfield 30, 3) := by decide +kernel
theorem dX10_dropTurn_87 : decode cX10_dropTurn 87 = .ok (.iload_n 2, 1) := by decide +kernel
theorem dX10_dropTurn_88 : decode cX10_dropTurn 88 = .ok (.iaload, 1) := by decide +kernel
theorem dX10_dropTurn_89 : decode cX10_dropTurn 89 = .ok (.invokestatic 122, 3) := by decide +kernel
theorem dX10_dropTurn_92 : decode cX10_dropTurn 92 = .ok (.if_icmp .ge 16, 3) := by decide +kernel
theorem dX10_dropTurn_95 : decode cX10_dropTurn 95 = .ok (.aload_n 0, 1) := by decide +kernel
theorem dX10_dropTurn_96 : decode cX10_dropTurn 96 = .ok (.aload_n 0, 1) := by decide +kernel
theorem dX10_dropTurn_97 : decode cX10_dropTurn 97 = .ok (.iload_n 2, 1) := by decide +kernel
theorem dX10_dropTurn_98 : decode cX10_dropTurn 98 = .ok (.iload_n 3, 1) := by decide +kernel
theorem dX10_dropTurn_99 : decode cX10_dropTurn 99 = .ok (.invokevirtual 126, 3) := by decide +kernel
theorem dX10_dropTurn_102 : decode cX10_dropTurn 102 = .ok (.invokevirtual 154, 3) := by decide +kernel
theorem dX10_dropTurn_105 : decode cX10_dropTurn 105 = .ok (.goto 96, 3) := by decide +kernel
theorem dX10_dropTurn_108 : decode cX10_dropTurn 108 = .ok (.aload_n 0, 1) := by decide +kernel
theorem dX10_dropTurn_109 : decode cX10_dropTurn 109 = .ok (.getfield 30, 3) := by decide +kernel
theorem dX10_dropTurn_112 : decode cX10_dropTurn 112 = .ok (.iload_n 2, 1) := by decide +kernel
theorem dX10_dropTurn_113 : decode cX10_dropTurn 113 = .ok (.iaload, 1) := by decide +kernel
theorem dX10_dropTurn_114 : decode cX10_dropTurn 114 = .ok (.iconst 4, 1) := by decide +kernel
theorem dX10_dropTurn_115 : decode cX10_dropTurn 115 = .ok (.if_icmp .ne 26, 3) := by decide +kernel
theorem dX10_dropTurn_118 : decode cX10_dropTurn 118 = .ok (.aload_n 0, 1) := by decide +kernel
theorem dX10_dropTurn_119 : decode cX10_dropTurn 119 = .ok (.aload_n 0, 1) := by decide +kernel
theorem dX10_dropTurn_120 : decode cX10_dropTurn 120 = .ok (.getfield 63, 3) := by decide +kernel
theorem dX10_dropTurn_123 : decode cX10_dropTurn 123 = .ok (.iload_n 1, 1) := by decide +kernel
theorem dX10_dropTurn_124 : decode cX10_dropTurn 124 = .ok (.iaload, 1) := by decide +kernel
theorem dX10_dropTurn_125 : decode cX10_dropTurn 125 = .ok (.aload_n 0, 1) := by decide +kernel
theorem dX10_dropTurn_126 : decode cX10_dropTurn 126 = .ok (.getfield 36, 3) := by decide +kernel
theorem dX10_dropTurn_129 : decode cX10_dropTurn 129 = .ok (.iload_n 2, 1) := by decide +kernel
theorem dX10_dropTurn_130 : decode cX10_dropTurn 130 = .ok (.iaload, 1) := by decide +kernel
theorem dX10_dropTurn_131 : decode cX10_dropTurn 131 = .ok (.invokevirtual 141, 3) := by decide +kernel
theorem dX10_dropTurn_134 : decode cX10_dropTurn 134 = .ok (.ifCond .ne 7, 3) := by decide +kernel
theorem dX10_dropTurn_137 : decode cX10_dropTurn 137 = .ok (.iconst 1, 1) := by decide +kernel
theorem dX10_dropTurn_138 : decode cX10_dropTurn 138 = .ok (.goto 4, 3) := by decide +kernel
theorem dX10_dropTurn_141 : decode cX10_dropTurn 141 = .ok (.iconst 0, 1) := by decide +kernel
theorem dX10_dropTurn_142 : decode cX10_dropTurn 142 = .ok (.istore 4, 2) := by decide +kernel
theorem dX10_dropTurn_144 : decode cX10_dropTurn 144 = .ok (.aload_n 0, 1) := by decide +kernel
theorem dX10_dropTurn_145 : decode cX10_dropTurn 145 = .ok (.iload 4, 2) := by decide +kernel
theorem dX10_dropTurn_147 : decode cX10_dropTurn 147 = .ok (.ifCond .eq 12, 3) := by decide +kernel
theorem dX10_dropTurn_150 : decode cX10_dropTurn 150 = .ok (.aload_n 0, 1) := by decide +kernel
theorem dX10_dropTurn_151 : decode cX10_dropTurn 151 = .ok (.getfield 63, 3) := by decide +kernel
theorem dX10_dropTurn_154 : decode cX10_dropTurn 154 = .ok (.iload_n 1, 1) := by decide +kernel
theorem dX10_dropTurn_155 : decode cX10_dropTurn 155 = .ok (.iaload, 1) := by decide +kernel
theorem dX10_dropTurn_156 : decode cX10_dropTurn 156 = .ok (.goto 32, 3) := by decide +kernel
theorem dX10_dropTurn_159 : decode cX10_dropTurn 159 = .ok (.aload_n 0, 1) := by decide +kernel
theorem dX10_dropTurn_160 : decode cX10_dropTurn 160 = .ok (.iload_n 2, 1) := by decide +kernel
theorem dX10_dropTurn_161 : decode cX10_dropTurn 161 = .ok (.aload_n 0, 1) := by decide +kernel
theorem dX10_dropTurn_162 : decode cX10_dropTurn 162 = .ok (.getfield 36, 3) := by decide +kernel
theorem dX10_dropTurn_165 : decode cX10_dropTurn 165 = .ok (.iload_n 2, 1) := by decide +kernel
theorem dX10_dropTurn_166 : decode cX10_dropTurn 166 = .ok (.iaload, 1) := by decide +kernel
theorem dX10_dropTurn_167 : decode cX10_dropTurn 167 = .ok (.aload_n 0, 1) := by decide +kernel
theorem dX10_dropTurn_168 : decode cX10_dropTurn 168 = .ok (.getfield 60, 3) := by decide +kernel
theorem dX10_dropTurn_171 : decode cX10_dropTurn 171 = .ok (.iload_n 1, 1) := by decide +kernel
theorem dX10_dropTurn_172 : decode cX10_dropTurn 172 = .ok (.iaload, 1) := by decide +kernel
theorem dX10_dropTurn_173 : decode cX10_dropTurn 173 = .ok (.aload_n 0, 1) := by decide +kernel
theorem dX10_dropTurn_174 : decode cX10_dropTurn 174 = .ok (.getfield 63, 3) := by decide +kernel
theorem dX10_dropTurn_177 : decode cX10_dropTurn 177 = .ok (.iload_n 1, 1) := by decide +kernel
theorem dX10_dropTurn_178 : decode cX10_dropTurn 178 = .ok (.iaload, 1) := by decide +kernel
theorem dX10_dropTurn_179 : decode cX10_dropTurn 179 = .ok (.aload_n 0, 1) := by decide +kernel
theorem dX10_dropTurn_180 : decode cX10_dropTurn 180 = .ok (.getfield 66, 3) := by decide +kernel
theorem dX10_dropTurn_183 : decode cX10_dropTurn 183 = .ok (.iload_n 1, 1) := by decide +kernel
theorem dX10_dropTurn_184 : decode cX10_dropTurn 184 = .ok (.iaload, 1) := by decide +kernel
theorem dX10_dropTurn_185 : decode cX10_dropTurn 185 = .ok (.invokevirtual 190, 3) := by decide +kernel
theorem dX10_dropTurn_188 : decode cX10_dropTurn 188 = .ok (.putfield 151, 3) := by decide +kernel
theorem dX10_dropTurn_191 : decode cX10_dropTurn 191 = .ok (.aload_n 0, 1) := by decide +kernel
theorem dX10_dropTurn_192 : decode cX10_dropTurn 192 = .ok (.dup, 1) := by decide +kernel
theorem dX10_dropTurn_193 : decode cX10_dropTurn 193 = .ok (.getfield 145, 3) := by decide +kernel
theorem dX10_dropTurn_196 : decode cX10_dropTurn 196 = .ok (.iconst 1, 1) := by decide +kernel
theorem dX10_dropTurn_197 : decode cX10_dropTurn 197 = .ok (.isub, 1) := by decide +kernel
theorem dX10_dropTurn_198 : decode cX10_dropTurn 198 = .ok (.putfield 145, 3) := by decide +kernel
theorem dX10_dropTurn_201 : decode cX10_dropTurn 201 = .ok (.return_, 1) := by decide +kernel
theorem dX10_drop_0 : decode cX10_drop 0 = .ok (.aload_n 0, 1) := by decide +kernel
theorem dX10_drop_1 : decode cX10_drop 1 = .ok (.iload_n 1, 1) := by decide +kernel
theorem dX10_drop_2 : decode cX10_drop 2 = .ok (.invokevirtual 136, 3) := by decide +kernel
theorem dX10_drop_5 : decode cX10_drop 5 = .ok (.ifCond .ne 5, 3) := by decide +kernel
theorem dX10_drop_8 : decode cX10_drop 8 = .ok (.iconst (-1), 1) := by decide +kernel
theorem dX10_drop_9 : decode cX10_drop 9 = .ok (.ireturn, 1) := by decide +kernel
theorem dX10_drop_10 : decode cX10_drop 10 = .ok (.aload_n 0, 1) := by decide +kernel
theorem dX10_drop_11 : decode cX10_drop 11 = .ok (.getfield 119, 3) := by decide +kernel
theorem dX10_drop_14 : decode cX10_drop 14 = .ok (.istore_n 2, 1) := by decide +kernel
theorem dX10_drop_15 : decode cX10_drop 15 = .ok (.aload_n 0, 1) := by decide +kernel
theorem dX10_drop_16 : decode cX10_drop 16 = .ok (.iconst 0, 1) := by decide +kernel
theorem dX10_drop_17 : decode cX10_drop 17 = .ok (.putfield 145, 3) := by decide +kernel
theorem dX10_drop_20 : decode cX10_drop 20 = .ok (.aload_n 0, 1) := by decide +kernel
theorem dX10_drop_21 : decode cX10_drop 21 = .ok (.iload_n 1, 1) := by decide +kernel
theorem dX10_drop_22 : decode cX10_drop 22 = .ok (.putfield 151, 3) := by decide +kernel
theorem dX10_drop_25 : decode cX10_drop 25 = .ok (.aload_n 0, 1) := by decide +kernel
theorem dX10_drop_26 : decode cX10_drop 26 = .ok (.iload_n 1, 1) := by decide +kernel
theorem dX10_drop_27 : decode cX10_drop 27 = .ok (.invokevirtual 154, 3) := by decide +kernel
theorem dX10_drop_30 : decode cX10_drop 30 = .ok (.aload_n 0, 1) := by decide +kernel
theorem dX10_drop_31 : decode cX10_drop 31 = .ok (.getfield 145, 3) := by decide +kernel
theorem dX10_drop_34 : decode cX10_drop 34 = .ok (.ifCond .le 19, 3) := by decide +kernel
theorem dX10_drop_37 : decode cX10_drop 37 = .ok (.aload_n 0, 1) := by decide +kernel
theorem dX10_drop_38 : decode cX10_drop 38 = .ok (.getfield 151, 3) := by decide +kernel
theorem dX10_drop_41 : decode cX10_drop 41 = .ok (.bipush (-3), 2) := by decide +kernel
theorem dX10_drop_43 : decode cX10_drop 43 = .ok (.if_icmp .eq 10, 3) := by decide +kernel
theorem dX10_drop_46 : decode cX10_drop 46 = .ok (.aload_n 0, 1) := by decide +kernel
theorem dX10_drop_47 : decode cX10_drop 47 = .ok (.invokevirtual 219, 3) := by decide +kernel
theorem dX10_drop_50 : decode cX10_drop 50 = .ok (.goto (-20), 3) := by decide +kernel
theorem dX10_drop_53 : decode cX10_drop 53 = .ok (.aload_n 0, 1) := by decide +kernel
theorem dX10_drop_54 : decode cX10_drop 54 = .ok (.aload_n 0, 1) := by decide +kernel
theorem dX10_drop_55 : decode cX10_drop 55 = .ok (.getfield 151, 3) := by decide +kernel
theorem dX10_drop_58 : decode cX10_drop 58 = .ok (.bipush (-3), 2) := by decide +kernel
theorem dX10_drop_60 : decode cX10_drop 60 = .ok (.if_icmp .ne 7, 3) := by decide +kernel
theorem dX10_drop_63 : decode cX10_drop 63 = .ok (.iload_n 2, 1) := by decide +kernel
theorem dX10_drop_64 : decode cX10_drop 64 = .ok (.goto 7, 3) := by decide +kernel
theorem dX10_drop_67 : decode cX10_drop 67 = .ok (.aload_n 0, 1) := by decide +kernel
theorem dX10_drop_68 : decode cX10_drop 68 = .ok (.getfield 119, 3) := by decide +kernel
theorem dX10_drop_71 : decode cX10_drop 71 = .ok (.putfield 119, 3) := by decide +kernel
theorem dX10_drop_74 : decode cX10_drop 74 = .ok (.aload_n 0, 1) := by decide +kernel
theorem dX10_drop_75 : decode cX10_drop 75 = .ok (.getfield 151, 3) := by decide +kernel
theorem dX10_drop_78 : decode cX10_drop 78 = .ok (.ireturn, 1) := by decide +kernel
theorem dX10_say_0 : decode cX10_say 0 = .ok (.aload_n 0, 1) := by decide +kernel
theorem dX10_say_1 : decode cX10_say 1 = .ok (.getfield 222, 3) := by decide +kernel
theorem dX10_say_4 : decode cX10_say 4 = .ok (.sipush 4000, 3) := by decide +kernel
theorem dX10_say_7 : decode cX10_say 7 = .ok (.if_icmp .ne 9, 3) := by decide +kernel
theorem dX10_say_10 : decode cX10_say 10 = .ok (.aload_n 0, 1) := by decide +kernel
theorem dX10_say_11 : decode cX10_say 11 = .ok (.iconst 1, 1) := by decide +kernel
theorem dX10_say_12 : decode cX10_say 12 = .ok (.putfield 225, 3) := by decide +kernel
theorem dX10_say_15 : decode cX10_say 15 = .ok (.return_, 1) := by decide +kernel
theorem dX10_say_16 : decode cX10_say 16 = .ok (.aload_n 0, 1) := by decide +kernel
theorem dX10_say_17 : decode cX10_say 17 = .ok (.getfield 96, 3) := by decide +kernel
theorem dX10_say_20 : decode cX10_say 20 = .ok (.aload_n 0, 1) := by decide +kernel
theorem dX10_say_21 : decode cX10_say 21 = .ok (.getfield 222, 3) := by decide +kernel
theorem dX10_say_24 : decode cX10_say 24 = .ok (.iload_n 1, 1) := by decide +kernel
theorem dX10_say_25 : decode cX10_say 25 = .ok (.iastore, 1) := by decide +kernel
theorem dX10_say_26 : decode cX10_say 26 = .ok (.aload_n 0, 1) := by decide +kernel
theorem dX10_say_27 : decode cX10_say 27 = .ok (.dup, 1) := by decide +kernel
theorem dX10_say_28 : decode cX10_say 28 = .ok (.getfield 222, 3) := by decide +kernel
theorem dX10_say_31 : decode cX10_say 31 = .ok (.iconst 1, 1) := by decide +kernel
theorem dX10_say_32 : decode cX10_say 32 = .ok (.iadd, 1) := by decide +kernel
theorem dX10_say_33 : decode cX10_say 33 = .ok (.putfield 222, 3) := by decide +kernel
theorem dX10_say_36 : decode cX10_say 36 = .ok (.return_, 1) := by decide +kernel
theorem dX10_sayNumber_0 : decode cX10_sayNumber 0 = .ok (.iload_n 1, 1) := by decide +kernel
theorem dX10_sayNumber_1 : decode cX10_sayNumber 1 = .ok (.i2l, 1) := by decide +kernel
theorem dX10_sayNumber_2 : decode cX10_sayNumber 2 = .ok (.lstore_n 2, 1) := by decide +kernel
theorem dX10_sayNumber_3 : decode cX10_sayNumber 3 = .ok (.lload_n 2, 1) := by decide +kernel
theorem dX10_sayNumber_4 : decode cX10_sayNumber 4 = .ok (.lconst 0, 1) := by decide +kernel
theorem dX10_sayNumber_5 : decode cX10_sayNumber 5 = .ok (.lcmp, 1) := by decide +kernel
theorem dX10_sayNumber_6 : decode cX10_sayNumber 6 = .ok (.ifCond .ge 12, 3) := by decide +kernel
theorem dX10_sayNumber_9 : decode cX10_sayNumber 9 = .ok (.aload_n 0, 1) := by decide +kernel
theorem dX10_sayNumber_10 : decode cX10_sayNumber 10 = .ok (.bipush 45, 2) := by decide +kernel
theorem dX10_sayNumber_12 : decode cX10_sayNumber 12 = .ok (.invokevirtual 229, 3) := by decide +kernel
theorem dX10_sayNumber_15 : decode cX10_sayNumber 15 = .ok (.lload_n 2, 1) := by decide +kernel
theorem dX10_sayNumber_16 : decode cX10_sayNumber 16 = .ok (.lneg, 1) := by decide +kernel
theorem dX10_sayNumber_17 : decode cX10_sayNumber 17 = .ok (.lstore_n 2, 1) := by decide +kernel
theorem dX10_sayNumber_18 : decode cX10_sayNumber 18 = .ok (.lconst 1, 1) := by decide +kernel
theorem dX10_sayNumber_19 : decode cX10_sayNumber 19 = .ok (.lstore 4, 2) := by decide +kernel
theorem dX10_sayNumber_21 : decode cX10_sayNumber 21 = .ok (.lload_n 2, 1) := by decide +kernel
theorem dX10_sayNumber_22 : decode cX10_sayNumber 22 = .ok (.lload 4, 2) := by decide +kernel
theorem dX10_sayNumber_24 : decode cX10_sayNumber 24 = .ok (.ldiv, 1) := by decide +kernel
theorem dX10_sayNumber_25 : decode cX10_sayNumber 25 = .ok (.ldc2_w 232, 3) := by decide +kernel
theorem dX10_sayNumber_28 : decode cX10_sayNumber 28 = .ok (.lcmp, 1) := by decide +kernel
theorem dX10_sayNumber_29 : decode cX10_sayNumber 29 = .ok (.ifCond .le 14, 3) := by decide +kernel
theorem dX10_sayNumber_32 : decode cX10_sayNumber 32 = .ok (.lload 4, 2) := by decide +kernel
theorem dX10_sayNumber_34 : decode cX10_sayNumber 34 = .ok (.ldc2_w 234, 3) := by decide +kernel
theorem dX10_sayNumber_37 : decode cX10_sayNumber 37 = .ok (.lmul, 1) := by decide +kernel
theorem dX10_sayNumber_38 : decode cX10_sayNumber 38 = .ok (.lstore 4, 2) := by decide +kernel
theorem dX10_sayNumber_40 : decode cX10_sayNumber 40 = .ok (.goto (-19), 3) := by decide +kernel
theorem dX10_sayNumber_43 : decode cX10_sayNumber 43 = .ok (.lload 4, 2) := by decide +kernel
theorem dX10_sayNumber_45 : decode cX10_sayNumber 45 = .ok (.lconst 0, 1) := by decide +kernel
theorem dX10_sayNumber_46 : decode cX10_sayNumber 46 = .ok (.lcmp, 1) := by decide +kernel
theorem dX10_sayNumber_47 : decode cX10_sayNumber 47 = .ok (.ifCond .le 30, 3) := by decide +kernel
theorem dX10_sayNumber_50 : decode cX10_sayNumber 50 = .ok (.aload_n 0, 1) := by decide +kernel
theorem dX10_sayNumber_51 : decode cX10_sayNumber 51 = .ok (.bipush 48, 2) := by decide +kernel
theorem dX10_sayNumber_53 : decode cX10_sayNumber 53 = .ok (.lload_n 2, 1) := by decide +kernel
theorem dX10_sayNumber_54 : decode cX10_sayNumber 54 = .ok (.lload 4, 2) := by decide +kernel
theorem dX10_sayNumber_56 : decode cX10_sayNumber 56 = .ok (.ldiv, 1) := by decide +kernel
theorem dX10_sayNumber_57 : decode cX10_sayNumber 57 = .ok (.ldc2_w 234, 3) := by decide +kernel
theorem dX10_sayNumber_60 : decode cX10_sayNumber 60 = .ok (.lrem, 1) := by decide +kernel
theorem dX10_sayNumber_61 : decode cX10_sayNumber 61 = .ok (.l2i, 1) := by decide +kernel
theorem dX10_sayNumber_62 : decode cX10_sayNumber 62 = .ok (.iadd, 1) := by decide +kernel
theorem dX10_sayNumber_63 : decode cX10_sayNumber 63 = .ok (.invokevirtual 229, 3) := by decide +kernel
theorem dX10_sayNumber_66 : decode cX10_sayNumber 66 = .ok (.lload 4, 2) := by decide +kernel
theorem dX10_sayNumber_68 : decode cX10_sayNumber 68 = .ok (.ldc2_w 234, 3) := by decide +kernel
theorem dX10_sayNumber_71 : decode cX10_sayNumber 71 = .ok (.ldiv, 1) := by decide +kernel
theorem dX10_sayNumber_72 : decode cX10_sayNumber 72 = .ok (.lstore 4, 2) := by decide +kernel
theorem dX10_sayNumber_74 : decode cX10_sayNumber 74 = .ok (.goto (-31), 3) := by decide +kernel
theorem dX10_sayNumber_77 : decode cX10_sayNumber 77 = .ok (.return_, 1) := by decide +kernel
theorem dX10_sayType_0 : decode cX10_sayType 0 = .ok (.iconst 1, 1) := by decide +kernel
theorem dX10_sayType_1 : decode cX10_sayType 1 = .ok (.istore_n 2, 1) := by decide +kernel
theorem dX10_sayType_2 : decode cX10_sayType 2 = .ok (.aload_n 0, 1) := by decide +kernel
theorem dX10_sayType_3 : decode cX10_sayType 3 = .ok (.getfield 99, 3) := by decide +kernel
theorem dX10_sayType_6 : decode cX10_sayType 6 = .ok (.iconst 0, 1) := by decide +kernel
theorem dX10_sayType_7 : decode cX10_sayType 7 = .ok (.iload_n 1, 1) := by decide +kernel
theorem dX10_sayType_8 : decode cX10_sayType 8 = .ok (.iastore, 1) := by decide +kernel
theorem dX10_sayType_9 : decode cX10_sayType 9 = .ok (.aload_n 0, 1) := by decide +kernel
theorem dX10_sayType_10 : decode cX10_sayType 10 = .ok (.getfield 102, 3) := by decide +kernel
theorem dX10_sayType_13 : decode cX10_sayType 13 = .ok (.iconst 0, 1) := by decide +kernel
theorem dX10_sayType_14 : decode cX10_sayType 14 = .ok (.iconst 0, 1) := by decide +kernel
theorem dX10_sayType_15 : decode cX10_sayType 15 = .ok (.iastore, 1) := by decide +kernel
theorem dX10_sayType_16 : decode cX10_sayType 16 = .ok (.iload_n 2, 1) := by decide +kernel
theorem dX10_sayType_17 : decode cX10_sayType 17 = .ok (.ifCond .le 123, 3) := by decide +kernel
theorem dX10_sayType_20 : decode cX10_sayType 20 = .ok (.aload_n 0, 1) := by decide +kernel
theorem dX10_sayType_21 : decode cX10_sayType 21 = .ok (.getfield 99, 3) := by decide +kernel
theorem dX10_sayType_24 : decode cX10_sayType 24 = .ok (.iload_n 2, 1) := by decide +kernel
theorem dX10_sayType_25 : decode cX10_sayType 25 = .ok (.iconst 1, 1) := by decide +kernel
theorem dX10_sayType_26 : decode cX10_sayType 26 = .ok (.isub, 1) := by decide +kernel
theorem dX10_sayType_27 : decode cX10_sayType 27 = .ok (.iaload, 1) := by decide +kernel
theorem dX10_sayType_28 : decode cX10_sayType 28 = .ok (.istore_n 3, 1) := by decide +kernel
theorem dX10_sayType_29 : decode cX10_sayType 29 = .ok (.aload_n 0, 1) := by decide +kernel
theorem dX10_sayType_30 : decode cX10_sayType 30 = .ok (.getfield 102, 3) := by decide +kernel
theorem dX10_sayType_33 : decode cX10_sayType 33 = .ok (.iload_n 2, 1) := by decide +kernel
theorem dX10_sayType_34 : decode cX10_sayType 34 = .ok (.iconst 1, 1) := by decide +kernel
theorem dX10_sayType_35 : decode cX10_sayType 35 = .ok (.isub, 1) := by decide +kernel
theorem dX10_sayType_36 : decode cX10_sayType 36 = .ok (.iaload, 1) := by decide +kernel
theorem dX10_sayType_37 : decode cX10_sayType 37 = .ok (.istore 4, 2) := by decide +kernel
theorem dX10_sayType_39 : decode cX10_sayType 39 = .ok (.aload_n 0, 1) := by decide +kernel
theorem dX10_sayType_40 : decode cX10_sayType 40 = .ok (.getfield 102, 3) := by decide +kernel
theorem dX10_sayType_43 : decode cX10_sayType 43 = .ok (.iload_n 2, 1) := by decide +kernel
theorem dX10_sayType_44 : decode cX10_sayType 44 = .ok (.iconst 1, 1) := by decide +kernel
theorem dX10_sayType_45 : decode cX10_sayType 45 = .ok (.isub, 1) := by decide +kernel
theorem dX10_sayType_46 : decode cX10_sayType 46 = .ok (.dup2, 1) := by decide +kernel
theorem dX10_sayType_47 : decode cX10_sayType 47 = .ok (.iaload, 1) := by decide +kernel
theorem dX10_sayType_48 : decode cX10_sayType 48 = .ok (.iconst 1, 1) := by decide +kernel
theorem dX10_sayType_49 : decode cX10_sayType 49 = .ok (.iadd, 1) := by decide +kernel
theorem dX10_sayType_50 : decode cX10_sayType 50 = .ok (.iastore, 1) := by decide +kernel
theorem dX10_sayType_51 : decode cX10_sayType 51 = .ok (.iload_n 3, 1) := by decide +kernel
theorem dX10_sayType_52 : decode cX10_sayType 52 = .ok (.ifCond .ne 15, 3) := by decide +kernel
theorem dX10_sayType_55 : decode cX10_sayType 55 = .ok (.aload_n 0, 1) := by decide +kernel
theorem dX10_sayType_56 : decode cX10_sayType 56 = .ok (.bipush 105, 2) := by decide +kernel
theorem dX10_sayType_58 : decode cX10_sayType 58 = .ok (.invokevirtual 229, 3) := by decide +kernel
theorem dX10_sayType_61 : decode cX10_sayType 61 = .ok (.iinc 2 (-1), 3) := by decide +kernel
theorem dX10_sayType_64 : decode cX10_sayType 64 = .ok (.goto 73, 3) := by decide +kernel
theorem dX10_sayType_67 : decode cX10_sayType 67 = .ok (.iload 4, 2) := by decide +kernel
theorem dX10_sayType_69 : decode cX10_sayType 69 = .ok (.iconst 2, 1) := by decide +kernel
theorem dX10_sayType_70 : decode cX10_sayType 70 = .ok (.if_icmp .ge 58, 3) := by decide +kernel
theorem dX10_sayType_73 : decode cX10_sayType 73 = .ok (.aload_n 0, 1) := by decide +kernel
theorem dX10_sayType_74 : decode cX10_sayType 74 = .ok (.iload 4, 2) := by decide +kernel
theorem dX10_sayType_76 : decode cX10_sayType 76 = .ok (.ifCond .ne 8, 3) := by decide +kernel
theorem dX10_sayType_79 : decode cX10_sayType 79 = .ok (.bipush 40, 2) := by decide +kernel
theorem dX10_sayType_81 : decode cX10_sayType 81 = .ok (.goto 5, 3) := by decide +kernel
theorem dX10_sayType_84 : decode cX10_sayType 84 = .ok (.bipush 62, 2) := by decide +kernel
theorem dX10_sayType_86 : decode cX10_sayType 86 = .ok (.invokevirtual 229, 3) := by decide +kernel
theorem dX10_sayType_89 : decode cX10_sayType 89 = .ok (.aload_n 0, 1) := by decide +kernel
theorem dX10_sayType_90 : decode cX10_sayType 90 = .ok (.getfield 99, 3) := by decide +kernel
theorem dX10_sayType_93 : decode cX10_sayType 93 = .ok (.iload_n 2, 1) := by decide +kernel
theorem dX10_sayType_94 : decode cX10_sayType 94 = .ok (.iload 4, 2) := by decide +kernel
theorem dX10_sayType_96 : decode cX10_sayType 96 = .ok (.ifCond .ne 12, 3) := by decide +kernel
theorem dX10_sayType_99 : decode cX10_sayType 99 = .ok (.aload_n 0, 1) := by decide +kernel
theorem dX10_sayType_100 : decode cX10_sayType 100 = .ok (.getfield 17, 3) := by decide +kernel
theorem dX10_sayType_103 : decode cX10_sayType 103 = .ok (.iload_n 3, 1) := by decide +kernel
theorem dX10_sayType_104 : decode cX10_sayType 104 = .ok (.iaload, 1) := by decide +kernel
theorem dX10_sayType_105 : decode cX10_sayType 105 = .ok (.goto 9, 3) := by decide +kernel
theorem dX10_sayType_108 : decode cX10_sayType 108 = .ok (.aload_n 0, 1) := by decide +kernel
theorem dX10_sayType_109 : decode cX10_sayType 109 = .ok (.getfield 21, 3) := by decide +kernel
theorem dX10_sayType_112 : decode cX10_sayType 112 = .ok (.iload_n 3, 1) := by decide +kernel
theorem dX10_sayType_113 : decode cX10_sayType 113 = .ok (.iaload, 1) := by decide +kernel
theorem dX10_sayType_114 : decode cX10_sayType 114 = .ok (.iastore, 1) := by decide +kernel
theorem dX10_sayType_115 : decode cX10_sayType 115 = .ok (.aload_n 0, 1) := by decide +kernel
theorem dX10_sayType_116 : decode cX10_sayType 116 = .ok (.getfield 102, 3) := by decide +kernel
theorem dX10_sayType_119 : decode cX10_sayType 119 = .ok (.iload_n 2, 1) := by decide +kernel
theorem dX10_sayType_120 : decode cX10_sayType 120 = .ok (.iconst 0, 1) := by decide +kernel
theorem dX10_sayType_121 : decode cX10_sayType 121 = .ok (.iastore, 1) := by decide +kernel
theorem dX10_sayType_122 : decode cX10_sayType 122 = .ok (.iinc 2 1, 3) := by decide +kernel
theorem dX10_sayType_125 : decode cX10_sayType 125 = .ok (.goto 12, 3) := by decide +kernel
theorem dX10_sayType_128 : decode cX10_sayType 128 = .ok (.aload_n 0, 1) := by decide +kernel
theorem dX10_sayType_129 : decode cX10_sayType 129 = .ok (.bipush 41, 2) := by decide +kernel
theorem dX10_sayType_131 : decode cX10_sayType 131 = .ok (.invokevirtual 229, 3) := by decide +kernel
theorem dX10_sayType_134 : decode cX10_sayType 134 = .ok (.iinc 2 (-1), 3) := by decide +kernel
theorem dX10_sayType_137 : decode cX10_sayType 137 = .ok (.goto (-121), 3) := by decide +kernel
theorem dX10_sayType_140 : decode cX10_sayType 140 = .ok (.return_, 1) := by decide +kernel
theorem dX10_sayAt_0 : decode cX10_sayAt 0 = .ok (.aload_n 0, 1) := by decide +kernel
theorem dX10_sayAt_1 : decode cX10_sayAt 1 = .ok (.getfield 30, 3) := by decide +kernel
theorem dX10_sayAt_4 : decode cX10_sayAt 4 = .ok (.iload_n 1, 1) := by decide +kernel
theorem dX10_sayAt_5 : decode cX10_sayAt 5 = .ok (.iaload, 1) := by decide +kernel
theorem dX10_sayAt_6 : decode cX10_sayAt 6 = .ok (.istore_n 3, 1) := by decide +kernel
theorem dX10_sayAt_7 : decode cX10_sayAt 7 = .ok (.iload_n 3, 1) := by decide +kernel
theorem dX10_sayAt_8 : decode cX10_sayAt 8 = .ok (.ifCond .ne 16, 3) := by decide +kernel
theorem dX10_sayAt_11 : decode cX10_sayAt 11 = .ok (.aload_n 0, 1) := by decide +kernel
theorem dX10_sayAt_12 : decode cX10_sayAt 12 = .ok (.aload_n 0, 1) := by decide +kernel
theorem dX10_sayAt_13 : decode cX10_sayAt 13 = .ok (.getfield 33, 3) := by decide +kernel
theorem dX10_sayAt_16 : decode cX10_sayAt 16 = .ok (.iload_n 1, 1) := by decide +kernel
theorem dX10_sayAt_17 : decode cX10_sayAt 17 = .ok (.iaload, 1) := by decide +kernel
theorem dX10_sayAt_18 : decode cX10_sayAt 18 = .ok (.invokevirtual 236, 3) := by decide +kernel
theorem dX10_sayAt_21 : decode cX10_sayAt 21 = .ok (.goto 222, 3) := by decide +kernel
theorem dX10_sayAt_24 : decode cX10_sayAt 24 = .ok (.iload_n 3, 1) := by decide +kernel
theorem dX10_sayAt_25 : decode cX10_sayAt 25 = .ok (.iconst 1, 1) := by decide +kernel
theorem dX10_sayAt_26 : decode cX10_sayAt 26 = .ok (.if_icmp .ne 19, 3) := by decide +kernel
theorem dX10_sayAt_29 : decode cX10_sayAt 29 = .ok (.aload_n 0, 1) := by decide +kernel
theorem dX10_sayAt_30 : decode cX10_sayAt 30 = .ok (.bipush 97, 2) := by decide +kernel
theorem dX10_sayAt_32 : decode cX10_sayAt 32 = .ok (.aload_n 0, 1) := by decide +kernel
theorem dX10_sayAt_33 : decode cX10_sayAt 33 = .ok (.getfield 36, 3) := by decide +kernel
theorem dX10_sayAt_36 : decode cX10_sayAt 36 = .ok (.iload_n 1, 1) := by decide +kernel
theorem dX10_sayAt_37 : decode cX10_sayAt 37 = .ok (.iaload, 1) := by decide +kernel
theorem dX10_sayAt_38 : decode cX10_sayAt 38 = .ok (.iadd, 1) := by decide +kernel
theorem dX10_sayAt_39 : decode cX10_sayAt 39 = .ok (.invokevirtual 229, 3) := by decide +kernel
theorem dX10_sayAt_42 : decode cX10_sayAt 42 = .ok (.goto 201, 3) := by decide +kernel
theorem dX10_sayAt_45 : decode cX10_sayAt 45 = .ok (.iload_n 3, 1) := by decide +kernel
theorem dX10_sayAt_46 : decode cX10_sayAt 46 = .ok (.iconst 2, 1) := by decide +kernel
theorem dX10_sayAt_47 : decode cX10_sayAt 47 = .ok (.if_icmp .ne 51, 3) := by decide +kernel
theorem dX10_sayAt_50 : decode cX10_sayAt 50 = .ok (.iload_n 2, 1) := by decide +kernel
theorem dX10_sayAt_51 : decode cX10_sayAt 51 = .ok (.ifCond .ne 47, 3) := by decide +kernel
theorem dX10_sayAt_54 : decode cX10_sayAt 54 = .ok (.aload_n 0, 1) := by decide +kernel
theorem dX10_sayAt_55 : decode cX10_sayAt 55 = .ok (.bipush 92, 2) := by decide +kernel
theorem dX10_sayAt_57 : decode cX10_sayAt 57 = .ok (.invokevirtual 229, 3) := by decide +kernel
theorem dX10_sayAt_60 : decode cX10_sayAt 60 = .ok (.aload_n 0, 1) := by decide +kernel
theorem dX10_sayAt_61 : decode cX10_sayAt 61 = .ok (.bipush 97, 2) := by decide +kernel
theorem dX10_sayAt_63 : decode cX10_sayAt 63 = .ok (.aload_n 0, 1) := by decide +kernel
theorem dX10_sayAt_64 : decode cX10_sayAt 64 = .ok (.getfield 36, 3) := by decide +kernel
theorem dX10_sayAt_67 : decode cX10_sayAt 67 = .ok (.iload_n 1, 1) := by decide +kernel
theorem dX10_sayAt_68 : decode cX10_sayAt 68 = .ok (.iaload, 1) := by decide +kernel
theorem dX10_sayAt_69 : decode cX10_sayAt 69 = .ok (.iadd, 1) := by decide +kernel
theorem dX10_sayAt_70 : decode cX10_sayAt 70 = .ok (.invokevirtual 229, 3) := by decide +kernel
theorem dX10_sayAt_73 : decode cX10_sayAt 73 = .ok (.aload_n 0, 1) := by decide +kernel
theorem dX10_sayAt_74 : decode cX10_sayAt 74 = .ok (.bipush 58, 2) := by decide +kernel
theorem dX10_sayAt_76 : decode cX10_sayAt 76 = .ok (.invokevirtual 229, 3) := by decide +kernel
theorem dX10_sayAt_79 : decode cX10_sayAt 79 = .ok (.aload_n 0, 1) := by decide +kernel
theorem dX10_sayAt_80 : decode cX10_sayAt 80 = .ok (.aload_n 0, 1) := by decide +kernel
theorem dX10_sayAt_81 : decode cX10_sayAt 81 = .ok (.getfield 39, 3) := by decide +kernel
theorem dX10_sayAt_84 : decode cX10_sayAt 84 = .ok (.iload_n 1, 1) := by decide +kernel
theorem dX10_sayAt_85 : decode cX10_sayAt 85 = .ok (.iaload, 1) := by decide +kernel
theorem dX10_sayAt_86 : decode cX10_sayAt 86 = .ok (.invokevirtual 239, 3) := by decide +kernel
theorem dX10_sayAt_89 : decode cX10_sayAt 89 = .ok (.aload_n 0, 1) := by decide +kernel
theorem dX10_sayAt_90 : decode cX10_sayAt 90 = .ok (.bipush 46, 2) := by decide +kernel
theorem dX10_sayAt_92 : decode cX10_sayAt 92 = .ok (.invokevirtual 229, 3) := by decide +kernel
theorem dX10_sayAt_95 : decode cX10_sayAt 95 = .ok (.goto 148, 3) := by decide +kernel
theorem dX10_sayAt_98 : decode cX10_sayAt 98 = .ok (.iload_n 3, 1) := by decide +kernel
theorem dX10_sayAt_99 : decode cX10_sayAt 99 = .ok (.iconst 4, 1) := by decide +kernel
theorem dX10_sayAt_100 : decode cX10_sayAt 100 = .ok (.if_icmp .ne 35, 3) := by decide +kernel
theorem dX10_sayAt_103 : decode cX10_sayAt 103 = .ok (.iload_n 2, 1) := by decide +kernel
theorem dX10_sayAt_104 : decode cX10_sayAt 104 = .ok (.ifCond .ne 31, 3) := by decide +kernel
theorem dX10_sayAt_107 : decode cX10_sayAt 107 = .ok (.aload_n 0, 1) := by decide +kernel
theorem dX10_sayAt_108 : decode cX10_sayAt 108 = .ok (.bipush 91, 2) := by decide +kernel
theorem dX10_sayAt_110 : decode cX10_sayAt 110 = .ok (.invokevirtual 229, 3) := by decide +kernel
theorem dX10_sayAt_113 : decode cX10_sayAt 113 = .ok (.aload_n 0, 1) := by decide +kernel
theorem dX10_sayAt_114 : decode cX10_sayAt 114 = .ok (.bipush 97, 2) := by decide +kernel
