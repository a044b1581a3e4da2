theorem dX4_choiceHere_48 : decode cX4_choiceHere 48 = .ok (.iload 4, 2) := by decide +kernel
theorem dX4_choiceHere_50 : decode cX4_choiceHere 50 = .ok (.ireturn, 1) := by decide +kernel
theorem dX4_choiceHere_51 : decode cX4_choiceHere 51 = .ok (.aload_n 0, 1) := by decide +kernel
theorem dX4_choiceHere_52 : decode cX4_choiceHere 52 = .ok (.bipush 125, 2) := by decide +kernel
theorem dX4_choiceHere_54 : decode cX4_choiceHere 54 = .ok (.invokevirtual 104, 3) := by decide +kernel
theorem dX4_choiceHere_57 : decode cX4_choiceHere 57 = .ok (.istore 5, 2) := by decide +kernel
theorem dX4_choiceHere_59 : decode cX4_choiceHere 59 = .ok (.iload 5, 2) := by decide +kernel
theorem dX4_choiceHere_61 : decode cX4_choiceHere 61 = .ok (.ifCond .ge 8, 3) := by decide +kernel
theorem dX4_choiceHere_64 : decode cX4_choiceHere 64 = .ok (.iload 5, 2) := by decide +kernel
theorem dX4_choiceHere_66 : decode cX4_choiceHere 66 = .ok (.goto 16, 3) := by decide +kernel
theorem dX4_choiceHere_69 : decode cX4_choiceHere 69 = .ok (.aload_n 0, 1) := by decide +kernel
theorem dX4_choiceHere_70 : decode cX4_choiceHere 70 = .ok (.getfield 19, 3) := by decide +kernel
theorem dX4_choiceHere_73 : decode cX4_choiceHere 73 = .ok (.bipush 6, 2) := by decide +kernel
theorem dX4_choiceHere_75 : decode cX4_choiceHere 75 = .ok (.iload_n 2, 1) := by decide +kernel
theorem dX4_choiceHere_76 : decode cX4_choiceHere 76 = .ok (.iload_n 3, 1) := by decide +kernel
theorem dX4_choiceHere_77 : decode cX4_choiceHere 77 = .ok (.iload 4, 2) := by decide +kernel
theorem dX4_choiceHere_79 : decode cX4_choiceHere 79 = .ok (.invokevirtual 118, 3) := by decide +kernel
theorem dX4_choiceHere_82 : decode cX4_choiceHere 82 = .ok (.ireturn, 1) := by decide +kernel
theorem dX4_typeHere_0 : decode cX4_typeHere 0 = .ok (.aload_n 0, 1) := by decide +kernel
theorem dX4_typeHere_1 : decode cX4_typeHere 1 = .ok (.invokevirtual 62, 3) := by decide +kernel
theorem dX4_typeHere_4 : decode cX4_typeHere 4 = .ok (.istore_n 2, 1) := by decide +kernel
theorem dX4_typeHere_5 : decode cX4_typeHere 5 = .ok (.iload_n 2, 1) := by decide +kernel
theorem dX4_typeHere_6 : decode cX4_typeHere 6 = .ok (.invokestatic 125, 3) := by decide +kernel
theorem dX4_typeHere_9 : decode cX4_typeHere 9 = .ok (.ifCond .ne 8, 3) := by decide +kernel
theorem dX4_typeHere_12 : decode cX4_typeHere 12 = .ok (.aload_n 0, 1) := by decide +kernel
theorem dX4_typeHere_13 : decode cX4_typeHere 13 = .ok (.invokevirtual 55, 3) := by decide +kernel
theorem dX4_typeHere_16 : decode cX4_typeHere 16 = .ok (.ireturn, 1) := by decide +kernel
theorem dX4_typeHere_17 : decode cX4_typeHere 17 = .ok (.iload_n 1, 1) := by decide +kernel
theorem dX4_typeHere_18 : decode cX4_typeHere 18 = .ok (.bipush 40, 2) := by decide +kernel
theorem dX4_typeHere_20 : decode cX4_typeHere 20 = .ok (.if_icmp .le 6, 3) := by decide +kernel
theorem dX4_typeHere_23 : decode cX4_typeHere 23 = .ok (.bipush (-3), 2) := by decide +kernel
theorem dX4_typeHere_25 : decode cX4_typeHere 25 = .ok (.ireturn, 1) := by decide +kernel
theorem dX4_typeHere_26 : decode cX4_typeHere 26 = .ok (.iload_n 2, 1) := by decide +kernel
theorem dX4_typeHere_27 : decode cX4_typeHere 27 = .ok (.bipush 105, 2) := by decide +kernel
theorem dX4_typeHere_29 : decode cX4_typeHere 29 = .ok (.if_icmp .ne 15, 3) := by decide +kernel
theorem dX4_typeHere_32 : decode cX4_typeHere 32 = .ok (.aload_n 0, 1) := by decide +kernel
theorem dX4_typeHere_33 : decode cX4_typeHere 33 = .ok (.dup, 1) := by decide +kernel
theorem dX4_typeHere_34 : decode cX4_typeHere 34 = .ok (.getfield 27, 3) := by decide +kernel
theorem dX4_typeHere_37 : decode cX4_typeHere 37 = .ok (.iconst 1, 1) := by decide +kernel
theorem dX4_typeHere_38 : decode cX4_typeHere 38 = .ok (.iadd, 1) := by decide +kernel
theorem dX4_typeHere_39 : decode cX4_typeHere 39 = .ok (.putfield 27, 3) := by decide +kernel
theorem dX4_typeHere_42 : decode cX4_typeHere 42 = .ok (.iconst 0, 1) := by decide +kernel
theorem dX4_typeHere_43 : decode cX4_typeHere 43 = .ok (.ireturn, 1) := by decide +kernel
theorem dX4_typeHere_44 : decode cX4_typeHere 44 = .ok (.aload_n 0, 1) := by decide +kernel
theorem dX4_typeHere_45 : decode cX4_typeHere 45 = .ok (.bipush 40, 2) := by decide +kernel
theorem dX4_typeHere_47 : decode cX4_typeHere 47 = .ok (.iload_n 1, 1) := by decide +kernel
theorem dX4_typeHere_48 : decode cX4_typeHere 48 = .ok (.iconst 1, 1) := by decide +kernel
theorem dX4_typeHere_49 : decode cX4_typeHere 49 = .ok (.iadd, 1) := by decide +kernel
theorem dX4_typeHere_50 : decode cX4_typeHere 50 = .ok (.invokevirtual 128, 3) := by decide +kernel
theorem dX4_typeHere_53 : decode cX4_typeHere 53 = .ok (.istore_n 3, 1) := by decide +kernel
theorem dX4_typeHere_54 : decode cX4_typeHere 54 = .ok (.iload_n 3, 1) := by decide +kernel
theorem dX4_typeHere_55 : decode cX4_typeHere 55 = .ok (.ifCond .ge 5, 3) := by decide +kernel
theorem dX4_typeHere_58 : decode cX4_typeHere 58 = .ok (.iload_n 3, 1) := by decide +kernel
theorem dX4_typeHere_59 : decode cX4_typeHere 59 = .ok (.ireturn, 1) := by decide +kernel
theorem dX4_typeHere_60 : decode cX4_typeHere 60 = .ok (.aload_n 0, 1) := by decide +kernel
theorem dX4_typeHere_61 : decode cX4_typeHere 61 = .ok (.bipush 62, 2) := by decide +kernel
theorem dX4_typeHere_63 : decode cX4_typeHere 63 = .ok (.iload_n 1, 1) := by decide +kernel
theorem dX4_typeHere_64 : decode cX4_typeHere 64 = .ok (.iconst 1, 1) := by decide +kernel
theorem dX4_typeHere_65 : decode cX4_typeHere 65 = .ok (.iadd, 1) := by decide +kernel
theorem dX4_typeHere_66 : decode cX4_typeHere 66 = .ok (.invokevirtual 128, 3) := by decide +kernel
theorem dX4_typeHere_69 : decode cX4_typeHere 69 = .ok (.istore 4, 2) := by decide +kernel
theorem dX4_typeHere_71 : decode cX4_typeHere 71 = .ok (.iload 4, 2) := by decide +kernel
theorem dX4_typeHere_73 : decode cX4_typeHere 73 = .ok (.ifCond .ge 6, 3) := by decide +kernel
theorem dX4_typeHere_76 : decode cX4_typeHere 76 = .ok (.iload 4, 2) := by decide +kernel
theorem dX4_typeHere_78 : decode cX4_typeHere 78 = .ok (.ireturn, 1) := by decide +kernel
theorem dX4_typeHere_79 : decode cX4_typeHere 79 = .ok (.aload_n 0, 1) := by decide +kernel
theorem dX4_typeHere_80 : decode cX4_typeHere 80 = .ok (.bipush 41, 2) := by decide +kernel
theorem dX4_typeHere_82 : decode cX4_typeHere 82 = .ok (.invokevirtual 104, 3) := by decide +kernel
theorem dX4_typeHere_85 : decode cX4_typeHere 85 = .ok (.istore 5, 2) := by decide +kernel
theorem dX4_typeHere_87 : decode cX4_typeHere 87 = .ok (.iload 5, 2) := by decide +kernel
theorem dX4_typeHere_89 : decode cX4_typeHere 89 = .ok (.ifCond .ge 8, 3) := by decide +kernel
theorem dX4_typeHere_92 : decode cX4_typeHere 92 = .ok (.iload 5, 2) := by decide +kernel
theorem dX4_typeHere_94 : decode cX4_typeHere 94 = .ok (.goto 13, 3) := by decide +kernel
theorem dX4_typeHere_97 : decode cX4_typeHere 97 = .ok (.aload_n 0, 1) := by decide +kernel
theorem dX4_typeHere_98 : decode cX4_typeHere 98 = .ok (.getfield 15, 3) := by decide +kernel
theorem dX4_typeHere_101 : decode cX4_typeHere 101 = .ok (.iload_n 3, 1) := by decide +kernel
theorem dX4_typeHere_102 : decode cX4_typeHere 102 = .ok (.iload 4, 2) := by decide +kernel
theorem dX4_typeHere_104 : decode cX4_typeHere 104 = .ok (.invokevirtual 131, 3) := by decide +kernel
theorem dX4_typeHere_107 : decode cX4_typeHere 107 = .ok (.ireturn, 1) := by decide +kernel
theorem dX4_termBehind_0 : decode cX4_termBehind 0 = .ok (.aload_n 0, 1) := by decide +kernel
theorem dX4_termBehind_1 : decode cX4_termBehind 1 = .ok (.iload_n 1, 1) := by decide +kernel
theorem dX4_termBehind_2 : decode cX4_termBehind 2 = .ok (.invokevirtual 104, 3) := by decide +kernel
theorem dX4_termBehind_5 : decode cX4_termBehind 5 = .ok (.istore_n 3, 1) := by decide +kernel
theorem dX4_termBehind_6 : decode cX4_termBehind 6 = .ok (.iload_n 3, 1) := by decide +kernel
theorem dX4_termBehind_7 : decode cX4_termBehind 7 = .ok (.ifCond .ge 7, 3) := by decide +kernel
theorem dX4_termBehind_10 : decode cX4_termBehind 10 = .ok (.iload_n 3, 1) := by decide +kernel
theorem dX4_termBehind_11 : decode cX4_termBehind 11 = .ok (.goto 8, 3) := by decide +kernel
theorem dX4_termBehind_14 : decode cX4_termBehind 14 = .ok (.aload_n 0, 1) := by decide +kernel
theorem dX4_termBehind_15 : decode cX4_termBehind 15 = .ok (.iload_n 2, 1) := by decide +kernel
theorem dX4_termBehind_16 : decode cX4_termBehind 16 = .ok (.invokevirtual 52, 3) := by decide +kernel
theorem dX4_termBehind_19 : decode cX4_termBehind 19 = .ok (.ireturn, 1) := by decide +kernel
theorem dX4_typeBehind_0 : decode cX4_typeBehind 0 = .ok (.aload_n 0, 1) := by decide +kernel
theorem dX4_typeBehind_1 : decode cX4_typeBehind 1 = .ok (.iload_n 1, 1) := by decide +kernel
theorem dX4_typeBehind_2 : decode cX4_typeBehind 2 = .ok (.invokevirtual 104, 3) := by decide +kernel
theorem dX4_typeBehind_5 : decode cX4_typeBehind 5 = .ok (.istore_n 3, 1) := by decide +kernel
theorem dX4_typeBehind_6 : decode cX4_typeBehind 6 = .ok (.iload_n 3, 1) := by decide +kernel
theorem dX4_typeBehind_7 : decode cX4_typeBehind 7 = .ok (.ifCond .ge 7, 3) := by decide +kernel
theorem dX4_typeBehind_10 : decode cX4_typeBehind 10 = .ok (.iload_n 3, 1) := by decide +kernel
theorem dX4_typeBehind_11 : decode cX4_typeBehind 11 = .ok (.goto 8, 3) := by decide +kernel
theorem dX4_typeBehind_14 : decode cX4_typeBehind 14 = .ok (.aload_n 0, 1) := by decide +kernel
theorem dX4_typeBehind_15 : decode cX4_typeBehind 15 = .ok (.iload_n 2, 1) := by decide +kernel
theorem dX4_typeBehind_16 : decode cX4_typeBehind 16 = .ok (.invokevirtual 107, 3) := by decide +kernel
theorem dX4_typeBehind_19 : decode cX4_typeBehind 19 = .ok (.ireturn, 1) := by decide +kernel
theorem dX4_letterBehind_0 : decode cX4_letterBehind 0 = .ok (.aload_n 0, 1) := by decide +kernel
theorem dX4_letterBehind_1 : decode cX4_letterBehind 1 = .ok (.iload_n 1, 1) := by decide +kernel
theorem dX4_letterBehind_2 : decode cX4_letterBehind 2 = .ok (.invokevirtual 104, 3) := by decide +kernel
theorem dX4_letterBehind_5 : decode cX4_letterBehind 5 = .ok (.istore_n 2, 1) := by decide +kernel
theorem dX4_letterBehind_6 : decode cX4_letterBehind 6 = .ok (.iload_n 2, 1) := by decide +kernel
theorem dX4_letterBehind_7 : decode cX4_letterBehind 7 = .ok (.ifCond .ge 5, 3) := by decide +kernel
theorem dX4_letterBehind_10 : decode cX4_letterBehind 10 = .ok (.iload_n 2, 1) := by decide +kernel
theorem dX4_letterBehind_11 : decode cX4_letterBehind 11 = .ok (.ireturn, 1) := by decide +kernel
theorem dX4_letterBehind_12 : decode cX4_letterBehind 12 = .ok (.aload_n 0, 1) := by decide +kernel
theorem dX4_letterBehind_13 : decode cX4_letterBehind 13 = .ok (.invokevirtual 62, 3) := by decide +kernel
theorem dX4_letterBehind_16 : decode cX4_letterBehind 16 = .ok (.bipush 97, 2) := by decide +kernel
theorem dX4_letterBehind_18 : decode cX4_letterBehind 18 = .ok (.isub, 1) := by decide +kernel
theorem dX4_letterBehind_19 : decode cX4_letterBehind 19 = .ok (.istore_n 3, 1) := by decide +kernel
theorem dX4_letterBehind_20 : decode cX4_letterBehind 20 = .ok (.iload_n 3, 1) := by decide +kernel
theorem dX4_letterBehind_21 : decode cX4_letterBehind 21 = .ok (.invokestatic 81, 3) := by decide +kernel
theorem dX4_letterBehind_24 : decode cX4_letterBehind 24 = .ok (.ifCond .ne 8, 3) := by decide +kernel
theorem dX4_letterBehind_27 : decode cX4_letterBehind 27 = .ok (.aload_n 0, 1) := by decide +kernel
theorem dX4_letterBehind_28 : decode cX4_letterBehind 28 = .ok (.invokevirtual 55, 3) := by decide +kernel
theorem dX4_letterBehind_31 : decode cX4_letterBehind 31 = .ok (.ireturn, 1) := by decide +kernel
theorem dX4_letterBehind_32 : decode cX4_letterBehind 32 = .ok (.aload_n 0, 1) := by decide +kernel
theorem dX4_letterBehind_33 : decode cX4_letterBehind 33 = .ok (.dup, 1) := by decide +kernel
theorem dX4_letterBehind_34 : decode cX4_letterBehind 34 = .ok (.getfield 27, 3) := by decide +kernel
theorem dX4_letterBehind_37 : decode cX4_letterBehind 37 = .ok (.iconst 1, 1) := by decide +kernel
theorem dX4_letterBehind_38 : decode cX4_letterBehind 38 = .ok (.iadd, 1) := by decide +kernel
theorem dX4_letterBehind_39 : decode cX4_letterBehind 39 = .ok (.putfield 27, 3) := by decide +kernel
theorem dX4_letterBehind_42 : decode cX4_letterBehind 42 = .ok (.iload_n 3, 1) := by decide +kernel
theorem dX4_letterBehind_43 : decode cX4_letterBehind 43 = .ok (.ireturn, 1) := by decide +kernel
theorem dX4_pass_0 : decode cX4_pass 0 = .ok (.aload_n 0, 1) := by decide +kernel
theorem dX4_pass_1 : decode cX4_pass 1 = .ok (.invokevirtual 62, 3) := by decide +kernel
theorem dX4_pass_4 : decode cX4_pass 4 = .ok (.iload_n 1, 1) := by decide +kernel
theorem dX4_pass_5 : decode cX4_pass 5 = .ok (.if_icmp .eq 8, 3) := by decide +kernel
theorem dX4_pass_8 : decode cX4_pass 8 = .ok (.aload_n 0, 1) := by decide +kernel
theorem dX4_pass_9 : decode cX4_pass 9 = .ok (.invokevirtual 55, 3) := by decide +kernel
theorem dX4_pass_12 : decode cX4_pass 12 = .ok (.ireturn, 1) := by decide +kernel
theorem dX4_pass_13 : decode cX4_pass 13 = .ok (.aload_n 0, 1) := by decide +kernel
theorem dX4_pass_14 : decode cX4_pass 14 = .ok (.dup, 1) := by decide +kernel
theorem dX4_pass_15 : decode cX4_pass 15 = .ok (.getfield 27, 3) := by decide +kernel
theorem dX4_pass_18 : decode cX4_pass 18 = .ok (.iconst 1, 1) := by decide +kernel
theorem dX4_pass_19 : decode cX4_pass 19 = .ok (.iadd, 1) := by decide +kernel
theorem dX4_pass_20 : decode cX4_pass 20 = .ok (.putfield 27, 3) := by decide +kernel
theorem dX4_pass_23 : decode cX4_pass 23 = .ok (.iconst 0, 1) := by decide +kernel
theorem dX4_pass_24 : decode cX4_pass 24 = .ok (.ireturn, 1) := by decide +kernel
theorem dX4_byteHere_0 : decode cX4_byteHere 0 = .ok (.aload_n 0, 1) := by decide +kernel
theorem dX4_byteHere_1 : decode cX4_byteHere 1 = .ok (.getfield 27, 3) := by decide +kernel
theorem dX4_byteHere_4 : decode cX4_byteHere 4 = .ok (.ifCond .lt 40, 3) := by decide +kernel
theorem dX4_byteHere_7 : decode cX4_byteHere 7 = .ok (.aload_n 0, 1) := by decide +kernel
theorem dX4_byteHere_8 : decode cX4_byteHere 8 = .ok (.getfield 27, 3) := by decide +kernel
theorem dX4_byteHere_11 : decode cX4_byteHere 11 = .ok (.aload_n 0, 1) := by decide +kernel
theorem dX4_byteHere_12 : decode cX4_byteHere 12 = .ok (.getfield 23, 3) := by decide +kernel
theorem dX4_byteHere_15 : decode cX4_byteHere 15 = .ok (.if_icmp .ge 29, 3) := by decide +kernel
theorem dX4_byteHere_18 : decode cX4_byteHere 18 = .ok (.aload_n 0, 1) := by decide +kernel
theorem dX4_byteHere_19 : decode cX4_byteHere 19 = .ok (.getfield 27, 3) := by decide +kernel
theorem dX4_byteHere_22 : decode cX4_byteHere 22 = .ok (.sipush 600, 3) := by decide +kernel
theorem dX4_byteHere_25 : decode cX4_byteHere 25 = .ok (.if_icmp .ge 19, 3) := by decide +kernel
theorem dX4_byteHere_28 : decode cX4_byteHere 28 = .ok (.aload_n 0, 1) := by decide +kernel
theorem dX4_byteHere_29 : decode cX4_byteHere 29 = .ok (.getfield 9, 3) := by decide +kernel
theorem dX4_byteHere_32 : decode cX4_byteHere 32 = .ok (.aload_n 0, 1) := by decide +kernel
theorem dX4_byteHere_33 : decode cX4_byteHere 33 = .ok (.getfield 27, 3) := by decide +kernel
theorem dX4_byteHere_36 : decode cX4_byteHere 36 = .ok (.baload, 1) := by decide +kernel
theorem dX4_byteHere_37 : decode cX4_byteHere 37 = .ok (.sipush 255, 3) := by decide +kernel
theorem dX4_byteHere_40 : decode cX4_byteHere 40 = .ok (.iand, 1) := by decide +kernel
theorem dX4_byteHere_41 : decode cX4_byteHere 41 = .ok (.goto 5, 3) := by decide +kernel
theorem dX4_byteHere_44 : decode cX4_byteHere 44 = .ok (.bipush (-2), 2) := by decide +kernel
theorem dX4_byteHere_46 : decode cX4_byteHere 46 = .ok (.ireturn, 1) := by decide +kernel
theorem dX4_wrongHere_0 : decode cX4_wrongHere 0 = .ok (.bipush (-10), 2) := by decide +kernel
theorem dX4_wrongHere_2 : decode cX4_wrongHere 2 = .ok (.aload_n 0, 1) := by decide +kernel
theorem dX4_wrongHere_3 : decode cX4_wrongHere 3 = .ok (.getfield 27, 3) := by decide +kernel
theorem dX4_wrongHere_6 : decode cX4_wrongHere 6 = .ok (.isub, 1) := by decide +kernel
theorem dX4_wrongHere_7 : decode cX4_wrongHere 7 = .ok (.ireturn, 1) := by decide +kernel
theorem dX4_beginsTerm_0 : decode cX4_beginsTerm 0 = .ok (.iload_n 0, 1) := by decide +kernel
theorem dX4_beginsTerm_1 : decode cX4_beginsTerm 1 = .ok (.invokestatic 93, 3) := by decide +kernel
theorem dX4_beginsTerm_4 : decode cX4_beginsTerm 4 = .ok (.ifCond .ne 43, 3) := by decide +kernel
theorem dX4_beginsTerm_7 : decode cX4_beginsTerm 7 = .ok (.iload_n 0, 1) := by decide +kernel
theorem dX4_beginsTerm_8 : decode cX4_beginsTerm 8 = .ok (.bipush 97, 2) := by decide +kernel
theorem dX4_beginsTerm_10 : decode cX4_beginsTerm 10 = .ok (.isub, 1) := by decide +kernel
theorem dX4_beginsTerm_11 : decode cX4_beginsTerm 11 = .ok (.invokestatic 81, 3) := by decide +kernel
theorem dX4_beginsTerm_14 : decode cX4_beginsTerm 14 = .ok (.ifCond .ne 33, 3) := by decide +kernel
theorem dX4_beginsTerm_17 : decode cX4_beginsTerm 17 = .ok (.iload_n 0, 1) := by decide +kernel
theorem dX4_beginsTerm_18 : decode cX4_beginsTerm 18 = .ok (.bipush 45, 2) := by decide +kernel
theorem dX4_beginsTerm_20 : decode cX4_beginsTerm 20 = .ok (.if_icmp .eq 27, 3) := by decide +kernel
theorem dX4_beginsTerm_23 : decode cX4_beginsTerm 23 = .ok (.iload_n 0, 1) := by decide +kernel
theorem dX4_beginsTerm_24 : decode cX4_beginsTerm 24 = .ok (.bipush 92, 2) := by decide +kernel
theorem dX4_beginsTerm_26 : decode cX4_beginsTerm 26 = .ok (.if_icmp .eq 21, 3) := by decide +kernel
theorem dX4_beginsTerm_29 : decode cX4_beginsTerm 29 = .ok (.iload_n 0, 1) := by decide +kernel
theorem dX4_beginsTerm_30 : decode cX4_beginsTerm 30 = .ok (.bipush 40, 2) := by decide +kernel
theorem dX4_beginsTerm_32 : decode cX4_beginsTerm 32 = .ok (.if_icmp .eq 15, 3) := by decide +kernel
theorem dX4_beginsTerm_35 : decode cX4_beginsTerm 35 = .ok (.iload_n 0, 1) := by decide +kernel
theorem dX4_beginsTerm_36 : decode cX4_beginsTerm 36 = .ok (.bipush 91, 2) := by decide +kernel
theorem dX4_beginsTerm_38 : decode cX4_beginsTerm 38 = .ok (.if_icmp .eq 9, 3) := by decide +kernel
theorem dX4_beginsTerm_41 : decode cX4_beginsTerm 41 = .ok (.iload_n 0, 1) := by decide +kernel
theorem dX4_beginsTerm_42 : decode cX4_beginsTerm 42 = .ok (.bipush 123, 2) := by decide +kernel
theorem dX4_beginsTerm_44 : decode cX4_beginsTerm 44 = .ok (.if_icmp .ne 7, 3) := by decide +kernel
theorem dX4_beginsTerm_47 : decode cX4_beginsTerm 47 = .ok (.iconst 1, 1) := by decide +kernel
theorem dX4_beginsTerm_48 : decode cX4_beginsTerm 48 = .ok (.goto 4, 3) := by decide +kernel
theorem dX4_beginsTerm_51 : decode cX4_beginsTerm 51 = .ok (.iconst 0, 1) := by decide +kernel
theorem dX4_beginsTerm_52 : decode cX4_beginsTerm 52 = .ok (.ireturn, 1) := by decide +kernel
theorem dX4_beginsType_0 : decode cX4_beginsType 0 = .ok (.iload_n 0, 1) := by decide +kernel
theorem dX4_beginsType_1 : decode cX4_beginsType 1 = .ok (.bipush 105, 2) := by decide +kernel
theorem dX4_beginsType_3 : decode cX4_beginsType 3 = .ok (.if_icmp .eq 9, 3) := by decide +kernel
theorem dX4_beginsType_6 : decode cX4_beginsType 6 = .ok (.iload_n 0, 1) := by decide +kernel
theorem dX4_beginsType_7 : decode cX4_beginsType 7 = .ok (.bipush 40, 2) := by decide +kernel
theorem dX4_beginsType_9 : decode cX4_beginsType 9 = .ok (.if_icmp .ne 7, 3) := by decide +kernel
theorem dX4_beginsType_12 : decode cX4_beginsType 12 = .ok (.iconst 1, 1) := by decide +kernel
theorem dX4_beginsType_13 : decode cX4_beginsType 13 = .ok (.goto 4, 3) := by decide +kernel
theorem dX4_beginsType_16 : decode cX4_beginsType 16 = .ok (.iconst 0, 1) := by decide +kernel
theorem dX4_beginsType_17 : decode cX4_beginsType 17 = .ok (.ireturn, 1) := by decide +kernel
theorem dX4_isDigit_0 : decode cX4_isDigit 0 = .ok (.iload_n 0, 1) := by decide +kernel
theorem dX4_isDigit_1 : decode cX4_isDigit 1 = .ok (.bipush 48, 2) := by decide +kernel
theorem dX4_isDigit_3 : decode cX4_isDigit 3 = .ok (.if_icmp .lt 13, 3) := by decide +kernel
theorem dX4_isDigit_6 : decode cX4_isDigit 6 = .ok (.iload_n 0, 1) := by decide +kernel
theorem dX4_isDigit_7 : decode cX4_isDigit 7 = .ok (.bipush 57, 2) := by decide +kernel
theorem dX4_isDigit_9 : decode cX4_isDigit 9 = .ok (.if_icmp .gt 7, 3) := by decide +kernel
theorem dX4_isDigit_12 : decode cX4_isDigit 12 = .ok (.iconst 1, 1) := by decide +kernel
theorem dX4_isDigit_13 : decode cX4_isDigit 13 = .ok (.goto 4, 3) := by decide +kernel
theorem dX4_isDigit_16 : decode cX4_isDigit 16 = .ok (.iconst 0, 1) := by decide +kernel
theorem dX4_isDigit_17 : decode cX4_isDigit 17 = .ok (.ireturn, 1) := by decide +kernel
theorem dX5_init_0 : decode cX5_init 0 = .ok (.aload_n 0, 1) := by decide +kernel
theorem dX5_init_1 : decode cX5_init 1 = .ok (.invokespecial 3, 3) := by decide +kernel
theorem dX5_init_4 : decode cX5_init 4 = .ok (.aload_n 0, 1) := by decide +kernel
theorem dX5_init_5 : decode cX5_init 5 = .ok (.aload_n 1, 1) := by decide +kernel
theorem dX5_init_6 : decode cX5_init 6 = .ok (.putfield 9, 3) := by decide +kernel
theorem dX5_init_9 : decode cX5_init 9 = .ok (.aload_n 0, 1) := by decide +kernel
theorem dX5_init_10 : decode cX5_init 10 = .ok (.aload_n 2, 1) := by decide +kernel
theorem dX5_init_11 : decode cX5_init 11 = .ok (.putfield 15, 3) := by decide +kernel
theorem dX5_init_14 : decode cX5_init 14 = .ok (.return_, 1) := by decide +kernel
theorem dX5_stepOf_0 : decode cX5_stepOf 0 = .ok (.aload_n 0, 1) := by decide +kernel
theorem dX5_stepOf_1 : decode cX5_stepOf 1 = .ok (.getfield 9, 3) := by decide +kernel
theorem dX5_stepOf_4 : decode cX5_stepOf 4 = .ok (.iload_n 1, 1) := by decide +kernel
theorem dX5_stepOf_5 : decode cX5_stepOf 5 = .ok (.invokevirtual 19, 3) := by decide +kernel
theorem dX5_stepOf_8 : decode cX5_stepOf 8 = .ok (.tableswitch 82 3 6 #[32, 38, 70, 76], 32) := by decide +kernel
theorem dX5_stepOf_40 : decode cX5_stepOf 40 = .ok (.aload_n 0, 1) := by decide +kernel
theorem dX5_stepOf_41 : decode cX5_stepOf 41 = .ok (.iload_n 1, 1) := by decide +kernel
theorem dX5_stepOf_42 : decode cX5_stepOf 42 = .ok (.invokevirtual 25, 3) := by decide +kernel
theorem dX5_stepOf_45 : decode cX5_stepOf 45 = .ok (.ireturn, 1) := by decide +kernel
theorem dX5_stepOf_46 : decode cX5_stepOf 46 = .ok (.aload_n 0, 1) := by decide +kernel
theorem dX5_stepOf_47 : decode cX5_stepOf 47 = .ok (.getfield 15, 3) := by decide +kernel
theorem dX5_stepOf_50 : decode cX5_stepOf 50 = .ok (.aload_n 0, 1) := by decide +kernel
theorem dX5_stepOf_51 : decode cX5_stepOf 51 = .ok (.getfield 9, 3) := by decide +kernel
theorem dX5_stepOf_54 : decode cX5_stepOf 54 = .ok (.iload_n 1, 1) := by decide +kernel
theorem dX5_stepOf_55 : decode cX5_stepOf 55 = .ok (.invokevirtual 28, 3) := by decide +kernel
theorem dX5_stepOf_58 : decode cX5_stepOf 58 = .ok (.aload_n 0, 1) := by decide +kernel
theorem dX5_stepOf_59 : decode cX5_stepOf 59 = .ok (.getfield 9, 3) := by decide +kernel
theorem dX5_stepOf_62 : decode cX5_stepOf 62 = .ok (.iload_n 1, 1) := by decide +kernel
theorem dX5_stepOf_63 : decode cX5_stepOf 63 = .ok (.invokevirtual 31, 3) := by decide +kernel
theorem dX5_stepOf_66 : decode cX5_stepOf 66 = .ok (.aload_n 0, 1) := by decide +kernel
theorem dX5_stepOf_67 : decode cX5_stepOf 67 = .ok (.getfield 9, 3) := by decide +kernel
theorem dX5_stepOf_70 : decode cX5_stepOf 70 = .ok (.iload_n 1, 1) := by decide +kernel
theorem dX5_stepOf_71 : decode cX5_stepOf 71 = .ok (.invokevirtual 34, 3) := by decide +kernel
theorem dX5_stepOf_74 : decode cX5_stepOf 74 = .ok (.invokevirtual 37, 3) := by decide +kernel
theorem dX5_stepOf_77 : decode cX5_stepOf 77 = .ok (.ireturn, 1) := by decide +kernel
theorem dX5_stepOf_78 : decode cX5_stepOf 78 = .ok (.aload_n 0, 1) := by decide +kernel
theorem dX5_stepOf_79 : decode cX5_stepOf 79 = .ok (.iload_n 1, 1) := by decide +kernel
theorem dX5_stepOf_80 : decode cX5_stepOf 80 = .ok (.invokevirtual 43, 3) := by decide +kernel
theorem dX5_stepOf_83 : decode cX5_stepOf 83 = .ok (.ireturn, 1) := by decide +kernel
theorem dX5_stepOf_84 : decode cX5_stepOf 84 = .ok (.aload_n 0, 1) := by decide +kernel
theorem dX5_stepOf_85 : decode cX5_stepOf 85 = .ok (.iload_n 1, 1) := by decide +kernel
theorem dX5_stepOf_86 : decode cX5_stepOf 86 = .ok (.invokevirtual 46, 3) := by decide +kernel
theorem dX5_stepOf_89 : decode cX5_stepOf 89 = .ok (.ireturn, 1) := by decide +kernel
theorem dX5_stepOf_90 : decode cX5_stepOf 90 = .ok (.bipush (-2), 2) := by decide +kernel
theorem dX5_stepOf_92 : decode cX5_stepOf 92 = .ok (.ireturn, 1) := by decide +kernel
theorem dX5_stepOfCall_0 : decode cX5_stepOfCall 0 = .ok (.aload_n 0, 1) := by decide +kernel
theorem dX5_stepOfCall_1 : decode cX5_stepOfCall 1 = .ok (.getfield 9, 3) := by decide +kernel
theorem dX5_stepOfCall_4 : decode cX5_stepOfCall 4 = .ok (.iload_n 1, 1) := by decide +kernel
theorem dX5_stepOfCall_5 : decode cX5_stepOfCall 5 = .ok (.invokevirtual 34, 3) := by decide +kernel
theorem dX5_stepOfCall_8 : decode cX5_stepOfCall 8 = .ok (.istore_n 2, 1) := by decide +kernel
theorem dX5_stepOfCall_9 : decode cX5_stepOfCall 9 = .ok (.aload_n 0, 1) := by decide +kernel
theorem dX5_stepOfCall_10 : decode cX5_stepOfCall 10 = .ok (.getfield 9, 3) := by decide +kernel
theorem dX5_stepOfCall_13 : decode cX5_stepOfCall 13 = .ok (.iload_n 2, 1) := by decide +kernel
theorem dX5_stepOfCall_14 : decode cX5_stepOfCall 14 = .ok (.invokevirtual 19, 3) := by decide +kernel
theorem dX5_stepOfCall_17 : decode cX5_stepOfCall 17 = .ok (.iconst 2, 1) := by decide +kernel
theorem dX5_stepOfCall_18 : decode cX5_stepOfCall 18 = .ok (.if_icmp .ne 35, 3) := by decide +kernel
theorem dX5_stepOfCall_21 : decode cX5_stepOfCall 21 = .ok (.aload_n 0, 1) := by decide +kernel
theorem dX5_stepOfCall_22 : decode cX5_stepOfCall 22 = .ok (.getfield 15, 3) := by decide +kernel
theorem dX5_stepOfCall_25 : decode cX5_stepOfCall 25 = .ok (.aload_n 0, 1) := by decide +kernel
theorem dX5_stepOfCall_26 : decode cX5_stepOfCall 26 = .ok (.getfield 9, 3) := by decide +kernel
theorem dX5_stepOfCall_29 : decode cX5_stepOfCall 29 = .ok (.iload_n 2, 1) := by decide +kernel
theorem dX5_stepOfCall_30 : decode cX5_stepOfCall 30 = .ok (.invokevirtual 34, 3) := by decide +kernel
theorem dX5_stepOfCall_33 : decode cX5_stepOfCall 33 = .ok (.aload_n 0, 1) := by decide +kernel
theorem dX5_stepOfCall_34 : decode cX5_stepOfCall 34 = .ok (.getfield 9, 3) := by decide +kernel
theorem dX5_stepOfCall_37 : decode cX5_stepOfCall 37 = .ok (.iload_n 2, 1) := by decide +kernel
theorem dX5_stepOfCall_38 : decode cX5_stepOfCall 38 = .ok (.invokevirtual 31, 3) := by decide +kernel
theorem dX5_stepOfCall_41 : decode cX5_stepOfCall 41 = .ok (.aload_n 0, 1) := by decide +kernel
theorem dX5_stepOfCall_42 : decode cX5_stepOfCall 42 = .ok (.getfield 9, 3) := by decide +kernel
theorem dX5_stepOfCall_45 : decode cX5_stepOfCall 45 = .ok (.iload_n 1, 1) := by decide +kernel
theorem dX5_stepOfCall_46 : decode cX5_stepOfCall 46 = .ok (.invokevirtual 28, 3) := by decide +kernel
theorem dX5_stepOfCall_49 : decode cX5_stepOfCall 49 = .ok (.invokevirtual 37, 3) := by decide +kernel
theorem dX5_stepOfCall_52 : decode cX5_stepOfCall 52 = .ok (.ireturn, 1) := by decide +kernel
theorem dX5_stepOfCall_53 : decode cX5_stepOfCall 53 = .ok (.aload_n 0, 1) := by decide +kernel
theorem dX5_stepOfCall_54 : decode cX5_stepOfCall 54 = .ok (.iload_n 1, 1) := by decide +kernel
theorem dX5_stepOfCall_55 : decode cX5_stepOfCall 55 = .ok (.invokevirtual 49, 3) := by decide +kernel
theorem dX5_stepOfCall_58 : decode cX5_stepOfCall 58 = .ok (.ireturn, 1) := by decide +kernel
theorem dX5_stepOfSum_0 : decode cX5_stepOfSum 0 = .ok (.aload_n 0, 1) := by decide +kernel
theorem dX5_stepOfSum_1 : decode cX5_stepOfSum 1 = .ok (.getfield 9, 3) := by decide +kernel
theorem dX5_stepOfSum_4 : decode cX5_stepOfSum 4 = .ok (.iload_n 1, 1) := by decide +kernel
theorem dX5_stepOfSum_5 : decode cX5_stepOfSum 5 = .ok (.invokevirtual 34, 3) := by decide +kernel
theorem dX5_stepOfSum_8 : decode cX5_stepOfSum 8 = .ok (.istore_n 2, 1) := by decide +kernel
theorem dX5_stepOfSum_9 : decode cX5_stepOfSum 9 = .ok (.aload_n 0, 1) := by decide +kernel
theorem dX5_stepOfSum_10 : decode cX5_stepOfSum 10 = .ok (.getfield 9, 3) := by decide +kernel
theorem dX5_stepOfSum_13 : decode cX5_stepOfSum 13 = .ok (.iload_n 1, 1) := by decide +kernel
theorem dX5_stepOfSum_14 : decode cX5_stepOfSum 14 = .ok (.invokevirtual 28, 3) := by decide +kernel
theorem dX5_stepOfSum_17 : decode cX5_stepOfSum 17 = .ok (.istore_n 3, 1) := by decide +kernel
theorem dX5_stepOfSum_18 : decode cX5_stepOfSum 18 = .ok (.aload_n 0, 1) := by decide +kernel
theorem dX5_stepOfSum_19 : decode cX5_stepOfSum 19 = .ok (.getfield 9, 3) := by decide +kernel
theorem dX5_stepOfSum_22 : decode cX5_stepOfSum 22 = .ok (.iload_n 2, 1) := by decide +kernel
theorem dX5_stepOfSum_23 : decode cX5_stepOfSum 23 = .ok (.invokevirtual 19, 3) := by decide +kernel
theorem dX5_stepOfSum_26 : decode cX5_stepOfSum 26 = .ok (.ifCond .eq 9, 3) := by decide +kernel
theorem dX5_stepOfSum_29 : decode cX5_stepOfSum 29 = .ok (.aload_n 0, 1) := by decide +kernel
theorem dX5_stepOfSum_30 : decode cX5_stepOfSum 30 = .ok (.iload_n 1, 1) := by decide +kernel
theorem dX5_stepOfSum_31 : decode cX5_stepOfSum 31 = .ok (.invokevirtual 49, 3) := by decide +kernel
theorem dX5_stepOfSum_34 : decode cX5_stepOfSum 34 = .ok (.ireturn, 1) := by decide +kernel
theorem dX5_stepOfSum_35 : decode cX5_stepOfSum 35 = .ok (.aload_n 0, 1) := by decide +kernel
theorem dX5_stepOfSum_36 : decode cX5_stepOfSum 36 = .ok (.getfield 9, 3) := by decide +kernel
theorem dX5_stepOfSum_39 : decode cX5_stepOfSum 39 = .ok (.iload_n 3, 1) := by decide +kernel
theorem dX5_stepOfSum_40 : decode cX5_stepOfSum 40 = .ok (.invokevirtual 19, 3) := by decide +kernel
theorem dX5_stepOfSum_43 : decode cX5_stepOfSum 43 = .ok (.ifCond .ne 28, 3) := by decide +kernel
theorem dX5_stepOfSum_46 : decode cX5_stepOfSum 46 = .ok (.aload_n 0, 1) := by decide +kernel
theorem dX5_stepOfSum_47 : decode cX5_stepOfSum 47 = .ok (.getfield 9, 3) := by decide +kernel
theorem dX5_stepOfSum_50 : decode cX5_stepOfSum 50 = .ok (.aload_n 0, 1) := by decide +kernel
theorem dX5_stepOfSum_51 : decode cX5_stepOfSum 51 = .ok (.getfield 9, 3) := by decide +kernel
theorem dX5_stepOfSum_54 : decode cX5_stepOfSum 54 = .ok (.iload_n 2, 1) := by decide +kernel
theorem dX5_stepOfSum_55 : decode cX5_stepOfSum 55 = .ok (.invokevirtual 52, 3) := by decide +kernel
theorem dX5_stepOfSum_58 : decode cX5_stepOfSum 58 = .ok (.aload_n 0, 1) := by decide +kernel
theorem dX5_stepOfSum_59 : decode cX5_stepOfSum 59 = .ok (.getfield 9, 3) := by decide +kernel
theorem dX5_stepOfSum_62 : decode cX5_stepOfSum 62 = .ok (.iload_n 3, 1) := by decide +kernel
theorem dX5_stepOfSum_63 : decode cX5_stepOfSum 63 = .ok (.invokevirtual 52, 3) := by decide +kernel
theorem dX5_stepOfSum_66 : decode cX5_stepOfSum 66 = .ok (.iadd, 1) := by decide +kernel
theorem dX5_stepOfSum_67 : decode cX5_stepOfSum 67 = .ok (.invokevirtual 55, 3) := by decide +kernel
theorem dX5_stepOfSum_70 : decode cX5_stepOfSum 70 = .ok (.ireturn, 1) := by decide +kernel
theorem dX5_stepOfSum_71 : decode cX5_stepOfSum 71 = .ok (.aload_n 0, 1) := by decide +kernel
theorem dX5_stepOfSum_72 : decode cX5_stepOfSum 72 = .ok (.iload_n 3, 1) := by decide +kernel
theorem dX5_stepOfSum_73 : decode cX5_stepOfSum 73 = .ok (.invokevirtual 58, 3) := by decide +kernel
theorem dX5_stepOfSum_76 : decode cX5_stepOfSum 76 = .ok (.istore 4, 2) := by decide +kernel
theorem dX5_stepOfSum_78 : decode cX5_stepOfSum 78 = .ok (.iload 4, 2) := by decide +kernel
theorem dX5_stepOfSum_80 : decode cX5_stepOfSum 80 = .ok (.ifCond .ge 8, 3) := by decide +kernel
theorem dX5_stepOfSum_83 : decode cX5_stepOfSum 83 = .ok (.iload 4, 2) := by decide +kernel
theorem dX5_stepOfSum_85 : decode cX5_stepOfSum 85 = .ok (.goto 18, 3) := by decide +kernel
theorem dX5_stepOfSum_88 : decode cX5_stepOfSum 88 = .ok (.aload_n 0, 1) := by decide +kernel
theorem dX5_stepOfSum_89 : decode cX5_stepOfSum 89 = .ok (.getfield 9, 3) := by decide +kernel
theorem dX5_stepOfSum_92 : decode cX5_stepOfSum 92 = .ok (.iload_n 1, 1) := by decide +kernel
theorem dX5_stepOfSum_93 : decode cX5_stepOfSum 93 = .ok (.bipush (-2), 2) := by decide +kernel
theorem dX5_stepOfSum_95 : decode cX5_stepOfSum 95 = .ok (.iload_n 2, 1) := by decide +kernel
theorem dX5_stepOfSum_96 : decode cX5_stepOfSum 96 = .ok (.iload 4, 2) := by decide +kernel
theorem dX5_stepOfSum_98 : decode cX5_stepOfSum 98 = .ok (.bipush (-2), 2) := by decide +kernel
theorem dX5_stepOfSum_100 : decode cX5_stepOfSum 100 = .ok (.invokevirtual 61, 3) := by decide +kernel
theorem dX5_stepOfSum_103 : decode cX5_stepOfSum 103 = .ok (.ireturn, 1) := by decide +kernel
theorem dX5_stepOfChoice_0 : decode cX5_stepOfChoice 0 = .ok (.aload_n 0, 1) := by decide +kernel
theorem dX5_stepOfChoice_1 : decode cX5_stepOfChoice 1 = .ok (.getfield 9, 3) := by decide +kernel
theorem dX5_stepOfChoice_4 : decode cX5_stepOfChoice 4 = .ok (.iload_n 1, 1) := by decide +kernel
theorem dX5_stepOfChoice_5 : decode cX5_stepOfChoice 5 = .ok (.invokevirtual 34, 3) := by decide +kernel
theorem dX5_stepOfChoice_8 : decode cX5_stepOfChoice 8 = .ok (.istore_n 2, 1) := by decide +kernel
theorem dX5_stepOfChoice_9 : decode cX5_stepOfChoice 9 = .ok (.aload_n 0, 1) := by decide +kernel
theorem dX5_stepOfChoice_10 : decode cX5_stepOfChoice 10 = .ok (.getfield 9, 3) := by decide +kernel
theorem dX5_stepOfChoice_13 : decode cX5_stepOfChoice 13 = .ok (.iload_n 2, 1) := by decide +kernel
theorem dX5_stepOfChoice_14 : decode cX5_stepOfChoice 14 = .ok (.invokevirtual 19, 3) := by decide +kernel
theorem dX5_stepOfChoice_17 : decode cX5_stepOfChoice 17 = .ok (.ifCond .eq 9, 3) := by decide +kernel
theorem dX5_stepOfChoice_20 : decode cX5_stepOfChoice 20 = .ok (.aload_n 0, 1) := by decide +kernel
theorem dX5_stepOfChoice_21 : decode cX5_stepOfChoice 21 = .ok (.iload_n 1, 1) := by decide +kernel
theorem dX5_stepOfChoice_22 : decode cX5_stepOfChoice 22 = .ok (.invokevirtual 49, 3) := by decide +kernel
theorem dX5_stepOfChoice_25 : decode cX5_stepOfChoice 25 = .ok (.ireturn, 1) := by decide +kernel
theorem dX5_stepOfChoice_26 : decode cX5_stepOfChoice 26 = .ok (.aload_n 0, 1) := by decide +kernel
theorem dX5_stepOfChoice_27 : decode cX5_stepOfChoice 27 = .ok (.getfield 9, 3) := by decide +kernel
theorem dX5_stepOfChoice_30 : decode cX5_stepOfChoice 30 = .ok (.iload_n 2, 1) := by decide +kernel
theorem dX5_stepOfChoice_31 : decode cX5_stepOfChoice 31 = .ok (.invokevirtual 52, 3) := by decide +kernel
theorem dX5_stepOfChoice_34 : decode cX5_stepOfChoice 34 = .ok (.ifCond .eq 14, 3) := by decide +kernel
theorem dX5_stepOfChoice_37 : decode cX5_stepOfChoice 37 = .ok (.aload_n 0, 1) := by decide +kernel
theorem dX5_stepOfChoice_38 : decode cX5_stepOfChoice 38 = .ok (.getfield 9, 3) := by decide +kernel
theorem dX5_stepOfChoice_41 : decode cX5_stepOfChoice 41 = .ok (.iload_n 1, 1) := by decide +kernel
theorem dX5_stepOfChoice_42 : decode cX5_stepOfChoice 42 = .ok (.invokevirtual 28, 3) := by decide +kernel
theorem dX5_stepOfChoice_45 : decode cX5_stepOfChoice 45 = .ok (.goto 11, 3) := by decide +kernel
theorem dX5_stepOfChoice_48 : decode cX5_stepOfChoice 48 = .ok (.aload_n 0, 1) := by decide +kernel
theorem dX5_stepOfChoice_49 : decode cX5_stepOfChoice 49 = .ok (.getfield 9, 3) := by decide +kernel
theorem dX5_stepOfChoice_52 : decode cX5_stepOfChoice 52 = .ok (.iload_n 1, 1) := by decide +kernel
theorem dX5_stepOfChoice_53 : decode cX5_stepOfChoice 53 = .ok (.invokevirtual 65, 3) := by decide +kernel
theorem dX5_stepOfChoice_56 : decode cX5_stepOfChoice 56 = .ok (.ireturn, 1) := by decide +kernel
theorem dX5_stepOfFirst_0 : decode cX5_stepOfFirst 0 = .ok (.aload_n 0, 1) := by decide +kernel
theorem dX5_stepOfFirst_1 : decode cX5_stepOfFirst 1 = .ok (.aload_n 0, 1) := by decide +kernel
theorem dX5_stepOfFirst_2 : decode cX5_stepOfFirst 2 = .ok (.getfield 9, 3) := by decide +kernel
theorem dX5_stepOfFirst_5 : decode cX5_stepOfFirst 5 = .ok (.iload_n 1, 1) := by decide +kernel
theorem dX5_stepOfFirst_6 : decode cX5_stepOfFirst 6 = .ok (.invokevirtual 34, 3) := by decide +kernel
theorem dX5_stepOfFirst_9 : decode cX5_stepOfFirst 9 = .ok (.invokevirtual 58, 3) := by decide +kernel
theorem dX5_stepOfFirst_12 : decode cX5_stepOfFirst 12 = .ok (.istore_n 2, 1) := by decide +kernel
theorem dX5_stepOfFirst_13 : decode cX5_stepOfFirst 13 = .ok (.iload_n 2, 1) := by decide +kernel
theorem dX5_stepOfFirst_14 : decode cX5_stepOfFirst 14 = .ok (.ifCond .ge 7, 3) := by decide +kernel
theorem dX5_stepOfFirst_17 : decode cX5_stepOfFirst 17 = .ok (.iload_n 2, 1) := by decide +kernel
theorem dX5_stepOfFirst_18 : decode cX5_stepOfFirst 18 = .ok (.goto 30, 3) := by decide +kernel
theorem dX5_stepOfFirst_21 : decode cX5_stepOfFirst 21 = .ok (.aload_n 0, 1) := by decide +kernel
theorem dX5_stepOfFirst_22 : decode cX5_stepOfFirst 22 = .ok (.getfield 9, 3) := by decide +kernel
theorem dX5_stepOfFirst_25 : decode cX5_stepOfFirst 25 = .ok (.iload_n 1, 1) := by decide +kernel
theorem dX5_stepOfFirst_26 : decode cX5_stepOfFirst 26 = .ok (.bipush (-2), 2) := by decide +kernel
theorem dX5_stepOfFirst_28 : decode cX5_stepOfFirst 28 = .ok (.iload_n 2, 1) := by decide +kernel
theorem dX5_stepOfFirst_29 : decode cX5_stepOfFirst 29 = .ok (.aload_n 0, 1) := by decide +kernel
theorem dX5_stepOfFirst_30 : decode cX5_stepOfFirst 30 = .ok (.getfield 9, 3) := by decide +kernel
theorem dX5_stepOfFirst_33 : decode cX5_stepOfFirst 33 = .ok (.iload_n 1, 1) := by decide +kernel
theorem dX5_stepOfFirst_34 : decode cX5_stepOfFirst 34 = .ok (.invokevirtual 28, 3) := by decide +kernel
theorem dX5_stepOfFirst_37 : decode cX5_stepOfFirst 37 = .ok (.aload_n 0, 1) := by decide +kernel
theorem dX5_stepOfFirst_38 : decode cX5_stepOfFirst 38 = .ok (.getfield 9, 3) := by decide +kernel
theorem dX5_stepOfFirst_41 : decode cX5_stepOfFirst 41 = .ok (.iload_n 1, 1) := by decide +kernel
theorem dX5_stepOfFirst_42 : decode cX5_stepOfFirst 42 = .ok (.invokevirtual 65, 3) := by decide +kernel
theorem dX5_stepOfFirst_45 : decode cX5_stepOfFirst 45 = .ok (.invokevirtual 61, 3) := by decide +kernel
theorem dX5_stepOfFirst_48 : decode cX5_stepOfFirst 48 = .ok (.ireturn, 1) := by decide +kernel
theorem dX6_init_0 : decode cX6_init 0 = .ok (.aload_n 0, 1) := by decide +kernel
theorem dX6_init_1 : decode cX6_init 1 = .ok (.invokespecial 3, 3) := by decide +kernel
theorem dX6_init_4 : decode cX6_init 4 = .ok (.aload_n 0, 1) := by decide +kernel
theorem dX6_init_5 : decode cX6_init 5 = .ok (.sipush 400, 3) := by decide +kernel
theorem dX6_init_8 : decode cX6_init 8 = .ok (.newarray .int, 2) := by decide +kernel
theorem dX6_init_10 : decode cX6_init 10 = .ok (.putfield 9, 3) := by decide +kernel
theorem dX6_init_13 : decode cX6_init 13 = .ok (.aload_n 0, 1) := by decide +kernel
theorem dX6_init_14 : decode cX6_init 14 = .ok (.sipush 400, 3) := by decide +kernel
theorem dX6_init_17 : decode cX6_init 17 = .ok (.newarray .int, 2) := by decide +kernel
theorem dX6_init_19 : decode cX6_init 19 = .ok (.putfield 15, 3) := by decide +kernel
theorem dX6_init_22 : decode cX6_init 22 = .ok (.aload_n 0, 1) := by decide +kernel
theorem dX6_init_23 : decode cX6_init 23 = .ok (.sipush 400, 3) := by decide +kernel
theorem dX6_init_26 : decode cX6_init 26 = .ok (.newarray .int, 2) := by decide +kernel
theorem dX6_init_28 : decode cX6_init 28 = .ok (.putfield 18, 3) := by decide +kernel
theorem dX6_init_31 : decode cX6_init 31 = .ok (.aload_n 0, 1) := by decide +kernel
theorem dX6_init_32 : decode cX6_init 32 = .ok (.sipush 400, 3) := by decide +kernel
theorem dX6_init_35 : decode cX6_init 35 = .ok (.newarray .int, 2) := by decide +kernel
theorem dX6_init_37 : decode cX6_init 37 = .ok (.putfield 21, 3) := by decide +kernel
theorem dX6_init_40 : decode cX6_init 40 = .ok (.aload_n 0, 1) := by decide +kernel
theorem dX6_init_41 : decode cX6_init 41 = .ok (.sipush 400, 3) := by decide +kernel
theorem dX6_init_44 : decode cX6_init 44 = .ok (.newarray .int, 2) := by decide +kernel
theorem dX6_init_46 : decode cX6_init 46 = .ok (.putfield 24, 3) := by decide +kernel
theorem dX6_init_49 : decode cX6_init 49 = .ok (.aload_n 0, 1) := by decide +kernel
theorem dX6_init_50 : decode cX6_init 50 = .ok (.sipush 400, 3) := by decide +kernel
theorem dX6_init_53 : decode cX6_init 53 = .ok (.newarray .int, 2) := by decide +kernel
theorem dX6_init_55 : decode cX6_init 55 = .ok (.putfield 27, 3) := by decide +kernel
theorem dX6_init_58 : decode cX6_init 58 = .ok (.aload_n 0, 1) := by decide +kernel
theorem dX6_init_59 : decode cX6_init 59 = .ok (.sipush 400, 3) := by decide +kernel
theorem dX6_init_62 : decode cX6_init 62 = .ok (.newarray .int, 2) := by decide +kernel
theorem dX6_init_64 : decode cX6_init 64 = .ok (.putfield 30, 3) := by decide +kernel
theorem dX6_init_67 : decode cX6_init 67 = .ok (.aload_n 0, 1) := by decide +kernel
theorem dX6_init_68 : decode cX6_init 68 = .ok (.sipush 400, 3) := by decide +kernel
theorem dX6_init_71 : decode cX6_init 71 = .ok (.newarray .int, 2) := by decide +kernel
theorem dX6_init_73 : decode cX6_init 73 = .ok (.putfield 33, 3) := by decide +kernel
theorem dX6_init_76 : decode cX6_init 76 = .ok (.aload_n 0, 1) := by decide +kernel
theorem dX6_init_77 : decode cX6_init 77 = .ok (.sipush 400, 3) := by decide +kernel
theorem dX6_init_80 : decode cX6_init 80 = .ok (.newarray .int, 2) := by decide +kernel
theorem dX6_init_82 : decode cX6_init 82 = .ok (.putfield 36, 3) := by decide +kernel
theorem dX6_init_85 : decode cX6_init 85 = .ok (.aload_n 0, 1) := by decide +kernel
theorem dX6_init_86 : decode cX6_init 86 = .ok (.sipush 400, 3) := by decide +kernel
theorem dX6_init_89 : decode cX6_init 89 = .ok (.newarray .int, 2) := by decide +kernel
theorem dX6_init_91 : decode cX6_init 91 = .ok (.putfield 39, 3) := by decide +kernel
theorem dX6_init_94 : decode cX6_init 94 = .ok (.aload_n 0, 1) := by decide +kernel
theorem dX6_init_95 : decode cX6_init 95 = .ok (.sipush 400, 3) := by decide +kernel
theorem dX6_init_98 : decode cX6_init 98 = .ok (.newarray .int, 2) := by decide +kernel
theorem dX6_init_100 : decode cX6_init 100 = .ok (.putfield 42, 3) := by decide +kernel
theorem dX6_init_103 : decode cX6_init 103 = .ok (.aload_n 0, 1) := by decide +kernel
theorem dX6_init_104 : decode cX6_init 104 = .ok (.aload_n 1, 1) := by decide +kernel
theorem dX6_init_105 : decode cX6_init 105 = .ok (.putfield 45, 3) := by decide +kernel
theorem dX6_init_108 : decode cX6_init 108 = .ok (.aload_n 0, 1) := by decide +kernel
theorem dX6_init_109 : decode cX6_init 109 = .ok (.iconst 0, 1) := by decide +kernel
theorem dX6_init_110 : decode cX6_init 110 = .ok (.putfield 49, 3) := by decide +kernel
theorem dX6_init_113 : decode cX6_init 113 = .ok (.return_, 1) := by decide +kernel
theorem dX6_total_0 : decode cX6_total 0 = .ok (.aload_n 0, 1) := by decide +kernel
theorem dX6_total_1 : decode cX6_total 1 = .ok (.getfield 49, 3) := by decide +kernel
theorem dX6_total_4 : decode cX6_total 4 = .ok (.ireturn, 1) := by decide +kernel
theorem dX6_has_0 : decode cX6_has 0 = .ok (.iload_n 1, 1) := by decide +kernel
theorem dX6_has_1 : decode cX6_has 1 = .ok (.ifCond .lt 22, 3) := by decide +kernel
theorem dX6_has_4 : decode cX6_has 4 = .ok (.iload_n 1, 1) := by decide +kernel
theorem dX6_has_5 : decode cX6_has 5 = .ok (.aload_n 0, 1) := by decide +kernel
theorem dX6_has_6 : decode cX6_has 6 = .ok (.getfield 49, 3) := by decide +kernel
theorem dX6_has_9 : decode cX6_has 9 = .ok (.if_icmp .ge 14, 3) := by decide +kernel
theorem dX6_has_12 : decode cX6_has 12 = .ok (.iload_n 1, 1) := by decide +kernel
theorem dX6_has_13 : decode cX6_has 13 = .ok (.sipush 400, 3) := by decide +kernel
theorem dX6_has_16 : decode cX6_has 16 = .ok (.if_icmp .ge 7, 3) := by decide +kernel
theorem dX6_has_19 : decode cX6_has 19 = .ok (.iconst 1, 1) := by decide +kernel
theorem dX6_has_20 : decode cX6_has 20 = .ok (.goto 4, 3) := by decide +kernel
theorem dX6_has_23 : decode cX6_has 23 = .ok (.iconst 0, 1) := by decide +kernel
theorem dX6_has_24 : decode cX6_has 24 = .ok (.ireturn, 1) := by decide +kernel
theorem dX6_kindOf_0 : decode cX6_kindOf 0 = .ok (.aload_n 0, 1) := by decide +kernel
theorem dX6_kindOf_1 : decode cX6_kindOf 1 = .ok (.iload_n 1, 1) := by decide +kernel
theorem dX6_kindOf_2 : decode cX6_kindOf 2 = .ok (.invokevirtual 53, 3) := by decide +kernel
theorem dX6_kindOf_5 : decode cX6_kindOf 5 = .ok (.ifCond .eq 12, 3) := by decide +kernel
theorem dX6_kindOf_8 : decode cX6_kindOf 8 = .ok (.aload_n 0, 1) := by decide +kernel
theorem dX6_kindOf_9 : decode cX6_kindOf 9 = .ok (.getfield 9, 3) := by decide +kernel
theorem dX6_kindOf_12 : decode cX6_kindOf 12 = .ok (.iload_n 1, 1) := by decide +kernel
theorem dX6_kindOf_13 : decode cX6_kindOf 13 = .ok (.iaload, 1) := by decide +kernel
theorem dX6_kindOf_14 : decode cX6_kindOf 14 = .ok (.goto 5, 3) := by decide +kernel
theorem dX6_kindOf_17 : decode cX6_kindOf 17 = .ok (.bipush (-2), 2) := by decide +kernel
theorem dX6_kindOf_19 : decode cX6_kindOf 19 = .ok (.ireturn, 1) := by decide +kernel
theorem dX6_numberOf_0 : decode cX6_numberOf 0 = .ok (.aload_n 0, 1) := by decide +kernel
theorem dX6_numberOf_1 : decode cX6_numberOf 1 = .ok (.iload_n 1, 1) := by decide +kernel
theorem dX6_numberOf_2 : decode cX6_numberOf 2 = .ok (.invokevirtual 53, 3) := by decide +kernel
theorem dX6_numberOf_5 : decode cX6_numberOf 5 = .ok (.ifCond .eq 12, 3) := by decide +kernel
theorem dX6_numberOf_8 : decode cX6_numberOf 8 = .ok (.aload_n 0, 1) := by decide +kernel
theorem dX6_numberOf_9 : decode cX6_numberOf 9 = .ok (.getfield 15, 3) := by decide +kernel
theorem dX6_numberOf_12 : decode cX6_numberOf 12 = .ok (.iload_n 1, 1) := by decide +kernel
theorem dX6_numberOf_13 : decode cX6_numberOf 13 = .ok (.iaload, 1) := by decide +kernel
theorem dX6_numberOf_14 : decode cX6_numberOf 14 = .ok (.goto 4, 3) := by decide +kernel
theorem dX6_numberOf_17 : decode cX6_numberOf 17 = .ok (.iconst 0, 1) := by decide +kernel
theorem dX6_numberOf_18 : decode cX6_numberOf 18 = .ok (.ireturn, 1) := by decide +kernel
theorem dX6_letterOf_0 : decode cX6_letterOf 0 = .ok (.aload_n 0, 1) := by decide +kernel
theorem dX6_letterOf_1 : decode cX6_letterOf 1 = .ok (.iload_n 1, 1) := by decide +kernel
theorem dX6_letterOf_2 : decode cX6_letterOf 2 = .ok (.invokevirtual 53, 3) := by decide +kernel
theorem dX6_letterOf_5 : decode cX6_letterOf 5 = .ok (.ifCond .eq 12, 3) := by decide +kernel
theorem dX6_letterOf_8 : decode cX6_letterOf 8 = .ok (.aload_n 0, 1) := by decide +kernel
theorem dX6_letterOf_9 : decode cX6_letterOf 9 = .ok (.getfield 18, 3) := by decide +kernel
theorem dX6_letterOf_12 : decode cX6_letterOf 12 = .ok (.iload_n 1, 1) := by decide +kernel
theorem dX6_letterOf_13 : decode cX6_letterOf 13 = .ok (.iaload, 1) := by decide +kernel
theorem dX6_letterOf_14 : decode cX6_letterOf 14 = .ok (.goto 5, 3) := by decide +kernel
theorem dX6_letterOf_17 : decode cX6_letterOf 17 = .ok (.bipush (-2), 2) := by decide +kernel
theorem dX6_letterOf_19 : decode cX6_letterOf 19 = .ok (.ireturn, 1) := by decide +kernel
theorem dX6_typeOf_0 : decode cX6_typeOf 0 = .ok (.aload_n 0, 1) := by decide +kernel
theorem dX6_typeOf_1 : decode cX6_typeOf 1 = .ok (.iload_n 1, 1) := by decide +kernel
theorem dX6_typeOf_2 : decode cX6_typeOf 2 = .ok (.invokevirtual 53, 3) := by decide +kernel
theorem dX6_typeOf_5 : decode cX6_typeOf 5 = .ok (.ifCond .eq 12, 3) := by decide +kernel
theorem dX6_typeOf_8 : decode cX6_typeOf 8 = .ok (.aload_n 0, 1) := by decide +kernel
theorem dX6_typeOf_9 : decode cX6_typeOf 9 = .ok (.getfield 21, 3) := by decide +kernel
theorem dX6_typeOf_12 : decode cX6_typeOf 12 = .ok (.iload_n 1, 1) := by decide +kernel
theorem dX6_typeOf_13 : decode cX6_typeOf 13 = .ok (.iaload, 1) := by decide +kernel
theorem dX6_typeOf_14 : decode cX6_typeOf 14 = .ok (.goto 5, 3) := by decide +kernel
theorem dX6_typeOf_17 : decode cX6_typeOf 17 = .ok (.bipush (-2), 2) := by decide +kernel
theorem dX6_typeOf_19 : decode cX6_typeOf 19 = .ok (.ireturn, 1) := by decide +kernel
theorem dX6_firstOf_0 : decode cX6_firstOf 0 = .ok (.aload_n 0, 1) := by decide +kernel
theorem dX6_firstOf_1 : decode cX6_firstOf 1 = .ok (.iload_n 1, 1) := by decide +kernel
theorem dX6_firstOf_2 : decode cX6_firstOf 2 = .ok (.invokevirtual 53, 3) := by decide +kernel
theorem dX6_firstOf_5 : decode cX6_firstOf 5 = .ok (.ifCond .eq 12, 3) := by decide +kernel
theorem dX6_firstOf_8 : decode cX6_firstOf 8 = .ok (.aload_n 0, 1) := by decide +kernel
theorem dX6_firstOf_9 : decode cX6_firstOf 9 = .ok (.getfield 24, 3) := by decide +kernel
theorem dX6_firstOf_12 : decode cX6_firstOf 12 = .ok (.iload_n 1, 1) := by decide +kernel
theorem dX6_firstOf_13 : decode cX6_firstOf 13 = .ok (.iaload, 1) := by decide +kernel
theorem dX6_firstOf_14 : decode cX6_firstOf 14 = .ok (.goto 5, 3) := by decide +kernel
theorem dX6_firstOf_17 : decode cX6_firstOf 17 = .ok (.bipush (-2), 2) := by decide +kernel
theorem dX6_firstOf_19 : decode cX6_firstOf 19 = .ok (.ireturn, 1) := by decide +kernel
theorem dX6_secondOf_0 : decode cX6_secondOf 0 = .ok (.aload_n 0, 1) := by decide +kernel
theorem dX6_secondOf_1 : decode cX6_secondOf 1 = .ok (.iload_n 1, 1) := by decide +kernel
theorem dX6_secondOf_2 : decode cX6_secondOf 2 = .ok (.invokevirtual 53, 3) := by decide +kernel
theorem dX6_secondOf_5 : decode cX6_secondOf 5 = .ok (.ifCond .eq 12, 3) := by decide +kernel
theorem dX6_secondOf_8 : decode cX6_secondOf 8 = .ok (.aload_n 0, 1) := by decide +kernel
theorem dX6_secondOf_9 : decode cX6_secondOf 9 = .ok (.getfield 27, 3) := by decide +kernel
theorem dX6_secondOf_12 : decode cX6_secondOf 12 = .ok (.iload_n 1, 1) := by decide +kernel
theorem dX6_secondOf_13 : decode cX6_secondOf 13 = .ok (.iaload, 1) := by decide +kernel
theorem dX6_secondOf_14 : decode cX6_secondOf 14 = .ok (.goto 5, 3) := by decide +kernel
theorem dX6_secondOf_17 : decode cX6_secondOf 17 = .ok (.bipush (-2), 2) := by decide +kernel
theorem dX6_secondOf_19 : decode cX6_secondOf 19 = .ok (.ireturn, 1) := by decide +kernel
theorem dX6_thirdOf_0 : decode cX6_thirdOf 0 = .ok (.aload_n 0, 1) := by decide +kernel
theorem dX6_thirdOf_1 : decode cX6_thirdOf 1 = .ok (.iload_n 1, 1) := by decide +kernel
theorem dX6_thirdOf_2 : decode cX6_thirdOf 2 = .ok (.invokevirtual 53, 3) := by decide +kernel
theorem dX6_thirdOf_5 : decode cX6_thirdOf 5 = .ok (.ifCond .eq 12, 3) := by decide +kernel
theorem dX6_thirdOf_8 : decode cX6_thirdOf 8 = .ok (.aload_n 0, 1) := by decide +kernel
theorem dX6_thirdOf_9 : decode cX6_thirdOf 9 = .ok (.getfield 30, 3) := by decide +kernel
theorem dX6_thirdOf_12 : decode cX6_thirdOf 12 = .ok (.iload_n 1, 1) := by decide +kernel
theorem dX6_thirdOf_13 : decode cX6_thirdOf 13 = .ok (.iaload, 1) := by decide +kernel
theorem dX6_thirdOf_14 : decode cX6_thirdOf 14 = .ok (.goto 5, 3) := by decide +kernel
theorem dX6_thirdOf_17 : decode cX6_thirdOf 17 = .ok (.bipush (-2), 2) := by decide +kernel
theorem dX6_thirdOf_19 : decode cX6_thirdOf 19 = .ok (.ireturn, 1) := by decide +kernel
theorem dX6_sizeOf_0 : decode cX6_sizeOf 0 = .ok (.aload_n 0, 1) := by decide +kernel
theorem dX6_sizeOf_1 : decode cX6_sizeOf 1 = .ok (.iload_n 1, 1) := by decide +kernel
theorem dX6_sizeOf_2 : decode cX6_sizeOf 2 = .ok (.invokevirtual 53, 3) := by decide +kernel
theorem dX6_sizeOf_5 : decode cX6_sizeOf 5 = .ok (.ifCond .eq 12, 3) := by decide +kernel
theorem dX6_sizeOf_8 : decode cX6_sizeOf 8 = .ok (.aload_n 0, 1) := by decide +kernel
theorem dX6_sizeOf_9 : decode cX6_sizeOf 9 = .ok (.getfield 33, 3) := by decide +kernel
theorem dX6_sizeOf_12 : decode cX6_sizeOf 12 = .ok (.iload_n 1, 1) := by decide +kernel
theorem dX6_sizeOf_13 : decode cX6_sizeOf 13 = .ok (.iaload, 1) := by decide +kernel
theorem dX6_sizeOf_14 : decode cX6_sizeOf 14 = .ok (.goto 4, 3) := by decide +kernel
theorem dX6_sizeOf_17 : decode cX6_sizeOf 17 = .ok (.iconst 0, 1) := by decide +kernel
theorem dX6_sizeOf_18 : decode cX6_sizeOf 18 = .ok (.ireturn, 1) := by decide +kernel
theorem dX6_depthOf_0 : decode cX6_depthOf 0 = .ok (.aload_n 0, 1) := by decide +kernel
theorem dX6_depthOf_1 : decode cX6_depthOf 1 = .ok (.iload_n 1, 1) := by decide +kernel
theorem dX6_depthOf_2 : decode cX6_depthOf 2 = .ok (.invokevirtual 53, 3) := by decide +kernel
theorem dX6_depthOf_5 : decode cX6_depthOf 5 = .ok (.ifCond .eq 12, 3) := by decide +kernel
theorem dX6_depthOf_8 : decode cX6_depthOf 8 = .ok (.aload_n 0, 1) := by decide +kernel
theorem dX6_depthOf_9 : decode cX6_depthOf 9 = .ok (.getfield 36, 3) := by decide +kernel
theorem dX6_depthOf_12 : decode cX6_depthOf 12 = .ok (.iload_n 1, 1) := by decide +kernel
theorem dX6_depthOf_13 : decode cX6_depthOf 13 = .ok (.iaload, 1) := by decide +kernel
theorem dX6_depthOf_14 : decode cX6_depthOf 14 = .ok (.goto 4, 3) := by decide +kernel
theorem dX6_depthOf_17 : decode cX6_depthOf 17 = .ok (.iconst 0, 1) := by decide +kernel
theorem dX6_depthOf_18 : decode cX6_depthOf 18 = .ok (.ireturn, 1) := by decide +kernel
theorem dX6_freeLettersOf_0 : decode cX6_freeLettersOf 0 = .ok (.aload_n 0, 1) := by decide +kernel
theorem dX6_freeLettersOf_1 : decode cX6_freeLettersOf 1 = .ok (.iload_n 1, 1) := by decide +kernel
theorem dX6_freeLettersOf_2 : decode cX6_freeLettersOf 2 = .ok (.invokevirtual 53, 3) := by decide +kernel
theorem dX6_freeLettersOf_5 : decode cX6_freeLettersOf 5 = .ok (.ifCond .eq 12, 3) := by decide +kernel
theorem dX6_freeLettersOf_8 : decode cX6_freeLettersOf 8 = .ok (.aload_n 0, 1) := by decide +kernel
theorem dX6_freeLettersOf_9 : decode cX6_freeLettersOf 9 = .ok (.getfield 39, 3) := by decide +kernel
theorem dX6_freeLettersOf_12 : decode cX6_freeLettersOf 12 = .ok (.iload_n 1, 1) := by decide +kernel
theorem dX6_freeLettersOf_13 : decode cX6_freeLettersOf 13 = .ok (.iaload, 1) := by decide +kernel
theorem dX6_freeLettersOf_14 : decode cX6_freeLettersOf 14 = .ok (.goto 4, 3) := by decide +kernel
theorem dX6_freeLettersOf_17 : decode cX6_freeLettersOf 17 = .ok (.iconst 0, 1) := by decide +kernel
theorem dX6_freeLettersOf_18 : decode cX6_freeLettersOf 18 = .ok (.ireturn, 1) := by decide +kernel
theorem dX6_widthOf_0 : decode cX6_widthOf 0 = .ok (.aload_n 0, 1) := by decide +kernel
theorem dX6_widthOf_1 : decode cX6_widthOf 1 = .ok (.iload_n 1, 1) := by decide +kernel
theorem dX6_widthOf_2 : decode cX6_widthOf 2 = .ok (.invokevirtual 53, 3) := by decide +kernel
theorem dX6_widthOf_5 : decode cX6_widthOf 5 = .ok (.ifCond .eq 12, 3) := by decide +kernel
theorem dX6_widthOf_8 : decode cX6_widthOf 8 = .ok (.aload_n 0, 1) := by decide +kernel
theorem dX6_widthOf_9 : decode cX6_widthOf 9 = .ok (.getfield 42, 3) := by decide +kernel
theorem dX6_widthOf_12 : decode cX6_widthOf 12 = .ok (.iload_n 1, 1) := by decide +kernel
theorem dX6_widthOf_13 : decode cX6_widthOf 13 = .ok (.iaload, 1) := by decide +kernel
theorem dX6_widthOf_14 : decode cX6_widthOf 14 = .ok (.goto 4, 3) := by decide +kernel
theorem dX6_widthOf_17 : decode cX6_widthOf 17 = .ok (.iconst 0, 1) := by decide +kernel
theorem dX6_widthOf_18 : decode cX6_widthOf 18 = .ok (.ireturn, 1) := by decide +kernel
theorem dX6_isFree_0 : decode cX6_isFree 0 = .ok (.aload_n 0, 1) := by decide +kernel
theorem dX6_isFree_1 : decode cX6_isFree 1 = .ok (.iload_n 1, 1) := by decide +kernel
theorem dX6_isFree_2 : decode cX6_isFree 2 = .ok (.invokevirtual 57, 3) := by decide +kernel
theorem dX6_isFree_5 : decode cX6_isFree 5 = .ok (.iload_n 2, 1) := by decide +kernel
theorem dX6_isFree_6 : decode cX6_isFree 6 = .ok (.invokestatic 61, 3) := by decide +kernel
theorem dX6_isFree_9 : decode cX6_isFree 9 = .ok (.iand, 1) := by decide +kernel
theorem dX6_isFree_10 : decode cX6_isFree 10 = .ok (.ifCond .eq 7, 3) := by decide +kernel
theorem dX6_isFree_13 : decode cX6_isFree 13 = .ok (.iconst 1, 1) := by decide +kernel
theorem dX6_isFree_14 : decode cX6_isFree 14 = .ok (.goto 4, 3) := by decide +kernel
theorem dX6_isFree_17 : decode cX6_isFree 17 = .ok (.iconst 0, 1) := by decide +kernel
theorem dX6_isFree_18 : decode cX6_isFree 18 = .ok (.ireturn, 1) := by decide +kernel
theorem dX6_usesOf_0 : decode cX6_usesOf 0 = .ok (.aload_n 0, 1) := by decide +kernel
theorem dX6_usesOf_1 : decode cX6_usesOf 1 = .ok (.iload_n 1, 1) := by decide +kernel
theorem dX6_usesOf_2 : decode cX6_usesOf 2 = .ok (.iload_n 2, 1) := by decide +kernel
theorem dX6_usesOf_3 : decode cX6_usesOf 3 = .ok (.invokevirtual 64, 3) := by decide +kernel
theorem dX6_usesOf_6 : decode cX6_usesOf 6 = .ok (.ifCond .ne 5, 3) := by decide +kernel
theorem dX6_usesOf_9 : decode cX6_usesOf 9 = .ok (.iconst 0, 1) := by decide +kernel
theorem dX6_usesOf_10 : decode cX6_usesOf 10 = .ok (.ireturn, 1) := by decide +kernel
theorem dX6_usesOf_11 : decode cX6_usesOf 11 = .ok (.aload_n 0, 1) := by decide +kernel
theorem dX6_usesOf_12 : decode cX6_usesOf 12 = .ok (.iload_n 1, 1) := by decide +kernel
theorem dX6_usesOf_13 : decode cX6_usesOf 13 = .ok (.invokevirtual 68, 3) := by decide +kernel
theorem dX6_usesOf_16 : decode cX6_usesOf 16 = .ok (.iconst 1, 1) := by decide +kernel
theorem dX6_usesOf_17 : decode cX6_usesOf 17 = .ok (.if_icmp .ne 5, 3) := by decide +kernel
theorem dX6_usesOf_20 : decode cX6_usesOf 20 = .ok (.iconst 1, 1) := by decide +kernel
theorem dX6_usesOf_21 : decode cX6_usesOf 21 = .ok (.ireturn, 1) := by decide +kernel
theorem dX6_usesOf_22 : decode cX6_usesOf 22 = .ok (.aload_n 0, 1) := by decide +kernel
theorem dX6_usesOf_23 : decode cX6_usesOf 23 = .ok (.iload_n 1, 1) := by decide +kernel
theorem dX6_usesOf_24 : decode cX6_usesOf 24 = .ok (.invokevirtual 68, 3) := by decide +kernel
theorem dX6_usesOf_27 : decode cX6_usesOf 27 = .ok (.iconst 4, 1) := by decide +kernel
theorem dX6_usesOf_28 : decode cX6_usesOf 28 = .ok (.if_icmp .ne 23, 3) := by decide +kernel
theorem dX6_usesOf_31 : decode cX6_usesOf 31 = .ok (.aload_n 0, 1) := by decide +kernel
theorem dX6_usesOf_32 : decode cX6_usesOf 32 = .ok (.iload_n 1, 1) := by decide +kernel
theorem dX6_usesOf_33 : decode cX6_usesOf 33 = .ok (.invokevirtual 71, 3) := by decide +kernel
theorem dX6_usesOf_36 : decode cX6_usesOf 36 = .ok (.iload_n 2, 1) := by decide +kernel
theorem dX6_usesOf_37 : decode cX6_usesOf 37 = .ok (.if_icmp .ne 14, 3) := by decide +kernel
theorem dX6_usesOf_40 : decode cX6_usesOf 40 = .ok (.aload_n 0, 1) := by decide +kernel
theorem dX6_usesOf_41 : decode cX6_usesOf 41 = .ok (.aload_n 0, 1) := by decide +kernel
theorem dX6_usesOf_42 : decode cX6_usesOf 42 = .ok (.iload_n 1, 1) := by decide +kernel
theorem dX6_usesOf_43 : decode cX6_usesOf 43 = .ok (.invokevirtual 74, 3) := by decide +kernel
theorem dX6_usesOf_46 : decode cX6_usesOf 46 = .ok (.iload_n 2, 1) := by decide +kernel
theorem dX6_usesOf_47 : decode cX6_usesOf 47 = .ok (.invokevirtual 77, 3) := by decide +kernel
theorem dX6_usesOf_50 : decode cX6_usesOf 50 = .ok (.ireturn, 1) := by decide +kernel
theorem dX6_usesOf_51 : decode cX6_usesOf 51 = .ok (.aload_n 0, 1) := by decide +kernel
theorem dX6_usesOf_52 : decode cX6_usesOf 52 = .ok (.aload_n 0, 1) := by decide +kernel
theorem dX6_usesOf_53 : decode cX6_usesOf 53 = .ok (.iload_n 1, 1) := by decide +kernel
theorem dX6_usesOf_54 : decode cX6_usesOf 54 = .ok (.invokevirtual 74, 3) := by decide +kernel
theorem dX6_usesOf_57 : decode cX6_usesOf 57 = .ok (.iload_n 2, 1) := by decide +kernel
theorem dX6_usesOf_58 : decode cX6_usesOf 58 = .ok (.invokevirtual 77, 3) := by decide +kernel
theorem dX6_usesOf_61 : decode cX6_usesOf 61 = .ok (.aload_n 0, 1) := by decide +kernel
theorem dX6_usesOf_62 : decode cX6_usesOf 62 = .ok (.aload_n 0, 1) := by decide +kernel
theorem dX6_usesOf_63 : decode cX6_usesOf 63 = .ok (.iload_n 1, 1) := by decide +kernel
theorem dX6_usesOf_64 : decode cX6_usesOf 64 = .ok (.invokevirtual 81, 3) := by decide +kernel
theorem dX6_usesOf_67 : decode cX6_usesOf 67 = .ok (.iload_n 2, 1) := by decide +kernel
theorem dX6_usesOf_68 : decode cX6_usesOf 68 = .ok (.invokevirtual 77, 3) := by decide +kernel
theorem dX6_usesOf_71 : decode cX6_usesOf 71 = .ok (.iadd, 1) := by decide +kernel
theorem dX6_usesOf_72 : decode cX6_usesOf 72 = .ok (.aload_n 0, 1) := by decide +kernel
theorem dX6_usesOf_73 : decode cX6_usesOf 73 = .ok (.aload_n 0, 1) := by decide +kernel
theorem dX6_usesOf_74 : decode cX6_usesOf 74 = .ok (.iload_n 1, 1) := by decide +kernel
theorem dX6_usesOf_75 : decode cX6_usesOf 75 = .ok (.invokevirtual 84, 3) := by decide +kernel
theorem dX6_usesOf_78 : decode cX6_usesOf 78 = .ok (.iload_n 2, 1) := by decide +kernel
theorem dX6_usesOf_79 : decode cX6_usesOf 79 = .ok (.invokevirtual 77, 3) := by decide +kernel
theorem dX6_usesOf_82 : decode cX6_usesOf 82 = .ok (.iadd, 1) := by decide +kernel
theorem dX6_usesOf_83 : decode cX6_usesOf 83 = .ok (.ireturn, 1) := by decide +kernel
theorem dX6_newNumber_0 : decode cX6_newNumber 0 = .ok (.aload_n 0, 1) := by decide +kernel
theorem dX6_newNumber_1 : decode cX6_newNumber 1 = .ok (.iconst 0, 1) := by decide +kernel
theorem dX6_newNumber_2 : decode cX6_newNumber 2 = .ok (.bipush (-2), 2) := by decide +kernel
theorem dX6_newNumber_4 : decode cX6_newNumber 4 = .ok (.bipush (-2), 2) := by decide +kernel
theorem dX6_newNumber_6 : decode cX6_newNumber 6 = .ok (.bipush (-2), 2) := by decide +kernel
theorem dX6_newNumber_8 : decode cX6_newNumber 8 = .ok (.bipush (-2), 2) := by decide +kernel
theorem dX6_newNumber_10 : decode cX6_newNumber 10 = .ok (.bipush (-2), 2) := by decide +kernel
theorem dX6_newNumber_12 : decode cX6_newNumber 12 = .ok (.invokevirtual 87, 3) := by decide +kernel
theorem dX6_newNumber_15 : decode cX6_newNumber 15 = .ok (.istore_n 2, 1) := by decide +kernel
theorem dX6_newNumber_16 : decode cX6_newNumber 16 = .ok (.aload_n 0, 1) := by decide +kernel
theorem dX6_newNumber_17 : decode cX6_newNumber 17 = .ok (.iload_n 2, 1) := by decide +kernel
theorem dX6_newNumber_18 : decode cX6_newNumber 18 = .ok (.invokevirtual 53, 3) := by decide +kernel
theorem dX6_newNumber_21 : decode cX6_newNumber 21 = .ok (.ifCond .eq 20, 3) := by decide +kernel
theorem dX6_newNumber_24 : decode cX6_newNumber 24 = .ok (.aload_n 0, 1) := by decide +kernel
theorem dX6_newNumber_25 : decode cX6_newNumber 25 = .ok (.getfield 15, 3) := by decide +kernel
theorem dX6_newNumber_28 : decode cX6_newNumber 28 = .ok (.iload_n 2, 1) := by decide +kernel
theorem dX6_newNumber_29 : decode cX6_newNumber 29 = .ok (.iload_n 1, 1) := by decide +kernel
theorem dX6_newNumber_30 : decode cX6_newNumber 30 = .ok (.iastore, 1) := by decide +kernel
theorem dX6_newNumber_31 : decode cX6_newNumber 31 = .ok (.aload_n 0, 1) := by decide +kernel
theorem dX6_newNumber_32 : decode cX6_newNumber 32 = .ok (.getfield 42, 3) := by decide +kernel
theorem dX6_newNumber_35 : decode cX6_newNumber 35 = .ok (.iload_n 2, 1) := by decide +kernel
theorem dX6_newNumber_36 : decode cX6_newNumber 36 = .ok (.iload_n 1, 1) := by decide +kernel
theorem dX6_newNumber_37 : decode cX6_newNumber 37 = .ok (.invokestatic 91, 3) := by decide +kernel
theorem dX6_newNumber_40 : decode cX6_newNumber 40 = .ok (.iastore, 1) := by decide +kernel
theorem dX6_newNumber_41 : decode cX6_newNumber 41 = .ok (.iload_n 2, 1) := by decide +kernel
theorem dX6_newNumber_42 : decode cX6_newNumber 42 = .ok (.ireturn, 1) := by decide +kernel
theorem dX6_newName_0 : decode cX6_newName 0 = .ok (.aload_n 0, 1) := by decide +kernel
theorem dX6_newName_1 : decode cX6_newName 1 = .ok (.iconst 1, 1) := by decide +kernel
theorem dX6_newName_2 : decode cX6_newName 2 = .ok (.iload_n 1, 1) := by decide +kernel
theorem dX6_newName_3 : decode cX6_newName 3 = .ok (.bipush (-2), 2) := by decide +kernel
theorem dX6_newName_5 : decode cX6_newName 5 = .ok (.bipush (-2), 2) := by decide +kernel
theorem dX6_newName_7 : decode cX6_newName 7 = .ok (.bipush (-2), 2) := by decide +kernel
theorem dX6_newName_9 : decode cX6_newName 9 = .ok (.bipush (-2), 2) := by decide +kernel
theorem dX6_newName_11 : decode cX6_newName 11 = .ok (.invokevirtual 87, 3) := by decide +kernel
theorem dX6_newName_14 : decode cX6_newName 14 = .ok (.ireturn, 1) := by decide +kernel
theorem dX6_newFunction_0 : decode cX6_newFunction 0 = .ok (.aload_n 0, 1) := by decide +kernel
theorem dX6_newFunction_1 : decode cX6_newFunction 1 = .ok (.iconst 2, 1) := by decide +kernel
theorem dX6_newFunction_2 : decode cX6_newFunction 2 = .ok (.iload_n 1, 1) := by decide +kernel
theorem dX6_newFunction_3 : decode cX6_newFunction 3 = .ok (.iload_n 2, 1) := by decide +kernel
theorem dX6_newFunction_4 : decode cX6_newFunction 4 = .ok (.iload_n 3, 1) := by decide +kernel
theorem dX6_newFunction_5 : decode cX6_newFunction 5 = .ok (.bipush (-2), 2) := by decide +kernel
theorem dX6_newFunction_7 : decode cX6_newFunction 7 = .ok (.bipush (-2), 2) := by decide +kernel
theorem dX6_newFunction_9 : decode cX6_newFunction 9 = .ok (.invokevirtual 87, 3) := by decide +kernel
theorem dX6_newFunction_12 : decode cX6_newFunction 12 = .ok (.ireturn, 1) := by decide +kernel
