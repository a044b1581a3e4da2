theorem dX8_typeForChoice_20 : decode cX8_typeForChoice 20 = .ok (.aload_n 0, 1) := by decide +kernel
theorem dX8_typeForChoice_21 : decode cX8_typeForChoice 21 = .ok (.aload_n 0, 1) := by decide +kernel
theorem dX8_typeForChoice_22 : decode cX8_typeForChoice 22 = .ok (.getfield 22, 3) := by decide +kernel
theorem dX8_typeForChoice_25 : decode cX8_typeForChoice 25 = .ok (.iload_n 1, 1) := by decide +kernel
theorem dX8_typeForChoice_26 : decode cX8_typeForChoice 26 = .ok (.invokevirtual 100, 3) := by decide +kernel
theorem dX8_typeForChoice_29 : decode cX8_typeForChoice 29 = .ok (.invokevirtual 43, 3) := by decide +kernel
theorem dX8_typeForChoice_32 : decode cX8_typeForChoice 32 = .ok (.istore_n 3, 1) := by decide +kernel
theorem dX8_typeForChoice_33 : decode cX8_typeForChoice 33 = .ok (.iload_n 3, 1) := by decide +kernel
theorem dX8_typeForChoice_34 : decode cX8_typeForChoice 34 = .ok (.ifCond .ge 7, 3) := by decide +kernel
theorem dX8_typeForChoice_37 : decode cX8_typeForChoice 37 = .ok (.iload_n 3, 1) := by decide +kernel
theorem dX8_typeForChoice_38 : decode cX8_typeForChoice 38 = .ok (.goto 16, 3) := by decide +kernel
theorem dX8_typeForChoice_41 : decode cX8_typeForChoice 41 = .ok (.aload_n 0, 1) := by decide +kernel
theorem dX8_typeForChoice_42 : decode cX8_typeForChoice 42 = .ok (.iload_n 3, 1) := by decide +kernel
theorem dX8_typeForChoice_43 : decode cX8_typeForChoice 43 = .ok (.aload_n 0, 1) := by decide +kernel
theorem dX8_typeForChoice_44 : decode cX8_typeForChoice 44 = .ok (.getfield 22, 3) := by decide +kernel
theorem dX8_typeForChoice_47 : decode cX8_typeForChoice 47 = .ok (.iload_n 1, 1) := by decide +kernel
theorem dX8_typeForChoice_48 : decode cX8_typeForChoice 48 = .ok (.invokevirtual 109, 3) := by decide +kernel
theorem dX8_typeForChoice_51 : decode cX8_typeForChoice 51 = .ok (.invokevirtual 103, 3) := by decide +kernel
theorem dX8_typeForChoice_54 : decode cX8_typeForChoice 54 = .ok (.ireturn, 1) := by decide +kernel
theorem dX8_typeThatIs_0 : decode cX8_typeThatIs 0 = .ok (.aload_n 0, 1) := by decide +kernel
theorem dX8_typeThatIs_1 : decode cX8_typeThatIs 1 = .ok (.iload_n 2, 1) := by decide +kernel
theorem dX8_typeThatIs_2 : decode cX8_typeThatIs 2 = .ok (.invokevirtual 43, 3) := by decide +kernel
theorem dX8_typeThatIs_5 : decode cX8_typeThatIs 5 = .ok (.istore_n 3, 1) := by decide +kernel
theorem dX8_typeThatIs_6 : decode cX8_typeThatIs 6 = .ok (.iload_n 3, 1) := by decide +kernel
theorem dX8_typeThatIs_7 : decode cX8_typeThatIs 7 = .ok (.ifCond .lt 8, 3) := by decide +kernel
theorem dX8_typeThatIs_10 : decode cX8_typeThatIs 10 = .ok (.iload_n 3, 1) := by decide +kernel
theorem dX8_typeThatIs_11 : decode cX8_typeThatIs 11 = .ok (.iload_n 1, 1) := by decide +kernel
theorem dX8_typeThatIs_12 : decode cX8_typeThatIs 12 = .ok (.if_icmp .ne 7, 3) := by decide +kernel
theorem dX8_typeThatIs_15 : decode cX8_typeThatIs 15 = .ok (.iload_n 3, 1) := by decide +kernel
theorem dX8_typeThatIs_16 : decode cX8_typeThatIs 16 = .ok (.goto 9, 3) := by decide +kernel
theorem dX8_typeThatIs_19 : decode cX8_typeThatIs 19 = .ok (.aload_n 0, 1) := by decide +kernel
theorem dX8_typeThatIs_20 : decode cX8_typeThatIs 20 = .ok (.iconst 3, 1) := by decide +kernel
theorem dX8_typeThatIs_21 : decode cX8_typeThatIs 21 = .ok (.iload_n 2, 1) := by decide +kernel
theorem dX8_typeThatIs_22 : decode cX8_typeThatIs 22 = .ok (.invokevirtual 80, 3) := by decide +kernel
theorem dX8_typeThatIs_25 : decode cX8_typeThatIs 25 = .ok (.ireturn, 1) := by decide +kernel
theorem dX8_typeUnder_0 : decode cX8_typeUnder 0 = .ok (.aload_n 0, 1) := by decide +kernel
theorem dX8_typeUnder_1 : decode cX8_typeUnder 1 = .ok (.iload_n 1, 1) := by decide +kernel
theorem dX8_typeUnder_2 : decode cX8_typeUnder 2 = .ok (.invokevirtual 77, 3) := by decide +kernel
theorem dX8_typeUnder_5 : decode cX8_typeUnder 5 = .ok (.istore 4, 2) := by decide +kernel
theorem dX8_typeUnder_7 : decode cX8_typeUnder 7 = .ok (.aload_n 0, 1) := by decide +kernel
theorem dX8_typeUnder_8 : decode cX8_typeUnder 8 = .ok (.iload_n 1, 1) := by decide +kernel
theorem dX8_typeUnder_9 : decode cX8_typeUnder 9 = .ok (.iload_n 2, 1) := by decide +kernel
theorem dX8_typeUnder_10 : decode cX8_typeUnder 10 = .ok (.invokevirtual 112, 3) := by decide +kernel
theorem dX8_typeUnder_13 : decode cX8_typeUnder 13 = .ok (.aload_n 0, 1) := by decide +kernel
theorem dX8_typeUnder_14 : decode cX8_typeUnder 14 = .ok (.iload_n 3, 1) := by decide +kernel
theorem dX8_typeUnder_15 : decode cX8_typeUnder 15 = .ok (.invokevirtual 43, 3) := by decide +kernel
theorem dX8_typeUnder_18 : decode cX8_typeUnder 18 = .ok (.istore 5, 2) := by decide +kernel
theorem dX8_typeUnder_20 : decode cX8_typeUnder 20 = .ok (.aload_n 0, 1) := by decide +kernel
theorem dX8_typeUnder_21 : decode cX8_typeUnder 21 = .ok (.iload_n 1, 1) := by decide +kernel
theorem dX8_typeUnder_22 : decode cX8_typeUnder 22 = .ok (.iload 4, 2) := by decide +kernel
theorem dX8_typeUnder_24 : decode cX8_typeUnder 24 = .ok (.invokevirtual 112, 3) := by decide +kernel
theorem dX8_typeUnder_27 : decode cX8_typeUnder 27 = .ok (.iload 5, 2) := by decide +kernel
theorem dX8_typeUnder_29 : decode cX8_typeUnder 29 = .ok (.ireturn, 1) := by decide +kernel
theorem dX8_knownOf_0 : decode cX8_knownOf 0 = .ok (.iload_n 1, 1) := by decide +kernel
theorem dX8_knownOf_1 : decode cX8_knownOf 1 = .ok (.invokestatic 33, 3) := by decide +kernel
theorem dX8_knownOf_4 : decode cX8_knownOf 4 = .ok (.ifCond .eq 12, 3) := by decide +kernel
theorem dX8_knownOf_7 : decode cX8_knownOf 7 = .ok (.aload_n 0, 1) := by decide +kernel
theorem dX8_knownOf_8 : decode cX8_knownOf 8 = .ok (.getfield 15, 3) := by decide +kernel
theorem dX8_knownOf_11 : decode cX8_knownOf 11 = .ok (.iload_n 1, 1) := by decide +kernel
theorem dX8_knownOf_12 : decode cX8_knownOf 12 = .ok (.iaload, 1) := by decide +kernel
theorem dX8_knownOf_13 : decode cX8_knownOf 13 = .ok (.goto 5, 3) := by decide +kernel
theorem dX8_knownOf_16 : decode cX8_knownOf 16 = .ok (.bipush (-2), 2) := by decide +kernel
theorem dX8_knownOf_18 : decode cX8_knownOf 18 = .ok (.ireturn, 1) := by decide +kernel
theorem dX8_setKnown_0 : decode cX8_setKnown 0 = .ok (.iload_n 1, 1) := by decide +kernel
theorem dX8_setKnown_1 : decode cX8_setKnown 1 = .ok (.invokestatic 33, 3) := by decide +kernel
theorem dX8_setKnown_4 : decode cX8_setKnown 4 = .ok (.ifCond .eq 10, 3) := by decide +kernel
theorem dX8_setKnown_7 : decode cX8_setKnown 7 = .ok (.aload_n 0, 1) := by decide +kernel
theorem dX8_setKnown_8 : decode cX8_setKnown 8 = .ok (.getfield 15, 3) := by decide +kernel
theorem dX8_setKnown_11 : decode cX8_setKnown 11 = .ok (.iload_n 1, 1) := by decide +kernel
theorem dX8_setKnown_12 : decode cX8_setKnown 12 = .ok (.iload_n 2, 1) := by decide +kernel
theorem dX8_setKnown_13 : decode cX8_setKnown 13 = .ok (.iastore, 1) := by decide +kernel
theorem dX8_setKnown_14 : decode cX8_setKnown 14 = .ok (.return_, 1) := by decide +kernel
theorem dX8_faulty_0 : decode cX8_faulty 0 = .ok (.aload_n 0, 1) := by decide +kernel
theorem dX8_faulty_1 : decode cX8_faulty 1 = .ok (.iload_n 1, 1) := by decide +kernel
theorem dX8_faulty_2 : decode cX8_faulty 2 = .ok (.putfield 26, 3) := by decide +kernel
theorem dX8_faulty_5 : decode cX8_faulty 5 = .ok (.aload_n 0, 1) := by decide +kernel
theorem dX8_faulty_6 : decode cX8_faulty 6 = .ok (.iload_n 2, 1) := by decide +kernel
theorem dX8_faulty_7 : decode cX8_faulty 7 = .ok (.putfield 30, 3) := by decide +kernel
theorem dX8_faulty_10 : decode cX8_faulty 10 = .ok (.bipush (-2), 2) := by decide +kernel
theorem dX8_faulty_12 : decode cX8_faulty 12 = .ok (.ireturn, 1) := by decide +kernel
theorem dX9_init_0 : decode cX9_init 0 = .ok (.aload_n 0, 1) := by decide +kernel
theorem dX9_init_1 : decode cX9_init 1 = .ok (.invokespecial 1, 3) := by decide +kernel
theorem dX9_init_4 : decode cX9_init 4 = .ok (.aload_n 0, 1) := by decide +kernel
theorem dX9_init_5 : decode cX9_init 5 = .ok (.new 7, 3) := by decide +kernel
theorem dX9_init_8 : decode cX9_init 8 = .ok (.dup, 1) := by decide +kernel
theorem dX9_init_9 : decode cX9_init 9 = .ok (.invokespecial 9, 3) := by decide +kernel
theorem dX9_init_12 : decode cX9_init 12 = .ok (.putfield 10, 3) := by decide +kernel
theorem dX9_init_15 : decode cX9_init 15 = .ok (.aload_n 0, 1) := by decide +kernel
theorem dX9_init_16 : decode cX9_init 16 = .ok (.new 16, 3) := by decide +kernel
theorem dX9_init_19 : decode cX9_init 19 = .ok (.dup, 1) := by decide +kernel
theorem dX9_init_20 : decode cX9_init 20 = .ok (.aload_n 0, 1) := by decide +kernel
theorem dX9_init_21 : decode cX9_init 21 = .ok (.getfield 10, 3) := by decide +kernel
theorem dX9_init_24 : decode cX9_init 24 = .ok (.invokespecial 18, 3) := by decide +kernel
theorem dX9_init_27 : decode cX9_init 27 = .ok (.putfield 21, 3) := by decide +kernel
theorem dX9_init_30 : decode cX9_init 30 = .ok (.aload_n 0, 1) := by decide +kernel
theorem dX9_init_31 : decode cX9_init 31 = .ok (.new 25, 3) := by decide +kernel
theorem dX9_init_34 : decode cX9_init 34 = .ok (.dup, 1) := by decide +kernel
theorem dX9_init_35 : decode cX9_init 35 = .ok (.aload_n 0, 1) := by decide +kernel
theorem dX9_init_36 : decode cX9_init 36 = .ok (.getfield 10, 3) := by decide +kernel
theorem dX9_init_39 : decode cX9_init 39 = .ok (.aload_n 0, 1) := by decide +kernel
theorem dX9_init_40 : decode cX9_init 40 = .ok (.getfield 21, 3) := by decide +kernel
theorem dX9_init_43 : decode cX9_init 43 = .ok (.invokespecial 27, 3) := by decide +kernel
theorem dX9_init_46 : decode cX9_init 46 = .ok (.putfield 30, 3) := by decide +kernel
theorem dX9_init_49 : decode cX9_init 49 = .ok (.aload_n 0, 1) := by decide +kernel
theorem dX9_init_50 : decode cX9_init 50 = .ok (.new 34, 3) := by decide +kernel
theorem dX9_init_53 : decode cX9_init 53 = .ok (.dup, 1) := by decide +kernel
theorem dX9_init_54 : decode cX9_init 54 = .ok (.aload_n 0, 1) := by decide +kernel
theorem dX9_init_55 : decode cX9_init 55 = .ok (.getfield 21, 3) := by decide +kernel
theorem dX9_init_58 : decode cX9_init 58 = .ok (.invokespecial 36, 3) := by decide +kernel
theorem dX9_init_61 : decode cX9_init 61 = .ok (.putfield 39, 3) := by decide +kernel
theorem dX9_init_64 : decode cX9_init 64 = .ok (.aload_n 0, 1) := by decide +kernel
theorem dX9_init_65 : decode cX9_init 65 = .ok (.new 43, 3) := by decide +kernel
theorem dX9_init_68 : decode cX9_init 68 = .ok (.dup, 1) := by decide +kernel
theorem dX9_init_69 : decode cX9_init 69 = .ok (.aload_n 0, 1) := by decide +kernel
theorem dX9_init_70 : decode cX9_init 70 = .ok (.getfield 21, 3) := by decide +kernel
theorem dX9_init_73 : decode cX9_init 73 = .ok (.invokespecial 45, 3) := by decide +kernel
theorem dX9_init_76 : decode cX9_init 76 = .ok (.putfield 46, 3) := by decide +kernel
theorem dX9_init_79 : decode cX9_init 79 = .ok (.aload_n 0, 1) := by decide +kernel
theorem dX9_init_80 : decode cX9_init 80 = .ok (.new 50, 3) := by decide +kernel
theorem dX9_init_83 : decode cX9_init 83 = .ok (.dup, 1) := by decide +kernel
theorem dX9_init_84 : decode cX9_init 84 = .ok (.aload_n 0, 1) := by decide +kernel
theorem dX9_init_85 : decode cX9_init 85 = .ok (.getfield 21, 3) := by decide +kernel
theorem dX9_init_88 : decode cX9_init 88 = .ok (.aload_n 0, 1) := by decide +kernel
theorem dX9_init_89 : decode cX9_init 89 = .ok (.getfield 46, 3) := by decide +kernel
theorem dX9_init_92 : decode cX9_init 92 = .ok (.invokespecial 52, 3) := by decide +kernel
theorem dX9_init_95 : decode cX9_init 95 = .ok (.putfield 55, 3) := by decide +kernel
theorem dX9_init_98 : decode cX9_init 98 = .ok (.aload_n 0, 1) := by decide +kernel
theorem dX9_init_99 : decode cX9_init 99 = .ok (.new 59, 3) := by decide +kernel
theorem dX9_init_102 : decode cX9_init 102 = .ok (.dup, 1) := by decide +kernel
theorem dX9_init_103 : decode cX9_init 103 = .ok (.aload_n 0, 1) := by decide +kernel
theorem dX9_init_104 : decode cX9_init 104 = .ok (.getfield 21, 3) := by decide +kernel
theorem dX9_init_107 : decode cX9_init 107 = .ok (.invokespecial 61, 3) := by decide +kernel
theorem dX9_init_110 : decode cX9_init 110 = .ok (.putfield 62, 3) := by decide +kernel
theorem dX9_init_113 : decode cX9_init 113 = .ok (.aload_n 0, 1) := by decide +kernel
theorem dX9_init_114 : decode cX9_init 114 = .ok (.new 66, 3) := by decide +kernel
theorem dX9_init_117 : decode cX9_init 117 = .ok (.dup, 1) := by decide +kernel
theorem dX9_init_118 : decode cX9_init 118 = .ok (.aload_n 0, 1) := by decide +kernel
theorem dX9_init_119 : decode cX9_init 119 = .ok (.getfield 10, 3) := by decide +kernel
theorem dX9_init_122 : decode cX9_init 122 = .ok (.aload_n 0, 1) := by decide +kernel
theorem dX9_init_123 : decode cX9_init 123 = .ok (.getfield 21, 3) := by decide +kernel
theorem dX9_init_126 : decode cX9_init 126 = .ok (.invokespecial 68, 3) := by decide +kernel
theorem dX9_init_129 : decode cX9_init 129 = .ok (.putfield 69, 3) := by decide +kernel
theorem dX9_init_132 : decode cX9_init 132 = .ok (.aload_n 0, 1) := by decide +kernel
theorem dX9_init_133 : decode cX9_init 133 = .ok (.new 73, 3) := by decide +kernel
theorem dX9_init_136 : decode cX9_init 136 = .ok (.dup, 1) := by decide +kernel
theorem dX9_init_137 : decode cX9_init 137 = .ok (.aload_n 0, 1) := by decide +kernel
theorem dX9_init_138 : decode cX9_init 138 = .ok (.getfield 10, 3) := by decide +kernel
theorem dX9_init_141 : decode cX9_init 141 = .ok (.aload_n 0, 1) := by decide +kernel
theorem dX9_init_142 : decode cX9_init 142 = .ok (.getfield 21, 3) := by decide +kernel
theorem dX9_init_145 : decode cX9_init 145 = .ok (.invokespecial 75, 3) := by decide +kernel
theorem dX9_init_148 : decode cX9_init 148 = .ok (.putfield 76, 3) := by decide +kernel
theorem dX9_init_151 : decode cX9_init 151 = .ok (.aload_n 0, 1) := by decide +kernel
theorem dX9_init_152 : decode cX9_init 152 = .ok (.iconst 0, 1) := by decide +kernel
theorem dX9_init_153 : decode cX9_init 153 = .ok (.putfield 80, 3) := by decide +kernel
theorem dX9_init_156 : decode cX9_init 156 = .ok (.return_, 1) := by decide +kernel
theorem dX9_arrow_0 : decode cX9_arrow 0 = .ok (.aload_n 0, 1) := by decide +kernel
theorem dX9_arrow_1 : decode cX9_arrow 1 = .ok (.getfield 10, 3) := by decide +kernel
theorem dX9_arrow_4 : decode cX9_arrow 4 = .ok (.iload_n 1, 1) := by decide +kernel
theorem dX9_arrow_5 : decode cX9_arrow 5 = .ok (.invokevirtual 84, 3) := by decide +kernel
theorem dX9_arrow_8 : decode cX9_arrow 8 = .ok (.ifCond .eq 14, 3) := by decide +kernel
theorem dX9_arrow_11 : decode cX9_arrow 11 = .ok (.aload_n 0, 1) := by decide +kernel
theorem dX9_arrow_12 : decode cX9_arrow 12 = .ok (.getfield 10, 3) := by decide +kernel
theorem dX9_arrow_15 : decode cX9_arrow 15 = .ok (.iload_n 2, 1) := by decide +kernel
theorem dX9_arrow_16 : decode cX9_arrow 16 = .ok (.invokevirtual 84, 3) := by decide +kernel
theorem dX9_arrow_19 : decode cX9_arrow 19 = .ok (.ifCond .ne 5, 3) := by decide +kernel
theorem dX9_arrow_22 : decode cX9_arrow 22 = .ok (.iconst (-1), 1) := by decide +kernel
theorem dX9_arrow_23 : decode cX9_arrow 23 = .ok (.ireturn, 1) := by decide +kernel
theorem dX9_arrow_24 : decode cX9_arrow 24 = .ok (.aload_n 0, 1) := by decide +kernel
theorem dX9_arrow_25 : decode cX9_arrow 25 = .ok (.getfield 10, 3) := by decide +kernel
theorem dX9_arrow_28 : decode cX9_arrow 28 = .ok (.iload_n 1, 1) := by decide +kernel
theorem dX9_arrow_29 : decode cX9_arrow 29 = .ok (.iload_n 2, 1) := by decide +kernel
theorem dX9_arrow_30 : decode cX9_arrow 30 = .ok (.invokevirtual 88, 3) := by decide +kernel
theorem dX9_arrow_33 : decode cX9_arrow 33 = .ok (.ireturn, 1) := by decide +kernel
theorem dX9_side_0 : decode cX9_side 0 = .ok (.aload_n 0, 1) := by decide +kernel
theorem dX9_side_1 : decode cX9_side 1 = .ok (.getfield 10, 3) := by decide +kernel
theorem dX9_side_4 : decode cX9_side 4 = .ok (.iload_n 1, 1) := by decide +kernel
theorem dX9_side_5 : decode cX9_side 5 = .ok (.invokevirtual 84, 3) := by decide +kernel
theorem dX9_side_8 : decode cX9_side 8 = .ok (.ifCond .eq 12, 3) := by decide +kernel
theorem dX9_side_11 : decode cX9_side 11 = .ok (.iload_n 2, 1) := by decide +kernel
theorem dX9_side_12 : decode cX9_side 12 = .ok (.ifCond .lt 8, 3) := by decide +kernel
theorem dX9_side_15 : decode cX9_side 15 = .ok (.iload_n 2, 1) := by decide +kernel
theorem dX9_side_16 : decode cX9_side 16 = .ok (.iconst 1, 1) := by decide +kernel
theorem dX9_side_17 : decode cX9_side 17 = .ok (.if_icmp .le 5, 3) := by decide +kernel
theorem dX9_side_20 : decode cX9_side 20 = .ok (.iconst (-1), 1) := by decide +kernel
theorem dX9_side_21 : decode cX9_side 21 = .ok (.ireturn, 1) := by decide +kernel
theorem dX9_side_22 : decode cX9_side 22 = .ok (.iload_n 2, 1) := by decide +kernel
theorem dX9_side_23 : decode cX9_side 23 = .ok (.ifCond .ne 14, 3) := by decide +kernel
theorem dX9_side_26 : decode cX9_side 26 = .ok (.aload_n 0, 1) := by decide +kernel
theorem dX9_side_27 : decode cX9_side 27 = .ok (.getfield 10, 3) := by decide +kernel
theorem dX9_side_30 : decode cX9_side 30 = .ok (.iload_n 1, 1) := by decide +kernel
theorem dX9_side_31 : decode cX9_side 31 = .ok (.invokevirtual 92, 3) := by decide +kernel
theorem dX9_side_34 : decode cX9_side 34 = .ok (.goto 11, 3) := by decide +kernel
theorem dX9_side_37 : decode cX9_side 37 = .ok (.aload_n 0, 1) := by decide +kernel
theorem dX9_side_38 : decode cX9_side 38 = .ok (.getfield 10, 3) := by decide +kernel
theorem dX9_side_41 : decode cX9_side 41 = .ok (.iload_n 1, 1) := by decide +kernel
theorem dX9_side_42 : decode cX9_side 42 = .ok (.invokevirtual 96, 3) := by decide +kernel
theorem dX9_side_45 : decode cX9_side 45 = .ok (.ireturn, 1) := by decide +kernel
theorem dX9_declare_0 : decode cX9_declare 0 = .ok (.iload_n 1, 1) := by decide +kernel
theorem dX9_declare_1 : decode cX9_declare 1 = .ok (.invokestatic 99, 3) := by decide +kernel
theorem dX9_declare_4 : decode cX9_declare 4 = .ok (.ifCond .eq 20, 3) := by decide +kernel
theorem dX9_declare_7 : decode cX9_declare 7 = .ok (.iload_n 2, 1) := by decide +kernel
theorem dX9_declare_8 : decode cX9_declare 8 = .ok (.bipush (-2), 2) := by decide +kernel
theorem dX9_declare_10 : decode cX9_declare 10 = .ok (.if_icmp .eq 16, 3) := by decide +kernel
theorem dX9_declare_13 : decode cX9_declare 13 = .ok (.aload_n 0, 1) := by decide +kernel
theorem dX9_declare_14 : decode cX9_declare 14 = .ok (.getfield 10, 3) := by decide +kernel
theorem dX9_declare_17 : decode cX9_declare 17 = .ok (.iload_n 2, 1) := by decide +kernel
theorem dX9_declare_18 : decode cX9_declare 18 = .ok (.invokevirtual 84, 3) := by decide +kernel
theorem dX9_declare_21 : decode cX9_declare 21 = .ok (.ifCond .ne 5, 3) := by decide +kernel
theorem dX9_declare_24 : decode cX9_declare 24 = .ok (.iconst (-1), 1) := by decide +kernel
theorem dX9_declare_25 : decode cX9_declare 25 = .ok (.ireturn, 1) := by decide +kernel
theorem dX9_declare_26 : decode cX9_declare 26 = .ok (.aload_n 0, 1) := by decide +kernel
theorem dX9_declare_27 : decode cX9_declare 27 = .ok (.getfield 30, 3) := by decide +kernel
theorem dX9_declare_30 : decode cX9_declare 30 = .ok (.iload_n 1, 1) := by decide +kernel
theorem dX9_declare_31 : decode cX9_declare 31 = .ok (.iload_n 2, 1) := by decide +kernel
theorem dX9_declare_32 : decode cX9_declare 32 = .ok (.invokevirtual 102, 3) := by decide +kernel
theorem dX9_declare_35 : decode cX9_declare 35 = .ok (.iconst 1, 1) := by decide +kernel
theorem dX9_declare_36 : decode cX9_declare 36 = .ok (.ireturn, 1) := by decide +kernel
theorem dX9_number_0 : decode cX9_number 0 = .ok (.aload_n 0, 1) := by decide +kernel
theorem dX9_number_1 : decode cX9_number 1 = .ok (.getfield 21, 3) := by decide +kernel
theorem dX9_number_4 : decode cX9_number 4 = .ok (.iload_n 1, 1) := by decide +kernel
theorem dX9_number_5 : decode cX9_number 5 = .ok (.invokevirtual 106, 3) := by decide +kernel
theorem dX9_number_8 : decode cX9_number 8 = .ok (.ireturn, 1) := by decide +kernel
theorem dX9_name_0 : decode cX9_name 0 = .ok (.iload_n 1, 1) := by decide +kernel
theorem dX9_name_1 : decode cX9_name 1 = .ok (.invokestatic 99, 3) := by decide +kernel
theorem dX9_name_4 : decode cX9_name 4 = .ok (.ifCond .eq 14, 3) := by decide +kernel
theorem dX9_name_7 : decode cX9_name 7 = .ok (.aload_n 0, 1) := by decide +kernel
theorem dX9_name_8 : decode cX9_name 8 = .ok (.getfield 21, 3) := by decide +kernel
theorem dX9_name_11 : decode cX9_name 11 = .ok (.iload_n 1, 1) := by decide +kernel
theorem dX9_name_12 : decode cX9_name 12 = .ok (.invokevirtual 109, 3) := by decide +kernel
theorem dX9_name_15 : decode cX9_name 15 = .ok (.goto 4, 3) := by decide +kernel
theorem dX9_name_18 : decode cX9_name 18 = .ok (.iconst (-1), 1) := by decide +kernel
theorem dX9_name_19 : decode cX9_name 19 = .ok (.ireturn, 1) := by decide +kernel
theorem dX9_function_0 : decode cX9_function 0 = .ok (.iload_n 1, 1) := by decide +kernel
theorem dX9_function_1 : decode cX9_function 1 = .ok (.invokestatic 99, 3) := by decide +kernel
theorem dX9_function_4 : decode cX9_function 4 = .ok (.ifCond .eq 25, 3) := by decide +kernel
theorem dX9_function_7 : decode cX9_function 7 = .ok (.aload_n 0, 1) := by decide +kernel
theorem dX9_function_8 : decode cX9_function 8 = .ok (.getfield 10, 3) := by decide +kernel
theorem dX9_function_11 : decode cX9_function 11 = .ok (.iload_n 2, 1) := by decide +kernel
theorem dX9_function_12 : decode cX9_function 12 = .ok (.invokevirtual 84, 3) := by decide +kernel
theorem dX9_function_15 : decode cX9_function 15 = .ok (.ifCond .eq 14, 3) := by decide +kernel
theorem dX9_function_18 : decode cX9_function 18 = .ok (.aload_n 0, 1) := by decide +kernel
theorem dX9_function_19 : decode cX9_function 19 = .ok (.getfield 21, 3) := by decide +kernel
theorem dX9_function_22 : decode cX9_function 22 = .ok (.iload_n 3, 1) := by decide +kernel
theorem dX9_function_23 : decode cX9_function 23 = .ok (.invokevirtual 112, 3) := by decide +kernel
theorem dX9_function_26 : decode cX9_function 26 = .ok (.ifCond .ne 5, 3) := by decide +kernel
theorem dX9_function_29 : decode cX9_function 29 = .ok (.iconst (-1), 1) := by decide +kernel
theorem dX9_function_30 : decode cX9_function 30 = .ok (.ireturn, 1) := by decide +kernel
theorem dX9_function_31 : decode cX9_function 31 = .ok (.aload_n 0, 1) := by decide +kernel
theorem dX9_function_32 : decode cX9_function 32 = .ok (.getfield 21, 3) := by decide +kernel
theorem dX9_function_35 : decode cX9_function 35 = .ok (.iload_n 1, 1) := by decide +kernel
theorem dX9_function_36 : decode cX9_function 36 = .ok (.iload_n 2, 1) := by decide +kernel
theorem dX9_function_37 : decode cX9_function 37 = .ok (.iload_n 3, 1) := by decide +kernel
theorem dX9_function_38 : decode cX9_function 38 = .ok (.invokevirtual 113, 3) := by decide +kernel
theorem dX9_function_41 : decode cX9_function 41 = .ok (.ireturn, 1) := by decide +kernel
theorem dX9_let_0 : decode cX9_let 0 = .ok (.iload_n 1, 1) := by decide +kernel
theorem dX9_let_1 : decode cX9_let 1 = .ok (.invokestatic 99, 3) := by decide +kernel
theorem dX9_let_4 : decode cX9_let 4 = .ok (.ifCond .eq 25, 3) := by decide +kernel
theorem dX9_let_7 : decode cX9_let 7 = .ok (.aload_n 0, 1) := by decide +kernel
theorem dX9_let_8 : decode cX9_let 8 = .ok (.getfield 21, 3) := by decide +kernel
theorem dX9_let_11 : decode cX9_let 11 = .ok (.iload_n 2, 1) := by decide +kernel
theorem dX9_let_12 : decode cX9_let 12 = .ok (.invokevirtual 112, 3) := by decide +kernel
theorem dX9_let_15 : decode cX9_let 15 = .ok (.ifCond .eq 14, 3) := by decide +kernel
theorem dX9_let_18 : decode cX9_let 18 = .ok (.aload_n 0, 1) := by decide +kernel
theorem dX9_let_19 : decode cX9_let 19 = .ok (.getfield 21, 3) := by decide +kernel
theorem dX9_let_22 : decode cX9_let 22 = .ok (.iload_n 3, 1) := by decide +kernel
theorem dX9_let_23 : decode cX9_let 23 = .ok (.invokevirtual 112, 3) := by decide +kernel
theorem dX9_let_26 : decode cX9_let 26 = .ok (.ifCond .ne 5, 3) := by decide +kernel
theorem dX9_let_29 : decode cX9_let 29 = .ok (.iconst (-1), 1) := by decide +kernel
theorem dX9_let_30 : decode cX9_let 30 = .ok (.ireturn, 1) := by decide +kernel
theorem dX9_let_31 : decode cX9_let 31 = .ok (.aload_n 0, 1) := by decide +kernel
theorem dX9_let_32 : decode cX9_let 32 = .ok (.getfield 21, 3) := by decide +kernel
theorem dX9_let_35 : decode cX9_let 35 = .ok (.iload_n 1, 1) := by decide +kernel
theorem dX9_let_36 : decode cX9_let 36 = .ok (.iload_n 2, 1) := by decide +kernel
theorem dX9_let_37 : decode cX9_let 37 = .ok (.iload_n 3, 1) := by decide +kernel
theorem dX9_let_38 : decode cX9_let 38 = .ok (.invokevirtual 117, 3) := by decide +kernel
theorem dX9_let_41 : decode cX9_let 41 = .ok (.ireturn, 1) := by decide +kernel
theorem dX9_join_0 : decode cX9_join 0 = .ok (.iload_n 1, 1) := by decide +kernel
theorem dX9_join_1 : decode cX9_join 1 = .ok (.iconst 3, 1) := by decide +kernel
theorem dX9_join_2 : decode cX9_join 2 = .ok (.if_icmp .eq 14, 3) := by decide +kernel
theorem dX9_join_5 : decode cX9_join 5 = .ok (.iload_n 1, 1) := by decide +kernel
theorem dX9_join_6 : decode cX9_join 6 = .ok (.iconst 5, 1) := by decide +kernel
theorem dX9_join_7 : decode cX9_join 7 = .ok (.if_icmp .eq 9, 3) := by decide +kernel
theorem dX9_join_10 : decode cX9_join 10 = .ok (.iload_n 1, 1) := by decide +kernel
theorem dX9_join_11 : decode cX9_join 11 = .ok (.bipush 6, 2) := by decide +kernel
theorem dX9_join_13 : decode cX9_join 13 = .ok (.if_icmp .ne 25, 3) := by decide +kernel
theorem dX9_join_16 : decode cX9_join 16 = .ok (.aload_n 0, 1) := by decide +kernel
theorem dX9_join_17 : decode cX9_join 17 = .ok (.getfield 21, 3) := by decide +kernel
theorem dX9_join_20 : decode cX9_join 20 = .ok (.iload_n 2, 1) := by decide +kernel
theorem dX9_join_21 : decode cX9_join 21 = .ok (.invokevirtual 112, 3) := by decide +kernel
theorem dX9_join_24 : decode cX9_join 24 = .ok (.ifCond .eq 14, 3) := by decide +kernel
theorem dX9_join_27 : decode cX9_join 27 = .ok (.aload_n 0, 1) := by decide +kernel
theorem dX9_join_28 : decode cX9_join 28 = .ok (.getfield 21, 3) := by decide +kernel
theorem dX9_join_31 : decode cX9_join 31 = .ok (.iload_n 3, 1) := by decide +kernel
theorem dX9_join_32 : decode cX9_join 32 = .ok (.invokevirtual 112, 3) := by decide +kernel
theorem dX9_join_35 : decode cX9_join 35 = .ok (.ifCond .ne 5, 3) := by decide +kernel
theorem dX9_join_38 : decode cX9_join 38 = .ok (.iconst (-1), 1) := by decide +kernel
theorem dX9_join_39 : decode cX9_join 39 = .ok (.ireturn, 1) := by decide +kernel
theorem dX9_join_40 : decode cX9_join 40 = .ok (.iload_n 1, 1) := by decide +kernel
theorem dX9_join_41 : decode cX9_join 41 = .ok (.bipush 6, 2) := by decide +kernel
theorem dX9_join_43 : decode cX9_join 43 = .ok (.if_icmp .eq 16, 3) := by decide +kernel
theorem dX9_join_46 : decode cX9_join 46 = .ok (.aload_n 0, 1) := by decide +kernel
theorem dX9_join_47 : decode cX9_join 47 = .ok (.getfield 21, 3) := by decide +kernel
theorem dX9_join_50 : decode cX9_join 50 = .ok (.iload_n 1, 1) := by decide +kernel
theorem dX9_join_51 : decode cX9_join 51 = .ok (.iload_n 2, 1) := by decide +kernel
theorem dX9_join_52 : decode cX9_join 52 = .ok (.iload_n 3, 1) := by decide +kernel
theorem dX9_join_53 : decode cX9_join 53 = .ok (.bipush (-2), 2) := by decide +kernel
theorem dX9_join_55 : decode cX9_join 55 = .ok (.invokevirtual 120, 3) := by decide +kernel
theorem dX9_join_58 : decode cX9_join 58 = .ok (.ireturn, 1) := by decide +kernel
theorem dX9_join_59 : decode cX9_join 59 = .ok (.aload_n 0, 1) := by decide +kernel
theorem dX9_join_60 : decode cX9_join 60 = .ok (.getfield 21, 3) := by decide +kernel
theorem dX9_join_63 : decode cX9_join 63 = .ok (.iload 4, 2) := by decide +kernel
theorem dX9_join_65 : decode cX9_join 65 = .ok (.invokevirtual 112, 3) := by decide +kernel
theorem dX9_join_68 : decode cX9_join 68 = .ok (.ifCond .eq 18, 3) := by decide +kernel
theorem dX9_join_71 : decode cX9_join 71 = .ok (.aload_n 0, 1) := by decide +kernel
theorem dX9_join_72 : decode cX9_join 72 = .ok (.getfield 21, 3) := by decide +kernel
theorem dX9_join_75 : decode cX9_join 75 = .ok (.iload_n 1, 1) := by decide +kernel
theorem dX9_join_76 : decode cX9_join 76 = .ok (.iload_n 2, 1) := by decide +kernel
theorem dX9_join_77 : decode cX9_join 77 = .ok (.iload_n 3, 1) := by decide +kernel
theorem dX9_join_78 : decode cX9_join 78 = .ok (.iload 4, 2) := by decide +kernel
theorem dX9_join_80 : decode cX9_join 80 = .ok (.invokevirtual 120, 3) := by decide +kernel
theorem dX9_join_83 : decode cX9_join 83 = .ok (.goto 4, 3) := by decide +kernel
theorem dX9_join_86 : decode cX9_join 86 = .ok (.iconst (-1), 1) := by decide +kernel
theorem dX9_join_87 : decode cX9_join 87 = .ok (.ireturn, 1) := by decide +kernel
theorem dX9_told_0 : decode cX9_told 0 = .ok (.aload_n 0, 1) := by decide +kernel
theorem dX9_told_1 : decode cX9_told 1 = .ok (.getfield 21, 3) := by decide +kernel
theorem dX9_told_4 : decode cX9_told 4 = .ok (.iload_n 1, 1) := by decide +kernel
theorem dX9_told_5 : decode cX9_told 5 = .ok (.invokevirtual 112, 3) := by decide +kernel
theorem dX9_told_8 : decode cX9_told 8 = .ok (.ifCond .ne 7, 3) := by decide +kernel
theorem dX9_told_11 : decode cX9_told 11 = .ok (.ldc2_w 124, 3) := by decide +kernel
theorem dX9_told_14 : decode cX9_told 14 = .ok (.lreturn, 1) := by decide +kernel
theorem dX9_told_15 : decode cX9_told 15 = .ok (.iload_n 2, 1) := by decide +kernel
theorem dX9_told_16 : decode cX9_told 16 = .ok (.tableswitch 142 0 8 #[52, 62, 72, 82, 92, 102, 112, 122, 132], 52) := by decide +kernel
theorem dX9_told_68 : decode cX9_told 68 = .ok (.aload_n 0, 1) := by decide +kernel
theorem dX9_told_69 : decode cX9_told 69 = .ok (.getfield 21, 3) := by decide +kernel
theorem dX9_told_72 : decode cX9_told 72 = .ok (.iload_n 1, 1) := by decide +kernel
theorem dX9_told_73 : decode cX9_told 73 = .ok (.invokevirtual 126, 3) := by decide +kernel
theorem dX9_told_76 : decode cX9_told 76 = .ok (.i2l, 1) := by decide +kernel
theorem dX9_told_77 : decode cX9_told 77 = .ok (.lreturn, 1) := by decide +kernel
theorem dX9_told_78 : decode cX9_told 78 = .ok (.aload_n 0, 1) := by decide +kernel
theorem dX9_told_79 : decode cX9_told 79 = .ok (.getfield 21, 3) := by decide +kernel
theorem dX9_told_82 : decode cX9_told 82 = .ok (.iload_n 1, 1) := by decide +kernel
theorem dX9_told_83 : decode cX9_told 83 = .ok (.invokevirtual 129, 3) := by decide +kernel
theorem dX9_told_86 : decode cX9_told 86 = .ok (.i2l, 1) := by decide +kernel
theorem dX9_told_87 : decode cX9_told 87 = .ok (.lreturn, 1) := by decide +kernel
theorem dX9_told_88 : decode cX9_told 88 = .ok (.aload_n 0, 1) := by decide +kernel
theorem dX9_told_89 : decode cX9_told 89 = .ok (.getfield 21, 3) := by decide +kernel
theorem dX9_told_92 : decode cX9_told 92 = .ok (.iload_n 1, 1) := by decide +kernel
theorem dX9_told_93 : decode cX9_told 93 = .ok (.invokevirtual 132, 3) := by decide +kernel
theorem dX9_told_96 : decode cX9_told 96 = .ok (.i2l, 1) := by decide +kernel
theorem dX9_told_97 : decode cX9_told 97 = .ok (.lreturn, 1) := by decide +kernel
theorem dX9_told_98 : decode cX9_told 98 = .ok (.aload_n 0, 1) := by decide +kernel
theorem dX9_told_99 : decode cX9_told 99 = .ok (.getfield 21, 3) := by decide +kernel
theorem dX9_told_102 : decode cX9_told 102 = .ok (.iload_n 1, 1) := by decide +kernel
theorem dX9_told_103 : decode cX9_told 103 = .ok (.invokevirtual 135, 3) := by decide +kernel
theorem dX9_told_106 : decode cX9_told 106 = .ok (.i2l, 1) := by decide +kernel
theorem dX9_told_107 : decode cX9_told 107 = .ok (.lreturn, 1) := by decide +kernel
theorem dX9_told_108 : decode cX9_told 108 = .ok (.aload_n 0, 1) := by decide +kernel
theorem dX9_told_109 : decode cX9_told 109 = .ok (.getfield 21, 3) := by decide +kernel
theorem dX9_told_112 : decode cX9_told 112 = .ok (.iload_n 1, 1) := by decide +kernel
theorem dX9_told_113 : decode cX9_told 113 = .ok (.invokevirtual 138, 3) := by decide +kernel
theorem dX9_told_116 : decode cX9_told 116 = .ok (.i2l, 1) := by decide +kernel
theorem dX9_told_117 : decode cX9_told 117 = .ok (.lreturn, 1) := by decide +kernel
theorem dX9_told_118 : decode cX9_told 118 = .ok (.aload_n 0, 1) := by decide +kernel
theorem dX9_told_119 : decode cX9_told 119 = .ok (.getfield 21, 3) := by decide +kernel
theorem dX9_told_122 : decode cX9_told 122 = .ok (.iload_n 1, 1) := by decide +kernel
theorem dX9_told_123 : decode cX9_told 123 = .ok (.invokevirtual 141, 3) := by decide +kernel
theorem dX9_told_126 : decode cX9_told 126 = .ok (.i2l, 1) := by decide +kernel
theorem dX9_told_127 : decode cX9_told 127 = .ok (.lreturn, 1) := by decide +kernel
theorem dX9_told_128 : decode cX9_told 128 = .ok (.aload_n 0, 1) := by decide +kernel
theorem dX9_told_129 : decode cX9_told 129 = .ok (.getfield 21, 3) := by decide +kernel
theorem dX9_told_132 : decode cX9_told 132 = .ok (.iload_n 1, 1) := by decide +kernel
theorem dX9_told_133 : decode cX9_told 133 = .ok (.invokevirtual 144, 3) := by decide +kernel
theorem dX9_told_136 : decode cX9_told 136 = .ok (.i2l, 1) := by decide +kernel
theorem dX9_told_137 : decode cX9_told 137 = .ok (.lreturn, 1) := by decide +kernel
theorem dX9_told_138 : decode cX9_told 138 = .ok (.aload_n 0, 1) := by decide +kernel
theorem dX9_told_139 : decode cX9_told 139 = .ok (.getfield 21, 3) := by decide +kernel
theorem dX9_told_142 : decode cX9_told 142 = .ok (.iload_n 1, 1) := by decide +kernel
theorem dX9_told_143 : decode cX9_told 143 = .ok (.invokevirtual 147, 3) := by decide +kernel
theorem dX9_told_146 : decode cX9_told 146 = .ok (.i2l, 1) := by decide +kernel
theorem dX9_told_147 : decode cX9_told 147 = .ok (.lreturn, 1) := by decide +kernel
theorem dX9_told_148 : decode cX9_told 148 = .ok (.aload_n 0, 1) := by decide +kernel
theorem dX9_told_149 : decode cX9_told 149 = .ok (.getfield 21, 3) := by decide +kernel
theorem dX9_told_152 : decode cX9_told 152 = .ok (.iload_n 1, 1) := by decide +kernel
theorem dX9_told_153 : decode cX9_told 153 = .ok (.invokevirtual 150, 3) := by decide +kernel
theorem dX9_told_156 : decode cX9_told 156 = .ok (.i2l, 1) := by decide +kernel
theorem dX9_told_157 : decode cX9_told 157 = .ok (.lreturn, 1) := by decide +kernel
theorem dX9_told_158 : decode cX9_told 158 = .ok (.ldc2_w 124, 3) := by decide +kernel
theorem dX9_told_161 : decode cX9_told 161 = .ok (.lreturn, 1) := by decide +kernel
theorem dX9_free_0 : decode cX9_free 0 = .ok (.aload_n 0, 1) := by decide +kernel
theorem dX9_free_1 : decode cX9_free 1 = .ok (.getfield 21, 3) := by decide +kernel
theorem dX9_free_4 : decode cX9_free 4 = .ok (.iload_n 1, 1) := by decide +kernel
theorem dX9_free_5 : decode cX9_free 5 = .ok (.invokevirtual 112, 3) := by decide +kernel
theorem dX9_free_8 : decode cX9_free 8 = .ok (.ifCond .eq 14, 3) := by decide +kernel
theorem dX9_free_11 : decode cX9_free 11 = .ok (.aload_n 0, 1) := by decide +kernel
theorem dX9_free_12 : decode cX9_free 12 = .ok (.getfield 21, 3) := by decide +kernel
theorem dX9_free_15 : decode cX9_free 15 = .ok (.iload_n 1, 1) := by decide +kernel
theorem dX9_free_16 : decode cX9_free 16 = .ok (.invokevirtual 153, 3) := by decide +kernel
theorem dX9_free_19 : decode cX9_free 19 = .ok (.goto 4, 3) := by decide +kernel
theorem dX9_free_22 : decode cX9_free 22 = .ok (.iconst (-1), 1) := by decide +kernel
theorem dX9_free_23 : decode cX9_free 23 = .ok (.ireturn, 1) := by decide +kernel
theorem dX9_uses_0 : decode cX9_uses 0 = .ok (.aload_n 0, 1) := by decide +kernel
theorem dX9_uses_1 : decode cX9_uses 1 = .ok (.getfield 21, 3) := by decide +kernel
theorem dX9_uses_4 : decode cX9_uses 4 = .ok (.iload_n 1, 1) := by decide +kernel
theorem dX9_uses_5 : decode cX9_uses 5 = .ok (.invokevirtual 112, 3) := by decide +kernel
theorem dX9_uses_8 : decode cX9_uses 8 = .ok (.ifCond .eq 22, 3) := by decide +kernel
theorem dX9_uses_11 : decode cX9_uses 11 = .ok (.iload_n 2, 1) := by decide +kernel
theorem dX9_uses_12 : decode cX9_uses 12 = .ok (.invokestatic 99, 3) := by decide +kernel
theorem dX9_uses_15 : decode cX9_uses 15 = .ok (.ifCond .eq 15, 3) := by decide +kernel
theorem dX9_uses_18 : decode cX9_uses 18 = .ok (.aload_n 0, 1) := by decide +kernel
theorem dX9_uses_19 : decode cX9_uses 19 = .ok (.getfield 21, 3) := by decide +kernel
theorem dX9_uses_22 : decode cX9_uses 22 = .ok (.iload_n 1, 1) := by decide +kernel
theorem dX9_uses_23 : decode cX9_uses 23 = .ok (.iload_n 2, 1) := by decide +kernel
theorem dX9_uses_24 : decode cX9_uses 24 = .ok (.invokevirtual 156, 3) := by decide +kernel
theorem dX9_uses_27 : decode cX9_uses 27 = .ok (.goto 4, 3) := by decide +kernel
theorem dX9_uses_30 : decode cX9_uses 30 = .ok (.iconst (-1), 1) := by decide +kernel
theorem dX9_uses_31 : decode cX9_uses 31 = .ok (.ireturn, 1) := by decide +kernel
theorem dX9_type_0 : decode cX9_type 0 = .ok (.aload_n 0, 1) := by decide +kernel
theorem dX9_type_1 : decode cX9_type 1 = .ok (.getfield 21, 3) := by decide +kernel
theorem dX9_type_4 : decode cX9_type 4 = .ok (.iload_n 1, 1) := by decide +kernel
theorem dX9_type_5 : decode cX9_type 5 = .ok (.invokevirtual 112, 3) := by decide +kernel
theorem dX9_type_8 : decode cX9_type 8 = .ok (.ifCond .eq 14, 3) := by decide +kernel
theorem dX9_type_11 : decode cX9_type 11 = .ok (.aload_n 0, 1) := by decide +kernel
theorem dX9_type_12 : decode cX9_type 12 = .ok (.getfield 30, 3) := by decide +kernel
theorem dX9_type_15 : decode cX9_type 15 = .ok (.iload_n 1, 1) := by decide +kernel
theorem dX9_type_16 : decode cX9_type 16 = .ok (.invokevirtual 159, 3) := by decide +kernel
theorem dX9_type_19 : decode cX9_type 19 = .ok (.goto 4, 3) := by decide +kernel
theorem dX9_type_22 : decode cX9_type 22 = .ok (.iconst (-1), 1) := by decide +kernel
theorem dX9_type_23 : decode cX9_type 23 = .ok (.ireturn, 1) := by decide +kernel
theorem dX9_fault_0 : decode cX9_fault 0 = .ok (.iload_n 1, 1) := by decide +kernel
theorem dX9_fault_1 : decode cX9_fault 1 = .ok (.lookupswitch 43 #[(0, 27), (1, 35)], 27) := by decide +kernel
theorem dX9_fault_28 : decode cX9_fault 28 = .ok (.aload_n 0, 1) := by decide +kernel
theorem dX9_fault_29 : decode cX9_fault 29 = .ok (.getfield 30, 3) := by decide +kernel
theorem dX9_fault_32 : decode cX9_fault 32 = .ok (.invokevirtual 162, 3) := by decide +kernel
theorem dX9_fault_35 : decode cX9_fault 35 = .ok (.ireturn, 1) := by decide +kernel
theorem dX9_fault_36 : decode cX9_fault 36 = .ok (.aload_n 0, 1) := by decide +kernel
theorem dX9_fault_37 : decode cX9_fault 37 = .ok (.getfield 30, 3) := by decide +kernel
theorem dX9_fault_40 : decode cX9_fault 40 = .ok (.invokevirtual 166, 3) := by decide +kernel
theorem dX9_fault_43 : decode cX9_fault 43 = .ok (.ireturn, 1) := by decide +kernel
theorem dX9_fault_44 : decode cX9_fault 44 = .ok (.iconst (-1), 1) := by decide +kernel
theorem dX9_fault_45 : decode cX9_fault 45 = .ok (.ireturn, 1) := by decide +kernel
theorem dX9_alike_0 : decode cX9_alike 0 = .ok (.aload_n 0, 1) := by decide +kernel
theorem dX9_alike_1 : decode cX9_alike 1 = .ok (.getfield 21, 3) := by decide +kernel
theorem dX9_alike_4 : decode cX9_alike 4 = .ok (.iload_n 1, 1) := by decide +kernel
theorem dX9_alike_5 : decode cX9_alike 5 = .ok (.invokevirtual 112, 3) := by decide +kernel
theorem dX9_alike_8 : decode cX9_alike 8 = .ok (.ifCond .eq 14, 3) := by decide +kernel
theorem dX9_alike_11 : decode cX9_alike 11 = .ok (.aload_n 0, 1) := by decide +kernel
theorem dX9_alike_12 : decode cX9_alike 12 = .ok (.getfield 21, 3) := by decide +kernel
theorem dX9_alike_15 : decode cX9_alike 15 = .ok (.iload_n 2, 1) := by decide +kernel
theorem dX9_alike_16 : decode cX9_alike 16 = .ok (.invokevirtual 112, 3) := by decide +kernel
theorem dX9_alike_19 : decode cX9_alike 19 = .ok (.ifCond .ne 5, 3) := by decide +kernel
theorem dX9_alike_22 : decode cX9_alike 22 = .ok (.iconst (-1), 1) := by decide +kernel
theorem dX9_alike_23 : decode cX9_alike 23 = .ok (.ireturn, 1) := by decide +kernel
theorem dX9_alike_24 : decode cX9_alike 24 = .ok (.aload_n 0, 1) := by decide +kernel
theorem dX9_alike_25 : decode cX9_alike 25 = .ok (.getfield 39, 3) := by decide +kernel
theorem dX9_alike_28 : decode cX9_alike 28 = .ok (.iload_n 1, 1) := by decide +kernel
theorem dX9_alike_29 : decode cX9_alike 29 = .ok (.iload_n 2, 1) := by decide +kernel
theorem dX9_alike_30 : decode cX9_alike 30 = .ok (.invokevirtual 169, 3) := by decide +kernel
theorem dX9_alike_33 : decode cX9_alike 33 = .ok (.ifCond .eq 7, 3) := by decide +kernel
theorem dX9_alike_36 : decode cX9_alike 36 = .ok (.iconst 1, 1) := by decide +kernel
theorem dX9_alike_37 : decode cX9_alike 37 = .ok (.goto 4, 3) := by decide +kernel
theorem dX9_alike_40 : decode cX9_alike 40 = .ok (.iconst 0, 1) := by decide +kernel
theorem dX9_alike_41 : decode cX9_alike 41 = .ok (.ireturn, 1) := by decide +kernel
theorem dX9_least_0 : decode cX9_least 0 = .ok (.aload_n 0, 1) := by decide +kernel
theorem dX9_least_1 : decode cX9_least 1 = .ok (.getfield 21, 3) := by decide +kernel
theorem dX9_least_4 : decode cX9_least 4 = .ok (.iload_n 1, 1) := by decide +kernel
theorem dX9_least_5 : decode cX9_least 5 = .ok (.invokevirtual 112, 3) := by decide +kernel
theorem dX9_least_8 : decode cX9_least 8 = .ok (.ifCond .ne 5, 3) := by decide +kernel
theorem dX9_least_11 : decode cX9_least 11 = .ok (.iconst (-1), 1) := by decide +kernel
theorem dX9_least_12 : decode cX9_least 12 = .ok (.ireturn, 1) := by decide +kernel
theorem dX9_least_13 : decode cX9_least 13 = .ok (.iconst 0, 1) := by decide +kernel
theorem dX9_least_14 : decode cX9_least 14 = .ok (.istore_n 2, 1) := by decide +kernel
theorem dX9_least_15 : decode cX9_least 15 = .ok (.iload_n 2, 1) := by decide +kernel
theorem dX9_least_16 : decode cX9_least 16 = .ok (.iload_n 1, 1) := by decide +kernel
theorem dX9_least_17 : decode cX9_least 17 = .ok (.if_icmp .ge 23, 3) := by decide +kernel
theorem dX9_least_20 : decode cX9_least 20 = .ok (.aload_n 0, 1) := by decide +kernel
theorem dX9_least_21 : decode cX9_least 21 = .ok (.getfield 39, 3) := by decide +kernel
theorem dX9_least_24 : decode cX9_least 24 = .ok (.iload_n 1, 1) := by decide +kernel
theorem dX9_least_25 : decode cX9_least 25 = .ok (.iload_n 2, 1) := by decide +kernel
theorem dX9_least_26 : decode cX9_least 26 = .ok (.invokevirtual 169, 3) := by decide +kernel
theorem dX9_least_29 : decode cX9_least 29 = .ok (.ifCond .eq 5, 3) := by decide +kernel
theorem dX9_least_32 : decode cX9_least 32 = .ok (.iload_n 2, 1) := by decide +kernel
theorem dX9_least_33 : decode cX9_least 33 = .ok (.ireturn, 1) := by decide +kernel
theorem dX9_least_34 : decode cX9_least 34 = .ok (.iinc 2 1, 3) := by decide +kernel
theorem dX9_least_37 : decode cX9_least 37 = .ok (.goto (-22), 3) := by decide +kernel
theorem dX9_least_40 : decode cX9_least 40 = .ok (.iload_n 1, 1) := by decide +kernel
theorem dX9_least_41 : decode cX9_least 41 = .ok (.ireturn, 1) := by decide +kernel
theorem dX9_put_0 : decode cX9_put 0 = .ok (.aload_n 0, 1) := by decide +kernel
theorem dX9_put_1 : decode cX9_put 1 = .ok (.getfield 21, 3) := by decide +kernel
theorem dX9_put_4 : decode cX9_put 4 = .ok (.iload_n 1, 1) := by decide +kernel
theorem dX9_put_5 : decode cX9_put 5 = .ok (.invokevirtual 112, 3) := by decide +kernel
theorem dX9_put_8 : decode cX9_put 8 = .ok (.ifCond .eq 21, 3) := by decide +kernel
theorem dX9_put_11 : decode cX9_put 11 = .ok (.iload_n 2, 1) := by decide +kernel
theorem dX9_put_12 : decode cX9_put 12 = .ok (.invokestatic 99, 3) := by decide +kernel
theorem dX9_put_15 : decode cX9_put 15 = .ok (.ifCond .eq 14, 3) := by decide +kernel
theorem dX9_put_18 : decode cX9_put 18 = .ok (.aload_n 0, 1) := by decide +kernel
theorem dX9_put_19 : decode cX9_put 19 = .ok (.getfield 21, 3) := by decide +kernel
theorem dX9_put_22 : decode cX9_put 22 = .ok (.iload_n 3, 1) := by decide +kernel
theorem dX9_put_23 : decode cX9_put 23 = .ok (.invokevirtual 112, 3) := by decide +kernel
theorem dX9_put_26 : decode cX9_put 26 = .ok (.ifCond .ne 5, 3) := by decide +kernel
theorem dX9_put_29 : decode cX9_put 29 = .ok (.iconst (-1), 1) := by decide +kernel
theorem dX9_put_30 : decode cX9_put 30 = .ok (.ireturn, 1) := by decide +kernel
theorem dX9_put_31 : decode cX9_put 31 = .ok (.aload_n 0, 1) := by decide +kernel
theorem dX9_put_32 : decode cX9_put 32 = .ok (.getfield 21, 3) := by decide +kernel
theorem dX9_put_35 : decode cX9_put 35 = .ok (.invokevirtual 173, 3) := by decide +kernel
theorem dX9_put_38 : decode cX9_put 38 = .ok (.istore 4, 2) := by decide +kernel
theorem dX9_put_40 : decode cX9_put 40 = .ok (.aload_n 0, 1) := by decide +kernel
theorem dX9_put_41 : decode cX9_put 41 = .ok (.aload_n 0, 1) := by decide +kernel
theorem dX9_put_42 : decode cX9_put 42 = .ok (.getfield 46, 3) := by decide +kernel
theorem dX9_put_45 : decode cX9_put 45 = .ok (.iload_n 1, 1) := by decide +kernel
theorem dX9_put_46 : decode cX9_put 46 = .ok (.iload_n 2, 1) := by decide +kernel
theorem dX9_put_47 : decode cX9_put 47 = .ok (.iload_n 3, 1) := by decide +kernel
theorem dX9_put_48 : decode cX9_put 48 = .ok (.invokevirtual 176, 3) := by decide +kernel
theorem dX9_put_51 : decode cX9_put 51 = .ok (.iload 4, 2) := by decide +kernel
theorem dX9_put_53 : decode cX9_put 53 = .ok (.invokevirtual 179, 3) := by decide +kernel
theorem dX9_put_56 : decode cX9_put 56 = .ok (.ireturn, 1) := by decide +kernel
theorem dX9_step_0 : decode cX9_step 0 = .ok (.aload_n 0, 1) := by decide +kernel
theorem dX9_step_1 : decode cX9_step 1 = .ok (.getfield 21, 3) := by decide +kernel
theorem dX9_step_4 : decode cX9_step 4 = .ok (.iload_n 1, 1) := by decide +kernel
theorem dX9_step_5 : decode cX9_step 5 = .ok (.invokevirtual 112, 3) := by decide +kernel
theorem dX9_step_8 : decode cX9_step 8 = .ok (.ifCond .ne 5, 3) := by decide +kernel
theorem dX9_step_11 : decode cX9_step 11 = .ok (.iconst (-1), 1) := by decide +kernel
theorem dX9_step_12 : decode cX9_step 12 = .ok (.ireturn, 1) := by decide +kernel
theorem dX9_step_13 : decode cX9_step 13 = .ok (.aload_n 0, 1) := by decide +kernel
theorem dX9_step_14 : decode cX9_step 14 = .ok (.getfield 21, 3) := by decide +kernel
theorem dX9_step_17 : decode cX9_step 17 = .ok (.invokevirtual 173, 3) := by decide +kernel
theorem dX9_step_20 : decode cX9_step 20 = .ok (.istore_n 2, 1) := by decide +kernel
theorem dX9_step_21 : decode cX9_step 21 = .ok (.aload_n 0, 1) := by decide +kernel
theorem dX9_step_22 : decode cX9_step 22 = .ok (.aload_n 0, 1) := by decide +kernel
theorem dX9_step_23 : decode cX9_step 23 = .ok (.getfield 55, 3) := by decide +kernel
theorem dX9_step_26 : decode cX9_step 26 = .ok (.iload_n 1, 1) := by decide +kernel
theorem dX9_step_27 : decode cX9_step 27 = .ok (.invokevirtual 182, 3) := by decide +kernel
theorem dX9_step_30 : decode cX9_step 30 = .ok (.iload_n 2, 1) := by decide +kernel
theorem dX9_step_31 : decode cX9_step 31 = .ok (.invokevirtual 179, 3) := by decide +kernel
theorem dX9_step_34 : decode cX9_step 34 = .ok (.ireturn, 1) := by decide +kernel
theorem dX9_run_0 : decode cX9_run 0 = .ok (.aload_n 0, 1) := by decide +kernel
theorem dX9_run_1 : decode cX9_run 1 = .ok (.getfield 21, 3) := by decide +kernel
theorem dX9_run_4 : decode cX9_run 4 = .ok (.iload_n 1, 1) := by decide +kernel
theorem dX9_run_5 : decode cX9_run 5 = .ok (.invokevirtual 112, 3) := by decide +kernel
theorem dX9_run_8 : decode cX9_run 8 = .ok (.ifCond .eq 13, 3) := by decide +kernel
theorem dX9_run_11 : decode cX9_run 11 = .ok (.iload_n 2, 1) := by decide +kernel
theorem dX9_run_12 : decode cX9_run 12 = .ok (.ifCond .lt 9, 3) := by decide +kernel
theorem dX9_run_15 : decode cX9_run 15 = .ok (.iload_n 2, 1) := by decide +kernel
theorem dX9_run_16 : decode cX9_run 16 = .ok (.bipush 50, 2) := by decide +kernel
theorem dX9_run_18 : decode cX9_run 18 = .ok (.if_icmp .le 5, 3) := by decide +kernel
theorem dX9_run_21 : decode cX9_run 21 = .ok (.iconst (-1), 1) := by decide +kernel
theorem dX9_run_22 : decode cX9_run 22 = .ok (.ireturn, 1) := by decide +kernel
theorem dX9_run_23 : decode cX9_run 23 = .ok (.aload_n 0, 1) := by decide +kernel
theorem dX9_run_24 : decode cX9_run 24 = .ok (.getfield 21, 3) := by decide +kernel
theorem dX9_run_27 : decode cX9_run 27 = .ok (.invokevirtual 173, 3) := by decide +kernel
theorem dX9_run_30 : decode cX9_run 30 = .ok (.istore_n 3, 1) := by decide +kernel
theorem dX9_run_31 : decode cX9_run 31 = .ok (.iload_n 1, 1) := by decide +kernel
theorem dX9_run_32 : decode cX9_run 32 = .ok (.istore 4, 2) := by decide +kernel
theorem dX9_run_34 : decode cX9_run 34 = .ok (.iconst 0, 1) := by decide +kernel
theorem dX9_run_35 : decode cX9_run 35 = .ok (.istore 5, 2) := by decide +kernel
theorem dX9_run_37 : decode cX9_run 37 = .ok (.iconst 0, 1) := by decide +kernel
theorem dX9_run_38 : decode cX9_run 38 = .ok (.istore 6, 2) := by decide +kernel
theorem dX9_run_40 : decode cX9_run 40 = .ok (.iload 6, 2) := by decide +kernel
theorem dX9_run_42 : decode cX9_run 42 = .ok (.iload_n 2, 1) := by decide +kernel
theorem dX9_run_43 : decode cX9_run 43 = .ok (.if_icmp .ge 50, 3) := by decide +kernel
theorem dX9_run_46 : decode cX9_run 46 = .ok (.aload_n 0, 1) := by decide +kernel
theorem dX9_run_47 : decode cX9_run 47 = .ok (.getfield 55, 3) := by decide +kernel
theorem dX9_run_50 : decode cX9_run 50 = .ok (.iload 4, 2) := by decide +kernel
theorem dX9_run_52 : decode cX9_run 52 = .ok (.invokevirtual 182, 3) := by decide +kernel
theorem dX9_run_55 : decode cX9_run 55 = .ok (.istore 7, 2) := by decide +kernel
theorem dX9_run_57 : decode cX9_run 57 = .ok (.iload 7, 2) := by decide +kernel
theorem dX9_run_59 : decode cX9_run 59 = .ok (.bipush (-3), 2) := by decide +kernel
theorem dX9_run_61 : decode cX9_run 61 = .ok (.if_icmp .ne 11, 3) := by decide +kernel
theorem dX9_run_64 : decode cX9_run 64 = .ok (.aload_n 0, 1) := by decide +kernel
theorem dX9_run_65 : decode cX9_run 65 = .ok (.bipush (-3), 2) := by decide +kernel
theorem dX9_run_67 : decode cX9_run 67 = .ok (.iload_n 3, 1) := by decide +kernel
theorem dX9_run_68 : decode cX9_run 68 = .ok (.invokevirtual 179, 3) := by decide +kernel
theorem dX9_run_71 : decode cX9_run 71 = .ok (.ireturn, 1) := by decide +kernel
theorem dX9_run_72 : decode cX9_run 72 = .ok (.iload 7, 2) := by decide +kernel
theorem dX9_run_74 : decode cX9_run 74 = .ok (.ifCond .ge 6, 3) := by decide +kernel
theorem dX9_run_77 : decode cX9_run 77 = .ok (.goto 16, 3) := by decide +kernel
theorem dX9_run_80 : decode cX9_run 80 = .ok (.iload 7, 2) := by decide +kernel
theorem dX9_run_82 : decode cX9_run 82 = .ok (.istore 4, 2) := by decide +kernel
theorem dX9_run_84 : decode cX9_run 84 = .ok (.iinc 5 1, 3) := by decide +kernel
theorem dX9_run_87 : decode cX9_run 87 = .ok (.iinc 6 1, 3) := by decide +kernel
theorem dX9_run_90 : decode cX9_run 90 = .ok (.goto (-50), 3) := by decide +kernel
theorem dX9_run_93 : decode cX9_run 93 = .ok (.aload_n 0, 1) := by decide +kernel
theorem dX9_run_94 : decode cX9_run 94 = .ok (.iload 5, 2) := by decide +kernel
theorem dX9_run_96 : decode cX9_run 96 = .ok (.putfield 80, 3) := by decide +kernel
theorem dX9_run_99 : decode cX9_run 99 = .ok (.iload 4, 2) := by decide +kernel
theorem dX9_run_101 : decode cX9_run 101 = .ok (.ireturn, 1) := by decide +kernel
theorem dX9_ran_0 : decode cX9_ran 0 = .ok (.aload_n 0, 1) := by decide +kernel
theorem dX9_ran_1 : decode cX9_ran 1 = .ok (.getfield 80, 3) := by decide +kernel
theorem dX9_ran_4 : decode cX9_ran 4 = .ok (.ireturn, 1) := by decide +kernel
theorem dX9_drop_0 : decode cX9_drop 0 = .ok (.aload_n 0, 1) := by decide +kernel
theorem dX9_drop_1 : decode cX9_drop 1 = .ok (.getfield 21, 3) := by decide +kernel
theorem dX9_drop_4 : decode cX9_drop 4 = .ok (.iload_n 1, 1) := by decide +kernel
theorem dX9_drop_5 : decode cX9_drop 5 = .ok (.invokevirtual 112, 3) := by decide +kernel
theorem dX9_drop_8 : decode cX9_drop 8 = .ok (.ifCond .ne 5, 3) := by decide +kernel
theorem dX9_drop_11 : decode cX9_drop 11 = .ok (.iconst (-1), 1) := by decide +kernel
theorem dX9_drop_12 : decode cX9_drop 12 = .ok (.ireturn, 1) := by decide +kernel
theorem dX9_drop_13 : decode cX9_drop 13 = .ok (.aload_n 0, 1) := by decide +kernel
theorem dX9_drop_14 : decode cX9_drop 14 = .ok (.getfield 21, 3) := by decide +kernel
theorem dX9_drop_17 : decode cX9_drop 17 = .ok (.invokevirtual 173, 3) := by decide +kernel
theorem dX9_drop_20 : decode cX9_drop 20 = .ok (.istore_n 2, 1) := by decide +kernel
theorem dX9_drop_21 : decode cX9_drop 21 = .ok (.aload_n 0, 1) := by decide +kernel
theorem dX9_drop_22 : decode cX9_drop 22 = .ok (.aload_n 0, 1) := by decide +kernel
theorem dX9_drop_23 : decode cX9_drop 23 = .ok (.getfield 62, 3) := by decide +kernel
theorem dX9_drop_26 : decode cX9_drop 26 = .ok (.iload_n 1, 1) := by decide +kernel
theorem dX9_drop_27 : decode cX9_drop 27 = .ok (.invokevirtual 185, 3) := by decide +kernel
theorem dX9_drop_30 : decode cX9_drop 30 = .ok (.iload_n 2, 1) := by decide +kernel
theorem dX9_drop_31 : decode cX9_drop 31 = .ok (.invokevirtual 179, 3) := by decide +kernel
theorem dX9_drop_34 : decode cX9_drop 34 = .ok (.ireturn, 1) := by decide +kernel
theorem dX9_print_0 : decode cX9_print 0 = .ok (.aload_n 0, 1) := by decide +kernel
theorem dX9_print_1 : decode cX9_print 1 = .ok (.getfield 21, 3) := by decide +kernel
theorem dX9_print_4 : decode cX9_print 4 = .ok (.iload_n 1, 1) := by decide +kernel
theorem dX9_print_5 : decode cX9_print 5 = .ok (.invokevirtual 112, 3) := by decide +kernel
theorem dX9_print_8 : decode cX9_print 8 = .ok (.ifCond .eq 14, 3) := by decide +kernel
theorem dX9_print_11 : decode cX9_print 11 = .ok (.aload_n 0, 1) := by decide +kernel
theorem dX9_print_12 : decode cX9_print 12 = .ok (.getfield 69, 3) := by decide +kernel
theorem dX9_print_15 : decode cX9_print 15 = .ok (.iload_n 1, 1) := by decide +kernel
theorem dX9_print_16 : decode cX9_print 16 = .ok (.invokevirtual 188, 3) := by decide +kernel
theorem dX9_print_19 : decode cX9_print 19 = .ok (.goto 4, 3) := by decide +kernel
theorem dX9_print_22 : decode cX9_print 22 = .ok (.iconst (-1), 1) := by decide +kernel
theorem dX9_print_23 : decode cX9_print 23 = .ok (.ireturn, 1) := by decide +kernel
theorem dX9_at_0 : decode cX9_at 0 = .ok (.aload_n 0, 1) := by decide +kernel
theorem dX9_at_1 : decode cX9_at 1 = .ok (.getfield 69, 3) := by decide +kernel
theorem dX9_at_4 : decode cX9_at 4 = .ok (.iload_n 1, 1) := by decide +kernel
theorem dX9_at_5 : decode cX9_at 5 = .ok (.invokevirtual 191, 3) := by decide +kernel
theorem dX9_at_8 : decode cX9_at 8 = .ok (.ireturn, 1) := by decide +kernel
theorem dX9_feed_0 : decode cX9_feed 0 = .ok (.aload_n 0, 1) := by decide +kernel
theorem dX9_feed_1 : decode cX9_feed 1 = .ok (.getfield 76, 3) := by decide +kernel
theorem dX9_feed_4 : decode cX9_feed 4 = .ok (.lload_n 1, 1) := by decide +kernel
theorem dX9_feed_5 : decode cX9_feed 5 = .ok (.iload_n 3, 1) := by decide +kernel
theorem dX9_feed_6 : decode cX9_feed 6 = .ok (.invokevirtual 194, 3) := by decide +kernel
theorem dX9_feed_9 : decode cX9_feed 9 = .ok (.ireturn, 1) := by decide +kernel
theorem dX9_copy_0 : decode cX9_copy 0 = .ok (.aload_n 0, 1) := by decide +kernel
theorem dX9_copy_1 : decode cX9_copy 1 = .ok (.getfield 76, 3) := by decide +kernel
theorem dX9_copy_4 : decode cX9_copy 4 = .ok (.aload_n 0, 1) := by decide +kernel
theorem dX9_copy_5 : decode cX9_copy 5 = .ok (.getfield 69, 3) := by decide +kernel
theorem dX9_copy_8 : decode cX9_copy 8 = .ok (.invokevirtual 198, 3) := by decide +kernel
theorem dX9_copy_11 : decode cX9_copy 11 = .ok (.ireturn, 1) := by decide +kernel
theorem dX9_read_0 : decode cX9_read 0 = .ok (.aload_n 0, 1) := by decide +kernel
theorem dX9_read_1 : decode cX9_read 1 = .ok (.getfield 76, 3) := by decide +kernel
theorem dX9_read_4 : decode cX9_read 4 = .ok (.invokevirtual 202, 3) := by decide +kernel
theorem dX9_read_7 : decode cX9_read 7 = .ok (.ireturn, 1) := by decide +kernel
theorem dX9_count_0 : decode cX9_count 0 = .ok (.iload_n 1, 1) := by decide +kernel
theorem dX9_count_1 : decode cX9_count 1 = .ok (.tableswitch 63 0 3 #[31, 39, 47, 55], 31) := by decide +kernel
theorem dX9_count_32 : decode cX9_count 32 = .ok (.aload_n 0, 1) := by decide +kernel
theorem dX9_count_33 : decode cX9_count 33 = .ok (.getfield 21, 3) := by decide +kernel
theorem dX9_count_36 : decode cX9_count 36 = .ok (.invokevirtual 173, 3) := by decide +kernel
theorem dX9_count_39 : decode cX9_count 39 = .ok (.ireturn, 1) := by decide +kernel
theorem dX9_count_40 : decode cX9_count 40 = .ok (.aload_n 0, 1) := by decide +kernel
theorem dX9_count_41 : decode cX9_count 41 = .ok (.getfield 10, 3) := by decide +kernel
theorem dX9_count_44 : decode cX9_count 44 = .ok (.invokevirtual 205, 3) := by decide +kernel
theorem dX9_count_47 : decode cX9_count 47 = .ok (.ireturn, 1) := by decide +kernel
theorem dX9_count_48 : decode cX9_count 48 = .ok (.aload_n 0, 1) := by decide +kernel
theorem dX9_count_49 : decode cX9_count 49 = .ok (.getfield 76, 3) := by decide +kernel
theorem dX9_count_52 : decode cX9_count 52 = .ok (.invokevirtual 206, 3) := by decide +kernel
theorem dX9_count_55 : decode cX9_count 55 = .ok (.ireturn, 1) := by decide +kernel
theorem dX9_count_56 : decode cX9_count 56 = .ok (.aload_n 0, 1) := by decide +kernel
theorem dX9_count_57 : decode cX9_count 57 = .ok (.getfield 69, 3) := by decide +kernel
theorem dX9_count_60 : decode cX9_count 60 = .ok (.invokevirtual 209, 3) := by decide +kernel
theorem dX9_count_63 : decode cX9_count 63 = .ok (.ireturn, 1) := by decide +kernel
theorem dX9_count_64 : decode cX9_count 64 = .ok (.iconst (-1), 1) := by decide +kernel
theorem dX9_count_65 : decode cX9_count 65 = .ok (.ireturn, 1) := by decide +kernel
theorem dX9_clear_0 : decode cX9_clear 0 = .ok (.aload_n 0, 1) := by decide +kernel
theorem dX9_clear_1 : decode cX9_clear 1 = .ok (.getfield 21, 3) := by decide +kernel
theorem dX9_clear_4 : decode cX9_clear 4 = .ok (.invokevirtual 173, 3) := by decide +kernel
theorem dX9_clear_7 : decode cX9_clear 7 = .ok (.istore_n 1, 1) := by decide +kernel
theorem dX9_clear_8 : decode cX9_clear 8 = .ok (.aload_n 0, 1) := by decide +kernel
theorem dX9_clear_9 : decode cX9_clear 9 = .ok (.getfield 21, 3) := by decide +kernel
theorem dX9_clear_12 : decode cX9_clear 12 = .ok (.iconst 0, 1) := by decide +kernel
theorem dX9_clear_13 : decode cX9_clear 13 = .ok (.invokevirtual 212, 3) := by decide +kernel
theorem dX9_clear_16 : decode cX9_clear 16 = .ok (.iload_n 1, 1) := by decide +kernel
theorem dX9_clear_17 : decode cX9_clear 17 = .ok (.ireturn, 1) := by decide +kernel
theorem dX9_keptOrUndone_0 : decode cX9_keptOrUndone 0 = .ok (.iload_n 1, 1) := by decide +kernel
theorem dX9_keptOrUndone_1 : decode cX9_keptOrUndone 1 = .ok (.ifCond .ge 11, 3) := by decide +kernel
theorem dX9_keptOrUndone_4 : decode cX9_keptOrUndone 4 = .ok (.aload_n 0, 1) := by decide +kernel
theorem dX9_keptOrUndone_5 : decode cX9_keptOrUndone 5 = .ok (.getfield 21, 3) := by decide +kernel
theorem dX9_keptOrUndone_8 : decode cX9_keptOrUndone 8 = .ok (.iload_n 2, 1) := by decide +kernel
theorem dX9_keptOrUndone_9 : decode cX9_keptOrUndone 9 = .ok (.invokevirtual 212, 3) := by decide +kernel
theorem dX9_keptOrUndone_12 : decode cX9_keptOrUndone 12 = .ok (.iload_n 1, 1) := by decide +kernel
theorem dX9_keptOrUndone_13 : decode cX9_keptOrUndone 13 = .ok (.ireturn, 1) := by decide +kernel
theorem dX9_isLetter_0 : decode cX9_isLetter 0 = .ok (.iload_n 0, 1) := by decide +kernel
theorem dX9_isLetter_1 : decode cX9_isLetter 1 = .ok (.ifCond .lt 13, 3) := by decide +kernel
theorem dX9_isLetter_4 : decode cX9_isLetter 4 = .ok (.iload_n 0, 1) := by decide +kernel
theorem dX9_isLetter_5 : decode cX9_isLetter 5 = .ok (.bipush 26, 2) := by decide +kernel
theorem dX9_isLetter_7 : decode cX9_isLetter 7 = .ok (.if_icmp .ge 7, 3) := by decide +kernel
theorem dX9_isLetter_10 : decode cX9_isLetter 10 = .ok (.iconst 1, 1) := by decide +kernel
theorem dX9_isLetter_11 : decode cX9_isLetter 11 = .ok (.goto 4, 3) := by decide +kernel
theorem dX9_isLetter_14 : decode cX9_isLetter 14 = .ok (.iconst 0, 1) := by decide +kernel
theorem dX9_isLetter_15 : decode cX9_isLetter 15 = .ok (.ireturn, 1) := by decide +kernel
theorem dX10_in_0 : decode cX10_in 0 = .ok (.iload_n 0, 1) := by decide +kernel
theorem dX10_in_1 : decode cX10_in 1 = .ok (.iload_n 1, 1) := by decide +kernel
theorem dX10_in_2 : decode cX10_in 2 = .ok (.if_icmp .lt 12, 3) := by decide +kernel
theorem dX10_in_5 : decode cX10_in 5 = .ok (.iload_n 0, 1) := by decide +kernel
theorem dX10_in_6 : decode cX10_in 6 = .ok (.iload_n 2, 1) := by decide +kernel
theorem dX10_in_7 : decode cX10_in 7 = .ok (.if_icmp .gt 7, 3) := by decide +kernel
theorem dX10_in_10 : decode cX10_in 10 = .ok (.iconst 1, 1) := by decide +kernel
theorem dX10_in_11 : decode cX10_in 11 = .ok (.goto 4, 3) := by decide +kernel
theorem dX10_in_14 : decode cX10_in 14 = .ok (.iconst 0, 1) := by decide +kernel
theorem dX10_in_15 : decode cX10_in 15 = .ok (.ireturn, 1) := by decide +kernel
theorem dX10_isLetter_0 : decode cX10_isLetter 0 = .ok (.iload_n 0, 1) := by decide +kernel
theorem dX10_isLetter_1 : decode cX10_isLetter 1 = .ok (.iconst 0, 1) := by decide +kernel
theorem dX10_isLetter_2 : decode cX10_isLetter 2 = .ok (.bipush 25, 2) := by decide +kernel
