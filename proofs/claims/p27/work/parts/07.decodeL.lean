theorem dL_below_0 : decode cL_below 0 = .ok (.iload_n 0, 1) := by decide +kernel
theorem dL_below_1 : decode cL_below 1 = .ok (.ldc 7, 2) := by decide +kernel
theorem dL_below_3 : decode cL_below 3 = .ok (.iand, 1) := by decide +kernel
theorem dL_below_4 : decode cL_below 4 = .ok (.iload_n 1, 1) := by decide +kernel
theorem dL_below_5 : decode cL_below 5 = .ok (.irem, 1) := by decide +kernel
theorem dL_below_6 : decode cL_below 6 = .ok (.ireturn, 1) := by decide +kernel
theorem dL_cell_0 : decode cL_cell 0 = .ok (.iload_n 1, 1) := by decide +kernel
theorem dL_cell_1 : decode cL_cell 1 = .ok (.aload_n 0, 1) := by decide +kernel
theorem dL_cell_2 : decode cL_cell 2 = .ok (.arraylength, 1) := by decide +kernel
theorem dL_cell_3 : decode cL_cell 3 = .ok (.if_icmp .ge 9, 3) := by decide +kernel
theorem dL_cell_6 : decode cL_cell 6 = .ok (.aload_n 0, 1) := by decide +kernel
theorem dL_cell_7 : decode cL_cell 7 = .ok (.iload_n 1, 1) := by decide +kernel
theorem dL_cell_8 : decode cL_cell 8 = .ok (.iaload, 1) := by decide +kernel
theorem dL_cell_9 : decode cL_cell 9 = .ok (.goto 9, 3) := by decide +kernel
theorem dL_cell_12 : decode cL_cell 12 = .ok (.ldc 8, 2) := by decide +kernel
theorem dL_cell_14 : decode cL_cell 14 = .ok (.iload_n 1, 1) := by decide +kernel
theorem dL_cell_15 : decode cL_cell 15 = .ok (.iconst 3, 1) := by decide +kernel
theorem dL_cell_16 : decode cL_cell 16 = .ok (.iadd, 1) := by decide +kernel
theorem dL_cell_17 : decode cL_cell 17 = .ok (.imul, 1) := by decide +kernel
theorem dL_cell_18 : decode cL_cell 18 = .ok (.ireturn, 1) := by decide +kernel
theorem dL_products_0 : decode cL_products 0 = .ok (.iconst 0, 1) := by decide +kernel
theorem dL_products_1 : decode cL_products 1 = .ok (.istore 5, 2) := by decide +kernel
theorem dL_products_3 : decode cL_products 3 = .ok (.iload 5, 2) := by decide +kernel
theorem dL_products_5 : decode cL_products 5 = .ok (.iload_n 3, 1) := by decide +kernel
theorem dL_products_6 : decode cL_products 6 = .ok (.if_icmp .ge 169, 3) := by decide +kernel
theorem dL_products_9 : decode cL_products 9 = .ok (.aload_n 1, 1) := by decide +kernel
theorem dL_products_10 : decode cL_products 10 = .ok (.iload_n 2, 1) := by decide +kernel
theorem dL_products_11 : decode cL_products 11 = .ok (.iload 5, 2) := by decide +kernel
theorem dL_products_13 : decode cL_products 13 = .ok (.iconst 4, 1) := by decide +kernel
theorem dL_products_14 : decode cL_products 14 = .ok (.irem, 1) := by decide +kernel
theorem dL_products_15 : decode cL_products 15 = .ok (.iadd, 1) := by decide +kernel
theorem dL_products_16 : decode cL_products 16 = .ok (.invokestatic 9, 3) := by decide +kernel
theorem dL_products_19 : decode cL_products 19 = .ok (.iload 5, 2) := by decide +kernel
theorem dL_products_21 : decode cL_products 21 = .ok (.sipush 911, 3) := by decide +kernel
theorem dL_products_24 : decode cL_products 24 = .ok (.imul, 1) := by decide +kernel
theorem dL_products_25 : decode cL_products 25 = .ok (.ixor, 1) := by decide +kernel
theorem dL_products_26 : decode cL_products 26 = .ok (.istore 6, 2) := by decide +kernel
theorem dL_products_28 : decode cL_products 28 = .ok (.iload 6, 2) := by decide +kernel
theorem dL_products_30 : decode cL_products 30 = .ok (.sipush 400, 3) := by decide +kernel
theorem dL_products_33 : decode cL_products 33 = .ok (.invokestatic 15, 3) := by decide +kernel
theorem dL_products_36 : decode cL_products 36 = .ok (.sipush 300, 3) := by decide +kernel
theorem dL_products_39 : decode cL_products 39 = .ok (.isub, 1) := by decide +kernel
theorem dL_products_40 : decode cL_products 40 = .ok (.istore 7, 2) := by decide +kernel
theorem dL_products_42 : decode cL_products 42 = .ok (.iconst 4, 1) := by decide +kernel
theorem dL_products_43 : decode cL_products 43 = .ok (.newarray .int, 2) := by decide +kernel
theorem dL_products_45 : decode cL_products 45 = .ok (.dup, 1) := by decide +kernel
theorem dL_products_46 : decode cL_products 46 = .ok (.iconst 0, 1) := by decide +kernel
theorem dL_products_47 : decode cL_products 47 = .ok (.iload 7, 2) := by decide +kernel
theorem dL_products_49 : decode cL_products 49 = .ok (.iastore, 1) := by decide +kernel
theorem dL_products_50 : decode cL_products 50 = .ok (.dup, 1) := by decide +kernel
theorem dL_products_51 : decode cL_products 51 = .ok (.iconst 1, 1) := by decide +kernel
theorem dL_products_52 : decode cL_products 52 = .ok (.sipush 200, 3) := by decide +kernel
theorem dL_products_55 : decode cL_products 55 = .ok (.iload 7, 2) := by decide +kernel
theorem dL_products_57 : decode cL_products 57 = .ok (.iload 6, 2) := by decide +kernel
theorem dL_products_59 : decode cL_products 59 = .ok (.bipush 8, 2) := by decide +kernel
theorem dL_products_61 : decode cL_products 61 = .ok (.ishr, 1) := by decide +kernel
theorem dL_products_62 : decode cL_products 62 = .ok (.bipush 90, 2) := by decide +kernel
theorem dL_products_64 : decode cL_products 64 = .ok (.invokestatic 15, 3) := by decide +kernel
theorem dL_products_67 : decode cL_products 67 = .ok (.iadd, 1) := by decide +kernel
theorem dL_products_68 : decode cL_products 68 = .ok (.invokestatic 19, 3) := by decide +kernel
theorem dL_products_71 : decode cL_products 71 = .ok (.iastore, 1) := by decide +kernel
theorem dL_products_72 : decode cL_products 72 = .ok (.dup, 1) := by decide +kernel
theorem dL_products_73 : decode cL_products 73 = .ok (.iconst 2, 1) := by decide +kernel
theorem dL_products_74 : decode cL_products 74 = .ok (.bipush 10, 2) := by decide +kernel
theorem dL_products_76 : decode cL_products 76 = .ok (.iload 6, 2) := by decide +kernel
theorem dL_products_78 : decode cL_products 78 = .ok (.iconst 5, 1) := by decide +kernel
theorem dL_products_79 : decode cL_products 79 = .ok (.ishr, 1) := by decide +kernel
theorem dL_products_80 : decode cL_products 80 = .ok (.iload 6, 2) := by decide +kernel
theorem dL_products_82 : decode cL_products 82 = .ok (.iconst 3, 1) := by decide +kernel
theorem dL_products_83 : decode cL_products 83 = .ok (.ishr, 1) := by decide +kernel
theorem dL_products_84 : decode cL_products 84 = .ok (.iconst 2, 1) := by decide +kernel
theorem dL_products_85 : decode cL_products 85 = .ok (.invokestatic 15, 3) := by decide +kernel
theorem dL_products_88 : decode cL_products 88 = .ok (.ifCond .ne 8, 3) := by decide +kernel
theorem dL_products_91 : decode cL_products 91 = .ok (.bipush 60, 2) := by decide +kernel
theorem dL_products_93 : decode cL_products 93 = .ok (.goto 6, 3) := by decide +kernel
theorem dL_products_96 : decode cL_products 96 = .ok (.sipush 900, 3) := by decide +kernel
theorem dL_products_99 : decode cL_products 99 = .ok (.invokestatic 15, 3) := by decide +kernel
theorem dL_products_102 : decode cL_products 102 = .ok (.iadd, 1) := by decide +kernel
theorem dL_products_103 : decode cL_products 103 = .ok (.iastore, 1) := by decide +kernel
theorem dL_products_104 : decode cL_products 104 = .ok (.dup, 1) := by decide +kernel
theorem dL_products_105 : decode cL_products 105 = .ok (.iconst 3, 1) := by decide +kernel
theorem dL_products_106 : decode cL_products 106 = .ok (.iload 6, 2) := by decide +kernel
theorem dL_products_108 : decode cL_products 108 = .ok (.bipush 13, 2) := by decide +kernel
theorem dL_products_110 : decode cL_products 110 = .ok (.ishr, 1) := by decide +kernel
theorem dL_products_111 : decode cL_products 111 = .ok (.iconst 4, 1) := by decide +kernel
theorem dL_products_112 : decode cL_products 112 = .ok (.invokestatic 15, 3) := by decide +kernel
theorem dL_products_115 : decode cL_products 115 = .ok (.iastore, 1) := by decide +kernel
theorem dL_products_116 : decode cL_products 116 = .ok (.astore 8, 2) := by decide +kernel
theorem dL_products_118 : decode cL_products 118 = .ok (.iconst 0, 1) := by decide +kernel
theorem dL_products_119 : decode cL_products 119 = .ok (.istore 9, 2) := by decide +kernel
theorem dL_products_121 : decode cL_products 121 = .ok (.iload 9, 2) := by decide +kernel
theorem dL_products_123 : decode cL_products 123 = .ok (.iconst 4, 1) := by decide +kernel
theorem dL_products_124 : decode cL_products 124 = .ok (.if_icmp .ge 24, 3) := by decide +kernel
theorem dL_products_127 : decode cL_products 127 = .ok (.aload 4, 2) := by decide +kernel
theorem dL_products_129 : decode cL_products 129 = .ok (.iconst 4, 1) := by decide +kernel
theorem dL_products_130 : decode cL_products 130 = .ok (.iload 5, 2) := by decide +kernel
theorem dL_products_132 : decode cL_products 132 = .ok (.imul, 1) := by decide +kernel
theorem dL_products_133 : decode cL_products 133 = .ok (.iload 9, 2) := by decide +kernel
theorem dL_products_135 : decode cL_products 135 = .ok (.iadd, 1) := by decide +kernel
theorem dL_products_136 : decode cL_products 136 = .ok (.aload 8, 2) := by decide +kernel
theorem dL_products_138 : decode cL_products 138 = .ok (.iload 9, 2) := by decide +kernel
theorem dL_products_140 : decode cL_products 140 = .ok (.iaload, 1) := by decide +kernel
theorem dL_products_141 : decode cL_products 141 = .ok (.iastore, 1) := by decide +kernel
theorem dL_products_142 : decode cL_products 142 = .ok (.iinc 9 1, 3) := by decide +kernel
theorem dL_products_145 : decode cL_products 145 = .ok (.goto (-24), 3) := by decide +kernel
theorem dL_products_148 : decode cL_products 148 = .ok (.aload_n 0, 1) := by decide +kernel
theorem dL_products_149 : decode cL_products 149 = .ok (.aload 8, 2) := by decide +kernel
theorem dL_products_151 : decode cL_products 151 = .ok (.iconst 0, 1) := by decide +kernel
theorem dL_products_152 : decode cL_products 152 = .ok (.iaload, 1) := by decide +kernel
theorem dL_products_153 : decode cL_products 153 = .ok (.aload 8, 2) := by decide +kernel
theorem dL_products_155 : decode cL_products 155 = .ok (.iconst 1, 1) := by decide +kernel
theorem dL_products_156 : decode cL_products 156 = .ok (.iaload, 1) := by decide +kernel
theorem dL_products_157 : decode cL_products 157 = .ok (.aload 8, 2) := by decide +kernel
theorem dL_products_159 : decode cL_products 159 = .ok (.iconst 2, 1) := by decide +kernel
theorem dL_products_160 : decode cL_products 160 = .ok (.iaload, 1) := by decide +kernel
theorem dL_products_161 : decode cL_products 161 = .ok (.aload 8, 2) := by decide +kernel
theorem dL_products_163 : decode cL_products 163 = .ok (.iconst 3, 1) := by decide +kernel
theorem dL_products_164 : decode cL_products 164 = .ok (.iaload, 1) := by decide +kernel
theorem dL_products_165 : decode cL_products 165 = .ok (.invokevirtual 24, 3) := by decide +kernel
theorem dL_products_168 : decode cL_products 168 = .ok (.pop, 1) := by decide +kernel
theorem dL_products_169 : decode cL_products 169 = .ok (.iinc 5 1, 3) := by decide +kernel
theorem dL_products_172 : decode cL_products 172 = .ok (.goto (-169), 3) := by decide +kernel
theorem dL_products_175 : decode cL_products 175 = .ok (.return_, 1) := by decide +kernel
theorem dL_go_0 : decode cL_go 0 = .ok (.aload_n 0, 1) := by decide +kernel
theorem dL_go_1 : decode cL_go 1 = .ok (.iconst 4, 1) := by decide +kernel
theorem dL_go_2 : decode cL_go 2 = .ok (.iload_n 1, 1) := by decide +kernel
theorem dL_go_3 : decode cL_go 3 = .ok (.imul, 1) := by decide +kernel
theorem dL_go_4 : decode cL_go 4 = .ok (.iconst 3, 1) := by decide +kernel
theorem dL_go_5 : decode cL_go 5 = .ok (.iadd, 1) := by decide +kernel
theorem dL_go_6 : decode cL_go 6 = .ok (.iaload, 1) := by decide +kernel
theorem dL_go_7 : decode cL_go 7 = .ok (.istore_n 3, 1) := by decide +kernel
theorem dL_go_8 : decode cL_go 8 = .ok (.aload_n 0, 1) := by decide +kernel
theorem dL_go_9 : decode cL_go 9 = .ok (.iconst 4, 1) := by decide +kernel
theorem dL_go_10 : decode cL_go 10 = .ok (.iload_n 2, 1) := by decide +kernel
theorem dL_go_11 : decode cL_go 11 = .ok (.imul, 1) := by decide +kernel
theorem dL_go_12 : decode cL_go 12 = .ok (.iconst 3, 1) := by decide +kernel
theorem dL_go_13 : decode cL_go 13 = .ok (.iadd, 1) := by decide +kernel
theorem dL_go_14 : decode cL_go 14 = .ok (.iaload, 1) := by decide +kernel
theorem dL_go_15 : decode cL_go 15 = .ok (.istore 4, 2) := by decide +kernel
theorem dL_go_17 : decode cL_go 17 = .ok (.iload_n 1, 1) := by decide +kernel
theorem dL_go_18 : decode cL_go 18 = .ok (.iload_n 2, 1) := by decide +kernel
theorem dL_go_19 : decode cL_go 19 = .ok (.if_icmp .ne 5, 3) := by decide +kernel
theorem dL_go_22 : decode cL_go 22 = .ok (.iconst 1, 1) := by decide +kernel
theorem dL_go_23 : decode cL_go 23 = .ok (.ireturn, 1) := by decide +kernel
theorem dL_go_24 : decode cL_go 24 = .ok (.iload_n 3, 1) := by decide +kernel
theorem dL_go_25 : decode cL_go 25 = .ok (.iconst 3, 1) := by decide +kernel
theorem dL_go_26 : decode cL_go 26 = .ok (.if_icmp .eq 35, 3) := by decide +kernel
theorem dL_go_29 : decode cL_go 29 = .ok (.iload 4, 2) := by decide +kernel
theorem dL_go_31 : decode cL_go 31 = .ok (.iconst 3, 1) := by decide +kernel
theorem dL_go_32 : decode cL_go 32 = .ok (.if_icmp .eq 29, 3) := by decide +kernel
theorem dL_go_35 : decode cL_go 35 = .ok (.iload_n 3, 1) := by decide +kernel
theorem dL_go_36 : decode cL_go 36 = .ok (.iconst 1, 1) := by decide +kernel
theorem dL_go_37 : decode cL_go 37 = .ok (.if_icmp .ne 9, 3) := by decide +kernel
theorem dL_go_40 : decode cL_go 40 = .ok (.iload 4, 2) := by decide +kernel
theorem dL_go_42 : decode cL_go 42 = .ok (.iconst 2, 1) := by decide +kernel
theorem dL_go_43 : decode cL_go 43 = .ok (.if_icmp .eq 18, 3) := by decide +kernel
theorem dL_go_46 : decode cL_go 46 = .ok (.iload_n 3, 1) := by decide +kernel
theorem dL_go_47 : decode cL_go 47 = .ok (.iconst 2, 1) := by decide +kernel
theorem dL_go_48 : decode cL_go 48 = .ok (.if_icmp .ne 9, 3) := by decide +kernel
theorem dL_go_51 : decode cL_go 51 = .ok (.iload 4, 2) := by decide +kernel
theorem dL_go_53 : decode cL_go 53 = .ok (.iconst 1, 1) := by decide +kernel
theorem dL_go_54 : decode cL_go 54 = .ok (.if_icmp .eq 7, 3) := by decide +kernel
theorem dL_go_57 : decode cL_go 57 = .ok (.iconst 1, 1) := by decide +kernel
theorem dL_go_58 : decode cL_go 58 = .ok (.goto 4, 3) := by decide +kernel
theorem dL_go_61 : decode cL_go 61 = .ok (.iconst 0, 1) := by decide +kernel
theorem dL_go_62 : decode cL_go 62 = .ok (.ireturn, 1) := by decide +kernel
theorem dL_rooms_0 : decode cL_rooms 0 = .ok (.iconst 0, 1) := by decide +kernel
theorem dL_rooms_1 : decode cL_rooms 1 = .ok (.istore 5, 2) := by decide +kernel
theorem dL_rooms_3 : decode cL_rooms 3 = .ok (.iload 5, 2) := by decide +kernel
theorem dL_rooms_5 : decode cL_rooms 5 = .ok (.iload_n 3, 1) := by decide +kernel
theorem dL_rooms_6 : decode cL_rooms 6 = .ok (.if_icmp .ge 144, 3) := by decide +kernel
theorem dL_rooms_9 : decode cL_rooms 9 = .ok (.aload_n 1, 1) := by decide +kernel
theorem dL_rooms_10 : decode cL_rooms 10 = .ok (.iload_n 2, 1) := by decide +kernel
theorem dL_rooms_11 : decode cL_rooms 11 = .ok (.iload 5, 2) := by decide +kernel
theorem dL_rooms_13 : decode cL_rooms 13 = .ok (.iconst 4, 1) := by decide +kernel
theorem dL_rooms_14 : decode cL_rooms 14 = .ok (.irem, 1) := by decide +kernel
theorem dL_rooms_15 : decode cL_rooms 15 = .ok (.iadd, 1) := by decide +kernel
theorem dL_rooms_16 : decode cL_rooms 16 = .ok (.invokestatic 9, 3) := by decide +kernel
theorem dL_rooms_19 : decode cL_rooms 19 = .ok (.iconst 1, 1) := by decide +kernel
theorem dL_rooms_20 : decode cL_rooms 20 = .ok (.ishr, 1) := by decide +kernel
theorem dL_rooms_21 : decode cL_rooms 21 = .ok (.iload 5, 2) := by decide +kernel
theorem dL_rooms_23 : decode cL_rooms 23 = .ok (.sipush 3571, 3) := by decide +kernel
theorem dL_rooms_26 : decode cL_rooms 26 = .ok (.imul, 1) := by decide +kernel
theorem dL_rooms_27 : decode cL_rooms 27 = .ok (.ixor, 1) := by decide +kernel
theorem dL_rooms_28 : decode cL_rooms 28 = .ok (.istore 6, 2) := by decide +kernel
theorem dL_rooms_30 : decode cL_rooms 30 = .ok (.iconst 4, 1) := by decide +kernel
theorem dL_rooms_31 : decode cL_rooms 31 = .ok (.newarray .int, 2) := by decide +kernel
theorem dL_rooms_33 : decode cL_rooms 33 = .ok (.dup, 1) := by decide +kernel
theorem dL_rooms_34 : decode cL_rooms 34 = .ok (.iconst 0, 1) := by decide +kernel
theorem dL_rooms_35 : decode cL_rooms 35 = .ok (.iconst 1, 1) := by decide +kernel
theorem dL_rooms_36 : decode cL_rooms 36 = .ok (.iload 6, 2) := by decide +kernel
theorem dL_rooms_38 : decode cL_rooms 38 = .ok (.bipush 8, 2) := by decide +kernel
theorem dL_rooms_40 : decode cL_rooms 40 = .ok (.invokestatic 15, 3) := by decide +kernel
theorem dL_rooms_43 : decode cL_rooms 43 = .ok (.iadd, 1) := by decide +kernel
theorem dL_rooms_44 : decode cL_rooms 44 = .ok (.iastore, 1) := by decide +kernel
theorem dL_rooms_45 : decode cL_rooms 45 = .ok (.dup, 1) := by decide +kernel
theorem dL_rooms_46 : decode cL_rooms 46 = .ok (.iconst 1, 1) := by decide +kernel
theorem dL_rooms_47 : decode cL_rooms 47 = .ok (.iconst 1, 1) := by decide +kernel
theorem dL_rooms_48 : decode cL_rooms 48 = .ok (.iload 6, 2) := by decide +kernel
theorem dL_rooms_50 : decode cL_rooms 50 = .ok (.iconst 4, 1) := by decide +kernel
theorem dL_rooms_51 : decode cL_rooms 51 = .ok (.ishr, 1) := by decide +kernel
theorem dL_rooms_52 : decode cL_rooms 52 = .ok (.bipush 20, 2) := by decide +kernel
theorem dL_rooms_54 : decode cL_rooms 54 = .ok (.invokestatic 15, 3) := by decide +kernel
theorem dL_rooms_57 : decode cL_rooms 57 = .ok (.iadd, 1) := by decide +kernel
theorem dL_rooms_58 : decode cL_rooms 58 = .ok (.iastore, 1) := by decide +kernel
theorem dL_rooms_59 : decode cL_rooms 59 = .ok (.dup, 1) := by decide +kernel
theorem dL_rooms_60 : decode cL_rooms 60 = .ok (.iconst 2, 1) := by decide +kernel
theorem dL_rooms_61 : decode cL_rooms 61 = .ok (.iload 6, 2) := by decide +kernel
theorem dL_rooms_63 : decode cL_rooms 63 = .ok (.bipush 7, 2) := by decide +kernel
theorem dL_rooms_65 : decode cL_rooms 65 = .ok (.ishr, 1) := by decide +kernel
theorem dL_rooms_66 : decode cL_rooms 66 = .ok (.sipush 201, 3) := by decide +kernel
theorem dL_rooms_69 : decode cL_rooms 69 = .ok (.invokestatic 15, 3) := by decide +kernel
theorem dL_rooms_72 : decode cL_rooms 72 = .ok (.iastore, 1) := by decide +kernel
theorem dL_rooms_73 : decode cL_rooms 73 = .ok (.dup, 1) := by decide +kernel
theorem dL_rooms_74 : decode cL_rooms 74 = .ok (.iconst 3, 1) := by decide +kernel
theorem dL_rooms_75 : decode cL_rooms 75 = .ok (.iload 6, 2) := by decide +kernel
theorem dL_rooms_77 : decode cL_rooms 77 = .ok (.bipush 12, 2) := by decide +kernel
theorem dL_rooms_79 : decode cL_rooms 79 = .ok (.ishr, 1) := by decide +kernel
theorem dL_rooms_80 : decode cL_rooms 80 = .ok (.sipush 300, 3) := by decide +kernel
theorem dL_rooms_83 : decode cL_rooms 83 = .ok (.invokestatic 15, 3) := by decide +kernel
theorem dL_rooms_86 : decode cL_rooms 86 = .ok (.sipush 250, 3) := by decide +kernel
theorem dL_rooms_89 : decode cL_rooms 89 = .ok (.isub, 1) := by decide +kernel
theorem dL_rooms_90 : decode cL_rooms 90 = .ok (.iastore, 1) := by decide +kernel
theorem dL_rooms_91 : decode cL_rooms 91 = .ok (.astore 7, 2) := by decide +kernel
theorem dL_rooms_93 : decode cL_rooms 93 = .ok (.iconst 0, 1) := by decide +kernel
theorem dL_rooms_94 : decode cL_rooms 94 = .ok (.istore 8, 2) := by decide +kernel
theorem dL_rooms_96 : decode cL_rooms 96 = .ok (.iload 8, 2) := by decide +kernel
theorem dL_rooms_98 : decode cL_rooms 98 = .ok (.iconst 4, 1) := by decide +kernel
theorem dL_rooms_99 : decode cL_rooms 99 = .ok (.if_icmp .ge 24, 3) := by decide +kernel
theorem dL_rooms_102 : decode cL_rooms 102 = .ok (.aload 4, 2) := by decide +kernel
theorem dL_rooms_104 : decode cL_rooms 104 = .ok (.iconst 4, 1) := by decide +kernel
theorem dL_rooms_105 : decode cL_rooms 105 = .ok (.iload 5, 2) := by decide +kernel
theorem dL_rooms_107 : decode cL_rooms 107 = .ok (.imul, 1) := by decide +kernel
theorem dL_rooms_108 : decode cL_rooms 108 = .ok (.iload 8, 2) := by decide +kernel
theorem dL_rooms_110 : decode cL_rooms 110 = .ok (.iadd, 1) := by decide +kernel
theorem dL_rooms_111 : decode cL_rooms 111 = .ok (.aload 7, 2) := by decide +kernel
theorem dL_rooms_113 : decode cL_rooms 113 = .ok (.iload 8, 2) := by decide +kernel
theorem dL_rooms_115 : decode cL_rooms 115 = .ok (.iaload, 1) := by decide +kernel
theorem dL_rooms_116 : decode cL_rooms 116 = .ok (.iastore, 1) := by decide +kernel
theorem dL_rooms_117 : decode cL_rooms 117 = .ok (.iinc 8 1, 3) := by decide +kernel
theorem dL_rooms_120 : decode cL_rooms 120 = .ok (.goto (-24), 3) := by decide +kernel
theorem dL_rooms_123 : decode cL_rooms 123 = .ok (.aload_n 0, 1) := by decide +kernel
theorem dL_rooms_124 : decode cL_rooms 124 = .ok (.aload 7, 2) := by decide +kernel
theorem dL_rooms_126 : decode cL_rooms 126 = .ok (.iconst 0, 1) := by decide +kernel
theorem dL_rooms_127 : decode cL_rooms 127 = .ok (.iaload, 1) := by decide +kernel
theorem dL_rooms_128 : decode cL_rooms 128 = .ok (.aload 7, 2) := by decide +kernel
theorem dL_rooms_130 : decode cL_rooms 130 = .ok (.iconst 1, 1) := by decide +kernel
theorem dL_rooms_131 : decode cL_rooms 131 = .ok (.iaload, 1) := by decide +kernel
theorem dL_rooms_132 : decode cL_rooms 132 = .ok (.aload 7, 2) := by decide +kernel
theorem dL_rooms_134 : decode cL_rooms 134 = .ok (.iconst 2, 1) := by decide +kernel
theorem dL_rooms_135 : decode cL_rooms 135 = .ok (.iaload, 1) := by decide +kernel
theorem dL_rooms_136 : decode cL_rooms 136 = .ok (.aload 7, 2) := by decide +kernel
theorem dL_rooms_138 : decode cL_rooms 138 = .ok (.iconst 3, 1) := by decide +kernel
theorem dL_rooms_139 : decode cL_rooms 139 = .ok (.iaload, 1) := by decide +kernel
theorem dL_rooms_140 : decode cL_rooms 140 = .ok (.invokevirtual 30, 3) := by decide +kernel
theorem dL_rooms_143 : decode cL_rooms 143 = .ok (.pop, 1) := by decide +kernel
theorem dL_rooms_144 : decode cL_rooms 144 = .ok (.iinc 5 1, 3) := by decide +kernel
theorem dL_rooms_147 : decode cL_rooms 147 = .ok (.goto (-144), 3) := by decide +kernel
theorem dL_rooms_150 : decode cL_rooms 150 = .ok (.return_, 1) := by decide +kernel
theorem dL_law_0 : decode cL_law 0 = .ok (.new 25, 3) := by decide +kernel
theorem dL_law_3 : decode cL_law 3 = .ok (.dup, 1) := by decide +kernel
theorem dL_law_4 : decode cL_law 4 = .ok (.invokespecial 33, 3) := by decide +kernel
theorem dL_law_7 : decode cL_law 7 = .ok (.astore_n 1, 1) := by decide +kernel
theorem dL_law_8 : decode cL_law 8 = .ok (.iconst 1, 1) := by decide +kernel
theorem dL_law_9 : decode cL_law 9 = .ok (.aload_n 0, 1) := by decide +kernel
theorem dL_law_10 : decode cL_law 10 = .ok (.iconst 0, 1) := by decide +kernel
theorem dL_law_11 : decode cL_law 11 = .ok (.invokestatic 9, 3) := by decide +kernel
theorem dL_law_14 : decode cL_law 14 = .ok (.bipush 8, 2) := by decide +kernel
theorem dL_law_16 : decode cL_law 16 = .ok (.invokestatic 15, 3) := by decide +kernel
theorem dL_law_19 : decode cL_law 19 = .ok (.iadd, 1) := by decide +kernel
theorem dL_law_20 : decode cL_law 20 = .ok (.istore_n 2, 1) := by decide +kernel
theorem dL_law_21 : decode cL_law 21 = .ok (.iconst 1, 1) := by decide +kernel
theorem dL_law_22 : decode cL_law 22 = .ok (.aload_n 0, 1) := by decide +kernel
theorem dL_law_23 : decode cL_law 23 = .ok (.iconst 1, 1) := by decide +kernel
theorem dL_law_24 : decode cL_law 24 = .ok (.invokestatic 9, 3) := by decide +kernel
theorem dL_law_27 : decode cL_law 27 = .ok (.iconst 5, 1) := by decide +kernel
theorem dL_law_28 : decode cL_law 28 = .ok (.invokestatic 15, 3) := by decide +kernel
theorem dL_law_31 : decode cL_law 31 = .ok (.iadd, 1) := by decide +kernel
theorem dL_law_32 : decode cL_law 32 = .ok (.istore_n 3, 1) := by decide +kernel
theorem dL_law_33 : decode cL_law 33 = .ok (.bipush 48, 2) := by decide +kernel
theorem dL_law_35 : decode cL_law 35 = .ok (.newarray .int, 2) := by decide +kernel
theorem dL_law_37 : decode cL_law 37 = .ok (.astore 4, 2) := by decide +kernel
theorem dL_law_39 : decode cL_law 39 = .ok (.bipush 24, 2) := by decide +kernel
theorem dL_law_41 : decode cL_law 41 = .ok (.newarray .int, 2) := by decide +kernel
theorem dL_law_43 : decode cL_law 43 = .ok (.astore 5, 2) := by decide +kernel
theorem dL_law_45 : decode cL_law 45 = .ok (.aload_n 1, 1) := by decide +kernel
theorem dL_law_46 : decode cL_law 46 = .ok (.aload_n 0, 1) := by decide +kernel
theorem dL_law_47 : decode cL_law 47 = .ok (.iconst 2, 1) := by decide +kernel
theorem dL_law_48 : decode cL_law 48 = .ok (.iload_n 2, 1) := by decide +kernel
theorem dL_law_49 : decode cL_law 49 = .ok (.aload 4, 2) := by decide +kernel
theorem dL_law_51 : decode cL_law 51 = .ok (.invokestatic 34, 3) := by decide +kernel
theorem dL_law_54 : decode cL_law 54 = .ok (.aload_n 1, 1) := by decide +kernel
theorem dL_law_55 : decode cL_law 55 = .ok (.aload_n 0, 1) := by decide +kernel
theorem dL_law_56 : decode cL_law 56 = .ok (.bipush 6, 2) := by decide +kernel
theorem dL_law_58 : decode cL_law 58 = .ok (.iload_n 3, 1) := by decide +kernel
theorem dL_law_59 : decode cL_law 59 = .ok (.aload 5, 2) := by decide +kernel
theorem dL_law_61 : decode cL_law 61 = .ok (.invokestatic 38, 3) := by decide +kernel
theorem dL_law_64 : decode cL_law 64 = .ok (.aload_n 1, 1) := by decide +kernel
theorem dL_law_65 : decode cL_law 65 = .ok (.aload_n 0, 1) := by decide +kernel
theorem dL_law_66 : decode cL_law 66 = .ok (.bipush 10, 2) := by decide +kernel
theorem dL_law_68 : decode cL_law 68 = .ok (.invokestatic 9, 3) := by decide +kernel
theorem dL_law_71 : decode cL_law 71 = .ok (.sipush 400, 3) := by decide +kernel
theorem dL_law_74 : decode cL_law 74 = .ok (.invokestatic 15, 3) := by decide +kernel
theorem dL_law_77 : decode cL_law 77 = .ok (.bipush 50, 2) := by decide +kernel
theorem dL_law_79 : decode cL_law 79 = .ok (.isub, 1) := by decide +kernel
theorem dL_law_80 : decode cL_law 80 = .ok (.aload_n 0, 1) := by decide +kernel
theorem dL_law_81 : decode cL_law 81 = .ok (.bipush 11, 2) := by decide +kernel
theorem dL_law_83 : decode cL_law 83 = .ok (.invokestatic 9, 3) := by decide +kernel
theorem dL_law_86 : decode cL_law 86 = .ok (.sipush 201, 3) := by decide +kernel
theorem dL_law_89 : decode cL_law 89 = .ok (.invokestatic 15, 3) := by decide +kernel
theorem dL_law_92 : decode cL_law 92 = .ok (.invokevirtual 41, 3) := by decide +kernel
theorem dL_law_95 : decode cL_law 95 = .ok (.pop, 1) := by decide +kernel
theorem dL_law_96 : decode cL_law 96 = .ok (.aload_n 1, 1) := by decide +kernel
theorem dL_law_97 : decode cL_law 97 = .ok (.bipush 6, 2) := by decide +kernel
theorem dL_law_99 : decode cL_law 99 = .ok (.bipush 18, 2) := by decide +kernel
theorem dL_law_101 : decode cL_law 101 = .ok (.bipush 25, 2) := by decide +kernel
theorem dL_law_103 : decode cL_law 103 = .ok (.invokevirtual 44, 3) := by decide +kernel
theorem dL_law_106 : decode cL_law 106 = .ok (.pop, 1) := by decide +kernel
theorem dL_law_107 : decode cL_law 107 = .ok (.bipush 60, 2) := by decide +kernel
theorem dL_law_109 : decode cL_law 109 = .ok (.newarray .int, 2) := by decide +kernel
theorem dL_law_111 : decode cL_law 111 = .ok (.astore 6, 2) := by decide +kernel
theorem dL_law_113 : decode cL_law 113 = .ok (.iconst 0, 1) := by decide +kernel
theorem dL_law_114 : decode cL_law 114 = .ok (.istore 7, 2) := by decide +kernel
theorem dL_law_116 : decode cL_law 116 = .ok (.iconst 0, 1) := by decide +kernel
theorem dL_law_117 : decode cL_law 117 = .ok (.istore 8, 2) := by decide +kernel
theorem dL_law_119 : decode cL_law 119 = .ok (.iload 8, 2) := by decide +kernel
theorem dL_law_121 : decode cL_law 121 = .ok (.bipush 30, 2) := by decide +kernel
theorem dL_law_123 : decode cL_law 123 = .ok (.if_icmp .ge 691, 3) := by decide +kernel
theorem dL_law_126 : decode cL_law 126 = .ok (.aload_n 0, 1) := by decide +kernel
theorem dL_law_127 : decode cL_law 127 = .ok (.bipush 12, 2) := by decide +kernel
theorem dL_law_129 : decode cL_law 129 = .ok (.iload 8, 2) := by decide +kernel
theorem dL_law_131 : decode cL_law 131 = .ok (.bipush 6, 2) := by decide +kernel
theorem dL_law_133 : decode cL_law 133 = .ok (.irem, 1) := by decide +kernel
theorem dL_law_134 : decode cL_law 134 = .ok (.iadd, 1) := by decide +kernel
theorem dL_law_135 : decode cL_law 135 = .ok (.invokestatic 9, 3) := by decide +kernel
theorem dL_law_138 : decode cL_law 138 = .ok (.iload 8, 2) := by decide +kernel
theorem dL_law_140 : decode cL_law 140 = .ok (.bipush 6, 2) := by decide +kernel
theorem dL_law_142 : decode cL_law 142 = .ok (.idiv, 1) := by decide +kernel
theorem dL_law_143 : decode cL_law 143 = .ok (.iconst 3, 1) := by decide +kernel
theorem dL_law_144 : decode cL_law 144 = .ok (.imul, 1) := by decide +kernel
theorem dL_law_145 : decode cL_law 145 = .ok (.ishr, 1) := by decide +kernel
theorem dL_law_146 : decode cL_law 146 = .ok (.iload 8, 2) := by decide +kernel
theorem dL_law_148 : decode cL_law 148 = .ok (.sipush 911, 3) := by decide +kernel
theorem dL_law_151 : decode cL_law 151 = .ok (.imul, 1) := by decide +kernel
theorem dL_law_152 : decode cL_law 152 = .ok (.ixor, 1) := by decide +kernel
theorem dL_law_153 : decode cL_law 153 = .ok (.istore 9, 2) := by decide +kernel
theorem dL_law_155 : decode cL_law 155 = .ok (.iload 9, 2) := by decide +kernel
theorem dL_law_157 : decode cL_law 157 = .ok (.iload_n 2, 1) := by decide +kernel
theorem dL_law_158 : decode cL_law 158 = .ok (.invokestatic 15, 3) := by decide +kernel
theorem dL_law_161 : decode cL_law 161 = .ok (.istore 10, 2) := by decide +kernel
theorem dL_law_163 : decode cL_law 163 = .ok (.aload_n 1, 1) := by decide +kernel
theorem dL_law_164 : decode cL_law 164 = .ok (.iload 10, 2) := by decide +kernel
theorem dL_law_166 : decode cL_law 166 = .ok (.invokevirtual 48, 3) := by decide +kernel
theorem dL_law_169 : decode cL_law 169 = .ok (.istore 11, 2) := by decide +kernel
theorem dL_law_171 : decode cL_law 171 = .ok (.iload 11, 2) := by decide +kernel
theorem dL_law_173 : decode cL_law 173 = .ok (.ifCond .lt 47, 3) := by decide +kernel
theorem dL_law_176 : decode cL_law 176 = .ok (.aload_n 1, 1) := by decide +kernel
theorem dL_law_177 : decode cL_law 177 = .ok (.iconst 2, 1) := by decide +kernel
theorem dL_law_178 : decode cL_law 178 = .ok (.invokevirtual 52, 3) := by decide +kernel
theorem dL_law_181 : decode cL_law 181 = .ok (.bipush 60, 2) := by decide +kernel
theorem dL_law_183 : decode cL_law 183 = .ok (.if_icmp .ge 37, 3) := by decide +kernel
theorem dL_law_186 : decode cL_law 186 = .ok (.aload_n 1, 1) := by decide +kernel
theorem dL_law_187 : decode cL_law 187 = .ok (.iload 10, 2) := by decide +kernel
theorem dL_law_189 : decode cL_law 189 = .ok (.iload 11, 2) := by decide +kernel
theorem dL_law_191 : decode cL_law 191 = .ok (.iload 9, 2) := by decide +kernel
theorem dL_law_193 : decode cL_law 193 = .ok (.iconst 3, 1) := by decide +kernel
theorem dL_law_194 : decode cL_law 194 = .ok (.ishr, 1) := by decide +kernel
theorem dL_law_195 : decode cL_law 195 = .ok (.sipush 500, 3) := by decide +kernel
theorem dL_law_198 : decode cL_law 198 = .ok (.invokestatic 15, 3) := by decide +kernel
theorem dL_law_201 : decode cL_law 201 = .ok (.sipush 200, 3) := by decide +kernel
theorem dL_law_204 : decode cL_law 204 = .ok (.isub, 1) := by decide +kernel
theorem dL_law_205 : decode cL_law 205 = .ok (.invokevirtual 55, 3) := by decide +kernel
theorem dL_law_208 : decode cL_law 208 = .ok (.aload_n 1, 1) := by decide +kernel
theorem dL_law_209 : decode cL_law 209 = .ok (.iconst 2, 1) := by decide +kernel
theorem dL_law_210 : decode cL_law 210 = .ok (.invokevirtual 52, 3) := by decide +kernel
theorem dL_law_213 : decode cL_law 213 = .ok (.iconst 1, 1) := by decide +kernel
theorem dL_law_214 : decode cL_law 214 = .ok (.isub, 1) := by decide +kernel
theorem dL_law_215 : decode cL_law 215 = .ok (.if_icmp .eq 5, 3) := by decide +kernel
theorem dL_law_218 : decode cL_law 218 = .ok (.iconst 0, 1) := by decide +kernel
theorem dL_law_219 : decode cL_law 219 = .ok (.ireturn, 1) := by decide +kernel
theorem dL_law_220 : decode cL_law 220 = .ok (.iload 9, 2) := by decide +kernel
theorem dL_law_222 : decode cL_law 222 = .ok (.iconst 5, 1) := by decide +kernel
theorem dL_law_223 : decode cL_law 223 = .ok (.ishr, 1) := by decide +kernel
theorem dL_law_224 : decode cL_law 224 = .ok (.iload_n 3, 1) := by decide +kernel
theorem dL_law_225 : decode cL_law 225 = .ok (.invokestatic 15, 3) := by decide +kernel
theorem dL_law_228 : decode cL_law 228 = .ok (.istore 12, 2) := by decide +kernel
theorem dL_law_230 : decode cL_law 230 = .ok (.iload 9, 2) := by decide +kernel
theorem dL_law_232 : decode cL_law 232 = .ok (.bipush 7, 2) := by decide +kernel
theorem dL_law_234 : decode cL_law 234 = .ok (.ishr, 1) := by decide +kernel
theorem dL_law_235 : decode cL_law 235 = .ok (.bipush 6, 2) := by decide +kernel
theorem dL_law_237 : decode cL_law 237 = .ok (.invokestatic 15, 3) := by decide +kernel
theorem dL_law_240 : decode cL_law 240 = .ok (.ifCond .ne 21, 3) := by decide +kernel
theorem dL_law_243 : decode cL_law 243 = .ok (.aload_n 1, 1) := by decide +kernel
theorem dL_law_244 : decode cL_law 244 = .ok (.iload 12, 2) := by decide +kernel
theorem dL_law_246 : decode cL_law 246 = .ok (.iconst 3, 1) := by decide +kernel
theorem dL_law_247 : decode cL_law 247 = .ok (.invokevirtual 58, 3) := by decide +kernel
theorem dL_law_250 : decode cL_law 250 = .ok (.iconst 2, 1) := by decide +kernel
theorem dL_law_251 : decode cL_law 251 = .ok (.if_icmp .eq 10, 3) := by decide +kernel
theorem dL_law_254 : decode cL_law 254 = .ok (.aload_n 1, 1) := by decide +kernel
theorem dL_law_255 : decode cL_law 255 = .ok (.iload 12, 2) := by decide +kernel
theorem dL_law_257 : decode cL_law 257 = .ok (.invokevirtual 61, 3) := by decide +kernel
theorem dL_law_260 : decode cL_law 260 = .ok (.pop, 1) := by decide +kernel
theorem dL_law_261 : decode cL_law 261 = .ok (.iload 9, 2) := by decide +kernel
theorem dL_law_263 : decode cL_law 263 = .ok (.bipush 8, 2) := by decide +kernel
theorem dL_law_265 : decode cL_law 265 = .ok (.ishr, 1) := by decide +kernel
theorem dL_law_266 : decode cL_law 266 = .ok (.bipush 6, 2) := by decide +kernel
theorem dL_law_268 : decode cL_law 268 = .ok (.invokestatic 15, 3) := by decide +kernel
theorem dL_law_271 : decode cL_law 271 = .ok (.ifCond .ne 41, 3) := by decide +kernel
theorem dL_law_274 : decode cL_law 274 = .ok (.aload_n 1, 1) := by decide +kernel
theorem dL_law_275 : decode cL_law 275 = .ok (.iload 12, 2) := by decide +kernel
theorem dL_law_277 : decode cL_law 277 = .ok (.iload 9, 2) := by decide +kernel
theorem dL_law_279 : decode cL_law 279 = .ok (.iconst 4, 1) := by decide +kernel
theorem dL_law_280 : decode cL_law 280 = .ok (.ishr, 1) := by decide +kernel
theorem dL_law_281 : decode cL_law 281 = .ok (.sipush 300, 3) := by decide +kernel
theorem dL_law_284 : decode cL_law 284 = .ok (.invokestatic 15, 3) := by decide +kernel
theorem dL_law_287 : decode cL_law 287 = .ok (.sipush 200, 3) := by decide +kernel
theorem dL_law_290 : decode cL_law 290 = .ok (.isub, 1) := by decide +kernel
theorem dL_law_291 : decode cL_law 291 = .ok (.iload 9, 2) := by decide +kernel
theorem dL_law_293 : decode cL_law 293 = .ok (.bipush 9, 2) := by decide +kernel
theorem dL_law_295 : decode cL_law 295 = .ok (.ishr, 1) := by decide +kernel
theorem dL_law_296 : decode cL_law 296 = .ok (.iconst 2, 1) := by decide +kernel
theorem dL_law_297 : decode cL_law 297 = .ok (.invokestatic 15, 3) := by decide +kernel
theorem dL_law_300 : decode cL_law 300 = .ok (.ifCond .ne 7, 3) := by decide +kernel
theorem dL_law_303 : decode cL_law 303 = .ok (.iconst 1, 1) := by decide +kernel
theorem dL_law_304 : decode cL_law 304 = .ok (.goto 4, 3) := by decide +kernel
theorem dL_law_307 : decode cL_law 307 = .ok (.iconst 0, 1) := by decide +kernel
theorem dL_law_308 : decode cL_law 308 = .ok (.invokevirtual 64, 3) := by decide +kernel
theorem dL_law_311 : decode cL_law 311 = .ok (.pop, 1) := by decide +kernel
theorem dL_law_312 : decode cL_law 312 = .ok (.iload 9, 2) := by decide +kernel
theorem dL_law_314 : decode cL_law 314 = .ok (.bipush 10, 2) := by decide +kernel
theorem dL_law_316 : decode cL_law 316 = .ok (.ishr, 1) := by decide +kernel
theorem dL_law_317 : decode cL_law 317 = .ok (.iconst 5, 1) := by decide +kernel
theorem dL_law_318 : decode cL_law 318 = .ok (.invokestatic 15, 3) := by decide +kernel
theorem dL_law_321 : decode cL_law 321 = .ok (.ifCond .ne 21, 3) := by decide +kernel
theorem dL_law_324 : decode cL_law 324 = .ok (.aload_n 1, 1) := by decide +kernel
theorem dL_law_325 : decode cL_law 325 = .ok (.iload 10, 2) := by decide +kernel
theorem dL_law_327 : decode cL_law 327 = .ok (.iconst 2, 1) := by decide +kernel
theorem dL_law_328 : decode cL_law 328 = .ok (.iload 9, 2) := by decide +kernel
theorem dL_law_330 : decode cL_law 330 = .ok (.bipush 6, 2) := by decide +kernel
theorem dL_law_332 : decode cL_law 332 = .ok (.ishr, 1) := by decide +kernel
theorem dL_law_333 : decode cL_law 333 = .ok (.bipush 30, 2) := by decide +kernel
theorem dL_law_335 : decode cL_law 335 = .ok (.invokestatic 15, 3) := by decide +kernel
theorem dL_law_338 : decode cL_law 338 = .ok (.invokevirtual 68, 3) := by decide +kernel
theorem dL_law_341 : decode cL_law 341 = .ok (.pop, 1) := by decide +kernel
theorem dL_law_342 : decode cL_law 342 = .ok (.iload 9, 2) := by decide +kernel
theorem dL_law_344 : decode cL_law 344 = .ok (.bipush 11, 2) := by decide +kernel
theorem dL_law_346 : decode cL_law 346 = .ok (.ishr, 1) := by decide +kernel
theorem dL_law_347 : decode cL_law 347 = .ok (.bipush 8, 2) := by decide +kernel
theorem dL_law_349 : decode cL_law 349 = .ok (.invokestatic 15, 3) := by decide +kernel
theorem dL_law_352 : decode cL_law 352 = .ok (.ifCond .ne 8, 3) := by decide +kernel
theorem dL_law_355 : decode cL_law 355 = .ok (.aload_n 1, 1) := by decide +kernel
theorem dL_law_356 : decode cL_law 356 = .ok (.invokevirtual 71, 3) := by decide +kernel
theorem dL_law_359 : decode cL_law 359 = .ok (.pop, 1) := by decide +kernel
theorem dL_law_360 : decode cL_law 360 = .ok (.iconst 1, 1) := by decide +kernel
theorem dL_law_361 : decode cL_law 361 = .ok (.iload 9, 2) := by decide +kernel
theorem dL_law_363 : decode cL_law 363 = .ok (.iconst 2, 1) := by decide +kernel
theorem dL_law_364 : decode cL_law 364 = .ok (.ishr, 1) := by decide +kernel
theorem dL_law_365 : decode cL_law 365 = .ok (.bipush 10, 2) := by decide +kernel
theorem dL_law_367 : decode cL_law 367 = .ok (.invokestatic 15, 3) := by decide +kernel
theorem dL_law_370 : decode cL_law 370 = .ok (.iadd, 1) := by decide +kernel
theorem dL_law_371 : decode cL_law 371 = .ok (.istore 13, 2) := by decide +kernel
theorem dL_law_373 : decode cL_law 373 = .ok (.bipush 60, 2) := by decide +kernel
theorem dL_law_375 : decode cL_law 375 = .ok (.newarray .int, 2) := by decide +kernel
theorem dL_law_377 : decode cL_law 377 = .ok (.astore 14, 2) := by decide +kernel
theorem dL_law_379 : decode cL_law 379 = .ok (.iconst 0, 1) := by decide +kernel
theorem dL_law_380 : decode cL_law 380 = .ok (.istore 15, 2) := by decide +kernel
theorem dL_law_382 : decode cL_law 382 = .ok (.iload 15, 2) := by decide +kernel
theorem dL_law_384 : decode cL_law 384 = .ok (.aload_n 1, 1) := by decide +kernel
theorem dL_law_385 : decode cL_law 385 = .ok (.iconst 2, 1) := by decide +kernel
theorem dL_law_386 : decode cL_law 386 = .ok (.invokevirtual 52, 3) := by decide +kernel
theorem dL_law_389 : decode cL_law 389 = .ok (.if_icmp .ge 21, 3) := by decide +kernel
theorem dL_law_392 : decode cL_law 392 = .ok (.aload 14, 2) := by decide +kernel
theorem dL_law_394 : decode cL_law 394 = .ok (.iload 15, 2) := by decide +kernel
theorem dL_law_396 : decode cL_law 396 = .ok (.aload_n 1, 1) := by decide +kernel
theorem dL_law_397 : decode cL_law 397 = .ok (.iload 15, 2) := by decide +kernel
theorem dL_law_399 : decode cL_law 399 = .ok (.iconst 3, 1) := by decide +kernel
theorem dL_law_400 : decode cL_law 400 = .ok (.invokevirtual 75, 3) := by decide +kernel
theorem dL_law_403 : decode cL_law 403 = .ok (.iastore, 1) := by decide +kernel
theorem dL_law_404 : decode cL_law 404 = .ok (.iinc 15 1, 3) := by decide +kernel
theorem dL_law_407 : decode cL_law 407 = .ok (.goto (-25), 3) := by decide +kernel
theorem dL_law_410 : decode cL_law 410 = .ok (.aload_n 1, 1) := by decide +kernel
theorem dL_law_411 : decode cL_law 411 = .ok (.iload 13, 2) := by decide +kernel
theorem dL_law_413 : decode cL_law 413 = .ok (.invokevirtual 78, 3) := by decide +kernel
theorem dL_law_416 : decode cL_law 416 = .ok (.pop, 1) := by decide +kernel
theorem dL_law_417 : decode cL_law 417 = .ok (.iload 7, 2) := by decide +kernel
theorem dL_law_419 : decode cL_law 419 = .ok (.iload 13, 2) := by decide +kernel
theorem dL_law_421 : decode cL_law 421 = .ok (.iadd, 1) := by decide +kernel
theorem dL_law_422 : decode cL_law 422 = .ok (.istore 7, 2) := by decide +kernel
theorem dL_law_424 : decode cL_law 424 = .ok (.iconst 0, 1) := by decide +kernel
theorem dL_law_425 : decode cL_law 425 = .ok (.istore 15, 2) := by decide +kernel
theorem dL_law_427 : decode cL_law 427 = .ok (.iconst 0, 1) := by decide +kernel
theorem dL_law_428 : decode cL_law 428 = .ok (.istore 16, 2) := by decide +kernel
theorem dL_law_430 : decode cL_law 430 = .ok (.iload 16, 2) := by decide +kernel
theorem dL_law_432 : decode cL_law 432 = .ok (.aload_n 1, 1) := by decide +kernel
theorem dL_law_433 : decode cL_law 433 = .ok (.iconst 2, 1) := by decide +kernel
theorem dL_law_434 : decode cL_law 434 = .ok (.invokevirtual 52, 3) := by decide +kernel
theorem dL_law_437 : decode cL_law 437 = .ok (.if_icmp .ge 187, 3) := by decide +kernel
theorem dL_law_440 : decode cL_law 440 = .ok (.aload_n 1, 1) := by decide +kernel
theorem dL_law_441 : decode cL_law 441 = .ok (.iload 16, 2) := by decide +kernel
theorem dL_law_443 : decode cL_law 443 = .ok (.iconst 2, 1) := by decide +kernel
theorem dL_law_444 : decode cL_law 444 = .ok (.invokevirtual 75, 3) := by decide +kernel
theorem dL_law_447 : decode cL_law 447 = .ok (.istore 17, 2) := by decide +kernel
theorem dL_law_449 : decode cL_law 449 = .ok (.aload_n 1, 1) := by decide +kernel
theorem dL_law_450 : decode cL_law 450 = .ok (.iload 16, 2) := by decide +kernel
theorem dL_law_452 : decode cL_law 452 = .ok (.iconst 3, 1) := by decide +kernel
theorem dL_law_453 : decode cL_law 453 = .ok (.invokevirtual 75, 3) := by decide +kernel
theorem dL_law_456 : decode cL_law 456 = .ok (.aload 14, 2) := by decide +kernel
theorem dL_law_458 : decode cL_law 458 = .ok (.iload 16, 2) := by decide +kernel
theorem dL_law_460 : decode cL_law 460 = .ok (.iaload, 1) := by decide +kernel
theorem dL_law_461 : decode cL_law 461 = .ok (.if_icmp .ne 69, 3) := by decide +kernel
theorem dL_law_464 : decode cL_law 464 = .ok (.aload 14, 2) := by decide +kernel
theorem dL_law_466 : decode cL_law 466 = .ok (.iload 16, 2) := by decide +kernel
theorem dL_law_468 : decode cL_law 468 = .ok (.iaload, 1) := by decide +kernel
theorem dL_law_469 : decode cL_law 469 = .ok (.ifCond .lt 16, 3) := by decide +kernel
theorem dL_law_472 : decode cL_law 472 = .ok (.iload 17, 2) := by decide +kernel
theorem dL_law_474 : decode cL_law 474 = .ok (.aload 6, 2) := by decide +kernel
theorem dL_law_476 : decode cL_law 476 = .ok (.iload 16, 2) := by decide +kernel
theorem dL_law_478 : decode cL_law 478 = .ok (.iaload, 1) := by decide +kernel
theorem dL_law_479 : decode cL_law 479 = .ok (.iload 13, 2) := by decide +kernel
theorem dL_law_481 : decode cL_law 481 = .ok (.iadd, 1) := by decide +kernel
theorem dL_law_482 : decode cL_law 482 = .ok (.if_icmp .lt 48, 3) := by decide +kernel
theorem dL_law_485 : decode cL_law 485 = .ok (.aload 14, 2) := by decide +kernel
theorem dL_law_487 : decode cL_law 487 = .ok (.iload 16, 2) := by decide +kernel
theorem dL_law_489 : decode cL_law 489 = .ok (.iaload, 1) := by decide +kernel
theorem dL_law_490 : decode cL_law 490 = .ok (.ifCond .ge 13, 3) := by decide +kernel
theorem dL_law_493 : decode cL_law 493 = .ok (.iload 17, 2) := by decide +kernel
theorem dL_law_495 : decode cL_law 495 = .ok (.aload 6, 2) := by decide +kernel
theorem dL_law_497 : decode cL_law 497 = .ok (.iload 16, 2) := by decide +kernel
theorem dL_law_499 : decode cL_law 499 = .ok (.iaload, 1) := by decide +kernel
theorem dL_law_500 : decode cL_law 500 = .ok (.if_icmp .ne 30, 3) := by decide +kernel
theorem dL_law_503 : decode cL_law 503 = .ok (.aload_n 1, 1) := by decide +kernel
theorem dL_law_504 : decode cL_law 504 = .ok (.iload 16, 2) := by decide +kernel
theorem dL_law_506 : decode cL_law 506 = .ok (.iconst 4, 1) := by decide +kernel
theorem dL_law_507 : decode cL_law 507 = .ok (.invokevirtual 75, 3) := by decide +kernel
theorem dL_law_510 : decode cL_law 510 = .ok (.aload 4, 2) := by decide +kernel
theorem dL_law_512 : decode cL_law 512 = .ok (.iconst 4, 1) := by decide +kernel
theorem dL_law_513 : decode cL_law 513 = .ok (.aload_n 1, 1) := by decide +kernel
theorem dL_law_514 : decode cL_law 514 = .ok (.iload 16, 2) := by decide +kernel
theorem dL_law_516 : decode cL_law 516 = .ok (.iconst 0, 1) := by decide +kernel
theorem dL_law_517 : decode cL_law 517 = .ok (.invokevirtual 75, 3) := by decide +kernel
theorem dL_law_520 : decode cL_law 520 = .ok (.imul, 1) := by decide +kernel
theorem dL_law_521 : decode cL_law 521 = .ok (.iconst 2, 1) := by decide +kernel
theorem dL_law_522 : decode cL_law 522 = .ok (.iadd, 1) := by decide +kernel
theorem dL_law_523 : decode cL_law 523 = .ok (.iaload, 1) := by decide +kernel
theorem dL_law_524 : decode cL_law 524 = .ok (.iload 17, 2) := by decide +kernel
theorem dL_law_526 : decode cL_law 526 = .ok (.isub, 1) := by decide +kernel
theorem dL_law_527 : decode cL_law 527 = .ok (.if_icmp .eq 5, 3) := by decide +kernel
theorem dL_law_530 : decode cL_law 530 = .ok (.iconst 0, 1) := by decide +kernel
theorem dL_law_531 : decode cL_law 531 = .ok (.ireturn, 1) := by decide +kernel
theorem dL_law_532 : decode cL_law 532 = .ok (.aload 6, 2) := by decide +kernel
theorem dL_law_534 : decode cL_law 534 = .ok (.iload 16, 2) := by decide +kernel
theorem dL_law_536 : decode cL_law 536 = .ok (.iload 17, 2) := by decide +kernel
theorem dL_law_538 : decode cL_law 538 = .ok (.iastore, 1) := by decide +kernel
theorem dL_law_539 : decode cL_law 539 = .ok (.iload 15, 2) := by decide +kernel
theorem dL_law_541 : decode cL_law 541 = .ok (.aload 14, 2) := by decide +kernel
theorem dL_law_543 : decode cL_law 543 = .ok (.iload 16, 2) := by decide +kernel
theorem dL_law_545 : decode cL_law 545 = .ok (.iaload, 1) := by decide +kernel
theorem dL_law_546 : decode cL_law 546 = .ok (.ifCond .lt 7, 3) := by decide +kernel
theorem dL_law_549 : decode cL_law 549 = .ok (.iconst 1, 1) := by decide +kernel
theorem dL_law_550 : decode cL_law 550 = .ok (.goto 4, 3) := by decide +kernel
theorem dL_law_553 : decode cL_law 553 = .ok (.iconst 0, 1) := by decide +kernel
theorem dL_law_554 : decode cL_law 554 = .ok (.iadd, 1) := by decide +kernel
theorem dL_law_555 : decode cL_law 555 = .ok (.istore 15, 2) := by decide +kernel
theorem dL_law_557 : decode cL_law 557 = .ok (.iconst 0, 1) := by decide +kernel
theorem dL_law_558 : decode cL_law 558 = .ok (.istore 18, 2) := by decide +kernel
theorem dL_law_560 : decode cL_law 560 = .ok (.iload 18, 2) := by decide +kernel
theorem dL_law_562 : decode cL_law 562 = .ok (.iload 16, 2) := by decide +kernel
theorem dL_law_564 : decode cL_law 564 = .ok (.if_icmp .ge 54, 3) := by decide +kernel
theorem dL_law_567 : decode cL_law 567 = .ok (.aload 14, 2) := by decide +kernel
theorem dL_law_569 : decode cL_law 569 = .ok (.iload 16, 2) := by decide +kernel
theorem dL_law_571 : decode cL_law 571 = .ok (.iaload, 1) := by decide +kernel
theorem dL_law_572 : decode cL_law 572 = .ok (.ifCond .lt 40, 3) := by decide +kernel
theorem dL_law_575 : decode cL_law 575 = .ok (.aload 14, 2) := by decide +kernel
theorem dL_law_577 : decode cL_law 577 = .ok (.iload 18, 2) := by decide +kernel
theorem dL_law_579 : decode cL_law 579 = .ok (.iaload, 1) := by decide +kernel
theorem dL_law_580 : decode cL_law 580 = .ok (.aload 14, 2) := by decide +kernel
theorem dL_law_582 : decode cL_law 582 = .ok (.iload 16, 2) := by decide +kernel
theorem dL_law_584 : decode cL_law 584 = .ok (.iaload, 1) := by decide +kernel
theorem dL_law_585 : decode cL_law 585 = .ok (.if_icmp .ne 27, 3) := by decide +kernel
theorem dL_law_588 : decode cL_law 588 = .ok (.aload 4, 2) := by decide +kernel
theorem dL_law_590 : decode cL_law 590 = .ok (.aload_n 1, 1) := by decide +kernel
theorem dL_law_591 : decode cL_law 591 = .ok (.iload 18, 2) := by decide +kernel
theorem dL_law_593 : decode cL_law 593 = .ok (.iconst 0, 1) := by decide +kernel
theorem dL_law_594 : decode cL_law 594 = .ok (.invokevirtual 75, 3) := by decide +kernel
theorem dL_law_597 : decode cL_law 597 = .ok (.aload_n 1, 1) := by decide +kernel
theorem dL_law_598 : decode cL_law 598 = .ok (.iload 16, 2) := by decide +kernel
theorem dL_law_600 : decode cL_law 600 = .ok (.iconst 0, 1) := by decide +kernel
theorem dL_law_601 : decode cL_law 601 = .ok (.invokevirtual 75, 3) := by decide +kernel
theorem dL_law_604 : decode cL_law 604 = .ok (.invokestatic 81, 3) := by decide +kernel
theorem dL_law_607 : decode cL_law 607 = .ok (.ifCond .ne 5, 3) := by decide +kernel
theorem dL_law_610 : decode cL_law 610 = .ok (.iconst 0, 1) := by decide +kernel
theorem dL_law_611 : decode cL_law 611 = .ok (.ireturn, 1) := by decide +kernel
theorem dL_law_612 : decode cL_law 612 = .ok (.iinc 18 1, 3) := by decide +kernel
theorem dL_law_615 : decode cL_law 615 = .ok (.goto (-55), 3) := by decide +kernel
theorem dL_law_618 : decode cL_law 618 = .ok (.iinc 16 1, 3) := by decide +kernel
theorem dL_law_621 : decode cL_law 621 = .ok (.goto (-191), 3) := by decide +kernel
theorem dL_law_624 : decode cL_law 624 = .ok (.lconst 0, 1) := by decide +kernel
theorem dL_law_625 : decode cL_law 625 = .ok (.lstore 16, 2) := by decide +kernel
theorem dL_law_627 : decode cL_law 627 = .ok (.iconst 0, 1) := by decide +kernel
theorem dL_law_628 : decode cL_law 628 = .ok (.istore 18, 2) := by decide +kernel
theorem dL_law_630 : decode cL_law 630 = .ok (.iconst 0, 1) := by decide +kernel
theorem dL_law_631 : decode cL_law 631 = .ok (.istore 19, 2) := by decide +kernel
theorem dL_law_633 : decode cL_law 633 = .ok (.iconst 0, 1) := by decide +kernel
theorem dL_law_634 : decode cL_law 634 = .ok (.istore 20, 2) := by decide +kernel
theorem dL_law_636 : decode cL_law 636 = .ok (.iload 20, 2) := by decide +kernel
theorem dL_law_638 : decode cL_law 638 = .ok (.iload_n 3, 1) := by decide +kernel
theorem dL_law_639 : decode cL_law 639 = .ok (.if_icmp .ge 110, 3) := by decide +kernel
theorem dL_law_642 : decode cL_law 642 = .ok (.aload_n 1, 1) := by decide +kernel
theorem dL_law_643 : decode cL_law 643 = .ok (.iload 20, 2) := by decide +kernel
theorem dL_law_645 : decode cL_law 645 = .ok (.iconst 4, 1) := by decide +kernel
theorem dL_law_646 : decode cL_law 646 = .ok (.invokevirtual 58, 3) := by decide +kernel
theorem dL_law_649 : decode cL_law 649 = .ok (.ifCond .lt 55, 3) := by decide +kernel
theorem dL_law_652 : decode cL_law 652 = .ok (.aload_n 1, 1) := by decide +kernel
theorem dL_law_653 : decode cL_law 653 = .ok (.iload 20, 2) := by decide +kernel
theorem dL_law_655 : decode cL_law 655 = .ok (.iconst 4, 1) := by decide +kernel
theorem dL_law_656 : decode cL_law 656 = .ok (.invokevirtual 58, 3) := by decide +kernel
theorem dL_law_659 : decode cL_law 659 = .ok (.aload 5, 2) := by decide +kernel
theorem dL_law_661 : decode cL_law 661 = .ok (.iconst 4, 1) := by decide +kernel
theorem dL_law_662 : decode cL_law 662 = .ok (.iload 20, 2) := by decide +kernel
theorem dL_law_664 : decode cL_law 664 = .ok (.imul, 1) := by decide +kernel
theorem dL_law_665 : decode cL_law 665 = .ok (.iaload, 1) := by decide +kernel
theorem dL_law_666 : decode cL_law 666 = .ok (.if_icmp .gt 38, 3) := by decide +kernel
theorem dL_law_669 : decode cL_law 669 = .ok (.aload_n 1, 1) := by decide +kernel
theorem dL_law_670 : decode cL_law 670 = .ok (.iload 20, 2) := by decide +kernel
theorem dL_law_672 : decode cL_law 672 = .ok (.iconst 2, 1) := by decide +kernel
theorem dL_law_673 : decode cL_law 673 = .ok (.invokevirtual 58, 3) := by decide +kernel
theorem dL_law_676 : decode cL_law 676 = .ok (.ifCond .lt 28, 3) := by decide +kernel
theorem dL_law_679 : decode cL_law 679 = .ok (.aload_n 1, 1) := by decide +kernel
theorem dL_law_680 : decode cL_law 680 = .ok (.iload 20, 2) := by decide +kernel
theorem dL_law_682 : decode cL_law 682 = .ok (.iconst 2, 1) := by decide +kernel
theorem dL_law_683 : decode cL_law 683 = .ok (.invokevirtual 58, 3) := by decide +kernel
theorem dL_law_686 : decode cL_law 686 = .ok (.bipush 90, 2) := by decide +kernel
theorem dL_law_688 : decode cL_law 688 = .ok (.if_icmp .gt 16, 3) := by decide +kernel
theorem dL_law_691 : decode cL_law 691 = .ok (.aload_n 1, 1) := by decide +kernel
theorem dL_law_692 : decode cL_law 692 = .ok (.iload 20, 2) := by decide +kernel
theorem dL_law_694 : decode cL_law 694 = .ok (.bipush 6, 2) := by decide +kernel
theorem dL_law_696 : decode cL_law 696 = .ok (.invokevirtual 58, 3) := by decide +kernel
theorem dL_law_699 : decode cL_law 699 = .ok (.iload 7, 2) := by decide +kernel
theorem dL_law_701 : decode cL_law 701 = .ok (.if_icmp .le 5, 3) := by decide +kernel
theorem dL_law_704 : decode cL_law 704 = .ok (.iconst 0, 1) := by decide +kernel
theorem dL_law_705 : decode cL_law 705 = .ok (.ireturn, 1) := by decide +kernel
theorem dL_law_706 : decode cL_law 706 = .ok (.iload 18, 2) := by decide +kernel
theorem dL_law_708 : decode cL_law 708 = .ok (.aload_n 1, 1) := by decide +kernel
theorem dL_law_709 : decode cL_law 709 = .ok (.iload 20, 2) := by decide +kernel
theorem dL_law_711 : decode cL_law 711 = .ok (.iconst 4, 1) := by decide +kernel
theorem dL_law_712 : decode cL_law 712 = .ok (.invokevirtual 58, 3) := by decide +kernel
theorem dL_law_715 : decode cL_law 715 = .ok (.iadd, 1) := by decide +kernel
theorem dL_law_716 : decode cL_law 716 = .ok (.istore 18, 2) := by decide +kernel
theorem dL_law_718 : decode cL_law 718 = .ok (.iload 19, 2) := by decide +kernel
theorem dL_law_720 : decode cL_law 720 = .ok (.aload 5, 2) := by decide +kernel
theorem dL_law_722 : decode cL_law 722 = .ok (.iconst 4, 1) := by decide +kernel
theorem dL_law_723 : decode cL_law 723 = .ok (.iload 20, 2) := by decide +kernel
theorem dL_law_725 : decode cL_law 725 = .ok (.imul, 1) := by decide +kernel
theorem dL_law_726 : decode cL_law 726 = .ok (.iaload, 1) := by decide +kernel
theorem dL_law_727 : decode cL_law 727 = .ok (.iadd, 1) := by decide +kernel
theorem dL_law_728 : decode cL_law 728 = .ok (.istore 19, 2) := by decide +kernel
theorem dL_law_730 : decode cL_law 730 = .ok (.lload 16, 2) := by decide +kernel
theorem dL_law_732 : decode cL_law 732 = .ok (.aload_n 1, 1) := by decide +kernel
theorem dL_law_733 : decode cL_law 733 = .ok (.iload 20, 2) := by decide +kernel
theorem dL_law_735 : decode cL_law 735 = .ok (.iconst 5, 1) := by decide +kernel
theorem dL_law_736 : decode cL_law 736 = .ok (.invokevirtual 58, 3) := by decide +kernel
theorem dL_law_739 : decode cL_law 739 = .ok (.i2l, 1) := by decide +kernel
theorem dL_law_740 : decode cL_law 740 = .ok (.ladd, 1) := by decide +kernel
theorem dL_law_741 : decode cL_law 741 = .ok (.lstore 16, 2) := by decide +kernel
theorem dL_law_743 : decode cL_law 743 = .ok (.iinc 20 1, 3) := by decide +kernel
theorem dL_law_746 : decode cL_law 746 = .ok (.goto (-110), 3) := by decide +kernel
theorem dL_law_749 : decode cL_law 749 = .ok (.iload 19, 2) := by decide +kernel
theorem dL_law_751 : decode cL_law 751 = .ok (.iload 18, 2) := by decide +kernel
theorem dL_law_753 : decode cL_law 753 = .ok (.isub, 1) := by decide +kernel
theorem dL_law_754 : decode cL_law 754 = .ok (.iload 15, 2) := by decide +kernel
theorem dL_law_756 : decode cL_law 756 = .ok (.if_icmp .ne 50, 3) := by decide +kernel
theorem dL_law_759 : decode cL_law 759 = .ok (.aload_n 1, 1) := by decide +kernel
theorem dL_law_760 : decode cL_law 760 = .ok (.iconst 3, 1) := by decide +kernel
theorem dL_law_761 : decode cL_law 761 = .ok (.invokevirtual 52, 3) := by decide +kernel
theorem dL_law_764 : decode cL_law 764 = .ok (.iload 15, 2) := by decide +kernel
theorem dL_law_766 : decode cL_law 766 = .ok (.if_icmp .ne 40, 3) := by decide +kernel
theorem dL_law_769 : decode cL_law 769 = .ok (.aload_n 1, 1) := by decide +kernel
theorem dL_law_770 : decode cL_law 770 = .ok (.invokevirtual 85, 3) := by decide +kernel
theorem dL_law_773 : decode cL_law 773 = .ok (.ldc2_w 89, 3) := by decide +kernel
theorem dL_law_776 : decode cL_law 776 = .ok (.lload 16, 2) := by decide +kernel
theorem dL_law_778 : decode cL_law 778 = .ok (.lmul, 1) := by decide +kernel
theorem dL_law_779 : decode cL_law 779 = .ok (.lcmp, 1) := by decide +kernel
theorem dL_law_780 : decode cL_law 780 = .ok (.ifCond .lt 26, 3) := by decide +kernel
theorem dL_law_783 : decode cL_law 783 = .ok (.aload_n 1, 1) := by decide +kernel
theorem dL_law_784 : decode cL_law 784 = .ok (.invokevirtual 85, 3) := by decide +kernel
theorem dL_law_787 : decode cL_law 787 = .ok (.ldc2_w 91, 3) := by decide +kernel
theorem dL_law_790 : decode cL_law 790 = .ok (.lload 16, 2) := by decide +kernel
theorem dL_law_792 : decode cL_law 792 = .ok (.lmul, 1) := by decide +kernel
theorem dL_law_793 : decode cL_law 793 = .ok (.lcmp, 1) := by decide +kernel
theorem dL_law_794 : decode cL_law 794 = .ok (.ifCond .gt 12, 3) := by decide +kernel
theorem dL_law_797 : decode cL_law 797 = .ok (.aload_n 1, 1) := by decide +kernel
theorem dL_law_798 : decode cL_law 798 = .ok (.invokevirtual 93, 3) := by decide +kernel
theorem dL_law_801 : decode cL_law 801 = .ok (.iload 7, 2) := by decide +kernel
theorem dL_law_803 : decode cL_law 803 = .ok (.if_icmp .eq 5, 3) := by decide +kernel
theorem dL_law_806 : decode cL_law 806 = .ok (.iconst 0, 1) := by decide +kernel
theorem dL_law_807 : decode cL_law 807 = .ok (.ireturn, 1) := by decide +kernel
theorem dL_law_808 : decode cL_law 808 = .ok (.iinc 8 1, 3) := by decide +kernel
theorem dL_law_811 : decode cL_law 811 = .ok (.goto (-692), 3) := by decide +kernel
theorem dL_law_814 : decode cL_law 814 = .ok (.iconst 1, 1) := by decide +kernel
theorem dL_law_815 : decode cL_law 815 = .ok (.ireturn, 1) := by decide +kernel
