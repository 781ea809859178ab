theorem dX7_init_0 : decode cX7_init 0 = .ok (.aload_n 0, 1) := by decide +kernel
theorem dX7_init_1 : decode cX7_init 1 = .ok (.invokespecial 1, 3) := by decide +kernel
theorem dX7_init_4 : decode cX7_init 4 = .ok (.aload_n 0, 1) := by decide +kernel
theorem dX7_init_5 : decode cX7_init 5 = .ok (.sipush 150, 3) := by decide +kernel
theorem dX7_init_8 : decode cX7_init 8 = .ok (.putfield 7, 3) := by decide +kernel
theorem dX7_init_11 : decode cX7_init 11 = .ok (.aload_n 0, 1) := by decide +kernel
theorem dX7_init_12 : decode cX7_init 12 = .ok (.bipush 24, 2) := by decide +kernel
theorem dX7_init_14 : decode cX7_init 14 = .ok (.newarray .int, 2) := by decide +kernel
theorem dX7_init_16 : decode cX7_init 16 = .ok (.putfield 13, 3) := by decide +kernel
theorem dX7_init_19 : decode cX7_init 19 = .ok (.aload_n 0, 1) := by decide +kernel
theorem dX7_init_20 : decode cX7_init 20 = .ok (.bipush 12, 2) := by decide +kernel
theorem dX7_init_22 : decode cX7_init 22 = .ok (.newarray .int, 2) := by decide +kernel
theorem dX7_init_24 : decode cX7_init 24 = .ok (.putfield 17, 3) := by decide +kernel
theorem dX7_init_27 : decode cX7_init 27 = .ok (.aload_n 0, 1) := by decide +kernel
theorem dX7_init_28 : decode cX7_init 28 = .ok (.bipush 12, 2) := by decide +kernel
theorem dX7_init_30 : decode cX7_init 30 = .ok (.newarray .int, 2) := by decide +kernel
theorem dX7_init_32 : decode cX7_init 32 = .ok (.putfield 20, 3) := by decide +kernel
theorem dX7_init_35 : decode cX7_init 35 = .ok (.aload_n 0, 1) := by decide +kernel
theorem dX7_init_36 : decode cX7_init 36 = .ok (.bipush 12, 2) := by decide +kernel
theorem dX7_init_38 : decode cX7_init 38 = .ok (.newarray .int, 2) := by decide +kernel
theorem dX7_init_40 : decode cX7_init 40 = .ok (.putfield 23, 3) := by decide +kernel
theorem dX7_init_43 : decode cX7_init 43 = .ok (.aload_n 0, 1) := by decide +kernel
theorem dX7_init_44 : decode cX7_init 44 = .ok (.bipush 12, 2) := by decide +kernel
theorem dX7_init_46 : decode cX7_init 46 = .ok (.newarray .int, 2) := by decide +kernel
theorem dX7_init_48 : decode cX7_init 48 = .ok (.putfield 26, 3) := by decide +kernel
theorem dX7_init_51 : decode cX7_init 51 = .ok (.aload_n 0, 1) := by decide +kernel
theorem dX7_init_52 : decode cX7_init 52 = .ok (.bipush 6, 2) := by decide +kernel
theorem dX7_init_54 : decode cX7_init 54 = .ok (.newarray .int, 2) := by decide +kernel
theorem dX7_init_56 : decode cX7_init 56 = .ok (.putfield 29, 3) := by decide +kernel
theorem dX7_init_59 : decode cX7_init 59 = .ok (.aload_n 0, 1) := by decide +kernel
theorem dX7_init_60 : decode cX7_init 60 = .ok (.bipush 6, 2) := by decide +kernel
theorem dX7_init_62 : decode cX7_init 62 = .ok (.newarray .int, 2) := by decide +kernel
theorem dX7_init_64 : decode cX7_init 64 = .ok (.putfield 32, 3) := by decide +kernel
theorem dX7_init_67 : decode cX7_init 67 = .ok (.aload_n 0, 1) := by decide +kernel
theorem dX7_init_68 : decode cX7_init 68 = .ok (.bipush 6, 2) := by decide +kernel
theorem dX7_init_70 : decode cX7_init 70 = .ok (.newarray .int, 2) := by decide +kernel
theorem dX7_init_72 : decode cX7_init 72 = .ok (.putfield 35, 3) := by decide +kernel
theorem dX7_init_75 : decode cX7_init 75 = .ok (.aload_n 0, 1) := by decide +kernel
theorem dX7_init_76 : decode cX7_init 76 = .ok (.bipush 6, 2) := by decide +kernel
theorem dX7_init_78 : decode cX7_init 78 = .ok (.newarray .int, 2) := by decide +kernel
theorem dX7_init_80 : decode cX7_init 80 = .ok (.putfield 38, 3) := by decide +kernel
theorem dX7_init_83 : decode cX7_init 83 = .ok (.aload_n 0, 1) := by decide +kernel
theorem dX7_init_84 : decode cX7_init 84 = .ok (.bipush 6, 2) := by decide +kernel
theorem dX7_init_86 : decode cX7_init 86 = .ok (.newarray .boolean, 2) := by decide +kernel
theorem dX7_init_88 : decode cX7_init 88 = .ok (.putfield 41, 3) := by decide +kernel
theorem dX7_init_91 : decode cX7_init 91 = .ok (.aload_n 0, 1) := by decide +kernel
theorem dX7_init_92 : decode cX7_init 92 = .ok (.bipush 36, 2) := by decide +kernel
theorem dX7_init_94 : decode cX7_init 94 = .ok (.newarray .int, 2) := by decide +kernel
theorem dX7_init_96 : decode cX7_init 96 = .ok (.putfield 45, 3) := by decide +kernel
theorem dX7_init_99 : decode cX7_init 99 = .ok (.aload_n 0, 1) := by decide +kernel
theorem dX7_init_100 : decode cX7_init 100 = .ok (.bipush 60, 2) := by decide +kernel
theorem dX7_init_102 : decode cX7_init 102 = .ok (.newarray .int, 2) := by decide +kernel
theorem dX7_init_104 : decode cX7_init 104 = .ok (.putfield 48, 3) := by decide +kernel
theorem dX7_init_107 : decode cX7_init 107 = .ok (.aload_n 0, 1) := by decide +kernel
theorem dX7_init_108 : decode cX7_init 108 = .ok (.bipush 60, 2) := by decide +kernel
theorem dX7_init_110 : decode cX7_init 110 = .ok (.newarray .int, 2) := by decide +kernel
theorem dX7_init_112 : decode cX7_init 112 = .ok (.putfield 51, 3) := by decide +kernel
theorem dX7_init_115 : decode cX7_init 115 = .ok (.aload_n 0, 1) := by decide +kernel
theorem dX7_init_116 : decode cX7_init 116 = .ok (.bipush 60, 2) := by decide +kernel
theorem dX7_init_118 : decode cX7_init 118 = .ok (.newarray .int, 2) := by decide +kernel
theorem dX7_init_120 : decode cX7_init 120 = .ok (.putfield 54, 3) := by decide +kernel
theorem dX7_init_123 : decode cX7_init 123 = .ok (.aload_n 0, 1) := by decide +kernel
theorem dX7_init_124 : decode cX7_init 124 = .ok (.bipush 60, 2) := by decide +kernel
theorem dX7_init_126 : decode cX7_init 126 = .ok (.newarray .int, 2) := by decide +kernel
theorem dX7_init_128 : decode cX7_init 128 = .ok (.putfield 57, 3) := by decide +kernel
theorem dX7_init_131 : decode cX7_init 131 = .ok (.iconst 0, 1) := by decide +kernel
theorem dX7_init_132 : decode cX7_init 132 = .ok (.istore_n 1, 1) := by decide +kernel
theorem dX7_init_133 : decode cX7_init 133 = .ok (.iload_n 1, 1) := by decide +kernel
theorem dX7_init_134 : decode cX7_init 134 = .ok (.bipush 24, 2) := by decide +kernel
theorem dX7_init_136 : decode cX7_init 136 = .ok (.if_icmp .ge 17, 3) := by decide +kernel
theorem dX7_init_139 : decode cX7_init 139 = .ok (.aload_n 0, 1) := by decide +kernel
theorem dX7_init_140 : decode cX7_init 140 = .ok (.getfield 13, 3) := by decide +kernel
theorem dX7_init_143 : decode cX7_init 143 = .ok (.iload_n 1, 1) := by decide +kernel
theorem dX7_init_144 : decode cX7_init 144 = .ok (.bipush 10, 2) := by decide +kernel
theorem dX7_init_146 : decode cX7_init 146 = .ok (.iastore, 1) := by decide +kernel
theorem dX7_init_147 : decode cX7_init 147 = .ok (.iinc 1 1, 3) := by decide +kernel
theorem dX7_init_150 : decode cX7_init 150 = .ok (.goto (-17), 3) := by decide +kernel
theorem dX7_init_153 : decode cX7_init 153 = .ok (.return_, 1) := by decide +kernel
theorem dX7_thrown_0 : decode cX7_thrown 0 = .ok (.aload_n 0, 1) := by decide +kernel
theorem dX7_thrown_1 : decode cX7_thrown 1 = .ok (.getfield 60, 3) := by decide +kernel
theorem dX7_thrown_4 : decode cX7_thrown 4 = .ok (.ireturn, 1) := by decide +kernel
theorem dX7_no_0 : decode cX7_no 0 = .ok (.aload_n 0, 1) := by decide +kernel
theorem dX7_no_1 : decode cX7_no 1 = .ok (.iload_n 1, 1) := by decide +kernel
theorem dX7_no_2 : decode cX7_no 2 = .ok (.putfield 60, 3) := by decide +kernel
theorem dX7_no_5 : decode cX7_no 5 = .ok (.iconst 0, 1) := by decide +kernel
theorem dX7_no_6 : decode cX7_no 6 = .ok (.ireturn, 1) := by decide +kernel
theorem dX7_isIn_0 : decode cX7_isIn 0 = .ok (.iload_n 0, 1) := by decide +kernel
theorem dX7_isIn_1 : decode cX7_isIn 1 = .ok (.iload_n 1, 1) := by decide +kernel
theorem dX7_isIn_2 : decode cX7_isIn 2 = .ok (.if_icmp .lt 12, 3) := by decide +kernel
theorem dX7_isIn_5 : decode cX7_isIn 5 = .ok (.iload_n 0, 1) := by decide +kernel
theorem dX7_isIn_6 : decode cX7_isIn 6 = .ok (.iload_n 2, 1) := by decide +kernel
theorem dX7_isIn_7 : decode cX7_isIn 7 = .ok (.if_icmp .gt 7, 3) := by decide +kernel
theorem dX7_isIn_10 : decode cX7_isIn 10 = .ok (.iconst 1, 1) := by decide +kernel
theorem dX7_isIn_11 : decode cX7_isIn 11 = .ok (.goto 4, 3) := by decide +kernel
theorem dX7_isIn_14 : decode cX7_isIn 14 = .ok (.iconst 0, 1) := by decide +kernel
theorem dX7_isIn_15 : decode cX7_isIn 15 = .ok (.ireturn, 1) := by decide +kernel
theorem dX7_isProduct_0 : decode cX7_isProduct 0 = .ok (.iload_n 1, 1) := by decide +kernel
theorem dX7_isProduct_1 : decode cX7_isProduct 1 = .ok (.iconst 0, 1) := by decide +kernel
theorem dX7_isProduct_2 : decode cX7_isProduct 2 = .ok (.aload_n 0, 1) := by decide +kernel
theorem dX7_isProduct_3 : decode cX7_isProduct 3 = .ok (.getfield 63, 3) := by decide +kernel
theorem dX7_isProduct_6 : decode cX7_isProduct 6 = .ok (.iconst 1, 1) := by decide +kernel
theorem dX7_isProduct_7 : decode cX7_isProduct 7 = .ok (.isub, 1) := by decide +kernel
theorem dX7_isProduct_8 : decode cX7_isProduct 8 = .ok (.invokestatic 66, 3) := by decide +kernel
theorem dX7_isProduct_11 : decode cX7_isProduct 11 = .ok (.ireturn, 1) := by decide +kernel
theorem dX7_isRoom_0 : decode cX7_isRoom 0 = .ok (.iload_n 1, 1) := by decide +kernel
theorem dX7_isRoom_1 : decode cX7_isRoom 1 = .ok (.iconst 0, 1) := by decide +kernel
theorem dX7_isRoom_2 : decode cX7_isRoom 2 = .ok (.aload_n 0, 1) := by decide +kernel
theorem dX7_isRoom_3 : decode cX7_isRoom 3 = .ok (.getfield 70, 3) := by decide +kernel
theorem dX7_isRoom_6 : decode cX7_isRoom 6 = .ok (.iconst 1, 1) := by decide +kernel
theorem dX7_isRoom_7 : decode cX7_isRoom 7 = .ok (.isub, 1) := by decide +kernel
theorem dX7_isRoom_8 : decode cX7_isRoom 8 = .ok (.invokestatic 66, 3) := by decide +kernel
theorem dX7_isRoom_11 : decode cX7_isRoom 11 = .ok (.ireturn, 1) := by decide +kernel
theorem dX7_isPallet_0 : decode cX7_isPallet 0 = .ok (.iload_n 1, 1) := by decide +kernel
theorem dX7_isPallet_1 : decode cX7_isPallet 1 = .ok (.iconst 0, 1) := by decide +kernel
theorem dX7_isPallet_2 : decode cX7_isPallet 2 = .ok (.aload_n 0, 1) := by decide +kernel
theorem dX7_isPallet_3 : decode cX7_isPallet 3 = .ok (.getfield 73, 3) := by decide +kernel
theorem dX7_isPallet_6 : decode cX7_isPallet 6 = .ok (.iconst 1, 1) := by decide +kernel
theorem dX7_isPallet_7 : decode cX7_isPallet 7 = .ok (.isub, 1) := by decide +kernel
theorem dX7_isPallet_8 : decode cX7_isPallet 8 = .ok (.invokestatic 66, 3) := by decide +kernel
theorem dX7_isPallet_11 : decode cX7_isPallet 11 = .ok (.ireturn, 1) := by decide +kernel
theorem dX7_outsideAt_0 : decode cX7_outsideAt 0 = .ok (.aload_n 0, 1) := by decide +kernel
theorem dX7_outsideAt_1 : decode cX7_outsideAt 1 = .ok (.getfield 7, 3) := by decide +kernel
theorem dX7_outsideAt_4 : decode cX7_outsideAt 4 = .ok (.iload_n 1, 1) := by decide +kernel
theorem dX7_outsideAt_5 : decode cX7_outsideAt 5 = .ok (.bipush 8, 2) := by decide +kernel
theorem dX7_outsideAt_7 : decode cX7_outsideAt 7 = .ok (.bipush 20, 2) := by decide +kernel
theorem dX7_outsideAt_9 : decode cX7_outsideAt 9 = .ok (.invokestatic 66, 3) := by decide +kernel
theorem dX7_outsideAt_12 : decode cX7_outsideAt 12 = .ok (.ifCond .eq 24, 3) := by decide +kernel
theorem dX7_outsideAt_15 : decode cX7_outsideAt 15 = .ok (.aload_n 0, 1) := by decide +kernel
theorem dX7_outsideAt_16 : decode cX7_outsideAt 16 = .ok (.getfield 76, 3) := by decide +kernel
theorem dX7_outsideAt_19 : decode cX7_outsideAt 19 = .ok (.bipush 6, 2) := by decide +kernel
theorem dX7_outsideAt_21 : decode cX7_outsideAt 21 = .ok (.iload_n 1, 1) := by decide +kernel
theorem dX7_outsideAt_22 : decode cX7_outsideAt 22 = .ok (.bipush 14, 2) := by decide +kernel
theorem dX7_outsideAt_24 : decode cX7_outsideAt 24 = .ok (.isub, 1) := by decide +kernel
theorem dX7_outsideAt_25 : decode cX7_outsideAt 25 = .ok (.invokestatic 79, 3) := by decide +kernel
theorem dX7_outsideAt_28 : decode cX7_outsideAt 28 = .ok (.isub, 1) := by decide +kernel
theorem dX7_outsideAt_29 : decode cX7_outsideAt 29 = .ok (.imul, 1) := by decide +kernel
theorem dX7_outsideAt_30 : decode cX7_outsideAt 30 = .ok (.bipush 6, 2) := by decide +kernel
theorem dX7_outsideAt_32 : decode cX7_outsideAt 32 = .ok (.idiv, 1) := by decide +kernel
theorem dX7_outsideAt_33 : decode cX7_outsideAt 33 = .ok (.goto 4, 3) := by decide +kernel
theorem dX7_outsideAt_36 : decode cX7_outsideAt 36 = .ok (.iconst 0, 1) := by decide +kernel
theorem dX7_outsideAt_37 : decode cX7_outsideAt 37 = .ok (.iadd, 1) := by decide +kernel
theorem dX7_outsideAt_38 : decode cX7_outsideAt 38 = .ok (.ireturn, 1) := by decide +kernel
theorem dX7_setOutside_0 : decode cX7_setOutside 0 = .ok (.aload_n 0, 1) := by decide +kernel
theorem dX7_setOutside_1 : decode cX7_setOutside 1 = .ok (.iconst 0, 1) := by decide +kernel
theorem dX7_setOutside_2 : decode cX7_setOutside 2 = .ok (.putfield 60, 3) := by decide +kernel
theorem dX7_setOutside_5 : decode cX7_setOutside 5 = .ok (.iload_n 1, 1) := by decide +kernel
theorem dX7_setOutside_6 : decode cX7_setOutside 6 = .ok (.sipush (-300), 3) := by decide +kernel
theorem dX7_setOutside_9 : decode cX7_setOutside 9 = .ok (.sipush 400, 3) := by decide +kernel
theorem dX7_setOutside_12 : decode cX7_setOutside 12 = .ok (.invokestatic 66, 3) := by decide +kernel
theorem dX7_setOutside_15 : decode cX7_setOutside 15 = .ok (.ifCond .eq 14, 3) := by decide +kernel
theorem dX7_setOutside_18 : decode cX7_setOutside 18 = .ok (.iload_n 2, 1) := by decide +kernel
theorem dX7_setOutside_19 : decode cX7_setOutside 19 = .ok (.iconst 0, 1) := by decide +kernel
theorem dX7_setOutside_20 : decode cX7_setOutside 20 = .ok (.sipush 200, 3) := by decide +kernel
theorem dX7_setOutside_23 : decode cX7_setOutside 23 = .ok (.invokestatic 66, 3) := by decide +kernel
theorem dX7_setOutside_26 : decode cX7_setOutside 26 = .ok (.ifCond .ne 9, 3) := by decide +kernel
theorem dX7_setOutside_29 : decode cX7_setOutside 29 = .ok (.aload_n 0, 1) := by decide +kernel
theorem dX7_setOutside_30 : decode cX7_setOutside 30 = .ok (.iconst 1, 1) := by decide +kernel
theorem dX7_setOutside_31 : decode cX7_setOutside 31 = .ok (.invokevirtual 85, 3) := by decide +kernel
theorem dX7_setOutside_34 : decode cX7_setOutside 34 = .ok (.ireturn, 1) := by decide +kernel
theorem dX7_setOutside_35 : decode cX7_setOutside 35 = .ok (.aload_n 0, 1) := by decide +kernel
theorem dX7_setOutside_36 : decode cX7_setOutside 36 = .ok (.iload_n 1, 1) := by decide +kernel
theorem dX7_setOutside_37 : decode cX7_setOutside 37 = .ok (.putfield 7, 3) := by decide +kernel
theorem dX7_setOutside_40 : decode cX7_setOutside 40 = .ok (.aload_n 0, 1) := by decide +kernel
theorem dX7_setOutside_41 : decode cX7_setOutside 41 = .ok (.iload_n 2, 1) := by decide +kernel
theorem dX7_setOutside_42 : decode cX7_setOutside 42 = .ok (.putfield 76, 3) := by decide +kernel
theorem dX7_setOutside_45 : decode cX7_setOutside 45 = .ok (.aload_n 0, 1) := by decide +kernel
theorem dX7_setOutside_46 : decode cX7_setOutside 46 = .ok (.aload_n 0, 1) := by decide +kernel
theorem dX7_setOutside_47 : decode cX7_setOutside 47 = .ok (.getfield 88, 3) := by decide +kernel
theorem dX7_setOutside_50 : decode cX7_setOutside 50 = .ok (.bipush 24, 2) := by decide +kernel
theorem dX7_setOutside_52 : decode cX7_setOutside 52 = .ok (.irem, 1) := by decide +kernel
theorem dX7_setOutside_53 : decode cX7_setOutside 53 = .ok (.invokevirtual 91, 3) := by decide +kernel
theorem dX7_setOutside_56 : decode cX7_setOutside 56 = .ok (.ireturn, 1) := by decide +kernel
theorem dX7_outside_0 : decode cX7_outside 0 = .ok (.aload_n 0, 1) := by decide +kernel
theorem dX7_outside_1 : decode cX7_outside 1 = .ok (.iconst 0, 1) := by decide +kernel
theorem dX7_outside_2 : decode cX7_outside 2 = .ok (.putfield 60, 3) := by decide +kernel
theorem dX7_outside_5 : decode cX7_outside 5 = .ok (.iload_n 1, 1) := by decide +kernel
theorem dX7_outside_6 : decode cX7_outside 6 = .ok (.iconst 0, 1) := by decide +kernel
theorem dX7_outside_7 : decode cX7_outside 7 = .ok (.bipush 23, 2) := by decide +kernel
theorem dX7_outside_9 : decode cX7_outside 9 = .ok (.invokestatic 66, 3) := by decide +kernel
theorem dX7_outside_12 : decode cX7_outside 12 = .ok (.ifCond .eq 11, 3) := by decide +kernel
theorem dX7_outside_15 : decode cX7_outside 15 = .ok (.aload_n 0, 1) := by decide +kernel
theorem dX7_outside_16 : decode cX7_outside 16 = .ok (.iload_n 1, 1) := by decide +kernel
theorem dX7_outside_17 : decode cX7_outside 17 = .ok (.invokevirtual 91, 3) := by decide +kernel
theorem dX7_outside_20 : decode cX7_outside 20 = .ok (.goto 8, 3) := by decide +kernel
theorem dX7_outside_23 : decode cX7_outside 23 = .ok (.aload_n 0, 1) := by decide +kernel
theorem dX7_outside_24 : decode cX7_outside 24 = .ok (.iconst 1, 1) := by decide +kernel
theorem dX7_outside_25 : decode cX7_outside 25 = .ok (.invokevirtual 85, 3) := by decide +kernel
theorem dX7_outside_28 : decode cX7_outside 28 = .ok (.ireturn, 1) := by decide +kernel
theorem dX7_lowest_0 : decode cX7_lowest 0 = .ok (.aload_n 0, 1) := by decide +kernel
theorem dX7_lowest_1 : decode cX7_lowest 1 = .ok (.getfield 13, 3) := by decide +kernel
theorem dX7_lowest_4 : decode cX7_lowest 4 = .ok (.iconst 0, 1) := by decide +kernel
theorem dX7_lowest_5 : decode cX7_lowest 5 = .ok (.iaload, 1) := by decide +kernel
theorem dX7_lowest_6 : decode cX7_lowest 6 = .ok (.istore_n 1, 1) := by decide +kernel
theorem dX7_lowest_7 : decode cX7_lowest 7 = .ok (.aload_n 0, 1) := by decide +kernel
theorem dX7_lowest_8 : decode cX7_lowest 8 = .ok (.getfield 13, 3) := by decide +kernel
theorem dX7_lowest_11 : decode cX7_lowest 11 = .ok (.astore_n 2, 1) := by decide +kernel
theorem dX7_lowest_12 : decode cX7_lowest 12 = .ok (.aload_n 2, 1) := by decide +kernel
theorem dX7_lowest_13 : decode cX7_lowest 13 = .ok (.arraylength, 1) := by decide +kernel
theorem dX7_lowest_14 : decode cX7_lowest 14 = .ok (.istore_n 3, 1) := by decide +kernel
theorem dX7_lowest_15 : decode cX7_lowest 15 = .ok (.iconst 0, 1) := by decide +kernel
theorem dX7_lowest_16 : decode cX7_lowest 16 = .ok (.istore 4, 2) := by decide +kernel
theorem dX7_lowest_18 : decode cX7_lowest 18 = .ok (.iload 4, 2) := by decide +kernel
theorem dX7_lowest_20 : decode cX7_lowest 20 = .ok (.iload_n 3, 1) := by decide +kernel
theorem dX7_lowest_21 : decode cX7_lowest 21 = .ok (.if_icmp .ge 22, 3) := by decide +kernel
theorem dX7_lowest_24 : decode cX7_lowest 24 = .ok (.aload_n 2, 1) := by decide +kernel
theorem dX7_lowest_25 : decode cX7_lowest 25 = .ok (.iload 4, 2) := by decide +kernel
theorem dX7_lowest_27 : decode cX7_lowest 27 = .ok (.iaload, 1) := by decide +kernel
theorem dX7_lowest_28 : decode cX7_lowest 28 = .ok (.istore 5, 2) := by decide +kernel
theorem dX7_lowest_30 : decode cX7_lowest 30 = .ok (.iload_n 1, 1) := by decide +kernel
theorem dX7_lowest_31 : decode cX7_lowest 31 = .ok (.iload 5, 2) := by decide +kernel
theorem dX7_lowest_33 : decode cX7_lowest 33 = .ok (.invokestatic 94, 3) := by decide +kernel
theorem dX7_lowest_36 : decode cX7_lowest 36 = .ok (.istore_n 1, 1) := by decide +kernel
theorem dX7_lowest_37 : decode cX7_lowest 37 = .ok (.iinc 4 1, 3) := by decide +kernel
theorem dX7_lowest_40 : decode cX7_lowest 40 = .ok (.goto (-22), 3) := by decide +kernel
theorem dX7_lowest_43 : decode cX7_lowest 43 = .ok (.iload_n 1, 1) := by decide +kernel
theorem dX7_lowest_44 : decode cX7_lowest 44 = .ok (.ireturn, 1) := by decide +kernel
theorem dX7_setPrice_0 : decode cX7_setPrice 0 = .ok (.aload_n 0, 1) := by decide +kernel
theorem dX7_setPrice_1 : decode cX7_setPrice 1 = .ok (.iconst 0, 1) := by decide +kernel
theorem dX7_setPrice_2 : decode cX7_setPrice 2 = .ok (.putfield 60, 3) := by decide +kernel
theorem dX7_setPrice_5 : decode cX7_setPrice 5 = .ok (.iload_n 1, 1) := by decide +kernel
theorem dX7_setPrice_6 : decode cX7_setPrice 6 = .ok (.ifCond .lt 24, 3) := by decide +kernel
theorem dX7_setPrice_9 : decode cX7_setPrice 9 = .ok (.iload_n 1, 1) := by decide +kernel
theorem dX7_setPrice_10 : decode cX7_setPrice 10 = .ok (.iload_n 2, 1) := by decide +kernel
theorem dX7_setPrice_11 : decode cX7_setPrice 11 = .ok (.if_icmp .gt 19, 3) := by decide +kernel
theorem dX7_setPrice_14 : decode cX7_setPrice 14 = .ok (.iload_n 2, 1) := by decide +kernel
theorem dX7_setPrice_15 : decode cX7_setPrice 15 = .ok (.bipush 24, 2) := by decide +kernel
theorem dX7_setPrice_17 : decode cX7_setPrice 17 = .ok (.if_icmp .ge 13, 3) := by decide +kernel
theorem dX7_setPrice_20 : decode cX7_setPrice 20 = .ok (.iload_n 3, 1) := by decide +kernel
theorem dX7_setPrice_21 : decode cX7_setPrice 21 = .ok (.iconst 1, 1) := by decide +kernel
theorem dX7_setPrice_22 : decode cX7_setPrice 22 = .ok (.bipush 100, 2) := by decide +kernel
theorem dX7_setPrice_24 : decode cX7_setPrice 24 = .ok (.invokestatic 66, 3) := by decide +kernel
theorem dX7_setPrice_27 : decode cX7_setPrice 27 = .ok (.ifCond .ne 9, 3) := by decide +kernel
theorem dX7_setPrice_30 : decode cX7_setPrice 30 = .ok (.aload_n 0, 1) := by decide +kernel
theorem dX7_setPrice_31 : decode cX7_setPrice 31 = .ok (.iconst 1, 1) := by decide +kernel
theorem dX7_setPrice_32 : decode cX7_setPrice 32 = .ok (.invokevirtual 85, 3) := by decide +kernel
theorem dX7_setPrice_35 : decode cX7_setPrice 35 = .ok (.ireturn, 1) := by decide +kernel
theorem dX7_setPrice_36 : decode cX7_setPrice 36 = .ok (.iload_n 1, 1) := by decide +kernel
theorem dX7_setPrice_37 : decode cX7_setPrice 37 = .ok (.istore 4, 2) := by decide +kernel
theorem dX7_setPrice_39 : decode cX7_setPrice 39 = .ok (.iload 4, 2) := by decide +kernel
theorem dX7_setPrice_41 : decode cX7_setPrice 41 = .ok (.iload_n 2, 1) := by decide +kernel
theorem dX7_setPrice_42 : decode cX7_setPrice 42 = .ok (.if_icmp .gt 17, 3) := by decide +kernel
theorem dX7_setPrice_45 : decode cX7_setPrice 45 = .ok (.aload_n 0, 1) := by decide +kernel
theorem dX7_setPrice_46 : decode cX7_setPrice 46 = .ok (.getfield 13, 3) := by decide +kernel
theorem dX7_setPrice_49 : decode cX7_setPrice 49 = .ok (.iload 4, 2) := by decide +kernel
theorem dX7_setPrice_51 : decode cX7_setPrice 51 = .ok (.iload_n 3, 1) := by decide +kernel
theorem dX7_setPrice_52 : decode cX7_setPrice 52 = .ok (.iastore, 1) := by decide +kernel
theorem dX7_setPrice_53 : decode cX7_setPrice 53 = .ok (.iinc 4 1, 3) := by decide +kernel
theorem dX7_setPrice_56 : decode cX7_setPrice 56 = .ok (.goto (-17), 3) := by decide +kernel
theorem dX7_setPrice_59 : decode cX7_setPrice 59 = .ok (.aload_n 0, 1) := by decide +kernel
theorem dX7_setPrice_60 : decode cX7_setPrice 60 = .ok (.invokevirtual 98, 3) := by decide +kernel
theorem dX7_setPrice_63 : decode cX7_setPrice 63 = .ok (.ireturn, 1) := by decide +kernel
theorem dX7_addProduct_0 : decode cX7_addProduct 0 = .ok (.aload_n 0, 1) := by decide +kernel
theorem dX7_addProduct_1 : decode cX7_addProduct 1 = .ok (.iconst 0, 1) := by decide +kernel
theorem dX7_addProduct_2 : decode cX7_addProduct 2 = .ok (.putfield 60, 3) := by decide +kernel
theorem dX7_addProduct_5 : decode cX7_addProduct 5 = .ok (.iload_n 1, 1) := by decide +kernel
theorem dX7_addProduct_6 : decode cX7_addProduct 6 = .ok (.sipush (-300), 3) := by decide +kernel
theorem dX7_addProduct_9 : decode cX7_addProduct 9 = .ok (.if_icmp .lt 37, 3) := by decide +kernel
theorem dX7_addProduct_12 : decode cX7_addProduct 12 = .ok (.iload_n 2, 1) := by decide +kernel
theorem dX7_addProduct_13 : decode cX7_addProduct 13 = .ok (.iload_n 1, 1) := by decide +kernel
theorem dX7_addProduct_14 : decode cX7_addProduct 14 = .ok (.if_icmp .lt 32, 3) := by decide +kernel
theorem dX7_addProduct_17 : decode cX7_addProduct 17 = .ok (.iload_n 2, 1) := by decide +kernel
theorem dX7_addProduct_18 : decode cX7_addProduct 18 = .ok (.sipush 200, 3) := by decide +kernel
theorem dX7_addProduct_21 : decode cX7_addProduct 21 = .ok (.if_icmp .gt 25, 3) := by decide +kernel
theorem dX7_addProduct_24 : decode cX7_addProduct 24 = .ok (.iload_n 3, 1) := by decide +kernel
theorem dX7_addProduct_25 : decode cX7_addProduct 25 = .ok (.bipush 10, 2) := by decide +kernel
theorem dX7_addProduct_27 : decode cX7_addProduct 27 = .ok (.sipush 5000, 3) := by decide +kernel
theorem dX7_addProduct_30 : decode cX7_addProduct 30 = .ok (.invokestatic 66, 3) := by decide +kernel
theorem dX7_addProduct_33 : decode cX7_addProduct 33 = .ok (.ifCond .eq 13, 3) := by decide +kernel
theorem dX7_addProduct_36 : decode cX7_addProduct 36 = .ok (.iload 4, 2) := by decide +kernel
theorem dX7_addProduct_38 : decode cX7_addProduct 38 = .ok (.iconst 0, 1) := by decide +kernel
theorem dX7_addProduct_39 : decode cX7_addProduct 39 = .ok (.iconst 3, 1) := by decide +kernel
theorem dX7_addProduct_40 : decode cX7_addProduct 40 = .ok (.invokestatic 66, 3) := by decide +kernel
theorem dX7_addProduct_43 : decode cX7_addProduct 43 = .ok (.ifCond .ne 9, 3) := by decide +kernel
theorem dX7_addProduct_46 : decode cX7_addProduct 46 = .ok (.aload_n 0, 1) := by decide +kernel
theorem dX7_addProduct_47 : decode cX7_addProduct 47 = .ok (.iconst 1, 1) := by decide +kernel
theorem dX7_addProduct_48 : decode cX7_addProduct 48 = .ok (.invokevirtual 85, 3) := by decide +kernel
theorem dX7_addProduct_51 : decode cX7_addProduct 51 = .ok (.ireturn, 1) := by decide +kernel
theorem dX7_addProduct_52 : decode cX7_addProduct 52 = .ok (.aload_n 0, 1) := by decide +kernel
theorem dX7_addProduct_53 : decode cX7_addProduct 53 = .ok (.getfield 63, 3) := by decide +kernel
theorem dX7_addProduct_56 : decode cX7_addProduct 56 = .ok (.bipush 12, 2) := by decide +kernel
theorem dX7_addProduct_58 : decode cX7_addProduct 58 = .ok (.if_icmp .ne 9, 3) := by decide +kernel
theorem dX7_addProduct_61 : decode cX7_addProduct 61 = .ok (.aload_n 0, 1) := by decide +kernel
theorem dX7_addProduct_62 : decode cX7_addProduct 62 = .ok (.iconst 2, 1) := by decide +kernel
theorem dX7_addProduct_63 : decode cX7_addProduct 63 = .ok (.invokevirtual 85, 3) := by decide +kernel
theorem dX7_addProduct_66 : decode cX7_addProduct 66 = .ok (.ireturn, 1) := by decide +kernel
theorem dX7_addProduct_67 : decode cX7_addProduct 67 = .ok (.aload_n 0, 1) := by decide +kernel
theorem dX7_addProduct_68 : decode cX7_addProduct 68 = .ok (.getfield 17, 3) := by decide +kernel
theorem dX7_addProduct_71 : decode cX7_addProduct 71 = .ok (.aload_n 0, 1) := by decide +kernel
theorem dX7_addProduct_72 : decode cX7_addProduct 72 = .ok (.getfield 63, 3) := by decide +kernel
theorem dX7_addProduct_75 : decode cX7_addProduct 75 = .ok (.iload_n 1, 1) := by decide +kernel
theorem dX7_addProduct_76 : decode cX7_addProduct 76 = .ok (.iastore, 1) := by decide +kernel
theorem dX7_addProduct_77 : decode cX7_addProduct 77 = .ok (.aload_n 0, 1) := by decide +kernel
theorem dX7_addProduct_78 : decode cX7_addProduct 78 = .ok (.getfield 20, 3) := by decide +kernel
theorem dX7_addProduct_81 : decode cX7_addProduct 81 = .ok (.aload_n 0, 1) := by decide +kernel
theorem dX7_addProduct_82 : decode cX7_addProduct 82 = .ok (.getfield 63, 3) := by decide +kernel
theorem dX7_addProduct_85 : decode cX7_addProduct 85 = .ok (.iload_n 2, 1) := by decide +kernel
theorem dX7_addProduct_86 : decode cX7_addProduct 86 = .ok (.iastore, 1) := by decide +kernel
theorem dX7_addProduct_87 : decode cX7_addProduct 87 = .ok (.aload_n 0, 1) := by decide +kernel
theorem dX7_addProduct_88 : decode cX7_addProduct 88 = .ok (.getfield 23, 3) := by decide +kernel
theorem dX7_addProduct_91 : decode cX7_addProduct 91 = .ok (.aload_n 0, 1) := by decide +kernel
theorem dX7_addProduct_92 : decode cX7_addProduct 92 = .ok (.getfield 63, 3) := by decide +kernel
theorem dX7_addProduct_95 : decode cX7_addProduct 95 = .ok (.iload_n 3, 1) := by decide +kernel
theorem dX7_addProduct_96 : decode cX7_addProduct 96 = .ok (.iastore, 1) := by decide +kernel
theorem dX7_addProduct_97 : decode cX7_addProduct 97 = .ok (.aload_n 0, 1) := by decide +kernel
theorem dX7_addProduct_98 : decode cX7_addProduct 98 = .ok (.getfield 26, 3) := by decide +kernel
theorem dX7_addProduct_101 : decode cX7_addProduct 101 = .ok (.aload_n 0, 1) := by decide +kernel
theorem dX7_addProduct_102 : decode cX7_addProduct 102 = .ok (.getfield 63, 3) := by decide +kernel
theorem dX7_addProduct_105 : decode cX7_addProduct 105 = .ok (.iload 4, 2) := by decide +kernel
theorem dX7_addProduct_107 : decode cX7_addProduct 107 = .ok (.iastore, 1) := by decide +kernel
theorem dX7_addProduct_108 : decode cX7_addProduct 108 = .ok (.aload_n 0, 1) := by decide +kernel
theorem dX7_addProduct_109 : decode cX7_addProduct 109 = .ok (.dup, 1) := by decide +kernel
theorem dX7_addProduct_110 : decode cX7_addProduct 110 = .ok (.getfield 63, 3) := by decide +kernel
theorem dX7_addProduct_113 : decode cX7_addProduct 113 = .ok (.iconst 1, 1) := by decide +kernel
theorem dX7_addProduct_114 : decode cX7_addProduct 114 = .ok (.iadd, 1) := by decide +kernel
theorem dX7_addProduct_115 : decode cX7_addProduct 115 = .ok (.putfield 63, 3) := by decide +kernel
theorem dX7_addProduct_118 : decode cX7_addProduct 118 = .ok (.aload_n 0, 1) := by decide +kernel
theorem dX7_addProduct_119 : decode cX7_addProduct 119 = .ok (.getfield 63, 3) := by decide +kernel
theorem dX7_addProduct_122 : decode cX7_addProduct 122 = .ok (.iconst 1, 1) := by decide +kernel
theorem dX7_addProduct_123 : decode cX7_addProduct 123 = .ok (.isub, 1) := by decide +kernel
theorem dX7_addProduct_124 : decode cX7_addProduct 124 = .ok (.ireturn, 1) := by decide +kernel
theorem dX7_isAim_0 : decode cX7_isAim 0 = .ok (.iload_n 0, 1) := by decide +kernel
theorem dX7_isAim_1 : decode cX7_isAim 1 = .ok (.sipush (-300), 3) := by decide +kernel
theorem dX7_isAim_4 : decode cX7_isAim 4 = .ok (.sipush 150, 3) := by decide +kernel
theorem dX7_isAim_7 : decode cX7_isAim 7 = .ok (.invokestatic 66, 3) := by decide +kernel
theorem dX7_isAim_10 : decode cX7_isAim 10 = .ok (.ireturn, 1) := by decide +kernel
theorem dX7_addRoom_0 : decode cX7_addRoom 0 = .ok (.aload_n 0, 1) := by decide +kernel
theorem dX7_addRoom_1 : decode cX7_addRoom 1 = .ok (.iconst 0, 1) := by decide +kernel
theorem dX7_addRoom_2 : decode cX7_addRoom 2 = .ok (.putfield 60, 3) := by decide +kernel
theorem dX7_addRoom_5 : decode cX7_addRoom 5 = .ok (.iload_n 1, 1) := by decide +kernel
theorem dX7_addRoom_6 : decode cX7_addRoom 6 = .ok (.iconst 1, 1) := by decide +kernel
theorem dX7_addRoom_7 : decode cX7_addRoom 7 = .ok (.bipush 20, 2) := by decide +kernel
theorem dX7_addRoom_9 : decode cX7_addRoom 9 = .ok (.invokestatic 66, 3) := by decide +kernel
theorem dX7_addRoom_12 : decode cX7_addRoom 12 = .ok (.ifCond .eq 32, 3) := by decide +kernel
theorem dX7_addRoom_15 : decode cX7_addRoom 15 = .ok (.iload_n 2, 1) := by decide +kernel
theorem dX7_addRoom_16 : decode cX7_addRoom 16 = .ok (.iconst 1, 1) := by decide +kernel
theorem dX7_addRoom_17 : decode cX7_addRoom 17 = .ok (.bipush 20, 2) := by decide +kernel
theorem dX7_addRoom_19 : decode cX7_addRoom 19 = .ok (.invokestatic 66, 3) := by decide +kernel
theorem dX7_addRoom_22 : decode cX7_addRoom 22 = .ok (.ifCond .eq 22, 3) := by decide +kernel
theorem dX7_addRoom_25 : decode cX7_addRoom 25 = .ok (.iload_n 3, 1) := by decide +kernel
theorem dX7_addRoom_26 : decode cX7_addRoom 26 = .ok (.iconst 0, 1) := by decide +kernel
theorem dX7_addRoom_27 : decode cX7_addRoom 27 = .ok (.sipush 200, 3) := by decide +kernel
theorem dX7_addRoom_30 : decode cX7_addRoom 30 = .ok (.invokestatic 66, 3) := by decide +kernel
theorem dX7_addRoom_33 : decode cX7_addRoom 33 = .ok (.ifCond .eq 11, 3) := by decide +kernel
theorem dX7_addRoom_36 : decode cX7_addRoom 36 = .ok (.iload 4, 2) := by decide +kernel
theorem dX7_addRoom_38 : decode cX7_addRoom 38 = .ok (.invokestatic 102, 3) := by decide +kernel
theorem dX7_addRoom_41 : decode cX7_addRoom 41 = .ok (.ifCond .ne 9, 3) := by decide +kernel
theorem dX7_addRoom_44 : decode cX7_addRoom 44 = .ok (.aload_n 0, 1) := by decide +kernel
theorem dX7_addRoom_45 : decode cX7_addRoom 45 = .ok (.iconst 1, 1) := by decide +kernel
theorem dX7_addRoom_46 : decode cX7_addRoom 46 = .ok (.invokevirtual 85, 3) := by decide +kernel
theorem dX7_addRoom_49 : decode cX7_addRoom 49 = .ok (.ireturn, 1) := by decide +kernel
theorem dX7_addRoom_50 : decode cX7_addRoom 50 = .ok (.aload_n 0, 1) := by decide +kernel
theorem dX7_addRoom_51 : decode cX7_addRoom 51 = .ok (.getfield 70, 3) := by decide +kernel
theorem dX7_addRoom_54 : decode cX7_addRoom 54 = .ok (.bipush 6, 2) := by decide +kernel
theorem dX7_addRoom_56 : decode cX7_addRoom 56 = .ok (.if_icmp .ne 9, 3) := by decide +kernel
theorem dX7_addRoom_59 : decode cX7_addRoom 59 = .ok (.aload_n 0, 1) := by decide +kernel
theorem dX7_addRoom_60 : decode cX7_addRoom 60 = .ok (.iconst 2, 1) := by decide +kernel
theorem dX7_addRoom_61 : decode cX7_addRoom 61 = .ok (.invokevirtual 85, 3) := by decide +kernel
theorem dX7_addRoom_64 : decode cX7_addRoom 64 = .ok (.ireturn, 1) := by decide +kernel
theorem dX7_addRoom_65 : decode cX7_addRoom 65 = .ok (.aload_n 0, 1) := by decide +kernel
theorem dX7_addRoom_66 : decode cX7_addRoom 66 = .ok (.getfield 29, 3) := by decide +kernel
theorem dX7_addRoom_69 : decode cX7_addRoom 69 = .ok (.aload_n 0, 1) := by decide +kernel
theorem dX7_addRoom_70 : decode cX7_addRoom 70 = .ok (.getfield 70, 3) := by decide +kernel
theorem dX7_addRoom_73 : decode cX7_addRoom 73 = .ok (.iload_n 1, 1) := by decide +kernel
theorem dX7_addRoom_74 : decode cX7_addRoom 74 = .ok (.iastore, 1) := by decide +kernel
theorem dX7_addRoom_75 : decode cX7_addRoom 75 = .ok (.aload_n 0, 1) := by decide +kernel
theorem dX7_addRoom_76 : decode cX7_addRoom 76 = .ok (.getfield 32, 3) := by decide +kernel
theorem dX7_addRoom_79 : decode cX7_addRoom 79 = .ok (.aload_n 0, 1) := by decide +kernel
theorem dX7_addRoom_80 : decode cX7_addRoom 80 = .ok (.getfield 70, 3) := by decide +kernel
theorem dX7_addRoom_83 : decode cX7_addRoom 83 = .ok (.iload_n 2, 1) := by decide +kernel
theorem dX7_addRoom_84 : decode cX7_addRoom 84 = .ok (.iastore, 1) := by decide +kernel
theorem dX7_addRoom_85 : decode cX7_addRoom 85 = .ok (.aload_n 0, 1) := by decide +kernel
theorem dX7_addRoom_86 : decode cX7_addRoom 86 = .ok (.getfield 35, 3) := by decide +kernel
theorem dX7_addRoom_89 : decode cX7_addRoom 89 = .ok (.aload_n 0, 1) := by decide +kernel
theorem dX7_addRoom_90 : decode cX7_addRoom 90 = .ok (.getfield 70, 3) := by decide +kernel
theorem dX7_addRoom_93 : decode cX7_addRoom 93 = .ok (.iload_n 3, 1) := by decide +kernel
theorem dX7_addRoom_94 : decode cX7_addRoom 94 = .ok (.iastore, 1) := by decide +kernel
theorem dX7_addRoom_95 : decode cX7_addRoom 95 = .ok (.aload_n 0, 1) := by decide +kernel
theorem dX7_addRoom_96 : decode cX7_addRoom 96 = .ok (.getfield 38, 3) := by decide +kernel
theorem dX7_addRoom_99 : decode cX7_addRoom 99 = .ok (.aload_n 0, 1) := by decide +kernel
theorem dX7_addRoom_100 : decode cX7_addRoom 100 = .ok (.getfield 70, 3) := by decide +kernel
theorem dX7_addRoom_103 : decode cX7_addRoom 103 = .ok (.iload 4, 2) := by decide +kernel
theorem dX7_addRoom_105 : decode cX7_addRoom 105 = .ok (.iastore, 1) := by decide +kernel
theorem dX7_addRoom_106 : decode cX7_addRoom 106 = .ok (.aload_n 0, 1) := by decide +kernel
theorem dX7_addRoom_107 : decode cX7_addRoom 107 = .ok (.getfield 45, 3) := by decide +kernel
theorem dX7_addRoom_110 : decode cX7_addRoom 110 = .ok (.bipush 6, 2) := by decide +kernel
theorem dX7_addRoom_112 : decode cX7_addRoom 112 = .ok (.aload_n 0, 1) := by decide +kernel
theorem dX7_addRoom_113 : decode cX7_addRoom 113 = .ok (.getfield 70, 3) := by decide +kernel
theorem dX7_addRoom_116 : decode cX7_addRoom 116 = .ok (.imul, 1) := by decide +kernel
theorem dX7_addRoom_117 : decode cX7_addRoom 117 = .ok (.iconst 0, 1) := by decide +kernel
theorem dX7_addRoom_118 : decode cX7_addRoom 118 = .ok (.iadd, 1) := by decide +kernel
theorem dX7_addRoom_119 : decode cX7_addRoom 119 = .ok (.sipush 150, 3) := by decide +kernel
theorem dX7_addRoom_122 : decode cX7_addRoom 122 = .ok (.iastore, 1) := by decide +kernel
theorem dX7_addRoom_123 : decode cX7_addRoom 123 = .ok (.aload_n 0, 1) := by decide +kernel
theorem dX7_addRoom_124 : decode cX7_addRoom 124 = .ok (.dup, 1) := by decide +kernel
theorem dX7_addRoom_125 : decode cX7_addRoom 125 = .ok (.getfield 70, 3) := by decide +kernel
theorem dX7_addRoom_128 : decode cX7_addRoom 128 = .ok (.iconst 1, 1) := by decide +kernel
theorem dX7_addRoom_129 : decode cX7_addRoom 129 = .ok (.iadd, 1) := by decide +kernel
theorem dX7_addRoom_130 : decode cX7_addRoom 130 = .ok (.putfield 70, 3) := by decide +kernel
theorem dX7_addRoom_133 : decode cX7_addRoom 133 = .ok (.aload_n 0, 1) := by decide +kernel
theorem dX7_addRoom_134 : decode cX7_addRoom 134 = .ok (.getfield 70, 3) := by decide +kernel
theorem dX7_addRoom_137 : decode cX7_addRoom 137 = .ok (.iconst 1, 1) := by decide +kernel
theorem dX7_addRoom_138 : decode cX7_addRoom 138 = .ok (.isub, 1) := by decide +kernel
theorem dX7_addRoom_139 : decode cX7_addRoom 139 = .ok (.ireturn, 1) := by decide +kernel
theorem dX7_setRoom_0 : decode cX7_setRoom 0 = .ok (.aload_n 0, 1) := by decide +kernel
theorem dX7_setRoom_1 : decode cX7_setRoom 1 = .ok (.iconst 0, 1) := by decide +kernel
theorem dX7_setRoom_2 : decode cX7_setRoom 2 = .ok (.putfield 60, 3) := by decide +kernel
theorem dX7_setRoom_5 : decode cX7_setRoom 5 = .ok (.aload_n 0, 1) := by decide +kernel
theorem dX7_setRoom_6 : decode cX7_setRoom 6 = .ok (.iload_n 1, 1) := by decide +kernel
theorem dX7_setRoom_7 : decode cX7_setRoom 7 = .ok (.invokevirtual 106, 3) := by decide +kernel
theorem dX7_setRoom_10 : decode cX7_setRoom 10 = .ok (.ifCond .ne 9, 3) := by decide +kernel
theorem dX7_setRoom_13 : decode cX7_setRoom 13 = .ok (.aload_n 0, 1) := by decide +kernel
theorem dX7_setRoom_14 : decode cX7_setRoom 14 = .ok (.iconst 1, 1) := by decide +kernel
theorem dX7_setRoom_15 : decode cX7_setRoom 15 = .ok (.invokevirtual 85, 3) := by decide +kernel
theorem dX7_setRoom_18 : decode cX7_setRoom 18 = .ok (.ireturn, 1) := by decide +kernel
theorem dX7_setRoom_19 : decode cX7_setRoom 19 = .ok (.iload_n 2, 1) := by decide +kernel
theorem dX7_setRoom_20 : decode cX7_setRoom 20 = .ok (.invokestatic 102, 3) := by decide +kernel
theorem dX7_setRoom_23 : decode cX7_setRoom 23 = .ok (.ifCond .ne 9, 3) := by decide +kernel
theorem dX7_setRoom_26 : decode cX7_setRoom 26 = .ok (.aload_n 0, 1) := by decide +kernel
theorem dX7_setRoom_27 : decode cX7_setRoom 27 = .ok (.iconst 2, 1) := by decide +kernel
theorem dX7_setRoom_28 : decode cX7_setRoom 28 = .ok (.invokevirtual 85, 3) := by decide +kernel
theorem dX7_setRoom_31 : decode cX7_setRoom 31 = .ok (.ireturn, 1) := by decide +kernel
theorem dX7_setRoom_32 : decode cX7_setRoom 32 = .ok (.aload_n 0, 1) := by decide +kernel
theorem dX7_setRoom_33 : decode cX7_setRoom 33 = .ok (.getfield 38, 3) := by decide +kernel
theorem dX7_setRoom_36 : decode cX7_setRoom 36 = .ok (.iload_n 1, 1) := by decide +kernel
theorem dX7_setRoom_37 : decode cX7_setRoom 37 = .ok (.iaload, 1) := by decide +kernel
theorem dX7_setRoom_38 : decode cX7_setRoom 38 = .ok (.istore 4, 2) := by decide +kernel
theorem dX7_setRoom_40 : decode cX7_setRoom 40 = .ok (.aload_n 0, 1) := by decide +kernel
theorem dX7_setRoom_41 : decode cX7_setRoom 41 = .ok (.getfield 38, 3) := by decide +kernel
theorem dX7_setRoom_44 : decode cX7_setRoom 44 = .ok (.iload_n 1, 1) := by decide +kernel
theorem dX7_setRoom_45 : decode cX7_setRoom 45 = .ok (.iload_n 2, 1) := by decide +kernel
theorem dX7_setRoom_46 : decode cX7_setRoom 46 = .ok (.iastore, 1) := by decide +kernel
theorem dX7_setRoom_47 : decode cX7_setRoom 47 = .ok (.aload_n 0, 1) := by decide +kernel
theorem dX7_setRoom_48 : decode cX7_setRoom 48 = .ok (.getfield 41, 3) := by decide +kernel
theorem dX7_setRoom_51 : decode cX7_setRoom 51 = .ok (.iload_n 1, 1) := by decide +kernel
theorem dX7_setRoom_52 : decode cX7_setRoom 52 = .ok (.iload_n 3, 1) := by decide +kernel
theorem dX7_setRoom_53 : decode cX7_setRoom 53 = .ok (.bastore, 1) := by decide +kernel
theorem dX7_setRoom_54 : decode cX7_setRoom 54 = .ok (.iload 4, 2) := by decide +kernel
theorem dX7_setRoom_56 : decode cX7_setRoom 56 = .ok (.ireturn, 1) := by decide +kernel
theorem dX7_defrost_0 : decode cX7_defrost 0 = .ok (.aload_n 0, 1) := by decide +kernel
theorem dX7_defrost_1 : decode cX7_defrost 1 = .ok (.iconst 0, 1) := by decide +kernel
theorem dX7_defrost_2 : decode cX7_defrost 2 = .ok (.putfield 60, 3) := by decide +kernel
theorem dX7_defrost_5 : decode cX7_defrost 5 = .ok (.aload_n 0, 1) := by decide +kernel
theorem dX7_defrost_6 : decode cX7_defrost 6 = .ok (.iload_n 1, 1) := by decide +kernel
theorem dX7_defrost_7 : decode cX7_defrost 7 = .ok (.invokevirtual 106, 3) := by decide +kernel
theorem dX7_defrost_10 : decode cX7_defrost 10 = .ok (.ifCond .ne 9, 3) := by decide +kernel
theorem dX7_defrost_13 : decode cX7_defrost 13 = .ok (.aload_n 0, 1) := by decide +kernel
theorem dX7_defrost_14 : decode cX7_defrost 14 = .ok (.iconst 1, 1) := by decide +kernel
theorem dX7_defrost_15 : decode cX7_defrost 15 = .ok (.invokevirtual 85, 3) := by decide +kernel
theorem dX7_defrost_18 : decode cX7_defrost 18 = .ok (.ireturn, 1) := by decide +kernel
theorem dX7_defrost_19 : decode cX7_defrost 19 = .ok (.aload_n 0, 1) := by decide +kernel
theorem dX7_defrost_20 : decode cX7_defrost 20 = .ok (.getfield 45, 3) := by decide +kernel
theorem dX7_defrost_23 : decode cX7_defrost 23 = .ok (.bipush 6, 2) := by decide +kernel
theorem dX7_defrost_25 : decode cX7_defrost 25 = .ok (.iload_n 1, 1) := by decide +kernel
theorem dX7_defrost_26 : decode cX7_defrost 26 = .ok (.imul, 1) := by decide +kernel
theorem dX7_defrost_27 : decode cX7_defrost 27 = .ok (.iconst 2, 1) := by decide +kernel
theorem dX7_defrost_28 : decode cX7_defrost 28 = .ok (.iadd, 1) := by decide +kernel
theorem dX7_defrost_29 : decode cX7_defrost 29 = .ok (.iaload, 1) := by decide +kernel
theorem dX7_defrost_30 : decode cX7_defrost 30 = .ok (.iconst 2, 1) := by decide +kernel
theorem dX7_defrost_31 : decode cX7_defrost 31 = .ok (.if_icmp .ne 9, 3) := by decide +kernel
theorem dX7_defrost_34 : decode cX7_defrost 34 = .ok (.aload_n 0, 1) := by decide +kernel
theorem dX7_defrost_35 : decode cX7_defrost 35 = .ok (.iconst 2, 1) := by decide +kernel
theorem dX7_defrost_36 : decode cX7_defrost 36 = .ok (.invokevirtual 85, 3) := by decide +kernel
theorem dX7_defrost_39 : decode cX7_defrost 39 = .ok (.ireturn, 1) := by decide +kernel
theorem dX7_defrost_40 : decode cX7_defrost 40 = .ok (.aload_n 0, 1) := by decide +kernel
theorem dX7_defrost_41 : decode cX7_defrost 41 = .ok (.getfield 45, 3) := by decide +kernel
theorem dX7_defrost_44 : decode cX7_defrost 44 = .ok (.bipush 6, 2) := by decide +kernel
theorem dX7_defrost_46 : decode cX7_defrost 46 = .ok (.iload_n 1, 1) := by decide +kernel
theorem dX7_defrost_47 : decode cX7_defrost 47 = .ok (.imul, 1) := by decide +kernel
theorem dX7_defrost_48 : decode cX7_defrost 48 = .ok (.iconst 2, 1) := by decide +kernel
theorem dX7_defrost_49 : decode cX7_defrost 49 = .ok (.iadd, 1) := by decide +kernel
theorem dX7_defrost_50 : decode cX7_defrost 50 = .ok (.iconst 2, 1) := by decide +kernel
theorem dX7_defrost_51 : decode cX7_defrost 51 = .ok (.iastore, 1) := by decide +kernel
theorem dX7_defrost_52 : decode cX7_defrost 52 = .ok (.aload_n 0, 1) := by decide +kernel
theorem dX7_defrost_53 : decode cX7_defrost 53 = .ok (.getfield 45, 3) := by decide +kernel
theorem dX7_defrost_56 : decode cX7_defrost 56 = .ok (.bipush 6, 2) := by decide +kernel
theorem dX7_defrost_58 : decode cX7_defrost 58 = .ok (.iload_n 1, 1) := by decide +kernel
theorem dX7_defrost_59 : decode cX7_defrost 59 = .ok (.imul, 1) := by decide +kernel
theorem dX7_defrost_60 : decode cX7_defrost 60 = .ok (.iconst 3, 1) := by decide +kernel
theorem dX7_defrost_61 : decode cX7_defrost 61 = .ok (.iadd, 1) := by decide +kernel
theorem dX7_defrost_62 : decode cX7_defrost 62 = .ok (.iconst 3, 1) := by decide +kernel
theorem dX7_defrost_63 : decode cX7_defrost 63 = .ok (.iastore, 1) := by decide +kernel
theorem dX7_defrost_64 : decode cX7_defrost 64 = .ok (.aload_n 0, 1) := by decide +kernel
theorem dX7_defrost_65 : decode cX7_defrost 65 = .ok (.getfield 45, 3) := by decide +kernel
theorem dX7_defrost_68 : decode cX7_defrost 68 = .ok (.bipush 6, 2) := by decide +kernel
theorem dX7_defrost_70 : decode cX7_defrost 70 = .ok (.iload_n 1, 1) := by decide +kernel
theorem dX7_defrost_71 : decode cX7_defrost 71 = .ok (.imul, 1) := by decide +kernel
theorem dX7_defrost_72 : decode cX7_defrost 72 = .ok (.iconst 1, 1) := by decide +kernel
theorem dX7_defrost_73 : decode cX7_defrost 73 = .ok (.iadd, 1) := by decide +kernel
theorem dX7_defrost_74 : decode cX7_defrost 74 = .ok (.iaload, 1) := by decide +kernel
theorem dX7_defrost_75 : decode cX7_defrost 75 = .ok (.ireturn, 1) := by decide +kernel
theorem dX7_free_0 : decode cX7_free 0 = .ok (.aload_n 0, 1) := by decide +kernel
theorem dX7_free_1 : decode cX7_free 1 = .ok (.getfield 29, 3) := by decide +kernel
theorem dX7_free_4 : decode cX7_free 4 = .ok (.iload_n 1, 1) := by decide +kernel
theorem dX7_free_5 : decode cX7_free 5 = .ok (.iaload, 1) := by decide +kernel
theorem dX7_free_6 : decode cX7_free 6 = .ok (.istore_n 2, 1) := by decide +kernel
theorem dX7_free_7 : decode cX7_free 7 = .ok (.iconst 0, 1) := by decide +kernel
theorem dX7_free_8 : decode cX7_free 8 = .ok (.istore_n 3, 1) := by decide +kernel
theorem dX7_free_9 : decode cX7_free 9 = .ok (.iload_n 3, 1) := by decide +kernel
theorem dX7_free_10 : decode cX7_free 10 = .ok (.aload_n 0, 1) := by decide +kernel
theorem dX7_free_11 : decode cX7_free 11 = .ok (.getfield 73, 3) := by decide +kernel
theorem dX7_free_14 : decode cX7_free 14 = .ok (.if_icmp .ge 27, 3) := by decide +kernel
theorem dX7_free_17 : decode cX7_free 17 = .ok (.iload_n 2, 1) := by decide +kernel
theorem dX7_free_18 : decode cX7_free 18 = .ok (.aload_n 0, 1) := by decide +kernel
theorem dX7_free_19 : decode cX7_free 19 = .ok (.getfield 51, 3) := by decide +kernel
theorem dX7_free_22 : decode cX7_free 22 = .ok (.iload_n 3, 1) := by decide +kernel
theorem dX7_free_23 : decode cX7_free 23 = .ok (.iaload, 1) := by decide +kernel
theorem dX7_free_24 : decode cX7_free 24 = .ok (.iload_n 1, 1) := by decide +kernel
theorem dX7_free_25 : decode cX7_free 25 = .ok (.if_icmp .ne 7, 3) := by decide +kernel
theorem dX7_free_28 : decode cX7_free 28 = .ok (.iconst 1, 1) := by decide +kernel
theorem dX7_free_29 : decode cX7_free 29 = .ok (.goto 4, 3) := by decide +kernel
theorem dX7_free_32 : decode cX7_free 32 = .ok (.iconst 0, 1) := by decide +kernel
theorem dX7_free_33 : decode cX7_free 33 = .ok (.isub, 1) := by decide +kernel
theorem dX7_free_34 : decode cX7_free 34 = .ok (.istore_n 2, 1) := by decide +kernel
theorem dX7_free_35 : decode cX7_free 35 = .ok (.iinc 3 1, 3) := by decide +kernel
theorem dX7_free_38 : decode cX7_free 38 = .ok (.goto (-29), 3) := by decide +kernel
theorem dX7_free_41 : decode cX7_free 41 = .ok (.iload_n 2, 1) := by decide +kernel
theorem dX7_free_42 : decode cX7_free 42 = .ok (.ireturn, 1) := by decide +kernel
theorem dX7_toldOfRoom_0 : decode cX7_toldOfRoom 0 = .ok (.bipush 6, 2) := by decide +kernel
theorem dX7_toldOfRoom_2 : decode cX7_toldOfRoom 2 = .ok (.iload_n 1, 1) := by decide +kernel
theorem dX7_toldOfRoom_3 : decode cX7_toldOfRoom 3 = .ok (.imul, 1) := by decide +kernel
theorem dX7_toldOfRoom_4 : decode cX7_toldOfRoom 4 = .ok (.istore_n 3, 1) := by decide +kernel
theorem dX7_toldOfRoom_5 : decode cX7_toldOfRoom 5 = .ok (.bipush 7, 2) := by decide +kernel
theorem dX7_toldOfRoom_7 : decode cX7_toldOfRoom 7 = .ok (.newarray .int, 2) := by decide +kernel
theorem dX7_toldOfRoom_9 : decode cX7_toldOfRoom 9 = .ok (.dup, 1) := by decide +kernel
theorem dX7_toldOfRoom_10 : decode cX7_toldOfRoom 10 = .ok (.iconst 0, 1) := by decide +kernel
theorem dX7_toldOfRoom_11 : decode cX7_toldOfRoom 11 = .ok (.aload_n 0, 1) := by decide +kernel
theorem dX7_toldOfRoom_12 : decode cX7_toldOfRoom 12 = .ok (.getfield 45, 3) := by decide +kernel
theorem dX7_toldOfRoom_15 : decode cX7_toldOfRoom 15 = .ok (.iload_n 3, 1) := by decide +kernel
theorem dX7_toldOfRoom_16 : decode cX7_toldOfRoom 16 = .ok (.iconst 0, 1) := by decide +kernel
theorem dX7_toldOfRoom_17 : decode cX7_toldOfRoom 17 = .ok (.iadd, 1) := by decide +kernel
theorem dX7_toldOfRoom_18 : decode cX7_toldOfRoom 18 = .ok (.iaload, 1) := by decide +kernel
theorem dX7_toldOfRoom_19 : decode cX7_toldOfRoom 19 = .ok (.iastore, 1) := by decide +kernel
theorem dX7_toldOfRoom_20 : decode cX7_toldOfRoom 20 = .ok (.dup, 1) := by decide +kernel
theorem dX7_toldOfRoom_21 : decode cX7_toldOfRoom 21 = .ok (.iconst 1, 1) := by decide +kernel
theorem dX7_toldOfRoom_22 : decode cX7_toldOfRoom 22 = .ok (.aload_n 0, 1) := by decide +kernel
theorem dX7_toldOfRoom_23 : decode cX7_toldOfRoom 23 = .ok (.getfield 38, 3) := by decide +kernel
theorem dX7_toldOfRoom_26 : decode cX7_toldOfRoom 26 = .ok (.iload_n 1, 1) := by decide +kernel
theorem dX7_toldOfRoom_27 : decode cX7_toldOfRoom 27 = .ok (.iaload, 1) := by decide +kernel
theorem dX7_toldOfRoom_28 : decode cX7_toldOfRoom 28 = .ok (.iastore, 1) := by decide +kernel
theorem dX7_toldOfRoom_29 : decode cX7_toldOfRoom 29 = .ok (.dup, 1) := by decide +kernel
theorem dX7_toldOfRoom_30 : decode cX7_toldOfRoom 30 = .ok (.iconst 2, 1) := by decide +kernel
theorem dX7_toldOfRoom_31 : decode cX7_toldOfRoom 31 = .ok (.aload_n 0, 1) := by decide +kernel
theorem dX7_toldOfRoom_32 : decode cX7_toldOfRoom 32 = .ok (.getfield 45, 3) := by decide +kernel
theorem dX7_toldOfRoom_35 : decode cX7_toldOfRoom 35 = .ok (.iload_n 3, 1) := by decide +kernel
theorem dX7_toldOfRoom_36 : decode cX7_toldOfRoom 36 = .ok (.iconst 1, 1) := by decide +kernel
theorem dX7_toldOfRoom_37 : decode cX7_toldOfRoom 37 = .ok (.iadd, 1) := by decide +kernel
theorem dX7_toldOfRoom_38 : decode cX7_toldOfRoom 38 = .ok (.iaload, 1) := by decide +kernel
theorem dX7_toldOfRoom_39 : decode cX7_toldOfRoom 39 = .ok (.iastore, 1) := by decide +kernel
theorem dX7_toldOfRoom_40 : decode cX7_toldOfRoom 40 = .ok (.dup, 1) := by decide +kernel
theorem dX7_toldOfRoom_41 : decode cX7_toldOfRoom 41 = .ok (.iconst 3, 1) := by decide +kernel
theorem dX7_toldOfRoom_42 : decode cX7_toldOfRoom 42 = .ok (.aload_n 0, 1) := by decide +kernel
theorem dX7_toldOfRoom_43 : decode cX7_toldOfRoom 43 = .ok (.getfield 45, 3) := by decide +kernel
theorem dX7_toldOfRoom_46 : decode cX7_toldOfRoom 46 = .ok (.iload_n 3, 1) := by decide +kernel
theorem dX7_toldOfRoom_47 : decode cX7_toldOfRoom 47 = .ok (.iconst 2, 1) := by decide +kernel
theorem dX7_toldOfRoom_48 : decode cX7_toldOfRoom 48 = .ok (.iadd, 1) := by decide +kernel
theorem dX7_toldOfRoom_49 : decode cX7_toldOfRoom 49 = .ok (.iaload, 1) := by decide +kernel
theorem dX7_toldOfRoom_50 : decode cX7_toldOfRoom 50 = .ok (.iastore, 1) := by decide +kernel
theorem dX7_toldOfRoom_51 : decode cX7_toldOfRoom 51 = .ok (.dup, 1) := by decide +kernel
theorem dX7_toldOfRoom_52 : decode cX7_toldOfRoom 52 = .ok (.iconst 4, 1) := by decide +kernel
theorem dX7_toldOfRoom_53 : decode cX7_toldOfRoom 53 = .ok (.aload_n 0, 1) := by decide +kernel
theorem dX7_toldOfRoom_54 : decode cX7_toldOfRoom 54 = .ok (.iload_n 1, 1) := by decide +kernel
theorem dX7_toldOfRoom_55 : decode cX7_toldOfRoom 55 = .ok (.invokevirtual 109, 3) := by decide +kernel
theorem dX7_toldOfRoom_58 : decode cX7_toldOfRoom 58 = .ok (.iastore, 1) := by decide +kernel
theorem dX7_toldOfRoom_59 : decode cX7_toldOfRoom 59 = .ok (.dup, 1) := by decide +kernel
theorem dX7_toldOfRoom_60 : decode cX7_toldOfRoom 60 = .ok (.iconst 5, 1) := by decide +kernel
theorem dX7_toldOfRoom_61 : decode cX7_toldOfRoom 61 = .ok (.aload_n 0, 1) := by decide +kernel
theorem dX7_toldOfRoom_62 : decode cX7_toldOfRoom 62 = .ok (.getfield 45, 3) := by decide +kernel
theorem dX7_toldOfRoom_65 : decode cX7_toldOfRoom 65 = .ok (.iload_n 3, 1) := by decide +kernel
theorem dX7_toldOfRoom_66 : decode cX7_toldOfRoom 66 = .ok (.iconst 4, 1) := by decide +kernel
theorem dX7_toldOfRoom_67 : decode cX7_toldOfRoom 67 = .ok (.iadd, 1) := by decide +kernel
theorem dX7_toldOfRoom_68 : decode cX7_toldOfRoom 68 = .ok (.iaload, 1) := by decide +kernel
theorem dX7_toldOfRoom_69 : decode cX7_toldOfRoom 69 = .ok (.iastore, 1) := by decide +kernel
theorem dX7_toldOfRoom_70 : decode cX7_toldOfRoom 70 = .ok (.dup, 1) := by decide +kernel
theorem dX7_toldOfRoom_71 : decode cX7_toldOfRoom 71 = .ok (.bipush 6, 2) := by decide +kernel
theorem dX7_toldOfRoom_73 : decode cX7_toldOfRoom 73 = .ok (.aload_n 0, 1) := by decide +kernel
theorem dX7_toldOfRoom_74 : decode cX7_toldOfRoom 74 = .ok (.getfield 45, 3) := by decide +kernel
theorem dX7_toldOfRoom_77 : decode cX7_toldOfRoom 77 = .ok (.iload_n 3, 1) := by decide +kernel
theorem dX7_toldOfRoom_78 : decode cX7_toldOfRoom 78 = .ok (.iconst 5, 1) := by decide +kernel
theorem dX7_toldOfRoom_79 : decode cX7_toldOfRoom 79 = .ok (.iadd, 1) := by decide +kernel
theorem dX7_toldOfRoom_80 : decode cX7_toldOfRoom 80 = .ok (.iaload, 1) := by decide +kernel
theorem dX7_toldOfRoom_81 : decode cX7_toldOfRoom 81 = .ok (.iastore, 1) := by decide +kernel
theorem dX7_toldOfRoom_82 : decode cX7_toldOfRoom 82 = .ok (.astore 4, 2) := by decide +kernel
theorem dX7_toldOfRoom_84 : decode cX7_toldOfRoom 84 = .ok (.aload 4, 2) := by decide +kernel
theorem dX7_toldOfRoom_86 : decode cX7_toldOfRoom 86 = .ok (.iload_n 2, 1) := by decide +kernel
theorem dX7_toldOfRoom_87 : decode cX7_toldOfRoom 87 = .ok (.iaload, 1) := by decide +kernel
theorem dX7_toldOfRoom_88 : decode cX7_toldOfRoom 88 = .ok (.ireturn, 1) := by decide +kernel
theorem dX7_room_0 : decode cX7_room 0 = .ok (.aload_n 0, 1) := by decide +kernel
theorem dX7_room_1 : decode cX7_room 1 = .ok (.iconst 0, 1) := by decide +kernel
theorem dX7_room_2 : decode cX7_room 2 = .ok (.putfield 60, 3) := by decide +kernel
theorem dX7_room_5 : decode cX7_room 5 = .ok (.aload_n 0, 1) := by decide +kernel
theorem dX7_room_6 : decode cX7_room 6 = .ok (.iload_n 1, 1) := by decide +kernel
theorem dX7_room_7 : decode cX7_room 7 = .ok (.invokevirtual 106, 3) := by decide +kernel
theorem dX7_room_10 : decode cX7_room 10 = .ok (.ifCond .eq 22, 3) := by decide +kernel
theorem dX7_room_13 : decode cX7_room 13 = .ok (.iload_n 2, 1) := by decide +kernel
theorem dX7_room_14 : decode cX7_room 14 = .ok (.iconst 0, 1) := by decide +kernel
theorem dX7_room_15 : decode cX7_room 15 = .ok (.bipush 6, 2) := by decide +kernel
theorem dX7_room_17 : decode cX7_room 17 = .ok (.invokestatic 66, 3) := by decide +kernel
theorem dX7_room_20 : decode cX7_room 20 = .ok (.ifCond .eq 12, 3) := by decide +kernel
theorem dX7_room_23 : decode cX7_room 23 = .ok (.aload_n 0, 1) := by decide +kernel
theorem dX7_room_24 : decode cX7_room 24 = .ok (.iload_n 1, 1) := by decide +kernel
theorem dX7_room_25 : decode cX7_room 25 = .ok (.iload_n 2, 1) := by decide +kernel
theorem dX7_room_26 : decode cX7_room 26 = .ok (.invokevirtual 112, 3) := by decide +kernel
theorem dX7_room_29 : decode cX7_room 29 = .ok (.goto 8, 3) := by decide +kernel
theorem dX7_room_32 : decode cX7_room 32 = .ok (.aload_n 0, 1) := by decide +kernel
theorem dX7_room_33 : decode cX7_room 33 = .ok (.iconst 1, 1) := by decide +kernel
theorem dX7_room_34 : decode cX7_room 34 = .ok (.invokevirtual 85, 3) := by decide +kernel
theorem dX7_room_37 : decode cX7_room 37 = .ok (.ireturn, 1) := by decide +kernel
theorem dX7_goTogether_0 : decode cX7_goTogether 0 = .ok (.iload_n 1, 1) := by decide +kernel
theorem dX7_goTogether_1 : decode cX7_goTogether 1 = .ok (.iload_n 2, 1) := by decide +kernel
theorem dX7_goTogether_2 : decode cX7_goTogether 2 = .ok (.if_icmp .ne 5, 3) := by decide +kernel
theorem dX7_goTogether_5 : decode cX7_goTogether 5 = .ok (.iconst 1, 1) := by decide +kernel
theorem dX7_goTogether_6 : decode cX7_goTogether 6 = .ok (.ireturn, 1) := by decide +kernel
theorem dX7_goTogether_7 : decode cX7_goTogether 7 = .ok (.aload_n 0, 1) := by decide +kernel
theorem dX7_goTogether_8 : decode cX7_goTogether 8 = .ok (.getfield 26, 3) := by decide +kernel
theorem dX7_goTogether_11 : decode cX7_goTogether 11 = .ok (.iload_n 1, 1) := by decide +kernel
theorem dX7_goTogether_12 : decode cX7_goTogether 12 = .ok (.iaload, 1) := by decide +kernel
theorem dX7_goTogether_13 : decode cX7_goTogether 13 = .ok (.iconst 3, 1) := by decide +kernel
theorem dX7_goTogether_14 : decode cX7_goTogether 14 = .ok (.if_icmp .eq 13, 3) := by decide +kernel
theorem dX7_goTogether_17 : decode cX7_goTogether 17 = .ok (.aload_n 0, 1) := by decide +kernel
theorem dX7_goTogether_18 : decode cX7_goTogether 18 = .ok (.getfield 26, 3) := by decide +kernel
theorem dX7_goTogether_21 : decode cX7_goTogether 21 = .ok (.iload_n 2, 1) := by decide +kernel
theorem dX7_goTogether_22 : decode cX7_goTogether 22 = .ok (.iaload, 1) := by decide +kernel
theorem dX7_goTogether_23 : decode cX7_goTogether 23 = .ok (.iconst 3, 1) := by decide +kernel
theorem dX7_goTogether_24 : decode cX7_goTogether 24 = .ok (.if_icmp .ne 5, 3) := by decide +kernel
theorem dX7_goTogether_27 : decode cX7_goTogether 27 = .ok (.iconst 0, 1) := by decide +kernel
theorem dX7_goTogether_28 : decode cX7_goTogether 28 = .ok (.ireturn, 1) := by decide +kernel
theorem dX7_goTogether_29 : decode cX7_goTogether 29 = .ok (.aload_n 0, 1) := by decide +kernel
theorem dX7_goTogether_30 : decode cX7_goTogether 30 = .ok (.getfield 26, 3) := by decide +kernel
theorem dX7_goTogether_33 : decode cX7_goTogether 33 = .ok (.iload_n 1, 1) := by decide +kernel
theorem dX7_goTogether_34 : decode cX7_goTogether 34 = .ok (.iaload, 1) := by decide +kernel
theorem dX7_goTogether_35 : decode cX7_goTogether 35 = .ok (.aload_n 0, 1) := by decide +kernel
theorem dX7_goTogether_36 : decode cX7_goTogether 36 = .ok (.getfield 26, 3) := by decide +kernel
theorem dX7_goTogether_39 : decode cX7_goTogether 39 = .ok (.iload_n 2, 1) := by decide +kernel
theorem dX7_goTogether_40 : decode cX7_goTogether 40 = .ok (.iaload, 1) := by decide +kernel
theorem dX7_goTogether_41 : decode cX7_goTogether 41 = .ok (.iadd, 1) := by decide +kernel
theorem dX7_goTogether_42 : decode cX7_goTogether 42 = .ok (.iconst 3, 1) := by decide +kernel
theorem dX7_goTogether_43 : decode cX7_goTogether 43 = .ok (.if_icmp .eq 7, 3) := by decide +kernel
theorem dX7_goTogether_46 : decode cX7_goTogether 46 = .ok (.iconst 1, 1) := by decide +kernel
theorem dX7_goTogether_47 : decode cX7_goTogether 47 = .ok (.goto 4, 3) := by decide +kernel
theorem dX7_goTogether_50 : decode cX7_goTogether 50 = .ok (.iconst 0, 1) := by decide +kernel
theorem dX7_goTogether_51 : decode cX7_goTogether 51 = .ok (.ireturn, 1) := by decide +kernel
theorem dX7_reasonFor_0 : decode cX7_reasonFor 0 = .ok (.aload_n 0, 1) := by decide +kernel
theorem dX7_reasonFor_1 : decode cX7_reasonFor 1 = .ok (.iload_n 2, 1) := by decide +kernel
theorem dX7_reasonFor_2 : decode cX7_reasonFor 2 = .ok (.invokevirtual 109, 3) := by decide +kernel
theorem dX7_reasonFor_5 : decode cX7_reasonFor 5 = .ok (.ifCond .ne 5, 3) := by decide +kernel
theorem dX7_reasonFor_8 : decode cX7_reasonFor 8 = .ok (.iconst 1, 1) := by decide +kernel
theorem dX7_reasonFor_9 : decode cX7_reasonFor 9 = .ok (.ireturn, 1) := by decide +kernel
theorem dX7_reasonFor_10 : decode cX7_reasonFor 10 = .ok (.iconst 0, 1) := by decide +kernel
theorem dX7_reasonFor_11 : decode cX7_reasonFor 11 = .ok (.istore_n 3, 1) := by decide +kernel
theorem dX7_reasonFor_12 : decode cX7_reasonFor 12 = .ok (.iload_n 3, 1) := by decide +kernel
theorem dX7_reasonFor_13 : decode cX7_reasonFor 13 = .ok (.aload_n 0, 1) := by decide +kernel
theorem dX7_reasonFor_14 : decode cX7_reasonFor 14 = .ok (.getfield 73, 3) := by decide +kernel
theorem dX7_reasonFor_17 : decode cX7_reasonFor 17 = .ok (.if_icmp .ge 35, 3) := by decide +kernel
theorem dX7_reasonFor_20 : decode cX7_reasonFor 20 = .ok (.aload_n 0, 1) := by decide +kernel
theorem dX7_reasonFor_21 : decode cX7_reasonFor 21 = .ok (.getfield 51, 3) := by decide +kernel
theorem dX7_reasonFor_24 : decode cX7_reasonFor 24 = .ok (.iload_n 3, 1) := by decide +kernel
theorem dX7_reasonFor_25 : decode cX7_reasonFor 25 = .ok (.iaload, 1) := by decide +kernel
theorem dX7_reasonFor_26 : decode cX7_reasonFor 26 = .ok (.iload_n 2, 1) := by decide +kernel
theorem dX7_reasonFor_27 : decode cX7_reasonFor 27 = .ok (.if_icmp .ne 19, 3) := by decide +kernel
theorem dX7_reasonFor_30 : decode cX7_reasonFor 30 = .ok (.aload_n 0, 1) := by decide +kernel
theorem dX7_reasonFor_31 : decode cX7_reasonFor 31 = .ok (.iload_n 1, 1) := by decide +kernel
theorem dX7_reasonFor_32 : decode cX7_reasonFor 32 = .ok (.aload_n 0, 1) := by decide +kernel
theorem dX7_reasonFor_33 : decode cX7_reasonFor 33 = .ok (.getfield 48, 3) := by decide +kernel
theorem dX7_reasonFor_36 : decode cX7_reasonFor 36 = .ok (.iload_n 3, 1) := by decide +kernel
theorem dX7_reasonFor_37 : decode cX7_reasonFor 37 = .ok (.iaload, 1) := by decide +kernel
theorem dX7_reasonFor_38 : decode cX7_reasonFor 38 = .ok (.invokevirtual 115, 3) := by decide +kernel
theorem dX7_reasonFor_41 : decode cX7_reasonFor 41 = .ok (.ifCond .ne 5, 3) := by decide +kernel
theorem dX7_reasonFor_44 : decode cX7_reasonFor 44 = .ok (.iconst 2, 1) := by decide +kernel
theorem dX7_reasonFor_45 : decode cX7_reasonFor 45 = .ok (.ireturn, 1) := by decide +kernel
theorem dX7_reasonFor_46 : decode cX7_reasonFor 46 = .ok (.iinc 3 1, 3) := by decide +kernel
theorem dX7_reasonFor_49 : decode cX7_reasonFor 49 = .ok (.goto (-37), 3) := by decide +kernel
theorem dX7_reasonFor_52 : decode cX7_reasonFor 52 = .ok (.iconst 0, 1) := by decide +kernel
theorem dX7_reasonFor_53 : decode cX7_reasonFor 53 = .ok (.ireturn, 1) := by decide +kernel
theorem dX7_reason_0 : decode cX7_reason 0 = .ok (.aload_n 0, 1) := by decide +kernel
theorem dX7_reason_1 : decode cX7_reason 1 = .ok (.iconst 0, 1) := by decide +kernel
theorem dX7_reason_2 : decode cX7_reason 2 = .ok (.putfield 60, 3) := by decide +kernel
theorem dX7_reason_5 : decode cX7_reason 5 = .ok (.aload_n 0, 1) := by decide +kernel
theorem dX7_reason_6 : decode cX7_reason 6 = .ok (.iload_n 1, 1) := by decide +kernel
theorem dX7_reason_7 : decode cX7_reason 7 = .ok (.invokevirtual 119, 3) := by decide +kernel
theorem dX7_reason_10 : decode cX7_reason 10 = .ok (.ifCond .eq 20, 3) := by decide +kernel
theorem dX7_reason_13 : decode cX7_reason 13 = .ok (.aload_n 0, 1) := by decide +kernel
theorem dX7_reason_14 : decode cX7_reason 14 = .ok (.iload_n 2, 1) := by decide +kernel
theorem dX7_reason_15 : decode cX7_reason 15 = .ok (.invokevirtual 106, 3) := by decide +kernel
theorem dX7_reason_18 : decode cX7_reason 18 = .ok (.ifCond .eq 12, 3) := by decide +kernel
theorem dX7_reason_21 : decode cX7_reason 21 = .ok (.aload_n 0, 1) := by decide +kernel
theorem dX7_reason_22 : decode cX7_reason 22 = .ok (.iload_n 1, 1) := by decide +kernel
theorem dX7_reason_23 : decode cX7_reason 23 = .ok (.iload_n 2, 1) := by decide +kernel
theorem dX7_reason_24 : decode cX7_reason 24 = .ok (.invokevirtual 122, 3) := by decide +kernel
theorem dX7_reason_27 : decode cX7_reason 27 = .ok (.goto 8, 3) := by decide +kernel
theorem dX7_reason_30 : decode cX7_reason 30 = .ok (.aload_n 0, 1) := by decide +kernel
theorem dX7_reason_31 : decode cX7_reason 31 = .ok (.iconst 1, 1) := by decide +kernel
theorem dX7_reason_32 : decode cX7_reason 32 = .ok (.invokevirtual 85, 3) := by decide +kernel
theorem dX7_reason_35 : decode cX7_reason 35 = .ok (.ireturn, 1) := by decide +kernel
theorem dX7_arrive_0 : decode cX7_arrive 0 = .ok (.aload_n 0, 1) := by decide +kernel
theorem dX7_arrive_1 : decode cX7_arrive 1 = .ok (.iconst 0, 1) := by decide +kernel
theorem dX7_arrive_2 : decode cX7_arrive 2 = .ok (.putfield 60, 3) := by decide +kernel
theorem dX7_arrive_5 : decode cX7_arrive 5 = .ok (.aload_n 0, 1) := by decide +kernel
theorem dX7_arrive_6 : decode cX7_arrive 6 = .ok (.iload_n 1, 1) := by decide +kernel
theorem dX7_arrive_7 : decode cX7_arrive 7 = .ok (.invokevirtual 119, 3) := by decide +kernel
theorem dX7_arrive_10 : decode cX7_arrive 10 = .ok (.ifCond .eq 11, 3) := by decide +kernel
theorem dX7_arrive_13 : decode cX7_arrive 13 = .ok (.aload_n 0, 1) := by decide +kernel
theorem dX7_arrive_14 : decode cX7_arrive 14 = .ok (.iload_n 2, 1) := by decide +kernel
theorem dX7_arrive_15 : decode cX7_arrive 15 = .ok (.invokevirtual 106, 3) := by decide +kernel
theorem dX7_arrive_18 : decode cX7_arrive 18 = .ok (.ifCond .ne 9, 3) := by decide +kernel
theorem dX7_arrive_21 : decode cX7_arrive 21 = .ok (.aload_n 0, 1) := by decide +kernel
theorem dX7_arrive_22 : decode cX7_arrive 22 = .ok (.iconst 1, 1) := by decide +kernel
theorem dX7_arrive_23 : decode cX7_arrive 23 = .ok (.invokevirtual 85, 3) := by decide +kernel
theorem dX7_arrive_26 : decode cX7_arrive 26 = .ok (.ireturn, 1) := by decide +kernel
theorem dX7_arrive_27 : decode cX7_arrive 27 = .ok (.iload_n 3, 1) := by decide +kernel
theorem dX7_arrive_28 : decode cX7_arrive 28 = .ok (.sipush (-300), 3) := by decide +kernel
theorem dX7_arrive_31 : decode cX7_arrive 31 = .ok (.sipush 400, 3) := by decide +kernel
theorem dX7_arrive_34 : decode cX7_arrive 34 = .ok (.invokestatic 66, 3) := by decide +kernel
theorem dX7_arrive_37 : decode cX7_arrive 37 = .ok (.ifCond .ne 9, 3) := by decide +kernel
theorem dX7_arrive_40 : decode cX7_arrive 40 = .ok (.aload_n 0, 1) := by decide +kernel
theorem dX7_arrive_41 : decode cX7_arrive 41 = .ok (.iconst 2, 1) := by decide +kernel
theorem dX7_arrive_42 : decode cX7_arrive 42 = .ok (.invokevirtual 85, 3) := by decide +kernel
theorem dX7_arrive_45 : decode cX7_arrive 45 = .ok (.ireturn, 1) := by decide +kernel
theorem dX7_arrive_46 : decode cX7_arrive 46 = .ok (.aload_n 0, 1) := by decide +kernel
theorem dX7_arrive_47 : decode cX7_arrive 47 = .ok (.iload_n 1, 1) := by decide +kernel
theorem dX7_arrive_48 : decode cX7_arrive 48 = .ok (.iload_n 2, 1) := by decide +kernel
theorem dX7_arrive_49 : decode cX7_arrive 49 = .ok (.invokevirtual 122, 3) := by decide +kernel
theorem dX7_arrive_52 : decode cX7_arrive 52 = .ok (.ifCond .ne 12, 3) := by decide +kernel
theorem dX7_arrive_55 : decode cX7_arrive 55 = .ok (.aload_n 0, 1) := by decide +kernel
theorem dX7_arrive_56 : decode cX7_arrive 56 = .ok (.getfield 73, 3) := by decide +kernel
theorem dX7_arrive_59 : decode cX7_arrive 59 = .ok (.bipush 60, 2) := by decide +kernel
theorem dX7_arrive_61 : decode cX7_arrive 61 = .ok (.if_icmp .ne 9, 3) := by decide +kernel
theorem dX7_arrive_64 : decode cX7_arrive 64 = .ok (.aload_n 0, 1) := by decide +kernel
theorem dX7_arrive_65 : decode cX7_arrive 65 = .ok (.iconst 3, 1) := by decide +kernel
theorem dX7_arrive_66 : decode cX7_arrive 66 = .ok (.invokevirtual 85, 3) := by decide +kernel
theorem dX7_arrive_69 : decode cX7_arrive 69 = .ok (.ireturn, 1) := by decide +kernel
theorem dX7_arrive_70 : decode cX7_arrive 70 = .ok (.aload_n 0, 1) := by decide +kernel
theorem dX7_arrive_71 : decode cX7_arrive 71 = .ok (.getfield 48, 3) := by decide +kernel
theorem dX7_arrive_74 : decode cX7_arrive 74 = .ok (.aload_n 0, 1) := by decide +kernel
theorem dX7_arrive_75 : decode cX7_arrive 75 = .ok (.getfield 73, 3) := by decide +kernel
theorem dX7_arrive_78 : decode cX7_arrive 78 = .ok (.iload_n 1, 1) := by decide +kernel
theorem dX7_arrive_79 : decode cX7_arrive 79 = .ok (.iastore, 1) := by decide +kernel
theorem dX7_arrive_80 : decode cX7_arrive 80 = .ok (.aload_n 0, 1) := by decide +kernel
theorem dX7_arrive_81 : decode cX7_arrive 81 = .ok (.getfield 51, 3) := by decide +kernel
theorem dX7_arrive_84 : decode cX7_arrive 84 = .ok (.aload_n 0, 1) := by decide +kernel
theorem dX7_arrive_85 : decode cX7_arrive 85 = .ok (.getfield 73, 3) := by decide +kernel
theorem dX7_arrive_88 : decode cX7_arrive 88 = .ok (.iload_n 2, 1) := by decide +kernel
theorem dX7_arrive_89 : decode cX7_arrive 89 = .ok (.iastore, 1) := by decide +kernel
theorem dX7_arrive_90 : decode cX7_arrive 90 = .ok (.aload_n 0, 1) := by decide +kernel
theorem dX7_arrive_91 : decode cX7_arrive 91 = .ok (.getfield 54, 3) := by decide +kernel
theorem dX7_arrive_94 : decode cX7_arrive 94 = .ok (.aload_n 0, 1) := by decide +kernel
theorem dX7_arrive_95 : decode cX7_arrive 95 = .ok (.getfield 73, 3) := by decide +kernel
theorem dX7_arrive_98 : decode cX7_arrive 98 = .ok (.iload_n 3, 1) := by decide +kernel
theorem dX7_arrive_99 : decode cX7_arrive 99 = .ok (.iastore, 1) := by decide +kernel
theorem dX7_arrive_100 : decode cX7_arrive 100 = .ok (.aload_n 0, 1) := by decide +kernel
theorem dX7_arrive_101 : decode cX7_arrive 101 = .ok (.dup, 1) := by decide +kernel
theorem dX7_arrive_102 : decode cX7_arrive 102 = .ok (.getfield 73, 3) := by decide +kernel
theorem dX7_arrive_105 : decode cX7_arrive 105 = .ok (.iconst 1, 1) := by decide +kernel
theorem dX7_arrive_106 : decode cX7_arrive 106 = .ok (.iadd, 1) := by decide +kernel
theorem dX7_arrive_107 : decode cX7_arrive 107 = .ok (.putfield 73, 3) := by decide +kernel
theorem dX7_arrive_110 : decode cX7_arrive 110 = .ok (.aload_n 0, 1) := by decide +kernel
theorem dX7_arrive_111 : decode cX7_arrive 111 = .ok (.getfield 73, 3) := by decide +kernel
theorem dX7_arrive_114 : decode cX7_arrive 114 = .ok (.iconst 1, 1) := by decide +kernel
theorem dX7_arrive_115 : decode cX7_arrive 115 = .ok (.isub, 1) := by decide +kernel
theorem dX7_arrive_116 : decode cX7_arrive 116 = .ok (.ireturn, 1) := by decide +kernel
theorem dX7_move_0 : decode cX7_move 0 = .ok (.aload_n 0, 1) := by decide +kernel
theorem dX7_move_1 : decode cX7_move 1 = .ok (.iconst 0, 1) := by decide +kernel
theorem dX7_move_2 : decode cX7_move 2 = .ok (.putfield 60, 3) := by decide +kernel
theorem dX7_move_5 : decode cX7_move 5 = .ok (.aload_n 0, 1) := by decide +kernel
theorem dX7_move_6 : decode cX7_move 6 = .ok (.iload_n 1, 1) := by decide +kernel
theorem dX7_move_7 : decode cX7_move 7 = .ok (.invokevirtual 125, 3) := by decide +kernel
theorem dX7_move_10 : decode cX7_move 10 = .ok (.ifCond .eq 11, 3) := by decide +kernel
theorem dX7_move_13 : decode cX7_move 13 = .ok (.aload_n 0, 1) := by decide +kernel
theorem dX7_move_14 : decode cX7_move 14 = .ok (.iload_n 2, 1) := by decide +kernel
theorem dX7_move_15 : decode cX7_move 15 = .ok (.invokevirtual 106, 3) := by decide +kernel
theorem dX7_move_18 : decode cX7_move 18 = .ok (.ifCond .ne 9, 3) := by decide +kernel
theorem dX7_move_21 : decode cX7_move 21 = .ok (.aload_n 0, 1) := by decide +kernel
theorem dX7_move_22 : decode cX7_move 22 = .ok (.iconst 1, 1) := by decide +kernel
theorem dX7_move_23 : decode cX7_move 23 = .ok (.invokevirtual 85, 3) := by decide +kernel
theorem dX7_move_26 : decode cX7_move 26 = .ok (.ireturn, 1) := by decide +kernel
theorem dX7_move_27 : decode cX7_move 27 = .ok (.aload_n 0, 1) := by decide +kernel
theorem dX7_move_28 : decode cX7_move 28 = .ok (.getfield 51, 3) := by decide +kernel
theorem dX7_move_31 : decode cX7_move 31 = .ok (.iload_n 1, 1) := by decide +kernel
theorem dX7_move_32 : decode cX7_move 32 = .ok (.iaload, 1) := by decide +kernel
theorem dX7_move_33 : decode cX7_move 33 = .ok (.istore_n 3, 1) := by decide +kernel
theorem dX7_move_34 : decode cX7_move 34 = .ok (.iload_n 3, 1) := by decide +kernel
theorem dX7_move_35 : decode cX7_move 35 = .ok (.iconst (-1), 1) := by decide +kernel
theorem dX7_move_36 : decode cX7_move 36 = .ok (.if_icmp .eq 22, 3) := by decide +kernel
theorem dX7_move_39 : decode cX7_move 39 = .ok (.iload_n 3, 1) := by decide +kernel
theorem dX7_move_40 : decode cX7_move 40 = .ok (.iload_n 2, 1) := by decide +kernel
theorem dX7_move_41 : decode cX7_move 41 = .ok (.if_icmp .eq 17, 3) := by decide +kernel
theorem dX7_move_44 : decode cX7_move 44 = .ok (.aload_n 0, 1) := by decide +kernel
theorem dX7_move_45 : decode cX7_move 45 = .ok (.aload_n 0, 1) := by decide +kernel
theorem dX7_move_46 : decode cX7_move 46 = .ok (.getfield 48, 3) := by decide +kernel
theorem dX7_move_49 : decode cX7_move 49 = .ok (.iload_n 1, 1) := by decide +kernel
theorem dX7_move_50 : decode cX7_move 50 = .ok (.iaload, 1) := by decide +kernel
theorem dX7_move_51 : decode cX7_move 51 = .ok (.iload_n 2, 1) := by decide +kernel
theorem dX7_move_52 : decode cX7_move 52 = .ok (.invokevirtual 122, 3) := by decide +kernel
theorem dX7_move_55 : decode cX7_move 55 = .ok (.ifCond .eq 9, 3) := by decide +kernel
theorem dX7_move_58 : decode cX7_move 58 = .ok (.aload_n 0, 1) := by decide +kernel
theorem dX7_move_59 : decode cX7_move 59 = .ok (.iconst 2, 1) := by decide +kernel
theorem dX7_move_60 : decode cX7_move 60 = .ok (.invokevirtual 85, 3) := by decide +kernel
theorem dX7_move_63 : decode cX7_move 63 = .ok (.ireturn, 1) := by decide +kernel
theorem dX7_move_64 : decode cX7_move 64 = .ok (.aload_n 0, 1) := by decide +kernel
theorem dX7_move_65 : decode cX7_move 65 = .ok (.getfield 51, 3) := by decide +kernel
theorem dX7_move_68 : decode cX7_move 68 = .ok (.iload_n 1, 1) := by decide +kernel
theorem dX7_move_69 : decode cX7_move 69 = .ok (.iload_n 2, 1) := by decide +kernel
theorem dX7_move_70 : decode cX7_move 70 = .ok (.iastore, 1) := by decide +kernel
theorem dX7_move_71 : decode cX7_move 71 = .ok (.iload_n 3, 1) := by decide +kernel
theorem dX7_move_72 : decode cX7_move 72 = .ok (.ireturn, 1) := by decide +kernel
theorem dX7_leftOf_0 : decode cX7_leftOf 0 = .ok (.aload_n 0, 1) := by decide +kernel
theorem dX7_leftOf_1 : decode cX7_leftOf 1 = .ok (.getfield 23, 3) := by decide +kernel
theorem dX7_leftOf_4 : decode cX7_leftOf 4 = .ok (.aload_n 0, 1) := by decide +kernel
theorem dX7_leftOf_5 : decode cX7_leftOf 5 = .ok (.getfield 48, 3) := by decide +kernel
theorem dX7_leftOf_8 : decode cX7_leftOf 8 = .ok (.iload_n 1, 1) := by decide +kernel
theorem dX7_leftOf_9 : decode cX7_leftOf 9 = .ok (.iaload, 1) := by decide +kernel
theorem dX7_leftOf_10 : decode cX7_leftOf 10 = .ok (.iaload, 1) := by decide +kernel
theorem dX7_leftOf_11 : decode cX7_leftOf 11 = .ok (.aload_n 0, 1) := by decide +kernel
theorem dX7_leftOf_12 : decode cX7_leftOf 12 = .ok (.getfield 57, 3) := by decide +kernel
theorem dX7_leftOf_15 : decode cX7_leftOf 15 = .ok (.iload_n 1, 1) := by decide +kernel
theorem dX7_leftOf_16 : decode cX7_leftOf 16 = .ok (.iaload, 1) := by decide +kernel
theorem dX7_leftOf_17 : decode cX7_leftOf 17 = .ok (.isub, 1) := by decide +kernel
theorem dX7_leftOf_18 : decode cX7_leftOf 18 = .ok (.ireturn, 1) := by decide +kernel
theorem dX7_toldOfPallet_0 : decode cX7_toldOfPallet 0 = .ok (.iload_n 2, 1) := by decide +kernel
theorem dX7_toldOfPallet_1 : decode cX7_toldOfPallet 1 = .ok (.ifCond .ne 12, 3) := by decide +kernel
theorem dX7_toldOfPallet_4 : decode cX7_toldOfPallet 4 = .ok (.aload_n 0, 1) := by decide +kernel
theorem dX7_toldOfPallet_5 : decode cX7_toldOfPallet 5 = .ok (.getfield 48, 3) := by decide +kernel
theorem dX7_toldOfPallet_8 : decode cX7_toldOfPallet 8 = .ok (.iload_n 1, 1) := by decide +kernel
theorem dX7_toldOfPallet_9 : decode cX7_toldOfPallet 9 = .ok (.iaload, 1) := by decide +kernel
theorem dX7_toldOfPallet_10 : decode cX7_toldOfPallet 10 = .ok (.goto 50, 3) := by decide +kernel
theorem dX7_toldOfPallet_13 : decode cX7_toldOfPallet 13 = .ok (.iload_n 2, 1) := by decide +kernel
theorem dX7_toldOfPallet_14 : decode cX7_toldOfPallet 14 = .ok (.iconst 1, 1) := by decide +kernel
theorem dX7_toldOfPallet_15 : decode cX7_toldOfPallet 15 = .ok (.if_icmp .ne 12, 3) := by decide +kernel
theorem dX7_toldOfPallet_18 : decode cX7_toldOfPallet 18 = .ok (.aload_n 0, 1) := by decide +kernel
theorem dX7_toldOfPallet_19 : decode cX7_toldOfPallet 19 = .ok (.getfield 54, 3) := by decide +kernel
theorem dX7_toldOfPallet_22 : decode cX7_toldOfPallet 22 = .ok (.iload_n 1, 1) := by decide +kernel
theorem dX7_toldOfPallet_23 : decode cX7_toldOfPallet 23 = .ok (.iaload, 1) := by decide +kernel
theorem dX7_toldOfPallet_24 : decode cX7_toldOfPallet 24 = .ok (.goto 36, 3) := by decide +kernel
theorem dX7_toldOfPallet_27 : decode cX7_toldOfPallet 27 = .ok (.iload_n 2, 1) := by decide +kernel
theorem dX7_toldOfPallet_28 : decode cX7_toldOfPallet 28 = .ok (.iconst 2, 1) := by decide +kernel
theorem dX7_toldOfPallet_29 : decode cX7_toldOfPallet 29 = .ok (.if_icmp .ne 12, 3) := by decide +kernel
theorem dX7_toldOfPallet_32 : decode cX7_toldOfPallet 32 = .ok (.aload_n 0, 1) := by decide +kernel
theorem dX7_toldOfPallet_33 : decode cX7_toldOfPallet 33 = .ok (.getfield 57, 3) := by decide +kernel
theorem dX7_toldOfPallet_36 : decode cX7_toldOfPallet 36 = .ok (.iload_n 1, 1) := by decide +kernel
theorem dX7_toldOfPallet_37 : decode cX7_toldOfPallet 37 = .ok (.iaload, 1) := by decide +kernel
theorem dX7_toldOfPallet_38 : decode cX7_toldOfPallet 38 = .ok (.goto 22, 3) := by decide +kernel
theorem dX7_toldOfPallet_41 : decode cX7_toldOfPallet 41 = .ok (.iload_n 2, 1) := by decide +kernel
theorem dX7_toldOfPallet_42 : decode cX7_toldOfPallet 42 = .ok (.iconst 3, 1) := by decide +kernel
theorem dX7_toldOfPallet_43 : decode cX7_toldOfPallet 43 = .ok (.if_icmp .ne 12, 3) := by decide +kernel
theorem dX7_toldOfPallet_46 : decode cX7_toldOfPallet 46 = .ok (.aload_n 0, 1) := by decide +kernel
theorem dX7_toldOfPallet_47 : decode cX7_toldOfPallet 47 = .ok (.getfield 51, 3) := by decide +kernel
theorem dX7_toldOfPallet_50 : decode cX7_toldOfPallet 50 = .ok (.iload_n 1, 1) := by decide +kernel
theorem dX7_toldOfPallet_51 : decode cX7_toldOfPallet 51 = .ok (.iaload, 1) := by decide +kernel
theorem dX7_toldOfPallet_52 : decode cX7_toldOfPallet 52 = .ok (.goto 8, 3) := by decide +kernel
theorem dX7_toldOfPallet_55 : decode cX7_toldOfPallet 55 = .ok (.aload_n 0, 1) := by decide +kernel
theorem dX7_toldOfPallet_56 : decode cX7_toldOfPallet 56 = .ok (.iload_n 1, 1) := by decide +kernel
theorem dX7_toldOfPallet_57 : decode cX7_toldOfPallet 57 = .ok (.invokevirtual 128, 3) := by decide +kernel
theorem dX7_toldOfPallet_60 : decode cX7_toldOfPallet 60 = .ok (.ireturn, 1) := by decide +kernel
theorem dX7_pallet_0 : decode cX7_pallet 0 = .ok (.aload_n 0, 1) := by decide +kernel
theorem dX7_pallet_1 : decode cX7_pallet 1 = .ok (.iconst 0, 1) := by decide +kernel
theorem dX7_pallet_2 : decode cX7_pallet 2 = .ok (.putfield 60, 3) := by decide +kernel
theorem dX7_pallet_5 : decode cX7_pallet 5 = .ok (.aload_n 0, 1) := by decide +kernel
theorem dX7_pallet_6 : decode cX7_pallet 6 = .ok (.iload_n 1, 1) := by decide +kernel
theorem dX7_pallet_7 : decode cX7_pallet 7 = .ok (.invokevirtual 125, 3) := by decide +kernel
theorem dX7_pallet_10 : decode cX7_pallet 10 = .ok (.ifCond .eq 21, 3) := by decide +kernel
theorem dX7_pallet_13 : decode cX7_pallet 13 = .ok (.iload_n 2, 1) := by decide +kernel
theorem dX7_pallet_14 : decode cX7_pallet 14 = .ok (.iconst 0, 1) := by decide +kernel
theorem dX7_pallet_15 : decode cX7_pallet 15 = .ok (.iconst 4, 1) := by decide +kernel
theorem dX7_pallet_16 : decode cX7_pallet 16 = .ok (.invokestatic 66, 3) := by decide +kernel
theorem dX7_pallet_19 : decode cX7_pallet 19 = .ok (.ifCond .eq 12, 3) := by decide +kernel
theorem dX7_pallet_22 : decode cX7_pallet 22 = .ok (.aload_n 0, 1) := by decide +kernel
theorem dX7_pallet_23 : decode cX7_pallet 23 = .ok (.iload_n 1, 1) := by decide +kernel
theorem dX7_pallet_24 : decode cX7_pallet 24 = .ok (.iload_n 2, 1) := by decide +kernel
theorem dX7_pallet_25 : decode cX7_pallet 25 = .ok (.invokevirtual 131, 3) := by decide +kernel
theorem dX7_pallet_28 : decode cX7_pallet 28 = .ok (.goto 8, 3) := by decide +kernel
theorem dX7_pallet_31 : decode cX7_pallet 31 = .ok (.aload_n 0, 1) := by decide +kernel
theorem dX7_pallet_32 : decode cX7_pallet 32 = .ok (.iconst 1, 1) := by decide +kernel
theorem dX7_pallet_33 : decode cX7_pallet 33 = .ok (.invokevirtual 85, 3) := by decide +kernel
theorem dX7_pallet_36 : decode cX7_pallet 36 = .ok (.ireturn, 1) := by decide +kernel
theorem dX7_off_0 : decode cX7_off 0 = .ok (.iconst 0, 1) := by decide +kernel
theorem dX7_off_1 : decode cX7_off 1 = .ok (.aload_n 0, 1) := by decide +kernel
theorem dX7_off_2 : decode cX7_off 2 = .ok (.getfield 17, 3) := by decide +kernel
theorem dX7_off_5 : decode cX7_off 5 = .ok (.iload_n 1, 1) := by decide +kernel
theorem dX7_off_6 : decode cX7_off 6 = .ok (.iaload, 1) := by decide +kernel
theorem dX7_off_7 : decode cX7_off 7 = .ok (.iload_n 2, 1) := by decide +kernel
theorem dX7_off_8 : decode cX7_off 8 = .ok (.isub, 1) := by decide +kernel
theorem dX7_off_9 : decode cX7_off 9 = .ok (.iload_n 2, 1) := by decide +kernel
theorem dX7_off_10 : decode cX7_off 10 = .ok (.aload_n 0, 1) := by decide +kernel
theorem dX7_off_11 : decode cX7_off 11 = .ok (.getfield 20, 3) := by decide +kernel
theorem dX7_off_14 : decode cX7_off 14 = .ok (.iload_n 1, 1) := by decide +kernel
theorem dX7_off_15 : decode cX7_off 15 = .ok (.iaload, 1) := by decide +kernel
theorem dX7_off_16 : decode cX7_off 16 = .ok (.isub, 1) := by decide +kernel
theorem dX7_off_17 : decode cX7_off 17 = .ok (.invokestatic 134, 3) := by decide +kernel
theorem dX7_off_20 : decode cX7_off 20 = .ok (.invokestatic 134, 3) := by decide +kernel
theorem dX7_off_23 : decode cX7_off 23 = .ok (.ireturn, 1) := by decide +kernel
theorem dX7_bestRoom_0 : decode cX7_bestRoom 0 = .ok (.aload_n 0, 1) := by decide +kernel
theorem dX7_bestRoom_1 : decode cX7_bestRoom 1 = .ok (.iconst 0, 1) := by decide +kernel
theorem dX7_bestRoom_2 : decode cX7_bestRoom 2 = .ok (.putfield 60, 3) := by decide +kernel
theorem dX7_bestRoom_5 : decode cX7_bestRoom 5 = .ok (.aload_n 0, 1) := by decide +kernel
theorem dX7_bestRoom_6 : decode cX7_bestRoom 6 = .ok (.iload_n 1, 1) := by decide +kernel
theorem dX7_bestRoom_7 : decode cX7_bestRoom 7 = .ok (.invokevirtual 119, 3) := by decide +kernel
theorem dX7_bestRoom_10 : decode cX7_bestRoom 10 = .ok (.ifCond .ne 9, 3) := by decide +kernel
theorem dX7_bestRoom_13 : decode cX7_bestRoom 13 = .ok (.aload_n 0, 1) := by decide +kernel
theorem dX7_bestRoom_14 : decode cX7_bestRoom 14 = .ok (.iconst 1, 1) := by decide +kernel
theorem dX7_bestRoom_15 : decode cX7_bestRoom 15 = .ok (.invokevirtual 85, 3) := by decide +kernel
theorem dX7_bestRoom_18 : decode cX7_bestRoom 18 = .ok (.ireturn, 1) := by decide +kernel
theorem dX7_bestRoom_19 : decode cX7_bestRoom 19 = .ok (.iconst (-1), 1) := by decide +kernel
theorem dX7_bestRoom_20 : decode cX7_bestRoom 20 = .ok (.istore_n 2, 1) := by decide +kernel
theorem dX7_bestRoom_21 : decode cX7_bestRoom 21 = .ok (.iconst 0, 1) := by decide +kernel
theorem dX7_bestRoom_22 : decode cX7_bestRoom 22 = .ok (.istore_n 3, 1) := by decide +kernel
theorem dX7_bestRoom_23 : decode cX7_bestRoom 23 = .ok (.iload_n 3, 1) := by decide +kernel
theorem dX7_bestRoom_24 : decode cX7_bestRoom 24 = .ok (.aload_n 0, 1) := by decide +kernel
theorem dX7_bestRoom_25 : decode cX7_bestRoom 25 = .ok (.getfield 70, 3) := by decide +kernel
theorem dX7_bestRoom_28 : decode cX7_bestRoom 28 = .ok (.if_icmp .ge 80, 3) := by decide +kernel
theorem dX7_bestRoom_31 : decode cX7_bestRoom 31 = .ok (.aload_n 0, 1) := by decide +kernel
theorem dX7_bestRoom_32 : decode cX7_bestRoom 32 = .ok (.iload_n 1, 1) := by decide +kernel
theorem dX7_bestRoom_33 : decode cX7_bestRoom 33 = .ok (.iload_n 3, 1) := by decide +kernel
theorem dX7_bestRoom_34 : decode cX7_bestRoom 34 = .ok (.invokevirtual 122, 3) := by decide +kernel
theorem dX7_bestRoom_37 : decode cX7_bestRoom 37 = .ok (.ifCond .eq 6, 3) := by decide +kernel
theorem dX7_bestRoom_40 : decode cX7_bestRoom 40 = .ok (.goto 62, 3) := by decide +kernel
theorem dX7_bestRoom_43 : decode cX7_bestRoom 43 = .ok (.iload_n 2, 1) := by decide +kernel
theorem dX7_bestRoom_44 : decode cX7_bestRoom 44 = .ok (.iconst (-1), 1) := by decide +kernel
theorem dX7_bestRoom_45 : decode cX7_bestRoom 45 = .ok (.if_icmp .ne 7, 3) := by decide +kernel
theorem dX7_bestRoom_48 : decode cX7_bestRoom 48 = .ok (.iconst (-1), 1) := by decide +kernel
theorem dX7_bestRoom_49 : decode cX7_bestRoom 49 = .ok (.goto 26, 3) := by decide +kernel
theorem dX7_bestRoom_52 : decode cX7_bestRoom 52 = .ok (.aload_n 0, 1) := by decide +kernel
theorem dX7_bestRoom_53 : decode cX7_bestRoom 53 = .ok (.iload_n 1, 1) := by decide +kernel
theorem dX7_bestRoom_54 : decode cX7_bestRoom 54 = .ok (.aload_n 0, 1) := by decide +kernel
theorem dX7_bestRoom_55 : decode cX7_bestRoom 55 = .ok (.getfield 38, 3) := by decide +kernel
theorem dX7_bestRoom_58 : decode cX7_bestRoom 58 = .ok (.iload_n 3, 1) := by decide +kernel
theorem dX7_bestRoom_59 : decode cX7_bestRoom 59 = .ok (.iaload, 1) := by decide +kernel
theorem dX7_bestRoom_60 : decode cX7_bestRoom 60 = .ok (.invokevirtual 137, 3) := by decide +kernel
theorem dX7_bestRoom_63 : decode cX7_bestRoom 63 = .ok (.aload_n 0, 1) := by decide +kernel
theorem dX7_bestRoom_64 : decode cX7_bestRoom 64 = .ok (.iload_n 1, 1) := by decide +kernel
theorem dX7_bestRoom_65 : decode cX7_bestRoom 65 = .ok (.aload_n 0, 1) := by decide +kernel
theorem dX7_bestRoom_66 : decode cX7_bestRoom 66 = .ok (.getfield 38, 3) := by decide +kernel
theorem dX7_bestRoom_69 : decode cX7_bestRoom 69 = .ok (.iload_n 2, 1) := by decide +kernel
theorem dX7_bestRoom_70 : decode cX7_bestRoom 70 = .ok (.iaload, 1) := by decide +kernel
theorem dX7_bestRoom_71 : decode cX7_bestRoom 71 = .ok (.invokevirtual 137, 3) := by decide +kernel
theorem dX7_bestRoom_74 : decode cX7_bestRoom 74 = .ok (.isub, 1) := by decide +kernel
theorem dX7_bestRoom_75 : decode cX7_bestRoom 75 = .ok (.istore 4, 2) := by decide +kernel
theorem dX7_bestRoom_77 : decode cX7_bestRoom 77 = .ok (.iload 4, 2) := by decide +kernel
theorem dX7_bestRoom_79 : decode cX7_bestRoom 79 = .ok (.ifCond .lt 21, 3) := by decide +kernel
theorem dX7_bestRoom_82 : decode cX7_bestRoom 82 = .ok (.iload 4, 2) := by decide +kernel
theorem dX7_bestRoom_84 : decode cX7_bestRoom 84 = .ok (.ifCond .ne 18, 3) := by decide +kernel
theorem dX7_bestRoom_87 : decode cX7_bestRoom 87 = .ok (.aload_n 0, 1) := by decide +kernel
theorem dX7_bestRoom_88 : decode cX7_bestRoom 88 = .ok (.iload_n 3, 1) := by decide +kernel
theorem dX7_bestRoom_89 : decode cX7_bestRoom 89 = .ok (.invokevirtual 109, 3) := by decide +kernel
theorem dX7_bestRoom_92 : decode cX7_bestRoom 92 = .ok (.aload_n 0, 1) := by decide +kernel
theorem dX7_bestRoom_93 : decode cX7_bestRoom 93 = .ok (.iload_n 2, 1) := by decide +kernel
theorem dX7_bestRoom_94 : decode cX7_bestRoom 94 = .ok (.invokevirtual 109, 3) := by decide +kernel
theorem dX7_bestRoom_97 : decode cX7_bestRoom 97 = .ok (.if_icmp .le 5, 3) := by decide +kernel
theorem dX7_bestRoom_100 : decode cX7_bestRoom 100 = .ok (.iload_n 3, 1) := by decide +kernel
theorem dX7_bestRoom_101 : decode cX7_bestRoom 101 = .ok (.istore_n 2, 1) := by decide +kernel
theorem dX7_bestRoom_102 : decode cX7_bestRoom 102 = .ok (.iinc 3 1, 3) := by decide +kernel
theorem dX7_bestRoom_105 : decode cX7_bestRoom 105 = .ok (.goto (-82), 3) := by decide +kernel
theorem dX7_bestRoom_108 : decode cX7_bestRoom 108 = .ok (.iload_n 2, 1) := by decide +kernel
theorem dX7_bestRoom_109 : decode cX7_bestRoom 109 = .ok (.ireturn, 1) := by decide +kernel
theorem dX7_ship_0 : decode cX7_ship 0 = .ok (.aload_n 0, 1) := by decide +kernel
theorem dX7_ship_1 : decode cX7_ship 1 = .ok (.iconst 0, 1) := by decide +kernel
theorem dX7_ship_2 : decode cX7_ship 2 = .ok (.putfield 60, 3) := by decide +kernel
theorem dX7_ship_5 : decode cX7_ship 5 = .ok (.aload_n 0, 1) := by decide +kernel
theorem dX7_ship_6 : decode cX7_ship 6 = .ok (.iload_n 1, 1) := by decide +kernel
theorem dX7_ship_7 : decode cX7_ship 7 = .ok (.invokevirtual 119, 3) := by decide +kernel
theorem dX7_ship_10 : decode cX7_ship 10 = .ok (.ifCond .ne 9, 3) := by decide +kernel
theorem dX7_ship_13 : decode cX7_ship 13 = .ok (.aload_n 0, 1) := by decide +kernel
theorem dX7_ship_14 : decode cX7_ship 14 = .ok (.iconst 1, 1) := by decide +kernel
theorem dX7_ship_15 : decode cX7_ship 15 = .ok (.invokevirtual 85, 3) := by decide +kernel
theorem dX7_ship_18 : decode cX7_ship 18 = .ok (.ireturn, 1) := by decide +kernel
theorem dX7_ship_19 : decode cX7_ship 19 = .ok (.iload_n 2, 1) := by decide +kernel
theorem dX7_ship_20 : decode cX7_ship 20 = .ok (.iconst 1, 1) := by decide +kernel
theorem dX7_ship_21 : decode cX7_ship 21 = .ok (.bipush 60, 2) := by decide +kernel
theorem dX7_ship_23 : decode cX7_ship 23 = .ok (.invokestatic 66, 3) := by decide +kernel
theorem dX7_ship_26 : decode cX7_ship 26 = .ok (.ifCond .eq 7, 3) := by decide +kernel
theorem dX7_ship_29 : decode cX7_ship 29 = .ok (.iload_n 3, 1) := by decide +kernel
theorem dX7_ship_30 : decode cX7_ship 30 = .ok (.ifCond .ge 9, 3) := by decide +kernel
theorem dX7_ship_33 : decode cX7_ship 33 = .ok (.aload_n 0, 1) := by decide +kernel
theorem dX7_ship_34 : decode cX7_ship 34 = .ok (.iconst 2, 1) := by decide +kernel
theorem dX7_ship_35 : decode cX7_ship 35 = .ok (.invokevirtual 85, 3) := by decide +kernel
theorem dX7_ship_38 : decode cX7_ship 38 = .ok (.ireturn, 1) := by decide +kernel
theorem dX7_ship_39 : decode cX7_ship 39 = .ok (.iconst 0, 1) := by decide +kernel
theorem dX7_ship_40 : decode cX7_ship 40 = .ok (.istore 4, 2) := by decide +kernel
theorem dX7_ship_42 : decode cX7_ship 42 = .ok (.iload 4, 2) := by decide +kernel
theorem dX7_ship_44 : decode cX7_ship 44 = .ok (.iload_n 2, 1) := by decide +kernel
theorem dX7_ship_45 : decode cX7_ship 45 = .ok (.if_icmp .ge 104, 3) := by decide +kernel
theorem dX7_ship_48 : decode cX7_ship 48 = .ok (.iconst (-1), 1) := by decide +kernel
theorem dX7_ship_49 : decode cX7_ship 49 = .ok (.istore 5, 2) := by decide +kernel
theorem dX7_ship_51 : decode cX7_ship 51 = .ok (.iconst 0, 1) := by decide +kernel
theorem dX7_ship_52 : decode cX7_ship 52 = .ok (.istore 6, 2) := by decide +kernel
theorem dX7_ship_54 : decode cX7_ship 54 = .ok (.iload 6, 2) := by decide +kernel
theorem dX7_ship_56 : decode cX7_ship 56 = .ok (.aload_n 0, 1) := by decide +kernel
theorem dX7_ship_57 : decode cX7_ship 57 = .ok (.getfield 73, 3) := by decide +kernel
theorem dX7_ship_60 : decode cX7_ship 60 = .ok (.if_icmp .ge 66, 3) := by decide +kernel
theorem dX7_ship_63 : decode cX7_ship 63 = .ok (.aload_n 0, 1) := by decide +kernel
theorem dX7_ship_64 : decode cX7_ship 64 = .ok (.getfield 48, 3) := by decide +kernel
theorem dX7_ship_67 : decode cX7_ship 67 = .ok (.iload 6, 2) := by decide +kernel
theorem dX7_ship_69 : decode cX7_ship 69 = .ok (.iaload, 1) := by decide +kernel
theorem dX7_ship_70 : decode cX7_ship 70 = .ok (.iload_n 1, 1) := by decide +kernel
theorem dX7_ship_71 : decode cX7_ship 71 = .ok (.if_icmp .ne 49, 3) := by decide +kernel
theorem dX7_ship_74 : decode cX7_ship 74 = .ok (.aload_n 0, 1) := by decide +kernel
theorem dX7_ship_75 : decode cX7_ship 75 = .ok (.getfield 51, 3) := by decide +kernel
theorem dX7_ship_78 : decode cX7_ship 78 = .ok (.iload 6, 2) := by decide +kernel
theorem dX7_ship_80 : decode cX7_ship 80 = .ok (.iaload, 1) := by decide +kernel
theorem dX7_ship_81 : decode cX7_ship 81 = .ok (.iconst (-1), 1) := by decide +kernel
theorem dX7_ship_82 : decode cX7_ship 82 = .ok (.if_icmp .eq 38, 3) := by decide +kernel
theorem dX7_ship_85 : decode cX7_ship 85 = .ok (.aload_n 0, 1) := by decide +kernel
theorem dX7_ship_86 : decode cX7_ship 86 = .ok (.iload 6, 2) := by decide +kernel
theorem dX7_ship_88 : decode cX7_ship 88 = .ok (.invokevirtual 128, 3) := by decide +kernel
theorem dX7_ship_91 : decode cX7_ship 91 = .ok (.iload_n 3, 1) := by decide +kernel
theorem dX7_ship_92 : decode cX7_ship 92 = .ok (.if_icmp .lt 28, 3) := by decide +kernel
theorem dX7_ship_95 : decode cX7_ship 95 = .ok (.iload 5, 2) := by decide +kernel
theorem dX7_ship_97 : decode cX7_ship 97 = .ok (.iconst (-1), 1) := by decide +kernel
theorem dX7_ship_98 : decode cX7_ship 98 = .ok (.if_icmp .eq 18, 3) := by decide +kernel
theorem dX7_ship_101 : decode cX7_ship 101 = .ok (.aload_n 0, 1) := by decide +kernel
theorem dX7_ship_102 : decode cX7_ship 102 = .ok (.iload 6, 2) := by decide +kernel
theorem dX7_ship_104 : decode cX7_ship 104 = .ok (.invokevirtual 128, 3) := by decide +kernel
theorem dX7_ship_107 : decode cX7_ship 107 = .ok (.aload_n 0, 1) := by decide +kernel
theorem dX7_ship_108 : decode cX7_ship 108 = .ok (.iload 5, 2) := by decide +kernel
theorem dX7_ship_110 : decode cX7_ship 110 = .ok (.invokevirtual 128, 3) := by decide +kernel
theorem dX7_ship_113 : decode cX7_ship 113 = .ok (.if_icmp .ge 7, 3) := by decide +kernel
theorem dX7_ship_116 : decode cX7_ship 116 = .ok (.iload 6, 2) := by decide +kernel
theorem dX7_ship_118 : decode cX7_ship 118 = .ok (.istore 5, 2) := by decide +kernel
theorem dX7_ship_120 : decode cX7_ship 120 = .ok (.iinc 6 1, 3) := by decide +kernel
theorem dX7_ship_123 : decode cX7_ship 123 = .ok (.goto (-69), 3) := by decide +kernel
theorem dX7_ship_126 : decode cX7_ship 126 = .ok (.iload 5, 2) := by decide +kernel
theorem dX7_ship_128 : decode cX7_ship 128 = .ok (.iconst (-1), 1) := by decide +kernel
theorem dX7_ship_129 : decode cX7_ship 129 = .ok (.if_icmp .ne 6, 3) := by decide +kernel
theorem dX7_ship_132 : decode cX7_ship 132 = .ok (.goto 17, 3) := by decide +kernel
theorem dX7_ship_135 : decode cX7_ship 135 = .ok (.aload_n 0, 1) := by decide +kernel
theorem dX7_ship_136 : decode cX7_ship 136 = .ok (.getfield 51, 3) := by decide +kernel
theorem dX7_ship_139 : decode cX7_ship 139 = .ok (.iload 5, 2) := by decide +kernel
theorem dX7_ship_141 : decode cX7_ship 141 = .ok (.iconst (-1), 1) := by decide +kernel
theorem dX7_ship_142 : decode cX7_ship 142 = .ok (.iastore, 1) := by decide +kernel
theorem dX7_ship_143 : decode cX7_ship 143 = .ok (.iinc 4 1, 3) := by decide +kernel
theorem dX7_ship_146 : decode cX7_ship 146 = .ok (.goto (-104), 3) := by decide +kernel
theorem dX7_ship_149 : decode cX7_ship 149 = .ok (.aload_n 0, 1) := by decide +kernel
theorem dX7_ship_150 : decode cX7_ship 150 = .ok (.dup, 1) := by decide +kernel
theorem dX7_ship_151 : decode cX7_ship 151 = .ok (.getfield 140, 3) := by decide +kernel
theorem dX7_ship_154 : decode cX7_ship 154 = .ok (.iload 4, 2) := by decide +kernel
theorem dX7_ship_156 : decode cX7_ship 156 = .ok (.iadd, 1) := by decide +kernel
theorem dX7_ship_157 : decode cX7_ship 157 = .ok (.putfield 140, 3) := by decide +kernel
theorem dX7_ship_160 : decode cX7_ship 160 = .ok (.iload 4, 2) := by decide +kernel
theorem dX7_ship_162 : decode cX7_ship 162 = .ok (.ireturn, 1) := by decide +kernel
theorem dX7_there_0 : decode cX7_there 0 = .ok (.iconst 0, 1) := by decide +kernel
theorem dX7_there_1 : decode cX7_there 1 = .ok (.istore_n 3, 1) := by decide +kernel
theorem dX7_there_2 : decode cX7_there 2 = .ok (.iconst 0, 1) := by decide +kernel
theorem dX7_there_3 : decode cX7_there 3 = .ok (.istore 4, 2) := by decide +kernel
theorem dX7_there_5 : decode cX7_there 5 = .ok (.iload 4, 2) := by decide +kernel
theorem dX7_there_7 : decode cX7_there 7 = .ok (.aload_n 0, 1) := by decide +kernel
theorem dX7_there_8 : decode cX7_there 8 = .ok (.getfield 73, 3) := by decide +kernel
theorem dX7_there_11 : decode cX7_there 11 = .ok (.if_icmp .ge 62, 3) := by decide +kernel
theorem dX7_there_14 : decode cX7_there 14 = .ok (.iload_n 3, 1) := by decide +kernel
theorem dX7_there_15 : decode cX7_there 15 = .ok (.aload_n 0, 1) := by decide +kernel
theorem dX7_there_16 : decode cX7_there 16 = .ok (.getfield 51, 3) := by decide +kernel
theorem dX7_there_19 : decode cX7_there 19 = .ok (.iload 4, 2) := by decide +kernel
theorem dX7_there_21 : decode cX7_there 21 = .ok (.iaload, 1) := by decide +kernel
theorem dX7_there_22 : decode cX7_there 22 = .ok (.iconst (-1), 1) := by decide +kernel
theorem dX7_there_23 : decode cX7_there 23 = .ok (.if_icmp .eq 41, 3) := by decide +kernel
theorem dX7_there_26 : decode cX7_there 26 = .ok (.iload_n 1, 1) := by decide +kernel
theorem dX7_there_27 : decode cX7_there 27 = .ok (.iconst (-1), 1) := by decide +kernel
theorem dX7_there_28 : decode cX7_there 28 = .ok (.if_icmp .eq 14, 3) := by decide +kernel
theorem dX7_there_31 : decode cX7_there 31 = .ok (.aload_n 0, 1) := by decide +kernel
theorem dX7_there_32 : decode cX7_there 32 = .ok (.getfield 48, 3) := by decide +kernel
theorem dX7_there_35 : decode cX7_there 35 = .ok (.iload 4, 2) := by decide +kernel
theorem dX7_there_37 : decode cX7_there 37 = .ok (.iaload, 1) := by decide +kernel
theorem dX7_there_38 : decode cX7_there 38 = .ok (.iload_n 1, 1) := by decide +kernel
theorem dX7_there_39 : decode cX7_there 39 = .ok (.if_icmp .ne 25, 3) := by decide +kernel
theorem dX7_there_42 : decode cX7_there 42 = .ok (.aload_n 0, 1) := by decide +kernel
theorem dX7_there_43 : decode cX7_there 43 = .ok (.iload 4, 2) := by decide +kernel
theorem dX7_there_45 : decode cX7_there 45 = .ok (.invokevirtual 128, 3) := by decide +kernel
theorem dX7_there_48 : decode cX7_there 48 = .ok (.ifCond .ge 7, 3) := by decide +kernel
theorem dX7_there_51 : decode cX7_there 51 = .ok (.iconst 1, 1) := by decide +kernel
theorem dX7_there_52 : decode cX7_there 52 = .ok (.goto 4, 3) := by decide +kernel
theorem dX7_there_55 : decode cX7_there 55 = .ok (.iconst 0, 1) := by decide +kernel
theorem dX7_there_56 : decode cX7_there 56 = .ok (.iload_n 2, 1) := by decide +kernel
theorem dX7_there_57 : decode cX7_there 57 = .ok (.if_icmp .ne 7, 3) := by decide +kernel
theorem dX7_there_60 : decode cX7_there 60 = .ok (.iconst 1, 1) := by decide +kernel
theorem dX7_there_61 : decode cX7_there 61 = .ok (.goto 4, 3) := by decide +kernel
theorem dX7_there_64 : decode cX7_there 64 = .ok (.iconst 0, 1) := by decide +kernel
theorem dX7_there_65 : decode cX7_there 65 = .ok (.iadd, 1) := by decide +kernel
theorem dX7_there_66 : decode cX7_there 66 = .ok (.istore_n 3, 1) := by decide +kernel
theorem dX7_there_67 : decode cX7_there 67 = .ok (.iinc 4 1, 3) := by decide +kernel
theorem dX7_there_70 : decode cX7_there 70 = .ok (.goto (-65), 3) := by decide +kernel
theorem dX7_there_73 : decode cX7_there 73 = .ok (.iload_n 3, 1) := by decide +kernel
theorem dX7_there_74 : decode cX7_there 74 = .ok (.ireturn, 1) := by decide +kernel
theorem dX7_clear_0 : decode cX7_clear 0 = .ok (.aload_n 0, 1) := by decide +kernel
theorem dX7_clear_1 : decode cX7_clear 1 = .ok (.iconst 0, 1) := by decide +kernel
theorem dX7_clear_2 : decode cX7_clear 2 = .ok (.putfield 60, 3) := by decide +kernel
theorem dX7_clear_5 : decode cX7_clear 5 = .ok (.aload_n 0, 1) := by decide +kernel
theorem dX7_clear_6 : decode cX7_clear 6 = .ok (.iconst (-1), 1) := by decide +kernel
theorem dX7_clear_7 : decode cX7_clear 7 = .ok (.iconst 1, 1) := by decide +kernel
theorem dX7_clear_8 : decode cX7_clear 8 = .ok (.invokevirtual 143, 3) := by decide +kernel
theorem dX7_clear_11 : decode cX7_clear 11 = .ok (.istore_n 1, 1) := by decide +kernel
theorem dX7_clear_12 : decode cX7_clear 12 = .ok (.iconst 0, 1) := by decide +kernel
theorem dX7_clear_13 : decode cX7_clear 13 = .ok (.istore_n 2, 1) := by decide +kernel
theorem dX7_clear_14 : decode cX7_clear 14 = .ok (.iload_n 2, 1) := by decide +kernel
theorem dX7_clear_15 : decode cX7_clear 15 = .ok (.aload_n 0, 1) := by decide +kernel
theorem dX7_clear_16 : decode cX7_clear 16 = .ok (.getfield 73, 3) := by decide +kernel
theorem dX7_clear_19 : decode cX7_clear 19 = .ok (.if_icmp .ge 24, 3) := by decide +kernel
theorem dX7_clear_22 : decode cX7_clear 22 = .ok (.aload_n 0, 1) := by decide +kernel
theorem dX7_clear_23 : decode cX7_clear 23 = .ok (.iload_n 2, 1) := by decide +kernel
theorem dX7_clear_24 : decode cX7_clear 24 = .ok (.invokevirtual 128, 3) := by decide +kernel
theorem dX7_clear_27 : decode cX7_clear 27 = .ok (.ifCond .ge 10, 3) := by decide +kernel
theorem dX7_clear_30 : decode cX7_clear 30 = .ok (.aload_n 0, 1) := by decide +kernel
theorem dX7_clear_31 : decode cX7_clear 31 = .ok (.getfield 51, 3) := by decide +kernel
theorem dX7_clear_34 : decode cX7_clear 34 = .ok (.iload_n 2, 1) := by decide +kernel
theorem dX7_clear_35 : decode cX7_clear 35 = .ok (.iconst (-1), 1) := by decide +kernel
theorem dX7_clear_36 : decode cX7_clear 36 = .ok (.iastore, 1) := by decide +kernel
theorem dX7_clear_37 : decode cX7_clear 37 = .ok (.iinc 2 1, 3) := by decide +kernel
theorem dX7_clear_40 : decode cX7_clear 40 = .ok (.goto (-26), 3) := by decide +kernel
theorem dX7_clear_43 : decode cX7_clear 43 = .ok (.iload_n 1, 1) := by decide +kernel
theorem dX7_clear_44 : decode cX7_clear 44 = .ok (.ireturn, 1) := by decide +kernel
theorem dX7_stock_0 : decode cX7_stock 0 = .ok (.aload_n 0, 1) := by decide +kernel
theorem dX7_stock_1 : decode cX7_stock 1 = .ok (.iconst 0, 1) := by decide +kernel
theorem dX7_stock_2 : decode cX7_stock 2 = .ok (.putfield 60, 3) := by decide +kernel
theorem dX7_stock_5 : decode cX7_stock 5 = .ok (.aload_n 0, 1) := by decide +kernel
theorem dX7_stock_6 : decode cX7_stock 6 = .ok (.iload_n 1, 1) := by decide +kernel
theorem dX7_stock_7 : decode cX7_stock 7 = .ok (.invokevirtual 119, 3) := by decide +kernel
theorem dX7_stock_10 : decode cX7_stock 10 = .ok (.ifCond .eq 12, 3) := by decide +kernel
theorem dX7_stock_13 : decode cX7_stock 13 = .ok (.aload_n 0, 1) := by decide +kernel
theorem dX7_stock_14 : decode cX7_stock 14 = .ok (.iload_n 1, 1) := by decide +kernel
theorem dX7_stock_15 : decode cX7_stock 15 = .ok (.iload_n 2, 1) := by decide +kernel
theorem dX7_stock_16 : decode cX7_stock 16 = .ok (.invokevirtual 143, 3) := by decide +kernel
theorem dX7_stock_19 : decode cX7_stock 19 = .ok (.goto 8, 3) := by decide +kernel
theorem dX7_stock_22 : decode cX7_stock 22 = .ok (.aload_n 0, 1) := by decide +kernel
theorem dX7_stock_23 : decode cX7_stock 23 = .ok (.iconst 1, 1) := by decide +kernel
theorem dX7_stock_24 : decode cX7_stock 24 = .ok (.invokevirtual 85, 3) := by decide +kernel
theorem dX7_stock_27 : decode cX7_stock 27 = .ok (.ireturn, 1) := by decide +kernel
theorem dX7_counted_0 : decode cX7_counted 0 = .ok (.iload_n 1, 1) := by decide +kernel
theorem dX7_counted_1 : decode cX7_counted 1 = .ok (.ifCond .ne 10, 3) := by decide +kernel
theorem dX7_counted_4 : decode cX7_counted 4 = .ok (.aload_n 0, 1) := by decide +kernel
theorem dX7_counted_5 : decode cX7_counted 5 = .ok (.getfield 63, 3) := by decide +kernel
theorem dX7_counted_8 : decode cX7_counted 8 = .ok (.goto 52, 3) := by decide +kernel
theorem dX7_counted_11 : decode cX7_counted 11 = .ok (.iload_n 1, 1) := by decide +kernel
theorem dX7_counted_12 : decode cX7_counted 12 = .ok (.iconst 1, 1) := by decide +kernel
theorem dX7_counted_13 : decode cX7_counted 13 = .ok (.if_icmp .ne 10, 3) := by decide +kernel
theorem dX7_counted_16 : decode cX7_counted 16 = .ok (.aload_n 0, 1) := by decide +kernel
theorem dX7_counted_17 : decode cX7_counted 17 = .ok (.getfield 70, 3) := by decide +kernel
theorem dX7_counted_20 : decode cX7_counted 20 = .ok (.goto 40, 3) := by decide +kernel
theorem dX7_counted_23 : decode cX7_counted 23 = .ok (.iload_n 1, 1) := by decide +kernel
theorem dX7_counted_24 : decode cX7_counted 24 = .ok (.iconst 2, 1) := by decide +kernel
theorem dX7_counted_25 : decode cX7_counted 25 = .ok (.if_icmp .ne 10, 3) := by decide +kernel
theorem dX7_counted_28 : decode cX7_counted 28 = .ok (.aload_n 0, 1) := by decide +kernel
theorem dX7_counted_29 : decode cX7_counted 29 = .ok (.getfield 73, 3) := by decide +kernel
theorem dX7_counted_32 : decode cX7_counted 32 = .ok (.goto 28, 3) := by decide +kernel
theorem dX7_counted_35 : decode cX7_counted 35 = .ok (.iload_n 1, 1) := by decide +kernel
theorem dX7_counted_36 : decode cX7_counted 36 = .ok (.iconst 3, 1) := by decide +kernel
theorem dX7_counted_37 : decode cX7_counted 37 = .ok (.if_icmp .ne 19, 3) := by decide +kernel
theorem dX7_counted_40 : decode cX7_counted 40 = .ok (.aload_n 0, 1) := by decide +kernel
theorem dX7_counted_41 : decode cX7_counted 41 = .ok (.iconst (-1), 1) := by decide +kernel
theorem dX7_counted_42 : decode cX7_counted 42 = .ok (.iconst 0, 1) := by decide +kernel
theorem dX7_counted_43 : decode cX7_counted 43 = .ok (.invokevirtual 143, 3) := by decide +kernel
theorem dX7_counted_46 : decode cX7_counted 46 = .ok (.aload_n 0, 1) := by decide +kernel
theorem dX7_counted_47 : decode cX7_counted 47 = .ok (.iconst (-1), 1) := by decide +kernel
theorem dX7_counted_48 : decode cX7_counted 48 = .ok (.iconst 1, 1) := by decide +kernel
theorem dX7_counted_49 : decode cX7_counted 49 = .ok (.invokevirtual 143, 3) := by decide +kernel
theorem dX7_counted_52 : decode cX7_counted 52 = .ok (.iadd, 1) := by decide +kernel
theorem dX7_counted_53 : decode cX7_counted 53 = .ok (.goto 7, 3) := by decide +kernel
theorem dX7_counted_56 : decode cX7_counted 56 = .ok (.aload_n 0, 1) := by decide +kernel
theorem dX7_counted_57 : decode cX7_counted 57 = .ok (.getfield 140, 3) := by decide +kernel
theorem dX7_counted_60 : decode cX7_counted 60 = .ok (.ireturn, 1) := by decide +kernel
theorem dX7_count_0 : decode cX7_count 0 = .ok (.aload_n 0, 1) := by decide +kernel
theorem dX7_count_1 : decode cX7_count 1 = .ok (.iconst 0, 1) := by decide +kernel
theorem dX7_count_2 : decode cX7_count 2 = .ok (.putfield 60, 3) := by decide +kernel
theorem dX7_count_5 : decode cX7_count 5 = .ok (.iload_n 1, 1) := by decide +kernel
theorem dX7_count_6 : decode cX7_count 6 = .ok (.iconst 0, 1) := by decide +kernel
theorem dX7_count_7 : decode cX7_count 7 = .ok (.iconst 4, 1) := by decide +kernel
theorem dX7_count_8 : decode cX7_count 8 = .ok (.invokestatic 66, 3) := by decide +kernel
theorem dX7_count_11 : decode cX7_count 11 = .ok (.ifCond .eq 11, 3) := by decide +kernel
theorem dX7_count_14 : decode cX7_count 14 = .ok (.aload_n 0, 1) := by decide +kernel
theorem dX7_count_15 : decode cX7_count 15 = .ok (.iload_n 1, 1) := by decide +kernel
theorem dX7_count_16 : decode cX7_count 16 = .ok (.invokevirtual 147, 3) := by decide +kernel
theorem dX7_count_19 : decode cX7_count 19 = .ok (.goto 8, 3) := by decide +kernel
theorem dX7_count_22 : decode cX7_count 22 = .ok (.aload_n 0, 1) := by decide +kernel
theorem dX7_count_23 : decode cX7_count 23 = .ok (.iconst 1, 1) := by decide +kernel
theorem dX7_count_24 : decode cX7_count 24 = .ok (.invokevirtual 85, 3) := by decide +kernel
theorem dX7_count_27 : decode cX7_count 27 = .ok (.ireturn, 1) := by decide +kernel
theorem dX7_setMachine_0 : decode cX7_setMachine 0 = .ok (.bipush 6, 2) := by decide +kernel
theorem dX7_setMachine_2 : decode cX7_setMachine 2 = .ok (.iload_n 1, 1) := by decide +kernel
theorem dX7_setMachine_3 : decode cX7_setMachine 3 = .ok (.imul, 1) := by decide +kernel
theorem dX7_setMachine_4 : decode cX7_setMachine 4 = .ok (.istore_n 3, 1) := by decide +kernel
theorem dX7_setMachine_5 : decode cX7_setMachine 5 = .ok (.aload_n 0, 1) := by decide +kernel
theorem dX7_setMachine_6 : decode cX7_setMachine 6 = .ok (.getfield 45, 3) := by decide +kernel
theorem dX7_setMachine_9 : decode cX7_setMachine 9 = .ok (.iload_n 3, 1) := by decide +kernel
theorem dX7_setMachine_10 : decode cX7_setMachine 10 = .ok (.iconst 0, 1) := by decide +kernel
theorem dX7_setMachine_11 : decode cX7_setMachine 11 = .ok (.iadd, 1) := by decide +kernel
theorem dX7_setMachine_12 : decode cX7_setMachine 12 = .ok (.iaload, 1) := by decide +kernel
theorem dX7_setMachine_13 : decode cX7_setMachine 13 = .ok (.istore 4, 2) := by decide +kernel
theorem dX7_setMachine_15 : decode cX7_setMachine 15 = .ok (.aload_n 0, 1) := by decide +kernel
theorem dX7_setMachine_16 : decode cX7_setMachine 16 = .ok (.getfield 38, 3) := by decide +kernel
theorem dX7_setMachine_19 : decode cX7_setMachine 19 = .ok (.iload_n 1, 1) := by decide +kernel
theorem dX7_setMachine_20 : decode cX7_setMachine 20 = .ok (.iaload, 1) := by decide +kernel
theorem dX7_setMachine_21 : decode cX7_setMachine 21 = .ok (.istore 5, 2) := by decide +kernel
theorem dX7_setMachine_23 : decode cX7_setMachine 23 = .ok (.aload_n 0, 1) := by decide +kernel
theorem dX7_setMachine_24 : decode cX7_setMachine 24 = .ok (.getfield 45, 3) := by decide +kernel
theorem dX7_setMachine_27 : decode cX7_setMachine 27 = .ok (.iload_n 3, 1) := by decide +kernel
theorem dX7_setMachine_28 : decode cX7_setMachine 28 = .ok (.iconst 2, 1) := by decide +kernel
theorem dX7_setMachine_29 : decode cX7_setMachine 29 = .ok (.iadd, 1) := by decide +kernel
theorem dX7_setMachine_30 : decode cX7_setMachine 30 = .ok (.iaload, 1) := by decide +kernel
theorem dX7_setMachine_31 : decode cX7_setMachine 31 = .ok (.iconst 2, 1) := by decide +kernel
theorem dX7_setMachine_32 : decode cX7_setMachine 32 = .ok (.if_icmp .ne 48, 3) := by decide +kernel
theorem dX7_setMachine_35 : decode cX7_setMachine 35 = .ok (.aload_n 0, 1) := by decide +kernel
theorem dX7_setMachine_36 : decode cX7_setMachine 36 = .ok (.getfield 45, 3) := by decide +kernel
theorem dX7_setMachine_39 : decode cX7_setMachine 39 = .ok (.iload_n 3, 1) := by decide +kernel
theorem dX7_setMachine_40 : decode cX7_setMachine 40 = .ok (.iconst 3, 1) := by decide +kernel
theorem dX7_setMachine_41 : decode cX7_setMachine 41 = .ok (.iadd, 1) := by decide +kernel
theorem dX7_setMachine_42 : decode cX7_setMachine 42 = .ok (.dup2, 1) := by decide +kernel
theorem dX7_setMachine_43 : decode cX7_setMachine 43 = .ok (.iaload, 1) := by decide +kernel
theorem dX7_setMachine_44 : decode cX7_setMachine 44 = .ok (.iconst 1, 1) := by decide +kernel
theorem dX7_setMachine_45 : decode cX7_setMachine 45 = .ok (.isub, 1) := by decide +kernel
theorem dX7_setMachine_46 : decode cX7_setMachine 46 = .ok (.iastore, 1) := by decide +kernel
theorem dX7_setMachine_47 : decode cX7_setMachine 47 = .ok (.aload_n 0, 1) := by decide +kernel
theorem dX7_setMachine_48 : decode cX7_setMachine 48 = .ok (.getfield 45, 3) := by decide +kernel
theorem dX7_setMachine_51 : decode cX7_setMachine 51 = .ok (.iload_n 3, 1) := by decide +kernel
theorem dX7_setMachine_52 : decode cX7_setMachine 52 = .ok (.iconst 3, 1) := by decide +kernel
theorem dX7_setMachine_53 : decode cX7_setMachine 53 = .ok (.iadd, 1) := by decide +kernel
theorem dX7_setMachine_54 : decode cX7_setMachine 54 = .ok (.iaload, 1) := by decide +kernel
theorem dX7_setMachine_55 : decode cX7_setMachine 55 = .ok (.ifCond .le 4, 3) := by decide +kernel
theorem dX7_setMachine_58 : decode cX7_setMachine 58 = .ok (.return_, 1) := by decide +kernel
theorem dX7_setMachine_59 : decode cX7_setMachine 59 = .ok (.aload_n 0, 1) := by decide +kernel
theorem dX7_setMachine_60 : decode cX7_setMachine 60 = .ok (.getfield 45, 3) := by decide +kernel
theorem dX7_setMachine_63 : decode cX7_setMachine 63 = .ok (.iload_n 3, 1) := by decide +kernel
theorem dX7_setMachine_64 : decode cX7_setMachine 64 = .ok (.iconst 1, 1) := by decide +kernel
theorem dX7_setMachine_65 : decode cX7_setMachine 65 = .ok (.iadd, 1) := by decide +kernel
theorem dX7_setMachine_66 : decode cX7_setMachine 66 = .ok (.iconst 0, 1) := by decide +kernel
theorem dX7_setMachine_67 : decode cX7_setMachine 67 = .ok (.iastore, 1) := by decide +kernel
theorem dX7_setMachine_68 : decode cX7_setMachine 68 = .ok (.aload_n 0, 1) := by decide +kernel
theorem dX7_setMachine_69 : decode cX7_setMachine 69 = .ok (.getfield 45, 3) := by decide +kernel
theorem dX7_setMachine_72 : decode cX7_setMachine 72 = .ok (.iload_n 3, 1) := by decide +kernel
theorem dX7_setMachine_73 : decode cX7_setMachine 73 = .ok (.iconst 2, 1) := by decide +kernel
theorem dX7_setMachine_74 : decode cX7_setMachine 74 = .ok (.iadd, 1) := by decide +kernel
theorem dX7_setMachine_75 : decode cX7_setMachine 75 = .ok (.iconst 0, 1) := by decide +kernel
theorem dX7_setMachine_76 : decode cX7_setMachine 76 = .ok (.iastore, 1) := by decide +kernel
theorem dX7_setMachine_77 : decode cX7_setMachine 77 = .ok (.goto 90, 3) := by decide +kernel
theorem dX7_setMachine_80 : decode cX7_setMachine 80 = .ok (.aload_n 0, 1) := by decide +kernel
theorem dX7_setMachine_81 : decode cX7_setMachine 81 = .ok (.getfield 41, 3) := by decide +kernel
theorem dX7_setMachine_84 : decode cX7_setMachine 84 = .ok (.iload_n 1, 1) := by decide +kernel
theorem dX7_setMachine_85 : decode cX7_setMachine 85 = .ok (.baload, 1) := by decide +kernel
theorem dX7_setMachine_86 : decode cX7_setMachine 86 = .ok (.ifCond .eq 42, 3) := by decide +kernel
theorem dX7_setMachine_89 : decode cX7_setMachine 89 = .ok (.aload_n 0, 1) := by decide +kernel
theorem dX7_setMachine_90 : decode cX7_setMachine 90 = .ok (.getfield 13, 3) := by decide +kernel
theorem dX7_setMachine_93 : decode cX7_setMachine 93 = .ok (.iload_n 2, 1) := by decide +kernel
theorem dX7_setMachine_94 : decode cX7_setMachine 94 = .ok (.iaload, 1) := by decide +kernel
theorem dX7_setMachine_95 : decode cX7_setMachine 95 = .ok (.aload_n 0, 1) := by decide +kernel
theorem dX7_setMachine_96 : decode cX7_setMachine 96 = .ok (.invokevirtual 98, 3) := by decide +kernel
theorem dX7_setMachine_99 : decode cX7_setMachine 99 = .ok (.if_icmp .ne 29, 3) := by decide +kernel
theorem dX7_setMachine_102 : decode cX7_setMachine 102 = .ok (.aload_n 0, 1) := by decide +kernel
theorem dX7_setMachine_103 : decode cX7_setMachine 103 = .ok (.getfield 45, 3) := by decide +kernel
theorem dX7_setMachine_106 : decode cX7_setMachine 106 = .ok (.iload_n 3, 1) := by decide +kernel
theorem dX7_setMachine_107 : decode cX7_setMachine 107 = .ok (.iconst 2, 1) := by decide +kernel
theorem dX7_setMachine_108 : decode cX7_setMachine 108 = .ok (.iadd, 1) := by decide +kernel
theorem dX7_setMachine_109 : decode cX7_setMachine 109 = .ok (.iload 4, 2) := by decide +kernel
theorem dX7_setMachine_111 : decode cX7_setMachine 111 = .ok (.iload 5, 2) := by decide +kernel
theorem dX7_setMachine_113 : decode cX7_setMachine 113 = .ok (.bipush 25, 2) := by decide +kernel
theorem dX7_setMachine_115 : decode cX7_setMachine 115 = .ok (.isub, 1) := by decide +kernel
theorem dX7_setMachine_116 : decode cX7_setMachine 116 = .ok (.if_icmp .ge 7, 3) := by decide +kernel
theorem dX7_setMachine_119 : decode cX7_setMachine 119 = .ok (.iconst 0, 1) := by decide +kernel
theorem dX7_setMachine_120 : decode cX7_setMachine 120 = .ok (.goto 4, 3) := by decide +kernel
theorem dX7_setMachine_123 : decode cX7_setMachine 123 = .ok (.iconst 1, 1) := by decide +kernel
theorem dX7_setMachine_124 : decode cX7_setMachine 124 = .ok (.iastore, 1) := by decide +kernel
theorem dX7_setMachine_125 : decode cX7_setMachine 125 = .ok (.goto 42, 3) := by decide +kernel
theorem dX7_setMachine_128 : decode cX7_setMachine 128 = .ok (.iload 4, 2) := by decide +kernel
theorem dX7_setMachine_130 : decode cX7_setMachine 130 = .ok (.iload 5, 2) := by decide +kernel
theorem dX7_setMachine_132 : decode cX7_setMachine 132 = .ok (.iconst 5, 1) := by decide +kernel
theorem dX7_setMachine_133 : decode cX7_setMachine 133 = .ok (.iadd, 1) := by decide +kernel
theorem dX7_setMachine_134 : decode cX7_setMachine 134 = .ok (.if_icmp .le 15, 3) := by decide +kernel
theorem dX7_setMachine_137 : decode cX7_setMachine 137 = .ok (.aload_n 0, 1) := by decide +kernel
theorem dX7_setMachine_138 : decode cX7_setMachine 138 = .ok (.getfield 45, 3) := by decide +kernel
theorem dX7_setMachine_141 : decode cX7_setMachine 141 = .ok (.iload_n 3, 1) := by decide +kernel
theorem dX7_setMachine_142 : decode cX7_setMachine 142 = .ok (.iconst 2, 1) := by decide +kernel
theorem dX7_setMachine_143 : decode cX7_setMachine 143 = .ok (.iadd, 1) := by decide +kernel
theorem dX7_setMachine_144 : decode cX7_setMachine 144 = .ok (.iconst 1, 1) := by decide +kernel
theorem dX7_setMachine_145 : decode cX7_setMachine 145 = .ok (.iastore, 1) := by decide +kernel
theorem dX7_setMachine_146 : decode cX7_setMachine 146 = .ok (.goto 21, 3) := by decide +kernel
theorem dX7_setMachine_149 : decode cX7_setMachine 149 = .ok (.iload 4, 2) := by decide +kernel
theorem dX7_setMachine_151 : decode cX7_setMachine 151 = .ok (.iload 5, 2) := by decide +kernel
theorem dX7_setMachine_153 : decode cX7_setMachine 153 = .ok (.iconst 5, 1) := by decide +kernel
theorem dX7_setMachine_154 : decode cX7_setMachine 154 = .ok (.isub, 1) := by decide +kernel
theorem dX7_setMachine_155 : decode cX7_setMachine 155 = .ok (.if_icmp .ge 12, 3) := by decide +kernel
theorem dX7_setMachine_158 : decode cX7_setMachine 158 = .ok (.aload_n 0, 1) := by decide +kernel
theorem dX7_setMachine_159 : decode cX7_setMachine 159 = .ok (.getfield 45, 3) := by decide +kernel
theorem dX7_setMachine_162 : decode cX7_setMachine 162 = .ok (.iload_n 3, 1) := by decide +kernel
theorem dX7_setMachine_163 : decode cX7_setMachine 163 = .ok (.iconst 2, 1) := by decide +kernel
theorem dX7_setMachine_164 : decode cX7_setMachine 164 = .ok (.iadd, 1) := by decide +kernel
theorem dX7_setMachine_165 : decode cX7_setMachine 165 = .ok (.iconst 0, 1) := by decide +kernel
theorem dX7_setMachine_166 : decode cX7_setMachine 166 = .ok (.iastore, 1) := by decide +kernel
theorem dX7_setMachine_167 : decode cX7_setMachine 167 = .ok (.return_, 1) := by decide +kernel
theorem dX7_hour_0 : decode cX7_hour 0 = .ok (.bipush 6, 2) := by decide +kernel
theorem dX7_hour_2 : decode cX7_hour 2 = .ok (.iload_n 1, 1) := by decide +kernel
theorem dX7_hour_3 : decode cX7_hour 3 = .ok (.imul, 1) := by decide +kernel
theorem dX7_hour_4 : decode cX7_hour 4 = .ok (.istore_n 3, 1) := by decide +kernel
theorem dX7_hour_5 : decode cX7_hour 5 = .ok (.aload_n 0, 1) := by decide +kernel
theorem dX7_hour_6 : decode cX7_hour 6 = .ok (.iload_n 1, 1) := by decide +kernel
theorem dX7_hour_7 : decode cX7_hour 7 = .ok (.iload_n 2, 1) := by decide +kernel
theorem dX7_hour_8 : decode cX7_hour 8 = .ok (.invokevirtual 150, 3) := by decide +kernel
theorem dX7_hour_11 : decode cX7_hour 11 = .ok (.aload_n 0, 1) := by decide +kernel
theorem dX7_hour_12 : decode cX7_hour 12 = .ok (.getfield 45, 3) := by decide +kernel
theorem dX7_hour_15 : decode cX7_hour 15 = .ok (.iload_n 3, 1) := by decide +kernel
theorem dX7_hour_16 : decode cX7_hour 16 = .ok (.iconst 0, 1) := by decide +kernel
theorem dX7_hour_17 : decode cX7_hour 17 = .ok (.iadd, 1) := by decide +kernel
theorem dX7_hour_18 : decode cX7_hour 18 = .ok (.iaload, 1) := by decide +kernel
theorem dX7_hour_19 : decode cX7_hour 19 = .ok (.istore 4, 2) := by decide +kernel
theorem dX7_hour_21 : decode cX7_hour 21 = .ok (.aload_n 0, 1) := by decide +kernel
theorem dX7_hour_22 : decode cX7_hour 22 = .ok (.iload_n 2, 1) := by decide +kernel
theorem dX7_hour_23 : decode cX7_hour 23 = .ok (.invokevirtual 91, 3) := by decide +kernel
theorem dX7_hour_26 : decode cX7_hour 26 = .ok (.iload 4, 2) := by decide +kernel
theorem dX7_hour_28 : decode cX7_hour 28 = .ok (.isub, 1) := by decide +kernel
theorem dX7_hour_29 : decode cX7_hour 29 = .ok (.aload_n 0, 1) := by decide +kernel
theorem dX7_hour_30 : decode cX7_hour 30 = .ok (.getfield 32, 3) := by decide +kernel
theorem dX7_hour_33 : decode cX7_hour 33 = .ok (.iload_n 1, 1) := by decide +kernel
theorem dX7_hour_34 : decode cX7_hour 34 = .ok (.iaload, 1) := by decide +kernel
theorem dX7_hour_35 : decode cX7_hour 35 = .ok (.imul, 1) := by decide +kernel
theorem dX7_hour_36 : decode cX7_hour 36 = .ok (.sipush 200, 3) := by decide +kernel
theorem dX7_hour_39 : decode cX7_hour 39 = .ok (.idiv, 1) := by decide +kernel
theorem dX7_hour_40 : decode cX7_hour 40 = .ok (.istore 5, 2) := by decide +kernel
theorem dX7_hour_42 : decode cX7_hour 42 = .ok (.iconst 0, 1) := by decide +kernel
theorem dX7_hour_43 : decode cX7_hour 43 = .ok (.istore 6, 2) := by decide +kernel
theorem dX7_hour_45 : decode cX7_hour 45 = .ok (.iload 6, 2) := by decide +kernel
theorem dX7_hour_47 : decode cX7_hour 47 = .ok (.aload_n 0, 1) := by decide +kernel
theorem dX7_hour_48 : decode cX7_hour 48 = .ok (.getfield 73, 3) := by decide +kernel
theorem dX7_hour_51 : decode cX7_hour 51 = .ok (.if_icmp .ge 38, 3) := by decide +kernel
theorem dX7_hour_54 : decode cX7_hour 54 = .ok (.aload_n 0, 1) := by decide +kernel
theorem dX7_hour_55 : decode cX7_hour 55 = .ok (.getfield 51, 3) := by decide +kernel
theorem dX7_hour_58 : decode cX7_hour 58 = .ok (.iload 6, 2) := by decide +kernel
theorem dX7_hour_60 : decode cX7_hour 60 = .ok (.iaload, 1) := by decide +kernel
theorem dX7_hour_61 : decode cX7_hour 61 = .ok (.iload_n 1, 1) := by decide +kernel
theorem dX7_hour_62 : decode cX7_hour 62 = .ok (.if_icmp .ne 21, 3) := by decide +kernel
theorem dX7_hour_65 : decode cX7_hour 65 = .ok (.iload 5, 2) := by decide +kernel
theorem dX7_hour_67 : decode cX7_hour 67 = .ok (.aload_n 0, 1) := by decide +kernel
theorem dX7_hour_68 : decode cX7_hour 68 = .ok (.getfield 54, 3) := by decide +kernel
theorem dX7_hour_71 : decode cX7_hour 71 = .ok (.iload 6, 2) := by decide +kernel
theorem dX7_hour_73 : decode cX7_hour 73 = .ok (.iaload, 1) := by decide +kernel
theorem dX7_hour_74 : decode cX7_hour 74 = .ok (.iload 4, 2) := by decide +kernel
theorem dX7_hour_76 : decode cX7_hour 76 = .ok (.isub, 1) := by decide +kernel
theorem dX7_hour_77 : decode cX7_hour 77 = .ok (.bipush 40, 2) := by decide +kernel
theorem dX7_hour_79 : decode cX7_hour 79 = .ok (.idiv, 1) := by decide +kernel
theorem dX7_hour_80 : decode cX7_hour 80 = .ok (.iadd, 1) := by decide +kernel
theorem dX7_hour_81 : decode cX7_hour 81 = .ok (.istore 5, 2) := by decide +kernel
theorem dX7_hour_83 : decode cX7_hour 83 = .ok (.iinc 6 1, 3) := by decide +kernel
theorem dX7_hour_86 : decode cX7_hour 86 = .ok (.goto (-41), 3) := by decide +kernel
theorem dX7_hour_89 : decode cX7_hour 89 = .ok (.aload_n 0, 1) := by decide +kernel
theorem dX7_hour_90 : decode cX7_hour 90 = .ok (.getfield 45, 3) := by decide +kernel
theorem dX7_hour_93 : decode cX7_hour 93 = .ok (.iload_n 3, 1) := by decide +kernel
theorem dX7_hour_94 : decode cX7_hour 94 = .ok (.iconst 2, 1) := by decide +kernel
theorem dX7_hour_95 : decode cX7_hour 95 = .ok (.iadd, 1) := by decide +kernel
theorem dX7_hour_96 : decode cX7_hour 96 = .ok (.iaload, 1) := by decide +kernel
theorem dX7_hour_97 : decode cX7_hour 97 = .ok (.iconst 2, 1) := by decide +kernel
theorem dX7_hour_98 : decode cX7_hour 98 = .ok (.if_icmp .ne 6, 3) := by decide +kernel
theorem dX7_hour_101 : decode cX7_hour 101 = .ok (.iinc 5 8, 3) := by decide +kernel
theorem dX7_hour_104 : decode cX7_hour 104 = .ok (.aload_n 0, 1) := by decide +kernel
theorem dX7_hour_105 : decode cX7_hour 105 = .ok (.getfield 45, 3) := by decide +kernel
theorem dX7_hour_108 : decode cX7_hour 108 = .ok (.iload_n 3, 1) := by decide +kernel
theorem dX7_hour_109 : decode cX7_hour 109 = .ok (.iconst 2, 1) := by decide +kernel
theorem dX7_hour_110 : decode cX7_hour 110 = .ok (.iadd, 1) := by decide +kernel
theorem dX7_hour_111 : decode cX7_hour 111 = .ok (.iaload, 1) := by decide +kernel
theorem dX7_hour_112 : decode cX7_hour 112 = .ok (.iconst 1, 1) := by decide +kernel
theorem dX7_hour_113 : decode cX7_hour 113 = .ok (.if_icmp .ne 94, 3) := by decide +kernel
theorem dX7_hour_116 : decode cX7_hour 116 = .ok (.iload 5, 2) := by decide +kernel
theorem dX7_hour_118 : decode cX7_hour 118 = .ok (.aload_n 0, 1) := by decide +kernel
theorem dX7_hour_119 : decode cX7_hour 119 = .ok (.getfield 35, 3) := by decide +kernel
theorem dX7_hour_122 : decode cX7_hour 122 = .ok (.iload_n 1, 1) := by decide +kernel
theorem dX7_hour_123 : decode cX7_hour 123 = .ok (.iaload, 1) := by decide +kernel
theorem dX7_hour_124 : decode cX7_hour 124 = .ok (.bipush 100, 2) := by decide +kernel
theorem dX7_hour_126 : decode cX7_hour 126 = .ok (.aload_n 0, 1) := by decide +kernel
theorem dX7_hour_127 : decode cX7_hour 127 = .ok (.getfield 45, 3) := by decide +kernel
theorem dX7_hour_130 : decode cX7_hour 130 = .ok (.iload_n 3, 1) := by decide +kernel
theorem dX7_hour_131 : decode cX7_hour 131 = .ok (.iconst 1, 1) := by decide +kernel
theorem dX7_hour_132 : decode cX7_hour 132 = .ok (.iadd, 1) := by decide +kernel
theorem dX7_hour_133 : decode cX7_hour 133 = .ok (.iaload, 1) := by decide +kernel
theorem dX7_hour_134 : decode cX7_hour 134 = .ok (.isub, 1) := by decide +kernel
theorem dX7_hour_135 : decode cX7_hour 135 = .ok (.imul, 1) := by decide +kernel
theorem dX7_hour_136 : decode cX7_hour 136 = .ok (.sipush 1000, 3) := by decide +kernel
theorem dX7_hour_139 : decode cX7_hour 139 = .ok (.idiv, 1) := by decide +kernel
theorem dX7_hour_140 : decode cX7_hour 140 = .ok (.isub, 1) := by decide +kernel
theorem dX7_hour_141 : decode cX7_hour 141 = .ok (.istore 5, 2) := by decide +kernel
theorem dX7_hour_143 : decode cX7_hour 143 = .ok (.aload_n 0, 1) := by decide +kernel
theorem dX7_hour_144 : decode cX7_hour 144 = .ok (.dup, 1) := by decide +kernel
theorem dX7_hour_145 : decode cX7_hour 145 = .ok (.getfield 154, 3) := by decide +kernel
theorem dX7_hour_148 : decode cX7_hour 148 = .ok (.aload_n 0, 1) := by decide +kernel
theorem dX7_hour_149 : decode cX7_hour 149 = .ok (.getfield 35, 3) := by decide +kernel
theorem dX7_hour_152 : decode cX7_hour 152 = .ok (.iload_n 1, 1) := by decide +kernel
theorem dX7_hour_153 : decode cX7_hour 153 = .ok (.iaload, 1) := by decide +kernel
theorem dX7_hour_154 : decode cX7_hour 154 = .ok (.i2l, 1) := by decide +kernel
theorem dX7_hour_155 : decode cX7_hour 155 = .ok (.aload_n 0, 1) := by decide +kernel
theorem dX7_hour_156 : decode cX7_hour 156 = .ok (.getfield 13, 3) := by decide +kernel
theorem dX7_hour_159 : decode cX7_hour 159 = .ok (.iload_n 2, 1) := by decide +kernel
theorem dX7_hour_160 : decode cX7_hour 160 = .ok (.iaload, 1) := by decide +kernel
theorem dX7_hour_161 : decode cX7_hour 161 = .ok (.i2l, 1) := by decide +kernel
theorem dX7_hour_162 : decode cX7_hour 162 = .ok (.lmul, 1) := by decide +kernel
theorem dX7_hour_163 : decode cX7_hour 163 = .ok (.ladd, 1) := by decide +kernel
theorem dX7_hour_164 : decode cX7_hour 164 = .ok (.putfield 154, 3) := by decide +kernel
theorem dX7_hour_167 : decode cX7_hour 167 = .ok (.aload_n 0, 1) := by decide +kernel
theorem dX7_hour_168 : decode cX7_hour 168 = .ok (.getfield 45, 3) := by decide +kernel
theorem dX7_hour_171 : decode cX7_hour 171 = .ok (.iload_n 3, 1) := by decide +kernel
theorem dX7_hour_172 : decode cX7_hour 172 = .ok (.iconst 4, 1) := by decide +kernel
theorem dX7_hour_173 : decode cX7_hour 173 = .ok (.iadd, 1) := by decide +kernel
theorem dX7_hour_174 : decode cX7_hour 174 = .ok (.dup2, 1) := by decide +kernel
theorem dX7_hour_175 : decode cX7_hour 175 = .ok (.iaload, 1) := by decide +kernel
theorem dX7_hour_176 : decode cX7_hour 176 = .ok (.aload_n 0, 1) := by decide +kernel
theorem dX7_hour_177 : decode cX7_hour 177 = .ok (.getfield 35, 3) := by decide +kernel
theorem dX7_hour_180 : decode cX7_hour 180 = .ok (.iload_n 1, 1) := by decide +kernel
theorem dX7_hour_181 : decode cX7_hour 181 = .ok (.iaload, 1) := by decide +kernel
theorem dX7_hour_182 : decode cX7_hour 182 = .ok (.iadd, 1) := by decide +kernel
theorem dX7_hour_183 : decode cX7_hour 183 = .ok (.iastore, 1) := by decide +kernel
theorem dX7_hour_184 : decode cX7_hour 184 = .ok (.aload_n 0, 1) := by decide +kernel
theorem dX7_hour_185 : decode cX7_hour 185 = .ok (.getfield 45, 3) := by decide +kernel
theorem dX7_hour_188 : decode cX7_hour 188 = .ok (.iload_n 3, 1) := by decide +kernel
theorem dX7_hour_189 : decode cX7_hour 189 = .ok (.iconst 1, 1) := by decide +kernel
theorem dX7_hour_190 : decode cX7_hour 190 = .ok (.iadd, 1) := by decide +kernel
theorem dX7_hour_191 : decode cX7_hour 191 = .ok (.bipush 90, 2) := by decide +kernel
theorem dX7_hour_193 : decode cX7_hour 193 = .ok (.aload_n 0, 1) := by decide +kernel
theorem dX7_hour_194 : decode cX7_hour 194 = .ok (.getfield 45, 3) := by decide +kernel
theorem dX7_hour_197 : decode cX7_hour 197 = .ok (.iload_n 3, 1) := by decide +kernel
theorem dX7_hour_198 : decode cX7_hour 198 = .ok (.iconst 1, 1) := by decide +kernel
theorem dX7_hour_199 : decode cX7_hour 199 = .ok (.iadd, 1) := by decide +kernel
theorem dX7_hour_200 : decode cX7_hour 200 = .ok (.iaload, 1) := by decide +kernel
theorem dX7_hour_201 : decode cX7_hour 201 = .ok (.iconst 1, 1) := by decide +kernel
theorem dX7_hour_202 : decode cX7_hour 202 = .ok (.iadd, 1) := by decide +kernel
theorem dX7_hour_203 : decode cX7_hour 203 = .ok (.invokestatic 94, 3) := by decide +kernel
theorem dX7_hour_206 : decode cX7_hour 206 = .ok (.iastore, 1) := by decide +kernel
theorem dX7_hour_207 : decode cX7_hour 207 = .ok (.aload_n 0, 1) := by decide +kernel
theorem dX7_hour_208 : decode cX7_hour 208 = .ok (.getfield 45, 3) := by decide +kernel
theorem dX7_hour_211 : decode cX7_hour 211 = .ok (.iload_n 3, 1) := by decide +kernel
theorem dX7_hour_212 : decode cX7_hour 212 = .ok (.iconst 0, 1) := by decide +kernel
theorem dX7_hour_213 : decode cX7_hour 213 = .ok (.iadd, 1) := by decide +kernel
theorem dX7_hour_214 : decode cX7_hour 214 = .ok (.iload 4, 2) := by decide +kernel
theorem dX7_hour_216 : decode cX7_hour 216 = .ok (.iload 5, 2) := by decide +kernel
theorem dX7_hour_218 : decode cX7_hour 218 = .ok (.iadd, 1) := by decide +kernel
theorem dX7_hour_219 : decode cX7_hour 219 = .ok (.iastore, 1) := by decide +kernel
theorem dX7_hour_220 : decode cX7_hour 220 = .ok (.aload_n 0, 1) := by decide +kernel
theorem dX7_hour_221 : decode cX7_hour 221 = .ok (.getfield 45, 3) := by decide +kernel
theorem dX7_hour_224 : decode cX7_hour 224 = .ok (.iload_n 3, 1) := by decide +kernel
theorem dX7_hour_225 : decode cX7_hour 225 = .ok (.iconst 0, 1) := by decide +kernel
theorem dX7_hour_226 : decode cX7_hour 226 = .ok (.iadd, 1) := by decide +kernel
theorem dX7_hour_227 : decode cX7_hour 227 = .ok (.iaload, 1) := by decide +kernel
theorem dX7_hour_228 : decode cX7_hour 228 = .ok (.aload_n 0, 1) := by decide +kernel
theorem dX7_hour_229 : decode cX7_hour 229 = .ok (.getfield 38, 3) := by decide +kernel
theorem dX7_hour_232 : decode cX7_hour 232 = .ok (.iload_n 1, 1) := by decide +kernel
theorem dX7_hour_233 : decode cX7_hour 233 = .ok (.iaload, 1) := by decide +kernel
theorem dX7_hour_234 : decode cX7_hour 234 = .ok (.bipush 20, 2) := by decide +kernel
theorem dX7_hour_236 : decode cX7_hour 236 = .ok (.iadd, 1) := by decide +kernel
theorem dX7_hour_237 : decode cX7_hour 237 = .ok (.if_icmp .le 15, 3) := by decide +kernel
theorem dX7_hour_240 : decode cX7_hour 240 = .ok (.aload_n 0, 1) := by decide +kernel
theorem dX7_hour_241 : decode cX7_hour 241 = .ok (.getfield 45, 3) := by decide +kernel
theorem dX7_hour_244 : decode cX7_hour 244 = .ok (.iload_n 3, 1) := by decide +kernel
theorem dX7_hour_245 : decode cX7_hour 245 = .ok (.iconst 5, 1) := by decide +kernel
theorem dX7_hour_246 : decode cX7_hour 246 = .ok (.iadd, 1) := by decide +kernel
theorem dX7_hour_247 : decode cX7_hour 247 = .ok (.dup2, 1) := by decide +kernel
theorem dX7_hour_248 : decode cX7_hour 248 = .ok (.iaload, 1) := by decide +kernel
theorem dX7_hour_249 : decode cX7_hour 249 = .ok (.iconst 1, 1) := by decide +kernel
theorem dX7_hour_250 : decode cX7_hour 250 = .ok (.iadd, 1) := by decide +kernel
theorem dX7_hour_251 : decode cX7_hour 251 = .ok (.iastore, 1) := by decide +kernel
theorem dX7_hour_252 : decode cX7_hour 252 = .ok (.iconst 0, 1) := by decide +kernel
theorem dX7_hour_253 : decode cX7_hour 253 = .ok (.istore 6, 2) := by decide +kernel
theorem dX7_hour_255 : decode cX7_hour 255 = .ok (.iload 6, 2) := by decide +kernel
theorem dX7_hour_257 : decode cX7_hour 257 = .ok (.aload_n 0, 1) := by decide +kernel
theorem dX7_hour_258 : decode cX7_hour 258 = .ok (.getfield 73, 3) := by decide +kernel
theorem dX7_hour_261 : decode cX7_hour 261 = .ok (.if_icmp .ge 85, 3) := by decide +kernel
theorem dX7_hour_264 : decode cX7_hour 264 = .ok (.aload_n 0, 1) := by decide +kernel
theorem dX7_hour_265 : decode cX7_hour 265 = .ok (.getfield 51, 3) := by decide +kernel
theorem dX7_hour_268 : decode cX7_hour 268 = .ok (.iload 6, 2) := by decide +kernel
theorem dX7_hour_270 : decode cX7_hour 270 = .ok (.iaload, 1) := by decide +kernel
theorem dX7_hour_271 : decode cX7_hour 271 = .ok (.iload_n 1, 1) := by decide +kernel
theorem dX7_hour_272 : decode cX7_hour 272 = .ok (.if_icmp .eq 6, 3) := by decide +kernel
theorem dX7_hour_275 : decode cX7_hour 275 = .ok (.goto 65, 3) := by decide +kernel
theorem dX7_hour_278 : decode cX7_hour 278 = .ok (.aload_n 0, 1) := by decide +kernel
theorem dX7_hour_279 : decode cX7_hour 279 = .ok (.getfield 54, 3) := by decide +kernel
theorem dX7_hour_282 : decode cX7_hour 282 = .ok (.iload 6, 2) := by decide +kernel
theorem dX7_hour_284 : decode cX7_hour 284 = .ok (.dup2, 1) := by decide +kernel
theorem dX7_hour_285 : decode cX7_hour 285 = .ok (.iaload, 1) := by decide +kernel
theorem dX7_hour_286 : decode cX7_hour 286 = .ok (.aload_n 0, 1) := by decide +kernel
theorem dX7_hour_287 : decode cX7_hour 287 = .ok (.getfield 45, 3) := by decide +kernel
theorem dX7_hour_290 : decode cX7_hour 290 = .ok (.iload_n 3, 1) := by decide +kernel
theorem dX7_hour_291 : decode cX7_hour 291 = .ok (.iconst 0, 1) := by decide +kernel
theorem dX7_hour_292 : decode cX7_hour 292 = .ok (.iadd, 1) := by decide +kernel
theorem dX7_hour_293 : decode cX7_hour 293 = .ok (.iaload, 1) := by decide +kernel
theorem dX7_hour_294 : decode cX7_hour 294 = .ok (.aload_n 0, 1) := by decide +kernel
theorem dX7_hour_295 : decode cX7_hour 295 = .ok (.getfield 54, 3) := by decide +kernel
theorem dX7_hour_298 : decode cX7_hour 298 = .ok (.iload 6, 2) := by decide +kernel
theorem dX7_hour_300 : decode cX7_hour 300 = .ok (.iaload, 1) := by decide +kernel
theorem dX7_hour_301 : decode cX7_hour 301 = .ok (.isub, 1) := by decide +kernel
theorem dX7_hour_302 : decode cX7_hour 302 = .ok (.bipush 8, 2) := by decide +kernel
theorem dX7_hour_304 : decode cX7_hour 304 = .ok (.idiv, 1) := by decide +kernel
theorem dX7_hour_305 : decode cX7_hour 305 = .ok (.iadd, 1) := by decide +kernel
theorem dX7_hour_306 : decode cX7_hour 306 = .ok (.iastore, 1) := by decide +kernel
theorem dX7_hour_307 : decode cX7_hour 307 = .ok (.aload_n 0, 1) := by decide +kernel
theorem dX7_hour_308 : decode cX7_hour 308 = .ok (.getfield 57, 3) := by decide +kernel
theorem dX7_hour_311 : decode cX7_hour 311 = .ok (.iload 6, 2) := by decide +kernel
theorem dX7_hour_313 : decode cX7_hour 313 = .ok (.dup2, 1) := by decide +kernel
theorem dX7_hour_314 : decode cX7_hour 314 = .ok (.iaload, 1) := by decide +kernel
theorem dX7_hour_315 : decode cX7_hour 315 = .ok (.iconst 1, 1) := by decide +kernel
theorem dX7_hour_316 : decode cX7_hour 316 = .ok (.aload_n 0, 1) := by decide +kernel
theorem dX7_hour_317 : decode cX7_hour 317 = .ok (.aload_n 0, 1) := by decide +kernel
theorem dX7_hour_318 : decode cX7_hour 318 = .ok (.getfield 48, 3) := by decide +kernel
theorem dX7_hour_321 : decode cX7_hour 321 = .ok (.iload 6, 2) := by decide +kernel
theorem dX7_hour_323 : decode cX7_hour 323 = .ok (.iaload, 1) := by decide +kernel
theorem dX7_hour_324 : decode cX7_hour 324 = .ok (.aload_n 0, 1) := by decide +kernel
theorem dX7_hour_325 : decode cX7_hour 325 = .ok (.getfield 54, 3) := by decide +kernel
theorem dX7_hour_328 : decode cX7_hour 328 = .ok (.iload 6, 2) := by decide +kernel
theorem dX7_hour_330 : decode cX7_hour 330 = .ok (.iaload, 1) := by decide +kernel
theorem dX7_hour_331 : decode cX7_hour 331 = .ok (.invokevirtual 137, 3) := by decide +kernel
theorem dX7_hour_334 : decode cX7_hour 334 = .ok (.bipush 10, 2) := by decide +kernel
theorem dX7_hour_336 : decode cX7_hour 336 = .ok (.idiv, 1) := by decide +kernel
theorem dX7_hour_337 : decode cX7_hour 337 = .ok (.iadd, 1) := by decide +kernel
theorem dX7_hour_338 : decode cX7_hour 338 = .ok (.iadd, 1) := by decide +kernel
theorem dX7_hour_339 : decode cX7_hour 339 = .ok (.iastore, 1) := by decide +kernel
theorem dX7_hour_340 : decode cX7_hour 340 = .ok (.iinc 6 1, 3) := by decide +kernel
theorem dX7_hour_343 : decode cX7_hour 343 = .ok (.goto (-88), 3) := by decide +kernel
theorem dX7_hour_346 : decode cX7_hour 346 = .ok (.return_, 1) := by decide +kernel
theorem dX7_tick_0 : decode cX7_tick 0 = .ok (.aload_n 0, 1) := by decide +kernel
theorem dX7_tick_1 : decode cX7_tick 1 = .ok (.iconst 0, 1) := by decide +kernel
theorem dX7_tick_2 : decode cX7_tick 2 = .ok (.putfield 60, 3) := by decide +kernel
theorem dX7_tick_5 : decode cX7_tick 5 = .ok (.iload_n 1, 1) := by decide +kernel
theorem dX7_tick_6 : decode cX7_tick 6 = .ok (.iconst 1, 1) := by decide +kernel
theorem dX7_tick_7 : decode cX7_tick 7 = .ok (.sipush 200, 3) := by decide +kernel
theorem dX7_tick_10 : decode cX7_tick 10 = .ok (.invokestatic 66, 3) := by decide +kernel
theorem dX7_tick_13 : decode cX7_tick 13 = .ok (.ifCond .eq 15, 3) := by decide +kernel
theorem dX7_tick_16 : decode cX7_tick 16 = .ok (.aload_n 0, 1) := by decide +kernel
theorem dX7_tick_17 : decode cX7_tick 17 = .ok (.getfield 88, 3) := by decide +kernel
theorem dX7_tick_20 : decode cX7_tick 20 = .ok (.iload_n 1, 1) := by decide +kernel
theorem dX7_tick_21 : decode cX7_tick 21 = .ok (.iadd, 1) := by decide +kernel
theorem dX7_tick_22 : decode cX7_tick 22 = .ok (.sipush 2000, 3) := by decide +kernel
theorem dX7_tick_25 : decode cX7_tick 25 = .ok (.if_icmp .le 9, 3) := by decide +kernel
theorem dX7_tick_28 : decode cX7_tick 28 = .ok (.aload_n 0, 1) := by decide +kernel
theorem dX7_tick_29 : decode cX7_tick 29 = .ok (.iconst 1, 1) := by decide +kernel
theorem dX7_tick_30 : decode cX7_tick 30 = .ok (.invokevirtual 85, 3) := by decide +kernel
theorem dX7_tick_33 : decode cX7_tick 33 = .ok (.ireturn, 1) := by decide +kernel
theorem dX7_tick_34 : decode cX7_tick 34 = .ok (.aload_n 0, 1) := by decide +kernel
theorem dX7_tick_35 : decode cX7_tick 35 = .ok (.iconst (-1), 1) := by decide +kernel
theorem dX7_tick_36 : decode cX7_tick 36 = .ok (.iconst 1, 1) := by decide +kernel
theorem dX7_tick_37 : decode cX7_tick 37 = .ok (.invokevirtual 143, 3) := by decide +kernel
theorem dX7_tick_40 : decode cX7_tick 40 = .ok (.istore_n 2, 1) := by decide +kernel
theorem dX7_tick_41 : decode cX7_tick 41 = .ok (.iconst 0, 1) := by decide +kernel
theorem dX7_tick_42 : decode cX7_tick 42 = .ok (.istore_n 3, 1) := by decide +kernel
theorem dX7_tick_43 : decode cX7_tick 43 = .ok (.iload_n 3, 1) := by decide +kernel
theorem dX7_tick_44 : decode cX7_tick 44 = .ok (.iload_n 1, 1) := by decide +kernel
theorem dX7_tick_45 : decode cX7_tick 45 = .ok (.if_icmp .ge 50, 3) := by decide +kernel
theorem dX7_tick_48 : decode cX7_tick 48 = .ok (.iconst 0, 1) := by decide +kernel
theorem dX7_tick_49 : decode cX7_tick 49 = .ok (.istore 4, 2) := by decide +kernel
theorem dX7_tick_51 : decode cX7_tick 51 = .ok (.iload 4, 2) := by decide +kernel
theorem dX7_tick_53 : decode cX7_tick 53 = .ok (.aload_n 0, 1) := by decide +kernel
theorem dX7_tick_54 : decode cX7_tick 54 = .ok (.getfield 70, 3) := by decide +kernel
theorem dX7_tick_57 : decode cX7_tick 57 = .ok (.if_icmp .ge 22, 3) := by decide +kernel
theorem dX7_tick_60 : decode cX7_tick 60 = .ok (.aload_n 0, 1) := by decide +kernel
theorem dX7_tick_61 : decode cX7_tick 61 = .ok (.iload 4, 2) := by decide +kernel
theorem dX7_tick_63 : decode cX7_tick 63 = .ok (.aload_n 0, 1) := by decide +kernel
theorem dX7_tick_64 : decode cX7_tick 64 = .ok (.getfield 88, 3) := by decide +kernel
theorem dX7_tick_67 : decode cX7_tick 67 = .ok (.bipush 24, 2) := by decide +kernel
theorem dX7_tick_69 : decode cX7_tick 69 = .ok (.irem, 1) := by decide +kernel
theorem dX7_tick_70 : decode cX7_tick 70 = .ok (.invokevirtual 158, 3) := by decide +kernel
theorem dX7_tick_73 : decode cX7_tick 73 = .ok (.iinc 4 1, 3) := by decide +kernel
theorem dX7_tick_76 : decode cX7_tick 76 = .ok (.goto (-25), 3) := by decide +kernel
theorem dX7_tick_79 : decode cX7_tick 79 = .ok (.aload_n 0, 1) := by decide +kernel
theorem dX7_tick_80 : decode cX7_tick 80 = .ok (.dup, 1) := by decide +kernel
theorem dX7_tick_81 : decode cX7_tick 81 = .ok (.getfield 88, 3) := by decide +kernel
theorem dX7_tick_84 : decode cX7_tick 84 = .ok (.iconst 1, 1) := by decide +kernel
theorem dX7_tick_85 : decode cX7_tick 85 = .ok (.iadd, 1) := by decide +kernel
theorem dX7_tick_86 : decode cX7_tick 86 = .ok (.putfield 88, 3) := by decide +kernel
theorem dX7_tick_89 : decode cX7_tick 89 = .ok (.iinc 3 1, 3) := by decide +kernel
theorem dX7_tick_92 : decode cX7_tick 92 = .ok (.goto (-49), 3) := by decide +kernel
theorem dX7_tick_95 : decode cX7_tick 95 = .ok (.aload_n 0, 1) := by decide +kernel
theorem dX7_tick_96 : decode cX7_tick 96 = .ok (.iconst (-1), 1) := by decide +kernel
theorem dX7_tick_97 : decode cX7_tick 97 = .ok (.iconst 1, 1) := by decide +kernel
theorem dX7_tick_98 : decode cX7_tick 98 = .ok (.invokevirtual 143, 3) := by decide +kernel
theorem dX7_tick_101 : decode cX7_tick 101 = .ok (.iload_n 2, 1) := by decide +kernel
theorem dX7_tick_102 : decode cX7_tick 102 = .ok (.isub, 1) := by decide +kernel
theorem dX7_tick_103 : decode cX7_tick 103 = .ok (.ireturn, 1) := by decide +kernel
theorem dX7_ahead_0 : decode cX7_ahead 0 = .ok (.aload_n 0, 1) := by decide +kernel
theorem dX7_ahead_1 : decode cX7_ahead 1 = .ok (.getfield 45, 3) := by decide +kernel
theorem dX7_ahead_4 : decode cX7_ahead 4 = .ok (.invokevirtual 161, 3) := by decide +kernel
theorem dX7_ahead_7 : decode cX7_ahead 7 = .ok (.checkcast 162, 3) := by decide +kernel
theorem dX7_ahead_10 : decode cX7_ahead 10 = .ok (.astore 4, 2) := by decide +kernel
theorem dX7_ahead_12 : decode cX7_ahead 12 = .ok (.aload_n 0, 1) := by decide +kernel
theorem dX7_ahead_13 : decode cX7_ahead 13 = .ok (.getfield 54, 3) := by decide +kernel
theorem dX7_ahead_16 : decode cX7_ahead 16 = .ok (.invokevirtual 161, 3) := by decide +kernel
theorem dX7_ahead_19 : decode cX7_ahead 19 = .ok (.checkcast 162, 3) := by decide +kernel
theorem dX7_ahead_22 : decode cX7_ahead 22 = .ok (.astore 5, 2) := by decide +kernel
theorem dX7_ahead_24 : decode cX7_ahead 24 = .ok (.aload_n 0, 1) := by decide +kernel
theorem dX7_ahead_25 : decode cX7_ahead 25 = .ok (.getfield 57, 3) := by decide +kernel
theorem dX7_ahead_28 : decode cX7_ahead 28 = .ok (.invokevirtual 161, 3) := by decide +kernel
theorem dX7_ahead_31 : decode cX7_ahead 31 = .ok (.checkcast 162, 3) := by decide +kernel
theorem dX7_ahead_34 : decode cX7_ahead 34 = .ok (.astore 6, 2) := by decide +kernel
theorem dX7_ahead_36 : decode cX7_ahead 36 = .ok (.aload_n 0, 1) := by decide +kernel
theorem dX7_ahead_37 : decode cX7_ahead 37 = .ok (.getfield 154, 3) := by decide +kernel
theorem dX7_ahead_40 : decode cX7_ahead 40 = .ok (.lstore 7, 2) := by decide +kernel
theorem dX7_ahead_42 : decode cX7_ahead 42 = .ok (.iconst 0, 1) := by decide +kernel
theorem dX7_ahead_43 : decode cX7_ahead 43 = .ok (.istore 9, 2) := by decide +kernel
theorem dX7_ahead_45 : decode cX7_ahead 45 = .ok (.iload 9, 2) := by decide +kernel
theorem dX7_ahead_47 : decode cX7_ahead 47 = .ok (.iload_n 2, 1) := by decide +kernel
theorem dX7_ahead_48 : decode cX7_ahead 48 = .ok (.if_icmp .ge 37, 3) := by decide +kernel
theorem dX7_ahead_51 : decode cX7_ahead 51 = .ok (.iload_n 3, 1) := by decide +kernel
theorem dX7_ahead_52 : decode cX7_ahead 52 = .ok (.iconst (-1), 1) := by decide +kernel
theorem dX7_ahead_53 : decode cX7_ahead 53 = .ok (.if_icmp .eq 11, 3) := by decide +kernel
theorem dX7_ahead_56 : decode cX7_ahead 56 = .ok (.aload_n 0, 1) := by decide +kernel
theorem dX7_ahead_57 : decode cX7_ahead 57 = .ok (.iload_n 3, 1) := by decide +kernel
theorem dX7_ahead_58 : decode cX7_ahead 58 = .ok (.invokevirtual 128, 3) := by decide +kernel
theorem dX7_ahead_61 : decode cX7_ahead 61 = .ok (.ifCond .lt 24, 3) := by decide +kernel
theorem dX7_ahead_64 : decode cX7_ahead 64 = .ok (.aload_n 0, 1) := by decide +kernel
theorem dX7_ahead_65 : decode cX7_ahead 65 = .ok (.iload_n 1, 1) := by decide +kernel
theorem dX7_ahead_66 : decode cX7_ahead 66 = .ok (.aload_n 0, 1) := by decide +kernel
theorem dX7_ahead_67 : decode cX7_ahead 67 = .ok (.getfield 88, 3) := by decide +kernel
theorem dX7_ahead_70 : decode cX7_ahead 70 = .ok (.iload 9, 2) := by decide +kernel
theorem dX7_ahead_72 : decode cX7_ahead 72 = .ok (.iadd, 1) := by decide +kernel
theorem dX7_ahead_73 : decode cX7_ahead 73 = .ok (.bipush 24, 2) := by decide +kernel
theorem dX7_ahead_75 : decode cX7_ahead 75 = .ok (.irem, 1) := by decide +kernel
theorem dX7_ahead_76 : decode cX7_ahead 76 = .ok (.invokevirtual 158, 3) := by decide +kernel
theorem dX7_ahead_79 : decode cX7_ahead 79 = .ok (.iinc 9 1, 3) := by decide +kernel
theorem dX7_ahead_82 : decode cX7_ahead 82 = .ok (.goto (-37), 3) := by decide +kernel
theorem dX7_ahead_85 : decode cX7_ahead 85 = .ok (.iconst 2, 1) := by decide +kernel
theorem dX7_ahead_86 : decode cX7_ahead 86 = .ok (.newarray .int, 2) := by decide +kernel
theorem dX7_ahead_88 : decode cX7_ahead 88 = .ok (.dup, 1) := by decide +kernel
theorem dX7_ahead_89 : decode cX7_ahead 89 = .ok (.iconst 0, 1) := by decide +kernel
theorem dX7_ahead_90 : decode cX7_ahead 90 = .ok (.iload 9, 2) := by decide +kernel
theorem dX7_ahead_92 : decode cX7_ahead 92 = .ok (.iastore, 1) := by decide +kernel
theorem dX7_ahead_93 : decode cX7_ahead 93 = .ok (.dup, 1) := by decide +kernel
theorem dX7_ahead_94 : decode cX7_ahead 94 = .ok (.iconst 1, 1) := by decide +kernel
theorem dX7_ahead_95 : decode cX7_ahead 95 = .ok (.aload_n 0, 1) := by decide +kernel
theorem dX7_ahead_96 : decode cX7_ahead 96 = .ok (.getfield 45, 3) := by decide +kernel
theorem dX7_ahead_99 : decode cX7_ahead 99 = .ok (.bipush 6, 2) := by decide +kernel
theorem dX7_ahead_101 : decode cX7_ahead 101 = .ok (.iload_n 1, 1) := by decide +kernel
theorem dX7_ahead_102 : decode cX7_ahead 102 = .ok (.imul, 1) := by decide +kernel
theorem dX7_ahead_103 : decode cX7_ahead 103 = .ok (.iconst 0, 1) := by decide +kernel
theorem dX7_ahead_104 : decode cX7_ahead 104 = .ok (.iadd, 1) := by decide +kernel
theorem dX7_ahead_105 : decode cX7_ahead 105 = .ok (.iaload, 1) := by decide +kernel
theorem dX7_ahead_106 : decode cX7_ahead 106 = .ok (.iastore, 1) := by decide +kernel
theorem dX7_ahead_107 : decode cX7_ahead 107 = .ok (.astore 10, 2) := by decide +kernel
theorem dX7_ahead_109 : decode cX7_ahead 109 = .ok (.aload 4, 2) := by decide +kernel
theorem dX7_ahead_111 : decode cX7_ahead 111 = .ok (.iconst 0, 1) := by decide +kernel
theorem dX7_ahead_112 : decode cX7_ahead 112 = .ok (.aload_n 0, 1) := by decide +kernel
theorem dX7_ahead_113 : decode cX7_ahead 113 = .ok (.getfield 45, 3) := by decide +kernel
theorem dX7_ahead_116 : decode cX7_ahead 116 = .ok (.iconst 0, 1) := by decide +kernel
theorem dX7_ahead_117 : decode cX7_ahead 117 = .ok (.aload_n 0, 1) := by decide +kernel
theorem dX7_ahead_118 : decode cX7_ahead 118 = .ok (.getfield 45, 3) := by decide +kernel
theorem dX7_ahead_121 : decode cX7_ahead 121 = .ok (.arraylength, 1) := by decide +kernel
theorem dX7_ahead_122 : decode cX7_ahead 122 = .ok (.invokestatic 166, 3) := by decide +kernel
theorem dX7_ahead_125 : decode cX7_ahead 125 = .ok (.aload 5, 2) := by decide +kernel
theorem dX7_ahead_127 : decode cX7_ahead 127 = .ok (.iconst 0, 1) := by decide +kernel
theorem dX7_ahead_128 : decode cX7_ahead 128 = .ok (.aload_n 0, 1) := by decide +kernel
theorem dX7_ahead_129 : decode cX7_ahead 129 = .ok (.getfield 54, 3) := by decide +kernel
theorem dX7_ahead_132 : decode cX7_ahead 132 = .ok (.iconst 0, 1) := by decide +kernel
theorem dX7_ahead_133 : decode cX7_ahead 133 = .ok (.bipush 60, 2) := by decide +kernel
theorem dX7_ahead_135 : decode cX7_ahead 135 = .ok (.invokestatic 166, 3) := by decide +kernel
theorem dX7_ahead_138 : decode cX7_ahead 138 = .ok (.aload 6, 2) := by decide +kernel
theorem dX7_ahead_140 : decode cX7_ahead 140 = .ok (.iconst 0, 1) := by decide +kernel
theorem dX7_ahead_141 : decode cX7_ahead 141 = .ok (.aload_n 0, 1) := by decide +kernel
theorem dX7_ahead_142 : decode cX7_ahead 142 = .ok (.getfield 57, 3) := by decide +kernel
theorem dX7_ahead_145 : decode cX7_ahead 145 = .ok (.iconst 0, 1) := by decide +kernel
theorem dX7_ahead_146 : decode cX7_ahead 146 = .ok (.bipush 60, 2) := by decide +kernel
theorem dX7_ahead_148 : decode cX7_ahead 148 = .ok (.invokestatic 166, 3) := by decide +kernel
theorem dX7_ahead_151 : decode cX7_ahead 151 = .ok (.aload_n 0, 1) := by decide +kernel
theorem dX7_ahead_152 : decode cX7_ahead 152 = .ok (.lload 7, 2) := by decide +kernel
theorem dX7_ahead_154 : decode cX7_ahead 154 = .ok (.putfield 154, 3) := by decide +kernel
theorem dX7_ahead_157 : decode cX7_ahead 157 = .ok (.aload 10, 2) := by decide +kernel
theorem dX7_ahead_159 : decode cX7_ahead 159 = .ok (.areturn, 1) := by decide +kernel
theorem dX7_foretell_0 : decode cX7_foretell 0 = .ok (.aload_n 0, 1) := by decide +kernel
theorem dX7_foretell_1 : decode cX7_foretell 1 = .ok (.iconst 0, 1) := by decide +kernel
theorem dX7_foretell_2 : decode cX7_foretell 2 = .ok (.putfield 60, 3) := by decide +kernel
theorem dX7_foretell_5 : decode cX7_foretell 5 = .ok (.aload_n 0, 1) := by decide +kernel
theorem dX7_foretell_6 : decode cX7_foretell 6 = .ok (.iload_n 1, 1) := by decide +kernel
theorem dX7_foretell_7 : decode cX7_foretell 7 = .ok (.invokevirtual 106, 3) := by decide +kernel
theorem dX7_foretell_10 : decode cX7_foretell 10 = .ok (.ifCond .ne 9, 3) := by decide +kernel
theorem dX7_foretell_13 : decode cX7_foretell 13 = .ok (.aload_n 0, 1) := by decide +kernel
theorem dX7_foretell_14 : decode cX7_foretell 14 = .ok (.iconst 1, 1) := by decide +kernel
theorem dX7_foretell_15 : decode cX7_foretell 15 = .ok (.invokevirtual 85, 3) := by decide +kernel
theorem dX7_foretell_18 : decode cX7_foretell 18 = .ok (.ireturn, 1) := by decide +kernel
theorem dX7_foretell_19 : decode cX7_foretell 19 = .ok (.iload_n 2, 1) := by decide +kernel
theorem dX7_foretell_20 : decode cX7_foretell 20 = .ok (.iconst 0, 1) := by decide +kernel
theorem dX7_foretell_21 : decode cX7_foretell 21 = .ok (.bipush 100, 2) := by decide +kernel
theorem dX7_foretell_23 : decode cX7_foretell 23 = .ok (.invokestatic 66, 3) := by decide +kernel
theorem dX7_foretell_26 : decode cX7_foretell 26 = .ok (.ifCond .eq 15, 3) := by decide +kernel
theorem dX7_foretell_29 : decode cX7_foretell 29 = .ok (.aload_n 0, 1) := by decide +kernel
theorem dX7_foretell_30 : decode cX7_foretell 30 = .ok (.iload_n 1, 1) := by decide +kernel
theorem dX7_foretell_31 : decode cX7_foretell 31 = .ok (.iload_n 2, 1) := by decide +kernel
theorem dX7_foretell_32 : decode cX7_foretell 32 = .ok (.iconst (-1), 1) := by decide +kernel
theorem dX7_foretell_33 : decode cX7_foretell 33 = .ok (.invokevirtual 172, 3) := by decide +kernel
theorem dX7_foretell_36 : decode cX7_foretell 36 = .ok (.iconst 1, 1) := by decide +kernel
theorem dX7_foretell_37 : decode cX7_foretell 37 = .ok (.iaload, 1) := by decide +kernel
theorem dX7_foretell_38 : decode cX7_foretell 38 = .ok (.goto 8, 3) := by decide +kernel
theorem dX7_foretell_41 : decode cX7_foretell 41 = .ok (.aload_n 0, 1) := by decide +kernel
theorem dX7_foretell_42 : decode cX7_foretell 42 = .ok (.iconst 2, 1) := by decide +kernel
theorem dX7_foretell_43 : decode cX7_foretell 43 = .ok (.invokevirtual 85, 3) := by decide +kernel
theorem dX7_foretell_46 : decode cX7_foretell 46 = .ok (.ireturn, 1) := by decide +kernel
theorem dX7_lasts_0 : decode cX7_lasts 0 = .ok (.aload_n 0, 1) := by decide +kernel
theorem dX7_lasts_1 : decode cX7_lasts 1 = .ok (.iconst 0, 1) := by decide +kernel
theorem dX7_lasts_2 : decode cX7_lasts 2 = .ok (.putfield 60, 3) := by decide +kernel
theorem dX7_lasts_5 : decode cX7_lasts 5 = .ok (.aload_n 0, 1) := by decide +kernel
theorem dX7_lasts_6 : decode cX7_lasts 6 = .ok (.iload_n 1, 1) := by decide +kernel
theorem dX7_lasts_7 : decode cX7_lasts 7 = .ok (.invokevirtual 125, 3) := by decide +kernel
theorem dX7_lasts_10 : decode cX7_lasts 10 = .ok (.ifCond .ne 9, 3) := by decide +kernel
theorem dX7_lasts_13 : decode cX7_lasts 13 = .ok (.aload_n 0, 1) := by decide +kernel
theorem dX7_lasts_14 : decode cX7_lasts 14 = .ok (.iconst 1, 1) := by decide +kernel
theorem dX7_lasts_15 : decode cX7_lasts 15 = .ok (.invokevirtual 85, 3) := by decide +kernel
theorem dX7_lasts_18 : decode cX7_lasts 18 = .ok (.ireturn, 1) := by decide +kernel
theorem dX7_lasts_19 : decode cX7_lasts 19 = .ok (.aload_n 0, 1) := by decide +kernel
theorem dX7_lasts_20 : decode cX7_lasts 20 = .ok (.getfield 51, 3) := by decide +kernel
theorem dX7_lasts_23 : decode cX7_lasts 23 = .ok (.iload_n 1, 1) := by decide +kernel
theorem dX7_lasts_24 : decode cX7_lasts 24 = .ok (.iaload, 1) := by decide +kernel
theorem dX7_lasts_25 : decode cX7_lasts 25 = .ok (.iconst (-1), 1) := by decide +kernel
theorem dX7_lasts_26 : decode cX7_lasts 26 = .ok (.if_icmp .ne 11, 3) := by decide +kernel
theorem dX7_lasts_29 : decode cX7_lasts 29 = .ok (.aload_n 0, 1) := by decide +kernel
theorem dX7_lasts_30 : decode cX7_lasts 30 = .ok (.iconst 2, 1) := by decide +kernel
theorem dX7_lasts_31 : decode cX7_lasts 31 = .ok (.invokevirtual 85, 3) := by decide +kernel
theorem dX7_lasts_34 : decode cX7_lasts 34 = .ok (.goto 19, 3) := by decide +kernel
theorem dX7_lasts_37 : decode cX7_lasts 37 = .ok (.aload_n 0, 1) := by decide +kernel
theorem dX7_lasts_38 : decode cX7_lasts 38 = .ok (.aload_n 0, 1) := by decide +kernel
theorem dX7_lasts_39 : decode cX7_lasts 39 = .ok (.getfield 51, 3) := by decide +kernel
theorem dX7_lasts_42 : decode cX7_lasts 42 = .ok (.iload_n 1, 1) := by decide +kernel
theorem dX7_lasts_43 : decode cX7_lasts 43 = .ok (.iaload, 1) := by decide +kernel
theorem dX7_lasts_44 : decode cX7_lasts 44 = .ok (.sipush 500, 3) := by decide +kernel
theorem dX7_lasts_47 : decode cX7_lasts 47 = .ok (.iload_n 1, 1) := by decide +kernel
theorem dX7_lasts_48 : decode cX7_lasts 48 = .ok (.invokevirtual 172, 3) := by decide +kernel
theorem dX7_lasts_51 : decode cX7_lasts 51 = .ok (.iconst 0, 1) := by decide +kernel
theorem dX7_lasts_52 : decode cX7_lasts 52 = .ok (.iaload, 1) := by decide +kernel
theorem dX7_lasts_53 : decode cX7_lasts 53 = .ok (.ireturn, 1) := by decide +kernel
theorem dX7_now_0 : decode cX7_now 0 = .ok (.aload_n 0, 1) := by decide +kernel
theorem dX7_now_1 : decode cX7_now 1 = .ok (.iconst 0, 1) := by decide +kernel
theorem dX7_now_2 : decode cX7_now 2 = .ok (.putfield 60, 3) := by decide +kernel
theorem dX7_now_5 : decode cX7_now 5 = .ok (.aload_n 0, 1) := by decide +kernel
theorem dX7_now_6 : decode cX7_now 6 = .ok (.getfield 88, 3) := by decide +kernel
theorem dX7_now_9 : decode cX7_now 9 = .ok (.ireturn, 1) := by decide +kernel
theorem dX7_paid_0 : decode cX7_paid 0 = .ok (.aload_n 0, 1) := by decide +kernel
theorem dX7_paid_1 : decode cX7_paid 1 = .ok (.iconst 0, 1) := by decide +kernel
theorem dX7_paid_2 : decode cX7_paid 2 = .ok (.putfield 60, 3) := by decide +kernel
theorem dX7_paid_5 : decode cX7_paid 5 = .ok (.aload_n 0, 1) := by decide +kernel
theorem dX7_paid_6 : decode cX7_paid 6 = .ok (.getfield 154, 3) := by decide +kernel
theorem dX7_paid_9 : decode cX7_paid 9 = .ok (.lreturn, 1) := by decide +kernel
theorem dX7_freshness_0 : decode cX7_freshness 0 = .ok (.aload_n 0, 1) := by decide +kernel
theorem dX7_freshness_1 : decode cX7_freshness 1 = .ok (.aload_n 0, 1) := by decide +kernel
theorem dX7_freshness_2 : decode cX7_freshness 2 = .ok (.iload_n 1, 1) := by decide +kernel
theorem dX7_freshness_3 : decode cX7_freshness 3 = .ok (.invokevirtual 119, 3) := by decide +kernel
theorem dX7_freshness_6 : decode cX7_freshness 6 = .ok (.ifCond .eq 7, 3) := by decide +kernel
theorem dX7_freshness_9 : decode cX7_freshness 9 = .ok (.iconst 0, 1) := by decide +kernel
theorem dX7_freshness_10 : decode cX7_freshness 10 = .ok (.goto 4, 3) := by decide +kernel
theorem dX7_freshness_13 : decode cX7_freshness 13 = .ok (.iconst 1, 1) := by decide +kernel
theorem dX7_freshness_14 : decode cX7_freshness 14 = .ok (.putfield 60, 3) := by decide +kernel
theorem dX7_freshness_17 : decode cX7_freshness 17 = .ok (.aload_n 0, 1) := by decide +kernel
theorem dX7_freshness_18 : decode cX7_freshness 18 = .ok (.getfield 60, 3) := by decide +kernel
theorem dX7_freshness_21 : decode cX7_freshness 21 = .ok (.ifCond .eq 5, 3) := by decide +kernel
theorem dX7_freshness_24 : decode cX7_freshness 24 = .ok (.dconst 0, 1) := by decide +kernel
theorem dX7_freshness_25 : decode cX7_freshness 25 = .ok (.dreturn, 1) := by decide +kernel
theorem dX7_freshness_26 : decode cX7_freshness 26 = .ok (.iconst 0, 1) := by decide +kernel
theorem dX7_freshness_27 : decode cX7_freshness 27 = .ok (.istore_n 2, 1) := by decide +kernel
theorem dX7_freshness_28 : decode cX7_freshness 28 = .ok (.iconst 0, 1) := by decide +kernel
theorem dX7_freshness_29 : decode cX7_freshness 29 = .ok (.istore_n 3, 1) := by decide +kernel
theorem dX7_freshness_30 : decode cX7_freshness 30 = .ok (.iconst 0, 1) := by decide +kernel
theorem dX7_freshness_31 : decode cX7_freshness 31 = .ok (.istore 4, 2) := by decide +kernel
theorem dX7_freshness_33 : decode cX7_freshness 33 = .ok (.iload 4, 2) := by decide +kernel
theorem dX7_freshness_35 : decode cX7_freshness 35 = .ok (.aload_n 0, 1) := by decide +kernel
theorem dX7_freshness_36 : decode cX7_freshness 36 = .ok (.getfield 73, 3) := by decide +kernel
theorem dX7_freshness_39 : decode cX7_freshness 39 = .ok (.if_icmp .ge 46, 3) := by decide +kernel
theorem dX7_freshness_42 : decode cX7_freshness 42 = .ok (.aload_n 0, 1) := by decide +kernel
theorem dX7_freshness_43 : decode cX7_freshness 43 = .ok (.getfield 48, 3) := by decide +kernel
theorem dX7_freshness_46 : decode cX7_freshness 46 = .ok (.iload 4, 2) := by decide +kernel
theorem dX7_freshness_48 : decode cX7_freshness 48 = .ok (.iaload, 1) := by decide +kernel
theorem dX7_freshness_49 : decode cX7_freshness 49 = .ok (.iload_n 1, 1) := by decide +kernel
theorem dX7_freshness_50 : decode cX7_freshness 50 = .ok (.if_icmp .ne 29, 3) := by decide +kernel
theorem dX7_freshness_53 : decode cX7_freshness 53 = .ok (.aload_n 0, 1) := by decide +kernel
theorem dX7_freshness_54 : decode cX7_freshness 54 = .ok (.getfield 51, 3) := by decide +kernel
theorem dX7_freshness_57 : decode cX7_freshness 57 = .ok (.iload 4, 2) := by decide +kernel
theorem dX7_freshness_59 : decode cX7_freshness 59 = .ok (.iaload, 1) := by decide +kernel
theorem dX7_freshness_60 : decode cX7_freshness 60 = .ok (.iconst (-1), 1) := by decide +kernel
theorem dX7_freshness_61 : decode cX7_freshness 61 = .ok (.if_icmp .ne 6, 3) := by decide +kernel
theorem dX7_freshness_64 : decode cX7_freshness 64 = .ok (.goto 15, 3) := by decide +kernel
theorem dX7_freshness_67 : decode cX7_freshness 67 = .ok (.iload_n 2, 1) := by decide +kernel
theorem dX7_freshness_68 : decode cX7_freshness 68 = .ok (.aload_n 0, 1) := by decide +kernel
theorem dX7_freshness_69 : decode cX7_freshness 69 = .ok (.iload 4, 2) := by decide +kernel
theorem dX7_freshness_71 : decode cX7_freshness 71 = .ok (.invokevirtual 128, 3) := by decide +kernel
theorem dX7_freshness_74 : decode cX7_freshness 74 = .ok (.iadd, 1) := by decide +kernel
theorem dX7_freshness_75 : decode cX7_freshness 75 = .ok (.istore_n 2, 1) := by decide +kernel
theorem dX7_freshness_76 : decode cX7_freshness 76 = .ok (.iinc 3 1, 3) := by decide +kernel
theorem dX7_freshness_79 : decode cX7_freshness 79 = .ok (.iinc 4 1, 3) := by decide +kernel
theorem dX7_freshness_82 : decode cX7_freshness 82 = .ok (.goto (-49), 3) := by decide +kernel
theorem dX7_freshness_85 : decode cX7_freshness 85 = .ok (.iload_n 3, 1) := by decide +kernel
theorem dX7_freshness_86 : decode cX7_freshness 86 = .ok (.ifCond .ne 7, 3) := by decide +kernel
theorem dX7_freshness_89 : decode cX7_freshness 89 = .ok (.dconst 0, 1) := by decide +kernel
theorem dX7_freshness_90 : decode cX7_freshness 90 = .ok (.goto 8, 3) := by decide +kernel
theorem dX7_freshness_93 : decode cX7_freshness 93 = .ok (.iload_n 2, 1) := by decide +kernel
theorem dX7_freshness_94 : decode cX7_freshness 94 = .ok (.i2d, 1) := by decide +kernel
theorem dX7_freshness_95 : decode cX7_freshness 95 = .ok (.iload_n 3, 1) := by decide +kernel
theorem dX7_freshness_96 : decode cX7_freshness 96 = .ok (.i2d, 1) := by decide +kernel
theorem dX7_freshness_97 : decode cX7_freshness 97 = .ok (.ddiv, 1) := by decide +kernel
theorem dX7_freshness_98 : decode cX7_freshness 98 = .ok (.dreturn, 1) := by decide +kernel
theorem dX7_digest_0 : decode cX7_digest 0 = .ok (.aload_n 0, 1) := by decide +kernel
theorem dX7_digest_1 : decode cX7_digest 1 = .ok (.iconst 0, 1) := by decide +kernel
theorem dX7_digest_2 : decode cX7_digest 2 = .ok (.putfield 60, 3) := by decide +kernel
theorem dX7_digest_5 : decode cX7_digest 5 = .ok (.ldc2_w 176, 3) := by decide +kernel
theorem dX7_digest_8 : decode cX7_digest 8 = .ok (.aload_n 0, 1) := by decide +kernel
theorem dX7_digest_9 : decode cX7_digest 9 = .ok (.getfield 88, 3) := by decide +kernel
theorem dX7_digest_12 : decode cX7_digest 12 = .ok (.i2l, 1) := by decide +kernel
theorem dX7_digest_13 : decode cX7_digest 13 = .ok (.ladd, 1) := by decide +kernel
theorem dX7_digest_14 : decode cX7_digest 14 = .ok (.lstore_n 1, 1) := by decide +kernel
theorem dX7_digest_15 : decode cX7_digest 15 = .ok (.iconst 0, 1) := by decide +kernel
theorem dX7_digest_16 : decode cX7_digest 16 = .ok (.istore_n 3, 1) := by decide +kernel
theorem dX7_digest_17 : decode cX7_digest 17 = .ok (.iload_n 3, 1) := by decide +kernel
theorem dX7_digest_18 : decode cX7_digest 18 = .ok (.iconst 5, 1) := by decide +kernel
theorem dX7_digest_19 : decode cX7_digest 19 = .ok (.if_icmp .ge 22, 3) := by decide +kernel
theorem dX7_digest_22 : decode cX7_digest 22 = .ok (.lload_n 1, 1) := by decide +kernel
theorem dX7_digest_23 : decode cX7_digest 23 = .ok (.ldc2_w 178, 3) := by decide +kernel
theorem dX7_digest_26 : decode cX7_digest 26 = .ok (.lmul, 1) := by decide +kernel
theorem dX7_digest_27 : decode cX7_digest 27 = .ok (.aload_n 0, 1) := by decide +kernel
theorem dX7_digest_28 : decode cX7_digest 28 = .ok (.iload_n 3, 1) := by decide +kernel
theorem dX7_digest_29 : decode cX7_digest 29 = .ok (.invokevirtual 147, 3) := by decide +kernel
theorem dX7_digest_32 : decode cX7_digest 32 = .ok (.i2l, 1) := by decide +kernel
theorem dX7_digest_33 : decode cX7_digest 33 = .ok (.ladd, 1) := by decide +kernel
theorem dX7_digest_34 : decode cX7_digest 34 = .ok (.lstore_n 1, 1) := by decide +kernel
theorem dX7_digest_35 : decode cX7_digest 35 = .ok (.iinc 3 1, 3) := by decide +kernel
theorem dX7_digest_38 : decode cX7_digest 38 = .ok (.goto (-21), 3) := by decide +kernel
theorem dX7_digest_41 : decode cX7_digest 41 = .ok (.iconst 0, 1) := by decide +kernel
theorem dX7_digest_42 : decode cX7_digest 42 = .ok (.istore_n 3, 1) := by decide +kernel
theorem dX7_digest_43 : decode cX7_digest 43 = .ok (.iload_n 3, 1) := by decide +kernel
theorem dX7_digest_44 : decode cX7_digest 44 = .ok (.aload_n 0, 1) := by decide +kernel
theorem dX7_digest_45 : decode cX7_digest 45 = .ok (.getfield 70, 3) := by decide +kernel
theorem dX7_digest_48 : decode cX7_digest 48 = .ok (.if_icmp .ge 61, 3) := by decide +kernel
theorem dX7_digest_51 : decode cX7_digest 51 = .ok (.iconst 0, 1) := by decide +kernel
theorem dX7_digest_52 : decode cX7_digest 52 = .ok (.istore 4, 2) := by decide +kernel
theorem dX7_digest_54 : decode cX7_digest 54 = .ok (.iload 4, 2) := by decide +kernel
theorem dX7_digest_56 : decode cX7_digest 56 = .ok (.bipush 7, 2) := by decide +kernel
theorem dX7_digest_58 : decode cX7_digest 58 = .ok (.if_icmp .ge 24, 3) := by decide +kernel
theorem dX7_digest_61 : decode cX7_digest 61 = .ok (.lload_n 1, 1) := by decide +kernel
theorem dX7_digest_62 : decode cX7_digest 62 = .ok (.ldc2_w 178, 3) := by decide +kernel
theorem dX7_digest_65 : decode cX7_digest 65 = .ok (.lmul, 1) := by decide +kernel
theorem dX7_digest_66 : decode cX7_digest 66 = .ok (.aload_n 0, 1) := by decide +kernel
theorem dX7_digest_67 : decode cX7_digest 67 = .ok (.iload_n 3, 1) := by decide +kernel
theorem dX7_digest_68 : decode cX7_digest 68 = .ok (.iload 4, 2) := by decide +kernel
theorem dX7_digest_70 : decode cX7_digest 70 = .ok (.invokevirtual 112, 3) := by decide +kernel
theorem dX7_digest_73 : decode cX7_digest 73 = .ok (.i2l, 1) := by decide +kernel
theorem dX7_digest_74 : decode cX7_digest 74 = .ok (.ladd, 1) := by decide +kernel
theorem dX7_digest_75 : decode cX7_digest 75 = .ok (.lstore_n 1, 1) := by decide +kernel
theorem dX7_digest_76 : decode cX7_digest 76 = .ok (.iinc 4 1, 3) := by decide +kernel
theorem dX7_digest_79 : decode cX7_digest 79 = .ok (.goto (-25), 3) := by decide +kernel
theorem dX7_digest_82 : decode cX7_digest 82 = .ok (.lload_n 1, 1) := by decide +kernel
theorem dX7_digest_83 : decode cX7_digest 83 = .ok (.ldc2_w 178, 3) := by decide +kernel
theorem dX7_digest_86 : decode cX7_digest 86 = .ok (.lmul, 1) := by decide +kernel
theorem dX7_digest_87 : decode cX7_digest 87 = .ok (.aload_n 0, 1) := by decide +kernel
theorem dX7_digest_88 : decode cX7_digest 88 = .ok (.getfield 41, 3) := by decide +kernel
theorem dX7_digest_91 : decode cX7_digest 91 = .ok (.iload_n 3, 1) := by decide +kernel
theorem dX7_digest_92 : decode cX7_digest 92 = .ok (.baload, 1) := by decide +kernel
theorem dX7_digest_93 : decode cX7_digest 93 = .ok (.ifCond .eq 7, 3) := by decide +kernel
theorem dX7_digest_96 : decode cX7_digest 96 = .ok (.lconst 1, 1) := by decide +kernel
theorem dX7_digest_97 : decode cX7_digest 97 = .ok (.goto 4, 3) := by decide +kernel
theorem dX7_digest_100 : decode cX7_digest 100 = .ok (.lconst 0, 1) := by decide +kernel
theorem dX7_digest_101 : decode cX7_digest 101 = .ok (.ladd, 1) := by decide +kernel
theorem dX7_digest_102 : decode cX7_digest 102 = .ok (.lstore_n 1, 1) := by decide +kernel
theorem dX7_digest_103 : decode cX7_digest 103 = .ok (.iinc 3 1, 3) := by decide +kernel
theorem dX7_digest_106 : decode cX7_digest 106 = .ok (.goto (-63), 3) := by decide +kernel
theorem dX7_digest_109 : decode cX7_digest 109 = .ok (.iconst 0, 1) := by decide +kernel
theorem dX7_digest_110 : decode cX7_digest 110 = .ok (.istore_n 3, 1) := by decide +kernel
theorem dX7_digest_111 : decode cX7_digest 111 = .ok (.iload_n 3, 1) := by decide +kernel
theorem dX7_digest_112 : decode cX7_digest 112 = .ok (.aload_n 0, 1) := by decide +kernel
theorem dX7_digest_113 : decode cX7_digest 113 = .ok (.getfield 73, 3) := by decide +kernel
theorem dX7_digest_116 : decode cX7_digest 116 = .ok (.if_icmp .ge 39, 3) := by decide +kernel
theorem dX7_digest_119 : decode cX7_digest 119 = .ok (.iconst 0, 1) := by decide +kernel
theorem dX7_digest_120 : decode cX7_digest 120 = .ok (.istore 4, 2) := by decide +kernel
theorem dX7_digest_122 : decode cX7_digest 122 = .ok (.iload 4, 2) := by decide +kernel
theorem dX7_digest_124 : decode cX7_digest 124 = .ok (.iconst 5, 1) := by decide +kernel
theorem dX7_digest_125 : decode cX7_digest 125 = .ok (.if_icmp .ge 24, 3) := by decide +kernel
theorem dX7_digest_128 : decode cX7_digest 128 = .ok (.lload_n 1, 1) := by decide +kernel
theorem dX7_digest_129 : decode cX7_digest 129 = .ok (.ldc2_w 178, 3) := by decide +kernel
theorem dX7_digest_132 : decode cX7_digest 132 = .ok (.lmul, 1) := by decide +kernel
theorem dX7_digest_133 : decode cX7_digest 133 = .ok (.aload_n 0, 1) := by decide +kernel
theorem dX7_digest_134 : decode cX7_digest 134 = .ok (.iload_n 3, 1) := by decide +kernel
theorem dX7_digest_135 : decode cX7_digest 135 = .ok (.iload 4, 2) := by decide +kernel
theorem dX7_digest_137 : decode cX7_digest 137 = .ok (.invokevirtual 131, 3) := by decide +kernel
theorem dX7_digest_140 : decode cX7_digest 140 = .ok (.i2l, 1) := by decide +kernel
theorem dX7_digest_141 : decode cX7_digest 141 = .ok (.ladd, 1) := by decide +kernel
theorem dX7_digest_142 : decode cX7_digest 142 = .ok (.lstore_n 1, 1) := by decide +kernel
theorem dX7_digest_143 : decode cX7_digest 143 = .ok (.iinc 4 1, 3) := by decide +kernel
theorem dX7_digest_146 : decode cX7_digest 146 = .ok (.goto (-24), 3) := by decide +kernel
theorem dX7_digest_149 : decode cX7_digest 149 = .ok (.iinc 3 1, 3) := by decide +kernel
theorem dX7_digest_152 : decode cX7_digest 152 = .ok (.goto (-41), 3) := by decide +kernel
theorem dX7_digest_155 : decode cX7_digest 155 = .ok (.lload_n 1, 1) := by decide +kernel
theorem dX7_digest_156 : decode cX7_digest 156 = .ok (.ldc2_w 178, 3) := by decide +kernel
theorem dX7_digest_159 : decode cX7_digest 159 = .ok (.lmul, 1) := by decide +kernel
theorem dX7_digest_160 : decode cX7_digest 160 = .ok (.aload_n 0, 1) := by decide +kernel
theorem dX7_digest_161 : decode cX7_digest 161 = .ok (.getfield 154, 3) := by decide +kernel
theorem dX7_digest_164 : decode cX7_digest 164 = .ok (.ladd, 1) := by decide +kernel
theorem dX7_digest_165 : decode cX7_digest 165 = .ok (.lreturn, 1) := by decide +kernel
