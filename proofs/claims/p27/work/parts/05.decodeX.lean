theorem dX0_init_0 : decode cX0_init 0 = .ok (.aload_n 0, 1) := by decide +kernel
theorem dX0_init_1 : decode cX0_init 1 = .ok (.invokespecial 3, 3) := by decide +kernel
theorem dX0_init_4 : decode cX0_init 4 = .ok (.aload_n 0, 1) := by decide +kernel
theorem dX0_init_5 : decode cX0_init 5 = .ok (.sipush 150, 3) := by decide +kernel
theorem dX0_init_8 : decode cX0_init 8 = .ok (.putfield 9, 3) := by decide +kernel
theorem dX0_init_11 : decode cX0_init 11 = .ok (.aload_n 0, 1) := by decide +kernel
theorem dX0_init_12 : decode cX0_init 12 = .ok (.iconst 0, 1) := by decide +kernel
theorem dX0_init_13 : decode cX0_init 13 = .ok (.putfield 15, 3) := by decide +kernel
theorem dX0_init_16 : decode cX0_init 16 = .ok (.return_, 1) := by decide +kernel
theorem dX0_temperatureAt_0 : decode cX0_temperatureAt 0 = .ok (.iload_n 1, 1) := by decide +kernel
theorem dX0_temperatureAt_1 : decode cX0_temperatureAt 1 = .ok (.bipush 24, 2) := by decide +kernel
theorem dX0_temperatureAt_3 : decode cX0_temperatureAt 3 = .ok (.invokestatic 18, 3) := by decide +kernel
theorem dX0_temperatureAt_6 : decode cX0_temperatureAt 6 = .ok (.istore_n 2, 1) := by decide +kernel
theorem dX0_temperatureAt_7 : decode cX0_temperatureAt 7 = .ok (.iload_n 2, 1) := by decide +kernel
theorem dX0_temperatureAt_8 : decode cX0_temperatureAt 8 = .ok (.bipush 8, 2) := by decide +kernel
theorem dX0_temperatureAt_10 : decode cX0_temperatureAt 10 = .ok (.if_icmp .lt 9, 3) := by decide +kernel
theorem dX0_temperatureAt_13 : decode cX0_temperatureAt 13 = .ok (.iload_n 2, 1) := by decide +kernel
theorem dX0_temperatureAt_14 : decode cX0_temperatureAt 14 = .ok (.bipush 20, 2) := by decide +kernel
theorem dX0_temperatureAt_16 : decode cX0_temperatureAt 16 = .ok (.if_icmp .le 8, 3) := by decide +kernel
theorem dX0_temperatureAt_19 : decode cX0_temperatureAt 19 = .ok (.aload_n 0, 1) := by decide +kernel
theorem dX0_temperatureAt_20 : decode cX0_temperatureAt 20 = .ok (.getfield 9, 3) := by decide +kernel
theorem dX0_temperatureAt_23 : decode cX0_temperatureAt 23 = .ok (.ireturn, 1) := by decide +kernel
theorem dX0_temperatureAt_24 : decode cX0_temperatureAt 24 = .ok (.aload_n 0, 1) := by decide +kernel
theorem dX0_temperatureAt_25 : decode cX0_temperatureAt 25 = .ok (.getfield 9, 3) := by decide +kernel
theorem dX0_temperatureAt_28 : decode cX0_temperatureAt 28 = .ok (.aload_n 0, 1) := by decide +kernel
theorem dX0_temperatureAt_29 : decode cX0_temperatureAt 29 = .ok (.getfield 15, 3) := by decide +kernel
theorem dX0_temperatureAt_32 : decode cX0_temperatureAt 32 = .ok (.bipush 6, 2) := by decide +kernel
theorem dX0_temperatureAt_34 : decode cX0_temperatureAt 34 = .ok (.iload_n 2, 1) := by decide +kernel
theorem dX0_temperatureAt_35 : decode cX0_temperatureAt 35 = .ok (.bipush 14, 2) := by decide +kernel
theorem dX0_temperatureAt_37 : decode cX0_temperatureAt 37 = .ok (.isub, 1) := by decide +kernel
theorem dX0_temperatureAt_38 : decode cX0_temperatureAt 38 = .ok (.invokestatic 24, 3) := by decide +kernel
theorem dX0_temperatureAt_41 : decode cX0_temperatureAt 41 = .ok (.isub, 1) := by decide +kernel
theorem dX0_temperatureAt_42 : decode cX0_temperatureAt 42 = .ok (.imul, 1) := by decide +kernel
theorem dX0_temperatureAt_43 : decode cX0_temperatureAt 43 = .ok (.bipush 6, 2) := by decide +kernel
theorem dX0_temperatureAt_45 : decode cX0_temperatureAt 45 = .ok (.idiv, 1) := by decide +kernel
theorem dX0_temperatureAt_46 : decode cX0_temperatureAt 46 = .ok (.iadd, 1) := by decide +kernel
theorem dX0_temperatureAt_47 : decode cX0_temperatureAt 47 = .ok (.ireturn, 1) := by decide +kernel
theorem dX1_init_0 : decode cX1_init 0 = .ok (.aload_n 0, 1) := by decide +kernel
theorem dX1_init_1 : decode cX1_init 1 = .ok (.invokespecial 1, 3) := by decide +kernel
theorem dX1_init_4 : decode cX1_init 4 = .ok (.aload_n 0, 1) := by decide +kernel
theorem dX1_init_5 : decode cX1_init 5 = .ok (.iconst 0, 1) := by decide +kernel
theorem dX1_init_6 : decode cX1_init 6 = .ok (.putfield 9, 3) := by decide +kernel
theorem dX1_init_9 : decode cX1_init 9 = .ok (.aload_n 0, 1) := by decide +kernel
theorem dX1_init_10 : decode cX1_init 10 = .ok (.iconst 0, 1) := by decide +kernel
theorem dX1_init_11 : decode cX1_init 11 = .ok (.putfield 13, 3) := by decide +kernel
theorem dX1_init_14 : decode cX1_init 14 = .ok (.aload_n 0, 1) := by decide +kernel
theorem dX1_init_15 : decode cX1_init 15 = .ok (.iconst 0, 1) := by decide +kernel
theorem dX1_init_16 : decode cX1_init 16 = .ok (.putfield 16, 3) := by decide +kernel
theorem dX1_init_19 : decode cX1_init 19 = .ok (.aload_n 0, 1) := by decide +kernel
theorem dX1_init_20 : decode cX1_init 20 = .ok (.iconst 0, 1) := by decide +kernel
theorem dX1_init_21 : decode cX1_init 21 = .ok (.putfield 19, 3) := by decide +kernel
theorem dX1_init_24 : decode cX1_init 24 = .ok (.aload_n 0, 1) := by decide +kernel
theorem dX1_init_25 : decode cX1_init 25 = .ok (.iload_n 1, 1) := by decide +kernel
theorem dX1_init_26 : decode cX1_init 26 = .ok (.putfield 22, 3) := by decide +kernel
theorem dX1_init_29 : decode cX1_init 29 = .ok (.return_, 1) := by decide +kernel
theorem dX1_beginDefrosting_0 : decode cX1_beginDefrosting 0 = .ok (.aload_n 0, 1) := by decide +kernel
theorem dX1_beginDefrosting_1 : decode cX1_beginDefrosting 1 = .ok (.iconst 2, 1) := by decide +kernel
theorem dX1_beginDefrosting_2 : decode cX1_beginDefrosting 2 = .ok (.putfield 9, 3) := by decide +kernel
theorem dX1_beginDefrosting_5 : decode cX1_beginDefrosting 5 = .ok (.aload_n 0, 1) := by decide +kernel
theorem dX1_beginDefrosting_6 : decode cX1_beginDefrosting 6 = .ok (.iconst 3, 1) := by decide +kernel
theorem dX1_beginDefrosting_7 : decode cX1_beginDefrosting 7 = .ok (.putfield 13, 3) := by decide +kernel
theorem dX1_beginDefrosting_10 : decode cX1_beginDefrosting 10 = .ok (.return_, 1) := by decide +kernel
theorem dX1_beginHour_0 : decode cX1_beginHour 0 = .ok (.aload_n 0, 1) := by decide +kernel
theorem dX1_beginHour_1 : decode cX1_beginHour 1 = .ok (.getfield 9, 3) := by decide +kernel
theorem dX1_beginHour_4 : decode cX1_beginHour 4 = .ok (.iconst 2, 1) := by decide +kernel
theorem dX1_beginHour_5 : decode cX1_beginHour 5 = .ok (.if_icmp .ne 10, 3) := by decide +kernel
theorem dX1_beginHour_8 : decode cX1_beginHour 8 = .ok (.aload_n 0, 1) := by decide +kernel
theorem dX1_beginHour_9 : decode cX1_beginHour 9 = .ok (.invokevirtual 25, 3) := by decide +kernel
theorem dX1_beginHour_12 : decode cX1_beginHour 12 = .ok (.goto 49, 3) := by decide +kernel
theorem dX1_beginHour_15 : decode cX1_beginHour 15 = .ok (.iload_n 2, 1) := by decide +kernel
theorem dX1_beginHour_16 : decode cX1_beginHour 16 = .ok (.ifCond .eq 21, 3) := by decide +kernel
theorem dX1_beginHour_19 : decode cX1_beginHour 19 = .ok (.aload_n 0, 1) := by decide +kernel
theorem dX1_beginHour_20 : decode cX1_beginHour 20 = .ok (.iload_n 1, 1) := by decide +kernel
theorem dX1_beginHour_21 : decode cX1_beginHour 21 = .ok (.bipush (-25), 2) := by decide +kernel
theorem dX1_beginHour_23 : decode cX1_beginHour 23 = .ok (.if_icmp .ge 7, 3) := by decide +kernel
theorem dX1_beginHour_26 : decode cX1_beginHour 26 = .ok (.iconst 0, 1) := by decide +kernel
theorem dX1_beginHour_27 : decode cX1_beginHour 27 = .ok (.goto 4, 3) := by decide +kernel
theorem dX1_beginHour_30 : decode cX1_beginHour 30 = .ok (.iconst 1, 1) := by decide +kernel
theorem dX1_beginHour_31 : decode cX1_beginHour 31 = .ok (.putfield 9, 3) := by decide +kernel
theorem dX1_beginHour_34 : decode cX1_beginHour 34 = .ok (.goto 27, 3) := by decide +kernel
theorem dX1_beginHour_37 : decode cX1_beginHour 37 = .ok (.iload_n 1, 1) := by decide +kernel
theorem dX1_beginHour_38 : decode cX1_beginHour 38 = .ok (.iconst 5, 1) := by decide +kernel
theorem dX1_beginHour_39 : decode cX1_beginHour 39 = .ok (.if_icmp .le 11, 3) := by decide +kernel
theorem dX1_beginHour_42 : decode cX1_beginHour 42 = .ok (.aload_n 0, 1) := by decide +kernel
theorem dX1_beginHour_43 : decode cX1_beginHour 43 = .ok (.iconst 1, 1) := by decide +kernel
theorem dX1_beginHour_44 : decode cX1_beginHour 44 = .ok (.putfield 9, 3) := by decide +kernel
theorem dX1_beginHour_47 : decode cX1_beginHour 47 = .ok (.goto 14, 3) := by decide +kernel
theorem dX1_beginHour_50 : decode cX1_beginHour 50 = .ok (.iload_n 1, 1) := by decide +kernel
theorem dX1_beginHour_51 : decode cX1_beginHour 51 = .ok (.bipush (-5), 2) := by decide +kernel
theorem dX1_beginHour_53 : decode cX1_beginHour 53 = .ok (.if_icmp .ge 8, 3) := by decide +kernel
theorem dX1_beginHour_56 : decode cX1_beginHour 56 = .ok (.aload_n 0, 1) := by decide +kernel
theorem dX1_beginHour_57 : decode cX1_beginHour 57 = .ok (.iconst 0, 1) := by decide +kernel
theorem dX1_beginHour_58 : decode cX1_beginHour 58 = .ok (.putfield 9, 3) := by decide +kernel
theorem dX1_beginHour_61 : decode cX1_beginHour 61 = .ok (.return_, 1) := by decide +kernel
theorem dX1_defrostOneHour_0 : decode cX1_defrostOneHour 0 = .ok (.aload_n 0, 1) := by decide +kernel
theorem dX1_defrostOneHour_1 : decode cX1_defrostOneHour 1 = .ok (.dup, 1) := by decide +kernel
theorem dX1_defrostOneHour_2 : decode cX1_defrostOneHour 2 = .ok (.getfield 13, 3) := by decide +kernel
theorem dX1_defrostOneHour_5 : decode cX1_defrostOneHour 5 = .ok (.iconst 1, 1) := by decide +kernel
theorem dX1_defrostOneHour_6 : decode cX1_defrostOneHour 6 = .ok (.isub, 1) := by decide +kernel
theorem dX1_defrostOneHour_7 : decode cX1_defrostOneHour 7 = .ok (.putfield 13, 3) := by decide +kernel
theorem dX1_defrostOneHour_10 : decode cX1_defrostOneHour 10 = .ok (.aload_n 0, 1) := by decide +kernel
theorem dX1_defrostOneHour_11 : decode cX1_defrostOneHour 11 = .ok (.getfield 13, 3) := by decide +kernel
theorem dX1_defrostOneHour_14 : decode cX1_defrostOneHour 14 = .ok (.ifCond .gt 13, 3) := by decide +kernel
theorem dX1_defrostOneHour_17 : decode cX1_defrostOneHour 17 = .ok (.aload_n 0, 1) := by decide +kernel
theorem dX1_defrostOneHour_18 : decode cX1_defrostOneHour 18 = .ok (.iconst 0, 1) := by decide +kernel
theorem dX1_defrostOneHour_19 : decode cX1_defrostOneHour 19 = .ok (.putfield 16, 3) := by decide +kernel
theorem dX1_defrostOneHour_22 : decode cX1_defrostOneHour 22 = .ok (.aload_n 0, 1) := by decide +kernel
theorem dX1_defrostOneHour_23 : decode cX1_defrostOneHour 23 = .ok (.iconst 0, 1) := by decide +kernel
theorem dX1_defrostOneHour_24 : decode cX1_defrostOneHour 24 = .ok (.putfield 9, 3) := by decide +kernel
theorem dX1_defrostOneHour_27 : decode cX1_defrostOneHour 27 = .ok (.return_, 1) := by decide +kernel
theorem dX1_warmthOfHour_0 : decode cX1_warmthOfHour 0 = .ok (.aload_n 0, 1) := by decide +kernel
theorem dX1_warmthOfHour_1 : decode cX1_warmthOfHour 1 = .ok (.getfield 9, 3) := by decide +kernel
theorem dX1_warmthOfHour_4 : decode cX1_warmthOfHour 4 = .ok (.lookupswitch 49 #[(1, 28), (2, 46)], 28) := by decide +kernel
theorem dX1_warmthOfHour_32 : decode cX1_warmthOfHour 32 = .ok (.aload_n 0, 1) := by decide +kernel
theorem dX1_warmthOfHour_33 : decode cX1_warmthOfHour 33 = .ok (.getfield 22, 3) := by decide +kernel
theorem dX1_warmthOfHour_36 : decode cX1_warmthOfHour 36 = .ok (.ineg, 1) := by decide +kernel
theorem dX1_warmthOfHour_37 : decode cX1_warmthOfHour 37 = .ok (.bipush 100, 2) := by decide +kernel
theorem dX1_warmthOfHour_39 : decode cX1_warmthOfHour 39 = .ok (.aload_n 0, 1) := by decide +kernel
theorem dX1_warmthOfHour_40 : decode cX1_warmthOfHour 40 = .ok (.getfield 16, 3) := by decide +kernel
theorem dX1_warmthOfHour_43 : decode cX1_warmthOfHour 43 = .ok (.isub, 1) := by decide +kernel
theorem dX1_warmthOfHour_44 : decode cX1_warmthOfHour 44 = .ok (.imul, 1) := by decide +kernel
theorem dX1_warmthOfHour_45 : decode cX1_warmthOfHour 45 = .ok (.sipush 1000, 3) := by decide +kernel
theorem dX1_warmthOfHour_48 : decode cX1_warmthOfHour 48 = .ok (.idiv, 1) := by decide +kernel
theorem dX1_warmthOfHour_49 : decode cX1_warmthOfHour 49 = .ok (.ireturn, 1) := by decide +kernel
theorem dX1_warmthOfHour_50 : decode cX1_warmthOfHour 50 = .ok (.bipush 8, 2) := by decide +kernel
theorem dX1_warmthOfHour_52 : decode cX1_warmthOfHour 52 = .ok (.ireturn, 1) := by decide +kernel
theorem dX1_warmthOfHour_53 : decode cX1_warmthOfHour 53 = .ok (.iconst 0, 1) := by decide +kernel
theorem dX1_warmthOfHour_54 : decode cX1_warmthOfHour 54 = .ok (.ireturn, 1) := by decide +kernel
theorem dX1_useEnergy_0 : decode cX1_useEnergy 0 = .ok (.aload_n 0, 1) := by decide +kernel
theorem dX1_useEnergy_1 : decode cX1_useEnergy 1 = .ok (.getfield 9, 3) := by decide +kernel
theorem dX1_useEnergy_4 : decode cX1_useEnergy 4 = .ok (.iconst 1, 1) := by decide +kernel
theorem dX1_useEnergy_5 : decode cX1_useEnergy 5 = .ok (.if_icmp .eq 5, 3) := by decide +kernel
theorem dX1_useEnergy_8 : decode cX1_useEnergy 8 = .ok (.iconst 0, 1) := by decide +kernel
theorem dX1_useEnergy_9 : decode cX1_useEnergy 9 = .ok (.ireturn, 1) := by decide +kernel
theorem dX1_useEnergy_10 : decode cX1_useEnergy 10 = .ok (.aload_n 0, 1) := by decide +kernel
theorem dX1_useEnergy_11 : decode cX1_useEnergy 11 = .ok (.dup, 1) := by decide +kernel
theorem dX1_useEnergy_12 : decode cX1_useEnergy 12 = .ok (.getfield 19, 3) := by decide +kernel
theorem dX1_useEnergy_15 : decode cX1_useEnergy 15 = .ok (.aload_n 0, 1) := by decide +kernel
theorem dX1_useEnergy_16 : decode cX1_useEnergy 16 = .ok (.getfield 22, 3) := by decide +kernel
theorem dX1_useEnergy_19 : decode cX1_useEnergy 19 = .ok (.iadd, 1) := by decide +kernel
theorem dX1_useEnergy_20 : decode cX1_useEnergy 20 = .ok (.putfield 19, 3) := by decide +kernel
theorem dX1_useEnergy_23 : decode cX1_useEnergy 23 = .ok (.aload_n 0, 1) := by decide +kernel
theorem dX1_useEnergy_24 : decode cX1_useEnergy 24 = .ok (.aload_n 0, 1) := by decide +kernel
theorem dX1_useEnergy_25 : decode cX1_useEnergy 25 = .ok (.getfield 16, 3) := by decide +kernel
theorem dX1_useEnergy_28 : decode cX1_useEnergy 28 = .ok (.iconst 1, 1) := by decide +kernel
theorem dX1_useEnergy_29 : decode cX1_useEnergy 29 = .ok (.iadd, 1) := by decide +kernel
theorem dX1_useEnergy_30 : decode cX1_useEnergy 30 = .ok (.bipush 90, 2) := by decide +kernel
theorem dX1_useEnergy_32 : decode cX1_useEnergy 32 = .ok (.invokestatic 28, 3) := by decide +kernel
theorem dX1_useEnergy_35 : decode cX1_useEnergy 35 = .ok (.putfield 16, 3) := by decide +kernel
theorem dX1_useEnergy_38 : decode cX1_useEnergy 38 = .ok (.aload_n 0, 1) := by decide +kernel
theorem dX1_useEnergy_39 : decode cX1_useEnergy 39 = .ok (.getfield 22, 3) := by decide +kernel
theorem dX1_useEnergy_42 : decode cX1_useEnergy 42 = .ok (.ireturn, 1) := by decide +kernel
theorem dX2_init_0 : decode cX2_init 0 = .ok (.aload_n 0, 1) := by decide +kernel
theorem dX2_init_1 : decode cX2_init 1 = .ok (.invokespecial 1, 3) := by decide +kernel
theorem dX2_init_4 : decode cX2_init 4 = .ok (.aload_n 0, 1) := by decide +kernel
theorem dX2_init_5 : decode cX2_init 5 = .ok (.aconst_null, 1) := by decide +kernel
theorem dX2_init_6 : decode cX2_init 6 = .ok (.putfield 7, 3) := by decide +kernel
theorem dX2_init_9 : decode cX2_init 9 = .ok (.aload_n 0, 1) := by decide +kernel
theorem dX2_init_10 : decode cX2_init 10 = .ok (.iconst 0, 1) := by decide +kernel
theorem dX2_init_11 : decode cX2_init 11 = .ok (.putfield 13, 3) := by decide +kernel
theorem dX2_init_14 : decode cX2_init 14 = .ok (.aload_n 0, 1) := by decide +kernel
theorem dX2_init_15 : decode cX2_init 15 = .ok (.iconst 0, 1) := by decide +kernel
theorem dX2_init_16 : decode cX2_init 16 = .ok (.putfield 17, 3) := by decide +kernel
theorem dX2_init_19 : decode cX2_init 19 = .ok (.aload_n 0, 1) := by decide +kernel
theorem dX2_init_20 : decode cX2_init 20 = .ok (.iconst 0, 1) := by decide +kernel
theorem dX2_init_21 : decode cX2_init 21 = .ok (.putfield 20, 3) := by decide +kernel
theorem dX2_init_24 : decode cX2_init 24 = .ok (.aload_n 0, 1) := by decide +kernel
theorem dX2_init_25 : decode cX2_init 25 = .ok (.aload_n 1, 1) := by decide +kernel
theorem dX2_init_26 : decode cX2_init 26 = .ok (.putfield 23, 3) := by decide +kernel
theorem dX2_init_29 : decode cX2_init 29 = .ok (.aload_n 0, 1) := by decide +kernel
theorem dX2_init_30 : decode cX2_init 30 = .ok (.iload_n 2, 1) := by decide +kernel
theorem dX2_init_31 : decode cX2_init 31 = .ok (.putfield 27, 3) := by decide +kernel
theorem dX2_init_34 : decode cX2_init 34 = .ok (.return_, 1) := by decide +kernel
theorem dX2_fact_0 : decode cX2_fact 0 = .ok (.iload_n 1, 1) := by decide +kernel
theorem dX2_fact_1 : decode cX2_fact 1 = .ok (.tableswitch 68 0 3 #[31, 39, 44, 49], 31) := by decide +kernel
theorem dX2_fact_32 : decode cX2_fact 32 = .ok (.aload_n 0, 1) := by decide +kernel
theorem dX2_fact_33 : decode cX2_fact 33 = .ok (.getfield 23, 3) := by decide +kernel
theorem dX2_fact_36 : decode cX2_fact 36 = .ok (.getfield 30, 3) := by decide +kernel
theorem dX2_fact_39 : decode cX2_fact 39 = .ok (.ireturn, 1) := by decide +kernel
theorem dX2_fact_40 : decode cX2_fact 40 = .ok (.aload_n 0, 1) := by decide +kernel
theorem dX2_fact_41 : decode cX2_fact 41 = .ok (.getfield 27, 3) := by decide +kernel
theorem dX2_fact_44 : decode cX2_fact 44 = .ok (.ireturn, 1) := by decide +kernel
theorem dX2_fact_45 : decode cX2_fact 45 = .ok (.aload_n 0, 1) := by decide +kernel
theorem dX2_fact_46 : decode cX2_fact 46 = .ok (.getfield 13, 3) := by decide +kernel
theorem dX2_fact_49 : decode cX2_fact 49 = .ok (.ireturn, 1) := by decide +kernel
theorem dX2_fact_50 : decode cX2_fact 50 = .ok (.aload_n 0, 1) := by decide +kernel
theorem dX2_fact_51 : decode cX2_fact 51 = .ok (.getfield 7, 3) := by decide +kernel
theorem dX2_fact_54 : decode cX2_fact 54 = .ok (.ifnonnull 7, 3) := by decide +kernel
theorem dX2_fact_57 : decode cX2_fact 57 = .ok (.iconst (-1), 1) := by decide +kernel
theorem dX2_fact_58 : decode cX2_fact 58 = .ok (.goto 10, 3) := by decide +kernel
theorem dX2_fact_61 : decode cX2_fact 61 = .ok (.aload_n 0, 1) := by decide +kernel
theorem dX2_fact_62 : decode cX2_fact 62 = .ok (.getfield 7, 3) := by decide +kernel
theorem dX2_fact_65 : decode cX2_fact 65 = .ok (.getfield 35, 3) := by decide +kernel
theorem dX2_fact_68 : decode cX2_fact 68 = .ok (.ireturn, 1) := by decide +kernel
theorem dX2_fact_69 : decode cX2_fact 69 = .ok (.aload_n 0, 1) := by decide +kernel
theorem dX2_fact_70 : decode cX2_fact 70 = .ok (.invokevirtual 38, 3) := by decide +kernel
theorem dX2_fact_73 : decode cX2_fact 73 = .ok (.ireturn, 1) := by decide +kernel
theorem dX2_isHere_0 : decode cX2_isHere 0 = .ok (.aload_n 0, 1) := by decide +kernel
theorem dX2_isHere_1 : decode cX2_isHere 1 = .ok (.getfield 7, 3) := by decide +kernel
theorem dX2_isHere_4 : decode cX2_isHere 4 = .ok (.ifnull 7, 3) := by decide +kernel
theorem dX2_isHere_7 : decode cX2_isHere 7 = .ok (.iconst 1, 1) := by decide +kernel
theorem dX2_isHere_8 : decode cX2_isHere 8 = .ok (.goto 4, 3) := by decide +kernel
theorem dX2_isHere_11 : decode cX2_isHere 11 = .ok (.iconst 0, 1) := by decide +kernel
theorem dX2_isHere_12 : decode cX2_isHere 12 = .ok (.ireturn, 1) := by decide +kernel
theorem dX2_isHereWith_0 : decode cX2_isHereWith 0 = .ok (.aload_n 0, 1) := by decide +kernel
theorem dX2_isHereWith_1 : decode cX2_isHereWith 1 = .ok (.invokevirtual 42, 3) := by decide +kernel
theorem dX2_isHereWith_4 : decode cX2_isHereWith 4 = .ok (.ifCond .eq 21, 3) := by decide +kernel
theorem dX2_isHereWith_7 : decode cX2_isHereWith 7 = .ok (.aload_n 0, 1) := by decide +kernel
theorem dX2_isHereWith_8 : decode cX2_isHereWith 8 = .ok (.getfield 23, 3) := by decide +kernel
theorem dX2_isHereWith_11 : decode cX2_isHereWith 11 = .ok (.getfield 30, 3) := by decide +kernel
theorem dX2_isHereWith_14 : decode cX2_isHereWith 14 = .ok (.aload_n 1, 1) := by decide +kernel
theorem dX2_isHereWith_15 : decode cX2_isHereWith 15 = .ok (.getfield 30, 3) := by decide +kernel
theorem dX2_isHereWith_18 : decode cX2_isHereWith 18 = .ok (.if_icmp .ne 7, 3) := by decide +kernel
theorem dX2_isHereWith_21 : decode cX2_isHereWith 21 = .ok (.iconst 1, 1) := by decide +kernel
theorem dX2_isHereWith_22 : decode cX2_isHereWith 22 = .ok (.goto 4, 3) := by decide +kernel
theorem dX2_isHereWith_25 : decode cX2_isHereWith 25 = .ok (.iconst 0, 1) := by decide +kernel
theorem dX2_isHereWith_26 : decode cX2_isHereWith 26 = .ok (.ireturn, 1) := by decide +kernel
theorem dX2_left_0 : decode cX2_left 0 = .ok (.aload_n 0, 1) := by decide +kernel
theorem dX2_left_1 : decode cX2_left 1 = .ok (.getfield 23, 3) := by decide +kernel
theorem dX2_left_4 : decode cX2_left 4 = .ok (.getfield 46, 3) := by decide +kernel
theorem dX2_left_7 : decode cX2_left 7 = .ok (.aload_n 0, 1) := by decide +kernel
theorem dX2_left_8 : decode cX2_left 8 = .ok (.getfield 13, 3) := by decide +kernel
theorem dX2_left_11 : decode cX2_left 11 = .ok (.isub, 1) := by decide +kernel
theorem dX2_left_12 : decode cX2_left 12 = .ok (.ireturn, 1) := by decide +kernel
theorem dX2_isSpoiled_0 : decode cX2_isSpoiled 0 = .ok (.aload_n 0, 1) := by decide +kernel
theorem dX2_isSpoiled_1 : decode cX2_isSpoiled 1 = .ok (.invokevirtual 38, 3) := by decide +kernel
theorem dX2_isSpoiled_4 : decode cX2_isSpoiled 4 = .ok (.ifCond .ge 7, 3) := by decide +kernel
theorem dX2_isSpoiled_7 : decode cX2_isSpoiled 7 = .ok (.iconst 1, 1) := by decide +kernel
theorem dX2_isSpoiled_8 : decode cX2_isSpoiled 8 = .ok (.goto 4, 3) := by decide +kernel
theorem dX2_isSpoiled_11 : decode cX2_isSpoiled 11 = .ok (.iconst 0, 1) := by decide +kernel
theorem dX2_isSpoiled_12 : decode cX2_isSpoiled 12 = .ok (.ireturn, 1) := by decide +kernel
theorem dX2_adaptTo_0 : decode cX2_adaptTo 0 = .ok (.aload_n 0, 1) := by decide +kernel
theorem dX2_adaptTo_1 : decode cX2_adaptTo 1 = .ok (.dup, 1) := by decide +kernel
theorem dX2_adaptTo_2 : decode cX2_adaptTo 2 = .ok (.getfield 27, 3) := by decide +kernel
theorem dX2_adaptTo_5 : decode cX2_adaptTo 5 = .ok (.iload_n 1, 1) := by decide +kernel
theorem dX2_adaptTo_6 : decode cX2_adaptTo 6 = .ok (.aload_n 0, 1) := by decide +kernel
theorem dX2_adaptTo_7 : decode cX2_adaptTo 7 = .ok (.getfield 27, 3) := by decide +kernel
theorem dX2_adaptTo_10 : decode cX2_adaptTo 10 = .ok (.isub, 1) := by decide +kernel
theorem dX2_adaptTo_11 : decode cX2_adaptTo 11 = .ok (.bipush 8, 2) := by decide +kernel
theorem dX2_adaptTo_13 : decode cX2_adaptTo 13 = .ok (.idiv, 1) := by decide +kernel
theorem dX2_adaptTo_14 : decode cX2_adaptTo 14 = .ok (.iadd, 1) := by decide +kernel
theorem dX2_adaptTo_15 : decode cX2_adaptTo 15 = .ok (.putfield 27, 3) := by decide +kernel
theorem dX2_adaptTo_18 : decode cX2_adaptTo 18 = .ok (.aload_n 0, 1) := by decide +kernel
theorem dX2_adaptTo_19 : decode cX2_adaptTo 19 = .ok (.dup, 1) := by decide +kernel
theorem dX2_adaptTo_20 : decode cX2_adaptTo 20 = .ok (.getfield 13, 3) := by decide +kernel
theorem dX2_adaptTo_23 : decode cX2_adaptTo 23 = .ok (.iconst 1, 1) := by decide +kernel
theorem dX2_adaptTo_24 : decode cX2_adaptTo 24 = .ok (.aload_n 0, 1) := by decide +kernel
theorem dX2_adaptTo_25 : decode cX2_adaptTo 25 = .ok (.getfield 23, 3) := by decide +kernel
theorem dX2_adaptTo_28 : decode cX2_adaptTo 28 = .ok (.aload_n 0, 1) := by decide +kernel
theorem dX2_adaptTo_29 : decode cX2_adaptTo 29 = .ok (.getfield 27, 3) := by decide +kernel
theorem dX2_adaptTo_32 : decode cX2_adaptTo 32 = .ok (.invokevirtual 49, 3) := by decide +kernel
theorem dX2_adaptTo_35 : decode cX2_adaptTo 35 = .ok (.bipush 10, 2) := by decide +kernel
theorem dX2_adaptTo_37 : decode cX2_adaptTo 37 = .ok (.idiv, 1) := by decide +kernel
theorem dX2_adaptTo_38 : decode cX2_adaptTo 38 = .ok (.iadd, 1) := by decide +kernel
theorem dX2_adaptTo_39 : decode cX2_adaptTo 39 = .ok (.iadd, 1) := by decide +kernel
theorem dX2_adaptTo_40 : decode cX2_adaptTo 40 = .ok (.putfield 13, 3) := by decide +kernel
theorem dX2_adaptTo_43 : decode cX2_adaptTo 43 = .ok (.return_, 1) := by decide +kernel
theorem dX3_init_0 : decode cX3_init 0 = .ok (.aload_n 0, 1) := by decide +kernel
theorem dX3_init_1 : decode cX3_init 1 = .ok (.invokespecial 1, 3) := by decide +kernel
theorem dX3_init_4 : decode cX3_init 4 = .ok (.aload_n 0, 1) := by decide +kernel
theorem dX3_init_5 : decode cX3_init 5 = .ok (.iload_n 1, 1) := by decide +kernel
theorem dX3_init_6 : decode cX3_init 6 = .ok (.putfield 7, 3) := by decide +kernel
theorem dX3_init_9 : decode cX3_init 9 = .ok (.aload_n 0, 1) := by decide +kernel
theorem dX3_init_10 : decode cX3_init 10 = .ok (.iload_n 2, 1) := by decide +kernel
theorem dX3_init_11 : decode cX3_init 11 = .ok (.putfield 13, 3) := by decide +kernel
theorem dX3_init_14 : decode cX3_init 14 = .ok (.aload_n 0, 1) := by decide +kernel
theorem dX3_init_15 : decode cX3_init 15 = .ok (.iload_n 3, 1) := by decide +kernel
theorem dX3_init_16 : decode cX3_init 16 = .ok (.putfield 16, 3) := by decide +kernel
theorem dX3_init_19 : decode cX3_init 19 = .ok (.aload_n 0, 1) := by decide +kernel
theorem dX3_init_20 : decode cX3_init 20 = .ok (.iload 4, 2) := by decide +kernel
theorem dX3_init_22 : decode cX3_init 22 = .ok (.putfield 19, 3) := by decide +kernel
theorem dX3_init_25 : decode cX3_init 25 = .ok (.aload_n 0, 1) := by decide +kernel
theorem dX3_init_26 : decode cX3_init 26 = .ok (.iload 5, 2) := by decide +kernel
theorem dX3_init_28 : decode cX3_init 28 = .ok (.putfield 22, 3) := by decide +kernel
theorem dX3_init_31 : decode cX3_init 31 = .ok (.return_, 1) := by decide +kernel
theorem dX3_distanceFromSuiting_0 : decode cX3_distanceFromSuiting 0 = .ok (.iload_n 1, 1) := by decide +kernel
theorem dX3_distanceFromSuiting_1 : decode cX3_distanceFromSuiting 1 = .ok (.aload_n 0, 1) := by decide +kernel
theorem dX3_distanceFromSuiting_2 : decode cX3_distanceFromSuiting 2 = .ok (.getfield 13, 3) := by decide +kernel
theorem dX3_distanceFromSuiting_5 : decode cX3_distanceFromSuiting 5 = .ok (.if_icmp .ge 10, 3) := by decide +kernel
theorem dX3_distanceFromSuiting_8 : decode cX3_distanceFromSuiting 8 = .ok (.aload_n 0, 1) := by decide +kernel
theorem dX3_distanceFromSuiting_9 : decode cX3_distanceFromSuiting 9 = .ok (.getfield 13, 3) := by decide +kernel
theorem dX3_distanceFromSuiting_12 : decode cX3_distanceFromSuiting 12 = .ok (.iload_n 1, 1) := by decide +kernel
theorem dX3_distanceFromSuiting_13 : decode cX3_distanceFromSuiting 13 = .ok (.isub, 1) := by decide +kernel
theorem dX3_distanceFromSuiting_14 : decode cX3_distanceFromSuiting 14 = .ok (.ireturn, 1) := by decide +kernel
theorem dX3_distanceFromSuiting_15 : decode cX3_distanceFromSuiting 15 = .ok (.iload_n 1, 1) := by decide +kernel
theorem dX3_distanceFromSuiting_16 : decode cX3_distanceFromSuiting 16 = .ok (.aload_n 0, 1) := by decide +kernel
theorem dX3_distanceFromSuiting_17 : decode cX3_distanceFromSuiting 17 = .ok (.getfield 16, 3) := by decide +kernel
theorem dX3_distanceFromSuiting_20 : decode cX3_distanceFromSuiting 20 = .ok (.if_icmp .le 12, 3) := by decide +kernel
theorem dX3_distanceFromSuiting_23 : decode cX3_distanceFromSuiting 23 = .ok (.iload_n 1, 1) := by decide +kernel
theorem dX3_distanceFromSuiting_24 : decode cX3_distanceFromSuiting 24 = .ok (.aload_n 0, 1) := by decide +kernel
theorem dX3_distanceFromSuiting_25 : decode cX3_distanceFromSuiting 25 = .ok (.getfield 16, 3) := by decide +kernel
theorem dX3_distanceFromSuiting_28 : decode cX3_distanceFromSuiting 28 = .ok (.isub, 1) := by decide +kernel
theorem dX3_distanceFromSuiting_29 : decode cX3_distanceFromSuiting 29 = .ok (.goto 4, 3) := by decide +kernel
theorem dX3_distanceFromSuiting_32 : decode cX3_distanceFromSuiting 32 = .ok (.iconst 0, 1) := by decide +kernel
theorem dX3_distanceFromSuiting_33 : decode cX3_distanceFromSuiting 33 = .ok (.ireturn, 1) := by decide +kernel
theorem dX3_goesWith_0 : decode cX3_goesWith 0 = .ok (.aload_n 0, 1) := by decide +kernel
theorem dX3_goesWith_1 : decode cX3_goesWith 1 = .ok (.getfield 7, 3) := by decide +kernel
theorem dX3_goesWith_4 : decode cX3_goesWith 4 = .ok (.aload_n 1, 1) := by decide +kernel
theorem dX3_goesWith_5 : decode cX3_goesWith 5 = .ok (.getfield 7, 3) := by decide +kernel
theorem dX3_goesWith_8 : decode cX3_goesWith 8 = .ok (.if_icmp .ne 5, 3) := by decide +kernel
theorem dX3_goesWith_11 : decode cX3_goesWith 11 = .ok (.iconst 1, 1) := by decide +kernel
theorem dX3_goesWith_12 : decode cX3_goesWith 12 = .ok (.ireturn, 1) := by decide +kernel
theorem dX3_goesWith_13 : decode cX3_goesWith 13 = .ok (.aload_n 0, 1) := by decide +kernel
theorem dX3_goesWith_14 : decode cX3_goesWith 14 = .ok (.getfield 22, 3) := by decide +kernel
theorem dX3_goesWith_17 : decode cX3_goesWith 17 = .ok (.iconst 3, 1) := by decide +kernel
theorem dX3_goesWith_18 : decode cX3_goesWith 18 = .ok (.if_icmp .eq 11, 3) := by decide +kernel
theorem dX3_goesWith_21 : decode cX3_goesWith 21 = .ok (.aload_n 1, 1) := by decide +kernel
theorem dX3_goesWith_22 : decode cX3_goesWith 22 = .ok (.getfield 22, 3) := by decide +kernel
theorem dX3_goesWith_25 : decode cX3_goesWith 25 = .ok (.iconst 3, 1) := by decide +kernel
theorem dX3_goesWith_26 : decode cX3_goesWith 26 = .ok (.if_icmp .ne 5, 3) := by decide +kernel
theorem dX3_goesWith_29 : decode cX3_goesWith 29 = .ok (.iconst 0, 1) := by decide +kernel
theorem dX3_goesWith_30 : decode cX3_goesWith 30 = .ok (.ireturn, 1) := by decide +kernel
theorem dX3_goesWith_31 : decode cX3_goesWith 31 = .ok (.aload_n 0, 1) := by decide +kernel
theorem dX3_goesWith_32 : decode cX3_goesWith 32 = .ok (.aload_n 1, 1) := by decide +kernel
theorem dX3_goesWith_33 : decode cX3_goesWith 33 = .ok (.invokevirtual 25, 3) := by decide +kernel
theorem dX3_goesWith_36 : decode cX3_goesWith 36 = .ok (.ifCond .ne 15, 3) := by decide +kernel
theorem dX3_goesWith_39 : decode cX3_goesWith 39 = .ok (.aload_n 1, 1) := by decide +kernel
theorem dX3_goesWith_40 : decode cX3_goesWith 40 = .ok (.aload_n 0, 1) := by decide +kernel
theorem dX3_goesWith_41 : decode cX3_goesWith 41 = .ok (.invokevirtual 25, 3) := by decide +kernel
theorem dX3_goesWith_44 : decode cX3_goesWith 44 = .ok (.ifCond .ne 7, 3) := by decide +kernel
theorem dX3_goesWith_47 : decode cX3_goesWith 47 = .ok (.iconst 1, 1) := by decide +kernel
theorem dX3_goesWith_48 : decode cX3_goesWith 48 = .ok (.goto 4, 3) := by decide +kernel
theorem dX3_goesWith_51 : decode cX3_goesWith 51 = .ok (.iconst 0, 1) := by decide +kernel
theorem dX3_goesWith_52 : decode cX3_goesWith 52 = .ok (.ireturn, 1) := by decide +kernel
theorem dX3_disturbs_0 : decode cX3_disturbs 0 = .ok (.aload_n 0, 1) := by decide +kernel
theorem dX3_disturbs_1 : decode cX3_disturbs 1 = .ok (.getfield 22, 3) := by decide +kernel
theorem dX3_disturbs_4 : decode cX3_disturbs 4 = .ok (.iconst 1, 1) := by decide +kernel
theorem dX3_disturbs_5 : decode cX3_disturbs 5 = .ok (.if_icmp .ne 15, 3) := by decide +kernel
theorem dX3_disturbs_8 : decode cX3_disturbs 8 = .ok (.aload_n 1, 1) := by decide +kernel
theorem dX3_disturbs_9 : decode cX3_disturbs 9 = .ok (.getfield 22, 3) := by decide +kernel
theorem dX3_disturbs_12 : decode cX3_disturbs 12 = .ok (.iconst 2, 1) := by decide +kernel
theorem dX3_disturbs_13 : decode cX3_disturbs 13 = .ok (.if_icmp .ne 7, 3) := by decide +kernel
theorem dX3_disturbs_16 : decode cX3_disturbs 16 = .ok (.iconst 1, 1) := by decide +kernel
theorem dX3_disturbs_17 : decode cX3_disturbs 17 = .ok (.goto 4, 3) := by decide +kernel
theorem dX3_disturbs_20 : decode cX3_disturbs 20 = .ok (.iconst 0, 1) := by decide +kernel
theorem dX3_disturbs_21 : decode cX3_disturbs 21 = .ok (.ireturn, 1) := by decide +kernel
theorem dX4_init_0 : decode cX4_init 0 = .ok (.aload_n 0, 1) := by decide +kernel
theorem dX4_init_1 : decode cX4_init 1 = .ok (.invokespecial 1, 3) := by decide +kernel
theorem dX4_init_4 : decode cX4_init 4 = .ok (.aload_n 0, 1) := by decide +kernel
theorem dX4_init_5 : decode cX4_init 5 = .ok (.iconst 0, 1) := by decide +kernel
theorem dX4_init_6 : decode cX4_init 6 = .ok (.putfield 7, 3) := by decide +kernel
theorem dX4_init_9 : decode cX4_init 9 = .ok (.aload_n 0, 1) := by decide +kernel
theorem dX4_init_10 : decode cX4_init 10 = .ok (.sipush 150, 3) := by decide +kernel
theorem dX4_init_13 : decode cX4_init 13 = .ok (.putfield 13, 3) := by decide +kernel
theorem dX4_init_16 : decode cX4_init 16 = .ok (.aload_n 0, 1) := by decide +kernel
theorem dX4_init_17 : decode cX4_init 17 = .ok (.iconst 0, 1) := by decide +kernel
theorem dX4_init_18 : decode cX4_init 18 = .ok (.putfield 17, 3) := by decide +kernel
theorem dX4_init_21 : decode cX4_init 21 = .ok (.aload_n 0, 1) := by decide +kernel
theorem dX4_init_22 : decode cX4_init 22 = .ok (.iconst 0, 1) := by decide +kernel
theorem dX4_init_23 : decode cX4_init 23 = .ok (.putfield 20, 3) := by decide +kernel
theorem dX4_init_26 : decode cX4_init 26 = .ok (.aload_n 0, 1) := by decide +kernel
theorem dX4_init_27 : decode cX4_init 27 = .ok (.iconst 0, 1) := by decide +kernel
theorem dX4_init_28 : decode cX4_init 28 = .ok (.putfield 23, 3) := by decide +kernel
theorem dX4_init_31 : decode cX4_init 31 = .ok (.aload_n 0, 1) := by decide +kernel
theorem dX4_init_32 : decode cX4_init 32 = .ok (.iload_n 1, 1) := by decide +kernel
theorem dX4_init_33 : decode cX4_init 33 = .ok (.putfield 26, 3) := by decide +kernel
theorem dX4_init_36 : decode cX4_init 36 = .ok (.aload_n 0, 1) := by decide +kernel
theorem dX4_init_37 : decode cX4_init 37 = .ok (.iload_n 2, 1) := by decide +kernel
theorem dX4_init_38 : decode cX4_init 38 = .ok (.ifCond .ge 7, 3) := by decide +kernel
theorem dX4_init_41 : decode cX4_init 41 = .ok (.iconst 0, 1) := by decide +kernel
theorem dX4_init_42 : decode cX4_init 42 = .ok (.goto 4, 3) := by decide +kernel
theorem dX4_init_45 : decode cX4_init 45 = .ok (.iload_n 2, 1) := by decide +kernel
theorem dX4_init_46 : decode cX4_init 46 = .ok (.anewarray 29, 3) := by decide +kernel
theorem dX4_init_49 : decode cX4_init 49 = .ok (.putfield 31, 3) := by decide +kernel
theorem dX4_init_52 : decode cX4_init 52 = .ok (.aload_n 0, 1) := by decide +kernel
theorem dX4_init_53 : decode cX4_init 53 = .ok (.iload_n 3, 1) := by decide +kernel
theorem dX4_init_54 : decode cX4_init 54 = .ok (.putfield 35, 3) := by decide +kernel
theorem dX4_init_57 : decode cX4_init 57 = .ok (.aload_n 0, 1) := by decide +kernel
theorem dX4_init_58 : decode cX4_init 58 = .ok (.new 38, 3) := by decide +kernel
theorem dX4_init_61 : decode cX4_init 61 = .ok (.dup, 1) := by decide +kernel
theorem dX4_init_62 : decode cX4_init 62 = .ok (.iload 4, 2) := by decide +kernel
theorem dX4_init_64 : decode cX4_init 64 = .ok (.invokespecial 40, 3) := by decide +kernel
theorem dX4_init_67 : decode cX4_init 67 = .ok (.putfield 43, 3) := by decide +kernel
theorem dX4_init_70 : decode cX4_init 70 = .ok (.aload_n 0, 1) := by decide +kernel
theorem dX4_init_71 : decode cX4_init 71 = .ok (.new 38, 3) := by decide +kernel
theorem dX4_init_74 : decode cX4_init 74 = .ok (.dup, 1) := by decide +kernel
theorem dX4_init_75 : decode cX4_init 75 = .ok (.iload 4, 2) := by decide +kernel
theorem dX4_init_77 : decode cX4_init 77 = .ok (.invokespecial 40, 3) := by decide +kernel
theorem dX4_init_80 : decode cX4_init 80 = .ok (.putfield 47, 3) := by decide +kernel
theorem dX4_init_83 : decode cX4_init 83 = .ok (.aload_n 0, 1) := by decide +kernel
theorem dX4_init_84 : decode cX4_init 84 = .ok (.iload 5, 2) := by decide +kernel
theorem dX4_init_86 : decode cX4_init 86 = .ok (.putfield 50, 3) := by decide +kernel
theorem dX4_init_89 : decode cX4_init 89 = .ok (.return_, 1) := by decide +kernel
theorem dX4_fact_0 : decode cX4_fact 0 = .ok (.iload_n 1, 1) := by decide +kernel
theorem dX4_fact_1 : decode cX4_fact 1 = .ok (.tableswitch 78 0 5 #[39, 44, 49, 57, 65, 70], 39) := by decide +kernel
theorem dX4_fact_40 : decode cX4_fact 40 = .ok (.aload_n 0, 1) := by decide +kernel
theorem dX4_fact_41 : decode cX4_fact 41 = .ok (.getfield 13, 3) := by decide +kernel
theorem dX4_fact_44 : decode cX4_fact 44 = .ok (.ireturn, 1) := by decide +kernel
theorem dX4_fact_45 : decode cX4_fact 45 = .ok (.aload_n 0, 1) := by decide +kernel
theorem dX4_fact_46 : decode cX4_fact 46 = .ok (.getfield 50, 3) := by decide +kernel
theorem dX4_fact_49 : decode cX4_fact 49 = .ok (.ireturn, 1) := by decide +kernel
theorem dX4_fact_50 : decode cX4_fact 50 = .ok (.aload_n 0, 1) := by decide +kernel
theorem dX4_fact_51 : decode cX4_fact 51 = .ok (.getfield 43, 3) := by decide +kernel
theorem dX4_fact_54 : decode cX4_fact 54 = .ok (.getfield 53, 3) := by decide +kernel
theorem dX4_fact_57 : decode cX4_fact 57 = .ok (.ireturn, 1) := by decide +kernel
theorem dX4_fact_58 : decode cX4_fact 58 = .ok (.aload_n 0, 1) := by decide +kernel
theorem dX4_fact_59 : decode cX4_fact 59 = .ok (.getfield 43, 3) := by decide +kernel
theorem dX4_fact_62 : decode cX4_fact 62 = .ok (.getfield 56, 3) := by decide +kernel
theorem dX4_fact_65 : decode cX4_fact 65 = .ok (.ireturn, 1) := by decide +kernel
theorem dX4_fact_66 : decode cX4_fact 66 = .ok (.aload_n 0, 1) := by decide +kernel
theorem dX4_fact_67 : decode cX4_fact 67 = .ok (.invokevirtual 59, 3) := by decide +kernel
theorem dX4_fact_70 : decode cX4_fact 70 = .ok (.ireturn, 1) := by decide +kernel
theorem dX4_fact_71 : decode cX4_fact 71 = .ok (.aload_n 0, 1) := by decide +kernel
theorem dX4_fact_72 : decode cX4_fact 72 = .ok (.getfield 43, 3) := by decide +kernel
theorem dX4_fact_75 : decode cX4_fact 75 = .ok (.getfield 63, 3) := by decide +kernel
theorem dX4_fact_78 : decode cX4_fact 78 = .ok (.ireturn, 1) := by decide +kernel
theorem dX4_fact_79 : decode cX4_fact 79 = .ok (.aload_n 0, 1) := by decide +kernel
theorem dX4_fact_80 : decode cX4_fact 80 = .ok (.getfield 17, 3) := by decide +kernel
theorem dX4_fact_83 : decode cX4_fact 83 = .ok (.ireturn, 1) := by decide +kernel
theorem dX4_freePlaces_0 : decode cX4_freePlaces 0 = .ok (.iconst 0, 1) := by decide +kernel
theorem dX4_freePlaces_1 : decode cX4_freePlaces 1 = .ok (.istore_n 1, 1) := by decide +kernel
theorem dX4_freePlaces_2 : decode cX4_freePlaces 2 = .ok (.aload_n 0, 1) := by decide +kernel
theorem dX4_freePlaces_3 : decode cX4_freePlaces 3 = .ok (.getfield 31, 3) := by decide +kernel
theorem dX4_freePlaces_6 : decode cX4_freePlaces 6 = .ok (.astore_n 2, 1) := by decide +kernel
theorem dX4_freePlaces_7 : decode cX4_freePlaces 7 = .ok (.aload_n 2, 1) := by decide +kernel
theorem dX4_freePlaces_8 : decode cX4_freePlaces 8 = .ok (.arraylength, 1) := by decide +kernel
theorem dX4_freePlaces_9 : decode cX4_freePlaces 9 = .ok (.istore_n 3, 1) := by decide +kernel
theorem dX4_freePlaces_10 : decode cX4_freePlaces 10 = .ok (.iconst 0, 1) := by decide +kernel
theorem dX4_freePlaces_11 : decode cX4_freePlaces 11 = .ok (.istore 4, 2) := by decide +kernel
theorem dX4_freePlaces_13 : decode cX4_freePlaces 13 = .ok (.iload 4, 2) := by decide +kernel
theorem dX4_freePlaces_15 : decode cX4_freePlaces 15 = .ok (.iload_n 3, 1) := by decide +kernel
theorem dX4_freePlaces_16 : decode cX4_freePlaces 16 = .ok (.if_icmp .ge 23, 3) := by decide +kernel
theorem dX4_freePlaces_19 : decode cX4_freePlaces 19 = .ok (.aload_n 2, 1) := by decide +kernel
theorem dX4_freePlaces_20 : decode cX4_freePlaces 20 = .ok (.iload 4, 2) := by decide +kernel
theorem dX4_freePlaces_22 : decode cX4_freePlaces 22 = .ok (.aaload, 1) := by decide +kernel
theorem dX4_freePlaces_23 : decode cX4_freePlaces 23 = .ok (.astore 5, 2) := by decide +kernel
theorem dX4_freePlaces_25 : decode cX4_freePlaces 25 = .ok (.aload 5, 2) := by decide +kernel
theorem dX4_freePlaces_27 : decode cX4_freePlaces 27 = .ok (.ifnonnull 6, 3) := by decide +kernel
theorem dX4_freePlaces_30 : decode cX4_freePlaces 30 = .ok (.iinc 1 1, 3) := by decide +kernel
theorem dX4_freePlaces_33 : decode cX4_freePlaces 33 = .ok (.iinc 4 1, 3) := by decide +kernel
theorem dX4_freePlaces_36 : decode cX4_freePlaces 36 = .ok (.goto (-23), 3) := by decide +kernel
theorem dX4_freePlaces_39 : decode cX4_freePlaces 39 = .ok (.iload_n 1, 1) := by decide +kernel
theorem dX4_freePlaces_40 : decode cX4_freePlaces 40 = .ok (.ireturn, 1) := by decide +kernel
theorem dX4_reasonAgainst_0 : decode cX4_reasonAgainst 0 = .ok (.aload_n 0, 1) := by decide +kernel
theorem dX4_reasonAgainst_1 : decode cX4_reasonAgainst 1 = .ok (.invokevirtual 59, 3) := by decide +kernel
theorem dX4_reasonAgainst_4 : decode cX4_reasonAgainst 4 = .ok (.ifCond .ne 5, 3) := by decide +kernel
theorem dX4_reasonAgainst_7 : decode cX4_reasonAgainst 7 = .ok (.iconst 1, 1) := by decide +kernel
theorem dX4_reasonAgainst_8 : decode cX4_reasonAgainst 8 = .ok (.ireturn, 1) := by decide +kernel
theorem dX4_reasonAgainst_9 : decode cX4_reasonAgainst 9 = .ok (.aload_n 0, 1) := by decide +kernel
theorem dX4_reasonAgainst_10 : decode cX4_reasonAgainst 10 = .ok (.getfield 31, 3) := by decide +kernel
theorem dX4_reasonAgainst_13 : decode cX4_reasonAgainst 13 = .ok (.astore_n 2, 1) := by decide +kernel
theorem dX4_reasonAgainst_14 : decode cX4_reasonAgainst 14 = .ok (.aload_n 2, 1) := by decide +kernel
theorem dX4_reasonAgainst_15 : decode cX4_reasonAgainst 15 = .ok (.arraylength, 1) := by decide +kernel
theorem dX4_reasonAgainst_16 : decode cX4_reasonAgainst 16 = .ok (.istore_n 3, 1) := by decide +kernel
theorem dX4_reasonAgainst_17 : decode cX4_reasonAgainst 17 = .ok (.iconst 0, 1) := by decide +kernel
theorem dX4_reasonAgainst_18 : decode cX4_reasonAgainst 18 = .ok (.istore 4, 2) := by decide +kernel
theorem dX4_reasonAgainst_20 : decode cX4_reasonAgainst 20 = .ok (.iload 4, 2) := by decide +kernel
theorem dX4_reasonAgainst_22 : decode cX4_reasonAgainst 22 = .ok (.iload_n 3, 1) := by decide +kernel
theorem dX4_reasonAgainst_23 : decode cX4_reasonAgainst 23 = .ok (.if_icmp .ge 34, 3) := by decide +kernel
theorem dX4_reasonAgainst_26 : decode cX4_reasonAgainst 26 = .ok (.aload_n 2, 1) := by decide +kernel
theorem dX4_reasonAgainst_27 : decode cX4_reasonAgainst 27 = .ok (.iload 4, 2) := by decide +kernel
theorem dX4_reasonAgainst_29 : decode cX4_reasonAgainst 29 = .ok (.aaload, 1) := by decide +kernel
theorem dX4_reasonAgainst_30 : decode cX4_reasonAgainst 30 = .ok (.astore 5, 2) := by decide +kernel
theorem dX4_reasonAgainst_32 : decode cX4_reasonAgainst 32 = .ok (.aload 5, 2) := by decide +kernel
theorem dX4_reasonAgainst_34 : decode cX4_reasonAgainst 34 = .ok (.ifnull 17, 3) := by decide +kernel
theorem dX4_reasonAgainst_37 : decode cX4_reasonAgainst 37 = .ok (.aload 5, 2) := by decide +kernel
theorem dX4_reasonAgainst_39 : decode cX4_reasonAgainst 39 = .ok (.getfield 66, 3) := by decide +kernel
theorem dX4_reasonAgainst_42 : decode cX4_reasonAgainst 42 = .ok (.aload_n 1, 1) := by decide +kernel
theorem dX4_reasonAgainst_43 : decode cX4_reasonAgainst 43 = .ok (.invokevirtual 70, 3) := by decide +kernel
theorem dX4_reasonAgainst_46 : decode cX4_reasonAgainst 46 = .ok (.ifCond .ne 5, 3) := by decide +kernel
theorem dX4_reasonAgainst_49 : decode cX4_reasonAgainst 49 = .ok (.iconst 2, 1) := by decide +kernel
theorem dX4_reasonAgainst_50 : decode cX4_reasonAgainst 50 = .ok (.ireturn, 1) := by decide +kernel
theorem dX4_reasonAgainst_51 : decode cX4_reasonAgainst 51 = .ok (.iinc 4 1, 3) := by decide +kernel
theorem dX4_reasonAgainst_54 : decode cX4_reasonAgainst 54 = .ok (.goto (-34), 3) := by decide +kernel
theorem dX4_reasonAgainst_57 : decode cX4_reasonAgainst 57 = .ok (.iconst 0, 1) := by decide +kernel
theorem dX4_reasonAgainst_58 : decode cX4_reasonAgainst 58 = .ok (.ireturn, 1) := by decide +kernel
theorem dX4_accepts_0 : decode cX4_accepts 0 = .ok (.aload_n 0, 1) := by decide +kernel
theorem dX4_accepts_1 : decode cX4_accepts 1 = .ok (.aload_n 1, 1) := by decide +kernel
theorem dX4_accepts_2 : decode cX4_accepts 2 = .ok (.invokevirtual 76, 3) := by decide +kernel
theorem dX4_accepts_5 : decode cX4_accepts 5 = .ok (.ifCond .ne 7, 3) := by decide +kernel
theorem dX4_accepts_8 : decode cX4_accepts 8 = .ok (.iconst 1, 1) := by decide +kernel
theorem dX4_accepts_9 : decode cX4_accepts 9 = .ok (.goto 4, 3) := by decide +kernel
theorem dX4_accepts_12 : decode cX4_accepts 12 = .ok (.iconst 0, 1) := by decide +kernel
theorem dX4_accepts_13 : decode cX4_accepts 13 = .ok (.ireturn, 1) := by decide +kernel
theorem dX4_isBetterFor_0 : decode cX4_isBetterFor 0 = .ok (.aload_n 1, 1) := by decide +kernel
theorem dX4_isBetterFor_1 : decode cX4_isBetterFor 1 = .ok (.aload_n 0, 1) := by decide +kernel
theorem dX4_isBetterFor_2 : decode cX4_isBetterFor 2 = .ok (.getfield 50, 3) := by decide +kernel
theorem dX4_isBetterFor_5 : decode cX4_isBetterFor 5 = .ok (.invokevirtual 80, 3) := by decide +kernel
theorem dX4_isBetterFor_8 : decode cX4_isBetterFor 8 = .ok (.istore_n 3, 1) := by decide +kernel
theorem dX4_isBetterFor_9 : decode cX4_isBetterFor 9 = .ok (.aload_n 1, 1) := by decide +kernel
theorem dX4_isBetterFor_10 : decode cX4_isBetterFor 10 = .ok (.aload_n 2, 1) := by decide +kernel
theorem dX4_isBetterFor_11 : decode cX4_isBetterFor 11 = .ok (.getfield 50, 3) := by decide +kernel
theorem dX4_isBetterFor_14 : decode cX4_isBetterFor 14 = .ok (.invokevirtual 80, 3) := by decide +kernel
theorem dX4_isBetterFor_17 : decode cX4_isBetterFor 17 = .ok (.istore 4, 2) := by decide +kernel
theorem dX4_isBetterFor_19 : decode cX4_isBetterFor 19 = .ok (.iload_n 3, 1) := by decide +kernel
theorem dX4_isBetterFor_20 : decode cX4_isBetterFor 20 = .ok (.iload 4, 2) := by decide +kernel
theorem dX4_isBetterFor_22 : decode cX4_isBetterFor 22 = .ok (.if_icmp .eq 15, 3) := by decide +kernel
theorem dX4_isBetterFor_25 : decode cX4_isBetterFor 25 = .ok (.iload_n 3, 1) := by decide +kernel
theorem dX4_isBetterFor_26 : decode cX4_isBetterFor 26 = .ok (.iload 4, 2) := by decide +kernel
theorem dX4_isBetterFor_28 : decode cX4_isBetterFor 28 = .ok (.if_icmp .ge 7, 3) := by decide +kernel
theorem dX4_isBetterFor_31 : decode cX4_isBetterFor 31 = .ok (.iconst 1, 1) := by decide +kernel
theorem dX4_isBetterFor_32 : decode cX4_isBetterFor 32 = .ok (.goto 4, 3) := by decide +kernel
theorem dX4_isBetterFor_35 : decode cX4_isBetterFor 35 = .ok (.iconst 0, 1) := by decide +kernel
theorem dX4_isBetterFor_36 : decode cX4_isBetterFor 36 = .ok (.ireturn, 1) := by decide +kernel
theorem dX4_isBetterFor_37 : decode cX4_isBetterFor 37 = .ok (.aload_n 0, 1) := by decide +kernel
theorem dX4_isBetterFor_38 : decode cX4_isBetterFor 38 = .ok (.invokevirtual 59, 3) := by decide +kernel
theorem dX4_isBetterFor_41 : decode cX4_isBetterFor 41 = .ok (.aload_n 2, 1) := by decide +kernel
theorem dX4_isBetterFor_42 : decode cX4_isBetterFor 42 = .ok (.invokevirtual 59, 3) := by decide +kernel
theorem dX4_isBetterFor_45 : decode cX4_isBetterFor 45 = .ok (.if_icmp .le 7, 3) := by decide +kernel
theorem dX4_isBetterFor_48 : decode cX4_isBetterFor 48 = .ok (.iconst 1, 1) := by decide +kernel
theorem dX4_isBetterFor_49 : decode cX4_isBetterFor 49 = .ok (.goto 4, 3) := by decide +kernel
theorem dX4_isBetterFor_52 : decode cX4_isBetterFor 52 = .ok (.iconst 0, 1) := by decide +kernel
theorem dX4_isBetterFor_53 : decode cX4_isBetterFor 53 = .ok (.ireturn, 1) := by decide +kernel
theorem dX4_take_0 : decode cX4_take 0 = .ok (.iconst 0, 1) := by decide +kernel
theorem dX4_take_1 : decode cX4_take 1 = .ok (.istore_n 2, 1) := by decide +kernel
theorem dX4_take_2 : decode cX4_take 2 = .ok (.iload_n 2, 1) := by decide +kernel
theorem dX4_take_3 : decode cX4_take 3 = .ok (.aload_n 0, 1) := by decide +kernel
theorem dX4_take_4 : decode cX4_take 4 = .ok (.getfield 31, 3) := by decide +kernel
theorem dX4_take_7 : decode cX4_take 7 = .ok (.arraylength, 1) := by decide +kernel
theorem dX4_take_8 : decode cX4_take 8 = .ok (.if_icmp .ge 31, 3) := by decide +kernel
theorem dX4_take_11 : decode cX4_take 11 = .ok (.aload_n 0, 1) := by decide +kernel
theorem dX4_take_12 : decode cX4_take 12 = .ok (.getfield 31, 3) := by decide +kernel
theorem dX4_take_15 : decode cX4_take 15 = .ok (.iload_n 2, 1) := by decide +kernel
theorem dX4_take_16 : decode cX4_take 16 = .ok (.aaload, 1) := by decide +kernel
theorem dX4_take_17 : decode cX4_take 17 = .ok (.ifnonnull 16, 3) := by decide +kernel
theorem dX4_take_20 : decode cX4_take 20 = .ok (.aload_n 0, 1) := by decide +kernel
theorem dX4_take_21 : decode cX4_take 21 = .ok (.getfield 31, 3) := by decide +kernel
theorem dX4_take_24 : decode cX4_take 24 = .ok (.iload_n 2, 1) := by decide +kernel
theorem dX4_take_25 : decode cX4_take 25 = .ok (.aload_n 1, 1) := by decide +kernel
theorem dX4_take_26 : decode cX4_take 26 = .ok (.aastore, 1) := by decide +kernel
theorem dX4_take_27 : decode cX4_take 27 = .ok (.aload_n 1, 1) := by decide +kernel
theorem dX4_take_28 : decode cX4_take 28 = .ok (.aload_n 0, 1) := by decide +kernel
theorem dX4_take_29 : decode cX4_take 29 = .ok (.putfield 84, 3) := by decide +kernel
theorem dX4_take_32 : decode cX4_take 32 = .ok (.return_, 1) := by decide +kernel
theorem dX4_take_33 : decode cX4_take 33 = .ok (.iinc 2 1, 3) := by decide +kernel
theorem dX4_take_36 : decode cX4_take 36 = .ok (.goto (-34), 3) := by decide +kernel
theorem dX4_take_39 : decode cX4_take 39 = .ok (.return_, 1) := by decide +kernel
theorem dX4_release_0 : decode cX4_release 0 = .ok (.iconst 0, 1) := by decide +kernel
theorem dX4_release_1 : decode cX4_release 1 = .ok (.istore_n 2, 1) := by decide +kernel
theorem dX4_release_2 : decode cX4_release 2 = .ok (.iload_n 2, 1) := by decide +kernel
theorem dX4_release_3 : decode cX4_release 3 = .ok (.aload_n 0, 1) := by decide +kernel
theorem dX4_release_4 : decode cX4_release 4 = .ok (.getfield 31, 3) := by decide +kernel
theorem dX4_release_7 : decode cX4_release 7 = .ok (.arraylength, 1) := by decide +kernel
theorem dX4_release_8 : decode cX4_release 8 = .ok (.if_icmp .ge 31, 3) := by decide +kernel
theorem dX4_release_11 : decode cX4_release 11 = .ok (.aload_n 0, 1) := by decide +kernel
theorem dX4_release_12 : decode cX4_release 12 = .ok (.getfield 31, 3) := by decide +kernel
theorem dX4_release_15 : decode cX4_release 15 = .ok (.iload_n 2, 1) := by decide +kernel
theorem dX4_release_16 : decode cX4_release 16 = .ok (.aaload, 1) := by decide +kernel
theorem dX4_release_17 : decode cX4_release 17 = .ok (.aload_n 1, 1) := by decide +kernel
theorem dX4_release_18 : decode cX4_release 18 = .ok (.if_acmp .ne 15, 3) := by decide +kernel
theorem dX4_release_21 : decode cX4_release 21 = .ok (.aload_n 0, 1) := by decide +kernel
theorem dX4_release_22 : decode cX4_release 22 = .ok (.getfield 31, 3) := by decide +kernel
theorem dX4_release_25 : decode cX4_release 25 = .ok (.iload_n 2, 1) := by decide +kernel
theorem dX4_release_26 : decode cX4_release 26 = .ok (.aconst_null, 1) := by decide +kernel
theorem dX4_release_27 : decode cX4_release 27 = .ok (.aastore, 1) := by decide +kernel
theorem dX4_release_28 : decode cX4_release 28 = .ok (.aload_n 1, 1) := by decide +kernel
theorem dX4_release_29 : decode cX4_release 29 = .ok (.aconst_null, 1) := by decide +kernel
theorem dX4_release_30 : decode cX4_release 30 = .ok (.putfield 84, 3) := by decide +kernel
theorem dX4_release_33 : decode cX4_release 33 = .ok (.iinc 2 1, 3) := by decide +kernel
theorem dX4_release_36 : decode cX4_release 36 = .ok (.goto (-34), 3) := by decide +kernel
theorem dX4_release_39 : decode cX4_release 39 = .ok (.return_, 1) := by decide +kernel
theorem dX4_passHour_0 : decode cX4_passHour 0 = .ok (.aload_n 0, 1) := by decide +kernel
theorem dX4_passHour_1 : decode cX4_passHour 1 = .ok (.getfield 43, 3) := by decide +kernel
theorem dX4_passHour_4 : decode cX4_passHour 4 = .ok (.aload_n 0, 1) := by decide +kernel
theorem dX4_passHour_5 : decode cX4_passHour 5 = .ok (.getfield 13, 3) := by decide +kernel
theorem dX4_passHour_8 : decode cX4_passHour 8 = .ok (.aload_n 0, 1) := by decide +kernel
theorem dX4_passHour_9 : decode cX4_passHour 9 = .ok (.getfield 50, 3) := by decide +kernel
theorem dX4_passHour_12 : decode cX4_passHour 12 = .ok (.isub, 1) := by decide +kernel
theorem dX4_passHour_13 : decode cX4_passHour 13 = .ok (.aload_n 0, 1) := by decide +kernel
theorem dX4_passHour_14 : decode cX4_passHour 14 = .ok (.getfield 7, 3) := by decide +kernel
theorem dX4_passHour_17 : decode cX4_passHour 17 = .ok (.ifCond .eq 11, 3) := by decide +kernel
theorem dX4_passHour_20 : decode cX4_passHour 20 = .ok (.iload_n 2, 1) := by decide +kernel
theorem dX4_passHour_21 : decode cX4_passHour 21 = .ok (.ifCond .eq 7, 3) := by decide +kernel
theorem dX4_passHour_24 : decode cX4_passHour 24 = .ok (.iconst 1, 1) := by decide +kernel
theorem dX4_passHour_25 : decode cX4_passHour 25 = .ok (.goto 4, 3) := by decide +kernel
theorem dX4_passHour_28 : decode cX4_passHour 28 = .ok (.iconst 0, 1) := by decide +kernel
theorem dX4_passHour_29 : decode cX4_passHour 29 = .ok (.invokevirtual 88, 3) := by decide +kernel
theorem dX4_passHour_32 : decode cX4_passHour 32 = .ok (.iload_n 1, 1) := by decide +kernel
theorem dX4_passHour_33 : decode cX4_passHour 33 = .ok (.aload_n 0, 1) := by decide +kernel
theorem dX4_passHour_34 : decode cX4_passHour 34 = .ok (.getfield 13, 3) := by decide +kernel
theorem dX4_passHour_37 : decode cX4_passHour 37 = .ok (.isub, 1) := by decide +kernel
theorem dX4_passHour_38 : decode cX4_passHour 38 = .ok (.aload_n 0, 1) := by decide +kernel
theorem dX4_passHour_39 : decode cX4_passHour 39 = .ok (.getfield 35, 3) := by decide +kernel
theorem dX4_passHour_42 : decode cX4_passHour 42 = .ok (.imul, 1) := by decide +kernel
theorem dX4_passHour_43 : decode cX4_passHour 43 = .ok (.sipush 200, 3) := by decide +kernel
theorem dX4_passHour_46 : decode cX4_passHour 46 = .ok (.idiv, 1) := by decide +kernel
theorem dX4_passHour_47 : decode cX4_passHour 47 = .ok (.istore_n 3, 1) := by decide +kernel
theorem dX4_passHour_48 : decode cX4_passHour 48 = .ok (.iload_n 3, 1) := by decide +kernel
theorem dX4_passHour_49 : decode cX4_passHour 49 = .ok (.aload_n 0, 1) := by decide +kernel
theorem dX4_passHour_50 : decode cX4_passHour 50 = .ok (.invokevirtual 92, 3) := by decide +kernel
theorem dX4_passHour_53 : decode cX4_passHour 53 = .ok (.iadd, 1) := by decide +kernel
theorem dX4_passHour_54 : decode cX4_passHour 54 = .ok (.aload_n 0, 1) := by decide +kernel
theorem dX4_passHour_55 : decode cX4_passHour 55 = .ok (.getfield 43, 3) := by decide +kernel
theorem dX4_passHour_58 : decode cX4_passHour 58 = .ok (.invokevirtual 95, 3) := by decide +kernel
theorem dX4_passHour_61 : decode cX4_passHour 61 = .ok (.iadd, 1) := by decide +kernel
theorem dX4_passHour_62 : decode cX4_passHour 62 = .ok (.istore 4, 2) := by decide +kernel
theorem dX4_passHour_64 : decode cX4_passHour 64 = .ok (.aload_n 0, 1) := by decide +kernel
theorem dX4_passHour_65 : decode cX4_passHour 65 = .ok (.dup, 1) := by decide +kernel
theorem dX4_passHour_66 : decode cX4_passHour 66 = .ok (.getfield 13, 3) := by decide +kernel
theorem dX4_passHour_69 : decode cX4_passHour 69 = .ok (.iload 4, 2) := by decide +kernel
theorem dX4_passHour_71 : decode cX4_passHour 71 = .ok (.iadd, 1) := by decide +kernel
theorem dX4_passHour_72 : decode cX4_passHour 72 = .ok (.putfield 13, 3) := by decide +kernel
theorem dX4_passHour_75 : decode cX4_passHour 75 = .ok (.aload_n 0, 1) := by decide +kernel
theorem dX4_passHour_76 : decode cX4_passHour 76 = .ok (.getfield 43, 3) := by decide +kernel
theorem dX4_passHour_79 : decode cX4_passHour 79 = .ok (.invokevirtual 98, 3) := by decide +kernel
theorem dX4_passHour_82 : decode cX4_passHour 82 = .ok (.istore 5, 2) := by decide +kernel
theorem dX4_passHour_84 : decode cX4_passHour 84 = .ok (.aload_n 0, 1) := by decide +kernel
theorem dX4_passHour_85 : decode cX4_passHour 85 = .ok (.getfield 31, 3) := by decide +kernel
theorem dX4_passHour_88 : decode cX4_passHour 88 = .ok (.astore 6, 2) := by decide +kernel
theorem dX4_passHour_90 : decode cX4_passHour 90 = .ok (.aload 6, 2) := by decide +kernel
theorem dX4_passHour_92 : decode cX4_passHour 92 = .ok (.arraylength, 1) := by decide +kernel
theorem dX4_passHour_93 : decode cX4_passHour 93 = .ok (.istore 7, 2) := by decide +kernel
theorem dX4_passHour_95 : decode cX4_passHour 95 = .ok (.iconst 0, 1) := by decide +kernel
theorem dX4_passHour_96 : decode cX4_passHour 96 = .ok (.istore 8, 2) := by decide +kernel
theorem dX4_passHour_98 : decode cX4_passHour 98 = .ok (.iload 8, 2) := by decide +kernel
theorem dX4_passHour_100 : decode cX4_passHour 100 = .ok (.iload 7, 2) := by decide +kernel
theorem dX4_passHour_102 : decode cX4_passHour 102 = .ok (.if_icmp .ge 30, 3) := by decide +kernel
theorem dX4_passHour_105 : decode cX4_passHour 105 = .ok (.aload 6, 2) := by decide +kernel
theorem dX4_passHour_107 : decode cX4_passHour 107 = .ok (.iload 8, 2) := by decide +kernel
theorem dX4_passHour_109 : decode cX4_passHour 109 = .ok (.aaload, 1) := by decide +kernel
theorem dX4_passHour_110 : decode cX4_passHour 110 = .ok (.astore 9, 2) := by decide +kernel
theorem dX4_passHour_112 : decode cX4_passHour 112 = .ok (.aload 9, 2) := by decide +kernel
theorem dX4_passHour_114 : decode cX4_passHour 114 = .ok (.ifnull 12, 3) := by decide +kernel
theorem dX4_passHour_117 : decode cX4_passHour 117 = .ok (.aload 9, 2) := by decide +kernel
theorem dX4_passHour_119 : decode cX4_passHour 119 = .ok (.aload_n 0, 1) := by decide +kernel
theorem dX4_passHour_120 : decode cX4_passHour 120 = .ok (.getfield 13, 3) := by decide +kernel
theorem dX4_passHour_123 : decode cX4_passHour 123 = .ok (.invokevirtual 101, 3) := by decide +kernel
theorem dX4_passHour_126 : decode cX4_passHour 126 = .ok (.iinc 8 1, 3) := by decide +kernel
theorem dX4_passHour_129 : decode cX4_passHour 129 = .ok (.goto (-31), 3) := by decide +kernel
theorem dX4_passHour_132 : decode cX4_passHour 132 = .ok (.aload_n 0, 1) := by decide +kernel
theorem dX4_passHour_133 : decode cX4_passHour 133 = .ok (.getfield 13, 3) := by decide +kernel
theorem dX4_passHour_136 : decode cX4_passHour 136 = .ok (.aload_n 0, 1) := by decide +kernel
theorem dX4_passHour_137 : decode cX4_passHour 137 = .ok (.getfield 50, 3) := by decide +kernel
theorem dX4_passHour_140 : decode cX4_passHour 140 = .ok (.bipush 20, 2) := by decide +kernel
theorem dX4_passHour_142 : decode cX4_passHour 142 = .ok (.iadd, 1) := by decide +kernel
theorem dX4_passHour_143 : decode cX4_passHour 143 = .ok (.if_icmp .le 13, 3) := by decide +kernel
theorem dX4_passHour_146 : decode cX4_passHour 146 = .ok (.aload_n 0, 1) := by decide +kernel
theorem dX4_passHour_147 : decode cX4_passHour 147 = .ok (.dup, 1) := by decide +kernel
theorem dX4_passHour_148 : decode cX4_passHour 148 = .ok (.getfield 17, 3) := by decide +kernel
theorem dX4_passHour_151 : decode cX4_passHour 151 = .ok (.iconst 1, 1) := by decide +kernel
theorem dX4_passHour_152 : decode cX4_passHour 152 = .ok (.iadd, 1) := by decide +kernel
theorem dX4_passHour_153 : decode cX4_passHour 153 = .ok (.putfield 17, 3) := by decide +kernel
theorem dX4_passHour_156 : decode cX4_passHour 156 = .ok (.iload 5, 2) := by decide +kernel
theorem dX4_passHour_158 : decode cX4_passHour 158 = .ok (.ireturn, 1) := by decide +kernel
theorem dX4_warmthOfPallets_0 : decode cX4_warmthOfPallets 0 = .ok (.iconst 0, 1) := by decide +kernel
theorem dX4_warmthOfPallets_1 : decode cX4_warmthOfPallets 1 = .ok (.istore_n 1, 1) := by decide +kernel
theorem dX4_warmthOfPallets_2 : decode cX4_warmthOfPallets 2 = .ok (.aload_n 0, 1) := by decide +kernel
theorem dX4_warmthOfPallets_3 : decode cX4_warmthOfPallets 3 = .ok (.getfield 31, 3) := by decide +kernel
theorem dX4_warmthOfPallets_6 : decode cX4_warmthOfPallets 6 = .ok (.astore_n 2, 1) := by decide +kernel
theorem dX4_warmthOfPallets_7 : decode cX4_warmthOfPallets 7 = .ok (.aload_n 2, 1) := by decide +kernel
theorem dX4_warmthOfPallets_8 : decode cX4_warmthOfPallets 8 = .ok (.arraylength, 1) := by decide +kernel
theorem dX4_warmthOfPallets_9 : decode cX4_warmthOfPallets 9 = .ok (.istore_n 3, 1) := by decide +kernel
theorem dX4_warmthOfPallets_10 : decode cX4_warmthOfPallets 10 = .ok (.iconst 0, 1) := by decide +kernel
theorem dX4_warmthOfPallets_11 : decode cX4_warmthOfPallets 11 = .ok (.istore 4, 2) := by decide +kernel
theorem dX4_warmthOfPallets_13 : decode cX4_warmthOfPallets 13 = .ok (.iload 4, 2) := by decide +kernel
theorem dX4_warmthOfPallets_15 : decode cX4_warmthOfPallets 15 = .ok (.iload_n 3, 1) := by decide +kernel
theorem dX4_warmthOfPallets_16 : decode cX4_warmthOfPallets 16 = .ok (.if_icmp .ge 36, 3) := by decide +kernel
theorem dX4_warmthOfPallets_19 : decode cX4_warmthOfPallets 19 = .ok (.aload_n 2, 1) := by decide +kernel
theorem dX4_warmthOfPallets_20 : decode cX4_warmthOfPallets 20 = .ok (.iload 4, 2) := by decide +kernel
theorem dX4_warmthOfPallets_22 : decode cX4_warmthOfPallets 22 = .ok (.aaload, 1) := by decide +kernel
theorem dX4_warmthOfPallets_23 : decode cX4_warmthOfPallets 23 = .ok (.astore 5, 2) := by decide +kernel
theorem dX4_warmthOfPallets_25 : decode cX4_warmthOfPallets 25 = .ok (.aload 5, 2) := by decide +kernel
theorem dX4_warmthOfPallets_27 : decode cX4_warmthOfPallets 27 = .ok (.ifnull 19, 3) := by decide +kernel
theorem dX4_warmthOfPallets_30 : decode cX4_warmthOfPallets 30 = .ok (.iload_n 1, 1) := by decide +kernel
theorem dX4_warmthOfPallets_31 : decode cX4_warmthOfPallets 31 = .ok (.aload 5, 2) := by decide +kernel
theorem dX4_warmthOfPallets_33 : decode cX4_warmthOfPallets 33 = .ok (.getfield 104, 3) := by decide +kernel
theorem dX4_warmthOfPallets_36 : decode cX4_warmthOfPallets 36 = .ok (.aload_n 0, 1) := by decide +kernel
theorem dX4_warmthOfPallets_37 : decode cX4_warmthOfPallets 37 = .ok (.getfield 13, 3) := by decide +kernel
theorem dX4_warmthOfPallets_40 : decode cX4_warmthOfPallets 40 = .ok (.isub, 1) := by decide +kernel
theorem dX4_warmthOfPallets_41 : decode cX4_warmthOfPallets 41 = .ok (.bipush 40, 2) := by decide +kernel
theorem dX4_warmthOfPallets_43 : decode cX4_warmthOfPallets 43 = .ok (.idiv, 1) := by decide +kernel
theorem dX4_warmthOfPallets_44 : decode cX4_warmthOfPallets 44 = .ok (.iadd, 1) := by decide +kernel
theorem dX4_warmthOfPallets_45 : decode cX4_warmthOfPallets 45 = .ok (.istore_n 1, 1) := by decide +kernel
theorem dX4_warmthOfPallets_46 : decode cX4_warmthOfPallets 46 = .ok (.iinc 4 1, 3) := by decide +kernel
theorem dX4_warmthOfPallets_49 : decode cX4_warmthOfPallets 49 = .ok (.goto (-36), 3) := by decide +kernel
theorem dX4_warmthOfPallets_52 : decode cX4_warmthOfPallets 52 = .ok (.iload_n 1, 1) := by decide +kernel
theorem dX4_warmthOfPallets_53 : decode cX4_warmthOfPallets 53 = .ok (.ireturn, 1) := by decide +kernel
theorem dX5_init_0 : decode cX5_init 0 = .ok (.aload_n 0, 1) := by decide +kernel
theorem dX5_init_1 : decode cX5_init 1 = .ok (.invokespecial 3, 3) := by decide +kernel
theorem dX5_init_4 : decode cX5_init 4 = .ok (.aload_n 0, 1) := by decide +kernel
theorem dX5_init_5 : decode cX5_init 5 = .ok (.bipush 24, 2) := by decide +kernel
theorem dX5_init_7 : decode cX5_init 7 = .ok (.newarray .int, 2) := by decide +kernel
theorem dX5_init_9 : decode cX5_init 9 = .ok (.putfield 9, 3) := by decide +kernel
theorem dX5_init_12 : decode cX5_init 12 = .ok (.aload_n 0, 1) := by decide +kernel
theorem dX5_init_13 : decode cX5_init 13 = .ok (.bipush 10, 2) := by decide +kernel
theorem dX5_init_15 : decode cX5_init 15 = .ok (.putfield 15, 3) := by decide +kernel
theorem dX5_init_18 : decode cX5_init 18 = .ok (.iconst 0, 1) := by decide +kernel
theorem dX5_init_19 : decode cX5_init 19 = .ok (.istore_n 1, 1) := by decide +kernel
theorem dX5_init_20 : decode cX5_init 20 = .ok (.iload_n 1, 1) := by decide +kernel
theorem dX5_init_21 : decode cX5_init 21 = .ok (.aload_n 0, 1) := by decide +kernel
theorem dX5_init_22 : decode cX5_init 22 = .ok (.getfield 9, 3) := by decide +kernel
theorem dX5_init_25 : decode cX5_init 25 = .ok (.arraylength, 1) := by decide +kernel
theorem dX5_init_26 : decode cX5_init 26 = .ok (.if_icmp .ge 19, 3) := by decide +kernel
theorem dX5_init_29 : decode cX5_init 29 = .ok (.aload_n 0, 1) := by decide +kernel
theorem dX5_init_30 : decode cX5_init 30 = .ok (.getfield 9, 3) := by decide +kernel
theorem dX5_init_33 : decode cX5_init 33 = .ok (.iload_n 1, 1) := by decide +kernel
theorem dX5_init_34 : decode cX5_init 34 = .ok (.aload_n 0, 1) := by decide +kernel
theorem dX5_init_35 : decode cX5_init 35 = .ok (.getfield 15, 3) := by decide +kernel
theorem dX5_init_38 : decode cX5_init 38 = .ok (.iastore, 1) := by decide +kernel
theorem dX5_init_39 : decode cX5_init 39 = .ok (.iinc 1 1, 3) := by decide +kernel
theorem dX5_init_42 : decode cX5_init 42 = .ok (.goto (-22), 3) := by decide +kernel
theorem dX5_init_45 : decode cX5_init 45 = .ok (.return_, 1) := by decide +kernel
theorem dX5_charge_0 : decode cX5_charge 0 = .ok (.aload_n 0, 1) := by decide +kernel
theorem dX5_charge_1 : decode cX5_charge 1 = .ok (.iload_n 3, 1) := by decide +kernel
theorem dX5_charge_2 : decode cX5_charge 2 = .ok (.putfield 15, 3) := by decide +kernel
theorem dX5_charge_5 : decode cX5_charge 5 = .ok (.iconst 0, 1) := by decide +kernel
theorem dX5_charge_6 : decode cX5_charge 6 = .ok (.istore 4, 2) := by decide +kernel
theorem dX5_charge_8 : decode cX5_charge 8 = .ok (.iload 4, 2) := by decide +kernel
theorem dX5_charge_10 : decode cX5_charge 10 = .ok (.aload_n 0, 1) := by decide +kernel
theorem dX5_charge_11 : decode cX5_charge 11 = .ok (.getfield 9, 3) := by decide +kernel
theorem dX5_charge_14 : decode cX5_charge 14 = .ok (.arraylength, 1) := by decide +kernel
theorem dX5_charge_15 : decode cX5_charge 15 = .ok (.if_icmp .ge 47, 3) := by decide +kernel
theorem dX5_charge_18 : decode cX5_charge 18 = .ok (.iload 4, 2) := by decide +kernel
theorem dX5_charge_20 : decode cX5_charge 20 = .ok (.iload_n 1, 1) := by decide +kernel
theorem dX5_charge_21 : decode cX5_charge 21 = .ok (.if_icmp .lt 17, 3) := by decide +kernel
theorem dX5_charge_24 : decode cX5_charge 24 = .ok (.iload 4, 2) := by decide +kernel
theorem dX5_charge_26 : decode cX5_charge 26 = .ok (.iload_n 2, 1) := by decide +kernel
theorem dX5_charge_27 : decode cX5_charge 27 = .ok (.if_icmp .gt 11, 3) := by decide +kernel
theorem dX5_charge_30 : decode cX5_charge 30 = .ok (.aload_n 0, 1) := by decide +kernel
theorem dX5_charge_31 : decode cX5_charge 31 = .ok (.getfield 9, 3) := by decide +kernel
theorem dX5_charge_34 : decode cX5_charge 34 = .ok (.iload 4, 2) := by decide +kernel
theorem dX5_charge_36 : decode cX5_charge 36 = .ok (.iload_n 3, 1) := by decide +kernel
theorem dX5_charge_37 : decode cX5_charge 37 = .ok (.iastore, 1) := by decide +kernel
theorem dX5_charge_38 : decode cX5_charge 38 = .ok (.aload_n 0, 1) := by decide +kernel
theorem dX5_charge_39 : decode cX5_charge 39 = .ok (.aload_n 0, 1) := by decide +kernel
theorem dX5_charge_40 : decode cX5_charge 40 = .ok (.getfield 15, 3) := by decide +kernel
theorem dX5_charge_43 : decode cX5_charge 43 = .ok (.aload_n 0, 1) := by decide +kernel
theorem dX5_charge_44 : decode cX5_charge 44 = .ok (.getfield 9, 3) := by decide +kernel
theorem dX5_charge_47 : decode cX5_charge 47 = .ok (.iload 4, 2) := by decide +kernel
theorem dX5_charge_49 : decode cX5_charge 49 = .ok (.iaload, 1) := by decide +kernel
theorem dX5_charge_50 : decode cX5_charge 50 = .ok (.invokestatic 19, 3) := by decide +kernel
theorem dX5_charge_53 : decode cX5_charge 53 = .ok (.putfield 15, 3) := by decide +kernel
theorem dX5_charge_56 : decode cX5_charge 56 = .ok (.iinc 4 1, 3) := by decide +kernel
theorem dX5_charge_59 : decode cX5_charge 59 = .ok (.goto (-51), 3) := by decide +kernel
theorem dX5_charge_62 : decode cX5_charge 62 = .ok (.return_, 1) := by decide +kernel
theorem dX5_priceAt_0 : decode cX5_priceAt 0 = .ok (.iload_n 1, 1) := by decide +kernel
theorem dX5_priceAt_1 : decode cX5_priceAt 1 = .ok (.bipush 24, 2) := by decide +kernel
theorem dX5_priceAt_3 : decode cX5_priceAt 3 = .ok (.invokestatic 25, 3) := by decide +kernel
theorem dX5_priceAt_6 : decode cX5_priceAt 6 = .ok (.istore_n 2, 1) := by decide +kernel
theorem dX5_priceAt_7 : decode cX5_priceAt 7 = .ok (.iload_n 2, 1) := by decide +kernel
theorem dX5_priceAt_8 : decode cX5_priceAt 8 = .ok (.ifCond .lt 21, 3) := by decide +kernel
theorem dX5_priceAt_11 : decode cX5_priceAt 11 = .ok (.iload_n 2, 1) := by decide +kernel
theorem dX5_priceAt_12 : decode cX5_priceAt 12 = .ok (.aload_n 0, 1) := by decide +kernel
theorem dX5_priceAt_13 : decode cX5_priceAt 13 = .ok (.getfield 9, 3) := by decide +kernel
theorem dX5_priceAt_16 : decode cX5_priceAt 16 = .ok (.arraylength, 1) := by decide +kernel
theorem dX5_priceAt_17 : decode cX5_priceAt 17 = .ok (.if_icmp .ge 12, 3) := by decide +kernel
theorem dX5_priceAt_20 : decode cX5_priceAt 20 = .ok (.aload_n 0, 1) := by decide +kernel
theorem dX5_priceAt_21 : decode cX5_priceAt 21 = .ok (.getfield 9, 3) := by decide +kernel
theorem dX5_priceAt_24 : decode cX5_priceAt 24 = .ok (.iload_n 2, 1) := by decide +kernel
theorem dX5_priceAt_25 : decode cX5_priceAt 25 = .ok (.iaload, 1) := by decide +kernel
theorem dX5_priceAt_26 : decode cX5_priceAt 26 = .ok (.goto 7, 3) := by decide +kernel
theorem dX5_priceAt_29 : decode cX5_priceAt 29 = .ok (.aload_n 0, 1) := by decide +kernel
theorem dX5_priceAt_30 : decode cX5_priceAt 30 = .ok (.getfield 15, 3) := by decide +kernel
theorem dX5_priceAt_33 : decode cX5_priceAt 33 = .ok (.ireturn, 1) := by decide +kernel
theorem dX5_isLowestAt_0 : decode cX5_isLowestAt 0 = .ok (.aload_n 0, 1) := by decide +kernel
theorem dX5_isLowestAt_1 : decode cX5_isLowestAt 1 = .ok (.iload_n 1, 1) := by decide +kernel
theorem dX5_isLowestAt_2 : decode cX5_isLowestAt 2 = .ok (.invokevirtual 28, 3) := by decide +kernel
theorem dX5_isLowestAt_5 : decode cX5_isLowestAt 5 = .ok (.aload_n 0, 1) := by decide +kernel
theorem dX5_isLowestAt_6 : decode cX5_isLowestAt 6 = .ok (.getfield 15, 3) := by decide +kernel
theorem dX5_isLowestAt_9 : decode cX5_isLowestAt 9 = .ok (.if_icmp .ne 7, 3) := by decide +kernel
theorem dX5_isLowestAt_12 : decode cX5_isLowestAt 12 = .ok (.iconst 1, 1) := by decide +kernel
theorem dX5_isLowestAt_13 : decode cX5_isLowestAt 13 = .ok (.goto 4, 3) := by decide +kernel
theorem dX5_isLowestAt_16 : decode cX5_isLowestAt 16 = .ok (.iconst 0, 1) := by decide +kernel
theorem dX5_isLowestAt_17 : decode cX5_isLowestAt 17 = .ok (.ireturn, 1) := by decide +kernel
theorem dX6_init_0 : decode cX6_init 0 = .ok (.aload_n 0, 1) := by decide +kernel
theorem dX6_init_1 : decode cX6_init 1 = .ok (.invokespecial 1, 3) := by decide +kernel
theorem dX6_init_4 : decode cX6_init 4 = .ok (.aload_n 0, 1) := by decide +kernel
theorem dX6_init_5 : decode cX6_init 5 = .ok (.new 7, 3) := by decide +kernel
theorem dX6_init_8 : decode cX6_init 8 = .ok (.dup, 1) := by decide +kernel
theorem dX6_init_9 : decode cX6_init 9 = .ok (.invokespecial 9, 3) := by decide +kernel
theorem dX6_init_12 : decode cX6_init 12 = .ok (.putfield 10, 3) := by decide +kernel
theorem dX6_init_15 : decode cX6_init 15 = .ok (.aload_n 0, 1) := by decide +kernel
theorem dX6_init_16 : decode cX6_init 16 = .ok (.new 16, 3) := by decide +kernel
theorem dX6_init_19 : decode cX6_init 19 = .ok (.dup, 1) := by decide +kernel
theorem dX6_init_20 : decode cX6_init 20 = .ok (.invokespecial 18, 3) := by decide +kernel
theorem dX6_init_23 : decode cX6_init 23 = .ok (.putfield 19, 3) := by decide +kernel
theorem dX6_init_26 : decode cX6_init 26 = .ok (.aload_n 0, 1) := by decide +kernel
theorem dX6_init_27 : decode cX6_init 27 = .ok (.bipush 12, 2) := by decide +kernel
theorem dX6_init_29 : decode cX6_init 29 = .ok (.anewarray 23, 3) := by decide +kernel
theorem dX6_init_32 : decode cX6_init 32 = .ok (.putfield 25, 3) := by decide +kernel
theorem dX6_init_35 : decode cX6_init 35 = .ok (.aload_n 0, 1) := by decide +kernel
theorem dX6_init_36 : decode cX6_init 36 = .ok (.bipush 6, 2) := by decide +kernel
theorem dX6_init_38 : decode cX6_init 38 = .ok (.anewarray 29, 3) := by decide +kernel
theorem dX6_init_41 : decode cX6_init 41 = .ok (.putfield 31, 3) := by decide +kernel
theorem dX6_init_44 : decode cX6_init 44 = .ok (.aload_n 0, 1) := by decide +kernel
theorem dX6_init_45 : decode cX6_init 45 = .ok (.bipush 60, 2) := by decide +kernel
theorem dX6_init_47 : decode cX6_init 47 = .ok (.anewarray 35, 3) := by decide +kernel
theorem dX6_init_50 : decode cX6_init 50 = .ok (.putfield 37, 3) := by decide +kernel
theorem dX6_init_53 : decode cX6_init 53 = .ok (.aload_n 0, 1) := by decide +kernel
theorem dX6_init_54 : decode cX6_init 54 = .ok (.iconst 0, 1) := by decide +kernel
theorem dX6_init_55 : decode cX6_init 55 = .ok (.putfield 41, 3) := by decide +kernel
theorem dX6_init_58 : decode cX6_init 58 = .ok (.aload_n 0, 1) := by decide +kernel
theorem dX6_init_59 : decode cX6_init 59 = .ok (.iconst 0, 1) := by decide +kernel
theorem dX6_init_60 : decode cX6_init 60 = .ok (.putfield 45, 3) := by decide +kernel
theorem dX6_init_63 : decode cX6_init 63 = .ok (.aload_n 0, 1) := by decide +kernel
theorem dX6_init_64 : decode cX6_init 64 = .ok (.iconst 0, 1) := by decide +kernel
theorem dX6_init_65 : decode cX6_init 65 = .ok (.putfield 48, 3) := by decide +kernel
theorem dX6_init_68 : decode cX6_init 68 = .ok (.aload_n 0, 1) := by decide +kernel
theorem dX6_init_69 : decode cX6_init 69 = .ok (.iconst 0, 1) := by decide +kernel
theorem dX6_init_70 : decode cX6_init 70 = .ok (.putfield 51, 3) := by decide +kernel
theorem dX6_init_73 : decode cX6_init 73 = .ok (.aload_n 0, 1) := by decide +kernel
theorem dX6_init_74 : decode cX6_init 74 = .ok (.iconst 0, 1) := by decide +kernel
theorem dX6_init_75 : decode cX6_init 75 = .ok (.putfield 54, 3) := by decide +kernel
theorem dX6_init_78 : decode cX6_init 78 = .ok (.aload_n 0, 1) := by decide +kernel
theorem dX6_init_79 : decode cX6_init 79 = .ok (.lconst 0, 1) := by decide +kernel
theorem dX6_init_80 : decode cX6_init 80 = .ok (.putfield 57, 3) := by decide +kernel
theorem dX6_init_83 : decode cX6_init 83 = .ok (.return_, 1) := by decide +kernel
theorem dX6_setOutside_0 : decode cX6_setOutside 0 = .ok (.iload_n 1, 1) := by decide +kernel
theorem dX6_setOutside_1 : decode cX6_setOutside 1 = .ok (.sipush (-300), 3) := by decide +kernel
theorem dX6_setOutside_4 : decode cX6_setOutside 4 = .ok (.sipush 400, 3) := by decide +kernel
theorem dX6_setOutside_7 : decode cX6_setOutside 7 = .ok (.invokestatic 61, 3) := by decide +kernel
theorem dX6_setOutside_10 : decode cX6_setOutside 10 = .ok (.iload_n 2, 1) := by decide +kernel
theorem dX6_setOutside_11 : decode cX6_setOutside 11 = .ok (.iconst 0, 1) := by decide +kernel
theorem dX6_setOutside_12 : decode cX6_setOutside 12 = .ok (.sipush 200, 3) := by decide +kernel
theorem dX6_setOutside_15 : decode cX6_setOutside 15 = .ok (.invokestatic 61, 3) := by decide +kernel
theorem dX6_setOutside_18 : decode cX6_setOutside 18 = .ok (.aload_n 0, 1) := by decide +kernel
theorem dX6_setOutside_19 : decode cX6_setOutside 19 = .ok (.getfield 10, 3) := by decide +kernel
theorem dX6_setOutside_22 : decode cX6_setOutside 22 = .ok (.iload_n 1, 1) := by decide +kernel
theorem dX6_setOutside_23 : decode cX6_setOutside 23 = .ok (.putfield 65, 3) := by decide +kernel
theorem dX6_setOutside_26 : decode cX6_setOutside 26 = .ok (.aload_n 0, 1) := by decide +kernel
theorem dX6_setOutside_27 : decode cX6_setOutside 27 = .ok (.getfield 10, 3) := by decide +kernel
theorem dX6_setOutside_30 : decode cX6_setOutside 30 = .ok (.iload_n 2, 1) := by decide +kernel
theorem dX6_setOutside_31 : decode cX6_setOutside 31 = .ok (.putfield 68, 3) := by decide +kernel
theorem dX6_setOutside_34 : decode cX6_setOutside 34 = .ok (.aload_n 0, 1) := by decide +kernel
theorem dX6_setOutside_35 : decode cX6_setOutside 35 = .ok (.getfield 10, 3) := by decide +kernel
theorem dX6_setOutside_38 : decode cX6_setOutside 38 = .ok (.aload_n 0, 1) := by decide +kernel
theorem dX6_setOutside_39 : decode cX6_setOutside 39 = .ok (.getfield 54, 3) := by decide +kernel
theorem dX6_setOutside_42 : decode cX6_setOutside 42 = .ok (.invokevirtual 71, 3) := by decide +kernel
theorem dX6_setOutside_45 : decode cX6_setOutside 45 = .ok (.ireturn, 1) := by decide +kernel
theorem dX6_setPrice_0 : decode cX6_setPrice 0 = .ok (.iload_n 1, 1) := by decide +kernel
theorem dX6_setPrice_1 : decode cX6_setPrice 1 = .ok (.iconst 0, 1) := by decide +kernel
theorem dX6_setPrice_2 : decode cX6_setPrice 2 = .ok (.iload_n 2, 1) := by decide +kernel
theorem dX6_setPrice_3 : decode cX6_setPrice 3 = .ok (.invokestatic 61, 3) := by decide +kernel
theorem dX6_setPrice_6 : decode cX6_setPrice 6 = .ok (.iload_n 2, 1) := by decide +kernel
theorem dX6_setPrice_7 : decode cX6_setPrice 7 = .ok (.iload_n 1, 1) := by decide +kernel
theorem dX6_setPrice_8 : decode cX6_setPrice 8 = .ok (.bipush 23, 2) := by decide +kernel
theorem dX6_setPrice_10 : decode cX6_setPrice 10 = .ok (.invokestatic 61, 3) := by decide +kernel
theorem dX6_setPrice_13 : decode cX6_setPrice 13 = .ok (.iload_n 3, 1) := by decide +kernel
theorem dX6_setPrice_14 : decode cX6_setPrice 14 = .ok (.iconst 1, 1) := by decide +kernel
theorem dX6_setPrice_15 : decode cX6_setPrice 15 = .ok (.bipush 100, 2) := by decide +kernel
theorem dX6_setPrice_17 : decode cX6_setPrice 17 = .ok (.invokestatic 61, 3) := by decide +kernel
theorem dX6_setPrice_20 : decode cX6_setPrice 20 = .ok (.aload_n 0, 1) := by decide +kernel
theorem dX6_setPrice_21 : decode cX6_setPrice 21 = .ok (.getfield 19, 3) := by decide +kernel
theorem dX6_setPrice_24 : decode cX6_setPrice 24 = .ok (.iload_n 1, 1) := by decide +kernel
theorem dX6_setPrice_25 : decode cX6_setPrice 25 = .ok (.iload_n 2, 1) := by decide +kernel
theorem dX6_setPrice_26 : decode cX6_setPrice 26 = .ok (.iload_n 3, 1) := by decide +kernel
theorem dX6_setPrice_27 : decode cX6_setPrice 27 = .ok (.invokevirtual 75, 3) := by decide +kernel
theorem dX6_setPrice_30 : decode cX6_setPrice 30 = .ok (.aload_n 0, 1) := by decide +kernel
theorem dX6_setPrice_31 : decode cX6_setPrice 31 = .ok (.getfield 19, 3) := by decide +kernel
theorem dX6_setPrice_34 : decode cX6_setPrice 34 = .ok (.getfield 78, 3) := by decide +kernel
theorem dX6_setPrice_37 : decode cX6_setPrice 37 = .ok (.ireturn, 1) := by decide +kernel
theorem dX6_addProduct_0 : decode cX6_addProduct 0 = .ok (.iload_n 1, 1) := by decide +kernel
theorem dX6_addProduct_1 : decode cX6_addProduct 1 = .ok (.sipush (-300), 3) := by decide +kernel
theorem dX6_addProduct_4 : decode cX6_addProduct 4 = .ok (.sipush 200, 3) := by decide +kernel
theorem dX6_addProduct_7 : decode cX6_addProduct 7 = .ok (.invokestatic 61, 3) := by decide +kernel
theorem dX6_addProduct_10 : decode cX6_addProduct 10 = .ok (.iload_n 2, 1) := by decide +kernel
theorem dX6_addProduct_11 : decode cX6_addProduct 11 = .ok (.iload_n 1, 1) := by decide +kernel
theorem dX6_addProduct_12 : decode cX6_addProduct 12 = .ok (.sipush 200, 3) := by decide +kernel
theorem dX6_addProduct_15 : decode cX6_addProduct 15 = .ok (.invokestatic 61, 3) := by decide +kernel
theorem dX6_addProduct_18 : decode cX6_addProduct 18 = .ok (.iload_n 3, 1) := by decide +kernel
theorem dX6_addProduct_19 : decode cX6_addProduct 19 = .ok (.bipush 10, 2) := by decide +kernel
theorem dX6_addProduct_21 : decode cX6_addProduct 21 = .ok (.sipush 5000, 3) := by decide +kernel
theorem dX6_addProduct_24 : decode cX6_addProduct 24 = .ok (.invokestatic 61, 3) := by decide +kernel
theorem dX6_addProduct_27 : decode cX6_addProduct 27 = .ok (.iload 4, 2) := by decide +kernel
theorem dX6_addProduct_29 : decode cX6_addProduct 29 = .ok (.iconst 0, 1) := by decide +kernel
theorem dX6_addProduct_30 : decode cX6_addProduct 30 = .ok (.iconst 3, 1) := by decide +kernel
theorem dX6_addProduct_31 : decode cX6_addProduct 31 = .ok (.invokestatic 61, 3) := by decide +kernel
theorem dX6_addProduct_34 : decode cX6_addProduct 34 = .ok (.aload_n 0, 1) := by decide +kernel
theorem dX6_addProduct_35 : decode cX6_addProduct 35 = .ok (.getfield 41, 3) := by decide +kernel
theorem dX6_addProduct_38 : decode cX6_addProduct 38 = .ok (.aload_n 0, 1) := by decide +kernel
theorem dX6_addProduct_39 : decode cX6_addProduct 39 = .ok (.getfield 25, 3) := by decide +kernel
theorem dX6_addProduct_42 : decode cX6_addProduct 42 = .ok (.arraylength, 1) := by decide +kernel
theorem dX6_addProduct_43 : decode cX6_addProduct 43 = .ok (.if_icmp .lt 13, 3) := by decide +kernel
theorem dX6_addProduct_46 : decode cX6_addProduct 46 = .ok (.new 81, 3) := by decide +kernel
theorem dX6_addProduct_49 : decode cX6_addProduct 49 = .ok (.dup, 1) := by decide +kernel
theorem dX6_addProduct_50 : decode cX6_addProduct 50 = .ok (.ldc 83, 2) := by decide +kernel
theorem dX6_addProduct_52 : decode cX6_addProduct 52 = .ok (.invokespecial 85, 3) := by decide +kernel
theorem dX6_addProduct_55 : decode cX6_addProduct 55 = .ok (.athrow, 1) := by decide +kernel
theorem dX6_addProduct_56 : decode cX6_addProduct 56 = .ok (.aload_n 0, 1) := by decide +kernel
theorem dX6_addProduct_57 : decode cX6_addProduct 57 = .ok (.getfield 25, 3) := by decide +kernel
theorem dX6_addProduct_60 : decode cX6_addProduct 60 = .ok (.aload_n 0, 1) := by decide +kernel
theorem dX6_addProduct_61 : decode cX6_addProduct 61 = .ok (.getfield 41, 3) := by decide +kernel
theorem dX6_addProduct_64 : decode cX6_addProduct 64 = .ok (.new 23, 3) := by decide +kernel
theorem dX6_addProduct_67 : decode cX6_addProduct 67 = .ok (.dup, 1) := by decide +kernel
theorem dX6_addProduct_68 : decode cX6_addProduct 68 = .ok (.aload_n 0, 1) := by decide +kernel
theorem dX6_addProduct_69 : decode cX6_addProduct 69 = .ok (.getfield 41, 3) := by decide +kernel
theorem dX6_addProduct_72 : decode cX6_addProduct 72 = .ok (.iload_n 1, 1) := by decide +kernel
theorem dX6_addProduct_73 : decode cX6_addProduct 73 = .ok (.iload_n 2, 1) := by decide +kernel
theorem dX6_addProduct_74 : decode cX6_addProduct 74 = .ok (.iload_n 3, 1) := by decide +kernel
theorem dX6_addProduct_75 : decode cX6_addProduct 75 = .ok (.iload 4, 2) := by decide +kernel
theorem dX6_addProduct_77 : decode cX6_addProduct 77 = .ok (.invokespecial 88, 3) := by decide +kernel
theorem dX6_addProduct_80 : decode cX6_addProduct 80 = .ok (.aastore, 1) := by decide +kernel
theorem dX6_addProduct_81 : decode cX6_addProduct 81 = .ok (.aload_n 0, 1) := by decide +kernel
theorem dX6_addProduct_82 : decode cX6_addProduct 82 = .ok (.dup, 1) := by decide +kernel
theorem dX6_addProduct_83 : decode cX6_addProduct 83 = .ok (.getfield 41, 3) := by decide +kernel
theorem dX6_addProduct_86 : decode cX6_addProduct 86 = .ok (.dup_x1, 1) := by decide +kernel
theorem dX6_addProduct_87 : decode cX6_addProduct 87 = .ok (.iconst 1, 1) := by decide +kernel
theorem dX6_addProduct_88 : decode cX6_addProduct 88 = .ok (.iadd, 1) := by decide +kernel
theorem dX6_addProduct_89 : decode cX6_addProduct 89 = .ok (.putfield 41, 3) := by decide +kernel
theorem dX6_addProduct_92 : decode cX6_addProduct 92 = .ok (.ireturn, 1) := by decide +kernel
theorem dX6_addRoom_0 : decode cX6_addRoom 0 = .ok (.iload_n 1, 1) := by decide +kernel
theorem dX6_addRoom_1 : decode cX6_addRoom 1 = .ok (.iconst 1, 1) := by decide +kernel
theorem dX6_addRoom_2 : decode cX6_addRoom 2 = .ok (.bipush 20, 2) := by decide +kernel
theorem dX6_addRoom_4 : decode cX6_addRoom 4 = .ok (.invokestatic 61, 3) := by decide +kernel
theorem dX6_addRoom_7 : decode cX6_addRoom 7 = .ok (.iload_n 2, 1) := by decide +kernel
theorem dX6_addRoom_8 : decode cX6_addRoom 8 = .ok (.iconst 1, 1) := by decide +kernel
theorem dX6_addRoom_9 : decode cX6_addRoom 9 = .ok (.bipush 20, 2) := by decide +kernel
theorem dX6_addRoom_11 : decode cX6_addRoom 11 = .ok (.invokestatic 61, 3) := by decide +kernel
theorem dX6_addRoom_14 : decode cX6_addRoom 14 = .ok (.iload_n 3, 1) := by decide +kernel
theorem dX6_addRoom_15 : decode cX6_addRoom 15 = .ok (.iconst 0, 1) := by decide +kernel
theorem dX6_addRoom_16 : decode cX6_addRoom 16 = .ok (.sipush 200, 3) := by decide +kernel
theorem dX6_addRoom_19 : decode cX6_addRoom 19 = .ok (.invokestatic 61, 3) := by decide +kernel
theorem dX6_addRoom_22 : decode cX6_addRoom 22 = .ok (.iload 4, 2) := by decide +kernel
theorem dX6_addRoom_24 : decode cX6_addRoom 24 = .ok (.sipush (-300), 3) := by decide +kernel
theorem dX6_addRoom_27 : decode cX6_addRoom 27 = .ok (.sipush 150, 3) := by decide +kernel
theorem dX6_addRoom_30 : decode cX6_addRoom 30 = .ok (.invokestatic 61, 3) := by decide +kernel
theorem dX6_addRoom_33 : decode cX6_addRoom 33 = .ok (.aload_n 0, 1) := by decide +kernel
theorem dX6_addRoom_34 : decode cX6_addRoom 34 = .ok (.getfield 45, 3) := by decide +kernel
theorem dX6_addRoom_37 : decode cX6_addRoom 37 = .ok (.aload_n 0, 1) := by decide +kernel
theorem dX6_addRoom_38 : decode cX6_addRoom 38 = .ok (.getfield 31, 3) := by decide +kernel
theorem dX6_addRoom_41 : decode cX6_addRoom 41 = .ok (.arraylength, 1) := by decide +kernel
theorem dX6_addRoom_42 : decode cX6_addRoom 42 = .ok (.if_icmp .lt 13, 3) := by decide +kernel
theorem dX6_addRoom_45 : decode cX6_addRoom 45 = .ok (.new 81, 3) := by decide +kernel
theorem dX6_addRoom_48 : decode cX6_addRoom 48 = .ok (.dup, 1) := by decide +kernel
theorem dX6_addRoom_49 : decode cX6_addRoom 49 = .ok (.ldc 91, 2) := by decide +kernel
theorem dX6_addRoom_51 : decode cX6_addRoom 51 = .ok (.invokespecial 85, 3) := by decide +kernel
theorem dX6_addRoom_54 : decode cX6_addRoom 54 = .ok (.athrow, 1) := by decide +kernel
theorem dX6_addRoom_55 : decode cX6_addRoom 55 = .ok (.aload_n 0, 1) := by decide +kernel
theorem dX6_addRoom_56 : decode cX6_addRoom 56 = .ok (.getfield 31, 3) := by decide +kernel
theorem dX6_addRoom_59 : decode cX6_addRoom 59 = .ok (.aload_n 0, 1) := by decide +kernel
theorem dX6_addRoom_60 : decode cX6_addRoom 60 = .ok (.getfield 45, 3) := by decide +kernel
theorem dX6_addRoom_63 : decode cX6_addRoom 63 = .ok (.new 29, 3) := by decide +kernel
theorem dX6_addRoom_66 : decode cX6_addRoom 66 = .ok (.dup, 1) := by decide +kernel
theorem dX6_addRoom_67 : decode cX6_addRoom 67 = .ok (.aload_n 0, 1) := by decide +kernel
theorem dX6_addRoom_68 : decode cX6_addRoom 68 = .ok (.getfield 45, 3) := by decide +kernel
theorem dX6_addRoom_71 : decode cX6_addRoom 71 = .ok (.iload_n 1, 1) := by decide +kernel
theorem dX6_addRoom_72 : decode cX6_addRoom 72 = .ok (.iload_n 2, 1) := by decide +kernel
theorem dX6_addRoom_73 : decode cX6_addRoom 73 = .ok (.iload_n 3, 1) := by decide +kernel
theorem dX6_addRoom_74 : decode cX6_addRoom 74 = .ok (.iload 4, 2) := by decide +kernel
theorem dX6_addRoom_76 : decode cX6_addRoom 76 = .ok (.invokespecial 93, 3) := by decide +kernel
theorem dX6_addRoom_79 : decode cX6_addRoom 79 = .ok (.aastore, 1) := by decide +kernel
theorem dX6_addRoom_80 : decode cX6_addRoom 80 = .ok (.aload_n 0, 1) := by decide +kernel
theorem dX6_addRoom_81 : decode cX6_addRoom 81 = .ok (.dup, 1) := by decide +kernel
theorem dX6_addRoom_82 : decode cX6_addRoom 82 = .ok (.getfield 45, 3) := by decide +kernel
theorem dX6_addRoom_85 : decode cX6_addRoom 85 = .ok (.dup_x1, 1) := by decide +kernel
theorem dX6_addRoom_86 : decode cX6_addRoom 86 = .ok (.iconst 1, 1) := by decide +kernel
theorem dX6_addRoom_87 : decode cX6_addRoom 87 = .ok (.iadd, 1) := by decide +kernel
theorem dX6_addRoom_88 : decode cX6_addRoom 88 = .ok (.putfield 45, 3) := by decide +kernel
theorem dX6_addRoom_91 : decode cX6_addRoom 91 = .ok (.ireturn, 1) := by decide +kernel
theorem dX6_setRoom_0 : decode cX6_setRoom 0 = .ok (.aload_n 0, 1) := by decide +kernel
theorem dX6_setRoom_1 : decode cX6_setRoom 1 = .ok (.iload_n 1, 1) := by decide +kernel
theorem dX6_setRoom_2 : decode cX6_setRoom 2 = .ok (.invokevirtual 94, 3) := by decide +kernel
theorem dX6_setRoom_5 : decode cX6_setRoom 5 = .ok (.astore 4, 2) := by decide +kernel
theorem dX6_setRoom_7 : decode cX6_setRoom 7 = .ok (.iload_n 2, 1) := by decide +kernel
theorem dX6_setRoom_8 : decode cX6_setRoom 8 = .ok (.sipush (-300), 3) := by decide +kernel
theorem dX6_setRoom_11 : decode cX6_setRoom 11 = .ok (.sipush 150, 3) := by decide +kernel
theorem dX6_setRoom_14 : decode cX6_setRoom 14 = .ok (.invokestatic 61, 3) := by decide +kernel
theorem dX6_setRoom_17 : decode cX6_setRoom 17 = .ok (.aload 4, 2) := by decide +kernel
theorem dX6_setRoom_19 : decode cX6_setRoom 19 = .ok (.getfield 98, 3) := by decide +kernel
theorem dX6_setRoom_22 : decode cX6_setRoom 22 = .ok (.istore 5, 2) := by decide +kernel
theorem dX6_setRoom_24 : decode cX6_setRoom 24 = .ok (.aload 4, 2) := by decide +kernel
theorem dX6_setRoom_26 : decode cX6_setRoom 26 = .ok (.iload_n 2, 1) := by decide +kernel
theorem dX6_setRoom_27 : decode cX6_setRoom 27 = .ok (.putfield 98, 3) := by decide +kernel
theorem dX6_setRoom_30 : decode cX6_setRoom 30 = .ok (.aload 4, 2) := by decide +kernel
theorem dX6_setRoom_32 : decode cX6_setRoom 32 = .ok (.iload_n 3, 1) := by decide +kernel
theorem dX6_setRoom_33 : decode cX6_setRoom 33 = .ok (.putfield 101, 3) := by decide +kernel
theorem dX6_setRoom_36 : decode cX6_setRoom 36 = .ok (.iload 5, 2) := by decide +kernel
theorem dX6_setRoom_38 : decode cX6_setRoom 38 = .ok (.ireturn, 1) := by decide +kernel
theorem dX6_defrost_0 : decode cX6_defrost 0 = .ok (.aload_n 0, 1) := by decide +kernel
theorem dX6_defrost_1 : decode cX6_defrost 1 = .ok (.iload_n 1, 1) := by decide +kernel
theorem dX6_defrost_2 : decode cX6_defrost 2 = .ok (.invokevirtual 94, 3) := by decide +kernel
theorem dX6_defrost_5 : decode cX6_defrost 5 = .ok (.getfield 105, 3) := by decide +kernel
theorem dX6_defrost_8 : decode cX6_defrost 8 = .ok (.astore_n 2, 1) := by decide +kernel
theorem dX6_defrost_9 : decode cX6_defrost 9 = .ok (.aload_n 2, 1) := by decide +kernel
theorem dX6_defrost_10 : decode cX6_defrost 10 = .ok (.getfield 109, 3) := by decide +kernel
theorem dX6_defrost_13 : decode cX6_defrost 13 = .ok (.iconst 2, 1) := by decide +kernel
theorem dX6_defrost_14 : decode cX6_defrost 14 = .ok (.if_icmp .ne 13, 3) := by decide +kernel
theorem dX6_defrost_17 : decode cX6_defrost 17 = .ok (.new 81, 3) := by decide +kernel
theorem dX6_defrost_20 : decode cX6_defrost 20 = .ok (.dup, 1) := by decide +kernel
theorem dX6_defrost_21 : decode cX6_defrost 21 = .ok (.ldc 114, 2) := by decide +kernel
theorem dX6_defrost_23 : decode cX6_defrost 23 = .ok (.invokespecial 85, 3) := by decide +kernel
theorem dX6_defrost_26 : decode cX6_defrost 26 = .ok (.athrow, 1) := by decide +kernel
theorem dX6_defrost_27 : decode cX6_defrost 27 = .ok (.aload_n 2, 1) := by decide +kernel
theorem dX6_defrost_28 : decode cX6_defrost 28 = .ok (.invokevirtual 116, 3) := by decide +kernel
theorem dX6_defrost_31 : decode cX6_defrost 31 = .ok (.aload_n 2, 1) := by decide +kernel
theorem dX6_defrost_32 : decode cX6_defrost 32 = .ok (.getfield 119, 3) := by decide +kernel
theorem dX6_defrost_35 : decode cX6_defrost 35 = .ok (.ireturn, 1) := by decide +kernel
theorem dX6_room_0 : decode cX6_room 0 = .ok (.aload_n 0, 1) := by decide +kernel
theorem dX6_room_1 : decode cX6_room 1 = .ok (.iload_n 1, 1) := by decide +kernel
theorem dX6_room_2 : decode cX6_room 2 = .ok (.invokevirtual 94, 3) := by decide +kernel
theorem dX6_room_5 : decode cX6_room 5 = .ok (.astore_n 3, 1) := by decide +kernel
theorem dX6_room_6 : decode cX6_room 6 = .ok (.iload_n 2, 1) := by decide +kernel
theorem dX6_room_7 : decode cX6_room 7 = .ok (.bipush 7, 2) := by decide +kernel
theorem dX6_room_9 : decode cX6_room 9 = .ok (.invokestatic 122, 3) := by decide +kernel
theorem dX6_room_12 : decode cX6_room 12 = .ok (.aload_n 3, 1) := by decide +kernel
theorem dX6_room_13 : decode cX6_room 13 = .ok (.iload_n 2, 1) := by decide +kernel
theorem dX6_room_14 : decode cX6_room 14 = .ok (.invokevirtual 126, 3) := by decide +kernel
theorem dX6_room_17 : decode cX6_room 17 = .ok (.ireturn, 1) := by decide +kernel
theorem dX6_arrive_0 : decode cX6_arrive 0 = .ok (.aload_n 0, 1) := by decide +kernel
theorem dX6_arrive_1 : decode cX6_arrive 1 = .ok (.iload_n 1, 1) := by decide +kernel
theorem dX6_arrive_2 : decode cX6_arrive 2 = .ok (.invokevirtual 129, 3) := by decide +kernel
theorem dX6_arrive_5 : decode cX6_arrive 5 = .ok (.astore 4, 2) := by decide +kernel
theorem dX6_arrive_7 : decode cX6_arrive 7 = .ok (.aload_n 0, 1) := by decide +kernel
theorem dX6_arrive_8 : decode cX6_arrive 8 = .ok (.iload_n 2, 1) := by decide +kernel
theorem dX6_arrive_9 : decode cX6_arrive 9 = .ok (.invokevirtual 94, 3) := by decide +kernel
theorem dX6_arrive_12 : decode cX6_arrive 12 = .ok (.astore 5, 2) := by decide +kernel
theorem dX6_arrive_14 : decode cX6_arrive 14 = .ok (.iload_n 3, 1) := by decide +kernel
theorem dX6_arrive_15 : decode cX6_arrive 15 = .ok (.sipush (-300), 3) := by decide +kernel
theorem dX6_arrive_18 : decode cX6_arrive 18 = .ok (.sipush 400, 3) := by decide +kernel
theorem dX6_arrive_21 : decode cX6_arrive 21 = .ok (.invokestatic 61, 3) := by decide +kernel
theorem dX6_arrive_24 : decode cX6_arrive 24 = .ok (.aload 5, 2) := by decide +kernel
theorem dX6_arrive_26 : decode cX6_arrive 26 = .ok (.aload 4, 2) := by decide +kernel
theorem dX6_arrive_28 : decode cX6_arrive 28 = .ok (.invokevirtual 137, 3) := by decide +kernel
theorem dX6_arrive_31 : decode cX6_arrive 31 = .ok (.ifCond .eq 15, 3) := by decide +kernel
theorem dX6_arrive_34 : decode cX6_arrive 34 = .ok (.aload_n 0, 1) := by decide +kernel
theorem dX6_arrive_35 : decode cX6_arrive 35 = .ok (.getfield 48, 3) := by decide +kernel
theorem dX6_arrive_38 : decode cX6_arrive 38 = .ok (.aload_n 0, 1) := by decide +kernel
theorem dX6_arrive_39 : decode cX6_arrive 39 = .ok (.getfield 37, 3) := by decide +kernel
theorem dX6_arrive_42 : decode cX6_arrive 42 = .ok (.arraylength, 1) := by decide +kernel
theorem dX6_arrive_43 : decode cX6_arrive 43 = .ok (.if_icmp .lt 13, 3) := by decide +kernel
theorem dX6_arrive_46 : decode cX6_arrive 46 = .ok (.new 81, 3) := by decide +kernel
theorem dX6_arrive_49 : decode cX6_arrive 49 = .ok (.dup, 1) := by decide +kernel
theorem dX6_arrive_50 : decode cX6_arrive 50 = .ok (.ldc 141, 2) := by decide +kernel
theorem dX6_arrive_52 : decode cX6_arrive 52 = .ok (.invokespecial 85, 3) := by decide +kernel
theorem dX6_arrive_55 : decode cX6_arrive 55 = .ok (.athrow, 1) := by decide +kernel
theorem dX6_arrive_56 : decode cX6_arrive 56 = .ok (.new 35, 3) := by decide +kernel
theorem dX6_arrive_59 : decode cX6_arrive 59 = .ok (.dup, 1) := by decide +kernel
theorem dX6_arrive_60 : decode cX6_arrive 60 = .ok (.aload 4, 2) := by decide +kernel
theorem dX6_arrive_62 : decode cX6_arrive 62 = .ok (.iload_n 3, 1) := by decide +kernel
theorem dX6_arrive_63 : decode cX6_arrive 63 = .ok (.invokespecial 143, 3) := by decide +kernel
theorem dX6_arrive_66 : decode cX6_arrive 66 = .ok (.astore 6, 2) := by decide +kernel
theorem dX6_arrive_68 : decode cX6_arrive 68 = .ok (.aload 5, 2) := by decide +kernel
theorem dX6_arrive_70 : decode cX6_arrive 70 = .ok (.aload 6, 2) := by decide +kernel
theorem dX6_arrive_72 : decode cX6_arrive 72 = .ok (.invokevirtual 146, 3) := by decide +kernel
theorem dX6_arrive_75 : decode cX6_arrive 75 = .ok (.aload_n 0, 1) := by decide +kernel
theorem dX6_arrive_76 : decode cX6_arrive 76 = .ok (.getfield 37, 3) := by decide +kernel
theorem dX6_arrive_79 : decode cX6_arrive 79 = .ok (.aload_n 0, 1) := by decide +kernel
theorem dX6_arrive_80 : decode cX6_arrive 80 = .ok (.getfield 48, 3) := by decide +kernel
theorem dX6_arrive_83 : decode cX6_arrive 83 = .ok (.aload 6, 2) := by decide +kernel
theorem dX6_arrive_85 : decode cX6_arrive 85 = .ok (.aastore, 1) := by decide +kernel
theorem dX6_arrive_86 : decode cX6_arrive 86 = .ok (.aload_n 0, 1) := by decide +kernel
theorem dX6_arrive_87 : decode cX6_arrive 87 = .ok (.dup, 1) := by decide +kernel
theorem dX6_arrive_88 : decode cX6_arrive 88 = .ok (.getfield 48, 3) := by decide +kernel
theorem dX6_arrive_91 : decode cX6_arrive 91 = .ok (.dup_x1, 1) := by decide +kernel
theorem dX6_arrive_92 : decode cX6_arrive 92 = .ok (.iconst 1, 1) := by decide +kernel
theorem dX6_arrive_93 : decode cX6_arrive 93 = .ok (.iadd, 1) := by decide +kernel
theorem dX6_arrive_94 : decode cX6_arrive 94 = .ok (.putfield 48, 3) := by decide +kernel
theorem dX6_arrive_97 : decode cX6_arrive 97 = .ok (.ireturn, 1) := by decide +kernel
theorem dX6_pallet_0 : decode cX6_pallet 0 = .ok (.aload_n 0, 1) := by decide +kernel
theorem dX6_pallet_1 : decode cX6_pallet 1 = .ok (.iload_n 1, 1) := by decide +kernel
theorem dX6_pallet_2 : decode cX6_pallet 2 = .ok (.invokevirtual 150, 3) := by decide +kernel
theorem dX6_pallet_5 : decode cX6_pallet 5 = .ok (.astore_n 3, 1) := by decide +kernel
theorem dX6_pallet_6 : decode cX6_pallet 6 = .ok (.iload_n 2, 1) := by decide +kernel
theorem dX6_pallet_7 : decode cX6_pallet 7 = .ok (.iconst 5, 1) := by decide +kernel
theorem dX6_pallet_8 : decode cX6_pallet 8 = .ok (.invokestatic 122, 3) := by decide +kernel
theorem dX6_pallet_11 : decode cX6_pallet 11 = .ok (.aload_n 3, 1) := by decide +kernel
theorem dX6_pallet_12 : decode cX6_pallet 12 = .ok (.iload_n 2, 1) := by decide +kernel
theorem dX6_pallet_13 : decode cX6_pallet 13 = .ok (.invokevirtual 170, 3) := by decide +kernel
theorem dX6_pallet_16 : decode cX6_pallet 16 = .ok (.ireturn, 1) := by decide +kernel
theorem dX6_bestRoom_0 : decode cX6_bestRoom 0 = .ok (.aload_n 0, 1) := by decide +kernel
theorem dX6_bestRoom_1 : decode cX6_bestRoom 1 = .ok (.iload_n 1, 1) := by decide +kernel
theorem dX6_bestRoom_2 : decode cX6_bestRoom 2 = .ok (.invokevirtual 129, 3) := by decide +kernel
theorem dX6_bestRoom_5 : decode cX6_bestRoom 5 = .ok (.astore_n 2, 1) := by decide +kernel
theorem dX6_bestRoom_6 : decode cX6_bestRoom 6 = .ok (.aconst_null, 1) := by decide +kernel
theorem dX6_bestRoom_7 : decode cX6_bestRoom 7 = .ok (.astore_n 3, 1) := by decide +kernel
theorem dX6_bestRoom_8 : decode cX6_bestRoom 8 = .ok (.aload_n 0, 1) := by decide +kernel
theorem dX6_bestRoom_9 : decode cX6_bestRoom 9 = .ok (.getfield 31, 3) := by decide +kernel
theorem dX6_bestRoom_12 : decode cX6_bestRoom 12 = .ok (.astore 4, 2) := by decide +kernel
theorem dX6_bestRoom_14 : decode cX6_bestRoom 14 = .ok (.aload 4, 2) := by decide +kernel
theorem dX6_bestRoom_16 : decode cX6_bestRoom 16 = .ok (.arraylength, 1) := by decide +kernel
theorem dX6_bestRoom_17 : decode cX6_bestRoom 17 = .ok (.istore 5, 2) := by decide +kernel
theorem dX6_bestRoom_19 : decode cX6_bestRoom 19 = .ok (.iconst 0, 1) := by decide +kernel
theorem dX6_bestRoom_20 : decode cX6_bestRoom 20 = .ok (.istore 6, 2) := by decide +kernel
theorem dX6_bestRoom_22 : decode cX6_bestRoom 22 = .ok (.iload 6, 2) := by decide +kernel
theorem dX6_bestRoom_24 : decode cX6_bestRoom 24 = .ok (.iload 5, 2) := by decide +kernel
theorem dX6_bestRoom_26 : decode cX6_bestRoom 26 = .ok (.if_icmp .ge 47, 3) := by decide +kernel
theorem dX6_bestRoom_29 : decode cX6_bestRoom 29 = .ok (.aload 4, 2) := by decide +kernel
theorem dX6_bestRoom_31 : decode cX6_bestRoom 31 = .ok (.iload 6, 2) := by decide +kernel
theorem dX6_bestRoom_33 : decode cX6_bestRoom 33 = .ok (.aaload, 1) := by decide +kernel
theorem dX6_bestRoom_34 : decode cX6_bestRoom 34 = .ok (.astore 7, 2) := by decide +kernel
theorem dX6_bestRoom_36 : decode cX6_bestRoom 36 = .ok (.aload 7, 2) := by decide +kernel
theorem dX6_bestRoom_38 : decode cX6_bestRoom 38 = .ok (.ifnull 29, 3) := by decide +kernel
theorem dX6_bestRoom_41 : decode cX6_bestRoom 41 = .ok (.aload 7, 2) := by decide +kernel
theorem dX6_bestRoom_43 : decode cX6_bestRoom 43 = .ok (.aload_n 2, 1) := by decide +kernel
theorem dX6_bestRoom_44 : decode cX6_bestRoom 44 = .ok (.invokevirtual 137, 3) := by decide +kernel
theorem dX6_bestRoom_47 : decode cX6_bestRoom 47 = .ok (.ifCond .eq 20, 3) := by decide +kernel
theorem dX6_bestRoom_50 : decode cX6_bestRoom 50 = .ok (.aload_n 3, 1) := by decide +kernel
theorem dX6_bestRoom_51 : decode cX6_bestRoom 51 = .ok (.ifnull 13, 3) := by decide +kernel
theorem dX6_bestRoom_54 : decode cX6_bestRoom 54 = .ok (.aload 7, 2) := by decide +kernel
theorem dX6_bestRoom_56 : decode cX6_bestRoom 56 = .ok (.aload_n 2, 1) := by decide +kernel
theorem dX6_bestRoom_57 : decode cX6_bestRoom 57 = .ok (.aload_n 3, 1) := by decide +kernel
theorem dX6_bestRoom_58 : decode cX6_bestRoom 58 = .ok (.invokevirtual 171, 3) := by decide +kernel
theorem dX6_bestRoom_61 : decode cX6_bestRoom 61 = .ok (.ifCond .eq 6, 3) := by decide +kernel
theorem dX6_bestRoom_64 : decode cX6_bestRoom 64 = .ok (.aload 7, 2) := by decide +kernel
theorem dX6_bestRoom_66 : decode cX6_bestRoom 66 = .ok (.astore_n 3, 1) := by decide +kernel
theorem dX6_bestRoom_67 : decode cX6_bestRoom 67 = .ok (.iinc 6 1, 3) := by decide +kernel
theorem dX6_bestRoom_70 : decode cX6_bestRoom 70 = .ok (.goto (-48), 3) := by decide +kernel
theorem dX6_bestRoom_73 : decode cX6_bestRoom 73 = .ok (.aload_n 3, 1) := by decide +kernel
theorem dX6_bestRoom_74 : decode cX6_bestRoom 74 = .ok (.ifnonnull 7, 3) := by decide +kernel
theorem dX6_bestRoom_77 : decode cX6_bestRoom 77 = .ok (.iconst (-1), 1) := by decide +kernel
theorem dX6_bestRoom_78 : decode cX6_bestRoom 78 = .ok (.goto 7, 3) := by decide +kernel
theorem dX6_bestRoom_81 : decode cX6_bestRoom 81 = .ok (.aload_n 3, 1) := by decide +kernel
theorem dX6_bestRoom_82 : decode cX6_bestRoom 82 = .ok (.getfield 167, 3) := by decide +kernel
theorem dX6_bestRoom_85 : decode cX6_bestRoom 85 = .ok (.ireturn, 1) := by decide +kernel
theorem dX6_ship_0 : decode cX6_ship 0 = .ok (.aload_n 0, 1) := by decide +kernel
theorem dX6_ship_1 : decode cX6_ship 1 = .ok (.iload_n 1, 1) := by decide +kernel
theorem dX6_ship_2 : decode cX6_ship 2 = .ok (.invokevirtual 129, 3) := by decide +kernel
theorem dX6_ship_5 : decode cX6_ship 5 = .ok (.astore 4, 2) := by decide +kernel
theorem dX6_ship_7 : decode cX6_ship 7 = .ok (.iload_n 2, 1) := by decide +kernel
theorem dX6_ship_8 : decode cX6_ship 8 = .ok (.iconst 1, 1) := by decide +kernel
theorem dX6_ship_9 : decode cX6_ship 9 = .ok (.bipush 60, 2) := by decide +kernel
theorem dX6_ship_11 : decode cX6_ship 11 = .ok (.invokestatic 61, 3) := by decide +kernel
theorem dX6_ship_14 : decode cX6_ship 14 = .ok (.iload_n 3, 1) := by decide +kernel
theorem dX6_ship_15 : decode cX6_ship 15 = .ok (.ifCond .ge 13, 3) := by decide +kernel
theorem dX6_ship_18 : decode cX6_ship 18 = .ok (.new 175, 3) := by decide +kernel
theorem dX6_ship_21 : decode cX6_ship 21 = .ok (.dup, 1) := by decide +kernel
theorem dX6_ship_22 : decode cX6_ship 22 = .ok (.ldc 177, 2) := by decide +kernel
theorem dX6_ship_24 : decode cX6_ship 24 = .ok (.invokespecial 179, 3) := by decide +kernel
theorem dX6_ship_27 : decode cX6_ship 27 = .ok (.athrow, 1) := by decide +kernel
theorem dX6_ship_28 : decode cX6_ship 28 = .ok (.iconst 0, 1) := by decide +kernel
theorem dX6_ship_29 : decode cX6_ship 29 = .ok (.istore 5, 2) := by decide +kernel
theorem dX6_ship_31 : decode cX6_ship 31 = .ok (.aload_n 0, 1) := by decide +kernel
theorem dX6_ship_32 : decode cX6_ship 32 = .ok (.aload 4, 2) := by decide +kernel
theorem dX6_ship_34 : decode cX6_ship 34 = .ok (.iload_n 3, 1) := by decide +kernel
theorem dX6_ship_35 : decode cX6_ship 35 = .ok (.invokevirtual 180, 3) := by decide +kernel
theorem dX6_ship_38 : decode cX6_ship 38 = .ok (.astore 6, 2) := by decide +kernel
theorem dX6_ship_40 : decode cX6_ship 40 = .ok (.iload 5, 2) := by decide +kernel
theorem dX6_ship_42 : decode cX6_ship 42 = .ok (.iload_n 2, 1) := by decide +kernel
theorem dX6_ship_43 : decode cX6_ship 43 = .ok (.if_icmp .ge 28, 3) := by decide +kernel
theorem dX6_ship_46 : decode cX6_ship 46 = .ok (.aload 6, 2) := by decide +kernel
theorem dX6_ship_48 : decode cX6_ship 48 = .ok (.ifnull 23, 3) := by decide +kernel
theorem dX6_ship_51 : decode cX6_ship 51 = .ok (.aload 6, 2) := by decide +kernel
theorem dX6_ship_53 : decode cX6_ship 53 = .ok (.invokestatic 184, 3) := by decide +kernel
theorem dX6_ship_56 : decode cX6_ship 56 = .ok (.iinc 5 1, 3) := by decide +kernel
theorem dX6_ship_59 : decode cX6_ship 59 = .ok (.aload_n 0, 1) := by decide +kernel
theorem dX6_ship_60 : decode cX6_ship 60 = .ok (.aload 4, 2) := by decide +kernel
theorem dX6_ship_62 : decode cX6_ship 62 = .ok (.iload_n 3, 1) := by decide +kernel
theorem dX6_ship_63 : decode cX6_ship 63 = .ok (.invokevirtual 180, 3) := by decide +kernel
theorem dX6_ship_66 : decode cX6_ship 66 = .ok (.astore 6, 2) := by decide +kernel
theorem dX6_ship_68 : decode cX6_ship 68 = .ok (.goto (-28), 3) := by decide +kernel
theorem dX6_ship_71 : decode cX6_ship 71 = .ok (.aload_n 0, 1) := by decide +kernel
theorem dX6_ship_72 : decode cX6_ship 72 = .ok (.dup, 1) := by decide +kernel
theorem dX6_ship_73 : decode cX6_ship 73 = .ok (.getfield 51, 3) := by decide +kernel
theorem dX6_ship_76 : decode cX6_ship 76 = .ok (.iload 5, 2) := by decide +kernel
theorem dX6_ship_78 : decode cX6_ship 78 = .ok (.iadd, 1) := by decide +kernel
theorem dX6_ship_79 : decode cX6_ship 79 = .ok (.putfield 51, 3) := by decide +kernel
theorem dX6_ship_82 : decode cX6_ship 82 = .ok (.iload 5, 2) := by decide +kernel
theorem dX6_ship_84 : decode cX6_ship 84 = .ok (.ireturn, 1) := by decide +kernel
theorem dX6_clear_0 : decode cX6_clear 0 = .ok (.iconst 0, 1) := by decide +kernel
theorem dX6_clear_1 : decode cX6_clear 1 = .ok (.istore_n 1, 1) := by decide +kernel
theorem dX6_clear_2 : decode cX6_clear 2 = .ok (.aload_n 0, 1) := by decide +kernel
theorem dX6_clear_3 : decode cX6_clear 3 = .ok (.getfield 37, 3) := by decide +kernel
theorem dX6_clear_6 : decode cX6_clear 6 = .ok (.astore_n 2, 1) := by decide +kernel
theorem dX6_clear_7 : decode cX6_clear 7 = .ok (.aload_n 2, 1) := by decide +kernel
theorem dX6_clear_8 : decode cX6_clear 8 = .ok (.arraylength, 1) := by decide +kernel
theorem dX6_clear_9 : decode cX6_clear 9 = .ok (.istore_n 3, 1) := by decide +kernel
theorem dX6_clear_10 : decode cX6_clear 10 = .ok (.iconst 0, 1) := by decide +kernel
theorem dX6_clear_11 : decode cX6_clear 11 = .ok (.istore 4, 2) := by decide +kernel
theorem dX6_clear_13 : decode cX6_clear 13 = .ok (.iload 4, 2) := by decide +kernel
theorem dX6_clear_15 : decode cX6_clear 15 = .ok (.iload_n 3, 1) := by decide +kernel
theorem dX6_clear_16 : decode cX6_clear 16 = .ok (.if_icmp .ge 44, 3) := by decide +kernel
theorem dX6_clear_19 : decode cX6_clear 19 = .ok (.aload_n 2, 1) := by decide +kernel
theorem dX6_clear_20 : decode cX6_clear 20 = .ok (.iload 4, 2) := by decide +kernel
theorem dX6_clear_22 : decode cX6_clear 22 = .ok (.aaload, 1) := by decide +kernel
theorem dX6_clear_23 : decode cX6_clear 23 = .ok (.astore 5, 2) := by decide +kernel
theorem dX6_clear_25 : decode cX6_clear 25 = .ok (.aload 5, 2) := by decide +kernel
theorem dX6_clear_27 : decode cX6_clear 27 = .ok (.ifnull 27, 3) := by decide +kernel
theorem dX6_clear_30 : decode cX6_clear 30 = .ok (.aload 5, 2) := by decide +kernel
theorem dX6_clear_32 : decode cX6_clear 32 = .ok (.invokevirtual 187, 3) := by decide +kernel
theorem dX6_clear_35 : decode cX6_clear 35 = .ok (.ifCond .eq 19, 3) := by decide +kernel
theorem dX6_clear_38 : decode cX6_clear 38 = .ok (.aload 5, 2) := by decide +kernel
theorem dX6_clear_40 : decode cX6_clear 40 = .ok (.invokevirtual 191, 3) := by decide +kernel
theorem dX6_clear_43 : decode cX6_clear 43 = .ok (.ifCond .eq 11, 3) := by decide +kernel
theorem dX6_clear_46 : decode cX6_clear 46 = .ok (.aload 5, 2) := by decide +kernel
theorem dX6_clear_48 : decode cX6_clear 48 = .ok (.invokestatic 184, 3) := by decide +kernel
theorem dX6_clear_51 : decode cX6_clear 51 = .ok (.iinc 1 1, 3) := by decide +kernel
theorem dX6_clear_54 : decode cX6_clear 54 = .ok (.iinc 4 1, 3) := by decide +kernel
theorem dX6_clear_57 : decode cX6_clear 57 = .ok (.goto (-44), 3) := by decide +kernel
theorem dX6_clear_60 : decode cX6_clear 60 = .ok (.iload_n 1, 1) := by decide +kernel
theorem dX6_clear_61 : decode cX6_clear 61 = .ok (.ireturn, 1) := by decide +kernel
theorem dX6_count_0 : decode cX6_count 0 = .ok (.iload_n 1, 1) := by decide +kernel
theorem dX6_count_1 : decode cX6_count 1 = .ok (.iconst 5, 1) := by decide +kernel
theorem dX6_count_2 : decode cX6_count 2 = .ok (.invokestatic 122, 3) := by decide +kernel
theorem dX6_count_5 : decode cX6_count 5 = .ok (.aload_n 0, 1) := by decide +kernel
theorem dX6_count_6 : decode cX6_count 6 = .ok (.iload_n 1, 1) := by decide +kernel
theorem dX6_count_7 : decode cX6_count 7 = .ok (.invokevirtual 197, 3) := by decide +kernel
theorem dX6_count_10 : decode cX6_count 10 = .ok (.ireturn, 1) := by decide +kernel
theorem dX6_tick_0 : decode cX6_tick 0 = .ok (.iload_n 1, 1) := by decide +kernel
theorem dX6_tick_1 : decode cX6_tick 1 = .ok (.iconst 1, 1) := by decide +kernel
theorem dX6_tick_2 : decode cX6_tick 2 = .ok (.sipush 200, 3) := by decide +kernel
theorem dX6_tick_5 : decode cX6_tick 5 = .ok (.sipush 2000, 3) := by decide +kernel
theorem dX6_tick_8 : decode cX6_tick 8 = .ok (.aload_n 0, 1) := by decide +kernel
theorem dX6_tick_9 : decode cX6_tick 9 = .ok (.getfield 54, 3) := by decide +kernel
theorem dX6_tick_12 : decode cX6_tick 12 = .ok (.isub, 1) := by decide +kernel
theorem dX6_tick_13 : decode cX6_tick 13 = .ok (.invokestatic 200, 3) := by decide +kernel
theorem dX6_tick_16 : decode cX6_tick 16 = .ok (.invokestatic 61, 3) := by decide +kernel
theorem dX6_tick_19 : decode cX6_tick 19 = .ok (.aload_n 0, 1) := by decide +kernel
theorem dX6_tick_20 : decode cX6_tick 20 = .ok (.invokevirtual 206, 3) := by decide +kernel
theorem dX6_tick_23 : decode cX6_tick 23 = .ok (.istore_n 2, 1) := by decide +kernel
theorem dX6_tick_24 : decode cX6_tick 24 = .ok (.iconst 0, 1) := by decide +kernel
theorem dX6_tick_25 : decode cX6_tick 25 = .ok (.istore_n 3, 1) := by decide +kernel
theorem dX6_tick_26 : decode cX6_tick 26 = .ok (.iload_n 3, 1) := by decide +kernel
theorem dX6_tick_27 : decode cX6_tick 27 = .ok (.iload_n 1, 1) := by decide +kernel
theorem dX6_tick_28 : decode cX6_tick 28 = .ok (.if_icmp .ge 13, 3) := by decide +kernel
theorem dX6_tick_31 : decode cX6_tick 31 = .ok (.aload_n 0, 1) := by decide +kernel
theorem dX6_tick_32 : decode cX6_tick 32 = .ok (.invokevirtual 210, 3) := by decide +kernel
theorem dX6_tick_35 : decode cX6_tick 35 = .ok (.iinc 3 1, 3) := by decide +kernel
theorem dX6_tick_38 : decode cX6_tick 38 = .ok (.goto (-12), 3) := by decide +kernel
theorem dX6_tick_41 : decode cX6_tick 41 = .ok (.aload_n 0, 1) := by decide +kernel
theorem dX6_tick_42 : decode cX6_tick 42 = .ok (.invokevirtual 206, 3) := by decide +kernel
theorem dX6_tick_45 : decode cX6_tick 45 = .ok (.iload_n 2, 1) := by decide +kernel
theorem dX6_tick_46 : decode cX6_tick 46 = .ok (.isub, 1) := by decide +kernel
theorem dX6_tick_47 : decode cX6_tick 47 = .ok (.ireturn, 1) := by decide +kernel
theorem dX6_now_0 : decode cX6_now 0 = .ok (.aload_n 0, 1) := by decide +kernel
theorem dX6_now_1 : decode cX6_now 1 = .ok (.getfield 54, 3) := by decide +kernel
theorem dX6_now_4 : decode cX6_now 4 = .ok (.ireturn, 1) := by decide +kernel
theorem dX6_paid_0 : decode cX6_paid 0 = .ok (.aload_n 0, 1) := by decide +kernel
theorem dX6_paid_1 : decode cX6_paid 1 = .ok (.getfield 57, 3) := by decide +kernel
theorem dX6_paid_4 : decode cX6_paid 4 = .ok (.lreturn, 1) := by decide +kernel
theorem dX6_requireWithin_0 : decode cX6_requireWithin 0 = .ok (.iload_n 0, 1) := by decide +kernel
theorem dX6_requireWithin_1 : decode cX6_requireWithin 1 = .ok (.iload_n 1, 1) := by decide +kernel
theorem dX6_requireWithin_2 : decode cX6_requireWithin 2 = .ok (.if_icmp .lt 8, 3) := by decide +kernel
theorem dX6_requireWithin_5 : decode cX6_requireWithin 5 = .ok (.iload_n 0, 1) := by decide +kernel
theorem dX6_requireWithin_6 : decode cX6_requireWithin 6 = .ok (.iload_n 2, 1) := by decide +kernel
theorem dX6_requireWithin_7 : decode cX6_requireWithin 7 = .ok (.if_icmp .le 13, 3) := by decide +kernel
theorem dX6_requireWithin_10 : decode cX6_requireWithin 10 = .ok (.new 175, 3) := by decide +kernel
theorem dX6_requireWithin_13 : decode cX6_requireWithin 13 = .ok (.dup, 1) := by decide +kernel
theorem dX6_requireWithin_14 : decode cX6_requireWithin 14 = .ok (.ldc 244, 2) := by decide +kernel
theorem dX6_requireWithin_16 : decode cX6_requireWithin 16 = .ok (.invokespecial 179, 3) := by decide +kernel
theorem dX6_requireWithin_19 : decode cX6_requireWithin 19 = .ok (.athrow, 1) := by decide +kernel
theorem dX6_requireWithin_20 : decode cX6_requireWithin 20 = .ok (.return_, 1) := by decide +kernel
theorem dX6_requireFact_0 : decode cX6_requireFact 0 = .ok (.iload_n 0, 1) := by decide +kernel
theorem dX6_requireFact_1 : decode cX6_requireFact 1 = .ok (.ifCond .lt 8, 3) := by decide +kernel
theorem dX6_requireFact_4 : decode cX6_requireFact 4 = .ok (.iload_n 0, 1) := by decide +kernel
theorem dX6_requireFact_5 : decode cX6_requireFact 5 = .ok (.iload_n 1, 1) := by decide +kernel
theorem dX6_requireFact_6 : decode cX6_requireFact 6 = .ok (.if_icmp .lt 13, 3) := by decide +kernel
theorem dX6_requireFact_9 : decode cX6_requireFact 9 = .ok (.new 246, 3) := by decide +kernel
theorem dX6_requireFact_12 : decode cX6_requireFact 12 = .ok (.dup, 1) := by decide +kernel
theorem dX6_requireFact_13 : decode cX6_requireFact 13 = .ok (.ldc 248, 2) := by decide +kernel
theorem dX6_requireFact_15 : decode cX6_requireFact 15 = .ok (.invokespecial 250, 3) := by decide +kernel
theorem dX6_requireFact_18 : decode cX6_requireFact 18 = .ok (.athrow, 1) := by decide +kernel
theorem dX6_requireFact_19 : decode cX6_requireFact 19 = .ok (.return_, 1) := by decide +kernel
theorem dX6_existingProduct_0 : decode cX6_existingProduct 0 = .ok (.iload_n 1, 1) := by decide +kernel
theorem dX6_existingProduct_1 : decode cX6_existingProduct 1 = .ok (.ifCond .lt 21, 3) := by decide +kernel
theorem dX6_existingProduct_4 : decode cX6_existingProduct 4 = .ok (.iload_n 1, 1) := by decide +kernel
theorem dX6_existingProduct_5 : decode cX6_existingProduct 5 = .ok (.aload_n 0, 1) := by decide +kernel
theorem dX6_existingProduct_6 : decode cX6_existingProduct 6 = .ok (.getfield 25, 3) := by decide +kernel
theorem dX6_existingProduct_9 : decode cX6_existingProduct 9 = .ok (.arraylength, 1) := by decide +kernel
theorem dX6_existingProduct_10 : decode cX6_existingProduct 10 = .ok (.if_icmp .ge 12, 3) := by decide +kernel
theorem dX6_existingProduct_13 : decode cX6_existingProduct 13 = .ok (.aload_n 0, 1) := by decide +kernel
theorem dX6_existingProduct_14 : decode cX6_existingProduct 14 = .ok (.getfield 25, 3) := by decide +kernel
theorem dX6_existingProduct_17 : decode cX6_existingProduct 17 = .ok (.iload_n 1, 1) := by decide +kernel
theorem dX6_existingProduct_18 : decode cX6_existingProduct 18 = .ok (.aaload, 1) := by decide +kernel
theorem dX6_existingProduct_19 : decode cX6_existingProduct 19 = .ok (.goto 4, 3) := by decide +kernel
theorem dX6_existingProduct_22 : decode cX6_existingProduct 22 = .ok (.aconst_null, 1) := by decide +kernel
theorem dX6_existingProduct_23 : decode cX6_existingProduct 23 = .ok (.astore_n 2, 1) := by decide +kernel
theorem dX6_existingProduct_24 : decode cX6_existingProduct 24 = .ok (.aload_n 2, 1) := by decide +kernel
theorem dX6_existingProduct_25 : decode cX6_existingProduct 25 = .ok (.ifnonnull 13, 3) := by decide +kernel
theorem dX6_existingProduct_28 : decode cX6_existingProduct 28 = .ok (.new 246, 3) := by decide +kernel
theorem dX6_existingProduct_31 : decode cX6_existingProduct 31 = .ok (.dup, 1) := by decide +kernel
theorem dX6_existingProduct_32 : decode cX6_existingProduct 32 = .ok (.ldc 251, 2) := by decide +kernel
theorem dX6_existingProduct_34 : decode cX6_existingProduct 34 = .ok (.invokespecial 250, 3) := by decide +kernel
theorem dX6_existingProduct_37 : decode cX6_existingProduct 37 = .ok (.athrow, 1) := by decide +kernel
theorem dX6_existingProduct_38 : decode cX6_existingProduct 38 = .ok (.aload_n 2, 1) := by decide +kernel
theorem dX6_existingProduct_39 : decode cX6_existingProduct 39 = .ok (.areturn, 1) := by decide +kernel
theorem dX6_existingRoom_0 : decode cX6_existingRoom 0 = .ok (.iload_n 1, 1) := by decide +kernel
theorem dX6_existingRoom_1 : decode cX6_existingRoom 1 = .ok (.ifCond .lt 21, 3) := by decide +kernel
theorem dX6_existingRoom_4 : decode cX6_existingRoom 4 = .ok (.iload_n 1, 1) := by decide +kernel
theorem dX6_existingRoom_5 : decode cX6_existingRoom 5 = .ok (.aload_n 0, 1) := by decide +kernel
theorem dX6_existingRoom_6 : decode cX6_existingRoom 6 = .ok (.getfield 31, 3) := by decide +kernel
theorem dX6_existingRoom_9 : decode cX6_existingRoom 9 = .ok (.arraylength, 1) := by decide +kernel
theorem dX6_existingRoom_10 : decode cX6_existingRoom 10 = .ok (.if_icmp .ge 12, 3) := by decide +kernel
theorem dX6_existingRoom_13 : decode cX6_existingRoom 13 = .ok (.aload_n 0, 1) := by decide +kernel
theorem dX6_existingRoom_14 : decode cX6_existingRoom 14 = .ok (.getfield 31, 3) := by decide +kernel
theorem dX6_existingRoom_17 : decode cX6_existingRoom 17 = .ok (.iload_n 1, 1) := by decide +kernel
theorem dX6_existingRoom_18 : decode cX6_existingRoom 18 = .ok (.aaload, 1) := by decide +kernel
theorem dX6_existingRoom_19 : decode cX6_existingRoom 19 = .ok (.goto 4, 3) := by decide +kernel
theorem dX6_existingRoom_22 : decode cX6_existingRoom 22 = .ok (.aconst_null, 1) := by decide +kernel
theorem dX6_existingRoom_23 : decode cX6_existingRoom 23 = .ok (.astore_n 2, 1) := by decide +kernel
theorem dX6_existingRoom_24 : decode cX6_existingRoom 24 = .ok (.aload_n 2, 1) := by decide +kernel
theorem dX6_existingRoom_25 : decode cX6_existingRoom 25 = .ok (.ifnonnull 13, 3) := by decide +kernel
theorem dX6_existingRoom_28 : decode cX6_existingRoom 28 = .ok (.new 246, 3) := by decide +kernel
theorem dX6_existingRoom_31 : decode cX6_existingRoom 31 = .ok (.dup, 1) := by decide +kernel
theorem dX6_existingRoom_32 : decode cX6_existingRoom 32 = .ok (.ldc 253, 2) := by decide +kernel
theorem dX6_existingRoom_34 : decode cX6_existingRoom 34 = .ok (.invokespecial 250, 3) := by decide +kernel
theorem dX6_existingRoom_37 : decode cX6_existingRoom 37 = .ok (.athrow, 1) := by decide +kernel
theorem dX6_existingRoom_38 : decode cX6_existingRoom 38 = .ok (.aload_n 2, 1) := by decide +kernel
theorem dX6_existingRoom_39 : decode cX6_existingRoom 39 = .ok (.areturn, 1) := by decide +kernel
theorem dX6_existingPallet_0 : decode cX6_existingPallet 0 = .ok (.iload_n 1, 1) := by decide +kernel
theorem dX6_existingPallet_1 : decode cX6_existingPallet 1 = .ok (.ifCond .lt 21, 3) := by decide +kernel
theorem dX6_existingPallet_4 : decode cX6_existingPallet 4 = .ok (.iload_n 1, 1) := by decide +kernel
theorem dX6_existingPallet_5 : decode cX6_existingPallet 5 = .ok (.aload_n 0, 1) := by decide +kernel
theorem dX6_existingPallet_6 : decode cX6_existingPallet 6 = .ok (.getfield 37, 3) := by decide +kernel
theorem dX6_existingPallet_9 : decode cX6_existingPallet 9 = .ok (.arraylength, 1) := by decide +kernel
theorem dX6_existingPallet_10 : decode cX6_existingPallet 10 = .ok (.if_icmp .ge 12, 3) := by decide +kernel
theorem dX6_existingPallet_13 : decode cX6_existingPallet 13 = .ok (.aload_n 0, 1) := by decide +kernel
theorem dX6_existingPallet_14 : decode cX6_existingPallet 14 = .ok (.getfield 37, 3) := by decide +kernel
theorem dX6_existingPallet_17 : decode cX6_existingPallet 17 = .ok (.iload_n 1, 1) := by decide +kernel
theorem dX6_existingPallet_18 : decode cX6_existingPallet 18 = .ok (.aaload, 1) := by decide +kernel
theorem dX6_existingPallet_19 : decode cX6_existingPallet 19 = .ok (.goto 4, 3) := by decide +kernel
theorem dX6_existingPallet_22 : decode cX6_existingPallet 22 = .ok (.aconst_null, 1) := by decide +kernel
theorem dX6_existingPallet_23 : decode cX6_existingPallet 23 = .ok (.astore_n 2, 1) := by decide +kernel
theorem dX6_existingPallet_24 : decode cX6_existingPallet 24 = .ok (.aload_n 2, 1) := by decide +kernel
theorem dX6_existingPallet_25 : decode cX6_existingPallet 25 = .ok (.ifnonnull 13, 3) := by decide +kernel
theorem dX6_existingPallet_28 : decode cX6_existingPallet 28 = .ok (.new 246, 3) := by decide +kernel
theorem dX6_existingPallet_31 : decode cX6_existingPallet 31 = .ok (.dup, 1) := by decide +kernel
theorem dX6_existingPallet_32 : decode cX6_existingPallet 32 = .ok (.ldc 255, 2) := by decide +kernel
theorem dX6_existingPallet_34 : decode cX6_existingPallet 34 = .ok (.invokespecial 250, 3) := by decide +kernel
theorem dX6_existingPallet_37 : decode cX6_existingPallet 37 = .ok (.athrow, 1) := by decide +kernel
theorem dX6_existingPallet_38 : decode cX6_existingPallet 38 = .ok (.aload_n 2, 1) := by decide +kernel
theorem dX6_existingPallet_39 : decode cX6_existingPallet 39 = .ok (.areturn, 1) := by decide +kernel
theorem dX6_countOf_0 : decode cX6_countOf 0 = .ok (.iload_n 1, 1) := by decide +kernel
theorem dX6_countOf_1 : decode cX6_countOf 1 = .ok (.tableswitch 51 0 3 #[31, 36, 41, 46], 31) := by decide +kernel
theorem dX6_countOf_32 : decode cX6_countOf 32 = .ok (.aload_n 0, 1) := by decide +kernel
theorem dX6_countOf_33 : decode cX6_countOf 33 = .ok (.getfield 41, 3) := by decide +kernel
theorem dX6_countOf_36 : decode cX6_countOf 36 = .ok (.ireturn, 1) := by decide +kernel
theorem dX6_countOf_37 : decode cX6_countOf 37 = .ok (.aload_n 0, 1) := by decide +kernel
theorem dX6_countOf_38 : decode cX6_countOf 38 = .ok (.getfield 45, 3) := by decide +kernel
theorem dX6_countOf_41 : decode cX6_countOf 41 = .ok (.ireturn, 1) := by decide +kernel
theorem dX6_countOf_42 : decode cX6_countOf 42 = .ok (.aload_n 0, 1) := by decide +kernel
theorem dX6_countOf_43 : decode cX6_countOf 43 = .ok (.getfield 48, 3) := by decide +kernel
theorem dX6_countOf_46 : decode cX6_countOf 46 = .ok (.ireturn, 1) := by decide +kernel
theorem dX6_countOf_47 : decode cX6_countOf 47 = .ok (.aload_n 0, 1) := by decide +kernel
theorem dX6_countOf_48 : decode cX6_countOf 48 = .ok (.invokevirtual 257, 3) := by decide +kernel
theorem dX6_countOf_51 : decode cX6_countOf 51 = .ok (.ireturn, 1) := by decide +kernel
theorem dX6_countOf_52 : decode cX6_countOf 52 = .ok (.aload_n 0, 1) := by decide +kernel
theorem dX6_countOf_53 : decode cX6_countOf 53 = .ok (.getfield 51, 3) := by decide +kernel
theorem dX6_countOf_56 : decode cX6_countOf 56 = .ok (.ireturn, 1) := by decide +kernel
theorem dX6_palletsHere_0 : decode cX6_palletsHere 0 = .ok (.iconst 0, 1) := by decide +kernel
theorem dX6_palletsHere_1 : decode cX6_palletsHere 1 = .ok (.istore_n 1, 1) := by decide +kernel
theorem dX6_palletsHere_2 : decode cX6_palletsHere 2 = .ok (.aload_n 0, 1) := by decide +kernel
theorem dX6_palletsHere_3 : decode cX6_palletsHere 3 = .ok (.getfield 37, 3) := by decide +kernel
theorem dX6_palletsHere_6 : decode cX6_palletsHere 6 = .ok (.astore_n 2, 1) := by decide +kernel
theorem dX6_palletsHere_7 : decode cX6_palletsHere 7 = .ok (.aload_n 2, 1) := by decide +kernel
theorem dX6_palletsHere_8 : decode cX6_palletsHere 8 = .ok (.arraylength, 1) := by decide +kernel
theorem dX6_palletsHere_9 : decode cX6_palletsHere 9 = .ok (.istore_n 3, 1) := by decide +kernel
theorem dX6_palletsHere_10 : decode cX6_palletsHere 10 = .ok (.iconst 0, 1) := by decide +kernel
theorem dX6_palletsHere_11 : decode cX6_palletsHere 11 = .ok (.istore 4, 2) := by decide +kernel
theorem dX6_palletsHere_13 : decode cX6_palletsHere 13 = .ok (.iload 4, 2) := by decide +kernel
theorem dX6_palletsHere_15 : decode cX6_palletsHere 15 = .ok (.iload_n 3, 1) := by decide +kernel
theorem dX6_palletsHere_16 : decode cX6_palletsHere 16 = .ok (.if_icmp .ge 31, 3) := by decide +kernel
theorem dX6_palletsHere_19 : decode cX6_palletsHere 19 = .ok (.aload_n 2, 1) := by decide +kernel
theorem dX6_palletsHere_20 : decode cX6_palletsHere 20 = .ok (.iload 4, 2) := by decide +kernel
theorem dX6_palletsHere_22 : decode cX6_palletsHere 22 = .ok (.aaload, 1) := by decide +kernel
theorem dX6_palletsHere_23 : decode cX6_palletsHere 23 = .ok (.astore 5, 2) := by decide +kernel
theorem dX6_palletsHere_25 : decode cX6_palletsHere 25 = .ok (.aload 5, 2) := by decide +kernel
theorem dX6_palletsHere_27 : decode cX6_palletsHere 27 = .ok (.ifnull 14, 3) := by decide +kernel
theorem dX6_palletsHere_30 : decode cX6_palletsHere 30 = .ok (.aload 5, 2) := by decide +kernel
theorem dX6_palletsHere_32 : decode cX6_palletsHere 32 = .ok (.invokevirtual 187, 3) := by decide +kernel
theorem dX6_palletsHere_35 : decode cX6_palletsHere 35 = .ok (.ifCond .eq 6, 3) := by decide +kernel
theorem dX6_palletsHere_38 : decode cX6_palletsHere 38 = .ok (.iinc 1 1, 3) := by decide +kernel
theorem dX6_palletsHere_41 : decode cX6_palletsHere 41 = .ok (.iinc 4 1, 3) := by decide +kernel
theorem dX6_palletsHere_44 : decode cX6_palletsHere 44 = .ok (.goto (-31), 3) := by decide +kernel
theorem dX6_palletsHere_47 : decode cX6_palletsHere 47 = .ok (.iload_n 1, 1) := by decide +kernel
theorem dX6_palletsHere_48 : decode cX6_palletsHere 48 = .ok (.ireturn, 1) := by decide +kernel
theorem dX6_spoiledHere_0 : decode cX6_spoiledHere 0 = .ok (.iconst 0, 1) := by decide +kernel
theorem dX6_spoiledHere_1 : decode cX6_spoiledHere 1 = .ok (.istore_n 1, 1) := by decide +kernel
theorem dX6_spoiledHere_2 : decode cX6_spoiledHere 2 = .ok (.aload_n 0, 1) := by decide +kernel
theorem dX6_spoiledHere_3 : decode cX6_spoiledHere 3 = .ok (.getfield 37, 3) := by decide +kernel
theorem dX6_spoiledHere_6 : decode cX6_spoiledHere 6 = .ok (.astore_n 2, 1) := by decide +kernel
theorem dX6_spoiledHere_7 : decode cX6_spoiledHere 7 = .ok (.aload_n 2, 1) := by decide +kernel
theorem dX6_spoiledHere_8 : decode cX6_spoiledHere 8 = .ok (.arraylength, 1) := by decide +kernel
theorem dX6_spoiledHere_9 : decode cX6_spoiledHere 9 = .ok (.istore_n 3, 1) := by decide +kernel
theorem dX6_spoiledHere_10 : decode cX6_spoiledHere 10 = .ok (.iconst 0, 1) := by decide +kernel
theorem dX6_spoiledHere_11 : decode cX6_spoiledHere 11 = .ok (.istore 4, 2) := by decide +kernel
theorem dX6_spoiledHere_13 : decode cX6_spoiledHere 13 = .ok (.iload 4, 2) := by decide +kernel
theorem dX6_spoiledHere_15 : decode cX6_spoiledHere 15 = .ok (.iload_n 3, 1) := by decide +kernel
theorem dX6_spoiledHere_16 : decode cX6_spoiledHere 16 = .ok (.if_icmp .ge 39, 3) := by decide +kernel
theorem dX6_spoiledHere_19 : decode cX6_spoiledHere 19 = .ok (.aload_n 2, 1) := by decide +kernel
theorem dX6_spoiledHere_20 : decode cX6_spoiledHere 20 = .ok (.iload 4, 2) := by decide +kernel
theorem dX6_spoiledHere_22 : decode cX6_spoiledHere 22 = .ok (.aaload, 1) := by decide +kernel
theorem dX6_spoiledHere_23 : decode cX6_spoiledHere 23 = .ok (.astore 5, 2) := by decide +kernel
theorem dX6_spoiledHere_25 : decode cX6_spoiledHere 25 = .ok (.aload 5, 2) := by decide +kernel
theorem dX6_spoiledHere_27 : decode cX6_spoiledHere 27 = .ok (.ifnull 22, 3) := by decide +kernel
theorem dX6_spoiledHere_30 : decode cX6_spoiledHere 30 = .ok (.aload 5, 2) := by decide +kernel
theorem dX6_spoiledHere_32 : decode cX6_spoiledHere 32 = .ok (.invokevirtual 187, 3) := by decide +kernel
theorem dX6_spoiledHere_35 : decode cX6_spoiledHere 35 = .ok (.ifCond .eq 14, 3) := by decide +kernel
theorem dX6_spoiledHere_38 : decode cX6_spoiledHere 38 = .ok (.aload 5, 2) := by decide +kernel
theorem dX6_spoiledHere_40 : decode cX6_spoiledHere 40 = .ok (.invokevirtual 191, 3) := by decide +kernel
theorem dX6_spoiledHere_43 : decode cX6_spoiledHere 43 = .ok (.ifCond .eq 6, 3) := by decide +kernel
theorem dX6_spoiledHere_46 : decode cX6_spoiledHere 46 = .ok (.iinc 1 1, 3) := by decide +kernel
theorem dX6_spoiledHere_49 : decode cX6_spoiledHere 49 = .ok (.iinc 4 1, 3) := by decide +kernel
theorem dX6_spoiledHere_52 : decode cX6_spoiledHere 52 = .ok (.goto (-39), 3) := by decide +kernel
theorem dX6_spoiledHere_55 : decode cX6_spoiledHere 55 = .ok (.iload_n 1, 1) := by decide +kernel
theorem dX6_spoiledHere_56 : decode cX6_spoiledHere 56 = .ok (.ireturn, 1) := by decide +kernel
theorem dX6_nextToShip_0 : decode cX6_nextToShip 0 = .ok (.aconst_null, 1) := by decide +kernel
theorem dX6_nextToShip_1 : decode cX6_nextToShip 1 = .ok (.astore_n 3, 1) := by decide +kernel
theorem dX6_nextToShip_2 : decode cX6_nextToShip 2 = .ok (.aload_n 0, 1) := by decide +kernel
theorem dX6_nextToShip_3 : decode cX6_nextToShip 3 = .ok (.getfield 37, 3) := by decide +kernel
theorem dX6_nextToShip_6 : decode cX6_nextToShip 6 = .ok (.astore 4, 2) := by decide +kernel
theorem dX6_nextToShip_8 : decode cX6_nextToShip 8 = .ok (.aload 4, 2) := by decide +kernel
theorem dX6_nextToShip_10 : decode cX6_nextToShip 10 = .ok (.arraylength, 1) := by decide +kernel
theorem dX6_nextToShip_11 : decode cX6_nextToShip 11 = .ok (.istore 5, 2) := by decide +kernel
theorem dX6_nextToShip_13 : decode cX6_nextToShip 13 = .ok (.iconst 0, 1) := by decide +kernel
theorem dX6_nextToShip_14 : decode cX6_nextToShip 14 = .ok (.istore 6, 2) := by decide +kernel
theorem dX6_nextToShip_16 : decode cX6_nextToShip 16 = .ok (.iload 6, 2) := by decide +kernel
theorem dX6_nextToShip_18 : decode cX6_nextToShip 18 = .ok (.iload 5, 2) := by decide +kernel
theorem dX6_nextToShip_20 : decode cX6_nextToShip 20 = .ok (.if_icmp .ge 58, 3) := by decide +kernel
theorem dX6_nextToShip_23 : decode cX6_nextToShip 23 = .ok (.aload 4, 2) := by decide +kernel
theorem dX6_nextToShip_25 : decode cX6_nextToShip 25 = .ok (.iload 6, 2) := by decide +kernel
theorem dX6_nextToShip_27 : decode cX6_nextToShip 27 = .ok (.aaload, 1) := by decide +kernel
theorem dX6_nextToShip_28 : decode cX6_nextToShip 28 = .ok (.astore 7, 2) := by decide +kernel
theorem dX6_nextToShip_30 : decode cX6_nextToShip 30 = .ok (.aload 7, 2) := by decide +kernel
theorem dX6_nextToShip_32 : decode cX6_nextToShip 32 = .ok (.ifnull 40, 3) := by decide +kernel
theorem dX6_nextToShip_35 : decode cX6_nextToShip 35 = .ok (.aload 7, 2) := by decide +kernel
theorem dX6_nextToShip_37 : decode cX6_nextToShip 37 = .ok (.aload_n 1, 1) := by decide +kernel
theorem dX6_nextToShip_38 : decode cX6_nextToShip 38 = .ok (.invokevirtual 194, 3) := by decide +kernel
theorem dX6_nextToShip_41 : decode cX6_nextToShip 41 = .ok (.ifCond .eq 31, 3) := by decide +kernel
theorem dX6_nextToShip_44 : decode cX6_nextToShip 44 = .ok (.aload 7, 2) := by decide +kernel
theorem dX6_nextToShip_46 : decode cX6_nextToShip 46 = .ok (.invokevirtual 228, 3) := by decide +kernel
theorem dX6_nextToShip_49 : decode cX6_nextToShip 49 = .ok (.iload_n 2, 1) := by decide +kernel
theorem dX6_nextToShip_50 : decode cX6_nextToShip 50 = .ok (.if_icmp .lt 22, 3) := by decide +kernel
theorem dX6_nextToShip_53 : decode cX6_nextToShip 53 = .ok (.aload_n 3, 1) := by decide +kernel
theorem dX6_nextToShip_54 : decode cX6_nextToShip 54 = .ok (.ifnull 15, 3) := by decide +kernel
theorem dX6_nextToShip_57 : decode cX6_nextToShip 57 = .ok (.aload 7, 2) := by decide +kernel
theorem dX6_nextToShip_59 : decode cX6_nextToShip 59 = .ok (.invokevirtual 228, 3) := by decide +kernel
theorem dX6_nextToShip_62 : decode cX6_nextToShip 62 = .ok (.aload_n 3, 1) := by decide +kernel
theorem dX6_nextToShip_63 : decode cX6_nextToShip 63 = .ok (.invokevirtual 228, 3) := by decide +kernel
theorem dX6_nextToShip_66 : decode cX6_nextToShip 66 = .ok (.if_icmp .ge 6, 3) := by decide +kernel
theorem dX6_nextToShip_69 : decode cX6_nextToShip 69 = .ok (.aload 7, 2) := by decide +kernel
theorem dX6_nextToShip_71 : decode cX6_nextToShip 71 = .ok (.astore_n 3, 1) := by decide +kernel
theorem dX6_nextToShip_72 : decode cX6_nextToShip 72 = .ok (.iinc 6 1, 3) := by decide +kernel
theorem dX6_nextToShip_75 : decode cX6_nextToShip 75 = .ok (.goto (-59), 3) := by decide +kernel
theorem dX6_nextToShip_78 : decode cX6_nextToShip 78 = .ok (.aload_n 3, 1) := by decide +kernel
theorem dX6_nextToShip_79 : decode cX6_nextToShip 79 = .ok (.areturn, 1) := by decide +kernel
theorem dX6_leave_0 : decode cX6_leave 0 = .ok (.aload_n 0, 1) := by decide +kernel
theorem dX6_leave_1 : decode cX6_leave 1 = .ok (.getfield 154, 3) := by decide +kernel
theorem dX6_leave_4 : decode cX6_leave 4 = .ok (.astore_n 1, 1) := by decide +kernel
theorem dX6_leave_5 : decode cX6_leave 5 = .ok (.aload_n 1, 1) := by decide +kernel
theorem dX6_leave_6 : decode cX6_leave 6 = .ok (.ifnull 8, 3) := by decide +kernel
theorem dX6_leave_9 : decode cX6_leave 9 = .ok (.aload_n 1, 1) := by decide +kernel
theorem dX6_leave_10 : decode cX6_leave 10 = .ok (.aload_n 0, 1) := by decide +kernel
theorem dX6_leave_11 : decode cX6_leave 11 = .ok (.invokevirtual 164, 3) := by decide +kernel
theorem dX6_leave_14 : decode cX6_leave 14 = .ok (.return_, 1) := by decide +kernel
theorem dX6_passHourEverywhere_0 : decode cX6_passHourEverywhere 0 = .ok (.aload_n 0, 1) := by decide +kernel
theorem dX6_passHourEverywhere_1 : decode cX6_passHourEverywhere 1 = .ok (.getfield 19, 3) := by decide +kernel
theorem dX6_passHourEverywhere_4 : decode cX6_passHourEverywhere 4 = .ok (.aload_n 0, 1) := by decide +kernel
theorem dX6_passHourEverywhere_5 : decode cX6_passHourEverywhere 5 = .ok (.getfield 54, 3) := by decide +kernel
theorem dX6_passHourEverywhere_8 : decode cX6_passHourEverywhere 8 = .ok (.invokevirtual 260, 3) := by decide +kernel
theorem dX6_passHourEverywhere_11 : decode cX6_passHourEverywhere 11 = .ok (.istore_n 1, 1) := by decide +kernel
theorem dX6_passHourEverywhere_12 : decode cX6_passHourEverywhere 12 = .ok (.aload_n 0, 1) := by decide +kernel
theorem dX6_passHourEverywhere_13 : decode cX6_passHourEverywhere 13 = .ok (.getfield 31, 3) := by decide +kernel
theorem dX6_passHourEverywhere_16 : decode cX6_passHourEverywhere 16 = .ok (.astore_n 2, 1) := by decide +kernel
theorem dX6_passHourEverywhere_17 : decode cX6_passHourEverywhere 17 = .ok (.aload_n 2, 1) := by decide +kernel
theorem dX6_passHourEverywhere_18 : decode cX6_passHourEverywhere 18 = .ok (.arraylength, 1) := by decide +kernel
theorem dX6_passHourEverywhere_19 : decode cX6_passHourEverywhere 19 = .ok (.istore_n 3, 1) := by decide +kernel
theorem dX6_passHourEverywhere_20 : decode cX6_passHourEverywhere 20 = .ok (.iconst 0, 1) := by decide +kernel
theorem dX6_passHourEverywhere_21 : decode cX6_passHourEverywhere 21 = .ok (.istore 4, 2) := by decide +kernel
theorem dX6_passHourEverywhere_23 : decode cX6_passHourEverywhere 23 = .ok (.iload 4, 2) := by decide +kernel
theorem dX6_passHourEverywhere_25 : decode cX6_passHourEverywhere 25 = .ok (.iload_n 3, 1) := by decide +kernel
theorem dX6_passHourEverywhere_26 : decode cX6_passHourEverywhere 26 = .ok (.if_icmp .ge 43, 3) := by decide +kernel
theorem dX6_passHourEverywhere_29 : decode cX6_passHourEverywhere 29 = .ok (.aload_n 2, 1) := by decide +kernel
theorem dX6_passHourEverywhere_30 : decode cX6_passHourEverywhere 30 = .ok (.iload 4, 2) := by decide +kernel
theorem dX6_passHourEverywhere_32 : decode cX6_passHourEverywhere 32 = .ok (.aaload, 1) := by decide +kernel
theorem dX6_passHourEverywhere_33 : decode cX6_passHourEverywhere 33 = .ok (.astore 5, 2) := by decide +kernel
theorem dX6_passHourEverywhere_35 : decode cX6_passHourEverywhere 35 = .ok (.aload 5, 2) := by decide +kernel
theorem dX6_passHourEverywhere_37 : decode cX6_passHourEverywhere 37 = .ok (.ifnull 26, 3) := by decide +kernel
theorem dX6_passHourEverywhere_40 : decode cX6_passHourEverywhere 40 = .ok (.aload_n 0, 1) := by decide +kernel
theorem dX6_passHourEverywhere_41 : decode cX6_passHourEverywhere 41 = .ok (.dup, 1) := by decide +kernel
theorem dX6_passHourEverywhere_42 : decode cX6_passHourEverywhere 42 = .ok (.getfield 57, 3) := by decide +kernel
theorem dX6_passHourEverywhere_45 : decode cX6_passHourEverywhere 45 = .ok (.iload_n 1, 1) := by decide +kernel
theorem dX6_passHourEverywhere_46 : decode cX6_passHourEverywhere 46 = .ok (.i2l, 1) := by decide +kernel
theorem dX6_passHourEverywhere_47 : decode cX6_passHourEverywhere 47 = .ok (.aload_n 0, 1) := by decide +kernel
theorem dX6_passHourEverywhere_48 : decode cX6_passHourEverywhere 48 = .ok (.aload 5, 2) := by decide +kernel
theorem dX6_passHourEverywhere_50 : decode cX6_passHourEverywhere 50 = .ok (.aload_n 0, 1) := by decide +kernel
theorem dX6_passHourEverywhere_51 : decode cX6_passHourEverywhere 51 = .ok (.getfield 54, 3) := by decide +kernel
theorem dX6_passHourEverywhere_54 : decode cX6_passHourEverywhere 54 = .ok (.invokevirtual 216, 3) := by decide +kernel
theorem dX6_passHourEverywhere_57 : decode cX6_passHourEverywhere 57 = .ok (.i2l, 1) := by decide +kernel
theorem dX6_passHourEverywhere_58 : decode cX6_passHourEverywhere 58 = .ok (.lmul, 1) := by decide +kernel
theorem dX6_passHourEverywhere_59 : decode cX6_passHourEverywhere 59 = .ok (.ladd, 1) := by decide +kernel
theorem dX6_passHourEverywhere_60 : decode cX6_passHourEverywhere 60 = .ok (.putfield 57, 3) := by decide +kernel
theorem dX6_passHourEverywhere_63 : decode cX6_passHourEverywhere 63 = .ok (.iinc 4 1, 3) := by decide +kernel
theorem dX6_passHourEverywhere_66 : decode cX6_passHourEverywhere 66 = .ok (.goto (-43), 3) := by decide +kernel
theorem dX6_passHourEverywhere_69 : decode cX6_passHourEverywhere 69 = .ok (.aload_n 0, 1) := by decide +kernel
theorem dX6_passHourEverywhere_70 : decode cX6_passHourEverywhere 70 = .ok (.dup, 1) := by decide +kernel
theorem dX6_passHourEverywhere_71 : decode cX6_passHourEverywhere 71 = .ok (.getfield 54, 3) := by decide +kernel
theorem dX6_passHourEverywhere_74 : decode cX6_passHourEverywhere 74 = .ok (.iconst 1, 1) := by decide +kernel
theorem dX6_passHourEverywhere_75 : decode cX6_passHourEverywhere 75 = .ok (.iadd, 1) := by decide +kernel
theorem dX6_passHourEverywhere_76 : decode cX6_passHourEverywhere 76 = .ok (.putfield 54, 3) := by decide +kernel
theorem dX6_passHourEverywhere_79 : decode cX6_passHourEverywhere 79 = .ok (.return_, 1) := by decide +kernel
theorem dX6_passHourIn_0 : decode cX6_passHourIn 0 = .ok (.aload_n 1, 1) := by decide +kernel
theorem dX6_passHourIn_1 : decode cX6_passHourIn 1 = .ok (.aload_n 0, 1) := by decide +kernel
theorem dX6_passHourIn_2 : decode cX6_passHourIn 2 = .ok (.getfield 10, 3) := by decide +kernel
theorem dX6_passHourIn_5 : decode cX6_passHourIn 5 = .ok (.iload_n 2, 1) := by decide +kernel
theorem dX6_passHourIn_6 : decode cX6_passHourIn 6 = .ok (.invokevirtual 71, 3) := by decide +kernel
theorem dX6_passHourIn_9 : decode cX6_passHourIn 9 = .ok (.aload_n 0, 1) := by decide +kernel
theorem dX6_passHourIn_10 : decode cX6_passHourIn 10 = .ok (.getfield 19, 3) := by decide +kernel
theorem dX6_passHourIn_13 : decode cX6_passHourIn 13 = .ok (.iload_n 2, 1) := by decide +kernel
theorem dX6_passHourIn_14 : decode cX6_passHourIn 14 = .ok (.invokevirtual 263, 3) := by decide +kernel
theorem dX6_passHourIn_17 : decode cX6_passHourIn 17 = .ok (.invokevirtual 267, 3) := by decide +kernel
theorem dX6_passHourIn_20 : decode cX6_passHourIn 20 = .ok (.ireturn, 1) := by decide +kernel
theorem dJ9_floorMod_7cf53_0 : decode cJ9_floorMod_7cf53 0 = .ok (.iload_n 0, 1) := by decide +kernel
theorem dJ9_floorMod_7cf53_1 : decode cJ9_floorMod_7cf53 1 = .ok (.iload_n 1, 1) := by decide +kernel
theorem dJ9_floorMod_7cf53_2 : decode cJ9_floorMod_7cf53 2 = .ok (.irem, 1) := by decide +kernel
theorem dJ9_floorMod_7cf53_3 : decode cJ9_floorMod_7cf53 3 = .ok (.istore_n 2, 1) := by decide +kernel
theorem dJ9_floorMod_7cf53_4 : decode cJ9_floorMod_7cf53 4 = .ok (.iload_n 0, 1) := by decide +kernel
theorem dJ9_floorMod_7cf53_5 : decode cJ9_floorMod_7cf53 5 = .ok (.iload_n 1, 1) := by decide +kernel
theorem dJ9_floorMod_7cf53_6 : decode cJ9_floorMod_7cf53 6 = .ok (.ixor, 1) := by decide +kernel
theorem dJ9_floorMod_7cf53_7 : decode cJ9_floorMod_7cf53 7 = .ok (.ifCond .ge 11, 3) := by decide +kernel
theorem dJ9_floorMod_7cf53_10 : decode cJ9_floorMod_7cf53 10 = .ok (.iload_n 2, 1) := by decide +kernel
theorem dJ9_floorMod_7cf53_11 : decode cJ9_floorMod_7cf53 11 = .ok (.ifCond .eq 7, 3) := by decide +kernel
theorem dJ9_floorMod_7cf53_14 : decode cJ9_floorMod_7cf53 14 = .ok (.iload_n 2, 1) := by decide +kernel
theorem dJ9_floorMod_7cf53_15 : decode cJ9_floorMod_7cf53 15 = .ok (.iload_n 1, 1) := by decide +kernel
theorem dJ9_floorMod_7cf53_16 : decode cJ9_floorMod_7cf53 16 = .ok (.iadd, 1) := by decide +kernel
theorem dJ9_floorMod_7cf53_17 : decode cJ9_floorMod_7cf53 17 = .ok (.ireturn, 1) := by decide +kernel
theorem dJ9_floorMod_7cf53_18 : decode cJ9_floorMod_7cf53 18 = .ok (.iload_n 2, 1) := by decide +kernel
theorem dJ9_floorMod_7cf53_19 : decode cJ9_floorMod_7cf53 19 = .ok (.ireturn, 1) := by decide +kernel
theorem dJ9_abs_0f7a4_0 : decode cJ9_abs_0f7a4 0 = .ok (.iload_n 0, 1) := by decide +kernel
theorem dJ9_abs_0f7a4_1 : decode cJ9_abs_0f7a4 1 = .ok (.ifCond .ge 8, 3) := by decide +kernel
theorem dJ9_abs_0f7a4_4 : decode cJ9_abs_0f7a4 4 = .ok (.iload_n 0, 1) := by decide +kernel
theorem dJ9_abs_0f7a4_5 : decode cJ9_abs_0f7a4 5 = .ok (.ineg, 1) := by decide +kernel
theorem dJ9_abs_0f7a4_6 : decode cJ9_abs_0f7a4 6 = .ok (.goto 4, 3) := by decide +kernel
theorem dJ9_abs_0f7a4_9 : decode cJ9_abs_0f7a4 9 = .ok (.iload_n 0, 1) := by decide +kernel
theorem dJ9_abs_0f7a4_10 : decode cJ9_abs_0f7a4 10 = .ok (.ireturn, 1) := by decide +kernel
theorem dJ9_min_7cf53_0 : decode cJ9_min_7cf53 0 = .ok (.iload_n 0, 1) := by decide +kernel
theorem dJ9_min_7cf53_1 : decode cJ9_min_7cf53 1 = .ok (.iload_n 1, 1) := by decide +kernel
theorem dJ9_min_7cf53_2 : decode cJ9_min_7cf53 2 = .ok (.if_icmp .gt 7, 3) := by decide +kernel
theorem dJ9_min_7cf53_5 : decode cJ9_min_7cf53 5 = .ok (.iload_n 0, 1) := by decide +kernel
theorem dJ9_min_7cf53_6 : decode cJ9_min_7cf53 6 = .ok (.goto 4, 3) := by decide +kernel
theorem dJ9_min_7cf53_9 : decode cJ9_min_7cf53 9 = .ok (.iload_n 1, 1) := by decide +kernel
theorem dJ9_min_7cf53_10 : decode cJ9_min_7cf53 10 = .ok (.ireturn, 1) := by decide +kernel
