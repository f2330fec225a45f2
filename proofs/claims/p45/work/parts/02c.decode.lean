theorem dX7_checkShaft_12 : decode cX7_checkShaft 12 = .ok (.new 364, 3) := by decide +kernel
theorem dX7_checkShaft_15 : decode cX7_checkShaft 15 = .ok (.dup, 1) := by decide +kernel
theorem dX7_checkShaft_16 : decode cX7_checkShaft 16 = .ok (.ldc_w 366, 3) := by decide +kernel
theorem dX7_checkShaft_19 : decode cX7_checkShaft 19 = .ok (.invokespecial 368, 3) := by decide +kernel
theorem dX7_checkShaft_22 : decode cX7_checkShaft 22 = .ok (.athrow, 1) := by decide +kernel
theorem dX7_checkShaft_23 : decode cX7_checkShaft 23 = .ok (.return_, 1) := by decide +kernel
theorem dX7_checkLink_0 : decode cX7_checkLink 0 = .ok (.iload_n 1, 1) := by decide +kernel
theorem dX7_checkLink_1 : decode cX7_checkLink 1 = .ok (.ifCond .lt 14, 3) := by decide +kernel
theorem dX7_checkLink_4 : decode cX7_checkLink 4 = .ok (.iload_n 1, 1) := by decide +kernel
theorem dX7_checkLink_5 : decode cX7_checkLink 5 = .ok (.aload_n 0, 1) := by decide +kernel
theorem dX7_checkLink_6 : decode cX7_checkLink 6 = .ok (.getfield 10, 3) := by decide +kernel
theorem dX7_checkLink_9 : decode cX7_checkLink 9 = .ok (.invokevirtual 103, 3) := by decide +kernel
theorem dX7_checkLink_12 : decode cX7_checkLink 12 = .ok (.if_icmp .lt 14, 3) := by decide +kernel
theorem dX7_checkLink_15 : decode cX7_checkLink 15 = .ok (.new 364, 3) := by decide +kernel
theorem dX7_checkLink_18 : decode cX7_checkLink 18 = .ok (.dup, 1) := by decide +kernel
theorem dX7_checkLink_19 : decode cX7_checkLink 19 = .ok (.ldc_w 369, 3) := by decide +kernel
theorem dX7_checkLink_22 : decode cX7_checkLink 22 = .ok (.invokespecial 368, 3) := by decide +kernel
theorem dX7_checkLink_25 : decode cX7_checkLink 25 = .ok (.athrow, 1) := by decide +kernel
theorem dX7_checkLink_26 : decode cX7_checkLink 26 = .ok (.return_, 1) := by decide +kernel
theorem dX7_linkAt_0 : decode cX7_linkAt 0 = .ok (.aload_n 0, 1) := by decide +kernel
theorem dX7_linkAt_1 : decode cX7_linkAt 1 = .ok (.iload_n 1, 1) := by decide +kernel
theorem dX7_linkAt_2 : decode cX7_linkAt 2 = .ok (.invokevirtual 201, 3) := by decide +kernel
theorem dX7_linkAt_5 : decode cX7_linkAt 5 = .ok (.aload_n 0, 1) := by decide +kernel
theorem dX7_linkAt_6 : decode cX7_linkAt 6 = .ok (.getfield 10, 3) := by decide +kernel
theorem dX7_linkAt_9 : decode cX7_linkAt 9 = .ok (.iload_n 1, 1) := by decide +kernel
theorem dX7_linkAt_10 : decode cX7_linkAt 10 = .ok (.invokevirtual 337, 3) := by decide +kernel
theorem dX7_linkAt_13 : decode cX7_linkAt 13 = .ok (.checkcast 101, 3) := by decide +kernel
theorem dX7_linkAt_16 : decode cX7_linkAt 16 = .ok (.areturn, 1) := by decide +kernel
theorem dX7_checkRange_0 : decode cX7_checkRange 0 = .ok (.iload_n 0, 1) := by decide +kernel
theorem dX7_checkRange_1 : decode cX7_checkRange 1 = .ok (.iload_n 1, 1) := by decide +kernel
theorem dX7_checkRange_2 : decode cX7_checkRange 2 = .ok (.if_icmp .lt 8, 3) := by decide +kernel
theorem dX7_checkRange_5 : decode cX7_checkRange 5 = .ok (.iload_n 0, 1) := by decide +kernel
theorem dX7_checkRange_6 : decode cX7_checkRange 6 = .ok (.iload_n 2, 1) := by decide +kernel
theorem dX7_checkRange_7 : decode cX7_checkRange 7 = .ok (.if_icmp .le 14, 3) := by decide +kernel
theorem dX7_checkRange_10 : decode cX7_checkRange 10 = .ok (.new 91, 3) := by decide +kernel
theorem dX7_checkRange_13 : decode cX7_checkRange 13 = .ok (.dup, 1) := by decide +kernel
theorem dX7_checkRange_14 : decode cX7_checkRange 14 = .ok (.ldc_w 380, 3) := by decide +kernel
theorem dX7_checkRange_17 : decode cX7_checkRange 17 = .ok (.invokespecial 95, 3) := by decide +kernel
theorem dX7_checkRange_20 : decode cX7_checkRange 20 = .ok (.athrow, 1) := by decide +kernel
theorem dX7_checkRange_21 : decode cX7_checkRange 21 = .ok (.return_, 1) := by decide +kernel
theorem dX7_hasMeaning_0 : decode cX7_hasMeaning 0 = .ok (.iload_n 0, 1) := by decide +kernel
theorem dX7_hasMeaning_1 : decode cX7_hasMeaning 1 = .ok (.bipush 103, 2) := by decide +kernel
theorem dX7_hasMeaning_3 : decode cX7_hasMeaning 3 = .ok (.if_icmp .eq 9, 3) := by decide +kernel
theorem dX7_hasMeaning_6 : decode cX7_hasMeaning 6 = .ok (.iload_n 0, 1) := by decide +kernel
theorem dX7_hasMeaning_7 : decode cX7_hasMeaning 7 = .ok (.bipush 105, 2) := by decide +kernel
theorem dX7_hasMeaning_9 : decode cX7_hasMeaning 9 = .ok (.if_icmp .ne 31, 3) := by decide +kernel
theorem dX7_hasMeaning_12 : decode cX7_hasMeaning 12 = .ok (.iload_n 1, 1) := by decide +kernel
theorem dX7_hasMeaning_13 : decode cX7_hasMeaning 13 = .ok (.bipush 6, 2) := by decide +kernel
theorem dX7_hasMeaning_15 : decode cX7_hasMeaning 15 = .ok (.bipush 30, 2) := by decide +kernel
theorem dX7_hasMeaning_17 : decode cX7_hasMeaning 17 = .ok (.invokestatic 384, 3) := by decide +kernel
theorem dX7_hasMeaning_20 : decode cX7_hasMeaning 20 = .ok (.ifCond .eq 18, 3) := by decide +kernel
theorem dX7_hasMeaning_23 : decode cX7_hasMeaning 23 = .ok (.iload_n 2, 1) := by decide +kernel
theorem dX7_hasMeaning_24 : decode cX7_hasMeaning 24 = .ok (.bipush 6, 2) := by decide +kernel
theorem dX7_hasMeaning_26 : decode cX7_hasMeaning 26 = .ok (.bipush 30, 2) := by decide +kernel
theorem dX7_hasMeaning_28 : decode cX7_hasMeaning 28 = .ok (.invokestatic 384, 3) := by decide +kernel
theorem dX7_hasMeaning_31 : decode cX7_hasMeaning 31 = .ok (.ifCond .eq 7, 3) := by decide +kernel
theorem dX7_hasMeaning_34 : decode cX7_hasMeaning 34 = .ok (.iconst 1, 1) := by decide +kernel
theorem dX7_hasMeaning_35 : decode cX7_hasMeaning 35 = .ok (.goto 4, 3) := by decide +kernel
theorem dX7_hasMeaning_38 : decode cX7_hasMeaning 38 = .ok (.iconst 0, 1) := by decide +kernel
theorem dX7_hasMeaning_39 : decode cX7_hasMeaning 39 = .ok (.ireturn, 1) := by decide +kernel
theorem dX7_hasMeaning_40 : decode cX7_hasMeaning 40 = .ok (.iload_n 0, 1) := by decide +kernel
theorem dX7_hasMeaning_41 : decode cX7_hasMeaning 41 = .ok (.bipush 118, 2) := by decide +kernel
theorem dX7_hasMeaning_43 : decode cX7_hasMeaning 43 = .ok (.if_icmp .ne 23, 3) := by decide +kernel
theorem dX7_hasMeaning_46 : decode cX7_hasMeaning 46 = .ok (.iload_n 1, 1) := by decide +kernel
theorem dX7_hasMeaning_47 : decode cX7_hasMeaning 47 = .ok (.iconst 3, 1) := by decide +kernel
theorem dX7_hasMeaning_48 : decode cX7_hasMeaning 48 = .ok (.bipush 12, 2) := by decide +kernel
theorem dX7_hasMeaning_50 : decode cX7_hasMeaning 50 = .ok (.invokestatic 384, 3) := by decide +kernel
theorem dX7_hasMeaning_53 : decode cX7_hasMeaning 53 = .ok (.ifCond .eq 11, 3) := by decide +kernel
theorem dX7_hasMeaning_56 : decode cX7_hasMeaning 56 = .ok (.iload_n 2, 1) := by decide +kernel
theorem dX7_hasMeaning_57 : decode cX7_hasMeaning 57 = .ok (.ifCond .ne 7, 3) := by decide +kernel
theorem dX7_hasMeaning_60 : decode cX7_hasMeaning 60 = .ok (.iconst 1, 1) := by decide +kernel
theorem dX7_hasMeaning_61 : decode cX7_hasMeaning 61 = .ok (.goto 4, 3) := by decide +kernel
theorem dX7_hasMeaning_64 : decode cX7_hasMeaning 64 = .ok (.iconst 0, 1) := by decide +kernel
theorem dX7_hasMeaning_65 : decode cX7_hasMeaning 65 = .ok (.ireturn, 1) := by decide +kernel
theorem dX7_hasMeaning_66 : decode cX7_hasMeaning 66 = .ok (.iload_n 0, 1) := by decide +kernel
theorem dX7_hasMeaning_67 : decode cX7_hasMeaning 67 = .ok (.bipush 114, 2) := by decide +kernel
theorem dX7_hasMeaning_69 : decode cX7_hasMeaning 69 = .ok (.if_icmp .ne 23, 3) := by decide +kernel
theorem dX7_hasMeaning_72 : decode cX7_hasMeaning 72 = .ok (.iload_n 1, 1) := by decide +kernel
theorem dX7_hasMeaning_73 : decode cX7_hasMeaning 73 = .ok (.iconst 3, 1) := by decide +kernel
theorem dX7_hasMeaning_74 : decode cX7_hasMeaning 74 = .ok (.bipush 24, 2) := by decide +kernel
theorem dX7_hasMeaning_76 : decode cX7_hasMeaning 76 = .ok (.invokestatic 384, 3) := by decide +kernel
theorem dX7_hasMeaning_79 : decode cX7_hasMeaning 79 = .ok (.ifCond .eq 11, 3) := by decide +kernel
theorem dX7_hasMeaning_82 : decode cX7_hasMeaning 82 = .ok (.iload_n 2, 1) := by decide +kernel
theorem dX7_hasMeaning_83 : decode cX7_hasMeaning 83 = .ok (.ifCond .ne 7, 3) := by decide +kernel
theorem dX7_hasMeaning_86 : decode cX7_hasMeaning 86 = .ok (.iconst 1, 1) := by decide +kernel
theorem dX7_hasMeaning_87 : decode cX7_hasMeaning 87 = .ok (.goto 4, 3) := by decide +kernel
theorem dX7_hasMeaning_90 : decode cX7_hasMeaning 90 = .ok (.iconst 0, 1) := by decide +kernel
theorem dX7_hasMeaning_91 : decode cX7_hasMeaning 91 = .ok (.ireturn, 1) := by decide +kernel
theorem dX7_hasMeaning_92 : decode cX7_hasMeaning 92 = .ok (.iload_n 0, 1) := by decide +kernel
theorem dX7_hasMeaning_93 : decode cX7_hasMeaning 93 = .ok (.bipush 107, 2) := by decide +kernel
theorem dX7_hasMeaning_95 : decode cX7_hasMeaning 95 = .ok (.if_icmp .ne 15, 3) := by decide +kernel
theorem dX7_hasMeaning_98 : decode cX7_hasMeaning 98 = .ok (.iload_n 1, 1) := by decide +kernel
theorem dX7_hasMeaning_99 : decode cX7_hasMeaning 99 = .ok (.ifCond .ne 11, 3) := by decide +kernel
theorem dX7_hasMeaning_102 : decode cX7_hasMeaning 102 = .ok (.iload_n 2, 1) := by decide +kernel
theorem dX7_hasMeaning_103 : decode cX7_hasMeaning 103 = .ok (.ifCond .ne 7, 3) := by decide +kernel
theorem dX7_hasMeaning_106 : decode cX7_hasMeaning 106 = .ok (.iconst 1, 1) := by decide +kernel
theorem dX7_hasMeaning_107 : decode cX7_hasMeaning 107 = .ok (.goto 4, 3) := by decide +kernel
theorem dX7_hasMeaning_110 : decode cX7_hasMeaning 110 = .ok (.iconst 0, 1) := by decide +kernel
theorem dX7_hasMeaning_111 : decode cX7_hasMeaning 111 = .ok (.ireturn, 1) := by decide +kernel
theorem dX7_isWithin_0 : decode cX7_isWithin 0 = .ok (.iload_n 0, 1) := by decide +kernel
theorem dX7_isWithin_1 : decode cX7_isWithin 1 = .ok (.iload_n 1, 1) := by decide +kernel
theorem dX7_isWithin_2 : decode cX7_isWithin 2 = .ok (.if_icmp .lt 12, 3) := by decide +kernel
theorem dX7_isWithin_5 : decode cX7_isWithin 5 = .ok (.iload_n 0, 1) := by decide +kernel
theorem dX7_isWithin_6 : decode cX7_isWithin 6 = .ok (.iload_n 2, 1) := by decide +kernel
theorem dX7_isWithin_7 : decode cX7_isWithin 7 = .ok (.if_icmp .gt 7, 3) := by decide +kernel
theorem dX7_isWithin_10 : decode cX7_isWithin 10 = .ok (.iconst 1, 1) := by decide +kernel
theorem dX7_isWithin_11 : decode cX7_isWithin 11 = .ok (.goto 4, 3) := by decide +kernel
theorem dX7_isWithin_14 : decode cX7_isWithin 14 = .ok (.iconst 0, 1) := by decide +kernel
theorem dX7_isWithin_15 : decode cX7_isWithin 15 = .ok (.ireturn, 1) := by decide +kernel
theorem dX7_addLink_0 : decode cX7_addLink 0 = .ok (.aload_n 0, 1) := by decide +kernel
theorem dX7_addLink_1 : decode cX7_addLink 1 = .ok (.getfield 25, 3) := by decide +kernel
theorem dX7_addLink_4 : decode cX7_addLink 4 = .ok (.aload_n 1, 1) := by decide +kernel
theorem dX7_addLink_5 : decode cX7_addLink 5 = .ok (.getfield 388, 3) := by decide +kernel
theorem dX7_addLink_8 : decode cX7_addLink 8 = .ok (.iaload, 1) := by decide +kernel
theorem dX7_addLink_9 : decode cX7_addLink 9 = .ok (.iconst (-1), 1) := by decide +kernel
theorem dX7_addLink_10 : decode cX7_addLink 10 = .ok (.if_icmp .eq 13, 3) := by decide +kernel
theorem dX7_addLink_13 : decode cX7_addLink 13 = .ok (.new 96, 3) := by decide +kernel
theorem dX7_addLink_16 : decode cX7_addLink 16 = .ok (.dup, 1) := by decide +kernel
theorem dX7_addLink_17 : decode cX7_addLink 17 = .ok (.ldc 148, 2) := by decide +kernel
theorem dX7_addLink_19 : decode cX7_addLink 19 = .ok (.invokespecial 100, 3) := by decide +kernel
theorem dX7_addLink_22 : decode cX7_addLink 22 = .ok (.athrow, 1) := by decide +kernel
theorem dX7_addLink_23 : decode cX7_addLink 23 = .ok (.aload_n 0, 1) := by decide +kernel
theorem dX7_addLink_24 : decode cX7_addLink 24 = .ok (.aload_n 1, 1) := by decide +kernel
theorem dX7_addLink_25 : decode cX7_addLink 25 = .ok (.invokevirtual 357, 3) := by decide +kernel
theorem dX7_addLink_28 : decode cX7_addLink 28 = .ok (.ifCond .ne 14, 3) := by decide +kernel
theorem dX7_addLink_31 : decode cX7_addLink 31 = .ok (.new 96, 3) := by decide +kernel
theorem dX7_addLink_34 : decode cX7_addLink 34 = .ok (.dup, 1) := by decide +kernel
theorem dX7_addLink_35 : decode cX7_addLink 35 = .ok (.ldc_w 391, 3) := by decide +kernel
theorem dX7_addLink_38 : decode cX7_addLink 38 = .ok (.invokespecial 100, 3) := by decide +kernel
theorem dX7_addLink_41 : decode cX7_addLink 41 = .ok (.athrow, 1) := by decide +kernel
theorem dX7_addLink_42 : decode cX7_addLink 42 = .ok (.aload_n 0, 1) := by decide +kernel
theorem dX7_addLink_43 : decode cX7_addLink 43 = .ok (.getfield 10, 3) := by decide +kernel
theorem dX7_addLink_46 : decode cX7_addLink 46 = .ok (.invokevirtual 103, 3) := by decide +kernel
theorem dX7_addLink_49 : decode cX7_addLink 49 = .ok (.bipush 16, 2) := by decide +kernel
theorem dX7_addLink_51 : decode cX7_addLink 51 = .ok (.if_icmp .lt 14, 3) := by decide +kernel
theorem dX7_addLink_54 : decode cX7_addLink 54 = .ok (.new 77, 3) := by decide +kernel
theorem dX7_addLink_57 : decode cX7_addLink 57 = .ok (.dup, 1) := by decide +kernel
theorem dX7_addLink_58 : decode cX7_addLink 58 = .ok (.ldc_w 393, 3) := by decide +kernel
theorem dX7_addLink_61 : decode cX7_addLink 61 = .ok (.invokespecial 81, 3) := by decide +kernel
theorem dX7_addLink_64 : decode cX7_addLink 64 = .ok (.athrow, 1) := by decide +kernel
theorem dX7_addLink_65 : decode cX7_addLink 65 = .ok (.aload_n 0, 1) := by decide +kernel
theorem dX7_addLink_66 : decode cX7_addLink 66 = .ok (.getfield 10, 3) := by decide +kernel
theorem dX7_addLink_69 : decode cX7_addLink 69 = .ok (.aload_n 1, 1) := by decide +kernel
theorem dX7_addLink_70 : decode cX7_addLink 70 = .ok (.invokevirtual 228, 3) := by decide +kernel
theorem dX7_addLink_73 : decode cX7_addLink 73 = .ok (.pop, 1) := by decide +kernel
theorem dX7_addLink_74 : decode cX7_addLink 74 = .ok (.aload_n 0, 1) := by decide +kernel
theorem dX7_addLink_75 : decode cX7_addLink 75 = .ok (.getfield 25, 3) := by decide +kernel
theorem dX7_addLink_78 : decode cX7_addLink 78 = .ok (.aload_n 1, 1) := by decide +kernel
theorem dX7_addLink_79 : decode cX7_addLink 79 = .ok (.getfield 388, 3) := by decide +kernel
theorem dX7_addLink_82 : decode cX7_addLink 82 = .ok (.aload_n 1, 1) := by decide +kernel
theorem dX7_addLink_83 : decode cX7_addLink 83 = .ok (.getfield 395, 3) := by decide +kernel
theorem dX7_addLink_86 : decode cX7_addLink 86 = .ok (.iastore, 1) := by decide +kernel
theorem dX7_addLink_87 : decode cX7_addLink 87 = .ok (.aload_n 0, 1) := by decide +kernel
theorem dX7_addLink_88 : decode cX7_addLink 88 = .ok (.getfield 54, 3) := by decide +kernel
theorem dX7_addLink_91 : decode cX7_addLink 91 = .ok (.aload_n 1, 1) := by decide +kernel
theorem dX7_addLink_92 : decode cX7_addLink 92 = .ok (.invokevirtual 213, 3) := by decide +kernel
theorem dX7_addLink_95 : decode cX7_addLink 95 = .ok (.aload_n 0, 1) := by decide +kernel
theorem dX7_addLink_96 : decode cX7_addLink 96 = .ok (.invokevirtual 398, 3) := by decide +kernel
theorem dX7_addLink_99 : decode cX7_addLink 99 = .ok (.aload_n 1, 1) := by decide +kernel
theorem dX7_addLink_100 : decode cX7_addLink 100 = .ok (.getfield 395, 3) := by decide +kernel
theorem dX7_addLink_103 : decode cX7_addLink 103 = .ok (.ireturn, 1) := by decide +kernel
theorem dX7_areLevelsFit_0 : decode cX7_areLevelsFit 0 = .ok (.aload_n 0, 1) := by decide +kernel
theorem dX7_areLevelsFit_1 : decode cX7_areLevelsFit 1 = .ok (.getfield 29, 3) := by decide +kernel
theorem dX7_areLevelsFit_4 : decode cX7_areLevelsFit 4 = .ok (.iconst 0, 1) := by decide +kernel
theorem dX7_areLevelsFit_5 : decode cX7_areLevelsFit 5 = .ok (.invokestatic 68, 3) := by decide +kernel
theorem dX7_areLevelsFit_8 : decode cX7_areLevelsFit 8 = .ok (.iconst 0, 1) := by decide +kernel
theorem dX7_areLevelsFit_9 : decode cX7_areLevelsFit 9 = .ok (.istore_n 2, 1) := by decide +kernel
theorem dX7_areLevelsFit_10 : decode cX7_areLevelsFit 10 = .ok (.iload_n 2, 1) := by decide +kernel
theorem dX7_areLevelsFit_11 : decode cX7_areLevelsFit 11 = .ok (.iconst 3, 1) := by decide +kernel
theorem dX7_areLevelsFit_12 : decode cX7_areLevelsFit 12 = .ok (.if_icmp .gt 52, 3) := by decide +kernel
theorem dX7_areLevelsFit_15 : decode cX7_areLevelsFit 15 = .ok (.iconst 0, 1) := by decide +kernel
theorem dX7_areLevelsFit_16 : decode cX7_areLevelsFit 16 = .ok (.istore_n 3, 1) := by decide +kernel
theorem dX7_areLevelsFit_17 : decode cX7_areLevelsFit 17 = .ok (.iload_n 3, 1) := by decide +kernel
theorem dX7_areLevelsFit_18 : decode cX7_areLevelsFit 18 = .ok (.aload_n 0, 1) := by decide +kernel
theorem dX7_areLevelsFit_19 : decode cX7_areLevelsFit 19 = .ok (.getfield 10, 3) := by decide +kernel
theorem dX7_areLevelsFit_22 : decode cX7_areLevelsFit 22 = .ok (.invokevirtual 103, 3) := by decide +kernel
theorem dX7_areLevelsFit_25 : decode cX7_areLevelsFit 25 = .ok (.if_icmp .ge 24, 3) := by decide +kernel
theorem dX7_areLevelsFit_28 : decode cX7_areLevelsFit 28 = .ok (.aload_n 0, 1) := by decide +kernel
theorem dX7_areLevelsFit_29 : decode cX7_areLevelsFit 29 = .ok (.aload_n 0, 1) := by decide +kernel
theorem dX7_areLevelsFit_30 : decode cX7_areLevelsFit 30 = .ok (.getfield 10, 3) := by decide +kernel
theorem dX7_areLevelsFit_33 : decode cX7_areLevelsFit 33 = .ok (.iload_n 3, 1) := by decide +kernel
theorem dX7_areLevelsFit_34 : decode cX7_areLevelsFit 34 = .ok (.invokevirtual 337, 3) := by decide +kernel
theorem dX7_areLevelsFit_37 : decode cX7_areLevelsFit 37 = .ok (.checkcast 101, 3) := by decide +kernel
theorem dX7_areLevelsFit_40 : decode cX7_areLevelsFit 40 = .ok (.invokevirtual 401, 3) := by decide +kernel
theorem dX7_areLevelsFit_43 : decode cX7_areLevelsFit 43 = .ok (.iinc 3 1, 3) := by decide +kernel
theorem dX7_areLevelsFit_46 : decode cX7_areLevelsFit 46 = .ok (.goto (-29), 3) := by decide +kernel
theorem dX7_areLevelsFit_49 : decode cX7_areLevelsFit 49 = .ok (.aload_n 1, 1) := by decide +kernel
theorem dX7_areLevelsFit_50 : decode cX7_areLevelsFit 50 = .ok (.ifnull 8, 3) := by decide +kernel
theorem dX7_areLevelsFit_53 : decode cX7_areLevelsFit 53 = .ok (.aload_n 0, 1) := by decide +kernel
theorem dX7_areLevelsFit_54 : decode cX7_areLevelsFit 54 = .ok (.aload_n 1, 1) := by decide +kernel
theorem dX7_areLevelsFit_55 : decode cX7_areLevelsFit 55 = .ok (.invokevirtual 401, 3) := by decide +kernel
theorem dX7_areLevelsFit_58 : decode cX7_areLevelsFit 58 = .ok (.iinc 2 1, 3) := by decide +kernel
theorem dX7_areLevelsFit_61 : decode cX7_areLevelsFit 61 = .ok (.goto (-51), 3) := by decide +kernel
theorem dX7_areLevelsFit_64 : decode cX7_areLevelsFit 64 = .ok (.iconst 0, 1) := by decide +kernel
theorem dX7_areLevelsFit_65 : decode cX7_areLevelsFit 65 = .ok (.istore_n 2, 1) := by decide +kernel
theorem dX7_areLevelsFit_66 : decode cX7_areLevelsFit 66 = .ok (.iload_n 2, 1) := by decide +kernel
theorem dX7_areLevelsFit_67 : decode cX7_areLevelsFit 67 = .ok (.aload_n 0, 1) := by decide +kernel
theorem dX7_areLevelsFit_68 : decode cX7_areLevelsFit 68 = .ok (.getfield 74, 3) := by decide +kernel
theorem dX7_areLevelsFit_71 : decode cX7_areLevelsFit 71 = .ok (.if_icmp .ge 21, 3) := by decide +kernel
theorem dX7_areLevelsFit_74 : decode cX7_areLevelsFit 74 = .ok (.aload_n 0, 1) := by decide +kernel
theorem dX7_areLevelsFit_75 : decode cX7_areLevelsFit 75 = .ok (.getfield 29, 3) := by decide +kernel
theorem dX7_areLevelsFit_78 : decode cX7_areLevelsFit 78 = .ok (.iload_n 2, 1) := by decide +kernel
theorem dX7_areLevelsFit_79 : decode cX7_areLevelsFit 79 = .ok (.iaload, 1) := by decide +kernel
theorem dX7_areLevelsFit_80 : decode cX7_areLevelsFit 80 = .ok (.iconst 3, 1) := by decide +kernel
theorem dX7_areLevelsFit_81 : decode cX7_areLevelsFit 81 = .ok (.if_icmp .le 5, 3) := by decide +kernel
theorem dX7_areLevelsFit_84 : decode cX7_areLevelsFit 84 = .ok (.iconst 0, 1) := by decide +kernel
theorem dX7_areLevelsFit_85 : decode cX7_areLevelsFit 85 = .ok (.ireturn, 1) := by decide +kernel
theorem dX7_areLevelsFit_86 : decode cX7_areLevelsFit 86 = .ok (.iinc 2 1, 3) := by decide +kernel
theorem dX7_areLevelsFit_89 : decode cX7_areLevelsFit 89 = .ok (.goto (-23), 3) := by decide +kernel
theorem dX7_areLevelsFit_92 : decode cX7_areLevelsFit 92 = .ok (.iconst 1, 1) := by decide +kernel
theorem dX7_areLevelsFit_93 : decode cX7_areLevelsFit 93 = .ok (.ireturn, 1) := by decide +kernel
theorem dX7_raiseLevel_0 : decode cX7_raiseLevel 0 = .ok (.aload_n 0, 1) := by decide +kernel
theorem dX7_raiseLevel_1 : decode cX7_raiseLevel 1 = .ok (.getfield 29, 3) := by decide +kernel
theorem dX7_raiseLevel_4 : decode cX7_raiseLevel 4 = .ok (.aload_n 1, 1) := by decide +kernel
theorem dX7_raiseLevel_5 : decode cX7_raiseLevel 5 = .ok (.getfield 404, 3) := by decide +kernel
theorem dX7_raiseLevel_8 : decode cX7_raiseLevel 8 = .ok (.iaload, 1) := by decide +kernel
theorem dX7_raiseLevel_9 : decode cX7_raiseLevel 9 = .ok (.istore_n 2, 1) := by decide +kernel
theorem dX7_raiseLevel_10 : decode cX7_raiseLevel 10 = .ok (.aload_n 1, 1) := by decide +kernel
theorem dX7_raiseLevel_11 : decode cX7_raiseLevel 11 = .ok (.invokevirtual 407, 3) := by decide +kernel
theorem dX7_raiseLevel_14 : decode cX7_raiseLevel 14 = .ok (.ifCond .eq 17, 3) := by decide +kernel
theorem dX7_raiseLevel_17 : decode cX7_raiseLevel 17 = .ok (.iload_n 2, 1) := by decide +kernel
theorem dX7_raiseLevel_18 : decode cX7_raiseLevel 18 = .ok (.aload_n 0, 1) := by decide +kernel
theorem dX7_raiseLevel_19 : decode cX7_raiseLevel 19 = .ok (.getfield 29, 3) := by decide +kernel
theorem dX7_raiseLevel_22 : decode cX7_raiseLevel 22 = .ok (.aload_n 1, 1) := by decide +kernel
theorem dX7_raiseLevel_23 : decode cX7_raiseLevel 23 = .ok (.getfield 410, 3) := by decide +kernel
theorem dX7_raiseLevel_26 : decode cX7_raiseLevel 26 = .ok (.iaload, 1) := by decide +kernel
theorem dX7_raiseLevel_27 : decode cX7_raiseLevel 27 = .ok (.invokestatic 413, 3) := by decide +kernel
theorem dX7_raiseLevel_30 : decode cX7_raiseLevel 30 = .ok (.istore_n 2, 1) := by decide +kernel
theorem dX7_raiseLevel_31 : decode cX7_raiseLevel 31 = .ok (.aload_n 0, 1) := by decide +kernel
theorem dX7_raiseLevel_32 : decode cX7_raiseLevel 32 = .ok (.getfield 29, 3) := by decide +kernel
theorem dX7_raiseLevel_35 : decode cX7_raiseLevel 35 = .ok (.aload_n 1, 1) := by decide +kernel
theorem dX7_raiseLevel_36 : decode cX7_raiseLevel 36 = .ok (.getfield 388, 3) := by decide +kernel
theorem dX7_raiseLevel_39 : decode cX7_raiseLevel 39 = .ok (.iload_n 2, 1) := by decide +kernel
theorem dX7_raiseLevel_40 : decode cX7_raiseLevel 40 = .ok (.iconst 1, 1) := by decide +kernel
theorem dX7_raiseLevel_41 : decode cX7_raiseLevel 41 = .ok (.iadd, 1) := by decide +kernel
theorem dX7_raiseLevel_42 : decode cX7_raiseLevel 42 = .ok (.iastore, 1) := by decide +kernel
theorem dX7_raiseLevel_43 : decode cX7_raiseLevel 43 = .ok (.return_, 1) := by decide +kernel
theorem dX7_sortLinks_0 : decode cX7_sortLinks 0 = .ok (.aload_n 0, 1) := by decide +kernel
theorem dX7_sortLinks_1 : decode cX7_sortLinks 1 = .ok (.getfield 16, 3) := by decide +kernel
theorem dX7_sortLinks_4 : decode cX7_sortLinks 4 = .ok (.invokevirtual 417, 3) := by decide +kernel
theorem dX7_sortLinks_7 : decode cX7_sortLinks 7 = .ok (.iconst 1, 1) := by decide +kernel
theorem dX7_sortLinks_8 : decode cX7_sortLinks 8 = .ok (.istore_n 1, 1) := by decide +kernel
theorem dX7_sortLinks_9 : decode cX7_sortLinks 9 = .ok (.iload_n 1, 1) := by decide +kernel
theorem dX7_sortLinks_10 : decode cX7_sortLinks 10 = .ok (.iconst 3, 1) := by decide +kernel
theorem dX7_sortLinks_11 : decode cX7_sortLinks 11 = .ok (.if_icmp .gt 62, 3) := by decide +kernel
theorem dX7_sortLinks_14 : decode cX7_sortLinks 14 = .ok (.iconst 0, 1) := by decide +kernel
theorem dX7_sortLinks_15 : decode cX7_sortLinks 15 = .ok (.istore_n 2, 1) := by decide +kernel
theorem dX7_sortLinks_16 : decode cX7_sortLinks 16 = .ok (.iload_n 2, 1) := by decide +kernel
theorem dX7_sortLinks_17 : decode cX7_sortLinks 17 = .ok (.aload_n 0, 1) := by decide +kernel
theorem dX7_sortLinks_18 : decode cX7_sortLinks 18 = .ok (.getfield 10, 3) := by decide +kernel
theorem dX7_sortLinks_21 : decode cX7_sortLinks 21 = .ok (.invokevirtual 103, 3) := by decide +kernel
theorem dX7_sortLinks_24 : decode cX7_sortLinks 24 = .ok (.if_icmp .ge 43, 3) := by decide +kernel
theorem dX7_sortLinks_27 : decode cX7_sortLinks 27 = .ok (.aload_n 0, 1) := by decide +kernel
theorem dX7_sortLinks_28 : decode cX7_sortLinks 28 = .ok (.getfield 10, 3) := by decide +kernel
theorem dX7_sortLinks_31 : decode cX7_sortLinks 31 = .ok (.iload_n 2, 1) := by decide +kernel
theorem dX7_sortLinks_32 : decode cX7_sortLinks 32 = .ok (.invokevirtual 337, 3) := by decide +kernel
theorem dX7_sortLinks_35 : decode cX7_sortLinks 35 = .ok (.checkcast 101, 3) := by decide +kernel
theorem dX7_sortLinks_38 : decode cX7_sortLinks 38 = .ok (.astore_n 3, 1) := by decide +kernel
theorem dX7_sortLinks_39 : decode cX7_sortLinks 39 = .ok (.aload_n 0, 1) := by decide +kernel
theorem dX7_sortLinks_40 : decode cX7_sortLinks 40 = .ok (.getfield 29, 3) := by decide +kernel
theorem dX7_sortLinks_43 : decode cX7_sortLinks 43 = .ok (.aload_n 3, 1) := by decide +kernel
theorem dX7_sortLinks_44 : decode cX7_sortLinks 44 = .ok (.getfield 388, 3) := by decide +kernel
theorem dX7_sortLinks_47 : decode cX7_sortLinks 47 = .ok (.iaload, 1) := by decide +kernel
theorem dX7_sortLinks_48 : decode cX7_sortLinks 48 = .ok (.iload_n 1, 1) := by decide +kernel
theorem dX7_sortLinks_49 : decode cX7_sortLinks 49 = .ok (.if_icmp .ne 12, 3) := by decide +kernel
theorem dX7_sortLinks_52 : decode cX7_sortLinks 52 = .ok (.aload_n 0, 1) := by decide +kernel
theorem dX7_sortLinks_53 : decode cX7_sortLinks 53 = .ok (.getfield 16, 3) := by decide +kernel
theorem dX7_sortLinks_56 : decode cX7_sortLinks 56 = .ok (.aload_n 3, 1) := by decide +kernel
theorem dX7_sortLinks_57 : decode cX7_sortLinks 57 = .ok (.invokevirtual 228, 3) := by decide +kernel
theorem dX7_sortLinks_60 : decode cX7_sortLinks 60 = .ok (.pop, 1) := by decide +kernel
theorem dX7_sortLinks_61 : decode cX7_sortLinks 61 = .ok (.iinc 2 1, 3) := by decide +kernel
theorem dX7_sortLinks_64 : decode cX7_sortLinks 64 = .ok (.goto (-48), 3) := by decide +kernel
theorem dX7_sortLinks_67 : decode cX7_sortLinks 67 = .ok (.iinc 1 1, 3) := by decide +kernel
theorem dX7_sortLinks_70 : decode cX7_sortLinks 70 = .ok (.goto (-61), 3) := by decide +kernel
theorem dX7_sortLinks_73 : decode cX7_sortLinks 73 = .ok (.return_, 1) := by decide +kernel
theorem dX7_countDriven_0 : decode cX7_countDriven 0 = .ok (.iconst 0, 1) := by decide +kernel
theorem dX7_countDriven_1 : decode cX7_countDriven 1 = .ok (.istore_n 1, 1) := by decide +kernel
theorem dX7_countDriven_2 : decode cX7_countDriven 2 = .ok (.iconst 0, 1) := by decide +kernel
theorem dX7_countDriven_3 : decode cX7_countDriven 3 = .ok (.istore_n 2, 1) := by decide +kernel
theorem dX7_countDriven_4 : decode cX7_countDriven 4 = .ok (.iload_n 2, 1) := by decide +kernel
theorem dX7_countDriven_5 : decode cX7_countDriven 5 = .ok (.aload_n 0, 1) := by decide +kernel
theorem dX7_countDriven_6 : decode cX7_countDriven 6 = .ok (.getfield 74, 3) := by decide +kernel
theorem dX7_countDriven_9 : decode cX7_countDriven 9 = .ok (.if_icmp .ge 22, 3) := by decide +kernel
theorem dX7_countDriven_12 : decode cX7_countDriven 12 = .ok (.aload_n 0, 1) := by decide +kernel
theorem dX7_countDriven_13 : decode cX7_countDriven 13 = .ok (.getfield 25, 3) := by decide +kernel
theorem dX7_countDriven_16 : decode cX7_countDriven 16 = .ok (.iload_n 2, 1) := by decide +kernel
theorem dX7_countDriven_17 : decode cX7_countDriven 17 = .ok (.iaload, 1) := by decide +kernel
theorem dX7_countDriven_18 : decode cX7_countDriven 18 = .ok (.iconst (-1), 1) := by decide +kernel
theorem dX7_countDriven_19 : decode cX7_countDriven 19 = .ok (.if_icmp .eq 6, 3) := by decide +kernel
theorem dX7_countDriven_22 : decode cX7_countDriven 22 = .ok (.iinc 1 1, 3) := by decide +kernel
theorem dX7_countDriven_25 : decode cX7_countDriven 25 = .ok (.iinc 2 1, 3) := by decide +kernel
theorem dX7_countDriven_28 : decode cX7_countDriven 28 = .ok (.goto (-24), 3) := by decide +kernel
theorem dX7_countDriven_31 : decode cX7_countDriven 31 = .ok (.iload_n 1, 1) := by decide +kernel
theorem dX7_countDriven_32 : decode cX7_countDriven 32 = .ok (.ireturn, 1) := by decide +kernel
theorem dX7_takeStep_0 : decode cX7_takeStep 0 = .ok (.aload_n 1, 1) := by decide +kernel
theorem dX7_takeStep_1 : decode cX7_takeStep 1 = .ok (.iload_n 2, 1) := by decide +kernel
theorem dX7_takeStep_2 : decode cX7_takeStep 2 = .ok (.iload_n 3, 1) := by decide +kernel
theorem dX7_takeStep_3 : decode cX7_takeStep 3 = .ok (.invokevirtual 439, 3) := by decide +kernel
theorem dX7_takeStep_6 : decode cX7_takeStep 6 = .ok (.iconst 0, 1) := by decide +kernel
theorem dX7_takeStep_7 : decode cX7_takeStep 7 = .ok (.istore 4, 2) := by decide +kernel
theorem dX7_takeStep_9 : decode cX7_takeStep 9 = .ok (.iload 4, 2) := by decide +kernel
theorem dX7_takeStep_11 : decode cX7_takeStep 11 = .ok (.aload_n 0, 1) := by decide +kernel
theorem dX7_takeStep_12 : decode cX7_takeStep 12 = .ok (.getfield 16, 3) := by decide +kernel
theorem dX7_takeStep_15 : decode cX7_takeStep 15 = .ok (.invokevirtual 103, 3) := by decide +kernel
theorem dX7_takeStep_18 : decode cX7_takeStep 18 = .ok (.if_icmp .ge 25, 3) := by decide +kernel
theorem dX7_takeStep_21 : decode cX7_takeStep 21 = .ok (.aload_n 1, 1) := by decide +kernel
theorem dX7_takeStep_22 : decode cX7_takeStep 22 = .ok (.aload_n 0, 1) := by decide +kernel
theorem dX7_takeStep_23 : decode cX7_takeStep 23 = .ok (.getfield 16, 3) := by decide +kernel
theorem dX7_takeStep_26 : decode cX7_takeStep 26 = .ok (.iload 4, 2) := by decide +kernel
theorem dX7_takeStep_28 : decode cX7_takeStep 28 = .ok (.invokevirtual 337, 3) := by decide +kernel
theorem dX7_takeStep_31 : decode cX7_takeStep 31 = .ok (.checkcast 101, 3) := by decide +kernel
theorem dX7_takeStep_34 : decode cX7_takeStep 34 = .ok (.invokevirtual 442, 3) := by decide +kernel
theorem dX7_takeStep_37 : decode cX7_takeStep 37 = .ok (.iinc 4 1, 3) := by decide +kernel
theorem dX7_takeStep_40 : decode cX7_takeStep 40 = .ok (.goto (-31), 3) := by decide +kernel
theorem dX7_takeStep_43 : decode cX7_takeStep 43 = .ok (.return_, 1) := by decide +kernel
theorem dX7_countWear_0 : decode cX7_countWear 0 = .ok (.iconst 0, 1) := by decide +kernel
theorem dX7_countWear_1 : decode cX7_countWear 1 = .ok (.istore_n 1, 1) := by decide +kernel
theorem dX7_countWear_2 : decode cX7_countWear 2 = .ok (.iload_n 1, 1) := by decide +kernel
theorem dX7_countWear_3 : decode cX7_countWear 3 = .ok (.aload_n 0, 1) := by decide +kernel
theorem dX7_countWear_4 : decode cX7_countWear 4 = .ok (.getfield 10, 3) := by decide +kernel
theorem dX7_countWear_7 : decode cX7_countWear 7 = .ok (.invokevirtual 103, 3) := by decide +kernel
theorem dX7_countWear_10 : decode cX7_countWear 10 = .ok (.if_icmp .ge 50, 3) := by decide +kernel
theorem dX7_countWear_13 : decode cX7_countWear 13 = .ok (.aload_n 0, 1) := by decide +kernel
theorem dX7_countWear_14 : decode cX7_countWear 14 = .ok (.getfield 10, 3) := by decide +kernel
theorem dX7_countWear_17 : decode cX7_countWear 17 = .ok (.iload_n 1, 1) := by decide +kernel
theorem dX7_countWear_18 : decode cX7_countWear 18 = .ok (.invokevirtual 337, 3) := by decide +kernel
theorem dX7_countWear_21 : decode cX7_countWear 21 = .ok (.checkcast 101, 3) := by decide +kernel
theorem dX7_countWear_24 : decode cX7_countWear 24 = .ok (.astore_n 2, 1) := by decide +kernel
theorem dX7_countWear_25 : decode cX7_countWear 25 = .ok (.aload_n 0, 1) := by decide +kernel
theorem dX7_countWear_26 : decode cX7_countWear 26 = .ok (.getfield 54, 3) := by decide +kernel
theorem dX7_countWear_29 : decode cX7_countWear 29 = .ok (.aload_n 2, 1) := by decide +kernel
theorem dX7_countWear_30 : decode cX7_countWear 30 = .ok (.invokevirtual 445, 3) := by decide +kernel
theorem dX7_countWear_33 : decode cX7_countWear 33 = .ok (.ifCond .eq 21, 3) := by decide +kernel
theorem dX7_countWear_36 : decode cX7_countWear 36 = .ok (.aload_n 0, 1) := by decide +kernel
theorem dX7_countWear_37 : decode cX7_countWear 37 = .ok (.iload_n 1, 1) := by decide +kernel
theorem dX7_countWear_38 : decode cX7_countWear 38 = .ok (.aload_n 2, 1) := by decide +kernel
theorem dX7_countWear_39 : decode cX7_countWear 39 = .ok (.getfield 404, 3) := by decide +kernel
theorem dX7_countWear_42 : decode cX7_countWear 42 = .ok (.invokevirtual 447, 3) := by decide +kernel
theorem dX7_countWear_45 : decode cX7_countWear 45 = .ok (.aload_n 0, 1) := by decide +kernel
theorem dX7_countWear_46 : decode cX7_countWear 46 = .ok (.iload_n 1, 1) := by decide +kernel
theorem dX7_countWear_47 : decode cX7_countWear 47 = .ok (.aload_n 2, 1) := by decide +kernel
theorem dX7_countWear_48 : decode cX7_countWear 48 = .ok (.getfield 410, 3) := by decide +kernel
theorem dX7_countWear_51 : decode cX7_countWear 51 = .ok (.invokevirtual 447, 3) := by decide +kernel
theorem dX7_countWear_54 : decode cX7_countWear 54 = .ok (.iinc 1 1, 3) := by decide +kernel
theorem dX7_countWear_57 : decode cX7_countWear 57 = .ok (.goto (-55), 3) := by decide +kernel
theorem dX7_countWear_60 : decode cX7_countWear 60 = .ok (.return_, 1) := by decide +kernel
theorem dX7_wearBy_0 : decode cX7_wearBy 0 = .ok (.aload_n 0, 1) := by decide +kernel
theorem dX7_wearBy_1 : decode cX7_wearBy 1 = .ok (.getfield 54, 3) := by decide +kernel
theorem dX7_wearBy_4 : decode cX7_wearBy 4 = .ok (.getfield 450, 3) := by decide +kernel
theorem dX7_wearBy_7 : decode cX7_wearBy 7 = .ok (.iload_n 2, 1) := by decide +kernel
theorem dX7_wearBy_8 : decode cX7_wearBy 8 = .ok (.invokevirtual 453, 3) := by decide +kernel
theorem dX7_wearBy_11 : decode cX7_wearBy 11 = .ok (.ifCond .eq 36, 3) := by decide +kernel
theorem dX7_wearBy_14 : decode cX7_wearBy 14 = .ok (.aload_n 0, 1) := by decide +kernel
theorem dX7_wearBy_15 : decode cX7_wearBy 15 = .ok (.getfield 48, 3) := by decide +kernel
theorem dX7_wearBy_18 : decode cX7_wearBy 18 = .ok (.iload_n 1, 1) := by decide +kernel
theorem dX7_wearBy_19 : decode cX7_wearBy 19 = .ok (.aload_n 0, 1) := by decide +kernel
theorem dX7_wearBy_20 : decode cX7_wearBy 20 = .ok (.getfield 54, 3) := by decide +kernel
theorem dX7_wearBy_23 : decode cX7_wearBy 23 = .ok (.getfield 450, 3) := by decide +kernel
theorem dX7_wearBy_26 : decode cX7_wearBy 26 = .ok (.iload_n 2, 1) := by decide +kernel
theorem dX7_wearBy_27 : decode cX7_wearBy 27 = .ok (.invokevirtual 182, 3) := by decide +kernel
theorem dX7_wearBy_30 : decode cX7_wearBy 30 = .ok (.invokestatic 457, 3) := by decide +kernel
theorem dX7_wearBy_33 : decode cX7_wearBy 33 = .ok (.aload_n 0, 1) := by decide +kernel
theorem dX7_wearBy_34 : decode cX7_wearBy 34 = .ok (.getfield 54, 3) := by decide +kernel
theorem dX7_wearBy_37 : decode cX7_wearBy 37 = .ok (.getfield 450, 3) := by decide +kernel
theorem dX7_wearBy_40 : decode cX7_wearBy 40 = .ok (.iload_n 2, 1) := by decide +kernel
theorem dX7_wearBy_41 : decode cX7_wearBy 41 = .ok (.invokevirtual 186, 3) := by decide +kernel
theorem dX7_wearBy_44 : decode cX7_wearBy 44 = .ok (.invokevirtual 460, 3) := by decide +kernel
theorem dX7_wearBy_47 : decode cX7_wearBy 47 = .ok (.return_, 1) := by decide +kernel
theorem dX7_strikePins_0 : decode cX7_strikePins 0 = .ok (.iconst 0, 1) := by decide +kernel
theorem dX7_strikePins_1 : decode cX7_strikePins 1 = .ok (.istore_n 1, 1) := by decide +kernel
theorem dX7_strikePins_2 : decode cX7_strikePins 2 = .ok (.iload_n 1, 1) := by decide +kernel
theorem dX7_strikePins_3 : decode cX7_strikePins 3 = .ok (.aload_n 0, 1) := by decide +kernel
theorem dX7_strikePins_4 : decode cX7_strikePins 4 = .ok (.getfield 22, 3) := by decide +kernel
theorem dX7_strikePins_7 : decode cX7_strikePins 7 = .ok (.invokevirtual 103, 3) := by decide +kernel
theorem dX7_strikePins_10 : decode cX7_strikePins 10 = .ok (.if_icmp .ge 76, 3) := by decide +kernel
theorem dX7_strikePins_13 : decode cX7_strikePins 13 = .ok (.aload_n 0, 1) := by decide +kernel
theorem dX7_strikePins_14 : decode cX7_strikePins 14 = .ok (.getfield 22, 3) := by decide +kernel
theorem dX7_strikePins_17 : decode cX7_strikePins 17 = .ok (.iload_n 1, 1) := by decide +kernel
theorem dX7_strikePins_18 : decode cX7_strikePins 18 = .ok (.invokevirtual 337, 3) := by decide +kernel
theorem dX7_strikePins_21 : decode cX7_strikePins 21 = .ok (.checkcast 294, 3) := by decide +kernel
theorem dX7_strikePins_24 : decode cX7_strikePins 24 = .ok (.astore_n 2, 1) := by decide +kernel
theorem dX7_strikePins_25 : decode cX7_strikePins 25 = .ok (.aload_n 0, 1) := by decide +kernel
theorem dX7_strikePins_26 : decode cX7_strikePins 26 = .ok (.getfield 54, 3) := by decide +kernel
theorem dX7_strikePins_29 : decode cX7_strikePins 29 = .ok (.getfield 450, 3) := by decide +kernel
theorem dX7_strikePins_32 : decode cX7_strikePins 32 = .ok (.aload_n 2, 1) := by decide +kernel
theorem dX7_strikePins_33 : decode cX7_strikePins 33 = .ok (.getfield 462, 3) := by decide +kernel
theorem dX7_strikePins_36 : decode cX7_strikePins 36 = .ok (.invokevirtual 453, 3) := by decide +kernel
theorem dX7_strikePins_39 : decode cX7_strikePins 39 = .ok (.ifCond .eq 41, 3) := by decide +kernel
theorem dX7_strikePins_42 : decode cX7_strikePins 42 = .ok (.aload_n 2, 1) := by decide +kernel
theorem dX7_strikePins_43 : decode cX7_strikePins 43 = .ok (.aload_n 0, 1) := by decide +kernel
theorem dX7_strikePins_44 : decode cX7_strikePins 44 = .ok (.getfield 54, 3) := by decide +kernel
theorem dX7_strikePins_47 : decode cX7_strikePins 47 = .ok (.getfield 465, 3) := by decide +kernel
theorem dX7_strikePins_50 : decode cX7_strikePins 50 = .ok (.aload_n 2, 1) := by decide +kernel
theorem dX7_strikePins_51 : decode cX7_strikePins 51 = .ok (.getfield 462, 3) := by decide +kernel
theorem dX7_strikePins_54 : decode cX7_strikePins 54 = .ok (.ldc2_w 468, 3) := by decide +kernel
theorem dX7_strikePins_57 : decode cX7_strikePins 57 = .ok (.invokevirtual 470, 3) := by decide +kernel
theorem dX7_strikePins_60 : decode cX7_strikePins 60 = .ok (.aload_n 0, 1) := by decide +kernel
theorem dX7_strikePins_61 : decode cX7_strikePins 61 = .ok (.getfield 54, 3) := by decide +kernel
theorem dX7_strikePins_64 : decode cX7_strikePins 64 = .ok (.getfield 179, 3) := by decide +kernel
theorem dX7_strikePins_67 : decode cX7_strikePins 67 = .ok (.aload_n 2, 1) := by decide +kernel
theorem dX7_strikePins_68 : decode cX7_strikePins 68 = .ok (.getfield 462, 3) := by decide +kernel
theorem dX7_strikePins_71 : decode cX7_strikePins 71 = .ok (.ldc2_w 468, 3) := by decide +kernel
theorem dX7_strikePins_74 : decode cX7_strikePins 74 = .ok (.invokevirtual 470, 3) := by decide +kernel
theorem dX7_strikePins_77 : decode cX7_strikePins 77 = .ok (.invokevirtual 474, 3) := by decide +kernel
theorem dX7_strikePins_80 : decode cX7_strikePins 80 = .ok (.iinc 1 1, 3) := by decide +kernel
theorem dX7_strikePins_83 : decode cX7_strikePins 83 = .ok (.goto (-81), 3) := by decide +kernel
theorem dX7_strikePins_86 : decode cX7_strikePins 86 = .ok (.return_, 1) := by decide +kernel
theorem dX7_breakWornLinks_0 : decode cX7_breakWornLinks 0 = .ok (.iconst 0, 1) := by decide +kernel
theorem dX7_breakWornLinks_1 : decode cX7_breakWornLinks 1 = .ok (.istore_n 1, 1) := by decide +kernel
theorem dX7_breakWornLinks_2 : decode cX7_breakWornLinks 2 = .ok (.iload_n 1, 1) := by decide +kernel
theorem dX7_breakWornLinks_3 : decode cX7_breakWornLinks 3 = .ok (.aload_n 0, 1) := by decide +kernel
theorem dX7_breakWornLinks_4 : decode cX7_breakWornLinks 4 = .ok (.getfield 10, 3) := by decide +kernel
theorem dX7_breakWornLinks_7 : decode cX7_breakWornLinks 7 = .ok (.invokevirtual 103, 3) := by decide +kernel
theorem dX7_breakWornLinks_10 : decode cX7_breakWornLinks 10 = .ok (.if_icmp .ge 68, 3) := by decide +kernel
theorem dX7_breakWornLinks_13 : decode cX7_breakWornLinks 13 = .ok (.aload_n 0, 1) := by decide +kernel
theorem dX7_breakWornLinks_14 : decode cX7_breakWornLinks 14 = .ok (.getfield 10, 3) := by decide +kernel
theorem dX7_breakWornLinks_17 : decode cX7_breakWornLinks 17 = .ok (.iload_n 1, 1) := by decide +kernel
theorem dX7_breakWornLinks_18 : decode cX7_breakWornLinks 18 = .ok (.invokevirtual 337, 3) := by decide +kernel
theorem dX7_breakWornLinks_21 : decode cX7_breakWornLinks 21 = .ok (.checkcast 101, 3) := by decide +kernel
theorem dX7_breakWornLinks_24 : decode cX7_breakWornLinks 24 = .ok (.astore_n 2, 1) := by decide +kernel
theorem dX7_breakWornLinks_25 : decode cX7_breakWornLinks 25 = .ok (.aload_n 2, 1) := by decide +kernel
theorem dX7_breakWornLinks_26 : decode cX7_breakWornLinks 26 = .ok (.getfield 142, 3) := by decide +kernel
theorem dX7_breakWornLinks_29 : decode cX7_breakWornLinks 29 = .ok (.ifCond .le 43, 3) := by decide +kernel
theorem dX7_breakWornLinks_32 : decode cX7_breakWornLinks 32 = .ok (.aload_n 0, 1) := by decide +kernel
theorem dX7_breakWornLinks_33 : decode cX7_breakWornLinks 33 = .ok (.getfield 48, 3) := by decide +kernel
theorem dX7_breakWornLinks_36 : decode cX7_breakWornLinks 36 = .ok (.iload_n 1, 1) := by decide +kernel
theorem dX7_breakWornLinks_37 : decode cX7_breakWornLinks 37 = .ok (.invokevirtual 182, 3) := by decide +kernel
theorem dX7_breakWornLinks_40 : decode cX7_breakWornLinks 40 = .ok (.aload_n 2, 1) := by decide +kernel
theorem dX7_breakWornLinks_41 : decode cX7_breakWornLinks 41 = .ok (.getfield 142, 3) := by decide +kernel
theorem dX7_breakWornLinks_44 : decode cX7_breakWornLinks 44 = .ok (.i2l, 1) := by decide +kernel
theorem dX7_breakWornLinks_45 : decode cX7_breakWornLinks 45 = .ok (.aload_n 0, 1) := by decide +kernel
theorem dX7_breakWornLinks_46 : decode cX7_breakWornLinks 46 = .ok (.getfield 48, 3) := by decide +kernel
theorem dX7_breakWornLinks_49 : decode cX7_breakWornLinks 49 = .ok (.iload_n 1, 1) := by decide +kernel
theorem dX7_breakWornLinks_50 : decode cX7_breakWornLinks 50 = .ok (.invokevirtual 186, 3) := by decide +kernel
theorem dX7_breakWornLinks_53 : decode cX7_breakWornLinks 53 = .ok (.lmul, 1) := by decide +kernel
theorem dX7_breakWornLinks_54 : decode cX7_breakWornLinks 54 = .ok (.lcmp, 1) := by decide +kernel
theorem dX7_breakWornLinks_55 : decode cX7_breakWornLinks 55 = .ok (.ifCond .le 17, 3) := by decide +kernel
theorem dX7_breakWornLinks_58 : decode cX7_breakWornLinks 58 = .ok (.aload_n 2, 1) := by decide +kernel
theorem dX7_breakWornLinks_59 : decode cX7_breakWornLinks 59 = .ok (.iconst 1, 1) := by decide +kernel
theorem dX7_breakWornLinks_60 : decode cX7_breakWornLinks 60 = .ok (.putfield 204, 3) := by decide +kernel
theorem dX7_breakWornLinks_63 : decode cX7_breakWornLinks 63 = .ok (.aload_n 0, 1) := by decide +kernel
theorem dX7_breakWornLinks_64 : decode cX7_breakWornLinks 64 = .ok (.getfield 54, 3) := by decide +kernel
theorem dX7_breakWornLinks_67 : decode cX7_breakWornLinks 67 = .ok (.aload_n 2, 1) := by decide +kernel
theorem dX7_breakWornLinks_68 : decode cX7_breakWornLinks 68 = .ok (.iconst 0, 1) := by decide +kernel
theorem dX7_breakWornLinks_69 : decode cX7_breakWornLinks 69 = .ok (.invokevirtual 138, 3) := by decide +kernel
theorem dX7_breakWornLinks_72 : decode cX7_breakWornLinks 72 = .ok (.iinc 1 1, 3) := by decide +kernel
theorem dX7_breakWornLinks_75 : decode cX7_breakWornLinks 75 = .ok (.goto (-73), 3) := by decide +kernel
theorem dX7_breakWornLinks_78 : decode cX7_breakWornLinks 78 = .ok (.return_, 1) := by decide +kernel
theorem dX7_countMoved_0 : decode cX7_countMoved 0 = .ok (.iconst 0, 1) := by decide +kernel
theorem dX7_countMoved_1 : decode cX7_countMoved 1 = .ok (.istore_n 1, 1) := by decide +kernel
theorem dX7_countMoved_2 : decode cX7_countMoved 2 = .ok (.iconst 0, 1) := by decide +kernel
theorem dX7_countMoved_3 : decode cX7_countMoved 3 = .ok (.istore_n 2, 1) := by decide +kernel
theorem dX7_countMoved_4 : decode cX7_countMoved 4 = .ok (.iload_n 2, 1) := by decide +kernel
theorem dX7_countMoved_5 : decode cX7_countMoved 5 = .ok (.aload_n 0, 1) := by decide +kernel
theorem dX7_countMoved_6 : decode cX7_countMoved 6 = .ok (.getfield 74, 3) := by decide +kernel
theorem dX7_countMoved_9 : decode cX7_countMoved 9 = .ok (.if_icmp .ge 33, 3) := by decide +kernel
theorem dX7_countMoved_12 : decode cX7_countMoved 12 = .ok (.aload_n 0, 1) := by decide +kernel
theorem dX7_countMoved_13 : decode cX7_countMoved 13 = .ok (.getfield 54, 3) := by decide +kernel
theorem dX7_countMoved_16 : decode cX7_countMoved 16 = .ok (.getfield 179, 3) := by decide +kernel
theorem dX7_countMoved_19 : decode cX7_countMoved 19 = .ok (.iload_n 2, 1) := by decide +kernel
theorem dX7_countMoved_20 : decode cX7_countMoved 20 = .ok (.aload_n 0, 1) := by decide +kernel
theorem dX7_countMoved_21 : decode cX7_countMoved 21 = .ok (.getfield 58, 3) := by decide +kernel
theorem dX7_countMoved_24 : decode cX7_countMoved 24 = .ok (.getfield 179, 3) := by decide +kernel
theorem dX7_countMoved_27 : decode cX7_countMoved 27 = .ok (.invokevirtual 478, 3) := by decide +kernel
theorem dX7_countMoved_30 : decode cX7_countMoved 30 = .ok (.ifCond .ne 6, 3) := by decide +kernel
theorem dX7_countMoved_33 : decode cX7_countMoved 33 = .ok (.iinc 1 1, 3) := by decide +kernel
theorem dX7_countMoved_36 : decode cX7_countMoved 36 = .ok (.iinc 2 1, 3) := by decide +kernel
theorem dX7_countMoved_39 : decode cX7_countMoved 39 = .ok (.goto (-35), 3) := by decide +kernel
theorem dX7_countMoved_42 : decode cX7_countMoved 42 = .ok (.iload_n 1, 1) := by decide +kernel
theorem dX7_countMoved_43 : decode cX7_countMoved 43 = .ok (.ireturn, 1) := by decide +kernel
theorem dX7_isLastTurningSame_0 : decode cX7_isLastTurningSame 0 = .ok (.aload_n 0, 1) := by decide +kernel
theorem dX7_isLastTurningSame_1 : decode cX7_isLastTurningSame 1 = .ok (.getfield 64, 3) := by decide +kernel
theorem dX7_isLastTurningSame_4 : decode cX7_isLastTurningSame 4 = .ok (.iconst (-1), 1) := by decide +kernel
theorem dX7_isLastTurningSame_5 : decode cX7_isLastTurningSame 5 = .ok (.if_icmp .ne 5, 3) := by decide +kernel
theorem dX7_isLastTurningSame_8 : decode cX7_isLastTurningSame 8 = .ok (.iconst 1, 1) := by decide +kernel
theorem dX7_isLastTurningSame_9 : decode cX7_isLastTurningSame 9 = .ok (.ireturn, 1) := by decide +kernel
theorem dX7_isLastTurningSame_10 : decode cX7_isLastTurningSame 10 = .ok (.aload_n 0, 1) := by decide +kernel
theorem dX7_isLastTurningSame_11 : decode cX7_isLastTurningSame 11 = .ok (.getfield 61, 3) := by decide +kernel
theorem dX7_isLastTurningSame_14 : decode cX7_isLastTurningSame 14 = .ok (.aload_n 0, 1) := by decide +kernel
theorem dX7_isLastTurningSame_15 : decode cX7_isLastTurningSame 15 = .ok (.getfield 58, 3) := by decide +kernel
theorem dX7_isLastTurningSame_18 : decode cX7_isLastTurningSame 18 = .ok (.invokevirtual 150, 3) := by decide +kernel
theorem dX7_isLastTurningSame_21 : decode cX7_isLastTurningSame 21 = .ok (.iconst 0, 1) := by decide +kernel
theorem dX7_isLastTurningSame_22 : decode cX7_isLastTurningSame 22 = .ok (.istore_n 1, 1) := by decide +kernel
theorem dX7_isLastTurningSame_23 : decode cX7_isLastTurningSame 23 = .ok (.iload_n 1, 1) := by decide +kernel
theorem dX7_isLastTurningSame_24 : decode cX7_isLastTurningSame 24 = .ok (.aload_n 0, 1) := by decide +kernel
theorem dX7_isLastTurningSame_25 : decode cX7_isLastTurningSame 25 = .ok (.getfield 154, 3) := by decide +kernel
theorem dX7_isLastTurningSame_28 : decode cX7_isLastTurningSame 28 = .ok (.invokestatic 157, 3) := by decide +kernel
theorem dX7_isLastTurningSame_31 : decode cX7_isLastTurningSame 31 = .ok (.if_icmp .ge 33, 3) := by decide +kernel
theorem dX7_isLastTurningSame_34 : decode cX7_isLastTurningSame 34 = .ok (.aload_n 0, 1) := by decide +kernel
theorem dX7_isLastTurningSame_35 : decode cX7_isLastTurningSame 35 = .ok (.aload_n 0, 1) := by decide +kernel
theorem dX7_isLastTurningSame_36 : decode cX7_isLastTurningSame 36 = .ok (.getfield 61, 3) := by decide +kernel
theorem dX7_isLastTurningSame_39 : decode cX7_isLastTurningSame 39 = .ok (.aload_n 0, 1) := by decide +kernel
theorem dX7_isLastTurningSame_40 : decode cX7_isLastTurningSame 40 = .ok (.getfield 64, 3) := by decide +kernel
theorem dX7_isLastTurningSame_43 : decode cX7_isLastTurningSame 43 = .ok (.aload_n 0, 1) := by decide +kernel
theorem dX7_isLastTurningSame_44 : decode cX7_isLastTurningSame 44 = .ok (.getfield 154, 3) := by decide +kernel
theorem dX7_isLastTurningSame_47 : decode cX7_isLastTurningSame 47 = .ok (.ifCond .ge 7, 3) := by decide +kernel
theorem dX7_isLastTurningSame_50 : decode cX7_isLastTurningSame 50 = .ok (.iconst (-1), 1) := by decide +kernel
theorem dX7_isLastTurningSame_51 : decode cX7_isLastTurningSame 51 = .ok (.goto 4, 3) := by decide +kernel
theorem dX7_isLastTurningSame_54 : decode cX7_isLastTurningSame 54 = .ok (.iconst 1, 1) := by decide +kernel
theorem dX7_isLastTurningSame_55 : decode cX7_isLastTurningSame 55 = .ok (.invokevirtual 163, 3) := by decide +kernel
theorem dX7_isLastTurningSame_58 : decode cX7_isLastTurningSame 58 = .ok (.iinc 1 1, 3) := by decide +kernel
theorem dX7_isLastTurningSame_61 : decode cX7_isLastTurningSame 61 = .ok (.goto (-38), 3) := by decide +kernel
theorem dX7_isLastTurningSame_64 : decode cX7_isLastTurningSame 64 = .ok (.iconst 0, 1) := by decide +kernel
theorem dX7_isLastTurningSame_65 : decode cX7_isLastTurningSame 65 = .ok (.istore_n 1, 1) := by decide +kernel
theorem dX7_isLastTurningSame_66 : decode cX7_isLastTurningSame 66 = .ok (.iload_n 1, 1) := by decide +kernel
theorem dX7_isLastTurningSame_67 : decode cX7_isLastTurningSame 67 = .ok (.aload_n 0, 1) := by decide +kernel
theorem dX7_isLastTurningSame_68 : decode cX7_isLastTurningSame 68 = .ok (.getfield 74, 3) := by decide +kernel
theorem dX7_isLastTurningSame_71 : decode cX7_isLastTurningSame 71 = .ok (.if_icmp .ge 32, 3) := by decide +kernel
theorem dX7_isLastTurningSame_74 : decode cX7_isLastTurningSame 74 = .ok (.aload_n 0, 1) := by decide +kernel
theorem dX7_isLastTurningSame_75 : decode cX7_isLastTurningSame 75 = .ok (.getfield 61, 3) := by decide +kernel
theorem dX7_isLastTurningSame_78 : decode cX7_isLastTurningSame 78 = .ok (.getfield 179, 3) := by decide +kernel
theorem dX7_isLastTurningSame_81 : decode cX7_isLastTurningSame 81 = .ok (.iload_n 1, 1) := by decide +kernel
theorem dX7_isLastTurningSame_82 : decode cX7_isLastTurningSame 82 = .ok (.aload_n 0, 1) := by decide +kernel
theorem dX7_isLastTurningSame_83 : decode cX7_isLastTurningSame 83 = .ok (.getfield 54, 3) := by decide +kernel
theorem dX7_isLastTurningSame_86 : decode cX7_isLastTurningSame 86 = .ok (.getfield 179, 3) := by decide +kernel
theorem dX7_isLastTurningSame_89 : decode cX7_isLastTurningSame 89 = .ok (.invokevirtual 478, 3) := by decide +kernel
theorem dX7_isLastTurningSame_92 : decode cX7_isLastTurningSame 92 = .ok (.ifCond .ne 5, 3) := by decide +kernel
theorem dX7_isLastTurningSame_95 : decode cX7_isLastTurningSame 95 = .ok (.iconst 0, 1) := by decide +kernel
theorem dX7_isLastTurningSame_96 : decode cX7_isLastTurningSame 96 = .ok (.ireturn, 1) := by decide +kernel
theorem dX7_isLastTurningSame_97 : decode cX7_isLastTurningSame 97 = .ok (.iinc 1 1, 3) := by decide +kernel
theorem dX7_isLastTurningSame_100 : decode cX7_isLastTurningSame 100 = .ok (.goto (-34), 3) := by decide +kernel
theorem dX7_isLastTurningSame_103 : decode cX7_isLastTurningSame 103 = .ok (.iconst 1, 1) := by decide +kernel
theorem dX7_isLastTurningSame_104 : decode cX7_isLastTurningSame 104 = .ok (.ireturn, 1) := by decide +kernel
theorem dX7_areInputsWhole_0 : decode cX7_areInputsWhole 0 = .ok (.iconst 0, 1) := by decide +kernel
theorem dX7_areInputsWhole_1 : decode cX7_areInputsWhole 1 = .ok (.istore_n 1, 1) := by decide +kernel
theorem dX7_areInputsWhole_2 : decode cX7_areInputsWhole 2 = .ok (.iload_n 1, 1) := by decide +kernel
theorem dX7_areInputsWhole_3 : decode cX7_areInputsWhole 3 = .ok (.aload_n 0, 1) := by decide +kernel
theorem dX7_areInputsWhole_4 : decode cX7_areInputsWhole 4 = .ok (.getfield 74, 3) := by decide +kernel
theorem dX7_areInputsWhole_7 : decode cX7_areInputsWhole 7 = .ok (.if_icmp .ge 38, 3) := by decide +kernel
theorem dX7_areInputsWhole_10 : decode cX7_areInputsWhole 10 = .ok (.aload_n 0, 1) := by decide +kernel
theorem dX7_areInputsWhole_11 : decode cX7_areInputsWhole 11 = .ok (.getfield 25, 3) := by decide +kernel
theorem dX7_areInputsWhole_14 : decode cX7_areInputsWhole 14 = .ok (.iload_n 1, 1) := by decide +kernel
theorem dX7_areInputsWhole_15 : decode cX7_areInputsWhole 15 = .ok (.iaload, 1) := by decide +kernel
theorem dX7_areInputsWhole_16 : decode cX7_areInputsWhole 16 = .ok (.iconst (-1), 1) := by decide +kernel
theorem dX7_areInputsWhole_17 : decode cX7_areInputsWhole 17 = .ok (.if_icmp .ne 22, 3) := by decide +kernel
theorem dX7_areInputsWhole_20 : decode cX7_areInputsWhole 20 = .ok (.aload_n 0, 1) := by decide +kernel
theorem dX7_areInputsWhole_21 : decode cX7_areInputsWhole 21 = .ok (.getfield 54, 3) := by decide +kernel
theorem dX7_areInputsWhole_24 : decode cX7_areInputsWhole 24 = .ok (.getfield 179, 3) := by decide +kernel
theorem dX7_areInputsWhole_27 : decode cX7_areInputsWhole 27 = .ok (.iload_n 1, 1) := by decide +kernel
theorem dX7_areInputsWhole_28 : decode cX7_areInputsWhole 28 = .ok (.ldc2_w 468, 3) := by decide +kernel
theorem dX7_areInputsWhole_31 : decode cX7_areInputsWhole 31 = .ok (.invokevirtual 482, 3) := by decide +kernel
theorem dX7_areInputsWhole_34 : decode cX7_areInputsWhole 34 = .ok (.ifCond .ne 5, 3) := by decide +kernel
theorem dX7_areInputsWhole_37 : decode cX7_areInputsWhole 37 = .ok (.iconst 0, 1) := by decide +kernel
theorem dX7_areInputsWhole_38 : decode cX7_areInputsWhole 38 = .ok (.ireturn, 1) := by decide +kernel
theorem dX7_areInputsWhole_39 : decode cX7_areInputsWhole 39 = .ok (.iinc 1 1, 3) := by decide +kernel
theorem dX7_areInputsWhole_42 : decode cX7_areInputsWhole 42 = .ok (.goto (-40), 3) := by decide +kernel
theorem dX7_areInputsWhole_45 : decode cX7_areInputsWhole 45 = .ok (.iconst 1, 1) := by decide +kernel
theorem dX7_areInputsWhole_46 : decode cX7_areInputsWhole 46 = .ok (.ireturn, 1) := by decide +kernel
theorem dX7_areCamsClosed_0 : decode cX7_areCamsClosed 0 = .ok (.iconst 0, 1) := by decide +kernel
theorem dX7_areCamsClosed_1 : decode cX7_areCamsClosed 1 = .ok (.istore_n 1, 1) := by decide +kernel
theorem dX7_areCamsClosed_2 : decode cX7_areCamsClosed 2 = .ok (.iload_n 1, 1) := by decide +kernel
theorem dX7_areCamsClosed_3 : decode cX7_areCamsClosed 3 = .ok (.aload_n 0, 1) := by decide +kernel
theorem dX7_areCamsClosed_4 : decode cX7_areCamsClosed 4 = .ok (.getfield 19, 3) := by decide +kernel
theorem dX7_areCamsClosed_7 : decode cX7_areCamsClosed 7 = .ok (.invokevirtual 103, 3) := by decide +kernel
theorem dX7_areCamsClosed_10 : decode cX7_areCamsClosed 10 = .ok (.if_icmp .ge 47, 3) := by decide +kernel
theorem dX7_areCamsClosed_13 : decode cX7_areCamsClosed 13 = .ok (.aload_n 0, 1) := by decide +kernel
theorem dX7_areCamsClosed_14 : decode cX7_areCamsClosed 14 = .ok (.getfield 19, 3) := by decide +kernel
theorem dX7_areCamsClosed_17 : decode cX7_areCamsClosed 17 = .ok (.iload_n 1, 1) := by decide +kernel
theorem dX7_areCamsClosed_18 : decode cX7_areCamsClosed 18 = .ok (.invokevirtual 337, 3) := by decide +kernel
theorem dX7_areCamsClosed_21 : decode cX7_areCamsClosed 21 = .ok (.checkcast 225, 3) := by decide +kernel
theorem dX7_areCamsClosed_24 : decode cX7_areCamsClosed 24 = .ok (.astore_n 2, 1) := by decide +kernel
theorem dX7_areCamsClosed_25 : decode cX7_areCamsClosed 25 = .ok (.aload_n 2, 1) := by decide +kernel
theorem dX7_areCamsClosed_26 : decode cX7_areCamsClosed 26 = .ok (.invokevirtual 373, 3) := by decide +kernel
theorem dX7_areCamsClosed_29 : decode cX7_areCamsClosed 29 = .ok (.ifCond .eq 22, 3) := by decide +kernel
theorem dX7_areCamsClosed_32 : decode cX7_areCamsClosed 32 = .ok (.aload_n 2, 1) := by decide +kernel
theorem dX7_areCamsClosed_33 : decode cX7_areCamsClosed 33 = .ok (.bipush 24, 2) := by decide +kernel
theorem dX7_areCamsClosed_35 : decode cX7_areCamsClosed 35 = .ok (.invokevirtual 486, 3) := by decide +kernel
theorem dX7_areCamsClosed_38 : decode cX7_areCamsClosed 38 = .ok (.aload_n 2, 1) := by decide +kernel
theorem dX7_areCamsClosed_39 : decode cX7_areCamsClosed 39 = .ok (.iconst 0, 1) := by decide +kernel
theorem dX7_areCamsClosed_40 : decode cX7_areCamsClosed 40 = .ok (.invokevirtual 486, 3) := by decide +kernel
theorem dX7_areCamsClosed_43 : decode cX7_areCamsClosed 43 = .ok (.invokevirtual 490, 3) := by decide +kernel
theorem dX7_areCamsClosed_46 : decode cX7_areCamsClosed 46 = .ok (.ifCond .ne 5, 3) := by decide +kernel
theorem dX7_areCamsClosed_49 : decode cX7_areCamsClosed 49 = .ok (.iconst 0, 1) := by decide +kernel
theorem dX7_areCamsClosed_50 : decode cX7_areCamsClosed 50 = .ok (.ireturn, 1) := by decide +kernel
theorem dX7_areCamsClosed_51 : decode cX7_areCamsClosed 51 = .ok (.iinc 1 1, 3) := by decide +kernel
theorem dX7_areCamsClosed_54 : decode cX7_areCamsClosed 54 = .ok (.goto (-52), 3) := by decide +kernel
theorem dX7_areCamsClosed_57 : decode cX7_areCamsClosed 57 = .ok (.iconst 1, 1) := by decide +kernel
theorem dX7_areCamsClosed_58 : decode cX7_areCamsClosed 58 = .ok (.ireturn, 1) := by decide +kernel
theorem dJx00060_init_a7421_0 : decode cJx00060_init_a7421 0 = .ok (.aload_n 0, 1) := by decide +kernel
theorem dJx00060_init_a7421_1 : decode cJx00060_init_a7421 1 = .ok (.aload_n 1, 1) := by decide +kernel
theorem dJx00060_init_a7421_2 : decode cJx00060_init_a7421 2 = .ok (.invokespecial 7, 3) := by decide +kernel
theorem dJx00060_init_a7421_5 : decode cJx00060_init_a7421 5 = .ok (.return_, 1) := by decide +kernel
theorem dJ9_floorDiv_f86c9_0 : decode cJ9_floorDiv_f86c9 0 = .ok (.lload_n 0, 1) := by decide +kernel
theorem dJ9_floorDiv_f86c9_1 : decode cJ9_floorDiv_f86c9 1 = .ok (.lload_n 2, 1) := by decide +kernel
theorem dJ9_floorDiv_f86c9_2 : decode cJ9_floorDiv_f86c9 2 = .ok (.ldiv, 1) := by decide +kernel
theorem dJ9_floorDiv_f86c9_3 : decode cJ9_floorDiv_f86c9 3 = .ok (.lstore 4, 2) := by decide +kernel
theorem dJ9_floorDiv_f86c9_5 : decode cJ9_floorDiv_f86c9 5 = .ok (.lload_n 0, 1) := by decide +kernel
theorem dJ9_floorDiv_f86c9_6 : decode cJ9_floorDiv_f86c9 6 = .ok (.lload_n 2, 1) := by decide +kernel
theorem dJ9_floorDiv_f86c9_7 : decode cJ9_floorDiv_f86c9 7 = .ok (.lxor, 1) := by decide +kernel
theorem dJ9_floorDiv_f86c9_8 : decode cJ9_floorDiv_f86c9 8 = .ok (.lconst 0, 1) := by decide +kernel
theorem dJ9_floorDiv_f86c9_9 : decode cJ9_floorDiv_f86c9 9 = .ok (.lcmp, 1) := by decide +kernel
theorem dJ9_floorDiv_f86c9_10 : decode cJ9_floorDiv_f86c9 10 = .ok (.ifCond .ge 17, 3) := by decide +kernel
theorem dJ9_floorDiv_f86c9_13 : decode cJ9_floorDiv_f86c9 13 = .ok (.lload 4, 2) := by decide +kernel
theorem dJ9_floorDiv_f86c9_15 : decode cJ9_floorDiv_f86c9 15 = .ok (.lload_n 2, 1) := by decide +kernel
theorem dJ9_floorDiv_f86c9_16 : decode cJ9_floorDiv_f86c9 16 = .ok (.lmul, 1) := by decide +kernel
theorem dJ9_floorDiv_f86c9_17 : decode cJ9_floorDiv_f86c9 17 = .ok (.lload_n 0, 1) := by decide +kernel
theorem dJ9_floorDiv_f86c9_18 : decode cJ9_floorDiv_f86c9 18 = .ok (.lcmp, 1) := by decide +kernel
theorem dJ9_floorDiv_f86c9_19 : decode cJ9_floorDiv_f86c9 19 = .ok (.ifCond .eq 8, 3) := by decide +kernel
theorem dJ9_floorDiv_f86c9_22 : decode cJ9_floorDiv_f86c9 22 = .ok (.lload 4, 2) := by decide +kernel
theorem dJ9_floorDiv_f86c9_24 : decode cJ9_floorDiv_f86c9 24 = .ok (.lconst 1, 1) := by decide +kernel
theorem dJ9_floorDiv_f86c9_25 : decode cJ9_floorDiv_f86c9 25 = .ok (.lsub, 1) := by decide +kernel
theorem dJ9_floorDiv_f86c9_26 : decode cJ9_floorDiv_f86c9 26 = .ok (.lreturn, 1) := by decide +kernel
theorem dJ9_floorDiv_f86c9_27 : decode cJ9_floorDiv_f86c9 27 = .ok (.lload 4, 2) := by decide +kernel
theorem dJ9_floorDiv_f86c9_29 : decode cJ9_floorDiv_f86c9 29 = .ok (.lreturn, 1) := by decide +kernel
theorem dJ9_floorMod_f86c9_0 : decode cJ9_floorMod_f86c9 0 = .ok (.lload_n 0, 1) := by decide +kernel
theorem dJ9_floorMod_f86c9_1 : decode cJ9_floorMod_f86c9 1 = .ok (.lload_n 2, 1) := by decide +kernel
theorem dJ9_floorMod_f86c9_2 : decode cJ9_floorMod_f86c9 2 = .ok (.lrem, 1) := by decide +kernel
theorem dJ9_floorMod_f86c9_3 : decode cJ9_floorMod_f86c9 3 = .ok (.lstore 4, 2) := by decide +kernel
theorem dJ9_floorMod_f86c9_5 : decode cJ9_floorMod_f86c9 5 = .ok (.lload_n 0, 1) := by decide +kernel
theorem dJ9_floorMod_f86c9_6 : decode cJ9_floorMod_f86c9 6 = .ok (.lload_n 2, 1) := by decide +kernel
theorem dJ9_floorMod_f86c9_7 : decode cJ9_floorMod_f86c9 7 = .ok (.lxor, 1) := by decide +kernel
theorem dJ9_floorMod_f86c9_8 : decode cJ9_floorMod_f86c9 8 = .ok (.lconst 0, 1) := by decide +kernel
theorem dJ9_floorMod_f86c9_9 : decode cJ9_floorMod_f86c9 9 = .ok (.lcmp, 1) := by decide +kernel
theorem dJ9_floorMod_f86c9_10 : decode cJ9_floorMod_f86c9 10 = .ok (.ifCond .ge 15, 3) := by decide +kernel
theorem dJ9_floorMod_f86c9_13 : decode cJ9_floorMod_f86c9 13 = .ok (.lload 4, 2) := by decide +kernel
theorem dJ9_floorMod_f86c9_15 : decode cJ9_floorMod_f86c9 15 = .ok (.lconst 0, 1) := by decide +kernel
theorem dJ9_floorMod_f86c9_16 : decode cJ9_floorMod_f86c9 16 = .ok (.lcmp, 1) := by decide +kernel
theorem dJ9_floorMod_f86c9_17 : decode cJ9_floorMod_f86c9 17 = .ok (.ifCond .eq 8, 3) := by decide +kernel
theorem dJ9_floorMod_f86c9_20 : decode cJ9_floorMod_f86c9 20 = .ok (.lload 4, 2) := by decide +kernel
theorem dJ9_floorMod_f86c9_22 : decode cJ9_floorMod_f86c9 22 = .ok (.lload_n 2, 1) := by decide +kernel
theorem dJ9_floorMod_f86c9_23 : decode cJ9_floorMod_f86c9 23 = .ok (.ladd, 1) := by decide +kernel
theorem dJ9_floorMod_f86c9_24 : decode cJ9_floorMod_f86c9 24 = .ok (.lreturn, 1) := by decide +kernel
theorem dJ9_floorMod_f86c9_25 : decode cJ9_floorMod_f86c9 25 = .ok (.lload 4, 2) := by decide +kernel
theorem dJ9_floorMod_f86c9_27 : decode cJ9_floorMod_f86c9 27 = .ok (.lreturn, 1) := by decide +kernel
theorem dJ9_abs_0f7a4_0 : decode cJ9_abs_0f7a4 0 = .ok (.iload_n 0, 1) := by decide +kernel
theorem dJ9_abs_0f7a4_1 : decode cJ9_abs_0f7a4 1 = .ok (.ifCond .ge 8, 3) := by decide +kernel
theorem dJ9_abs_0f7a4_4 : decode cJ9_abs_0f7a4 4 = .ok (.iload_n 0, 1) := by decide +kernel
theorem dJ9_abs_0f7a4_5 : decode cJ9_abs_0f7a4 5 = .ok (.ineg, 1) := by decide +kernel
theorem dJ9_abs_0f7a4_6 : decode cJ9_abs_0f7a4 6 = .ok (.goto 4, 3) := by decide +kernel
theorem dJ9_abs_0f7a4_9 : decode cJ9_abs_0f7a4 9 = .ok (.iload_n 0, 1) := by decide +kernel
theorem dJ9_abs_0f7a4_10 : decode cJ9_abs_0f7a4 10 = .ok (.ireturn, 1) := by decide +kernel
theorem dJ9_abs_067f4_0 : decode cJ9_abs_067f4 0 = .ok (.lload_n 0, 1) := by decide +kernel
theorem dJ9_abs_067f4_1 : decode cJ9_abs_067f4 1 = .ok (.lconst 0, 1) := by decide +kernel
theorem dJ9_abs_067f4_2 : decode cJ9_abs_067f4 2 = .ok (.lcmp, 1) := by decide +kernel
theorem dJ9_abs_067f4_3 : decode cJ9_abs_067f4 3 = .ok (.ifCond .ge 8, 3) := by decide +kernel
theorem dJ9_abs_067f4_6 : decode cJ9_abs_067f4 6 = .ok (.lload_n 0, 1) := by decide +kernel
theorem dJ9_abs_067f4_7 : decode cJ9_abs_067f4 7 = .ok (.lneg, 1) := by decide +kernel
theorem dJ9_abs_067f4_8 : decode cJ9_abs_067f4 8 = .ok (.goto 4, 3) := by decide +kernel
theorem dJ9_abs_067f4_11 : decode cJ9_abs_067f4 11 = .ok (.lload_n 0, 1) := by decide +kernel
theorem dJ9_abs_067f4_12 : decode cJ9_abs_067f4 12 = .ok (.lreturn, 1) := by decide +kernel
theorem dJ9_max_7cf53_0 : decode cJ9_max_7cf53 0 = .ok (.iload_n 0, 1) := by decide +kernel
theorem dJ9_max_7cf53_1 : decode cJ9_max_7cf53 1 = .ok (.iload_n 1, 1) := by decide +kernel
theorem dJ9_max_7cf53_2 : decode cJ9_max_7cf53 2 = .ok (.if_icmp .lt 7, 3) := by decide +kernel
theorem dJ9_max_7cf53_5 : decode cJ9_max_7cf53 5 = .ok (.iload_n 0, 1) := by decide +kernel
theorem dJ9_max_7cf53_6 : decode cJ9_max_7cf53 6 = .ok (.goto 4, 3) := by decide +kernel
theorem dJ9_max_7cf53_9 : decode cJ9_max_7cf53 9 = .ok (.iload_n 1, 1) := by decide +kernel
theorem dJ9_max_7cf53_10 : decode cJ9_max_7cf53 10 = .ok (.ireturn, 1) := by decide +kernel
theorem dJ9_max_f86c9_0 : decode cJ9_max_f86c9 0 = .ok (.lload_n 0, 1) := by decide +kernel
theorem dJ9_max_f86c9_1 : decode cJ9_max_f86c9 1 = .ok (.lload_n 2, 1) := by decide +kernel
theorem dJ9_max_f86c9_2 : decode cJ9_max_f86c9 2 = .ok (.lcmp, 1) := by decide +kernel
theorem dJ9_max_f86c9_3 : decode cJ9_max_f86c9 3 = .ok (.ifCond .lt 7, 3) := by decide +kernel
theorem dJ9_max_f86c9_6 : decode cJ9_max_f86c9 6 = .ok (.lload_n 0, 1) := by decide +kernel
theorem dJ9_max_f86c9_7 : decode cJ9_max_f86c9 7 = .ok (.goto 4, 3) := by decide +kernel
theorem dJ9_max_f86c9_10 : decode cJ9_max_f86c9 10 = .ok (.lload_n 2, 1) := by decide +kernel
theorem dJ9_max_f86c9_11 : decode cJ9_max_f86c9 11 = .ok (.lreturn, 1) := by decide +kernel
theorem dJ9_min_7cf53_0 : decode cJ9_min_7cf53 0 = .ok (.iload_n 0, 1) := by decide +kernel
theorem dJ9_min_7cf53_1 : decode cJ9_min_7cf53 1 = .ok (.iload_n 1, 1) := by decide +kernel
theorem dJ9_min_7cf53_2 : decode cJ9_min_7cf53 2 = .ok (.if_icmp .gt 7, 3) := by decide +kernel
theorem dJ9_min_7cf53_5 : decode cJ9_min_7cf53 5 = .ok (.iload_n 0, 1) := by decide +kernel
theorem dJ9_min_7cf53_6 : decode cJ9_min_7cf53 6 = .ok (.goto 4, 3) := by decide +kernel
theorem dJ9_min_7cf53_9 : decode cJ9_min_7cf53 9 = .ok (.iload_n 1, 1) := by decide +kernel
theorem dJ9_min_7cf53_10 : decode cJ9_min_7cf53 10 = .ok (.ireturn, 1) := by decide +kernel
theorem dJ9_min_f86c9_0 : decode cJ9_min_f86c9 0 = .ok (.lload_n 0, 1) := by decide +kernel
theorem dJ9_min_f86c9_1 : decode cJ9_min_f86c9 1 = .ok (.lload_n 2, 1) := by decide +kernel
theorem dJ9_min_f86c9_2 : decode cJ9_min_f86c9 2 = .ok (.lcmp, 1) := by decide +kernel
theorem dJ9_min_f86c9_3 : decode cJ9_min_f86c9 3 = .ok (.ifCond .gt 7, 3) := by decide +kernel
theorem dJ9_min_f86c9_6 : decode cJ9_min_f86c9 6 = .ok (.lload_n 0, 1) := by decide +kernel
theorem dJ9_min_f86c9_7 : decode cJ9_min_f86c9 7 = .ok (.goto 4, 3) := by decide +kernel
theorem dJ9_min_f86c9_10 : decode cJ9_min_f86c9 10 = .ok (.lload_n 2, 1) := by decide +kernel
theorem dJ9_min_f86c9_11 : decode cJ9_min_f86c9 11 = .ok (.lreturn, 1) := by decide +kernel
theorem dJxa1e45_init_da8c8_0 : decode cJxa1e45_init_da8c8 0 = .ok (.aload_n 0, 1) := by decide +kernel
theorem dJxa1e45_init_da8c8_1 : decode cJxa1e45_init_da8c8 1 = .ok (.invokespecial 1, 3) := by decide +kernel
theorem dJxa1e45_init_da8c8_4 : decode cJxa1e45_init_da8c8 4 = .ok (.return_, 1) := by decide +kernel
theorem dJxc12de_init_da8c8_0 : decode cJxc12de_init_da8c8 0 = .ok (.aload_n 0, 1) := by decide +kernel
theorem dJxc12de_init_da8c8_1 : decode cJxc12de_init_da8c8 1 = .ok (.invokespecial 1, 3) := by decide +kernel
theorem dJxc12de_init_da8c8_4 : decode cJxc12de_init_da8c8 4 = .ok (.aload_n 0, 1) := by decide +kernel
theorem dJxc12de_init_da8c8_5 : decode cJxc12de_init_da8c8 5 = .ok (.iconst 0, 1) := by decide +kernel
theorem dJxc12de_init_da8c8_6 : decode cJxc12de_init_da8c8 6 = .ok (.putfield 7, 3) := by decide +kernel
theorem dJxc12de_init_da8c8_9 : decode cJxc12de_init_da8c8 9 = .ok (.return_, 1) := by decide +kernel
theorem dJx4a65c_init_da8c8_0 : decode cJx4a65c_init_da8c8 0 = .ok (.aload_n 0, 1) := by decide +kernel
theorem dJx4a65c_init_da8c8_1 : decode cJx4a65c_init_da8c8 1 = .ok (.invokespecial 1, 3) := by decide +kernel
theorem dJx4a65c_init_da8c8_4 : decode cJx4a65c_init_da8c8 4 = .ok (.aload_n 0, 1) := by decide +kernel
theorem dJx4a65c_init_da8c8_5 : decode cJx4a65c_init_da8c8 5 = .ok (.getstatic 39, 3) := by decide +kernel
theorem dJx4a65c_init_da8c8_8 : decode cJx4a65c_init_da8c8 8 = .ok (.putfield 9, 3) := by decide +kernel
theorem dJx4a65c_init_da8c8_11 : decode cJx4a65c_init_da8c8 11 = .ok (.return_, 1) := by decide +kernel
theorem dJx4a65c_grow_92f84_0 : decode cJx4a65c_grow_92f84 0 = .ok (.aload_n 0, 1) := by decide +kernel
theorem dJx4a65c_grow_92f84_1 : decode cJx4a65c_grow_92f84 1 = .ok (.getfield 9, 3) := by decide +kernel
theorem dJx4a65c_grow_92f84_4 : decode cJx4a65c_grow_92f84 4 = .ok (.arraylength, 1) := by decide +kernel
theorem dJx4a65c_grow_92f84_5 : decode cJx4a65c_grow_92f84 5 = .ok (.istore_n 2, 1) := by decide +kernel
theorem dJx4a65c_grow_92f84_6 : decode cJx4a65c_grow_92f84 6 = .ok (.iload_n 2, 1) := by decide +kernel
theorem dJx4a65c_grow_92f84_7 : decode cJx4a65c_grow_92f84 7 = .ok (.ifCond .gt 13, 3) := by decide +kernel
theorem dJx4a65c_grow_92f84_10 : decode cJx4a65c_grow_92f84 10 = .ok (.aload_n 0, 1) := by decide +kernel
theorem dJx4a65c_grow_92f84_11 : decode cJx4a65c_grow_92f84 11 = .ok (.getfield 9, 3) := by decide +kernel
theorem dJx4a65c_grow_92f84_14 : decode cJx4a65c_grow_92f84 14 = .ok (.getstatic 39, 3) := by decide +kernel
theorem dJx4a65c_grow_92f84_17 : decode cJx4a65c_grow_92f84 17 = .ok (.if_acmp .eq 28, 3) := by decide +kernel
theorem dJx4a65c_grow_92f84_20 : decode cJx4a65c_grow_92f84 20 = .ok (.iload_n 2, 1) := by decide +kernel
theorem dJx4a65c_grow_92f84_21 : decode cJx4a65c_grow_92f84 21 = .ok (.iload_n 1, 1) := by decide +kernel
theorem dJx4a65c_grow_92f84_22 : decode cJx4a65c_grow_92f84 22 = .ok (.iload_n 2, 1) := by decide +kernel
theorem dJx4a65c_grow_92f84_23 : decode cJx4a65c_grow_92f84 23 = .ok (.isub, 1) := by decide +kernel
theorem dJx4a65c_grow_92f84_24 : decode cJx4a65c_grow_92f84 24 = .ok (.iload_n 2, 1) := by decide +kernel
theorem dJx4a65c_grow_92f84_25 : decode cJx4a65c_grow_92f84 25 = .ok (.iconst 1, 1) := by decide +kernel
theorem dJx4a65c_grow_92f84_26 : decode cJx4a65c_grow_92f84 26 = .ok (.ishr, 1) := by decide +kernel
theorem dJx4a65c_grow_92f84_27 : decode cJx4a65c_grow_92f84 27 = .ok (.invokestatic 73, 3) := by decide +kernel
theorem dJx4a65c_grow_92f84_30 : decode cJx4a65c_grow_92f84 30 = .ok (.istore_n 3, 1) := by decide +kernel
theorem dJx4a65c_grow_92f84_31 : decode cJx4a65c_grow_92f84 31 = .ok (.aload_n 0, 1) := by decide +kernel
theorem dJx4a65c_grow_92f84_32 : decode cJx4a65c_grow_92f84 32 = .ok (.aload_n 0, 1) := by decide +kernel
theorem dJx4a65c_grow_92f84_33 : decode cJx4a65c_grow_92f84 33 = .ok (.getfield 9, 3) := by decide +kernel
theorem dJx4a65c_grow_92f84_36 : decode cJx4a65c_grow_92f84 36 = .ok (.iload_n 3, 1) := by decide +kernel
theorem dJx4a65c_grow_92f84_37 : decode cJx4a65c_grow_92f84 37 = .ok (.invokestatic 66, 3) := by decide +kernel
theorem dJx4a65c_grow_92f84_40 : decode cJx4a65c_grow_92f84 40 = .ok (.dup_x1, 1) := by decide +kernel
theorem dJx4a65c_grow_92f84_41 : decode cJx4a65c_grow_92f84 41 = .ok (.putfield 9, 3) := by decide +kernel
theorem dJx4a65c_grow_92f84_44 : decode cJx4a65c_grow_92f84 44 = .ok (.areturn, 1) := by decide +kernel
theorem dJx4a65c_grow_92f84_45 : decode cJx4a65c_grow_92f84 45 = .ok (.aload_n 0, 1) := by decide +kernel
theorem dJx4a65c_grow_92f84_46 : decode cJx4a65c_grow_92f84 46 = .ok (.bipush 10, 2) := by decide +kernel
theorem dJx4a65c_grow_92f84_48 : decode cJx4a65c_grow_92f84 48 = .ok (.iload_n 1, 1) := by decide +kernel
theorem dJx4a65c_grow_92f84_49 : decode cJx4a65c_grow_92f84 49 = .ok (.invokestatic 79, 3) := by decide +kernel
theorem dJx4a65c_grow_92f84_52 : decode cJx4a65c_grow_92f84 52 = .ok (.anewarray 7, 3) := by decide +kernel
theorem dJx4a65c_grow_92f84_55 : decode cJx4a65c_grow_92f84 55 = .ok (.dup_x1, 1) := by decide +kernel
theorem dJx4a65c_grow_92f84_56 : decode cJx4a65c_grow_92f84 56 = .ok (.putfield 9, 3) := by decide +kernel
theorem dJx4a65c_grow_92f84_59 : decode cJx4a65c_grow_92f84 59 = .ok (.areturn, 1) := by decide +kernel
theorem dJx4a65c_grow_d5877_0 : decode cJx4a65c_grow_d5877 0 = .ok (.aload_n 0, 1) := by decide +kernel
theorem dJx4a65c_grow_d5877_1 : decode cJx4a65c_grow_d5877 1 = .ok (.aload_n 0, 1) := by decide +kernel
theorem dJx4a65c_grow_d5877_2 : decode cJx4a65c_grow_d5877 2 = .ok (.getfield 48, 3) := by decide +kernel
theorem dJx4a65c_grow_d5877_5 : decode cJx4a65c_grow_d5877 5 = .ok (.iconst 1, 1) := by decide +kernel
theorem dJx4a65c_grow_d5877_6 : decode cJx4a65c_grow_d5877 6 = .ok (.iadd, 1) := by decide +kernel
theorem dJx4a65c_grow_d5877_7 : decode cJx4a65c_grow_d5877 7 = .ok (.invokevirtual 69, 3) := by decide +kernel
theorem dJx4a65c_grow_d5877_10 : decode cJx4a65c_grow_d5877 10 = .ok (.areturn, 1) := by decide +kernel
theorem dJx4a65c_size_8abf5_0 : decode cJx4a65c_size_8abf5 0 = .ok (.aload_n 0, 1) := by decide +kernel
theorem dJx4a65c_size_8abf5_1 : decode cJx4a65c_size_8abf5 1 = .ok (.getfield 48, 3) := by decide +kernel
theorem dJx4a65c_size_8abf5_4 : decode cJx4a65c_size_8abf5 4 = .ok (.ireturn, 1) := by decide +kernel
theorem dJx4a65c_elementData_915e3_0 : decode cJx4a65c_elementData_915e3 0 = .ok (.aload_n 0, 1) := by decide +kernel
theorem dJx4a65c_elementData_915e3_1 : decode cJx4a65c_elementData_915e3 1 = .ok (.getfield 9, 3) := by decide +kernel
theorem dJx4a65c_elementData_915e3_4 : decode cJx4a65c_elementData_915e3 4 = .ok (.iload_n 1, 1) := by decide +kernel
theorem dJx4a65c_elementData_915e3_5 : decode cJx4a65c_elementData_915e3 5 = .ok (.aaload, 1) := by decide +kernel
theorem dJx4a65c_elementData_915e3_6 : decode cJx4a65c_elementData_915e3 6 = .ok (.areturn, 1) := by decide +kernel
theorem dJx4a65c_get_915e3_0 : decode cJx4a65c_get_915e3 0 = .ok (.iload_n 1, 1) := by decide +kernel
theorem dJx4a65c_get_915e3_1 : decode cJx4a65c_get_915e3 1 = .ok (.aload_n 0, 1) := by decide +kernel
theorem dJx4a65c_get_915e3_2 : decode cJx4a65c_get_915e3 2 = .ok (.getfield 48, 3) := by decide +kernel
theorem dJx4a65c_get_915e3_5 : decode cJx4a65c_get_915e3 5 = .ok (.invokestatic 118, 3) := by decide +kernel
theorem dJx4a65c_get_915e3_8 : decode cJx4a65c_get_915e3 8 = .ok (.pop, 1) := by decide +kernel
theorem dJx4a65c_get_915e3_9 : decode cJx4a65c_get_915e3 9 = .ok (.aload_n 0, 1) := by decide +kernel
theorem dJx4a65c_get_915e3_10 : decode cJx4a65c_get_915e3 10 = .ok (.iload_n 1, 1) := by decide +kernel
theorem dJx4a65c_get_915e3_11 : decode cJx4a65c_get_915e3 11 = .ok (.invokevirtual 123, 3) := by decide +kernel
theorem dJx4a65c_get_915e3_14 : decode cJx4a65c_get_915e3 14 = .ok (.areturn, 1) := by decide +kernel
theorem dJx4a65c_add_72be8_0 : decode cJx4a65c_add_72be8 0 = .ok (.iload_n 3, 1) := by decide +kernel
theorem dJx4a65c_add_72be8_1 : decode cJx4a65c_add_72be8 1 = .ok (.aload_n 2, 1) := by decide +kernel
theorem dJx4a65c_add_72be8_2 : decode cJx4a65c_add_72be8 2 = .ok (.arraylength, 1) := by decide +kernel
theorem dJx4a65c_add_72be8_3 : decode cJx4a65c_add_72be8 3 = .ok (.if_icmp .ne 8, 3) := by decide +kernel
theorem dJx4a65c_add_72be8_6 : decode cJx4a65c_add_72be8 6 = .ok (.aload_n 0, 1) := by decide +kernel
theorem dJx4a65c_add_72be8_7 : decode cJx4a65c_add_72be8 7 = .ok (.invokevirtual 129, 3) := by decide +kernel
theorem dJx4a65c_add_72be8_10 : decode cJx4a65c_add_72be8 10 = .ok (.astore_n 2, 1) := by decide +kernel
theorem dJx4a65c_add_72be8_11 : decode cJx4a65c_add_72be8 11 = .ok (.aload_n 2, 1) := by decide +kernel
theorem dJx4a65c_add_72be8_12 : decode cJx4a65c_add_72be8 12 = .ok (.iload_n 3, 1) := by decide +kernel
theorem dJx4a65c_add_72be8_13 : decode cJx4a65c_add_72be8 13 = .ok (.aload_n 1, 1) := by decide +kernel
theorem dJx4a65c_add_72be8_14 : decode cJx4a65c_add_72be8 14 = .ok (.aastore, 1) := by decide +kernel
theorem dJx4a65c_add_72be8_15 : decode cJx4a65c_add_72be8 15 = .ok (.aload_n 0, 1) := by decide +kernel
theorem dJx4a65c_add_72be8_16 : decode cJx4a65c_add_72be8 16 = .ok (.iload_n 3, 1) := by decide +kernel
theorem dJx4a65c_add_72be8_17 : decode cJx4a65c_add_72be8 17 = .ok (.iconst 1, 1) := by decide +kernel
theorem dJx4a65c_add_72be8_18 : decode cJx4a65c_add_72be8 18 = .ok (.iadd, 1) := by decide +kernel
theorem dJx4a65c_add_72be8_19 : decode cJx4a65c_add_72be8 19 = .ok (.putfield 48, 3) := by decide +kernel
theorem dJx4a65c_add_72be8_22 : decode cJx4a65c_add_72be8 22 = .ok (.return_, 1) := by decide +kernel
theorem dJx4a65c_add_9ea2d_0 : decode cJx4a65c_add_9ea2d 0 = .ok (.aload_n 0, 1) := by decide +kernel
theorem dJx4a65c_add_9ea2d_1 : decode cJx4a65c_add_9ea2d 1 = .ok (.dup, 1) := by decide +kernel
theorem dJx4a65c_add_9ea2d_2 : decode cJx4a65c_add_9ea2d 2 = .ok (.getfield 63, 3) := by decide +kernel
theorem dJx4a65c_add_9ea2d_5 : decode cJx4a65c_add_9ea2d 5 = .ok (.iconst 1, 1) := by decide +kernel
theorem dJx4a65c_add_9ea2d_6 : decode cJx4a65c_add_9ea2d 6 = .ok (.iadd, 1) := by decide +kernel
theorem dJx4a65c_add_9ea2d_7 : decode cJx4a65c_add_9ea2d 7 = .ok (.putfield 63, 3) := by decide +kernel
theorem dJx4a65c_add_9ea2d_10 : decode cJx4a65c_add_9ea2d 10 = .ok (.aload_n 0, 1) := by decide +kernel
theorem dJx4a65c_add_9ea2d_11 : decode cJx4a65c_add_9ea2d 11 = .ok (.aload_n 1, 1) := by decide +kernel
theorem dJx4a65c_add_9ea2d_12 : decode cJx4a65c_add_9ea2d 12 = .ok (.aload_n 0, 1) := by decide +kernel
theorem dJx4a65c_add_9ea2d_13 : decode cJx4a65c_add_9ea2d 13 = .ok (.getfield 9, 3) := by decide +kernel
theorem dJx4a65c_add_9ea2d_16 : decode cJx4a65c_add_9ea2d 16 = .ok (.aload_n 0, 1) := by decide +kernel
theorem dJx4a65c_add_9ea2d_17 : decode cJx4a65c_add_9ea2d 17 = .ok (.getfield 48, 3) := by decide +kernel
theorem dJx4a65c_add_9ea2d_20 : decode cJx4a65c_add_9ea2d 20 = .ok (.invokevirtual 131, 3) := by decide +kernel
theorem dJx4a65c_add_9ea2d_23 : decode cJx4a65c_add_9ea2d 23 = .ok (.iconst 1, 1) := by decide +kernel
theorem dJx4a65c_add_9ea2d_24 : decode cJx4a65c_add_9ea2d 24 = .ok (.ireturn, 1) := by decide +kernel
theorem dJx4a65c_clear_da8c8_0 : decode cJx4a65c_clear_da8c8 0 = .ok (.aload_n 0, 1) := by decide +kernel
theorem dJx4a65c_clear_da8c8_1 : decode cJx4a65c_clear_da8c8 1 = .ok (.dup, 1) := by decide +kernel
theorem dJx4a65c_clear_da8c8_2 : decode cJx4a65c_clear_da8c8 2 = .ok (.getfield 63, 3) := by decide +kernel
theorem dJx4a65c_clear_da8c8_5 : decode cJx4a65c_clear_da8c8 5 = .ok (.iconst 1, 1) := by decide +kernel
theorem dJx4a65c_clear_da8c8_6 : decode cJx4a65c_clear_da8c8 6 = .ok (.iadd, 1) := by decide +kernel
theorem dJx4a65c_clear_da8c8_7 : decode cJx4a65c_clear_da8c8 7 = .ok (.putfield 63, 3) := by decide +kernel
theorem dJx4a65c_clear_da8c8_10 : decode cJx4a65c_clear_da8c8 10 = .ok (.aload_n 0, 1) := by decide +kernel
theorem dJx4a65c_clear_da8c8_11 : decode cJx4a65c_clear_da8c8 11 = .ok (.getfield 9, 3) := by decide +kernel
theorem dJx4a65c_clear_da8c8_14 : decode cJx4a65c_clear_da8c8 14 = .ok (.astore_n 1, 1) := by decide +kernel
theorem dJx4a65c_clear_da8c8_15 : decode cJx4a65c_clear_da8c8 15 = .ok (.aload_n 0, 1) := by decide +kernel
theorem dJx4a65c_clear_da8c8_16 : decode cJx4a65c_clear_da8c8 16 = .ok (.getfield 48, 3) := by decide +kernel
theorem dJx4a65c_clear_da8c8_19 : decode cJx4a65c_clear_da8c8 19 = .ok (.istore_n 2, 1) := by decide +kernel
theorem dJx4a65c_clear_da8c8_20 : decode cJx4a65c_clear_da8c8 20 = .ok (.aload_n 0, 1) := by decide +kernel
theorem dJx4a65c_clear_da8c8_21 : decode cJx4a65c_clear_da8c8 21 = .ok (.iconst 0, 1) := by decide +kernel
theorem dJx4a65c_clear_da8c8_22 : decode cJx4a65c_clear_da8c8 22 = .ok (.dup_x1, 1) := by decide +kernel
theorem dJx4a65c_clear_da8c8_23 : decode cJx4a65c_clear_da8c8 23 = .ok (.putfield 48, 3) := by decide +kernel
theorem dJx4a65c_clear_da8c8_26 : decode cJx4a65c_clear_da8c8 26 = .ok (.istore_n 3, 1) := by decide +kernel
theorem dJx4a65c_clear_da8c8_27 : decode cJx4a65c_clear_da8c8 27 = .ok (.iload_n 3, 1) := by decide +kernel
theorem dJx4a65c_clear_da8c8_28 : decode cJx4a65c_clear_da8c8 28 = .ok (.iload_n 2, 1) := by decide +kernel
theorem dJx4a65c_clear_da8c8_29 : decode cJx4a65c_clear_da8c8 29 = .ok (.if_icmp .ge 13, 3) := by decide +kernel
theorem dJx4a65c_clear_da8c8_32 : decode cJx4a65c_clear_da8c8 32 = .ok (.aload_n 1, 1) := by decide +kernel
theorem dJx4a65c_clear_da8c8_33 : decode cJx4a65c_clear_da8c8 33 = .ok (.iload_n 3, 1) := by decide +kernel
theorem dJx4a65c_clear_da8c8_34 : decode cJx4a65c_clear_da8c8 34 = .ok (.aconst_null, 1) := by decide +kernel
theorem dJx4a65c_clear_da8c8_35 : decode cJx4a65c_clear_da8c8 35 = .ok (.aastore, 1) := by decide +kernel
theorem dJx4a65c_clear_da8c8_36 : decode cJx4a65c_clear_da8c8 36 = .ok (.iinc 3 1, 3) := by decide +kernel
theorem dJx4a65c_clear_da8c8_39 : decode cJx4a65c_clear_da8c8 39 = .ok (.goto (-12), 3) := by decide +kernel
theorem dJx4a65c_clear_da8c8_42 : decode cJx4a65c_clear_da8c8 42 = .ok (.return_, 1) := by decide +kernel
theorem dJ7_fill_d0a16_0 : decode cJ7_fill_d0a16 0 = .ok (.iconst 0, 1) := by decide +kernel
theorem dJ7_fill_d0a16_1 : decode cJ7_fill_d0a16 1 = .ok (.istore_n 3, 1) := by decide +kernel
theorem dJ7_fill_d0a16_2 : decode cJ7_fill_d0a16 2 = .ok (.aload_n 0, 1) := by decide +kernel
theorem dJ7_fill_d0a16_3 : decode cJ7_fill_d0a16 3 = .ok (.arraylength, 1) := by decide +kernel
theorem dJ7_fill_d0a16_4 : decode cJ7_fill_d0a16 4 = .ok (.istore 4, 2) := by decide +kernel
theorem dJ7_fill_d0a16_6 : decode cJ7_fill_d0a16 6 = .ok (.iload_n 3, 1) := by decide +kernel
theorem dJ7_fill_d0a16_7 : decode cJ7_fill_d0a16 7 = .ok (.iload 4, 2) := by decide +kernel
theorem dJ7_fill_d0a16_9 : decode cJ7_fill_d0a16 9 = .ok (.if_icmp .ge 13, 3) := by decide +kernel
theorem dJ7_fill_d0a16_12 : decode cJ7_fill_d0a16 12 = .ok (.aload_n 0, 1) := by decide +kernel
theorem dJ7_fill_d0a16_13 : decode cJ7_fill_d0a16 13 = .ok (.iload_n 3, 1) := by decide +kernel
theorem dJ7_fill_d0a16_14 : decode cJ7_fill_d0a16 14 = .ok (.lload_n 1, 1) := by decide +kernel
theorem dJ7_fill_d0a16_15 : decode cJ7_fill_d0a16 15 = .ok (.lastore, 1) := by decide +kernel
theorem dJ7_fill_d0a16_16 : decode cJ7_fill_d0a16 16 = .ok (.iinc 3 1, 3) := by decide +kernel
theorem dJ7_fill_d0a16_19 : decode cJ7_fill_d0a16 19 = .ok (.goto (-13), 3) := by decide +kernel
theorem dJ7_fill_d0a16_22 : decode cJ7_fill_d0a16 22 = .ok (.return_, 1) := by decide +kernel
theorem dJ7_fill_53178_0 : decode cJ7_fill_53178 0 = .ok (.iconst 0, 1) := by decide +kernel
theorem dJ7_fill_53178_1 : decode cJ7_fill_53178 1 = .ok (.istore_n 2, 1) := by decide +kernel
theorem dJ7_fill_53178_2 : decode cJ7_fill_53178 2 = .ok (.aload_n 0, 1) := by decide +kernel
theorem dJ7_fill_53178_3 : decode cJ7_fill_53178 3 = .ok (.arraylength, 1) := by decide +kernel
theorem dJ7_fill_53178_4 : decode cJ7_fill_53178 4 = .ok (.istore_n 3, 1) := by decide +kernel
theorem dJ7_fill_53178_5 : decode cJ7_fill_53178 5 = .ok (.iload_n 2, 1) := by decide +kernel
theorem dJ7_fill_53178_6 : decode cJ7_fill_53178 6 = .ok (.iload_n 3, 1) := by decide +kernel
theorem dJ7_fill_53178_7 : decode cJ7_fill_53178 7 = .ok (.if_icmp .ge 13, 3) := by decide +kernel
theorem dJ7_fill_53178_10 : decode cJ7_fill_53178 10 = .ok (.aload_n 0, 1) := by decide +kernel
theorem dJ7_fill_53178_11 : decode cJ7_fill_53178 11 = .ok (.iload_n 2, 1) := by decide +kernel
theorem dJ7_fill_53178_12 : decode cJ7_fill_53178 12 = .ok (.iload_n 1, 1) := by decide +kernel
theorem dJ7_fill_53178_13 : decode cJ7_fill_53178 13 = .ok (.iastore, 1) := by decide +kernel
theorem dJ7_fill_53178_14 : decode cJ7_fill_53178 14 = .ok (.iinc 2 1, 3) := by decide +kernel
theorem dJ7_fill_53178_17 : decode cJ7_fill_53178 17 = .ok (.goto (-12), 3) := by decide +kernel
theorem dJ7_fill_53178_20 : decode cJ7_fill_53178 20 = .ok (.return_, 1) := by decide +kernel
theorem dJ7_copyOf_1904c_0 : decode cJ7_copyOf_1904c 0 = .ok (.aload_n 0, 1) := by decide +kernel
theorem dJ7_copyOf_1904c_1 : decode cJ7_copyOf_1904c 1 = .ok (.iload_n 1, 1) := by decide +kernel
theorem dJ7_copyOf_1904c_2 : decode cJ7_copyOf_1904c 2 = .ok (.aload_n 0, 1) := by decide +kernel
theorem dJ7_copyOf_1904c_3 : decode cJ7_copyOf_1904c 3 = .ok (.invokevirtual 86, 3) := by decide +kernel
theorem dJ7_copyOf_1904c_6 : decode cJ7_copyOf_1904c 6 = .ok (.invokestatic 300, 3) := by decide +kernel
theorem dJ7_copyOf_1904c_9 : decode cJ7_copyOf_1904c 9 = .ok (.areturn, 1) := by decide +kernel
theorem dJ7_copyOf_6403c_0 : decode cJ7_copyOf_6403c 0 = .ok (.aload_n 2, 1) := by decide +kernel
theorem dJ7_copyOf_6403c_1 : decode cJ7_copyOf_6403c 1 = .ok (.ldc 110, 2) := by decide +kernel
theorem dJ7_copyOf_6403c_3 : decode cJ7_copyOf_6403c 3 = .ok (.if_acmp .ne 10, 3) := by decide +kernel
theorem dJ7_copyOf_6403c_6 : decode cJ7_copyOf_6403c 6 = .ok (.iload_n 1, 1) := by decide +kernel
theorem dJ7_copyOf_6403c_7 : decode cJ7_copyOf_6403c 7 = .ok (.anewarray 2, 3) := by decide +kernel
theorem dJ7_copyOf_6403c_10 : decode cJ7_copyOf_6403c 10 = .ok (.goto 14, 3) := by decide +kernel
theorem dJ7_copyOf_6403c_13 : decode cJ7_copyOf_6403c 13 = .ok (.aload_n 2, 1) := by decide +kernel
theorem dJ7_copyOf_6403c_14 : decode cJ7_copyOf_6403c 14 = .ok (.invokevirtual 90, 3) := by decide +kernel
theorem dJ7_copyOf_6403c_17 : decode cJ7_copyOf_6403c 17 = .ok (.iload_n 1, 1) := by decide +kernel
theorem dJ7_copyOf_6403c_18 : decode cJ7_copyOf_6403c 18 = .ok (.invokestatic 95, 3) := by decide +kernel
theorem dJ7_copyOf_6403c_21 : decode cJ7_copyOf_6403c 21 = .ok (.checkcast 110, 3) := by decide +kernel
theorem dJ7_copyOf_6403c_24 : decode cJ7_copyOf_6403c 24 = .ok (.astore_n 3, 1) := by decide +kernel
theorem dJ7_copyOf_6403c_25 : decode cJ7_copyOf_6403c 25 = .ok (.aload_n 0, 1) := by decide +kernel
theorem dJ7_copyOf_6403c_26 : decode cJ7_copyOf_6403c 26 = .ok (.iconst 0, 1) := by decide +kernel
theorem dJ7_copyOf_6403c_27 : decode cJ7_copyOf_6403c 27 = .ok (.aload_n 3, 1) := by decide +kernel
theorem dJ7_copyOf_6403c_28 : decode cJ7_copyOf_6403c 28 = .ok (.iconst 0, 1) := by decide +kernel
theorem dJ7_copyOf_6403c_29 : decode cJ7_copyOf_6403c 29 = .ok (.aload_n 0, 1) := by decide +kernel
theorem dJ7_copyOf_6403c_30 : decode cJ7_copyOf_6403c 30 = .ok (.arraylength, 1) := by decide +kernel
theorem dJ7_copyOf_6403c_31 : decode cJ7_copyOf_6403c 31 = .ok (.iload_n 1, 1) := by decide +kernel
theorem dJ7_copyOf_6403c_32 : decode cJ7_copyOf_6403c 32 = .ok (.invokestatic 304, 3) := by decide +kernel
theorem dJ7_copyOf_6403c_35 : decode cJ7_copyOf_6403c 35 = .ok (.invokestatic 150, 3) := by decide +kernel
theorem dJ7_copyOf_6403c_38 : decode cJ7_copyOf_6403c 38 = .ok (.aload_n 3, 1) := by decide +kernel
theorem dJ7_copyOf_6403c_39 : decode cJ7_copyOf_6403c 39 = .ok (.areturn, 1) := by decide +kernel
theorem dJ15_checkIndex_7cf53_0 : decode cJ15_checkIndex_7cf53 0 = .ok (.iload_n 0, 1) := by decide +kernel
theorem dJ15_checkIndex_7cf53_1 : decode cJ15_checkIndex_7cf53 1 = .ok (.iload_n 1, 1) := by decide +kernel
theorem dJ15_checkIndex_7cf53_2 : decode cJ15_checkIndex_7cf53 2 = .ok (.aconst_null, 1) := by decide +kernel
theorem dJ15_checkIndex_7cf53_3 : decode cJ15_checkIndex_7cf53 3 = .ok (.invokestatic 105, 3) := by decide +kernel
theorem dJ15_checkIndex_7cf53_6 : decode cJ15_checkIndex_7cf53 6 = .ok (.ireturn, 1) := by decide +kernel
theorem dJ8_newLength_cabcc_0 : decode cJ8_newLength_cabcc 0 = .ok (.iload_n 0, 1) := by decide +kernel
theorem dJ8_newLength_cabcc_1 : decode cJ8_newLength_cabcc 1 = .ok (.iload_n 1, 1) := by decide +kernel
theorem dJ8_newLength_cabcc_2 : decode cJ8_newLength_cabcc 2 = .ok (.iload_n 2, 1) := by decide +kernel
theorem dJ8_newLength_cabcc_3 : decode cJ8_newLength_cabcc 3 = .ok (.invokestatic 194, 3) := by decide +kernel
theorem dJ8_newLength_cabcc_6 : decode cJ8_newLength_cabcc 6 = .ok (.iadd, 1) := by decide +kernel
theorem dJ8_newLength_cabcc_7 : decode cJ8_newLength_cabcc 7 = .ok (.istore_n 3, 1) := by decide +kernel
theorem dJ8_newLength_cabcc_8 : decode cJ8_newLength_cabcc 8 = .ok (.iconst 0, 1) := by decide +kernel
theorem dJ8_newLength_cabcc_9 : decode cJ8_newLength_cabcc 9 = .ok (.iload_n 3, 1) := by decide +kernel
theorem dJ8_newLength_cabcc_10 : decode cJ8_newLength_cabcc 10 = .ok (.if_icmp .ge 11, 3) := by decide +kernel
theorem dJ8_newLength_cabcc_13 : decode cJ8_newLength_cabcc 13 = .ok (.iload_n 3, 1) := by decide +kernel
theorem dJ8_newLength_cabcc_14 : decode cJ8_newLength_cabcc 14 = .ok (.ldc 200, 2) := by decide +kernel
theorem dJ8_newLength_cabcc_16 : decode cJ8_newLength_cabcc 16 = .ok (.if_icmp .gt 5, 3) := by decide +kernel
theorem dJ8_newLength_cabcc_19 : decode cJ8_newLength_cabcc 19 = .ok (.iload_n 3, 1) := by decide +kernel
theorem dJ8_newLength_cabcc_20 : decode cJ8_newLength_cabcc 20 = .ok (.ireturn, 1) := by decide +kernel
theorem dJ8_newLength_cabcc_21 : decode cJ8_newLength_cabcc 21 = .ok (.iload_n 0, 1) := by decide +kernel
theorem dJ8_newLength_cabcc_22 : decode cJ8_newLength_cabcc 22 = .ok (.iload_n 1, 1) := by decide +kernel
theorem dJ8_newLength_cabcc_23 : decode cJ8_newLength_cabcc 23 = .ok (.invokestatic 201, 3) := by decide +kernel
theorem dJ8_newLength_cabcc_26 : decode cJ8_newLength_cabcc 26 = .ok (.ireturn, 1) := by decide +kernel
theorem dJ8_hugeLength_7cf53_0 : decode cJ8_hugeLength_7cf53 0 = .ok (.iload_n 0, 1) := by decide +kernel
theorem dJ8_hugeLength_7cf53_1 : decode cJ8_hugeLength_7cf53 1 = .ok (.iload_n 1, 1) := by decide +kernel
theorem dJ8_hugeLength_7cf53_2 : decode cJ8_hugeLength_7cf53 2 = .ok (.iadd, 1) := by decide +kernel
theorem dJ8_hugeLength_7cf53_3 : decode cJ8_hugeLength_7cf53 3 = .ok (.istore_n 2, 1) := by decide +kernel
theorem dJ8_hugeLength_7cf53_4 : decode cJ8_hugeLength_7cf53 4 = .ok (.iload_n 2, 1) := by decide +kernel
theorem dJ8_hugeLength_7cf53_5 : decode cJ8_hugeLength_7cf53 5 = .ok (.ifCond .ge 44, 3) := by decide +kernel
theorem dJ8_hugeLength_7cf53_8 : decode cJ8_hugeLength_7cf53 8 = .ok (.new 204, 3) := by decide +kernel
theorem dJ8_hugeLength_7cf53_11 : decode cJ8_hugeLength_7cf53 11 = .ok (.dup, 1) := by decide +kernel
theorem dJ8_hugeLength_7cf53_12 : decode cJ8_hugeLength_7cf53 12 = .ok (.new 89, 3) := by decide +kernel
theorem dJ8_hugeLength_7cf53_15 : decode cJ8_hugeLength_7cf53 15 = .ok (.dup, 1) := by decide +kernel
theorem dJ8_hugeLength_7cf53_16 : decode cJ8_hugeLength_7cf53 16 = .ok (.invokespecial 91, 3) := by decide +kernel
theorem dJ8_hugeLength_7cf53_19 : decode cJ8_hugeLength_7cf53 19 = .ok (.ldc 206, 2) := by decide +kernel
theorem dJ8_hugeLength_7cf53_21 : decode cJ8_hugeLength_7cf53 21 = .ok (.invokevirtual 94, 3) := by decide +kernel
theorem dJ8_hugeLength_7cf53_24 : decode cJ8_hugeLength_7cf53 24 = .ok (.iload_n 0, 1) := by decide +kernel
theorem dJ8_hugeLength_7cf53_25 : decode cJ8_hugeLength_7cf53 25 = .ok (.invokevirtual 98, 3) := by decide +kernel
theorem dJ8_hugeLength_7cf53_28 : decode cJ8_hugeLength_7cf53 28 = .ok (.ldc 208, 2) := by decide +kernel
theorem dJ8_hugeLength_7cf53_30 : decode cJ8_hugeLength_7cf53 30 = .ok (.invokevirtual 94, 3) := by decide +kernel
theorem dJ8_hugeLength_7cf53_33 : decode cJ8_hugeLength_7cf53 33 = .ok (.iload_n 1, 1) := by decide +kernel
theorem dJ8_hugeLength_7cf53_34 : decode cJ8_hugeLength_7cf53 34 = .ok (.invokevirtual 98, 3) := by decide +kernel
theorem dJ8_hugeLength_7cf53_37 : decode cJ8_hugeLength_7cf53 37 = .ok (.ldc 210, 2) := by decide +kernel
theorem dJ8_hugeLength_7cf53_39 : decode cJ8_hugeLength_7cf53 39 = .ok (.invokevirtual 94, 3) := by decide +kernel
theorem dJ8_hugeLength_7cf53_42 : decode cJ8_hugeLength_7cf53 42 = .ok (.invokevirtual 101, 3) := by decide +kernel
theorem dJ8_hugeLength_7cf53_45 : decode cJ8_hugeLength_7cf53 45 = .ok (.invokespecial 212, 3) := by decide +kernel
theorem dJ8_hugeLength_7cf53_48 : decode cJ8_hugeLength_7cf53 48 = .ok (.athrow, 1) := by decide +kernel
theorem dJ8_hugeLength_7cf53_49 : decode cJ8_hugeLength_7cf53 49 = .ok (.iload_n 2, 1) := by decide +kernel
theorem dJ8_hugeLength_7cf53_50 : decode cJ8_hugeLength_7cf53 50 = .ok (.ldc 200, 2) := by decide +kernel
theorem dJ8_hugeLength_7cf53_52 : decode cJ8_hugeLength_7cf53 52 = .ok (.if_icmp .gt 6, 3) := by decide +kernel
theorem dJ8_hugeLength_7cf53_55 : decode cJ8_hugeLength_7cf53 55 = .ok (.ldc 200, 2) := by decide +kernel
theorem dJ8_hugeLength_7cf53_57 : decode cJ8_hugeLength_7cf53 57 = .ok (.ireturn, 1) := by decide +kernel
theorem dJ8_hugeLength_7cf53_58 : decode cJ8_hugeLength_7cf53 58 = .ok (.iload_n 2, 1) := by decide +kernel
theorem dJ8_hugeLength_7cf53_59 : decode cJ8_hugeLength_7cf53 59 = .ok (.ireturn, 1) := by decide +kernel
theorem dJ3_checkIndex_8e157_0 : decode cJ3_checkIndex_8e157 0 = .ok (.iload_n 0, 1) := by decide +kernel
theorem dJ3_checkIndex_8e157_1 : decode cJ3_checkIndex_8e157 1 = .ok (.ifCond .lt 8, 3) := by decide +kernel
theorem dJ3_checkIndex_8e157_4 : decode cJ3_checkIndex_8e157 4 = .ok (.iload_n 0, 1) := by decide +kernel
theorem dJ3_checkIndex_8e157_5 : decode cJ3_checkIndex_8e157 5 = .ok (.iload_n 1, 1) := by decide +kernel
theorem dJ3_checkIndex_8e157_6 : decode cJ3_checkIndex_8e157 6 = .ok (.if_icmp .lt 10, 3) := by decide +kernel
theorem dJ3_checkIndex_8e157_9 : decode cJ3_checkIndex_8e157 9 = .ok (.aload_n 2, 1) := by decide +kernel
theorem dJ3_checkIndex_8e157_10 : decode cJ3_checkIndex_8e157 10 = .ok (.iload_n 0, 1) := by decide +kernel
theorem dJ3_checkIndex_8e157_11 : decode cJ3_checkIndex_8e157 11 = .ok (.iload_n 1, 1) := by decide +kernel
theorem dJ3_checkIndex_8e157_12 : decode cJ3_checkIndex_8e157 12 = .ok (.invokestatic 95, 3) := by decide +kernel
theorem dJ3_checkIndex_8e157_15 : decode cJ3_checkIndex_8e157 15 = .ok (.athrow, 1) := by decide +kernel
theorem dJ3_checkIndex_8e157_16 : decode cJ3_checkIndex_8e157 16 = .ok (.iload_n 0, 1) := by decide +kernel
theorem dJ3_checkIndex_8e157_17 : decode cJ3_checkIndex_8e157 17 = .ok (.ireturn, 1) := by decide +kernel
