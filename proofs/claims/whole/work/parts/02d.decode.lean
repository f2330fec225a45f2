theorem dX7_areLevelsFit_29 : decode cX7_areLevelsFit 29 = .ok (.aload_n 0, 1) := by decide +kernel
theorem dX7_areLevelsFit_30 : decode cX7_areLevelsFit 30 = .ok (.getfield 10, 3) := by decide +kernel
theorem dX7_areLevelsFit_33 : decode cX7_areLevelsFit 33 = .ok (.iload_n 3, 1) := by decide +kernel
theorem dX7_areLevelsFit_34 : decode cX7_areLevelsFit 34 = .ok (.invokevirtual 337, 3) := by decide +kernel
theorem dX7_areLevelsFit_37 : decode cX7_areLevelsFit 37 = .ok (.checkcast 101, 3) := by decide +kernel
theorem dX7_areLevelsFit_40 : decode cX7_areLevelsFit 40 = .ok (.invokevirtual 401, 3) := by decide +kernel
theorem dX7_areLevelsFit_43 : decode cX7_areLevelsFit 43 = .ok (.iinc 3 1, 3) := by decide +kernel
theorem dX7_areLevelsFit_46 : decode cX7_areLevelsFit 46 = .ok (.goto (-29), 3) := by decide +kernel
theorem dX7_areLevelsFit_49 : decode cX7_areLevelsFit 49 = .ok (.aload_n 1, 1) := by decide +kernel
theorem dX7_areLevelsFit_50 : decode cX7_areLevelsFit 50 = .ok (.ifnull 8, 3) := by decide +kernel
theorem dX7_areLevelsFit_53 : decode cX7_areLevelsFit 53 = .ok (.aload_n 0, 1) := by decide +kernel
theorem dX7_areLevelsFit_54 : decode cX7_areLevelsFit 54 = .ok (.aload_n 1, 1) := by decide +kernel
theorem dX7_areLevelsFit_55 : decode cX7_areLevelsFit 55 = .ok (.invokevirtual 401, 3) := by decide +kernel
theorem dX7_areLevelsFit_58 : decode cX7_areLevelsFit 58 = .ok (.iinc 2 1, 3) := by decide +kernel
theorem dX7_areLevelsFit_61 : decode cX7_areLevelsFit 61 = .ok (.goto (-51), 3) := by decide +kernel
theorem dX7_areLevelsFit_64 : decode cX7_areLevelsFit 64 = .ok (.iconst 0, 1) := by decide +kernel
theorem dX7_areLevelsFit_65 : decode cX7_areLevelsFit 65 = .ok (.istore_n 2, 1) := by decide +kernel
theorem dX7_areLevelsFit_66 : decode cX7_areLevelsFit 66 = .ok (.iload_n 2, 1) := by decide +kernel
theorem dX7_areLevelsFit_67 : decode cX7_areLevelsFit 67 = .ok (.aload_n 0, 1) := by decide +kernel
theorem dX7_areLevelsFit_68 : decode cX7_areLevelsFit 68 = .ok (.getfield 74, 3) := by decide +kernel
theorem dX7_areLevelsFit_71 : decode cX7_areLevelsFit 71 = .ok (.if_icmp .ge 21, 3) := by decide +kernel
theorem dX7_areLevelsFit_74 : decode cX7_areLevelsFit 74 = .ok (.aload_n 0, 1) := by decide +kernel
theorem dX7_areLevelsFit_75 : decode cX7_areLevelsFit 75 = .ok (.getfield 29, 3) := by decide +kernel
theorem dX7_areLevelsFit_78 : decode cX7_areLevelsFit 78 = .ok (.iload_n 2, 1) := by decide +kernel
theorem dX7_areLevelsFit_79 : decode cX7_areLevelsFit 79 = .ok (.iaload, 1) := by decide +kernel
theorem dX7_areLevelsFit_80 : decode cX7_areLevelsFit 80 = .ok (.iconst 3, 1) := by decide +kernel
theorem dX7_areLevelsFit_81 : decode cX7_areLevelsFit 81 = .ok (.if_icmp .le 5, 3) := by decide +kernel
theorem dX7_areLevelsFit_84 : decode cX7_areLevelsFit 84 = .ok (.iconst 0, 1) := by decide +kernel
theorem dX7_areLevelsFit_85 : decode cX7_areLevelsFit 85 = .ok (.ireturn, 1) := by decide +kernel
theorem dX7_areLevelsFit_86 : decode cX7_areLevelsFit 86 = .ok (.iinc 2 1, 3) := by decide +kernel
theorem dX7_areLevelsFit_89 : decode cX7_areLevelsFit 89 = .ok (.goto (-23), 3) := by decide +kernel
theorem dX7_areLevelsFit_92 : decode cX7_areLevelsFit 92 = .ok (.iconst 1, 1) := by decide +kernel
theorem dX7_areLevelsFit_93 : decode cX7_areLevelsFit 93 = .ok (.ireturn, 1) := by decide +kernel
theorem dX7_raiseLevel_0 : decode cX7_raiseLevel 0 = .ok (.aload_n 0, 1) := by decide +kernel
theorem dX7_raiseLevel_1 : decode cX7_raiseLevel 1 = .ok (.getfield 29, 3) := by decide +kernel
theorem dX7_raiseLevel_4 : decode cX7_raiseLevel 4 = .ok (.aload_n 1, 1) := by decide +kernel
theorem dX7_raiseLevel_5 : decode cX7_raiseLevel 5 = .ok (.getfield 404, 3) := by decide +kernel
theorem dX7_raiseLevel_8 : decode cX7_raiseLevel 8 = .ok (.iaload, 1) := by decide +kernel
theorem dX7_raiseLevel_9 : decode cX7_raiseLevel 9 = .ok (.istore_n 2, 1) := by decide +kernel
theorem dX7_raiseLevel_10 : decode cX7_raiseLevel 10 = .ok (.aload_n 1, 1) := by decide +kernel
theorem dX7_raiseLevel_11 : decode cX7_raiseLevel 11 = .ok (.invokevirtual 407, 3) := by decide +kernel
theorem dX7_raiseLevel_14 : decode cX7_raiseLevel 14 = .ok (.ifCond .eq 17, 3) := by decide +kernel
theorem dX7_raiseLevel_17 : decode cX7_raiseLevel 17 = .ok (.iload_n 2, 1) := by decide +kernel
theorem dX7_raiseLevel_18 : decode cX7_raiseLevel 18 = .ok (.aload_n 0, 1) := by decide +kernel
theorem dX7_raiseLevel_19 : decode cX7_raiseLevel 19 = .ok (.getfield 29, 3) := by decide +kernel
theorem dX7_raiseLevel_22 : decode cX7_raiseLevel 22 = .ok (.aload_n 1, 1) := by decide +kernel
theorem dX7_raiseLevel_23 : decode cX7_raiseLevel 23 = .ok (.getfield 410, 3) := by decide +kernel
theorem dX7_raiseLevel_26 : decode cX7_raiseLevel 26 = .ok (.iaload, 1) := by decide +kernel
theorem dX7_raiseLevel_27 : decode cX7_raiseLevel 27 = .ok (.invokestatic 413, 3) := by decide +kernel
theorem dX7_raiseLevel_30 : decode cX7_raiseLevel 30 = .ok (.istore_n 2, 1) := by decide +kernel
theorem dX7_raiseLevel_31 : decode cX7_raiseLevel 31 = .ok (.aload_n 0, 1) := by decide +kernel
theorem dX7_raiseLevel_32 : decode cX7_raiseLevel 32 = .ok (.getfield 29, 3) := by decide +kernel
theorem dX7_raiseLevel_35 : decode cX7_raiseLevel 35 = .ok (.aload_n 1, 1) := by decide +kernel
theorem dX7_raiseLevel_36 : decode cX7_raiseLevel 36 = .ok (.getfield 388, 3) := by decide +kernel
theorem dX7_raiseLevel_39 : decode cX7_raiseLevel 39 = .ok (.iload_n 2, 1) := by decide +kernel
theorem dX7_raiseLevel_40 : decode cX7_raiseLevel 40 = .ok (.iconst 1, 1) := by decide +kernel
theorem dX7_raiseLevel_41 : decode cX7_raiseLevel 41 = .ok (.iadd, 1) := by decide +kernel
theorem dX7_raiseLevel_42 : decode cX7_raiseLevel 42 = .ok (.iastore, 1) := by decide +kernel
theorem dX7_raiseLevel_43 : decode cX7_raiseLevel 43 = .ok (.return_, 1) := by decide +kernel
theorem dX7_sortLinks_0 : decode cX7_sortLinks 0 = .ok (.aload_n 0, 1) := by decide +kernel
theorem dX7_sortLinks_1 : decode cX7_sortLinks 1 = .ok (.getfield 16, 3) := by decide +kernel
theorem dX7_sortLinks_4 : decode cX7_sortLinks 4 = .ok (.invokevirtual 417, 3) := by decide +kernel
theorem dX7_sortLinks_7 : decode cX7_sortLinks 7 = .ok (.iconst 1, 1) := by decide +kernel
theorem dX7_sortLinks_8 : decode cX7_sortLinks 8 = .ok (.istore_n 1, 1) := by decide +kernel
theorem dX7_sortLinks_9 : decode cX7_sortLinks 9 = .ok (.iload_n 1, 1) := by decide +kernel
theorem dX7_sortLinks_10 : decode cX7_sortLinks 10 = .ok (.iconst 3, 1) := by decide +kernel
theorem dX7_sortLinks_11 : decode cX7_sortLinks 11 = .ok (.if_icmp .gt 62, 3) := by decide +kernel
theorem dX7_sortLinks_14 : decode cX7_sortLinks 14 = .ok (.iconst 0, 1) := by decide +kernel
theorem dX7_sortLinks_15 : decode cX7_sortLinks 15 = .ok (.istore_n 2, 1) := by decide +kernel
theorem dX7_sortLinks_16 : decode cX7_sortLinks 16 = .ok (.iload_n 2, 1) := by decide +kernel
theorem dX7_sortLinks_17 : decode cX7_sortLinks 17 = .ok (.aload_n 0, 1) := by decide +kernel
theorem dX7_sortLinks_18 : decode cX7_sortLinks 18 = .ok (.getfield 10, 3) := by decide +kernel
theorem dX7_sortLinks_21 : decode cX7_sortLinks 21 = .ok (.invokevirtual 103, 3) := by decide +kernel
theorem dX7_sortLinks_24 : decode cX7_sortLinks 24 = .ok (.if_icmp .ge 43, 3) := by decide +kernel
theorem dX7_sortLinks_27 : decode cX7_sortLinks 27 = .ok (.aload_n 0, 1) := by decide +kernel
theorem dX7_sortLinks_28 : decode cX7_sortLinks 28 = .ok (.getfield 10, 3) := by decide +kernel
theorem dX7_sortLinks_31 : decode cX7_sortLinks 31 = .ok (.iload_n 2, 1) := by decide +kernel
theorem dX7_sortLinks_32 : decode cX7_sortLinks 32 = .ok (.invokevirtual 337, 3) := by decide +kernel
theorem dX7_sortLinks_35 : decode cX7_sortLinks 35 = .ok (.checkcast 101, 3) := by decide +kernel
theorem dX7_sortLinks_38 : decode cX7_sortLinks 38 = .ok (.astore_n 3, 1) := by decide +kernel
theorem dX7_sortLinks_39 : decode cX7_sortLinks 39 = .ok (.aload_n 0, 1) := by decide +kernel
theorem dX7_sortLinks_40 : decode cX7_sortLinks 40 = .ok (.getfield 29, 3) := by decide +kernel
theorem dX7_sortLinks_43 : decode cX7_sortLinks 43 = .ok (.aload_n 3, 1) := by decide +kernel
theorem dX7_sortLinks_44 : decode cX7_sortLinks 44 = .ok (.getfield 388, 3) := by decide +kernel
theorem dX7_sortLinks_47 : decode cX7_sortLinks 47 = .ok (.iaload, 1) := by decide +kernel
theorem dX7_sortLinks_48 : decode cX7_sortLinks 48 = .ok (.iload_n 1, 1) := by decide +kernel
theorem dX7_sortLinks_49 : decode cX7_sortLinks 49 = .ok (.if_icmp .ne 12, 3) := by decide +kernel
theorem dX7_sortLinks_52 : decode cX7_sortLinks 52 = .ok (.aload_n 0, 1) := by decide +kernel
theorem dX7_sortLinks_53 : decode cX7_sortLinks 53 = .ok (.getfield 16, 3) := by decide +kernel
theorem dX7_sortLinks_56 : decode cX7_sortLinks 56 = .ok (.aload_n 3, 1) := by decide +kernel
theorem dX7_sortLinks_57 : decode cX7_sortLinks 57 = .ok (.invokevirtual 228, 3) := by decide +kernel
theorem dX7_sortLinks_60 : decode cX7_sortLinks 60 = .ok (.pop, 1) := by decide +kernel
theorem dX7_sortLinks_61 : decode cX7_sortLinks 61 = .ok (.iinc 2 1, 3) := by decide +kernel
theorem dX7_sortLinks_64 : decode cX7_sortLinks 64 = .ok (.goto (-48), 3) := by decide +kernel
theorem dX7_sortLinks_67 : decode cX7_sortLinks 67 = .ok (.iinc 1 1, 3) := by decide +kernel
theorem dX7_sortLinks_70 : decode cX7_sortLinks 70 = .ok (.goto (-61), 3) := by decide +kernel
theorem dX7_sortLinks_73 : decode cX7_sortLinks 73 = .ok (.return_, 1) := by decide +kernel
theorem dX7_countDriven_0 : decode cX7_countDriven 0 = .ok (.iconst 0, 1) := by decide +kernel
theorem dX7_countDriven_1 : decode cX7_countDriven 1 = .ok (.istore_n 1, 1) := by decide +kernel
theorem dX7_countDriven_2 : decode cX7_countDriven 2 = .ok (.iconst 0, 1) := by decide +kernel
theorem dX7_countDriven_3 : decode cX7_countDriven 3 = .ok (.istore_n 2, 1) := by decide +kernel
theorem dX7_countDriven_4 : decode cX7_countDriven 4 = .ok (.iload_n 2, 1) := by decide +kernel
theorem dX7_countDriven_5 : decode cX7_countDriven 5 = .ok (.aload_n 0, 1) := by decide +kernel
theorem dX7_countDriven_6 : decode cX7_countDriven 6 = .ok (.getfield 74, 3) := by decide +kernel
theorem dX7_countDriven_9 : decode cX7_countDriven 9 = .ok (.if_icmp .ge 22, 3) := by decide +kernel
theorem dX7_countDriven_12 : decode cX7_countDriven 12 = .ok (.aload_n 0, 1) := by decide +kernel
theorem dX7_countDriven_13 : decode cX7_countDriven 13 = .ok (.getfield 25, 3) := by decide +kernel
theorem dX7_countDriven_16 : decode cX7_countDriven 16 = .ok (.iload_n 2, 1) := by decide +kernel
theorem dX7_countDriven_17 : decode cX7_countDriven 17 = .ok (.iaload, 1) := by decide +kernel
theorem dX7_countDriven_18 : decode cX7_countDriven 18 = .ok (.iconst (-1), 1) := by decide +kernel
theorem dX7_countDriven_19 : decode cX7_countDriven 19 = .ok (.if_icmp .eq 6, 3) := by decide +kernel
theorem dX7_countDriven_22 : decode cX7_countDriven 22 = .ok (.iinc 1 1, 3) := by decide +kernel
theorem dX7_countDriven_25 : decode cX7_countDriven 25 = .ok (.iinc 2 1, 3) := by decide +kernel
theorem dX7_countDriven_28 : decode cX7_countDriven 28 = .ok (.goto (-24), 3) := by decide +kernel
theorem dX7_countDriven_31 : decode cX7_countDriven 31 = .ok (.iload_n 1, 1) := by decide +kernel
theorem dX7_countDriven_32 : decode cX7_countDriven 32 = .ok (.ireturn, 1) := by decide +kernel
theorem dX7_countBroken_0 : decode cX7_countBroken 0 = .ok (.iconst 0, 1) := by decide +kernel
theorem dX7_countBroken_1 : decode cX7_countBroken 1 = .ok (.istore_n 1, 1) := by decide +kernel
theorem dX7_countBroken_2 : decode cX7_countBroken 2 = .ok (.iconst 0, 1) := by decide +kernel
theorem dX7_countBroken_3 : decode cX7_countBroken 3 = .ok (.istore_n 2, 1) := by decide +kernel
theorem dX7_countBroken_4 : decode cX7_countBroken 4 = .ok (.iload_n 2, 1) := by decide +kernel
theorem dX7_countBroken_5 : decode cX7_countBroken 5 = .ok (.aload_n 0, 1) := by decide +kernel
theorem dX7_countBroken_6 : decode cX7_countBroken 6 = .ok (.getfield 10, 3) := by decide +kernel
theorem dX7_countBroken_9 : decode cX7_countBroken 9 = .ok (.invokevirtual 103, 3) := by decide +kernel
theorem dX7_countBroken_12 : decode cX7_countBroken 12 = .ok (.if_icmp .ge 29, 3) := by decide +kernel
theorem dX7_countBroken_15 : decode cX7_countBroken 15 = .ok (.aload_n 0, 1) := by decide +kernel
theorem dX7_countBroken_16 : decode cX7_countBroken 16 = .ok (.getfield 10, 3) := by decide +kernel
theorem dX7_countBroken_19 : decode cX7_countBroken 19 = .ok (.iload_n 2, 1) := by decide +kernel
theorem dX7_countBroken_20 : decode cX7_countBroken 20 = .ok (.invokevirtual 337, 3) := by decide +kernel
theorem dX7_countBroken_23 : decode cX7_countBroken 23 = .ok (.checkcast 101, 3) := by decide +kernel
theorem dX7_countBroken_26 : decode cX7_countBroken 26 = .ok (.getfield 204, 3) := by decide +kernel
theorem dX7_countBroken_29 : decode cX7_countBroken 29 = .ok (.ifCond .eq 6, 3) := by decide +kernel
theorem dX7_countBroken_32 : decode cX7_countBroken 32 = .ok (.iinc 1 1, 3) := by decide +kernel
theorem dX7_countBroken_35 : decode cX7_countBroken 35 = .ok (.iinc 2 1, 3) := by decide +kernel
theorem dX7_countBroken_38 : decode cX7_countBroken 38 = .ok (.goto (-34), 3) := by decide +kernel
theorem dX7_countBroken_41 : decode cX7_countBroken 41 = .ok (.iload_n 1, 1) := by decide +kernel
theorem dX7_countBroken_42 : decode cX7_countBroken 42 = .ok (.ireturn, 1) := by decide +kernel
theorem dX7_findRatios_0 : decode cX7_findRatios 0 = .ok (.aload_n 0, 1) := by decide +kernel
theorem dX7_findRatios_1 : decode cX7_findRatios 1 = .ok (.iload_n 1, 1) := by decide +kernel
theorem dX7_findRatios_2 : decode cX7_findRatios 2 = .ok (.invokevirtual 84, 3) := by decide +kernel
theorem dX7_findRatios_5 : decode cX7_findRatios 5 = .ok (.aload_n 0, 1) := by decide +kernel
theorem dX7_findRatios_6 : decode cX7_findRatios 6 = .ok (.iload_n 2, 1) := by decide +kernel
theorem dX7_findRatios_7 : decode cX7_findRatios 7 = .ok (.invokevirtual 84, 3) := by decide +kernel
theorem dX7_findRatios_10 : decode cX7_findRatios 10 = .ok (.aload_n 0, 1) := by decide +kernel
theorem dX7_findRatios_11 : decode cX7_findRatios 11 = .ok (.getfield 25, 3) := by decide +kernel
theorem dX7_findRatios_14 : decode cX7_findRatios 14 = .ok (.iload_n 2, 1) := by decide +kernel
theorem dX7_findRatios_15 : decode cX7_findRatios 15 = .ok (.iaload, 1) := by decide +kernel
theorem dX7_findRatios_16 : decode cX7_findRatios 16 = .ok (.iconst (-1), 1) := by decide +kernel
theorem dX7_findRatios_17 : decode cX7_findRatios 17 = .ok (.if_icmp .eq 14, 3) := by decide +kernel
theorem dX7_findRatios_20 : decode cX7_findRatios 20 = .ok (.new 96, 3) := by decide +kernel
theorem dX7_findRatios_23 : decode cX7_findRatios 23 = .ok (.dup, 1) := by decide +kernel
theorem dX7_findRatios_24 : decode cX7_findRatios 24 = .ok (.ldc_w 420, 3) := by decide +kernel
theorem dX7_findRatios_27 : decode cX7_findRatios 27 = .ok (.invokespecial 100, 3) := by decide +kernel
theorem dX7_findRatios_30 : decode cX7_findRatios 30 = .ok (.athrow, 1) := by decide +kernel
theorem dX7_findRatios_31 : decode cX7_findRatios 31 = .ok (.aload_n 0, 1) := by decide +kernel
theorem dX7_findRatios_32 : decode cX7_findRatios 32 = .ok (.getfield 44, 3) := by decide +kernel
theorem dX7_findRatios_35 : decode cX7_findRatios 35 = .ok (.invokevirtual 422, 3) := by decide +kernel
theorem dX7_findRatios_38 : decode cX7_findRatios 38 = .ok (.aload_n 0, 1) := by decide +kernel
theorem dX7_findRatios_39 : decode cX7_findRatios 39 = .ok (.getfield 44, 3) := by decide +kernel
theorem dX7_findRatios_42 : decode cX7_findRatios 42 = .ok (.iload_n 2, 1) := by decide +kernel
theorem dX7_findRatios_43 : decode cX7_findRatios 43 = .ok (.lconst 1, 1) := by decide +kernel
theorem dX7_findRatios_44 : decode cX7_findRatios 44 = .ok (.lconst 1, 1) := by decide +kernel
theorem dX7_findRatios_45 : decode cX7_findRatios 45 = .ok (.invokevirtual 209, 3) := by decide +kernel
theorem dX7_findRatios_48 : decode cX7_findRatios 48 = .ok (.iconst 0, 1) := by decide +kernel
theorem dX7_findRatios_49 : decode cX7_findRatios 49 = .ok (.istore_n 3, 1) := by decide +kernel
theorem dX7_findRatios_50 : decode cX7_findRatios 50 = .ok (.iload_n 3, 1) := by decide +kernel
theorem dX7_findRatios_51 : decode cX7_findRatios 51 = .ok (.bipush 14, 2) := by decide +kernel
theorem dX7_findRatios_53 : decode cX7_findRatios 53 = .ok (.if_icmp .ge 32, 3) := by decide +kernel
theorem dX7_findRatios_56 : decode cX7_findRatios 56 = .ok (.aload_n 0, 1) := by decide +kernel
theorem dX7_findRatios_57 : decode cX7_findRatios 57 = .ok (.getfield 32, 3) := by decide +kernel
theorem dX7_findRatios_60 : decode cX7_findRatios 60 = .ok (.iload_n 3, 1) := by decide +kernel
theorem dX7_findRatios_61 : decode cX7_findRatios 61 = .ok (.iload_n 3, 1) := by decide +kernel
theorem dX7_findRatios_62 : decode cX7_findRatios 62 = .ok (.iload_n 2, 1) := by decide +kernel
theorem dX7_findRatios_63 : decode cX7_findRatios 63 = .ok (.if_icmp .ne 7, 3) := by decide +kernel
theorem dX7_findRatios_66 : decode cX7_findRatios 66 = .ok (.iconst 1, 1) := by decide +kernel
theorem dX7_findRatios_67 : decode cX7_findRatios 67 = .ok (.goto 4, 3) := by decide +kernel
theorem dX7_findRatios_70 : decode cX7_findRatios 70 = .ok (.iconst 0, 1) := by decide +kernel
theorem dX7_findRatios_71 : decode cX7_findRatios 71 = .ok (.bastore, 1) := by decide +kernel
theorem dX7_findRatios_72 : decode cX7_findRatios 72 = .ok (.aload_n 0, 1) := by decide +kernel
theorem dX7_findRatios_73 : decode cX7_findRatios 73 = .ok (.getfield 36, 3) := by decide +kernel
theorem dX7_findRatios_76 : decode cX7_findRatios 76 = .ok (.iload_n 3, 1) := by decide +kernel
theorem dX7_findRatios_77 : decode cX7_findRatios 77 = .ok (.iconst 0, 1) := by decide +kernel
theorem dX7_findRatios_78 : decode cX7_findRatios 78 = .ok (.bastore, 1) := by decide +kernel
theorem dX7_findRatios_79 : decode cX7_findRatios 79 = .ok (.iinc 3 1, 3) := by decide +kernel
theorem dX7_findRatios_82 : decode cX7_findRatios 82 = .ok (.goto (-32), 3) := by decide +kernel
theorem dX7_findRatios_85 : decode cX7_findRatios 85 = .ok (.iconst 0, 1) := by decide +kernel
theorem dX7_findRatios_86 : decode cX7_findRatios 86 = .ok (.istore_n 3, 1) := by decide +kernel
theorem dX7_findRatios_87 : decode cX7_findRatios 87 = .ok (.iload_n 3, 1) := by decide +kernel
theorem dX7_findRatios_88 : decode cX7_findRatios 88 = .ok (.aload_n 0, 1) := by decide +kernel
theorem dX7_findRatios_89 : decode cX7_findRatios 89 = .ok (.getfield 16, 3) := by decide +kernel
theorem dX7_findRatios_92 : decode cX7_findRatios 92 = .ok (.invokevirtual 103, 3) := by decide +kernel
theorem dX7_findRatios_95 : decode cX7_findRatios 95 = .ok (.if_icmp .ge 24, 3) := by decide +kernel
theorem dX7_findRatios_98 : decode cX7_findRatios 98 = .ok (.aload_n 0, 1) := by decide +kernel
theorem dX7_findRatios_99 : decode cX7_findRatios 99 = .ok (.aload_n 0, 1) := by decide +kernel
theorem dX7_findRatios_100 : decode cX7_findRatios 100 = .ok (.getfield 16, 3) := by decide +kernel
theorem dX7_findRatios_103 : decode cX7_findRatios 103 = .ok (.iload_n 3, 1) := by decide +kernel
theorem dX7_findRatios_104 : decode cX7_findRatios 104 = .ok (.invokevirtual 337, 3) := by decide +kernel
theorem dX7_findRatios_107 : decode cX7_findRatios 107 = .ok (.checkcast 101, 3) := by decide +kernel
theorem dX7_findRatios_110 : decode cX7_findRatios 110 = .ok (.invokevirtual 425, 3) := by decide +kernel
theorem dX7_findRatios_113 : decode cX7_findRatios 113 = .ok (.iinc 3 1, 3) := by decide +kernel
theorem dX7_findRatios_116 : decode cX7_findRatios 116 = .ok (.goto (-29), 3) := by decide +kernel
theorem dX7_findRatios_119 : decode cX7_findRatios 119 = .ok (.aload_n 0, 1) := by decide +kernel
theorem dX7_findRatios_120 : decode cX7_findRatios 120 = .ok (.getfield 36, 3) := by decide +kernel
theorem dX7_findRatios_123 : decode cX7_findRatios 123 = .ok (.iload_n 1, 1) := by decide +kernel
theorem dX7_findRatios_124 : decode cX7_findRatios 124 = .ok (.baload, 1) := by decide +kernel
theorem dX7_findRatios_125 : decode cX7_findRatios 125 = .ok (.ifCond .eq 14, 3) := by decide +kernel
theorem dX7_findRatios_128 : decode cX7_findRatios 128 = .ok (.new 96, 3) := by decide +kernel
theorem dX7_findRatios_131 : decode cX7_findRatios 131 = .ok (.dup, 1) := by decide +kernel
theorem dX7_findRatios_132 : decode cX7_findRatios 132 = .ok (.ldc_w 428, 3) := by decide +kernel
theorem dX7_findRatios_135 : decode cX7_findRatios 135 = .ok (.invokespecial 100, 3) := by decide +kernel
theorem dX7_findRatios_138 : decode cX7_findRatios 138 = .ok (.athrow, 1) := by decide +kernel
theorem dX7_findRatios_139 : decode cX7_findRatios 139 = .ok (.return_, 1) := by decide +kernel
theorem dX7_spread_0 : decode cX7_spread 0 = .ok (.aload_n 0, 1) := by decide +kernel
theorem dX7_spread_1 : decode cX7_spread 1 = .ok (.getfield 32, 3) := by decide +kernel
theorem dX7_spread_4 : decode cX7_spread 4 = .ok (.aload_n 1, 1) := by decide +kernel
theorem dX7_spread_5 : decode cX7_spread 5 = .ok (.getfield 388, 3) := by decide +kernel
theorem dX7_spread_8 : decode cX7_spread 8 = .ok (.aload_n 0, 1) := by decide +kernel
theorem dX7_spread_9 : decode cX7_spread 9 = .ok (.getfield 32, 3) := by decide +kernel
theorem dX7_spread_12 : decode cX7_spread 12 = .ok (.aload_n 1, 1) := by decide +kernel
theorem dX7_spread_13 : decode cX7_spread 13 = .ok (.getfield 404, 3) := by decide +kernel
theorem dX7_spread_16 : decode cX7_spread 16 = .ok (.baload, 1) := by decide +kernel
theorem dX7_spread_17 : decode cX7_spread 17 = .ok (.ifCond .ne 22, 3) := by decide +kernel
theorem dX7_spread_20 : decode cX7_spread 20 = .ok (.aload_n 1, 1) := by decide +kernel
theorem dX7_spread_21 : decode cX7_spread 21 = .ok (.invokevirtual 407, 3) := by decide +kernel
theorem dX7_spread_24 : decode cX7_spread 24 = .ok (.ifCond .eq 19, 3) := by decide +kernel
theorem dX7_spread_27 : decode cX7_spread 27 = .ok (.aload_n 0, 1) := by decide +kernel
theorem dX7_spread_28 : decode cX7_spread 28 = .ok (.getfield 32, 3) := by decide +kernel
theorem dX7_spread_31 : decode cX7_spread 31 = .ok (.aload_n 1, 1) := by decide +kernel
theorem dX7_spread_32 : decode cX7_spread 32 = .ok (.getfield 410, 3) := by decide +kernel
theorem dX7_spread_35 : decode cX7_spread 35 = .ok (.baload, 1) := by decide +kernel
theorem dX7_spread_36 : decode cX7_spread 36 = .ok (.ifCond .eq 7, 3) := by decide +kernel
theorem dX7_spread_39 : decode cX7_spread 39 = .ok (.iconst 1, 1) := by decide +kernel
theorem dX7_spread_40 : decode cX7_spread 40 = .ok (.goto 4, 3) := by decide +kernel
theorem dX7_spread_43 : decode cX7_spread 43 = .ok (.iconst 0, 1) := by decide +kernel
theorem dX7_spread_44 : decode cX7_spread 44 = .ok (.bastore, 1) := by decide +kernel
theorem dX7_spread_45 : decode cX7_spread 45 = .ok (.aload_n 0, 1) := by decide +kernel
theorem dX7_spread_46 : decode cX7_spread 46 = .ok (.getfield 36, 3) := by decide +kernel
theorem dX7_spread_49 : decode cX7_spread 49 = .ok (.aload_n 1, 1) := by decide +kernel
theorem dX7_spread_50 : decode cX7_spread 50 = .ok (.getfield 388, 3) := by decide +kernel
theorem dX7_spread_53 : decode cX7_spread 53 = .ok (.aload_n 0, 1) := by decide +kernel
theorem dX7_spread_54 : decode cX7_spread 54 = .ok (.getfield 36, 3) := by decide +kernel
theorem dX7_spread_57 : decode cX7_spread 57 = .ok (.aload_n 1, 1) := by decide +kernel
theorem dX7_spread_58 : decode cX7_spread 58 = .ok (.getfield 404, 3) := by decide +kernel
theorem dX7_spread_61 : decode cX7_spread 61 = .ok (.baload, 1) := by decide +kernel
theorem dX7_spread_62 : decode cX7_spread 62 = .ok (.ifCond .ne 48, 3) := by decide +kernel
theorem dX7_spread_65 : decode cX7_spread 65 = .ok (.aload_n 1, 1) := by decide +kernel
theorem dX7_spread_66 : decode cX7_spread 66 = .ok (.invokevirtual 407, 3) := by decide +kernel
theorem dX7_spread_69 : decode cX7_spread 69 = .ok (.ifCond .eq 15, 3) := by decide +kernel
theorem dX7_spread_72 : decode cX7_spread 72 = .ok (.aload_n 0, 1) := by decide +kernel
theorem dX7_spread_73 : decode cX7_spread 73 = .ok (.getfield 36, 3) := by decide +kernel
theorem dX7_spread_76 : decode cX7_spread 76 = .ok (.aload_n 1, 1) := by decide +kernel
theorem dX7_spread_77 : decode cX7_spread 77 = .ok (.getfield 410, 3) := by decide +kernel
theorem dX7_spread_80 : decode cX7_spread 80 = .ok (.baload, 1) := by decide +kernel
theorem dX7_spread_81 : decode cX7_spread 81 = .ok (.ifCond .ne 29, 3) := by decide +kernel
theorem dX7_spread_84 : decode cX7_spread 84 = .ok (.aload_n 0, 1) := by decide +kernel
theorem dX7_spread_85 : decode cX7_spread 85 = .ok (.getfield 32, 3) := by decide +kernel
theorem dX7_spread_88 : decode cX7_spread 88 = .ok (.aload_n 1, 1) := by decide +kernel
theorem dX7_spread_89 : decode cX7_spread 89 = .ok (.getfield 388, 3) := by decide +kernel
theorem dX7_spread_92 : decode cX7_spread 92 = .ok (.baload, 1) := by decide +kernel
theorem dX7_spread_93 : decode cX7_spread 93 = .ok (.ifCond .eq 21, 3) := by decide +kernel
theorem dX7_spread_96 : decode cX7_spread 96 = .ok (.aload_n 1, 1) := by decide +kernel
theorem dX7_spread_97 : decode cX7_spread 97 = .ok (.invokevirtual 430, 3) := by decide +kernel
theorem dX7_spread_100 : decode cX7_spread 100 = .ok (.ifCond .eq 14, 3) := by decide +kernel
theorem dX7_spread_103 : decode cX7_spread 103 = .ok (.aload_n 1, 1) := by decide +kernel
theorem dX7_spread_104 : decode cX7_spread 104 = .ok (.getfield 204, 3) := by decide +kernel
theorem dX7_spread_107 : decode cX7_spread 107 = .ok (.ifCond .ne 7, 3) := by decide +kernel
theorem dX7_spread_110 : decode cX7_spread 110 = .ok (.iconst 1, 1) := by decide +kernel
theorem dX7_spread_111 : decode cX7_spread 111 = .ok (.goto 4, 3) := by decide +kernel
theorem dX7_spread_114 : decode cX7_spread 114 = .ok (.iconst 0, 1) := by decide +kernel
theorem dX7_spread_115 : decode cX7_spread 115 = .ok (.bastore, 1) := by decide +kernel
theorem dX7_spread_116 : decode cX7_spread 116 = .ok (.aload_n 1, 1) := by decide +kernel
theorem dX7_spread_117 : decode cX7_spread 117 = .ok (.invokevirtual 134, 3) := by decide +kernel
theorem dX7_spread_120 : decode cX7_spread 120 = .ok (.ifCond .eq 15, 3) := by decide +kernel
theorem dX7_spread_123 : decode cX7_spread 123 = .ok (.aload_n 1, 1) := by decide +kernel
theorem dX7_spread_124 : decode cX7_spread 124 = .ok (.aload_n 0, 1) := by decide +kernel
theorem dX7_spread_125 : decode cX7_spread 125 = .ok (.getfield 44, 3) := by decide +kernel
theorem dX7_spread_128 : decode cX7_spread 128 = .ok (.aload_n 1, 1) := by decide +kernel
theorem dX7_spread_129 : decode cX7_spread 129 = .ok (.invokevirtual 433, 3) := by decide +kernel
theorem dX7_spread_132 : decode cX7_spread 132 = .ok (.invokevirtual 435, 3) := by decide +kernel
theorem dX7_spread_135 : decode cX7_spread 135 = .ok (.return_, 1) := by decide +kernel
theorem dX7_findSlacks_0 : decode cX7_findSlacks 0 = .ok (.aload_n 0, 1) := by decide +kernel
theorem dX7_findSlacks_1 : decode cX7_findSlacks 1 = .ok (.iload_n 1, 1) := by decide +kernel
theorem dX7_findSlacks_2 : decode cX7_findSlacks 2 = .ok (.invokevirtual 84, 3) := by decide +kernel
theorem dX7_findSlacks_5 : decode cX7_findSlacks 5 = .ok (.aload_n 0, 1) := by decide +kernel
theorem dX7_findSlacks_6 : decode cX7_findSlacks 6 = .ok (.getfield 44, 3) := by decide +kernel
theorem dX7_findSlacks_9 : decode cX7_findSlacks 9 = .ok (.invokevirtual 422, 3) := by decide +kernel
theorem dX7_findSlacks_12 : decode cX7_findSlacks 12 = .ok (.iconst 0, 1) := by decide +kernel
theorem dX7_findSlacks_13 : decode cX7_findSlacks 13 = .ok (.istore_n 2, 1) := by decide +kernel
theorem dX7_findSlacks_14 : decode cX7_findSlacks 14 = .ok (.iload_n 2, 1) := by decide +kernel
theorem dX7_findSlacks_15 : decode cX7_findSlacks 15 = .ok (.aload_n 0, 1) := by decide +kernel
theorem dX7_findSlacks_16 : decode cX7_findSlacks 16 = .ok (.getfield 16, 3) := by decide +kernel
theorem dX7_findSlacks_19 : decode cX7_findSlacks 19 = .ok (.invokevirtual 103, 3) := by decide +kernel
theorem dX7_findSlacks_22 : decode cX7_findSlacks 22 = .ok (.if_icmp .ge 53, 3) := by decide +kernel
theorem dX7_findSlacks_25 : decode cX7_findSlacks 25 = .ok (.aload_n 0, 1) := by decide +kernel
theorem dX7_findSlacks_26 : decode cX7_findSlacks 26 = .ok (.getfield 16, 3) := by decide +kernel
theorem dX7_findSlacks_29 : decode cX7_findSlacks 29 = .ok (.iload_n 2, 1) := by decide +kernel
theorem dX7_findSlacks_30 : decode cX7_findSlacks 30 = .ok (.invokevirtual 337, 3) := by decide +kernel
theorem dX7_findSlacks_33 : decode cX7_findSlacks 33 = .ok (.checkcast 101, 3) := by decide +kernel
theorem dX7_findSlacks_36 : decode cX7_findSlacks 36 = .ok (.astore_n 3, 1) := by decide +kernel
theorem dX7_findSlacks_37 : decode cX7_findSlacks 37 = .ok (.aload_n 0, 1) := by decide +kernel
theorem dX7_findSlacks_38 : decode cX7_findSlacks 38 = .ok (.getfield 44, 3) := by decide +kernel
theorem dX7_findSlacks_41 : decode cX7_findSlacks 41 = .ok (.aload_n 3, 1) := by decide +kernel
theorem dX7_findSlacks_42 : decode cX7_findSlacks 42 = .ok (.getfield 388, 3) := by decide +kernel
theorem dX7_findSlacks_45 : decode cX7_findSlacks 45 = .ok (.aload_n 3, 1) := by decide +kernel
theorem dX7_findSlacks_46 : decode cX7_findSlacks 46 = .ok (.getfield 145, 3) := by decide +kernel
theorem dX7_findSlacks_49 : decode cX7_findSlacks 49 = .ok (.i2l, 1) := by decide +kernel
theorem dX7_findSlacks_50 : decode cX7_findSlacks 50 = .ok (.lconst 1, 1) := by decide +kernel
theorem dX7_findSlacks_51 : decode cX7_findSlacks 51 = .ok (.invokevirtual 209, 3) := by decide +kernel
theorem dX7_findSlacks_54 : decode cX7_findSlacks 54 = .ok (.aload_n 3, 1) := by decide +kernel
theorem dX7_findSlacks_55 : decode cX7_findSlacks 55 = .ok (.aload_n 0, 1) := by decide +kernel
theorem dX7_findSlacks_56 : decode cX7_findSlacks 56 = .ok (.getfield 44, 3) := by decide +kernel
theorem dX7_findSlacks_59 : decode cX7_findSlacks 59 = .ok (.aload_n 3, 1) := by decide +kernel
theorem dX7_findSlacks_60 : decode cX7_findSlacks 60 = .ok (.invokevirtual 433, 3) := by decide +kernel
theorem dX7_findSlacks_63 : decode cX7_findSlacks 63 = .ok (.invokestatic 157, 3) := by decide +kernel
theorem dX7_findSlacks_66 : decode cX7_findSlacks 66 = .ok (.invokevirtual 435, 3) := by decide +kernel
theorem dX7_findSlacks_69 : decode cX7_findSlacks 69 = .ok (.iinc 2 1, 3) := by decide +kernel
theorem dX7_findSlacks_72 : decode cX7_findSlacks 72 = .ok (.goto (-58), 3) := by decide +kernel
theorem dX7_findSlacks_75 : decode cX7_findSlacks 75 = .ok (.return_, 1) := by decide +kernel
theorem dX7_takeStep_0 : decode cX7_takeStep 0 = .ok (.aload_n 1, 1) := by decide +kernel
theorem dX7_takeStep_1 : decode cX7_takeStep 1 = .ok (.iload_n 2, 1) := by decide +kernel
theorem dX7_takeStep_2 : decode cX7_takeStep 2 = .ok (.iload_n 3, 1) := by decide +kernel
theorem dX7_takeStep_3 : decode cX7_takeStep 3 = .ok (.invokevirtual 439, 3) := by decide +kernel
theorem dX7_takeStep_6 : decode cX7_takeStep 6 = .ok (.iconst 0, 1) := by decide +kernel
theorem dX7_takeStep_7 : decode cX7_takeStep 7 = .ok (.istore 4, 2) := by decide +kernel
theorem dX7_takeStep_9 : decode cX7_takeStep 9 = .ok (.iload 4, 2) := by decide +kernel
theorem dX7_takeStep_11 : decode cX7_takeStep 11 = .ok (.aload_n 0, 1) := by decide +kernel
theorem dX7_takeStep_12 : decode cX7_takeStep 12 = .ok (.getfield 16, 3) := by decide +kernel
theorem dX7_takeStep_15 : decode cX7_takeStep 15 = .ok (.invokevirtual 103, 3) := by decide +kernel
theorem dX7_takeStep_18 : decode cX7_takeStep 18 = .ok (.if_icmp .ge 25, 3) := by decide +kernel
theorem dX7_takeStep_21 : decode cX7_takeStep 21 = .ok (.aload_n 1, 1) := by decide +kernel
theorem dX7_takeStep_22 : decode cX7_takeStep 22 = .ok (.aload_n 0, 1) := by decide +kernel
theorem dX7_takeStep_23 : decode cX7_takeStep 23 = .ok (.getfield 16, 3) := by decide +kernel
theorem dX7_takeStep_26 : decode cX7_takeStep 26 = .ok (.iload 4, 2) := by decide +kernel
theorem dX7_takeStep_28 : decode cX7_takeStep 28 = .ok (.invokevirtual 337, 3) := by decide +kernel
theorem dX7_takeStep_31 : decode cX7_takeStep 31 = .ok (.checkcast 101, 3) := by decide +kernel
theorem dX7_takeStep_34 : decode cX7_takeStep 34 = .ok (.invokevirtual 442, 3) := by decide +kernel
theorem dX7_takeStep_37 : decode cX7_takeStep 37 = .ok (.iinc 4 1, 3) := by decide +kernel
theorem dX7_takeStep_40 : decode cX7_takeStep 40 = .ok (.goto (-31), 3) := by decide +kernel
theorem dX7_takeStep_43 : decode cX7_takeStep 43 = .ok (.return_, 1) := by decide +kernel
theorem dX7_countWear_0 : decode cX7_countWear 0 = .ok (.iconst 0, 1) := by decide +kernel
theorem dX7_countWear_1 : decode cX7_countWear 1 = .ok (.istore_n 1, 1) := by decide +kernel
theorem dX7_countWear_2 : decode cX7_countWear 2 = .ok (.iload_n 1, 1) := by decide +kernel
theorem dX7_countWear_3 : decode cX7_countWear 3 = .ok (.aload_n 0, 1) := by decide +kernel
theorem dX7_countWear_4 : decode cX7_countWear 4 = .ok (.getfield 10, 3) := by decide +kernel
theorem dX7_countWear_7 : decode cX7_countWear 7 = .ok (.invokevirtual 103, 3) := by decide +kernel
theorem dX7_countWear_10 : decode cX7_countWear 10 = .ok (.if_icmp .ge 50, 3) := by decide +kernel
theorem dX7_countWear_13 : decode cX7_countWear 13 = .ok (.aload_n 0, 1) := by decide +kernel
theorem dX7_countWear_14 : decode cX7_countWear 14 = .ok (.getfield 10, 3) := by decide +kernel
theorem dX7_countWear_17 : decode cX7_countWear 17 = .ok (.iload_n 1, 1) := by decide +kernel
theorem dX7_countWear_18 : decode cX7_countWear 18 = .ok (.invokevirtual 337, 3) := by decide +kernel
theorem dX7_countWear_21 : decode cX7_countWear 21 = .ok (.checkcast 101, 3) := by decide +kernel
theorem dX7_countWear_24 : decode cX7_countWear 24 = .ok (.astore_n 2, 1) := by decide +kernel
theorem dX7_countWear_25 : decode cX7_countWear 25 = .ok (.aload_n 0, 1) := by decide +kernel
theorem dX7_countWear_26 : decode cX7_countWear 26 = .ok (.getfield 54, 3) := by decide +kernel
theorem dX7_countWear_29 : decode cX7_countWear 29 = .ok (.aload_n 2, 1) := by decide +kernel
theorem dX7_countWear_30 : decode cX7_countWear 30 = .ok (.invokevirtual 445, 3) := by decide +kernel
theorem dX7_countWear_33 : decode cX7_countWear 33 = .ok (.ifCond .eq 21, 3) := by decide +kernel
theorem dX7_countWear_36 : decode cX7_countWear 36 = .ok (.aload_n 0, 1) := by decide +kernel
theorem dX7_countWear_37 : decode cX7_countWear 37 = .ok (.iload_n 1, 1) := by decide +kernel
theorem dX7_countWear_38 : decode cX7_countWear 38 = .ok (.aload_n 2, 1) := by decide +kernel
theorem dX7_countWear_39 : decode cX7_countWear 39 = .ok (.getfield 404, 3) := by decide +kernel
theorem dX7_countWear_42 : decode cX7_countWear 42 = .ok (.invokevirtual 447, 3) := by decide +kernel
theorem dX7_countWear_45 : decode cX7_countWear 45 = .ok (.aload_n 0, 1) := by decide +kernel
theorem dX7_countWear_46 : decode cX7_countWear 46 = .ok (.iload_n 1, 1) := by decide +kernel
theorem dX7_countWear_47 : decode cX7_countWear 47 = .ok (.aload_n 2, 1) := by decide +kernel
theorem dX7_countWear_48 : decode cX7_countWear 48 = .ok (.getfield 410, 3) := by decide +kernel
theorem dX7_countWear_51 : decode cX7_countWear 51 = .ok (.invokevirtual 447, 3) := by decide +kernel
theorem dX7_countWear_54 : decode cX7_countWear 54 = .ok (.iinc 1 1, 3) := by decide +kernel
theorem dX7_countWear_57 : decode cX7_countWear 57 = .ok (.goto (-55), 3) := by decide +kernel
theorem dX7_countWear_60 : decode cX7_countWear 60 = .ok (.return_, 1) := by decide +kernel
theorem dX7_wearBy_0 : decode cX7_wearBy 0 = .ok (.aload_n 0, 1) := by decide +kernel
theorem dX7_wearBy_1 : decode cX7_wearBy 1 = .ok (.getfield 54, 3) := by decide +kernel
theorem dX7_wearBy_4 : decode cX7_wearBy 4 = .ok (.getfield 450, 3) := by decide +kernel
theorem dX7_wearBy_7 : decode cX7_wearBy 7 = .ok (.iload_n 2, 1) := by decide +kernel
theorem dX7_wearBy_8 : decode cX7_wearBy 8 = .ok (.invokevirtual 453, 3) := by decide +kernel
theorem dX7_wearBy_11 : decode cX7_wearBy 11 = .ok (.ifCond .eq 36, 3) := by decide +kernel
theorem dX7_wearBy_14 : decode cX7_wearBy 14 = .ok (.aload_n 0, 1) := by decide +kernel
theorem dX7_wearBy_15 : decode cX7_wearBy 15 = .ok (.getfield 48, 3) := by decide +kernel
theorem dX7_wearBy_18 : decode cX7_wearBy 18 = .ok (.iload_n 1, 1) := by decide +kernel
theorem dX7_wearBy_19 : decode cX7_wearBy 19 = .ok (.aload_n 0, 1) := by decide +kernel
theorem dX7_wearBy_20 : decode cX7_wearBy 20 = .ok (.getfield 54, 3) := by decide +kernel
theorem dX7_wearBy_23 : decode cX7_wearBy 23 = .ok (.getfield 450, 3) := by decide +kernel
theorem dX7_wearBy_26 : decode cX7_wearBy 26 = .ok (.iload_n 2, 1) := by decide +kernel
theorem dX7_wearBy_27 : decode cX7_wearBy 27 = .ok (.invokevirtual 182, 3) := by decide +kernel
theorem dX7_wearBy_30 : decode cX7_wearBy 30 = .ok (.invokestatic 457, 3) := by decide +kernel
theorem dX7_wearBy_33 : decode cX7_wearBy 33 = .ok (.aload_n 0, 1) := by decide +kernel
theorem dX7_wearBy_34 : decode cX7_wearBy 34 = .ok (.getfield 54, 3) := by decide +kernel
theorem dX7_wearBy_37 : decode cX7_wearBy 37 = .ok (.getfield 450, 3) := by decide +kernel
theorem dX7_wearBy_40 : decode cX7_wearBy 40 = .ok (.iload_n 2, 1) := by decide +kernel
theorem dX7_wearBy_41 : decode cX7_wearBy 41 = .ok (.invokevirtual 186, 3) := by decide +kernel
theorem dX7_wearBy_44 : decode cX7_wearBy 44 = .ok (.invokevirtual 460, 3) := by decide +kernel
theorem dX7_wearBy_47 : decode cX7_wearBy 47 = .ok (.return_, 1) := by decide +kernel
theorem dX7_strikePins_0 : decode cX7_strikePins 0 = .ok (.iconst 0, 1) := by decide +kernel
theorem dX7_strikePins_1 : decode cX7_strikePins 1 = .ok (.istore_n 1, 1) := by decide +kernel
theorem dX7_strikePins_2 : decode cX7_strikePins 2 = .ok (.iload_n 1, 1) := by decide +kernel
theorem dX7_strikePins_3 : decode cX7_strikePins 3 = .ok (.aload_n 0, 1) := by decide +kernel
theorem dX7_strikePins_4 : decode cX7_strikePins 4 = .ok (.getfield 22, 3) := by decide +kernel
theorem dX7_strikePins_7 : decode cX7_strikePins 7 = .ok (.invokevirtual 103, 3) := by decide +kernel
theorem dX7_strikePins_10 : decode cX7_strikePins 10 = .ok (.if_icmp .ge 76, 3) := by decide +kernel
theorem dX7_strikePins_13 : decode cX7_strikePins 13 = .ok (.aload_n 0, 1) := by decide +kernel
theorem dX7_strikePins_14 : decode cX7_strikePins 14 = .ok (.getfield 22, 3) := by decide +kernel
theorem dX7_strikePins_17 : decode cX7_strikePins 17 = .ok (.iload_n 1, 1) := by decide +kernel
theorem dX7_strikePins_18 : decode cX7_strikePins 18 = .ok (.invokevirtual 337, 3) := by decide +kernel
theorem dX7_strikePins_21 : decode cX7_strikePins 21 = .ok (.checkcast 294, 3) := by decide +kernel
theorem dX7_strikePins_24 : decode cX7_strikePins 24 = .ok (.astore_n 2, 1) := by decide +kernel
theorem dX7_strikePins_25 : decode cX7_strikePins 25 = .ok (.aload_n 0, 1) := by decide +kernel
theorem dX7_strikePins_26 : decode cX7_strikePins 26 = .ok (.getfield 54, 3) := by decide +kernel
theorem dX7_strikePins_29 : decode cX7_strikePins 29 = .ok (.getfield 450, 3) := by decide +kernel
theorem dX7_strikePins_32 : decode cX7_strikePins 32 = .ok (.aload_n 2, 1) := by decide +kernel
theorem dX7_strikePins_33 : decode cX7_strikePins 33 = .ok (.getfield 462, 3) := by decide +kernel
theorem dX7_strikePins_36 : decode cX7_strikePins 36 = .ok (.invokevirtual 453, 3) := by decide +kernel
theorem dX7_strikePins_39 : decode cX7_strikePins 39 = .ok (.ifCond .eq 41, 3) := by decide +kernel
theorem dX7_strikePins_42 : decode cX7_strikePins 42 = .ok (.aload_n 2, 1) := by decide +kernel
theorem dX7_strikePins_43 : decode cX7_strikePins 43 = .ok (.aload_n 0, 1) := by decide +kernel
theorem dX7_strikePins_44 : decode cX7_strikePins 44 = .ok (.getfield 54, 3) := by decide +kernel
theorem dX7_strikePins_47 : decode cX7_strikePins 47 = .ok (.getfield 465, 3) := by decide +kernel
theorem dX7_strikePins_50 : decode cX7_strikePins 50 = .ok (.aload_n 2, 1) := by decide +kernel
theorem dX7_strikePins_51 : decode cX7_strikePins 51 = .ok (.getfield 462, 3) := by decide +kernel
theorem dX7_strikePins_54 : decode cX7_strikePins 54 = .ok (.ldc2_w 468, 3) := by decide +kernel
theorem dX7_strikePins_57 : decode cX7_strikePins 57 = .ok (.invokevirtual 470, 3) := by decide +kernel
theorem dX7_strikePins_60 : decode cX7_strikePins 60 = .ok (.aload_n 0, 1) := by decide +kernel
theorem dX7_strikePins_61 : decode cX7_strikePins 61 = .ok (.getfield 54, 3) := by decide +kernel
theorem dX7_strikePins_64 : decode cX7_strikePins 64 = .ok (.getfield 179, 3) := by decide +kernel
theorem dX7_strikePins_67 : decode cX7_strikePins 67 = .ok (.aload_n 2, 1) := by decide +kernel
theorem dX7_strikePins_68 : decode cX7_strikePins 68 = .ok (.getfield 462, 3) := by decide +kernel
theorem dX7_strikePins_71 : decode cX7_strikePins 71 = .ok (.ldc2_w 468, 3) := by decide +kernel
theorem dX7_strikePins_74 : decode cX7_strikePins 74 = .ok (.invokevirtual 470, 3) := by decide +kernel
theorem dX7_strikePins_77 : decode cX7_strikePins 77 = .ok (.invokevirtual 474, 3) := by decide +kernel
theorem dX7_strikePins_80 : decode cX7_strikePins 80 = .ok (.iinc 1 1, 3) := by decide +kernel
theorem dX7_strikePins_83 : decode cX7_strikePins 83 = .ok (.goto (-81), 3) := by decide +kernel
theorem dX7_strikePins_86 : decode cX7_strikePins 86 = .ok (.return_, 1) := by decide +kernel
theorem dX7_breakWornLinks_0 : decode cX7_breakWornLinks 0 = .ok (.iconst 0, 1) := by decide +kernel
theorem dX7_breakWornLinks_1 : decode cX7_breakWornLinks 1 = .ok (.istore_n 1, 1) := by decide +kernel
theorem dX7_breakWornLinks_2 : decode cX7_breakWornLinks 2 = .ok (.iload_n 1, 1) := by decide +kernel
theorem dX7_breakWornLinks_3 : decode cX7_breakWornLinks 3 = .ok (.aload_n 0, 1) := by decide +kernel
theorem dX7_breakWornLinks_4 : decode cX7_breakWornLinks 4 = .ok (.getfield 10, 3) := by decide +kernel
theorem dX7_breakWornLinks_7 : decode cX7_breakWornLinks 7 = .ok (.invokevirtual 103, 3) := by decide +kernel
theorem dX7_breakWornLinks_10 : decode cX7_breakWornLinks 10 = .ok (.if_icmp .ge 68, 3) := by decide +kernel
theorem dX7_breakWornLinks_13 : decode cX7_breakWornLinks 13 = .ok (.aload_n 0, 1) := by decide +kernel
theorem dX7_breakWornLinks_14 : decode cX7_breakWornLinks 14 = .ok (.getfield 10, 3) := by decide +kernel
theorem dX7_breakWornLinks_17 : decode cX7_breakWornLinks 17 = .ok (.iload_n 1, 1) := by decide +kernel
theorem dX7_breakWornLinks_18 : decode cX7_breakWornLinks 18 = .ok (.invokevirtual 337, 3) := by decide +kernel
theorem dX7_breakWornLinks_21 : decode cX7_breakWornLinks 21 = .ok (.checkcast 101, 3) := by decide +kernel
theorem dX7_breakWornLinks_24 : decode cX7_breakWornLinks 24 = .ok (.astore_n 2, 1) := by decide +kernel
theorem dX7_breakWornLinks_25 : decode cX7_breakWornLinks 25 = .ok (.aload_n 2, 1) := by decide +kernel
theorem dX7_breakWornLinks_26 : decode cX7_breakWornLinks 26 = .ok (.getfield 142, 3) := by decide +kernel
theorem dX7_breakWornLinks_29 : decode cX7_breakWornLinks 29 = .ok (.ifCond .le 43, 3) := by decide +kernel
theorem dX7_breakWornLinks_32 : decode cX7_breakWornLinks 32 = .ok (.aload_n 0, 1) := by decide +kernel
theorem dX7_breakWornLinks_33 : decode cX7_breakWornLinks 33 = .ok (.getfield 48, 3) := by decide +kernel
theorem dX7_breakWornLinks_36 : decode cX7_breakWornLinks 36 = .ok (.iload_n 1, 1) := by decide +kernel
theorem dX7_breakWornLinks_37 : decode cX7_breakWornLinks 37 = .ok (.invokevirtual 182, 3) := by decide +kernel
theorem dX7_breakWornLinks_40 : decode cX7_breakWornLinks 40 = .ok (.aload_n 2, 1) := by decide +kernel
theorem dX7_breakWornLinks_41 : decode cX7_breakWornLinks 41 = .ok (.getfield 142, 3) := by decide +kernel
theorem dX7_breakWornLinks_44 : decode cX7_breakWornLinks 44 = .ok (.i2l, 1) := by decide +kernel
theorem dX7_breakWornLinks_45 : decode cX7_breakWornLinks 45 = .ok (.aload_n 0, 1) := by decide +kernel
theorem dX7_breakWornLinks_46 : decode cX7_breakWornLinks 46 = .ok (.getfield 48, 3) := by decide +kernel
theorem dX7_breakWornLinks_49 : decode cX7_breakWornLinks 49 = .ok (.iload_n 1, 1) := by decide +kernel
theorem dX7_breakWornLinks_50 : decode cX7_breakWornLinks 50 = .ok (.invokevirtual 186, 3) := by decide +kernel
theorem dX7_breakWornLinks_53 : decode cX7_breakWornLinks 53 = .ok (.lmul, 1) := by decide +kernel
theorem dX7_breakWornLinks_54 : decode cX7_breakWornLinks 54 = .ok (.lcmp, 1) := by decide +kernel
theorem dX7_breakWornLinks_55 : decode cX7_breakWornLinks 55 = .ok (.ifCond .le 17, 3) := by decide +kernel
theorem dX7_breakWornLinks_58 : decode cX7_breakWornLinks 58 = .ok (.aload_n 2, 1) := by decide +kernel
theorem dX7_breakWornLinks_59 : decode cX7_breakWornLinks 59 = .ok (.iconst 1, 1) := by decide +kernel
theorem dX7_breakWornLinks_60 : decode cX7_breakWornLinks 60 = .ok (.putfield 204, 3) := by decide +kernel
theorem dX7_breakWornLinks_63 : decode cX7_breakWornLinks 63 = .ok (.aload_n 0, 1) := by decide +kernel
theorem dX7_breakWornLinks_64 : decode cX7_breakWornLinks 64 = .ok (.getfield 54, 3) := by decide +kernel
theorem dX7_breakWornLinks_67 : decode cX7_breakWornLinks 67 = .ok (.aload_n 2, 1) := by decide +kernel
theorem dX7_breakWornLinks_68 : decode cX7_breakWornLinks 68 = .ok (.iconst 0, 1) := by decide +kernel
theorem dX7_breakWornLinks_69 : decode cX7_breakWornLinks 69 = .ok (.invokevirtual 138, 3) := by decide +kernel
theorem dX7_breakWornLinks_72 : decode cX7_breakWornLinks 72 = .ok (.iinc 1 1, 3) := by decide +kernel
theorem dX7_breakWornLinks_75 : decode cX7_breakWornLinks 75 = .ok (.goto (-73), 3) := by decide +kernel
theorem dX7_breakWornLinks_78 : decode cX7_breakWornLinks 78 = .ok (.return_, 1) := by decide +kernel
theorem dX7_countMoved_0 : decode cX7_countMoved 0 = .ok (.iconst 0, 1) := by decide +kernel
theorem dX7_countMoved_1 : decode cX7_countMoved 1 = .ok (.istore_n 1, 1) := by decide +kernel
theorem dX7_countMoved_2 : decode cX7_countMoved 2 = .ok (.iconst 0, 1) := by decide +kernel
theorem dX7_countMoved_3 : decode cX7_countMoved 3 = .ok (.istore_n 2, 1) := by decide +kernel
theorem dX7_countMoved_4 : decode cX7_countMoved 4 = .ok (.iload_n 2, 1) := by decide +kernel
theorem dX7_countMoved_5 : decode cX7_countMoved 5 = .ok (.aload_n 0, 1) := by decide +kernel
theorem dX7_countMoved_6 : decode cX7_countMoved 6 = .ok (.getfield 74, 3) := by decide +kernel
theorem dX7_countMoved_9 : decode cX7_countMoved 9 = .ok (.if_icmp .ge 33, 3) := by decide +kernel
theorem dX7_countMoved_12 : decode cX7_countMoved 12 = .ok (.aload_n 0, 1) := by decide +kernel
theorem dX7_countMoved_13 : decode cX7_countMoved 13 = .ok (.getfield 54, 3) := by decide +kernel
theorem dX7_countMoved_16 : decode cX7_countMoved 16 = .ok (.getfield 179, 3) := by decide +kernel
theorem dX7_countMoved_19 : decode cX7_countMoved 19 = .ok (.iload_n 2, 1) := by decide +kernel
theorem dX7_countMoved_20 : decode cX7_countMoved 20 = .ok (.aload_n 0, 1) := by decide +kernel
theorem dX7_countMoved_21 : decode cX7_countMoved 21 = .ok (.getfield 58, 3) := by decide +kernel
theorem dX7_countMoved_24 : decode cX7_countMoved 24 = .ok (.getfield 179, 3) := by decide +kernel
theorem dX7_countMoved_27 : decode cX7_countMoved 27 = .ok (.invokevirtual 478, 3) := by decide +kernel
theorem dX7_countMoved_30 : decode cX7_countMoved 30 = .ok (.ifCond .ne 6, 3) := by decide +kernel
theorem dX7_countMoved_33 : decode cX7_countMoved 33 = .ok (.iinc 1 1, 3) := by decide +kernel
theorem dX7_countMoved_36 : decode cX7_countMoved 36 = .ok (.iinc 2 1, 3) := by decide +kernel
theorem dX7_countMoved_39 : decode cX7_countMoved 39 = .ok (.goto (-35), 3) := by decide +kernel
theorem dX7_countMoved_42 : decode cX7_countMoved 42 = .ok (.iload_n 1, 1) := by decide +kernel
theorem dX7_countMoved_43 : decode cX7_countMoved 43 = .ok (.ireturn, 1) := by decide +kernel
theorem dX7_isLastTurningSame_0 : decode cX7_isLastTurningSame 0 = .ok (.aload_n 0, 1) := by decide +kernel
theorem dX7_isLastTurningSame_1 : decode cX7_isLastTurningSame 1 = .ok (.getfield 64, 3) := by decide +kernel
theorem dX7_isLastTurningSame_4 : decode cX7_isLastTurningSame 4 = .ok (.iconst (-1), 1) := by decide +kernel
theorem dX7_isLastTurningSame_5 : decode cX7_isLastTurningSame 5 = .ok (.if_icmp .ne 5, 3) := by decide +kernel
theorem dX7_isLastTurningSame_8 : decode cX7_isLastTurningSame 8 = .ok (.iconst 1, 1) := by decide +kernel
theorem dX7_isLastTurningSame_9 : decode cX7_isLastTurningSame 9 = .ok (.ireturn, 1) := by decide +kernel
theorem dX7_isLastTurningSame_10 : decode cX7_isLastTurningSame 10 = .ok (.aload_n 0, 1) := by decide +kernel
theorem dX7_isLastTurningSame_11 : decode cX7_isLastTurningSame 11 = .ok (.getfield 61, 3) := by decide +kernel
theorem dX7_isLastTurningSame_14 : decode cX7_isLastTurningSame 14 = .ok (.aload_n 0, 1) := by decide +kernel
theorem dX7_isLastTurningSame_15 : decode cX7_isLastTurningSame 15 = .ok (.getfield 58, 3) := by decide +kernel
theorem dX7_isLastTurningSame_18 : decode cX7_isLastTurningSame 18 = .ok (.invokevirtual 150, 3) := by decide +kernel
theorem dX7_isLastTurningSame_21 : decode cX7_isLastTurningSame 21 = .ok (.iconst 0, 1) := by decide +kernel
theorem dX7_isLastTurningSame_22 : decode cX7_isLastTurningSame 22 = .ok (.istore_n 1, 1) := by decide +kernel
theorem dX7_isLastTurningSame_23 : decode cX7_isLastTurningSame 23 = .ok (.iload_n 1, 1) := by decide +kernel
theorem dX7_isLastTurningSame_24 : decode cX7_isLastTurningSame 24 = .ok (.aload_n 0, 1) := by decide +kernel
theorem dX7_isLastTurningSame_25 : decode cX7_isLastTurningSame 25 = .ok (.getfield 154, 3) := by decide +kernel
theorem dX7_isLastTurningSame_28 : decode cX7_isLastTurningSame 28 = .ok (.invokestatic 157, 3) := by decide +kernel
theorem dX7_isLastTurningSame_31 : decode cX7_isLastTurningSame 31 = .ok (.if_icmp .ge 33, 3) := by decide +kernel
theorem dX7_isLastTurningSame_34 : decode cX7_isLastTurningSame 34 = .ok (.aload_n 0, 1) := by decide +kernel
theorem dX7_isLastTurningSame_35 : decode cX7_isLastTurningSame 35 = .ok (.aload_n 0, 1) := by decide +kernel
theorem dX7_isLastTurningSame_36 : decode cX7_isLastTurningSame 36 = .ok (.getfield 61, 3) := by decide +kernel
theorem dX7_isLastTurningSame_39 : decode cX7_isLastTurningSame 39 = .ok (.aload_n 0, 1) := by decide +kernel
theorem dX7_isLastTurningSame_40 : decode cX7_isLastTurningSame 40 = .ok (.getfield 64, 3) := by decide +kernel
theorem dX7_isLastTurningSame_43 : decode cX7_isLastTurningSame 43 = .ok (.aload_n 0, 1) := by decide +kernel
theorem dX7_isLastTurningSame_44 : decode cX7_isLastTurningSame 44 = .ok (.getfield 154, 3) := by decide +kernel
theorem dX7_isLastTurningSame_47 : decode cX7_isLastTurningSame 47 = .ok (.ifCond .ge 7, 3) := by decide +kernel
theorem dX7_isLastTurningSame_50 : decode cX7_isLastTurningSame 50 = .ok (.iconst (-1), 1) := by decide +kernel
theorem dX7_isLastTurningSame_51 : decode cX7_isLastTurningSame 51 = .ok (.goto 4, 3) := by decide +kernel
theorem dX7_isLastTurningSame_54 : decode cX7_isLastTurningSame 54 = .ok (.iconst 1, 1) := by decide +kernel
theorem dX7_isLastTurningSame_55 : decode cX7_isLastTurningSame 55 = .ok (.invokevirtual 163, 3) := by decide +kernel
theorem dX7_isLastTurningSame_58 : decode cX7_isLastTurningSame 58 = .ok (.iinc 1 1, 3) := by decide +kernel
theorem dX7_isLastTurningSame_61 : decode cX7_isLastTurningSame 61 = .ok (.goto (-38), 3) := by decide +kernel
theorem dX7_isLastTurningSame_64 : decode cX7_isLastTurningSame 64 = .ok (.iconst 0, 1) := by decide +kernel
theorem dX7_isLastTurningSame_65 : decode cX7_isLastTurningSame 65 = .ok (.istore_n 1, 1) := by decide +kernel
theorem dX7_isLastTurningSame_66 : decode cX7_isLastTurningSame 66 = .ok (.iload_n 1, 1) := by decide +kernel
theorem dX7_isLastTurningSame_67 : decode cX7_isLastTurningSame 67 = .ok (.aload_n 0, 1) := by decide +kernel
theorem dX7_isLastTurningSame_68 : decode cX7_isLastTurningSame 68 = .ok (.getfield 74, 3) := by decide +kernel
theorem dX7_isLastTurningSame_71 : decode cX7_isLastTurningSame 71 = .ok (.if_icmp .ge 32, 3) := by decide +kernel
theorem dX7_isLastTurningSame_74 : decode cX7_isLastTurningSame 74 = .ok (.aload_n 0, 1) := by decide +kernel
theorem dX7_isLastTurningSame_75 : decode cX7_isLastTurningSame 75 = .ok (.getfield 61, 3) := by decide +kernel
theorem dX7_isLastTurningSame_78 : decode cX7_isLastTurningSame 78 = .ok (.getfield 179, 3) := by decide +kernel
theorem dX7_isLastTurningSame_81 : decode cX7_isLastTurningSame 81 = .ok (.iload_n 1, 1) := by decide +kernel
theorem dX7_isLastTurningSame_82 : decode cX7_isLastTurningSame 82 = .ok (.aload_n 0, 1) := by decide +kernel
theorem dX7_isLastTurningSame_83 : decode cX7_isLastTurningSame 83 = .ok (.getfield 54, 3) := by decide +kernel
theorem dX7_isLastTurningSame_86 : decode cX7_isLastTurningSame 86 = .ok (.getfield 179, 3) := by decide +kernel
theorem dX7_isLastTurningSame_89 : decode cX7_isLastTurningSame 89 = .ok (.invokevirtual 478, 3) := by decide +kernel
theorem dX7_isLastTurningSame_92 : decode cX7_isLastTurningSame 92 = .ok (.ifCond .ne 5, 3) := by decide +kernel
theorem dX7_isLastTurningSame_95 : decode cX7_isLastTurningSame 95 = .ok (.iconst 0, 1) := by decide +kernel
theorem dX7_isLastTurningSame_96 : decode cX7_isLastTurningSame 96 = .ok (.ireturn, 1) := by decide +kernel
theorem dX7_isLastTurningSame_97 : decode cX7_isLastTurningSame 97 = .ok (.iinc 1 1, 3) := by decide +kernel
theorem dX7_isLastTurningSame_100 : decode cX7_isLastTurningSame 100 = .ok (.goto (-34), 3) := by decide +kernel
theorem dX7_isLastTurningSame_103 : decode cX7_isLastTurningSame 103 = .ok (.iconst 1, 1) := by decide +kernel
theorem dX7_isLastTurningSame_104 : decode cX7_isLastTurningSame 104 = .ok (.ireturn, 1) := by decide +kernel
theorem dX7_areInputsWhole_0 : decode cX7_areInputsWhole 0 = .ok (.iconst 0, 1) := by decide +kernel
theorem dX7_areInputsWhole_1 : decode cX7_areInputsWhole 1 = .ok (.istore_n 1, 1) := by decide +kernel
theorem dX7_areInputsWhole_2 : decode cX7_areInputsWhole 2 = .ok (.iload_n 1, 1) := by decide +kernel
theorem dX7_areInputsWhole_3 : decode cX7_areInputsWhole 3 = .ok (.aload_n 0, 1) := by decide +kernel
theorem dX7_areInputsWhole_4 : decode cX7_areInputsWhole 4 = .ok (.getfield 74, 3) := by decide +kernel
theorem dX7_areInputsWhole_7 : decode cX7_areInputsWhole 7 = .ok (.if_icmp .ge 38, 3) := by decide +kernel
theorem dX7_areInputsWhole_10 : decode cX7_areInputsWhole 10 = .ok (.aload_n 0, 1) := by decide +kernel
theorem dX7_areInputsWhole_11 : decode cX7_areInputsWhole 11 = .ok (.getfield 25, 3) := by decide +kernel
theorem dX7_areInputsWhole_14 : decode cX7_areInputsWhole 14 = .ok (.iload_n 1, 1) := by decide +kernel
theorem dX7_areInputsWhole_15 : decode cX7_areInputsWhole 15 = .ok (.iaload, 1) := by decide +kernel
theorem dX7_areInputsWhole_16 : decode cX7_areInputsWhole 16 = .ok (.iconst (-1), 1) := by decide +kernel
theorem dX7_areInputsWhole_17 : decode cX7_areInputsWhole 17 = .ok (.if_icmp .ne 22, 3) := by decide +kernel
theorem dX7_areInputsWhole_20 : decode cX7_areInputsWhole 20 = .ok (.aload_n 0, 1) := by decide +kernel
theorem dX7_areInputsWhole_21 : decode cX7_areInputsWhole 21 = .ok (.getfield 54, 3) := by decide +kernel
theorem dX7_areInputsWhole_24 : decode cX7_areInputsWhole 24 = .ok (.getfield 179, 3) := by decide +kernel
theorem dX7_areInputsWhole_27 : decode cX7_areInputsWhole 27 = .ok (.iload_n 1, 1) := by decide +kernel
theorem dX7_areInputsWhole_28 : decode cX7_areInputsWhole 28 = .ok (.ldc2_w 468, 3) := by decide +kernel
theorem dX7_areInputsWhole_31 : decode cX7_areInputsWhole 31 = .ok (.invokevirtual 482, 3) := by decide +kernel
theorem dX7_areInputsWhole_34 : decode cX7_areInputsWhole 34 = .ok (.ifCond .ne 5, 3) := by decide +kernel
theorem dX7_areInputsWhole_37 : decode cX7_areInputsWhole 37 = .ok (.iconst 0, 1) := by decide +kernel
theorem dX7_areInputsWhole_38 : decode cX7_areInputsWhole 38 = .ok (.ireturn, 1) := by decide +kernel
theorem dX7_areInputsWhole_39 : decode cX7_areInputsWhole 39 = .ok (.iinc 1 1, 3) := by decide +kernel
theorem dX7_areInputsWhole_42 : decode cX7_areInputsWhole 42 = .ok (.goto (-40), 3) := by decide +kernel
theorem dX7_areInputsWhole_45 : decode cX7_areInputsWhole 45 = .ok (.iconst 1, 1) := by decide +kernel
theorem dX7_areInputsWhole_46 : decode cX7_areInputsWhole 46 = .ok (.ireturn, 1) := by decide +kernel
theorem dX7_areCamsClosed_0 : decode cX7_areCamsClosed 0 = .ok (.iconst 0, 1) := by decide +kernel
theorem dX7_areCamsClosed_1 : decode cX7_areCamsClosed 1 = .ok (.istore_n 1, 1) := by decide +kernel
theorem dX7_areCamsClosed_2 : decode cX7_areCamsClosed 2 = .ok (.iload_n 1, 1) := by decide +kernel
theorem dX7_areCamsClosed_3 : decode cX7_areCamsClosed 3 = .ok (.aload_n 0, 1) := by decide +kernel
theorem dX7_areCamsClosed_4 : decode cX7_areCamsClosed 4 = .ok (.getfield 19, 3) := by decide +kernel
theorem dX7_areCamsClosed_7 : decode cX7_areCamsClosed 7 = .ok (.invokevirtual 103, 3) := by decide +kernel
theorem dX7_areCamsClosed_10 : decode cX7_areCamsClosed 10 = .ok (.if_icmp .ge 47, 3) := by decide +kernel
theorem dX7_areCamsClosed_13 : decode cX7_areCamsClosed 13 = .ok (.aload_n 0, 1) := by decide +kernel
theorem dX7_areCamsClosed_14 : decode cX7_areCamsClosed 14 = .ok (.getfield 19, 3) := by decide +kernel
theorem dX7_areCamsClosed_17 : decode cX7_areCamsClosed 17 = .ok (.iload_n 1, 1) := by decide +kernel
theorem dX7_areCamsClosed_18 : decode cX7_areCamsClosed 18 = .ok (.invokevirtual 337, 3) := by decide +kernel
theorem dX7_areCamsClosed_21 : decode cX7_areCamsClosed 21 = .ok (.checkcast 225, 3) := by decide +kernel
theorem dX7_areCamsClosed_24 : decode cX7_areCamsClosed 24 = .ok (.astore_n 2, 1) := by decide +kernel
theorem dX7_areCamsClosed_25 : decode cX7_areCamsClosed 25 = .ok (.aload_n 2, 1) := by decide +kernel
theorem dX7_areCamsClosed_26 : decode cX7_areCamsClosed 26 = .ok (.invokevirtual 373, 3) := by decide +kernel
theorem dX7_areCamsClosed_29 : decode cX7_areCamsClosed 29 = .ok (.ifCond .eq 22, 3) := by decide +kernel
theorem dX7_areCamsClosed_32 : decode cX7_areCamsClosed 32 = .ok (.aload_n 2, 1) := by decide +kernel
theorem dX7_areCamsClosed_33 : decode cX7_areCamsClosed 33 = .ok (.bipush 24, 2) := by decide +kernel
theorem dX7_areCamsClosed_35 : decode cX7_areCamsClosed 35 = .ok (.invokevirtual 486, 3) := by decide +kernel
theorem dX7_areCamsClosed_38 : decode cX7_areCamsClosed 38 = .ok (.aload_n 2, 1) := by decide +kernel
theorem dX7_areCamsClosed_39 : decode cX7_areCamsClosed 39 = .ok (.iconst 0, 1) := by decide +kernel
theorem dX7_areCamsClosed_40 : decode cX7_areCamsClosed 40 = .ok (.invokevirtual 486, 3) := by decide +kernel
theorem dX7_areCamsClosed_43 : decode cX7_areCamsClosed 43 = .ok (.invokevirtual 490, 3) := by decide +kernel
theorem dX7_areCamsClosed_46 : decode cX7_areCamsClosed 46 = .ok (.ifCond .ne 5, 3) := by decide +kernel
theorem dX7_areCamsClosed_49 : decode cX7_areCamsClosed 49 = .ok (.iconst 0, 1) := by decide +kernel
theorem dX7_areCamsClosed_50 : decode cX7_areCamsClosed 50 = .ok (.ireturn, 1) := by decide +kernel
theorem dX7_areCamsClosed_51 : decode cX7_areCamsClosed 51 = .ok (.iinc 1 1, 3) := by decide +kernel
theorem dX7_areCamsClosed_54 : decode cX7_areCamsClosed 54 = .ok (.goto (-52), 3) := by decide +kernel
theorem dX7_areCamsClosed_57 : decode cX7_areCamsClosed 57 = .ok (.iconst 1, 1) := by decide +kernel
theorem dX7_areCamsClosed_58 : decode cX7_areCamsClosed 58 = .ok (.ireturn, 1) := by decide +kernel
theorem dX7_heightNow_0 : decode cX7_heightNow 0 = .ok (.aload_n 1, 1) := by decide +kernel
theorem dX7_heightNow_1 : decode cX7_heightNow 1 = .ok (.aload_n 0, 1) := by decide +kernel
theorem dX7_heightNow_2 : decode cX7_heightNow 2 = .ok (.getfield 54, 3) := by decide +kernel
theorem dX7_heightNow_5 : decode cX7_heightNow 5 = .ok (.getfield 179, 3) := by decide +kernel
theorem dX7_heightNow_8 : decode cX7_heightNow 8 = .ok (.aload_n 1, 1) := by decide +kernel
theorem dX7_heightNow_9 : decode cX7_heightNow 9 = .ok (.getfield 493, 3) := by decide +kernel
theorem dX7_heightNow_12 : decode cX7_heightNow 12 = .ok (.ldc2_w 468, 3) := by decide +kernel
theorem dX7_heightNow_15 : decode cX7_heightNow 15 = .ok (.invokevirtual 470, 3) := by decide +kernel
theorem dX7_heightNow_18 : decode cX7_heightNow 18 = .ok (.ldc2_w 468, 3) := by decide +kernel
theorem dX7_heightNow_21 : decode cX7_heightNow 21 = .ok (.invokestatic 494, 3) := by decide +kernel
theorem dX7_heightNow_24 : decode cX7_heightNow 24 = .ok (.l2i, 1) := by decide +kernel
theorem dX7_heightNow_25 : decode cX7_heightNow 25 = .ok (.invokevirtual 486, 3) := by decide +kernel
theorem dX7_heightNow_28 : decode cX7_heightNow 28 = .ok (.areturn, 1) := by decide +kernel
theorem dX7_barsOf_0 : decode cX7_barsOf 0 = .ok (.iload_n 0, 1) := by decide +kernel
theorem dX7_barsOf_1 : decode cX7_barsOf 1 = .ok (.iconst 1, 1) := by decide +kernel
theorem dX7_barsOf_2 : decode cX7_barsOf 2 = .ok (.sipush 999, 3) := by decide +kernel
theorem dX7_barsOf_5 : decode cX7_barsOf 5 = .ok (.invokestatic 114, 3) := by decide +kernel
theorem dX7_barsOf_8 : decode cX7_barsOf 8 = .ok (.iload_n 1, 1) := by decide +kernel
theorem dX7_barsOf_9 : decode cX7_barsOf 9 = .ok (.iconst 1, 1) := by decide +kernel
theorem dX7_barsOf_10 : decode cX7_barsOf 10 = .ok (.sipush 999, 3) := by decide +kernel
theorem dX7_barsOf_13 : decode cX7_barsOf 13 = .ok (.invokestatic 114, 3) := by decide +kernel
theorem dX7_barsOf_16 : decode cX7_barsOf 16 = .ok (.iload_n 2, 1) := by decide +kernel
theorem dX7_barsOf_17 : decode cX7_barsOf 17 = .ok (.iconst 1, 1) := by decide +kernel
theorem dX7_barsOf_18 : decode cX7_barsOf 18 = .ok (.sipush 999, 3) := by decide +kernel
theorem dX7_barsOf_21 : decode cX7_barsOf 21 = .ok (.invokestatic 114, 3) := by decide +kernel
theorem dX7_barsOf_24 : decode cX7_barsOf 24 = .ok (.iload_n 3, 1) := by decide +kernel
theorem dX7_barsOf_25 : decode cX7_barsOf 25 = .ok (.iconst 1, 1) := by decide +kernel
theorem dX7_barsOf_26 : decode cX7_barsOf 26 = .ok (.sipush 999, 3) := by decide +kernel
theorem dX7_barsOf_29 : decode cX7_barsOf 29 = .ok (.invokestatic 114, 3) := by decide +kernel
theorem dX7_barsOf_32 : decode cX7_barsOf 32 = .ok (.new 313, 3) := by decide +kernel
theorem dX7_barsOf_35 : decode cX7_barsOf 35 = .ok (.dup, 1) := by decide +kernel
theorem dX7_barsOf_36 : decode cX7_barsOf 36 = .ok (.iload_n 0, 1) := by decide +kernel
theorem dX7_barsOf_37 : decode cX7_barsOf 37 = .ok (.iload_n 1, 1) := by decide +kernel
theorem dX7_barsOf_38 : decode cX7_barsOf 38 = .ok (.iload_n 2, 1) := by decide +kernel
theorem dX7_barsOf_39 : decode cX7_barsOf 39 = .ok (.iload_n 3, 1) := by decide +kernel
theorem dX7_barsOf_40 : decode cX7_barsOf 40 = .ok (.invokespecial 498, 3) := by decide +kernel
theorem dX7_barsOf_43 : decode cX7_barsOf 43 = .ok (.areturn, 1) := by decide +kernel
theorem dX7_thatExists_0 : decode cX7_thatExists 0 = .ok (.aload_n 0, 1) := by decide +kernel
theorem dX7_thatExists_1 : decode cX7_thatExists 1 = .ok (.ifnonnull 14, 3) := by decide +kernel
theorem dX7_thatExists_4 : decode cX7_thatExists 4 = .ok (.new 193, 3) := by decide +kernel
theorem dX7_thatExists_7 : decode cX7_thatExists 7 = .ok (.dup, 1) := by decide +kernel
theorem dX7_thatExists_8 : decode cX7_thatExists 8 = .ok (.ldc_w 501, 3) := by decide +kernel
theorem dX7_thatExists_11 : decode cX7_thatExists 11 = .ok (.invokespecial 197, 3) := by decide +kernel
theorem dX7_thatExists_14 : decode cX7_thatExists 14 = .ok (.athrow, 1) := by decide +kernel
theorem dX7_thatExists_15 : decode cX7_thatExists 15 = .ok (.aload_n 0, 1) := by decide +kernel
theorem dX7_thatExists_16 : decode cX7_thatExists 16 = .ok (.areturn, 1) := by decide +kernel
theorem dX7_isBetterPair_0 : decode cX7_isBetterPair 0 = .ok (.iload_n 0, 1) := by decide +kernel
theorem dX7_isBetterPair_1 : decode cX7_isBetterPair 1 = .ok (.i2l, 1) := by decide +kernel
theorem dX7_isBetterPair_2 : decode cX7_isBetterPair 2 = .ok (.iload 5, 2) := by decide +kernel
theorem dX7_isBetterPair_4 : decode cX7_isBetterPair 4 = .ok (.i2l, 1) := by decide +kernel
theorem dX7_isBetterPair_5 : decode cX7_isBetterPair 5 = .ok (.lmul, 1) := by decide +kernel
theorem dX7_isBetterPair_6 : decode cX7_isBetterPair 6 = .ok (.iload 4, 2) := by decide +kernel
theorem dX7_isBetterPair_8 : decode cX7_isBetterPair 8 = .ok (.i2l, 1) := by decide +kernel
theorem dX7_isBetterPair_9 : decode cX7_isBetterPair 9 = .ok (.iload_n 1, 1) := by decide +kernel
theorem dX7_isBetterPair_10 : decode cX7_isBetterPair 10 = .ok (.i2l, 1) := by decide +kernel
theorem dX7_isBetterPair_11 : decode cX7_isBetterPair 11 = .ok (.lmul, 1) := by decide +kernel
theorem dX7_isBetterPair_12 : decode cX7_isBetterPair 12 = .ok (.lsub, 1) := by decide +kernel
theorem dX7_isBetterPair_13 : decode cX7_isBetterPair 13 = .ok (.invokestatic 457, 3) := by decide +kernel
theorem dX7_isBetterPair_16 : decode cX7_isBetterPair 16 = .ok (.iload_n 3, 1) := by decide +kernel
theorem dX7_isBetterPair_17 : decode cX7_isBetterPair 17 = .ok (.i2l, 1) := by decide +kernel
theorem dX7_isBetterPair_18 : decode cX7_isBetterPair 18 = .ok (.lmul, 1) := by decide +kernel
theorem dX7_isBetterPair_19 : decode cX7_isBetterPair 19 = .ok (.lstore 6, 2) := by decide +kernel
theorem dX7_isBetterPair_21 : decode cX7_isBetterPair 21 = .ok (.iload_n 2, 1) := by decide +kernel
theorem dX7_isBetterPair_22 : decode cX7_isBetterPair 22 = .ok (.i2l, 1) := by decide +kernel
theorem dX7_isBetterPair_23 : decode cX7_isBetterPair 23 = .ok (.iload 5, 2) := by decide +kernel
theorem dX7_isBetterPair_25 : decode cX7_isBetterPair 25 = .ok (.i2l, 1) := by decide +kernel
theorem dX7_isBetterPair_26 : decode cX7_isBetterPair 26 = .ok (.lmul, 1) := by decide +kernel
theorem dX7_isBetterPair_27 : decode cX7_isBetterPair 27 = .ok (.iload 4, 2) := by decide +kernel
theorem dX7_isBetterPair_29 : decode cX7_isBetterPair 29 = .ok (.i2l, 1) := by decide +kernel
theorem dX7_isBetterPair_30 : decode cX7_isBetterPair 30 = .ok (.iload_n 3, 1) := by decide +kernel
theorem dX7_isBetterPair_31 : decode cX7_isBetterPair 31 = .ok (.i2l, 1) := by decide +kernel
theorem dX7_isBetterPair_32 : decode cX7_isBetterPair 32 = .ok (.lmul, 1) := by decide +kernel
theorem dX7_isBetterPair_33 : decode cX7_isBetterPair 33 = .ok (.lsub, 1) := by decide +kernel
theorem dX7_isBetterPair_34 : decode cX7_isBetterPair 34 = .ok (.invokestatic 457, 3) := by decide +kernel
theorem dX7_isBetterPair_37 : decode cX7_isBetterPair 37 = .ok (.iload_n 1, 1) := by decide +kernel
theorem dX7_isBetterPair_38 : decode cX7_isBetterPair 38 = .ok (.i2l, 1) := by decide +kernel
theorem dX7_isBetterPair_39 : decode cX7_isBetterPair 39 = .ok (.lmul, 1) := by decide +kernel
theorem dX7_isBetterPair_40 : decode cX7_isBetterPair 40 = .ok (.lstore 8, 2) := by decide +kernel
theorem dX7_isBetterPair_42 : decode cX7_isBetterPair 42 = .ok (.lload 6, 2) := by decide +kernel
theorem dX7_isBetterPair_44 : decode cX7_isBetterPair 44 = .ok (.lload 8, 2) := by decide +kernel
theorem dX7_isBetterPair_46 : decode cX7_isBetterPair 46 = .ok (.lcmp, 1) := by decide +kernel
theorem dX7_isBetterPair_47 : decode cX7_isBetterPair 47 = .ok (.ifCond .eq 17, 3) := by decide +kernel
theorem dX7_isBetterPair_50 : decode cX7_isBetterPair 50 = .ok (.lload 6, 2) := by decide +kernel
theorem dX7_isBetterPair_52 : decode cX7_isBetterPair 52 = .ok (.lload 8, 2) := by decide +kernel
theorem dX7_isBetterPair_54 : decode cX7_isBetterPair 54 = .ok (.lcmp, 1) := by decide +kernel
theorem dX7_isBetterPair_55 : decode cX7_isBetterPair 55 = .ok (.ifCond .ge 7, 3) := by decide +kernel
theorem dX7_isBetterPair_58 : decode cX7_isBetterPair 58 = .ok (.iconst 1, 1) := by decide +kernel
theorem dX7_isBetterPair_59 : decode cX7_isBetterPair 59 = .ok (.goto 4, 3) := by decide +kernel
theorem dX7_isBetterPair_62 : decode cX7_isBetterPair 62 = .ok (.iconst 0, 1) := by decide +kernel
theorem dX7_isBetterPair_63 : decode cX7_isBetterPair 63 = .ok (.ireturn, 1) := by decide +kernel
theorem dX7_isBetterPair_64 : decode cX7_isBetterPair 64 = .ok (.iload_n 0, 1) := by decide +kernel
theorem dX7_isBetterPair_65 : decode cX7_isBetterPair 65 = .ok (.iload_n 1, 1) := by decide +kernel
theorem dX7_isBetterPair_66 : decode cX7_isBetterPair 66 = .ok (.iadd, 1) := by decide +kernel
theorem dX7_isBetterPair_67 : decode cX7_isBetterPair 67 = .ok (.iload_n 2, 1) := by decide +kernel
theorem dX7_isBetterPair_68 : decode cX7_isBetterPair 68 = .ok (.iload_n 3, 1) := by decide +kernel
theorem dX7_isBetterPair_69 : decode cX7_isBetterPair 69 = .ok (.iadd, 1) := by decide +kernel
theorem dX7_isBetterPair_70 : decode cX7_isBetterPair 70 = .ok (.if_icmp .eq 18, 3) := by decide +kernel
theorem dX7_isBetterPair_73 : decode cX7_isBetterPair 73 = .ok (.iload_n 0, 1) := by decide +kernel
theorem dX7_isBetterPair_74 : decode cX7_isBetterPair 74 = .ok (.iload_n 1, 1) := by decide +kernel
theorem dX7_isBetterPair_75 : decode cX7_isBetterPair 75 = .ok (.iadd, 1) := by decide +kernel
theorem dX7_isBetterPair_76 : decode cX7_isBetterPair 76 = .ok (.iload_n 2, 1) := by decide +kernel
theorem dX7_isBetterPair_77 : decode cX7_isBetterPair 77 = .ok (.iload_n 3, 1) := by decide +kernel
theorem dX7_isBetterPair_78 : decode cX7_isBetterPair 78 = .ok (.iadd, 1) := by decide +kernel
theorem dX7_isBetterPair_79 : decode cX7_isBetterPair 79 = .ok (.if_icmp .ge 7, 3) := by decide +kernel
theorem dX7_isBetterPair_82 : decode cX7_isBetterPair 82 = .ok (.iconst 1, 1) := by decide +kernel
theorem dX7_isBetterPair_83 : decode cX7_isBetterPair 83 = .ok (.goto 4, 3) := by decide +kernel
theorem dX7_isBetterPair_86 : decode cX7_isBetterPair 86 = .ok (.iconst 0, 1) := by decide +kernel
theorem dX7_isBetterPair_87 : decode cX7_isBetterPair 87 = .ok (.ireturn, 1) := by decide +kernel
theorem dX7_isBetterPair_88 : decode cX7_isBetterPair 88 = .ok (.iload_n 0, 1) := by decide +kernel
theorem dX7_isBetterPair_89 : decode cX7_isBetterPair 89 = .ok (.iload_n 2, 1) := by decide +kernel
theorem dX7_isBetterPair_90 : decode cX7_isBetterPair 90 = .ok (.if_icmp .ge 7, 3) := by decide +kernel
theorem dX7_isBetterPair_93 : decode cX7_isBetterPair 93 = .ok (.iconst 1, 1) := by decide +kernel
theorem dX7_isBetterPair_94 : decode cX7_isBetterPair 94 = .ok (.goto 4, 3) := by decide +kernel
theorem dX7_isBetterPair_97 : decode cX7_isBetterPair 97 = .ok (.iconst 0, 1) := by decide +kernel
theorem dX7_isBetterPair_98 : decode cX7_isBetterPair 98 = .ok (.ireturn, 1) := by decide +kernel
theorem dJx00060_init_a7421_0 : decode cJx00060_init_a7421 0 = .ok (.aload_n 0, 1) := by decide +kernel
theorem dJx00060_init_a7421_1 : decode cJx00060_init_a7421 1 = .ok (.aload_n 1, 1) := by decide +kernel
theorem dJx00060_init_a7421_2 : decode cJx00060_init_a7421 2 = .ok (.invokespecial 7, 3) := by decide +kernel
theorem dJx00060_init_a7421_5 : decode cJx00060_init_a7421 5 = .ok (.return_, 1) := by decide +kernel
theorem dJ9_floorDiv_f86c9_0 : decode cJ9_floorDiv_f86c9 0 = .ok (.lload_n 0, 1) := by decide +kernel
theorem dJ9_floorDiv_f86c9_1 : decode cJ9_floorDiv_f86c9 1 = .ok (.lload_n 2, 1) := by decide +kernel
theorem dJ9_floorDiv_f86c9_2 : decode cJ9_floorDiv_f86c9 2 = .ok (.ldiv, 1) := by decide +kernel
theorem dJ9_floorDiv_f86c9_3 : decode cJ9_floorDiv_f86c9 3 = .ok (.lstore 4, 2) := by decide +kernel
theorem dJ9_floorDiv_f86c9_5 : decode cJ9_floorDiv_f86c9 5 = .ok (.lload_n 0, 1) := by decide +kernel
theorem dJ9_floorDiv_f86c9_6 : decode cJ9_floorDiv_f86c9 6 = .ok (.lload_n 2, 1) := by decide +kernel
theorem dJ9_floorDiv_f86c9_7 : decode cJ9_floorDiv_f86c9 7 = .ok (.lxor, 1) := by decide +kernel
theorem dJ9_floorDiv_f86c9_8 : decode cJ9_floorDiv_f86c9 8 = .ok (.lconst 0, 1) := by decide +kernel
theorem dJ9_floorDiv_f86c9_9 : decode cJ9_floorDiv_f86c9 9 = .ok (.lcmp, 1) := by decide +kernel
theorem dJ9_floorDiv_f86c9_10 : decode cJ9_floorDiv_f86c9 10 = .ok (.ifCond .ge 17, 3) := by decide +kernel
theorem dJ9_floorDiv_f86c9_13 : decode cJ9_floorDiv_f86c9 13 = .ok (.lload 4, 2) := by decide +kernel
theorem dJ9_floorDiv_f86c9_15 : decode cJ9_floorDiv_f86c9 15 = .ok (.lload_n 2, 1) := by decide +kernel
theorem dJ9_floorDiv_f86c9_16 : decode cJ9_floorDiv_f86c9 16 = .ok (.lmul, 1) := by decide +kernel
theorem dJ9_floorDiv_f86c9_17 : decode cJ9_floorDiv_f86c9 17 = .ok (.lload_n 0, 1) := by decide +kernel
theorem dJ9_floorDiv_f86c9_18 : decode cJ9_floorDiv_f86c9 18 = .ok (.lcmp, 1) := by decide +kernel
theorem dJ9_floorDiv_f86c9_19 : decode cJ9_floorDiv_f86c9 19 = .ok (.ifCond .eq 8, 3) := by decide +kernel
theorem dJ9_floorDiv_f86c9_22 : decode cJ9_floorDiv_f86c9 22 = .ok (.lload 4, 2) := by decide +kernel
theorem dJ9_floorDiv_f86c9_24 : decode cJ9_floorDiv_f86c9 24 = .ok (.lconst 1, 1) := by decide +kernel
theorem dJ9_floorDiv_f86c9_25 : decode cJ9_floorDiv_f86c9 25 = .ok (.lsub, 1) := by decide +kernel
theorem dJ9_floorDiv_f86c9_26 : decode cJ9_floorDiv_f86c9 26 = .ok (.lreturn, 1) := by decide +kernel
theorem dJ9_floorDiv_f86c9_27 : decode cJ9_floorDiv_f86c9 27 = .ok (.lload 4, 2) := by decide +kernel
theorem dJ9_floorDiv_f86c9_29 : decode cJ9_floorDiv_f86c9 29 = .ok (.lreturn, 1) := by decide +kernel
theorem dJ9_floorMod_f86c9_0 : decode cJ9_floorMod_f86c9 0 = .ok (.lload_n 0, 1) := by decide +kernel
theorem dJ9_floorMod_f86c9_1 : decode cJ9_floorMod_f86c9 1 = .ok (.lload_n 2, 1) := by decide +kernel
theorem dJ9_floorMod_f86c9_2 : decode cJ9_floorMod_f86c9 2 = .ok (.lrem, 1) := by decide +kernel
theorem dJ9_floorMod_f86c9_3 : decode cJ9_floorMod_f86c9 3 = .ok (.lstore 4, 2) := by decide +kernel
theorem dJ9_floorMod_f86c9_5 : decode cJ9_floorMod_f86c9 5 = .ok (.lload_n 0, 1) := by decide +kernel
theorem dJ9_floorMod_f86c9_6 : decode cJ9_floorMod_f86c9 6 = .ok (.lload_n 2, 1) := by decide +kernel
theorem dJ9_floorMod_f86c9_7 : decode cJ9_floorMod_f86c9 7 = .ok (.lxor, 1) := by decide +kernel
theorem dJ9_floorMod_f86c9_8 : decode cJ9_floorMod_f86c9 8 = .ok (.lconst 0, 1) := by decide +kernel
theorem dJ9_floorMod_f86c9_9 : decode cJ9_floorMod_f86c9 9 = .ok (.lcmp, 1) := by decide +kernel
theorem dJ9_floorMod_f86c9_10 : decode cJ9_floorMod_f86c9 10 = .ok (.ifCond .ge 15, 3) := by decide +kernel
theorem dJ9_floorMod_f86c9_13 : decode cJ9_floorMod_f86c9 13 = .ok (.lload 4, 2) := by decide +kernel
theorem dJ9_floorMod_f86c9_15 : decode cJ9_floorMod_f86c9 15 = .ok (.lconst 0, 1) := by decide +kernel
theorem dJ9_floorMod_f86c9_16 : decode cJ9_floorMod_f86c9 16 = .ok (.lcmp, 1) := by decide +kernel
theorem dJ9_floorMod_f86c9_17 : decode cJ9_floorMod_f86c9 17 = .ok (.ifCond .eq 8, 3) := by decide +kernel
theorem dJ9_floorMod_f86c9_20 : decode cJ9_floorMod_f86c9 20 = .ok (.lload 4, 2) := by decide +kernel
theorem dJ9_floorMod_f86c9_22 : decode cJ9_floorMod_f86c9 22 = .ok (.lload_n 2, 1) := by decide +kernel
theorem dJ9_floorMod_f86c9_23 : decode cJ9_floorMod_f86c9 23 = .ok (.ladd, 1) := by decide +kernel
theorem dJ9_floorMod_f86c9_24 : decode cJ9_floorMod_f86c9 24 = .ok (.lreturn, 1) := by decide +kernel
theorem dJ9_floorMod_f86c9_25 : decode cJ9_floorMod_f86c9 25 = .ok (.lload 4, 2) := by decide +kernel
theorem dJ9_floorMod_f86c9_27 : decode cJ9_floorMod_f86c9 27 = .ok (.lreturn, 1) := by decide +kernel
theorem dJ9_abs_0f7a4_0 : decode cJ9_abs_0f7a4 0 = .ok (.iload_n 0, 1) := by decide +kernel
theorem dJ9_abs_0f7a4_1 : decode cJ9_abs_0f7a4 1 = .ok (.ifCond .ge 8, 3) := by decide +kernel
theorem dJ9_abs_0f7a4_4 : decode cJ9_abs_0f7a4 4 = .ok (.iload_n 0, 1) := by decide +kernel
theorem dJ9_abs_0f7a4_5 : decode cJ9_abs_0f7a4 5 = .ok (.ineg, 1) := by decide +kernel
theorem dJ9_abs_0f7a4_6 : decode cJ9_abs_0f7a4 6 = .ok (.goto 4, 3) := by decide +kernel
theorem dJ9_abs_0f7a4_9 : decode cJ9_abs_0f7a4 9 = .ok (.iload_n 0, 1) := by decide +kernel
theorem dJ9_abs_0f7a4_10 : decode cJ9_abs_0f7a4 10 = .ok (.ireturn, 1) := by decide +kernel
theorem dJ9_abs_067f4_0 : decode cJ9_abs_067f4 0 = .ok (.lload_n 0, 1) := by decide +kernel
theorem dJ9_abs_067f4_1 : decode cJ9_abs_067f4 1 = .ok (.lconst 0, 1) := by decide +kernel
theorem dJ9_abs_067f4_2 : decode cJ9_abs_067f4 2 = .ok (.lcmp, 1) := by decide +kernel
theorem dJ9_abs_067f4_3 : decode cJ9_abs_067f4 3 = .ok (.ifCond .ge 8, 3) := by decide +kernel
theorem dJ9_abs_067f4_6 : decode cJ9_abs_067f4 6 = .ok (.lload_n 0, 1) := by decide +kernel
theorem dJ9_abs_067f4_7 : decode cJ9_abs_067f4 7 = .ok (.lneg, 1) := by decide +kernel
theorem dJ9_abs_067f4_8 : decode cJ9_abs_067f4 8 = .ok (.goto 4, 3) := by decide +kernel
theorem dJ9_abs_067f4_11 : decode cJ9_abs_067f4 11 = .ok (.lload_n 0, 1) := by decide +kernel
theorem dJ9_abs_067f4_12 : decode cJ9_abs_067f4 12 = .ok (.lreturn, 1) := by decide +kernel
theorem dJ9_max_7cf53_0 : decode cJ9_max_7cf53 0 = .ok (.iload_n 0, 1) := by decide +kernel
theorem dJ9_max_7cf53_1 : decode cJ9_max_7cf53 1 = .ok (.iload_n 1, 1) := by decide +kernel
theorem dJ9_max_7cf53_2 : decode cJ9_max_7cf53 2 = .ok (.if_icmp .lt 7, 3) := by decide +kernel
theorem dJ9_max_7cf53_5 : decode cJ9_max_7cf53 5 = .ok (.iload_n 0, 1) := by decide +kernel
theorem dJ9_max_7cf53_6 : decode cJ9_max_7cf53 6 = .ok (.goto 4, 3) := by decide +kernel
theorem dJ9_max_7cf53_9 : decode cJ9_max_7cf53 9 = .ok (.iload_n 1, 1) := by decide +kernel
theorem dJ9_max_7cf53_10 : decode cJ9_max_7cf53 10 = .ok (.ireturn, 1) := by decide +kernel
theorem dJ9_max_f86c9_0 : decode cJ9_max_f86c9 0 = .ok (.lload_n 0, 1) := by decide +kernel
theorem dJ9_max_f86c9_1 : decode cJ9_max_f86c9 1 = .ok (.lload_n 2, 1) := by decide +kernel
theorem dJ9_max_f86c9_2 : decode cJ9_max_f86c9 2 = .ok (.lcmp, 1) := by decide +kernel
theorem dJ9_max_f86c9_3 : decode cJ9_max_f86c9 3 = .ok (.ifCond .lt 7, 3) := by decide +kernel
theorem dJ9_max_f86c9_6 : decode cJ9_max_f86c9 6 = .ok (.lload_n 0, 1) := by decide +kernel
theorem dJ9_max_f86c9_7 : decode cJ9_max_f86c9 7 = .ok (.goto 4, 3) := by decide +kernel
theorem dJ9_max_f86c9_10 : decode cJ9_max_f86c9 10 = .ok (.lload_n 2, 1) := by decide +kernel
theorem dJ9_max_f86c9_11 : decode cJ9_max_f86c9 11 = .ok (.lreturn, 1) := by decide +kernel
theorem dJ9_min_7cf53_0 : decode cJ9_min_7cf53 0 = .ok (.iload_n 0, 1) := by decide +kernel
theorem dJ9_min_7cf53_1 : decode cJ9_min_7cf53 1 = .ok (.iload_n 1, 1) := by decide +kernel
theorem dJ9_min_7cf53_2 : decode cJ9_min_7cf53 2 = .ok (.if_icmp .gt 7, 3) := by decide +kernel
theorem dJ9_min_7cf53_5 : decode cJ9_min_7cf53 5 = .ok (.iload_n 0, 1) := by decide +kernel
theorem dJ9_min_7cf53_6 : decode cJ9_min_7cf53 6 = .ok (.goto 4, 3) := by decide +kernel
theorem dJ9_min_7cf53_9 : decode cJ9_min_7cf53 9 = .ok (.iload_n 1, 1) := by decide +kernel
theorem dJ9_min_7cf53_10 : decode cJ9_min_7cf53 10 = .ok (.ireturn, 1) := by decide +kernel
theorem dJ9_min_f86c9_0 : decode cJ9_min_f86c9 0 = .ok (.lload_n 0, 1) := by decide +kernel
theorem dJ9_min_f86c9_1 : decode cJ9_min_f86c9 1 = .ok (.lload_n 2, 1) := by decide +kernel
theorem dJ9_min_f86c9_2 : decode cJ9_min_f86c9 2 = .ok (.lcmp, 1) := by decide +kernel
theorem dJ9_min_f86c9_3 : decode cJ9_min_f86c9 3 = .ok (.ifCond .gt 7, 3) := by decide +kernel
theorem dJ9_min_f86c9_6 : decode cJ9_min_f86c9 6 = .ok (.lload_n 0, 1) := by decide +kernel
theorem dJ9_min_f86c9_7 : decode cJ9_min_f86c9 7 = .ok (.goto 4, 3) := by decide +kernel
theorem dJ9_min_f86c9_10 : decode cJ9_min_f86c9 10 = .ok (.lload_n 2, 1) := by decide +kernel
theorem dJ9_min_f86c9_11 : decode cJ9_min_f86c9 11 = .ok (.lreturn, 1) := by decide +kernel
theorem dJxa1e45_init_da8c8_0 : decode cJxa1e45_init_da8c8 0 = .ok (.aload_n 0, 1) := by decide +kernel
theorem dJxa1e45_init_da8c8_1 : decode cJxa1e45_init_da8c8 1 = .ok (.invokespecial 1, 3) := by decide +kernel
theorem dJxa1e45_init_da8c8_4 : decode cJxa1e45_init_da8c8 4 = .ok (.return_, 1) := by decide +kernel
theorem dJxc12de_init_da8c8_0 : decode cJxc12de_init_da8c8 0 = .ok (.aload_n 0, 1) := by decide +kernel
theorem dJxc12de_init_da8c8_1 : decode cJxc12de_init_da8c8 1 = .ok (.invokespecial 1, 3) := by decide +kernel
theorem dJxc12de_init_da8c8_4 : decode cJxc12de_init_da8c8 4 = .ok (.aload_n 0, 1) := by decide +kernel
theorem dJxc12de_init_da8c8_5 : decode cJxc12de_init_da8c8 5 = .ok (.iconst 0, 1) := by decide +kernel
theorem dJxc12de_init_da8c8_6 : decode cJxc12de_init_da8c8 6 = .ok (.putfield 7, 3) := by decide +kernel
theorem dJxc12de_init_da8c8_9 : decode cJxc12de_init_da8c8 9 = .ok (.return_, 1) := by decide +kernel
theorem dJx4a65c_init_da8c8_0 : decode cJx4a65c_init_da8c8 0 = .ok (.aload_n 0, 1) := by decide +kernel
theorem dJx4a65c_init_da8c8_1 : decode cJx4a65c_init_da8c8 1 = .ok (.invokespecial 1, 3) := by decide +kernel
theorem dJx4a65c_init_da8c8_4 : decode cJx4a65c_init_da8c8 4 = .ok (.aload_n 0, 1) := by decide +kernel
theorem dJx4a65c_init_da8c8_5 : decode cJx4a65c_init_da8c8 5 = .ok (.getstatic 39, 3) := by decide +kernel
theorem dJx4a65c_init_da8c8_8 : decode cJx4a65c_init_da8c8 8 = .ok (.putfield 9, 3) := by decide +kernel
theorem dJx4a65c_init_da8c8_11 : decode cJx4a65c_init_da8c8 11 = .ok (.return_, 1) := by decide +kernel
theorem dJx4a65c_grow_92f84_0 : decode cJx4a65c_grow_92f84 0 = .ok (.aload_n 0, 1) := by decide +kernel
theorem dJx4a65c_grow_92f84_1 : decode cJx4a65c_grow_92f84 1 = .ok (.getfield 9, 3) := by decide +kernel
theorem dJx4a65c_grow_92f84_4 : decode cJx4a65c_grow_92f84 4 = .ok (.arraylength, 1) := by decide +kernel
theorem dJx4a65c_grow_92f84_5 : decode cJx4a65c_grow_92f84 5 = .ok (.istore_n 2, 1) := by decide +kernel
theorem dJx4a65c_grow_92f84_6 : decode cJx4a65c_grow_92f84 6 = .ok (.iload_n 2, 1) := by decide +kernel
theorem dJx4a65c_grow_92f84_7 : decode cJx4a65c_grow_92f84 7 = .ok (.ifCond .gt 13, 3) := by decide +kernel
theorem dJx4a65c_grow_92f84_10 : decode cJx4a65c_grow_92f84 10 = .ok (.aload_n 0, 1) := by decide +kernel
theorem dJx4a65c_grow_92f84_11 : decode cJx4a65c_grow_92f84 11 = .ok (.getfield 9, 3) := by decide +kernel
theorem dJx4a65c_grow_92f84_14 : decode cJx4a65c_grow_92f84 14 = .ok (.getstatic 39, 3) := by decide +kernel
theorem dJx4a65c_grow_92f84_17 : decode cJx4a65c_grow_92f84 17 = .ok (.if_acmp .eq 28, 3) := by decide +kernel
theorem dJx4a65c_grow_92f84_20 : decode cJx4a65c_grow_92f84 20 = .ok (.iload_n 2, 1) := by decide +kernel
theorem dJx4a65c_grow_92f84_21 : decode cJx4a65c_grow_92f84 21 = .ok (.iload_n 1, 1) := by decide +kernel
theorem dJx4a65c_grow_92f84_22 : decode cJx4a65c_grow_92f84 22 = .ok (.iload_n 2, 1) := by decide +kernel
theorem dJx4a65c_grow_92f84_23 : decode cJx4a65c_grow_92f84 23 = .ok (.isub, 1) := by decide +kernel
theorem dJx4a65c_grow_92f84_24 : decode cJx4a65c_grow_92f84 24 = .ok (.iload_n 2, 1) := by decide +kernel
theorem dJx4a65c_grow_92f84_25 : decode cJx4a65c_grow_92f84 25 = .ok (.iconst 1, 1) := by decide +kernel
theorem dJx4a65c_grow_92f84_26 : decode cJx4a65c_grow_92f84 26 = .ok (.ishr, 1) := by decide +kernel
theorem dJx4a65c_grow_92f84_27 : decode cJx4a65c_grow_92f84 27 = .ok (.invokestatic 73, 3) := by decide +kernel
theorem dJx4a65c_grow_92f84_30 : decode cJx4a65c_grow_92f84 30 = .ok (.istore_n 3, 1) := by decide +kernel
theorem dJx4a65c_grow_92f84_31 : decode cJx4a65c_grow_92f84 31 = .ok (.aload_n 0, 1) := by decide +kernel
theorem dJx4a65c_grow_92f84_32 : decode cJx4a65c_grow_92f84 32 = .ok (.aload_n 0, 1) := by decide +kernel
theorem dJx4a65c_grow_92f84_33 : decode cJx4a65c_grow_92f84 33 = .ok (.getfield 9, 3) := by decide +kernel
theorem dJx4a65c_grow_92f84_36 : decode cJx4a65c_grow_92f84 36 = .ok (.iload_n 3, 1) := by decide +kernel
theorem dJx4a65c_grow_92f84_37 : decode cJx4a65c_grow_92f84 37 = .ok (.invokestatic 66, 3) := by decide +kernel
theorem dJx4a65c_grow_92f84_40 : decode cJx4a65c_grow_92f84 40 = .ok (.dup_x1, 1) := by decide +kernel
theorem dJx4a65c_grow_92f84_41 : decode cJx4a65c_grow_92f84 41 = .ok (.putfield 9, 3) := by decide +kernel
theorem dJx4a65c_grow_92f84_44 : decode cJx4a65c_grow_92f84 44 = .ok (.areturn, 1) := by decide +kernel
theorem dJx4a65c_grow_92f84_45 : decode cJx4a65c_grow_92f84 45 = .ok (.aload_n 0, 1) := by decide +kernel
theorem dJx4a65c_grow_92f84_46 : decode cJx4a65c_grow_92f84 46 = .ok (.bipush 10, 2) := by decide +kernel
theorem dJx4a65c_grow_92f84_48 : decode cJx4a65c_grow_92f84 48 = .ok (.iload_n 1, 1) := by decide +kernel
theorem dJx4a65c_grow_92f84_49 : decode cJx4a65c_grow_92f84 49 = .ok (.invokestatic 79, 3) := by decide +kernel
theorem dJx4a65c_grow_92f84_52 : decode cJx4a65c_grow_92f84 52 = .ok (.anewarray 7, 3) := by decide +kernel
theorem dJx4a65c_grow_92f84_55 : decode cJx4a65c_grow_92f84 55 = .ok (.dup_x1, 1) := by decide +kernel
theorem dJx4a65c_grow_92f84_56 : decode cJx4a65c_grow_92f84 56 = .ok (.putfield 9, 3) := by decide +kernel
theorem dJx4a65c_grow_92f84_59 : decode cJx4a65c_grow_92f84 59 = .ok (.areturn, 1) := by decide +kernel
theorem dJx4a65c_grow_d5877_0 : decode cJx4a65c_grow_d5877 0 = .ok (.aload_n 0, 1) := by decide +kernel
theorem dJx4a65c_grow_d5877_1 : decode cJx4a65c_grow_d5877 1 = .ok (.aload_n 0, 1) := by decide +kernel
theorem dJx4a65c_grow_d5877_2 : decode cJx4a65c_grow_d5877 2 = .ok (.getfield 48, 3) := by decide +kernel
theorem dJx4a65c_grow_d5877_5 : decode cJx4a65c_grow_d5877 5 = .ok (.iconst 1, 1) := by decide +kernel
theorem dJx4a65c_grow_d5877_6 : decode cJx4a65c_grow_d5877 6 = .ok (.iadd, 1) := by decide +kernel
theorem dJx4a65c_grow_d5877_7 : decode cJx4a65c_grow_d5877 7 = .ok (.invokevirtual 69, 3) := by decide +kernel
theorem dJx4a65c_grow_d5877_10 : decode cJx4a65c_grow_d5877 10 = .ok (.areturn, 1) := by decide +kernel
theorem dJx4a65c_size_8abf5_0 : decode cJx4a65c_size_8abf5 0 = .ok (.aload_n 0, 1) := by decide +kernel
theorem dJx4a65c_size_8abf5_1 : decode cJx4a65c_size_8abf5 1 = .ok (.getfield 48, 3) := by decide +kernel
theorem dJx4a65c_size_8abf5_4 : decode cJx4a65c_size_8abf5 4 = .ok (.ireturn, 1) := by decide +kernel
theorem dJx4a65c_isEmpty_aae02_0 : decode cJx4a65c_isEmpty_aae02 0 = .ok (.aload_n 0, 1) := by decide +kernel
theorem dJx4a65c_isEmpty_aae02_1 : decode cJx4a65c_isEmpty_aae02 1 = .ok (.getfield 48, 3) := by decide +kernel
theorem dJx4a65c_isEmpty_aae02_4 : decode cJx4a65c_isEmpty_aae02 4 = .ok (.ifCond .ne 7, 3) := by decide +kernel
theorem dJx4a65c_isEmpty_aae02_7 : decode cJx4a65c_isEmpty_aae02 7 = .ok (.iconst 1, 1) := by decide +kernel
theorem dJx4a65c_isEmpty_aae02_8 : decode cJx4a65c_isEmpty_aae02 8 = .ok (.goto 4, 3) := by decide +kernel
theorem dJx4a65c_isEmpty_aae02_11 : decode cJx4a65c_isEmpty_aae02 11 = .ok (.iconst 0, 1) := by decide +kernel
theorem dJx4a65c_isEmpty_aae02_12 : decode cJx4a65c_isEmpty_aae02 12 = .ok (.ireturn, 1) := by decide +kernel
theorem dJx4a65c_elementData_915e3_0 : decode cJx4a65c_elementData_915e3 0 = .ok (.aload_n 0, 1) := by decide +kernel
theorem dJx4a65c_elementData_915e3_1 : decode cJx4a65c_elementData_915e3 1 = .ok (.getfield 9, 3) := by decide +kernel
theorem dJx4a65c_elementData_915e3_4 : decode cJx4a65c_elementData_915e3 4 = .ok (.iload_n 1, 1) := by decide +kernel
theorem dJx4a65c_elementData_915e3_5 : decode cJx4a65c_elementData_915e3 5 = .ok (.aaload, 1) := by decide +kernel
theorem dJx4a65c_elementData_915e3_6 : decode cJx4a65c_elementData_915e3 6 = .ok (.areturn, 1) := by decide +kernel
theorem dJx4a65c_get_915e3_0 : decode cJx4a65c_get_915e3 0 = .ok (.iload_n 1, 1) := by decide +kernel
theorem dJx4a65c_get_915e3_1 : decode cJx4a65c_get_915e3 1 = .ok (.aload_n 0, 1) := by decide +kernel
theorem dJx4a65c_get_915e3_2 : decode cJx4a65c_get_915e3 2 = .ok (.getfield 48, 3) := by decide +kernel
theorem dJx4a65c_get_915e3_5 : decode cJx4a65c_get_915e3 5 = .ok (.invokestatic 118, 3) := by decide +kernel
theorem dJx4a65c_get_915e3_8 : decode cJx4a65c_get_915e3 8 = .ok (.pop, 1) := by decide +kernel
theorem dJx4a65c_get_915e3_9 : decode cJx4a65c_get_915e3 9 = .ok (.aload_n 0, 1) := by decide +kernel
theorem dJx4a65c_get_915e3_10 : decode cJx4a65c_get_915e3 10 = .ok (.iload_n 1, 1) := by decide +kernel
theorem dJx4a65c_get_915e3_11 : decode cJx4a65c_get_915e3 11 = .ok (.invokevirtual 123, 3) := by decide +kernel
theorem dJx4a65c_get_915e3_14 : decode cJx4a65c_get_915e3 14 = .ok (.areturn, 1) := by decide +kernel
theorem dJx4a65c_add_72be8_0 : decode cJx4a65c_add_72be8 0 = .ok (.iload_n 3, 1) := by decide +kernel
theorem dJx4a65c_add_72be8_1 : decode cJx4a65c_add_72be8 1 = .ok (.aload_n 2, 1) := by decide +kernel
theorem dJx4a65c_add_72be8_2 : decode cJx4a65c_add_72be8 2 = .ok (.arraylength, 1) := by decide +kernel
theorem dJx4a65c_add_72be8_3 : decode cJx4a65c_add_72be8 3 = .ok (.if_icmp .ne 8, 3) := by decide +kernel
theorem dJx4a65c_add_72be8_6 : decode cJx4a65c_add_72be8 6 = .ok (.aload_n 0, 1) := by decide +kernel
theorem dJx4a65c_add_72be8_7 : decode cJx4a65c_add_72be8 7 = .ok (.invokevirtual 129, 3) := by decide +kernel
theorem dJx4a65c_add_72be8_10 : decode cJx4a65c_add_72be8 10 = .ok (.astore_n 2, 1) := by decide +kernel
theorem dJx4a65c_add_72be8_11 : decode cJx4a65c_add_72be8 11 = .ok (.aload_n 2, 1) := by decide +kernel
theorem dJx4a65c_add_72be8_12 : decode cJx4a65c_add_72be8 12 = .ok (.iload_n 3, 1) := by decide +kernel
theorem dJx4a65c_add_72be8_13 : decode cJx4a65c_add_72be8 13 = .ok (.aload_n 1, 1) := by decide +kernel
theorem dJx4a65c_add_72be8_14 : decode cJx4a65c_add_72be8 14 = .ok (.aastore, 1) := by decide +kernel
theorem dJx4a65c_add_72be8_15 : decode cJx4a65c_add_72be8 15 = .ok (.aload_n 0, 1) := by decide +kernel
theorem dJx4a65c_add_72be8_16 : decode cJx4a65c_add_72be8 16 = .ok (.iload_n 3, 1) := by decide +kernel
theorem dJx4a65c_add_72be8_17 : decode cJx4a65c_add_72be8 17 = .ok (.iconst 1, 1) := by decide +kernel
theorem dJx4a65c_add_72be8_18 : decode cJx4a65c_add_72be8 18 = .ok (.iadd, 1) := by decide +kernel
theorem dJx4a65c_add_72be8_19 : decode cJx4a65c_add_72be8 19 = .ok (.putfield 48, 3) := by decide +kernel
theorem dJx4a65c_add_72be8_22 : decode cJx4a65c_add_72be8 22 = .ok (.return_, 1) := by decide +kernel
theorem dJx4a65c_add_9ea2d_0 : decode cJx4a65c_add_9ea2d 0 = .ok (.aload_n 0, 1) := by decide +kernel
theorem dJx4a65c_add_9ea2d_1 : decode cJx4a65c_add_9ea2d 1 = .ok (.dup, 1) := by decide +kernel
theorem dJx4a65c_add_9ea2d_2 : decode cJx4a65c_add_9ea2d 2 = .ok (.getfield 63, 3) := by decide +kernel
theorem dJx4a65c_add_9ea2d_5 : decode cJx4a65c_add_9ea2d 5 = .ok (.iconst 1, 1) := by decide +kernel
theorem dJx4a65c_add_9ea2d_6 : decode cJx4a65c_add_9ea2d 6 = .ok (.iadd, 1) := by decide +kernel
theorem dJx4a65c_add_9ea2d_7 : decode cJx4a65c_add_9ea2d 7 = .ok (.putfield 63, 3) := by decide +kernel
theorem dJx4a65c_add_9ea2d_10 : decode cJx4a65c_add_9ea2d 10 = .ok (.aload_n 0, 1) := by decide +kernel
theorem dJx4a65c_add_9ea2d_11 : decode cJx4a65c_add_9ea2d 11 = .ok (.aload_n 1, 1) := by decide +kernel
theorem dJx4a65c_add_9ea2d_12 : decode cJx4a65c_add_9ea2d 12 = .ok (.aload_n 0, 1) := by decide +kernel
theorem dJx4a65c_add_9ea2d_13 : decode cJx4a65c_add_9ea2d 13 = .ok (.getfield 9, 3) := by decide +kernel
theorem dJx4a65c_add_9ea2d_16 : decode cJx4a65c_add_9ea2d 16 = .ok (.aload_n 0, 1) := by decide +kernel
theorem dJx4a65c_add_9ea2d_17 : decode cJx4a65c_add_9ea2d 17 = .ok (.getfield 48, 3) := by decide +kernel
theorem dJx4a65c_add_9ea2d_20 : decode cJx4a65c_add_9ea2d 20 = .ok (.invokevirtual 131, 3) := by decide +kernel
theorem dJx4a65c_add_9ea2d_23 : decode cJx4a65c_add_9ea2d 23 = .ok (.iconst 1, 1) := by decide +kernel
theorem dJx4a65c_add_9ea2d_24 : decode cJx4a65c_add_9ea2d 24 = .ok (.ireturn, 1) := by decide +kernel
theorem dJx4a65c_clear_da8c8_0 : decode cJx4a65c_clear_da8c8 0 = .ok (.aload_n 0, 1) := by decide +kernel
theorem dJx4a65c_clear_da8c8_1 : decode cJx4a65c_clear_da8c8 1 = .ok (.dup, 1) := by decide +kernel
theorem dJx4a65c_clear_da8c8_2 : decode cJx4a65c_clear_da8c8 2 = .ok (.getfield 63, 3) := by decide +kernel
theorem dJx4a65c_clear_da8c8_5 : decode cJx4a65c_clear_da8c8 5 = .ok (.iconst 1, 1) := by decide +kernel
theorem dJx4a65c_clear_da8c8_6 : decode cJx4a65c_clear_da8c8 6 = .ok (.iadd, 1) := by decide +kernel
theorem dJx4a65c_clear_da8c8_7 : decode cJx4a65c_clear_da8c8 7 = .ok (.putfield 63, 3) := by decide +kernel
theorem dJx4a65c_clear_da8c8_10 : decode cJx4a65c_clear_da8c8 10 = .ok (.aload_n 0, 1) := by decide +kernel
theorem dJx4a65c_clear_da8c8_11 : decode cJx4a65c_clear_da8c8 11 = .ok (.getfield 9, 3) := by decide +kernel
theorem dJx4a65c_clear_da8c8_14 : decode cJx4a65c_clear_da8c8 14 = .ok (.astore_n 1, 1) := by decide +kernel
theorem dJx4a65c_clear_da8c8_15 : decode cJx4a65c_clear_da8c8 15 = .ok (.aload_n 0, 1) := by decide +kernel
theorem dJx4a65c_clear_da8c8_16 : decode cJx4a65c_clear_da8c8 16 = .ok (.getfield 48, 3) := by decide +kernel
theorem dJx4a65c_clear_da8c8_19 : decode cJx4a65c_clear_da8c8 19 = .ok (.istore_n 2, 1) := by decide +kernel
theorem dJx4a65c_clear_da8c8_20 : decode cJx4a65c_clear_da8c8 20 = .ok (.aload_n 0, 1) := by decide +kernel
theorem dJx4a65c_clear_da8c8_21 : decode cJx4a65c_clear_da8c8 21 = .ok (.iconst 0, 1) := by decide +kernel
theorem dJx4a65c_clear_da8c8_22 : decode cJx4a65c_clear_da8c8 22 = .ok (.dup_x1, 1) := by decide +kernel
theorem dJx4a65c_clear_da8c8_23 : decode cJx4a65c_clear_da8c8 23 = .ok (.putfield 48, 3) := by decide +kernel
theorem dJx4a65c_clear_da8c8_26 : decode cJx4a65c_clear_da8c8 26 = .ok (.istore_n 3, 1) := by decide +kernel
theorem dJx4a65c_clear_da8c8_27 : decode cJx4a65c_clear_da8c8 27 = .ok (.iload_n 3, 1) := by decide +kernel
theorem dJx4a65c_clear_da8c8_28 : decode cJx4a65c_clear_da8c8 28 = .ok (.iload_n 2, 1) := by decide +kernel
theorem dJx4a65c_clear_da8c8_29 : decode cJx4a65c_clear_da8c8 29 = .ok (.if_icmp .ge 13, 3) := by decide +kernel
theorem dJx4a65c_clear_da8c8_32 : decode cJx4a65c_clear_da8c8 32 = .ok (.aload_n 1, 1) := by decide +kernel
theorem dJx4a65c_clear_da8c8_33 : decode cJx4a65c_clear_da8c8 33 = .ok (.iload_n 3, 1) := by decide +kernel
theorem dJx4a65c_clear_da8c8_34 : decode cJx4a65c_clear_da8c8 34 = .ok (.aconst_null, 1) := by decide +kernel
theorem dJx4a65c_clear_da8c8_35 : decode cJx4a65c_clear_da8c8 35 = .ok (.aastore, 1) := by decide +kernel
theorem dJx4a65c_clear_da8c8_36 : decode cJx4a65c_clear_da8c8 36 = .ok (.iinc 3 1, 3) := by decide +kernel
theorem dJx4a65c_clear_da8c8_39 : decode cJx4a65c_clear_da8c8 39 = .ok (.goto (-12), 3) := by decide +kernel
theorem dJx4a65c_clear_da8c8_42 : decode cJx4a65c_clear_da8c8 42 = .ok (.return_, 1) := by decide +kernel
theorem dJ7_fill_d0a16_0 : decode cJ7_fill_d0a16 0 = .ok (.iconst 0, 1) := by decide +kernel
theorem dJ7_fill_d0a16_1 : decode cJ7_fill_d0a16 1 = .ok (.istore_n 3, 1) := by decide +kernel
theorem dJ7_fill_d0a16_2 : decode cJ7_fill_d0a16 2 = .ok (.aload_n 0, 1) := by decide +kernel
theorem dJ7_fill_d0a16_3 : decode cJ7_fill_d0a16 3 = .ok (.arraylength, 1) := by decide +kernel
theorem dJ7_fill_d0a16_4 : decode cJ7_fill_d0a16 4 = .ok (.istore 4, 2) := by decide +kernel
theorem dJ7_fill_d0a16_6 : decode cJ7_fill_d0a16 6 = .ok (.iload_n 3, 1) := by decide +kernel
theorem dJ7_fill_d0a16_7 : decode cJ7_fill_d0a16 7 = .ok (.iload 4, 2) := by decide +kernel
theorem dJ7_fill_d0a16_9 : decode cJ7_fill_d0a16 9 = .ok (.if_icmp .ge 13, 3) := by decide +kernel
theorem dJ7_fill_d0a16_12 : decode cJ7_fill_d0a16 12 = .ok (.aload_n 0, 1) := by decide +kernel
theorem dJ7_fill_d0a16_13 : decode cJ7_fill_d0a16 13 = .ok (.iload_n 3, 1) := by decide +kernel
theorem dJ7_fill_d0a16_14 : decode cJ7_fill_d0a16 14 = .ok (.lload_n 1, 1) := by decide +kernel
theorem dJ7_fill_d0a16_15 : decode cJ7_fill_d0a16 15 = .ok (.lastore, 1) := by decide +kernel
theorem dJ7_fill_d0a16_16 : decode cJ7_fill_d0a16 16 = .ok (.iinc 3 1, 3) := by decide +kernel
theorem dJ7_fill_d0a16_19 : decode cJ7_fill_d0a16 19 = .ok (.goto (-13), 3) := by decide +kernel
theorem dJ7_fill_d0a16_22 : decode cJ7_fill_d0a16 22 = .ok (.return_, 1) := by decide +kernel
theorem dJ7_fill_53178_0 : decode cJ7_fill_53178 0 = .ok (.iconst 0, 1) := by decide +kernel
theorem dJ7_fill_53178_1 : decode cJ7_fill_53178 1 = .ok (.istore_n 2, 1) := by decide +kernel
theorem dJ7_fill_53178_2 : decode cJ7_fill_53178 2 = .ok (.aload_n 0, 1) := by decide +kernel
theorem dJ7_fill_53178_3 : decode cJ7_fill_53178 3 = .ok (.arraylength, 1) := by decide +kernel
theorem dJ7_fill_53178_4 : decode cJ7_fill_53178 4 = .ok (.istore_n 3, 1) := by decide +kernel
theorem dJ7_fill_53178_5 : decode cJ7_fill_53178 5 = .ok (.iload_n 2, 1) := by decide +kernel
theorem dJ7_fill_53178_6 : decode cJ7_fill_53178 6 = .ok (.iload_n 3, 1) := by decide +kernel
theorem dJ7_fill_53178_7 : decode cJ7_fill_53178 7 = .ok (.if_icmp .ge 13, 3) := by decide +kernel
theorem dJ7_fill_53178_10 : decode cJ7_fill_53178 10 = .ok (.aload_n 0, 1) := by decide +kernel
theorem dJ7_fill_53178_11 : decode cJ7_fill_53178 11 = .ok (.iload_n 2, 1) := by decide +kernel
theorem dJ7_fill_53178_12 : decode cJ7_fill_53178 12 = .ok (.iload_n 1, 1) := by decide +kernel
theorem dJ7_fill_53178_13 : decode cJ7_fill_53178 13 = .ok (.iastore, 1) := by decide +kernel
theorem dJ7_fill_53178_14 : decode cJ7_fill_53178 14 = .ok (.iinc 2 1, 3) := by decide +kernel
theorem dJ7_fill_53178_17 : decode cJ7_fill_53178 17 = .ok (.goto (-12), 3) := by decide +kernel
theorem dJ7_fill_53178_20 : decode cJ7_fill_53178 20 = .ok (.return_, 1) := by decide +kernel
theorem dJ7_copyOf_1904c_0 : decode cJ7_copyOf_1904c 0 = .ok (.aload_n 0, 1) := by decide +kernel
theorem dJ7_copyOf_1904c_1 : decode cJ7_copyOf_1904c 1 = .ok (.iload_n 1, 1) := by decide +kernel
theorem dJ7_copyOf_1904c_2 : decode cJ7_copyOf_1904c 2 = .ok (.aload_n 0, 1) := by decide +kernel
theorem dJ7_copyOf_1904c_3 : decode cJ7_copyOf_1904c 3 = .ok (.invokevirtual 86, 3) := by decide +kernel
theorem dJ7_copyOf_1904c_6 : decode cJ7_copyOf_1904c 6 = .ok (.invokestatic 300, 3) := by decide +kernel
theorem dJ7_copyOf_1904c_9 : decode cJ7_copyOf_1904c 9 = .ok (.areturn, 1) := by decide +kernel
theorem dJ7_copyOf_6403c_0 : decode cJ7_copyOf_6403c 0 = .ok (.aload_n 2, 1) := by decide +kernel
theorem dJ7_copyOf_6403c_1 : decode cJ7_copyOf_6403c 1 = .ok (.ldc 110, 2) := by decide +kernel
theorem dJ7_copyOf_6403c_3 : decode cJ7_copyOf_6403c 3 = .ok (.if_acmp .ne 10, 3) := by decide +kernel
theorem dJ7_copyOf_6403c_6 : decode cJ7_copyOf_6403c 6 = .ok (.iload_n 1, 1) := by decide +kernel
theorem dJ7_copyOf_6403c_7 : decode cJ7_copyOf_6403c 7 = .ok (.anewarray 2, 3) := by decide +kernel
theorem dJ7_copyOf_6403c_10 : decode cJ7_copyOf_6403c 10 = .ok (.goto 14, 3) := by decide +kernel
theorem dJ7_copyOf_6403c_13 : decode cJ7_copyOf_6403c 13 = .ok (.aload_n 2, 1) := by decide +kernel
theorem dJ7_copyOf_6403c_14 : decode cJ7_copyOf_6403c 14 = .ok (.invokevirtual 90, 3) := by decide +kernel
theorem dJ7_copyOf_6403c_17 : decode cJ7_copyOf_6403c 17 = .ok (.iload_n 1, 1) := by decide +kernel
theorem dJ7_copyOf_6403c_18 : decode cJ7_copyOf_6403c 18 = .ok (.invokestatic 95, 3) := by decide +kernel
theorem dJ7_copyOf_6403c_21 : decode cJ7_copyOf_6403c 21 = .ok (.checkcast 110, 3) := by decide +kernel
theorem dJ7_copyOf_6403c_24 : decode cJ7_copyOf_6403c 24 = .ok (.astore_n 3, 1) := by decide +kernel
theorem dJ7_copyOf_6403c_25 : decode cJ7_copyOf_6403c 25 = .ok (.aload_n 0, 1) := by decide +kernel
theorem dJ7_copyOf_6403c_26 : decode cJ7_copyOf_6403c 26 = .ok (.iconst 0, 1) := by decide +kernel
theorem dJ7_copyOf_6403c_27 : decode cJ7_copyOf_6403c 27 = .ok (.aload_n 3, 1) := by decide +kernel
theorem dJ7_copyOf_6403c_28 : decode cJ7_copyOf_6403c 28 = .ok (.iconst 0, 1) := by decide +kernel
theorem dJ7_copyOf_6403c_29 : decode cJ7_copyOf_6403c 29 = .ok (.aload_n 0, 1) := by decide +kernel
theorem dJ7_copyOf_6403c_30 : decode cJ7_copyOf_6403c 30 = .ok (.arraylength, 1) := by decide +kernel
theorem dJ7_copyOf_6403c_31 : decode cJ7_copyOf_6403c 31 = .ok (.iload_n 1, 1) := by decide +kernel
theorem dJ7_copyOf_6403c_32 : decode cJ7_copyOf_6403c 32 = .ok (.invokestatic 304, 3) := by decide +kernel
theorem dJ7_copyOf_6403c_35 : decode cJ7_copyOf_6403c 35 = .ok (.invokestatic 150, 3) := by decide +kernel
theorem dJ7_copyOf_6403c_38 : decode cJ7_copyOf_6403c 38 = .ok (.aload_n 3, 1) := by decide +kernel
theorem dJ7_copyOf_6403c_39 : decode cJ7_copyOf_6403c 39 = .ok (.areturn, 1) := by decide +kernel
theorem dJ15_checkIndex_7cf53_0 : decode cJ15_checkIndex_7cf53 0 = .ok (.iload_n 0, 1) := by decide +kernel
theorem dJ15_checkIndex_7cf53_1 : decode cJ15_checkIndex_7cf53 1 = .ok (.iload_n 1, 1) := by decide +kernel
theorem dJ15_checkIndex_7cf53_2 : decode cJ15_checkIndex_7cf53 2 = .ok (.aconst_null, 1) := by decide +kernel
theorem dJ15_checkIndex_7cf53_3 : decode cJ15_checkIndex_7cf53 3 = .ok (.invokestatic 105, 3) := by decide +kernel
theorem dJ15_checkIndex_7cf53_6 : decode cJ15_checkIndex_7cf53 6 = .ok (.ireturn, 1) := by decide +kernel
theorem dJ8_newLength_cabcc_0 : decode cJ8_newLength_cabcc 0 = .ok (.iload_n 0, 1) := by decide +kernel
theorem dJ8_newLength_cabcc_1 : decode cJ8_newLength_cabcc 1 = .ok (.iload_n 1, 1) := by decide +kernel
theorem dJ8_newLength_cabcc_2 : decode cJ8_newLength_cabcc 2 = .ok (.iload_n 2, 1) := by decide +kernel
theorem dJ8_newLength_cabcc_3 : decode cJ8_newLength_cabcc 3 = .ok (.invokestatic 194, 3) := by decide +kernel
theorem dJ8_newLength_cabcc_6 : decode cJ8_newLength_cabcc 6 = .ok (.iadd, 1) := by decide +kernel
theorem dJ8_newLength_cabcc_7 : decode cJ8_newLength_cabcc 7 = .ok (.istore_n 3, 1) := by decide +kernel
theorem dJ8_newLength_cabcc_8 : decode cJ8_newLength_cabcc 8 = .ok (.iconst 0, 1) := by decide +kernel
theorem dJ8_newLength_cabcc_9 : decode cJ8_newLength_cabcc 9 = .ok (.iload_n 3, 1) := by decide +kernel
theorem dJ8_newLength_cabcc_10 : decode cJ8_newLength_cabcc 10 = .ok (.if_icmp .ge 11, 3) := by decide +kernel
theorem dJ8_newLength_cabcc_13 : decode cJ8_newLength_cabcc 13 = .ok (.iload_n 3, 1) := by decide +kernel
theorem dJ8_newLength_cabcc_14 : decode cJ8_newLength_cabcc 14 = .ok (.ldc 200, 2) := by decide +kernel
theorem dJ8_newLength_cabcc_16 : decode cJ8_newLength_cabcc 16 = .ok (.if_icmp .gt 5, 3) := by decide +kernel
theorem dJ8_newLength_cabcc_19 : decode cJ8_newLength_cabcc 19 = .ok (.iload_n 3, 1) := by decide +kernel
theorem dJ8_newLength_cabcc_20 : decode cJ8_newLength_cabcc 20 = .ok (.ireturn, 1) := by decide +kernel
theorem dJ8_newLength_cabcc_21 : decode cJ8_newLength_cabcc 21 = .ok (.iload_n 0, 1) := by decide +kernel
theorem dJ8_newLength_cabcc_22 : decode cJ8_newLength_cabcc 22 = .ok (.iload_n 1, 1) := by decide +kernel
theorem dJ8_newLength_cabcc_23 : decode cJ8_newLength_cabcc 23 = .ok (.invokestatic 201, 3) := by decide +kernel
theorem dJ8_newLength_cabcc_26 : decode cJ8_newLength_cabcc 26 = .ok (.ireturn, 1) := by decide +kernel
theorem dJ8_hugeLength_7cf53_0 : decode cJ8_hugeLength_7cf53 0 = .ok (.iload_n 0, 1) := by decide +kernel
theorem dJ8_hugeLength_7cf53_1 : decode cJ8_hugeLength_7cf53 1 = .ok (.iload_n 1, 1) := by decide +kernel
theorem dJ8_hugeLength_7cf53_2 : decode cJ8_hugeLength_7cf53 2 = .ok (.iadd, 1) := by decide +kernel
theorem dJ8_hugeLength_7cf53_3 : decode cJ8_hugeLength_7cf53 3 = .ok (.istore_n 2, 1) := by decide +kernel
theorem dJ8_hugeLength_7cf53_4 : decode cJ8_hugeLength_7cf53 4 = .ok (.iload_n 2, 1) := by decide +kernel
theorem dJ8_hugeLength_7cf53_5 : decode cJ8_hugeLength_7cf53 5 = .ok (.ifCond .ge 44, 3) := by decide +kernel
theorem dJ8_hugeLength_7cf53_8 : decode cJ8_hugeLength_7cf53 8 = .ok (.new 204, 3) := by decide +kernel
theorem dJ8_hugeLength_7cf53_11 : decode cJ8_hugeLength_7cf53 11 = .ok (.dup, 1) := by decide +kernel
theorem dJ8_hugeLength_7cf53_12 : decode cJ8_hugeLength_7cf53 12 = .ok (.new 89, 3) := by decide +kernel
theorem dJ8_hugeLength_7cf53_15 : decode cJ8_hugeLength_7cf53 15 = .ok (.dup, 1) := by decide +kernel
theorem dJ8_hugeLength_7cf53_16 : decode cJ8_hugeLength_7cf53 16 = .ok (.invokespecial 91, 3) := by decide +kernel
theorem dJ8_hugeLength_7cf53_19 : decode cJ8_hugeLength_7cf53 19 = .ok (.ldc 206, 2) := by decide +kernel
theorem dJ8_hugeLength_7cf53_21 : decode cJ8_hugeLength_7cf53 21 = .ok (.invokevirtual 94, 3) := by decide +kernel
theorem dJ8_hugeLength_7cf53_24 : decode cJ8_hugeLength_7cf53 24 = .ok (.iload_n 0, 1) := by decide +kernel
theorem dJ8_hugeLength_7cf53_25 : decode cJ8_hugeLength_7cf53 25 = .ok (.invokevirtual 98, 3) := by decide +kernel
theorem dJ8_hugeLength_7cf53_28 : decode cJ8_hugeLength_7cf53 28 = .ok (.ldc 208, 2) := by decide +kernel
theorem dJ8_hugeLength_7cf53_30 : decode cJ8_hugeLength_7cf53 30 = .ok (.invokevirtual 94, 3) := by decide +kernel
theorem dJ8_hugeLength_7cf53_33 : decode cJ8_hugeLength_7cf53 33 = .ok (.iload_n 1, 1) := by decide +kernel
theorem dJ8_hugeLength_7cf53_34 : decode cJ8_hugeLength_7cf53 34 = .ok (.invokevirtual 98, 3) := by decide +kernel
theorem dJ8_hugeLength_7cf53_37 : decode cJ8_hugeLength_7cf53 37 = .ok (.ldc 210, 2) := by decide +kernel
theorem dJ8_hugeLength_7cf53_39 : decode cJ8_hugeLength_7cf53 39 = .ok (.invokevirtual 94, 3) := by decide +kernel
theorem dJ8_hugeLength_7cf53_42 : decode cJ8_hugeLength_7cf53 42 = .ok (.invokevirtual 101, 3) := by decide +kernel
theorem dJ8_hugeLength_7cf53_45 : decode cJ8_hugeLength_7cf53 45 = .ok (.invokespecial 212, 3) := by decide +kernel
theorem dJ8_hugeLength_7cf53_48 : decode cJ8_hugeLength_7cf53 48 = .ok (.athrow, 1) := by decide +kernel
theorem dJ8_hugeLength_7cf53_49 : decode cJ8_hugeLength_7cf53 49 = .ok (.iload_n 2, 1) := by decide +kernel
theorem dJ8_hugeLength_7cf53_50 : decode cJ8_hugeLength_7cf53 50 = .ok (.ldc 200, 2) := by decide +kernel
theorem dJ8_hugeLength_7cf53_52 : decode cJ8_hugeLength_7cf53 52 = .ok (.if_icmp .gt 6, 3) := by decide +kernel
theorem dJ8_hugeLength_7cf53_55 : decode cJ8_hugeLength_7cf53 55 = .ok (.ldc 200, 2) := by decide +kernel
theorem dJ8_hugeLength_7cf53_57 : decode cJ8_hugeLength_7cf53 57 = .ok (.ireturn, 1) := by decide +kernel
theorem dJ8_hugeLength_7cf53_58 : decode cJ8_hugeLength_7cf53 58 = .ok (.iload_n 2, 1) := by decide +kernel
theorem dJ8_hugeLength_7cf53_59 : decode cJ8_hugeLength_7cf53 59 = .ok (.ireturn, 1) := by decide +kernel
theorem dJ3_checkIndex_8e157_0 : decode cJ3_checkIndex_8e157 0 = .ok (.iload_n 0, 1) := by decide +kernel
theorem dJ3_checkIndex_8e157_1 : decode cJ3_checkIndex_8e157 1 = .ok (.ifCond .lt 8, 3) := by decide +kernel
theorem dJ3_checkIndex_8e157_4 : decode cJ3_checkIndex_8e157 4 = .ok (.iload_n 0, 1) := by decide +kernel
theorem dJ3_checkIndex_8e157_5 : decode cJ3_checkIndex_8e157 5 = .ok (.iload_n 1, 1) := by decide +kernel
theorem dJ3_checkIndex_8e157_6 : decode cJ3_checkIndex_8e157 6 = .ok (.if_icmp .lt 10, 3) := by decide +kernel
theorem dJ3_checkIndex_8e157_9 : decode cJ3_checkIndex_8e157 9 = .ok (.aload_n 2, 1) := by decide +kernel
theorem dJ3_checkIndex_8e157_10 : decode cJ3_checkIndex_8e157 10 = .ok (.iload_n 0, 1) := by decide +kernel
theorem dJ3_checkIndex_8e157_11 : decode cJ3_checkIndex_8e157 11 = .ok (.iload_n 1, 1) := by decide +kernel
theorem dJ3_checkIndex_8e157_12 : decode cJ3_checkIndex_8e157 12 = .ok (.invokestatic 95, 3) := by decide +kernel
theorem dJ3_checkIndex_8e157_15 : decode cJ3_checkIndex_8e157 15 = .ok (.athrow, 1) := by decide +kernel
theorem dJ3_checkIndex_8e157_16 : decode cJ3_checkIndex_8e157 16 = .ok (.iload_n 0, 1) := by decide +kernel
theorem dJ3_checkIndex_8e157_17 : decode cJ3_checkIndex_8e157 17 = .ok (.ireturn, 1) := by decide +kernel
