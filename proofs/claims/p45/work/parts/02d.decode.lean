theorem dL_cell_0 : decode cL_cell 0 = .ok (.ldc 7, 2) := by decide +kernel
theorem dL_cell_2 : decode cL_cell 2 = .ok (.iload_n 1, 1) := by decide +kernel
theorem dL_cell_3 : decode cL_cell 3 = .ok (.aload_n 0, 1) := by decide +kernel
theorem dL_cell_4 : decode cL_cell 4 = .ok (.arraylength, 1) := by decide +kernel
theorem dL_cell_5 : decode cL_cell 5 = .ok (.if_icmp .ge 9, 3) := by decide +kernel
theorem dL_cell_8 : decode cL_cell 8 = .ok (.aload_n 0, 1) := by decide +kernel
theorem dL_cell_9 : decode cL_cell 9 = .ok (.iload_n 1, 1) := by decide +kernel
theorem dL_cell_10 : decode cL_cell 10 = .ok (.iaload, 1) := by decide +kernel
theorem dL_cell_11 : decode cL_cell 11 = .ok (.goto 4, 3) := by decide +kernel
theorem dL_cell_14 : decode cL_cell 14 = .ok (.iconst 0, 1) := by decide +kernel
theorem dL_cell_15 : decode cL_cell 15 = .ok (.sipush 1009, 3) := by decide +kernel
theorem dL_cell_18 : decode cL_cell 18 = .ok (.iload_n 1, 1) := by decide +kernel
theorem dL_cell_19 : decode cL_cell 19 = .ok (.imul, 1) := by decide +kernel
theorem dL_cell_20 : decode cL_cell 20 = .ok (.iadd, 1) := by decide +kernel
theorem dL_cell_21 : decode cL_cell 21 = .ok (.imul, 1) := by decide +kernel
theorem dL_cell_22 : decode cL_cell 22 = .ok (.sipush 12345, 3) := by decide +kernel
theorem dL_cell_25 : decode cL_cell 25 = .ok (.iadd, 1) := by decide +kernel
theorem dL_cell_26 : decode cL_cell 26 = .ok (.istore_n 2, 1) := by decide +kernel
theorem dL_cell_27 : decode cL_cell 27 = .ok (.iload_n 2, 1) := by decide +kernel
theorem dL_cell_28 : decode cL_cell 28 = .ok (.iload_n 2, 1) := by decide +kernel
theorem dL_cell_29 : decode cL_cell 29 = .ok (.bipush 13, 2) := by decide +kernel
theorem dL_cell_31 : decode cL_cell 31 = .ok (.iushr, 1) := by decide +kernel
theorem dL_cell_32 : decode cL_cell 32 = .ok (.ixor, 1) := by decide +kernel
theorem dL_cell_33 : decode cL_cell 33 = .ok (.ldc 8, 2) := by decide +kernel
theorem dL_cell_35 : decode cL_cell 35 = .ok (.imul, 1) := by decide +kernel
theorem dL_cell_36 : decode cL_cell 36 = .ok (.istore_n 2, 1) := by decide +kernel
theorem dL_cell_37 : decode cL_cell 37 = .ok (.iload_n 2, 1) := by decide +kernel
theorem dL_cell_38 : decode cL_cell 38 = .ok (.iload_n 2, 1) := by decide +kernel
theorem dL_cell_39 : decode cL_cell 39 = .ok (.bipush 16, 2) := by decide +kernel
theorem dL_cell_41 : decode cL_cell 41 = .ok (.iushr, 1) := by decide +kernel
theorem dL_cell_42 : decode cL_cell 42 = .ok (.ixor, 1) := by decide +kernel
theorem dL_cell_43 : decode cL_cell 43 = .ok (.ireturn, 1) := by decide +kernel
theorem dL_shaft_0 : decode cL_shaft 0 = .ok (.aload_n 0, 1) := by decide +kernel
theorem dL_shaft_1 : decode cL_shaft 1 = .ok (.invokevirtual 9, 3) := by decide +kernel
theorem dL_shaft_4 : decode cL_shaft 4 = .ok (.ireturn, 1) := by decide +kernel
theorem dL_shaft_5 : decode cL_shaft 5 = .ok (.astore_n 1, 1) := by decide +kernel
theorem dL_shaft_6 : decode cL_shaft 6 = .ok (.ldc 17, 2) := by decide +kernel
theorem dL_shaft_8 : decode cL_shaft 8 = .ok (.ireturn, 1) := by decide +kernel
theorem dL_link_0 : decode cL_link 0 = .ok (.aload_n 0, 1) := by decide +kernel
theorem dL_link_1 : decode cL_link 1 = .ok (.iload_n 1, 1) := by decide +kernel
theorem dL_link_2 : decode cL_link 2 = .ok (.iload_n 2, 1) := by decide +kernel
theorem dL_link_3 : decode cL_link 3 = .ok (.iload_n 3, 1) := by decide +kernel
theorem dL_link_4 : decode cL_link 4 = .ok (.iload 4, 2) := by decide +kernel
theorem dL_link_6 : decode cL_link 6 = .ok (.iload 5, 2) := by decide +kernel
theorem dL_link_8 : decode cL_link 8 = .ok (.invokevirtual 18, 3) := by decide +kernel
theorem dL_link_11 : decode cL_link 11 = .ok (.ireturn, 1) := by decide +kernel
theorem dL_link_12 : decode cL_link 12 = .ok (.astore 6, 2) := by decide +kernel
theorem dL_link_14 : decode cL_link 14 = .ok (.ldc 17, 2) := by decide +kernel
theorem dL_link_16 : decode cL_link 16 = .ok (.ireturn, 1) := by decide +kernel
theorem dL_link_17 : decode cL_link 17 = .ok (.astore 6, 2) := by decide +kernel
theorem dL_link_19 : decode cL_link 19 = .ok (.ldc 26, 2) := by decide +kernel
theorem dL_link_21 : decode cL_link 21 = .ok (.ireturn, 1) := by decide +kernel
theorem dL_link_22 : decode cL_link 22 = .ok (.astore 6, 2) := by decide +kernel
theorem dL_link_24 : decode cL_link 24 = .ok (.ldc 29, 2) := by decide +kernel
theorem dL_link_26 : decode cL_link 26 = .ok (.ireturn, 1) := by decide +kernel
theorem dL_link_27 : decode cL_link 27 = .ok (.astore 6, 2) := by decide +kernel
theorem dL_link_29 : decode cL_link 29 = .ok (.ldc 30, 2) := by decide +kernel
theorem dL_link_31 : decode cL_link 31 = .ok (.ireturn, 1) := by decide +kernel
theorem dL_planets_0 : decode cL_planets 0 = .ok (.aload_n 0, 1) := by decide +kernel
theorem dL_planets_1 : decode cL_planets 1 = .ok (.iload_n 1, 1) := by decide +kernel
theorem dL_planets_2 : decode cL_planets 2 = .ok (.iload_n 2, 1) := by decide +kernel
theorem dL_planets_3 : decode cL_planets 3 = .ok (.iload_n 3, 1) := by decide +kernel
theorem dL_planets_4 : decode cL_planets 4 = .ok (.iload 4, 2) := by decide +kernel
theorem dL_planets_6 : decode cL_planets 6 = .ok (.iload 5, 2) := by decide +kernel
theorem dL_planets_8 : decode cL_planets 8 = .ok (.invokevirtual 31, 3) := by decide +kernel
theorem dL_planets_11 : decode cL_planets 11 = .ok (.ireturn, 1) := by decide +kernel
theorem dL_planets_12 : decode cL_planets 12 = .ok (.astore 6, 2) := by decide +kernel
theorem dL_planets_14 : decode cL_planets 14 = .ok (.ldc 17, 2) := by decide +kernel
theorem dL_planets_16 : decode cL_planets 16 = .ok (.ireturn, 1) := by decide +kernel
theorem dL_planets_17 : decode cL_planets 17 = .ok (.astore 6, 2) := by decide +kernel
theorem dL_planets_19 : decode cL_planets 19 = .ok (.ldc 26, 2) := by decide +kernel
theorem dL_planets_21 : decode cL_planets 21 = .ok (.ireturn, 1) := by decide +kernel
theorem dL_planets_22 : decode cL_planets 22 = .ok (.astore 6, 2) := by decide +kernel
theorem dL_planets_24 : decode cL_planets 24 = .ok (.ldc 29, 2) := by decide +kernel
theorem dL_planets_26 : decode cL_planets 26 = .ok (.ireturn, 1) := by decide +kernel
theorem dL_planets_27 : decode cL_planets 27 = .ok (.astore 6, 2) := by decide +kernel
theorem dL_planets_29 : decode cL_planets 29 = .ok (.ldc 30, 2) := by decide +kernel
theorem dL_planets_31 : decode cL_planets 31 = .ok (.ireturn, 1) := by decide +kernel
theorem dL_turn_0 : decode cL_turn 0 = .ok (.aload_n 0, 1) := by decide +kernel
theorem dL_turn_1 : decode cL_turn 1 = .ok (.iload_n 1, 1) := by decide +kernel
theorem dL_turn_2 : decode cL_turn 2 = .ok (.iload_n 2, 1) := by decide +kernel
theorem dL_turn_3 : decode cL_turn 3 = .ok (.invokevirtual 35, 3) := by decide +kernel
theorem dL_turn_6 : decode cL_turn 6 = .ok (.ireturn, 1) := by decide +kernel
theorem dL_turn_7 : decode cL_turn 7 = .ok (.astore_n 3, 1) := by decide +kernel
theorem dL_turn_8 : decode cL_turn 8 = .ok (.ldc 17, 2) := by decide +kernel
theorem dL_turn_10 : decode cL_turn 10 = .ok (.ireturn, 1) := by decide +kernel
theorem dL_turn_11 : decode cL_turn 11 = .ok (.astore_n 3, 1) := by decide +kernel
theorem dL_turn_12 : decode cL_turn 12 = .ok (.ldc 26, 2) := by decide +kernel
theorem dL_turn_14 : decode cL_turn 14 = .ok (.ireturn, 1) := by decide +kernel
theorem dL_turn_15 : decode cL_turn 15 = .ok (.astore_n 3, 1) := by decide +kernel
theorem dL_turn_16 : decode cL_turn 16 = .ok (.ldc 29, 2) := by decide +kernel
theorem dL_turn_18 : decode cL_turn 18 = .ok (.ireturn, 1) := by decide +kernel
theorem dL_driver_0 : decode cL_driver 0 = .ok (.aload_n 0, 1) := by decide +kernel
theorem dL_driver_1 : decode cL_driver 1 = .ok (.iload_n 1, 1) := by decide +kernel
theorem dL_driver_2 : decode cL_driver 2 = .ok (.invokevirtual 39, 3) := by decide +kernel
theorem dL_driver_5 : decode cL_driver 5 = .ok (.ireturn, 1) := by decide +kernel
theorem dL_driver_6 : decode cL_driver 6 = .ok (.astore_n 2, 1) := by decide +kernel
theorem dL_driver_7 : decode cL_driver 7 = .ok (.ldc 17, 2) := by decide +kernel
theorem dL_driver_9 : decode cL_driver 9 = .ok (.ireturn, 1) := by decide +kernel
theorem dL_driver_10 : decode cL_driver 10 = .ok (.astore_n 2, 1) := by decide +kernel
theorem dL_driver_11 : decode cL_driver 11 = .ok (.ldc 26, 2) := by decide +kernel
theorem dL_driver_13 : decode cL_driver 13 = .ok (.ireturn, 1) := by decide +kernel
theorem dL_placeOver_0 : decode cL_placeOver 0 = .ok (.aload_n 0, 1) := by decide +kernel
theorem dL_placeOver_1 : decode cL_placeOver 1 = .ok (.iload_n 1, 1) := by decide +kernel
theorem dL_placeOver_2 : decode cL_placeOver 2 = .ok (.invokevirtual 45, 3) := by decide +kernel
theorem dL_placeOver_5 : decode cL_placeOver 5 = .ok (.lreturn, 1) := by decide +kernel
theorem dL_placeOver_6 : decode cL_placeOver 6 = .ok (.astore_n 2, 1) := by decide +kernel
theorem dL_placeOver_7 : decode cL_placeOver 7 = .ok (.ldc2_w 49, 3) := by decide +kernel
theorem dL_placeOver_10 : decode cL_placeOver 10 = .ok (.lreturn, 1) := by decide +kernel
theorem dL_placeUnder_0 : decode cL_placeUnder 0 = .ok (.aload_n 0, 1) := by decide +kernel
theorem dL_placeUnder_1 : decode cL_placeUnder 1 = .ok (.iload_n 1, 1) := by decide +kernel
theorem dL_placeUnder_2 : decode cL_placeUnder 2 = .ok (.invokevirtual 51, 3) := by decide +kernel
theorem dL_placeUnder_5 : decode cL_placeUnder 5 = .ok (.lreturn, 1) := by decide +kernel
theorem dL_placeUnder_6 : decode cL_placeUnder 6 = .ok (.astore_n 2, 1) := by decide +kernel
theorem dL_placeUnder_7 : decode cL_placeUnder 7 = .ok (.ldc2_w 49, 3) := by decide +kernel
theorem dL_placeUnder_10 : decode cL_placeUnder 10 = .ok (.lreturn, 1) := by decide +kernel
theorem dL_wornOver_0 : decode cL_wornOver 0 = .ok (.aload_n 0, 1) := by decide +kernel
theorem dL_wornOver_1 : decode cL_wornOver 1 = .ok (.iload_n 1, 1) := by decide +kernel
theorem dL_wornOver_2 : decode cL_wornOver 2 = .ok (.invokevirtual 54, 3) := by decide +kernel
theorem dL_wornOver_5 : decode cL_wornOver 5 = .ok (.lreturn, 1) := by decide +kernel
theorem dL_wornOver_6 : decode cL_wornOver 6 = .ok (.astore_n 2, 1) := by decide +kernel
theorem dL_wornOver_7 : decode cL_wornOver 7 = .ok (.ldc2_w 49, 3) := by decide +kernel
theorem dL_wornOver_10 : decode cL_wornOver 10 = .ok (.lreturn, 1) := by decide +kernel
theorem dL_wornUnder_0 : decode cL_wornUnder 0 = .ok (.aload_n 0, 1) := by decide +kernel
theorem dL_wornUnder_1 : decode cL_wornUnder 1 = .ok (.iload_n 1, 1) := by decide +kernel
theorem dL_wornUnder_2 : decode cL_wornUnder 2 = .ok (.invokevirtual 57, 3) := by decide +kernel
theorem dL_wornUnder_5 : decode cL_wornUnder 5 = .ok (.lreturn, 1) := by decide +kernel
theorem dL_wornUnder_6 : decode cL_wornUnder 6 = .ok (.astore_n 2, 1) := by decide +kernel
theorem dL_wornUnder_7 : decode cL_wornUnder 7 = .ok (.ldc2_w 49, 3) := by decide +kernel
theorem dL_wornUnder_10 : decode cL_wornUnder 10 = .ok (.lreturn, 1) := by decide +kernel
theorem dL_in_0 : decode cL_in 0 = .ok (.aload_n 0, 1) := by decide +kernel
theorem dL_in_1 : decode cL_in 1 = .ok (.iload_n 1, 1) := by decide +kernel
theorem dL_in_2 : decode cL_in 2 = .ok (.invokestatic 60, 3) := by decide +kernel
theorem dL_in_5 : decode cL_in 5 = .ok (.ldc 66, 2) := by decide +kernel
theorem dL_in_7 : decode cL_in 7 = .ok (.iand, 1) := by decide +kernel
theorem dL_in_8 : decode cL_in 8 = .ok (.iload_n 2, 1) := by decide +kernel
theorem dL_in_9 : decode cL_in 9 = .ok (.irem, 1) := by decide +kernel
theorem dL_in_10 : decode cL_in 10 = .ok (.ireturn, 1) := by decide +kernel
theorem dL_common_0 : decode cL_common 0 = .ok (.lload_n 2, 1) := by decide +kernel
theorem dL_common_1 : decode cL_common 1 = .ok (.lconst 0, 1) := by decide +kernel
theorem dL_common_2 : decode cL_common 2 = .ok (.lcmp, 1) := by decide +kernel
theorem dL_common_3 : decode cL_common 3 = .ok (.ifCond .ne 18, 3) := by decide +kernel
theorem dL_common_6 : decode cL_common 6 = .ok (.lload_n 0, 1) := by decide +kernel
theorem dL_common_7 : decode cL_common 7 = .ok (.lconst 0, 1) := by decide +kernel
theorem dL_common_8 : decode cL_common 8 = .ok (.lcmp, 1) := by decide +kernel
theorem dL_common_9 : decode cL_common 9 = .ok (.ifCond .ge 8, 3) := by decide +kernel
theorem dL_common_12 : decode cL_common 12 = .ok (.lload_n 0, 1) := by decide +kernel
theorem dL_common_13 : decode cL_common 13 = .ok (.lneg, 1) := by decide +kernel
theorem dL_common_14 : decode cL_common 14 = .ok (.goto 14, 3) := by decide +kernel
theorem dL_common_17 : decode cL_common 17 = .ok (.lload_n 0, 1) := by decide +kernel
theorem dL_common_18 : decode cL_common 18 = .ok (.goto 10, 3) := by decide +kernel
theorem dL_common_21 : decode cL_common 21 = .ok (.lload_n 2, 1) := by decide +kernel
theorem dL_common_22 : decode cL_common 22 = .ok (.lload_n 0, 1) := by decide +kernel
theorem dL_common_23 : decode cL_common 23 = .ok (.lload_n 2, 1) := by decide +kernel
theorem dL_common_24 : decode cL_common 24 = .ok (.lrem, 1) := by decide +kernel
theorem dL_common_25 : decode cL_common 25 = .ok (.invokestatic 67, 3) := by decide +kernel
theorem dL_common_28 : decode cL_common 28 = .ok (.lreturn, 1) := by decide +kernel
theorem dL_law_0 : decode cL_law 0 = .ok (.new 10, 3) := by decide +kernel
theorem dL_law_3 : decode cL_law 3 = .ok (.dup, 1) := by decide +kernel
theorem dL_law_4 : decode cL_law 4 = .ok (.invokespecial 71, 3) := by decide +kernel
theorem dL_law_7 : decode cL_law 7 = .ok (.astore_n 1, 1) := by decide +kernel
theorem dL_law_8 : decode cL_law 8 = .ok (.aload_n 1, 1) := by decide +kernel
theorem dL_law_9 : decode cL_law 9 = .ok (.iconst 0, 1) := by decide +kernel
theorem dL_law_10 : decode cL_law 10 = .ok (.iconst 1, 1) := by decide +kernel
theorem dL_law_11 : decode cL_law 11 = .ok (.invokestatic 72, 3) := by decide +kernel
theorem dL_law_14 : decode cL_law 14 = .ok (.ldc 17, 2) := by decide +kernel
theorem dL_law_16 : decode cL_law 16 = .ok (.if_icmp .ne 14, 3) := by decide +kernel
theorem dL_law_19 : decode cL_law 19 = .ok (.aload_n 1, 1) := by decide +kernel
theorem dL_law_20 : decode cL_law 20 = .ok (.invokevirtual 75, 3) := by decide +kernel
theorem dL_law_23 : decode cL_law 23 = .ok (.ifCond .ne 7, 3) := by decide +kernel
theorem dL_law_26 : decode cL_law 26 = .ok (.iconst 1, 1) := by decide +kernel
theorem dL_law_27 : decode cL_law 27 = .ok (.goto 4, 3) := by decide +kernel
theorem dL_law_30 : decode cL_law 30 = .ok (.iconst 0, 1) := by decide +kernel
theorem dL_law_31 : decode cL_law 31 = .ok (.istore_n 2, 1) := by decide +kernel
theorem dL_law_32 : decode cL_law 32 = .ok (.iconst 0, 1) := by decide +kernel
theorem dL_law_33 : decode cL_law 33 = .ok (.istore_n 3, 1) := by decide +kernel
theorem dL_law_34 : decode cL_law 34 = .ok (.iload_n 3, 1) := by decide +kernel
theorem dL_law_35 : decode cL_law 35 = .ok (.iconst 5, 1) := by decide +kernel
theorem dL_law_36 : decode cL_law 36 = .ok (.if_icmp .ge 45, 3) := by decide +kernel
theorem dL_law_39 : decode cL_law 39 = .ok (.iload_n 2, 1) := by decide +kernel
theorem dL_law_40 : decode cL_law 40 = .ok (.aload_n 1, 1) := by decide +kernel
theorem dL_law_41 : decode cL_law 41 = .ok (.invokestatic 78, 3) := by decide +kernel
theorem dL_law_44 : decode cL_law 44 = .ok (.iload_n 3, 1) := by decide +kernel
theorem dL_law_45 : decode cL_law 45 = .ok (.if_icmp .ne 27, 3) := by decide +kernel
theorem dL_law_48 : decode cL_law 48 = .ok (.aload_n 1, 1) := by decide +kernel
theorem dL_law_49 : decode cL_law 49 = .ok (.iload_n 3, 1) := by decide +kernel
theorem dL_law_50 : decode cL_law 50 = .ok (.invokestatic 81, 3) := by decide +kernel
theorem dL_law_53 : decode cL_law 53 = .ok (.lconst 0, 1) := by decide +kernel
theorem dL_law_54 : decode cL_law 54 = .ok (.lcmp, 1) := by decide +kernel
theorem dL_law_55 : decode cL_law 55 = .ok (.ifCond .ne 17, 3) := by decide +kernel
theorem dL_law_58 : decode cL_law 58 = .ok (.aload_n 1, 1) := by decide +kernel
theorem dL_law_59 : decode cL_law 59 = .ok (.iload_n 3, 1) := by decide +kernel
theorem dL_law_60 : decode cL_law 60 = .ok (.invokestatic 84, 3) := by decide +kernel
theorem dL_law_63 : decode cL_law 63 = .ok (.lconst 1, 1) := by decide +kernel
theorem dL_law_64 : decode cL_law 64 = .ok (.lcmp, 1) := by decide +kernel
theorem dL_law_65 : decode cL_law 65 = .ok (.ifCond .ne 7, 3) := by decide +kernel
theorem dL_law_68 : decode cL_law 68 = .ok (.iconst 1, 1) := by decide +kernel
theorem dL_law_69 : decode cL_law 69 = .ok (.goto 4, 3) := by decide +kernel
theorem dL_law_72 : decode cL_law 72 = .ok (.iconst 0, 1) := by decide +kernel
theorem dL_law_73 : decode cL_law 73 = .ok (.iand, 1) := by decide +kernel
theorem dL_law_74 : decode cL_law 74 = .ok (.istore_n 2, 1) := by decide +kernel
theorem dL_law_75 : decode cL_law 75 = .ok (.iinc 3 1, 3) := by decide +kernel
theorem dL_law_78 : decode cL_law 78 = .ok (.goto (-44), 3) := by decide +kernel
theorem dL_law_81 : decode cL_law 81 = .ok (.iconst 4, 1) := by decide +kernel
theorem dL_law_82 : decode cL_law 82 = .ok (.newarray .char, 2) := by decide +kernel
theorem dL_law_84 : decode cL_law 84 = .ok (.astore_n 3, 1) := by decide +kernel
theorem dL_law_85 : decode cL_law 85 = .ok (.iconst 4, 1) := by decide +kernel
theorem dL_law_86 : decode cL_law 86 = .ok (.newarray .int, 2) := by decide +kernel
theorem dL_law_88 : decode cL_law 88 = .ok (.astore 4, 2) := by decide +kernel
theorem dL_law_90 : decode cL_law 90 = .ok (.iconst 4, 1) := by decide +kernel
theorem dL_law_91 : decode cL_law 91 = .ok (.newarray .int, 2) := by decide +kernel
theorem dL_law_93 : decode cL_law 93 = .ok (.astore 5, 2) := by decide +kernel
theorem dL_law_95 : decode cL_law 95 = .ok (.iconst 3, 1) := by decide +kernel
theorem dL_law_96 : decode cL_law 96 = .ok (.newarray .int, 2) := by decide +kernel
theorem dL_law_98 : decode cL_law 98 = .ok (.dup, 1) := by decide +kernel
theorem dL_law_99 : decode cL_law 99 = .ok (.iconst 0, 1) := by decide +kernel
theorem dL_law_100 : decode cL_law 100 = .ok (.iconst 0, 1) := by decide +kernel
theorem dL_law_101 : decode cL_law 101 = .ok (.iastore, 1) := by decide +kernel
theorem dL_law_102 : decode cL_law 102 = .ok (.dup, 1) := by decide +kernel
theorem dL_law_103 : decode cL_law 103 = .ok (.iconst 1, 1) := by decide +kernel
theorem dL_law_104 : decode cL_law 104 = .ok (.iconst 1, 1) := by decide +kernel
theorem dL_law_105 : decode cL_law 105 = .ok (.iastore, 1) := by decide +kernel
theorem dL_law_106 : decode cL_law 106 = .ok (.dup, 1) := by decide +kernel
theorem dL_law_107 : decode cL_law 107 = .ok (.iconst 2, 1) := by decide +kernel
theorem dL_law_108 : decode cL_law 108 = .ok (.iconst 1, 1) := by decide +kernel
theorem dL_law_109 : decode cL_law 109 = .ok (.iastore, 1) := by decide +kernel
theorem dL_law_110 : decode cL_law 110 = .ok (.astore 6, 2) := by decide +kernel
theorem dL_law_112 : decode cL_law 112 = .ok (.iconst 3, 1) := by decide +kernel
theorem dL_law_113 : decode cL_law 113 = .ok (.newarray .int, 2) := by decide +kernel
theorem dL_law_115 : decode cL_law 115 = .ok (.dup, 1) := by decide +kernel
theorem dL_law_116 : decode cL_law 116 = .ok (.iconst 0, 1) := by decide +kernel
theorem dL_law_117 : decode cL_law 117 = .ok (.iconst 1, 1) := by decide +kernel
theorem dL_law_118 : decode cL_law 118 = .ok (.iastore, 1) := by decide +kernel
theorem dL_law_119 : decode cL_law 119 = .ok (.dup, 1) := by decide +kernel
theorem dL_law_120 : decode cL_law 120 = .ok (.iconst 1, 1) := by decide +kernel
theorem dL_law_121 : decode cL_law 121 = .ok (.iconst 2, 1) := by decide +kernel
theorem dL_law_122 : decode cL_law 122 = .ok (.iastore, 1) := by decide +kernel
theorem dL_law_123 : decode cL_law 123 = .ok (.dup, 1) := by decide +kernel
theorem dL_law_124 : decode cL_law 124 = .ok (.iconst 2, 1) := by decide +kernel
theorem dL_law_125 : decode cL_law 125 = .ok (.iconst 4, 1) := by decide +kernel
theorem dL_law_126 : decode cL_law 126 = .ok (.iastore, 1) := by decide +kernel
theorem dL_law_127 : decode cL_law 127 = .ok (.astore 7, 2) := by decide +kernel
theorem dL_law_129 : decode cL_law 129 = .ok (.iconst 0, 1) := by decide +kernel
theorem dL_law_130 : decode cL_law 130 = .ok (.istore 8, 2) := by decide +kernel
theorem dL_law_132 : decode cL_law 132 = .ok (.iload 8, 2) := by decide +kernel
theorem dL_law_134 : decode cL_law 134 = .ok (.iconst 2, 1) := by decide +kernel
theorem dL_law_135 : decode cL_law 135 = .ok (.if_icmp .ge 268, 3) := by decide +kernel
theorem dL_law_138 : decode cL_law 138 = .ok (.aload_n 0, 1) := by decide +kernel
theorem dL_law_139 : decode cL_law 139 = .ok (.iload 8, 2) := by decide +kernel
theorem dL_law_141 : decode cL_law 141 = .ok (.iconst 5, 1) := by decide +kernel
theorem dL_law_142 : decode cL_law 142 = .ok (.invokestatic 86, 3) := by decide +kernel
theorem dL_law_145 : decode cL_law 145 = .ok (.istore 9, 2) := by decide +kernel
theorem dL_law_147 : decode cL_law 147 = .ok (.aload_n 3, 1) := by decide +kernel
theorem dL_law_148 : decode cL_law 148 = .ok (.iload 8, 2) := by decide +kernel
theorem dL_law_150 : decode cL_law 150 = .ok (.iload 9, 2) := by decide +kernel
theorem dL_law_152 : decode cL_law 152 = .ok (.ifCond .ne 8, 3) := by decide +kernel
theorem dL_law_155 : decode cL_law 155 = .ok (.bipush 103, 2) := by decide +kernel
theorem dL_law_157 : decode cL_law 157 = .ok (.goto 38, 3) := by decide +kernel
theorem dL_law_160 : decode cL_law 160 = .ok (.iload 9, 2) := by decide +kernel
theorem dL_law_162 : decode cL_law 162 = .ok (.iconst 1, 1) := by decide +kernel
theorem dL_law_163 : decode cL_law 163 = .ok (.if_icmp .ne 8, 3) := by decide +kernel
theorem dL_law_166 : decode cL_law 166 = .ok (.bipush 105, 2) := by decide +kernel
theorem dL_law_168 : decode cL_law 168 = .ok (.goto 27, 3) := by decide +kernel
theorem dL_law_171 : decode cL_law 171 = .ok (.iload 9, 2) := by decide +kernel
theorem dL_law_173 : decode cL_law 173 = .ok (.iconst 2, 1) := by decide +kernel
theorem dL_law_174 : decode cL_law 174 = .ok (.if_icmp .ne 8, 3) := by decide +kernel
theorem dL_law_177 : decode cL_law 177 = .ok (.bipush 118, 2) := by decide +kernel
theorem dL_law_179 : decode cL_law 179 = .ok (.goto 16, 3) := by decide +kernel
theorem dL_law_182 : decode cL_law 182 = .ok (.iload 9, 2) := by decide +kernel
theorem dL_law_184 : decode cL_law 184 = .ok (.iconst 3, 1) := by decide +kernel
theorem dL_law_185 : decode cL_law 185 = .ok (.if_icmp .ne 8, 3) := by decide +kernel
theorem dL_law_188 : decode cL_law 188 = .ok (.bipush 114, 2) := by decide +kernel
theorem dL_law_190 : decode cL_law 190 = .ok (.goto 5, 3) := by decide +kernel
theorem dL_law_193 : decode cL_law 193 = .ok (.bipush 107, 2) := by decide +kernel
theorem dL_law_195 : decode cL_law 195 = .ok (.castore, 1) := by decide +kernel
theorem dL_law_196 : decode cL_law 196 = .ok (.aload 4, 2) := by decide +kernel
theorem dL_law_198 : decode cL_law 198 = .ok (.iload 8, 2) := by decide +kernel
theorem dL_law_200 : decode cL_law 200 = .ok (.iload 9, 2) := by decide +kernel
theorem dL_law_202 : decode cL_law 202 = .ok (.iconst 2, 1) := by decide +kernel
theorem dL_law_203 : decode cL_law 203 = .ok (.if_icmp .ge 19, 3) := by decide +kernel
theorem dL_law_206 : decode cL_law 206 = .ok (.bipush 6, 2) := by decide +kernel
theorem dL_law_208 : decode cL_law 208 = .ok (.aload_n 0, 1) := by decide +kernel
theorem dL_law_209 : decode cL_law 209 = .ok (.iconst 2, 1) := by decide +kernel
theorem dL_law_210 : decode cL_law 210 = .ok (.iload 8, 2) := by decide +kernel
theorem dL_law_212 : decode cL_law 212 = .ok (.iadd, 1) := by decide +kernel
theorem dL_law_213 : decode cL_law 213 = .ok (.bipush 25, 2) := by decide +kernel
theorem dL_law_215 : decode cL_law 215 = .ok (.invokestatic 86, 3) := by decide +kernel
theorem dL_law_218 : decode cL_law 218 = .ok (.iadd, 1) := by decide +kernel
theorem dL_law_219 : decode cL_law 219 = .ok (.goto 46, 3) := by decide +kernel
theorem dL_law_222 : decode cL_law 222 = .ok (.iload 9, 2) := by decide +kernel
theorem dL_law_224 : decode cL_law 224 = .ok (.iconst 2, 1) := by decide +kernel
theorem dL_law_225 : decode cL_law 225 = .ok (.if_icmp .ne 18, 3) := by decide +kernel
theorem dL_law_228 : decode cL_law 228 = .ok (.iconst 3, 1) := by decide +kernel
theorem dL_law_229 : decode cL_law 229 = .ok (.aload_n 0, 1) := by decide +kernel
theorem dL_law_230 : decode cL_law 230 = .ok (.iconst 2, 1) := by decide +kernel
theorem dL_law_231 : decode cL_law 231 = .ok (.iload 8, 2) := by decide +kernel
theorem dL_law_233 : decode cL_law 233 = .ok (.iadd, 1) := by decide +kernel
theorem dL_law_234 : decode cL_law 234 = .ok (.bipush 10, 2) := by decide +kernel
theorem dL_law_236 : decode cL_law 236 = .ok (.invokestatic 86, 3) := by decide +kernel
theorem dL_law_239 : decode cL_law 239 = .ok (.iadd, 1) := by decide +kernel
theorem dL_law_240 : decode cL_law 240 = .ok (.goto 25, 3) := by decide +kernel
theorem dL_law_243 : decode cL_law 243 = .ok (.iload 9, 2) := by decide +kernel
theorem dL_law_245 : decode cL_law 245 = .ok (.iconst 3, 1) := by decide +kernel
theorem dL_law_246 : decode cL_law 246 = .ok (.if_icmp .ne 18, 3) := by decide +kernel
theorem dL_law_249 : decode cL_law 249 = .ok (.iconst 3, 1) := by decide +kernel
theorem dL_law_250 : decode cL_law 250 = .ok (.aload_n 0, 1) := by decide +kernel
theorem dL_law_251 : decode cL_law 251 = .ok (.iconst 2, 1) := by decide +kernel
theorem dL_law_252 : decode cL_law 252 = .ok (.iload 8, 2) := by decide +kernel
theorem dL_law_254 : decode cL_law 254 = .ok (.iadd, 1) := by decide +kernel
theorem dL_law_255 : decode cL_law 255 = .ok (.bipush 22, 2) := by decide +kernel
theorem dL_law_257 : decode cL_law 257 = .ok (.invokestatic 86, 3) := by decide +kernel
theorem dL_law_260 : decode cL_law 260 = .ok (.iadd, 1) := by decide +kernel
theorem dL_law_261 : decode cL_law 261 = .ok (.goto 4, 3) := by decide +kernel
theorem dL_law_264 : decode cL_law 264 = .ok (.iconst 0, 1) := by decide +kernel
theorem dL_law_265 : decode cL_law 265 = .ok (.iastore, 1) := by decide +kernel
theorem dL_law_266 : decode cL_law 266 = .ok (.aload 5, 2) := by decide +kernel
theorem dL_law_268 : decode cL_law 268 = .ok (.iload 8, 2) := by decide +kernel
theorem dL_law_270 : decode cL_law 270 = .ok (.iload 9, 2) := by decide +kernel
theorem dL_law_272 : decode cL_law 272 = .ok (.iconst 2, 1) := by decide +kernel
theorem dL_law_273 : decode cL_law 273 = .ok (.if_icmp .ge 19, 3) := by decide +kernel
theorem dL_law_276 : decode cL_law 276 = .ok (.bipush 6, 2) := by decide +kernel
theorem dL_law_278 : decode cL_law 278 = .ok (.aload_n 0, 1) := by decide +kernel
theorem dL_law_279 : decode cL_law 279 = .ok (.iconst 4, 1) := by decide +kernel
theorem dL_law_280 : decode cL_law 280 = .ok (.iload 8, 2) := by decide +kernel
theorem dL_law_282 : decode cL_law 282 = .ok (.iadd, 1) := by decide +kernel
theorem dL_law_283 : decode cL_law 283 = .ok (.bipush 25, 2) := by decide +kernel
theorem dL_law_285 : decode cL_law 285 = .ok (.invokestatic 86, 3) := by decide +kernel
theorem dL_law_288 : decode cL_law 288 = .ok (.iadd, 1) := by decide +kernel
theorem dL_law_289 : decode cL_law 289 = .ok (.goto 4, 3) := by decide +kernel
theorem dL_law_292 : decode cL_law 292 = .ok (.iconst 0, 1) := by decide +kernel
theorem dL_law_293 : decode cL_law 293 = .ok (.iastore, 1) := by decide +kernel
theorem dL_law_294 : decode cL_law 294 = .ok (.iload_n 2, 1) := by decide +kernel
theorem dL_law_295 : decode cL_law 295 = .ok (.aload_n 1, 1) := by decide +kernel
theorem dL_law_296 : decode cL_law 296 = .ok (.aload_n 3, 1) := by decide +kernel
theorem dL_law_297 : decode cL_law 297 = .ok (.iload 8, 2) := by decide +kernel
theorem dL_law_299 : decode cL_law 299 = .ok (.caload, 1) := by decide +kernel
theorem dL_law_300 : decode cL_law 300 = .ok (.aload 6, 2) := by decide +kernel
theorem dL_law_302 : decode cL_law 302 = .ok (.iload 8, 2) := by decide +kernel
theorem dL_law_304 : decode cL_law 304 = .ok (.iaload, 1) := by decide +kernel
theorem dL_law_305 : decode cL_law 305 = .ok (.aload 6, 2) := by decide +kernel
theorem dL_law_307 : decode cL_law 307 = .ok (.iload 8, 2) := by decide +kernel
theorem dL_law_309 : decode cL_law 309 = .ok (.iaload, 1) := by decide +kernel
theorem dL_law_310 : decode cL_law 310 = .ok (.aload 4, 2) := by decide +kernel
theorem dL_law_312 : decode cL_law 312 = .ok (.iload 8, 2) := by decide +kernel
theorem dL_law_314 : decode cL_law 314 = .ok (.iaload, 1) := by decide +kernel
theorem dL_law_315 : decode cL_law 315 = .ok (.aload 5, 2) := by decide +kernel
theorem dL_law_317 : decode cL_law 317 = .ok (.iload 8, 2) := by decide +kernel
theorem dL_law_319 : decode cL_law 319 = .ok (.iaload, 1) := by decide +kernel
theorem dL_law_320 : decode cL_law 320 = .ok (.invokestatic 90, 3) := by decide +kernel
theorem dL_law_323 : decode cL_law 323 = .ok (.ldc 29, 2) := by decide +kernel
theorem dL_law_325 : decode cL_law 325 = .ok (.if_icmp .ne 69, 3) := by decide +kernel
theorem dL_law_328 : decode cL_law 328 = .ok (.aload_n 1, 1) := by decide +kernel
theorem dL_law_329 : decode cL_law 329 = .ok (.aload_n 3, 1) := by decide +kernel
theorem dL_law_330 : decode cL_law 330 = .ok (.iload 8, 2) := by decide +kernel
theorem dL_law_332 : decode cL_law 332 = .ok (.caload, 1) := by decide +kernel
theorem dL_law_333 : decode cL_law 333 = .ok (.aload 6, 2) := by decide +kernel
theorem dL_law_335 : decode cL_law 335 = .ok (.iload 8, 2) := by decide +kernel
theorem dL_law_337 : decode cL_law 337 = .ok (.iaload, 1) := by decide +kernel
theorem dL_law_338 : decode cL_law 338 = .ok (.aload 7, 2) := by decide +kernel
theorem dL_law_340 : decode cL_law 340 = .ok (.iload 8, 2) := by decide +kernel
theorem dL_law_342 : decode cL_law 342 = .ok (.iaload, 1) := by decide +kernel
theorem dL_law_343 : decode cL_law 343 = .ok (.aload 4, 2) := by decide +kernel
theorem dL_law_345 : decode cL_law 345 = .ok (.iload 8, 2) := by decide +kernel
theorem dL_law_347 : decode cL_law 347 = .ok (.iaload, 1) := by decide +kernel
theorem dL_law_348 : decode cL_law 348 = .ok (.aload 5, 2) := by decide +kernel
theorem dL_law_350 : decode cL_law 350 = .ok (.iload 8, 2) := by decide +kernel
theorem dL_law_352 : decode cL_law 352 = .ok (.iaload, 1) := by decide +kernel
theorem dL_law_353 : decode cL_law 353 = .ok (.invokestatic 90, 3) := by decide +kernel
theorem dL_law_356 : decode cL_law 356 = .ok (.iload 8, 2) := by decide +kernel
theorem dL_law_358 : decode cL_law 358 = .ok (.if_icmp .ne 36, 3) := by decide +kernel
theorem dL_law_361 : decode cL_law 361 = .ok (.aload_n 1, 1) := by decide +kernel
theorem dL_law_362 : decode cL_law 362 = .ok (.aload_n 3, 1) := by decide +kernel
theorem dL_law_363 : decode cL_law 363 = .ok (.iload 8, 2) := by decide +kernel
theorem dL_law_365 : decode cL_law 365 = .ok (.caload, 1) := by decide +kernel
theorem dL_law_366 : decode cL_law 366 = .ok (.iconst 3, 1) := by decide +kernel
theorem dL_law_367 : decode cL_law 367 = .ok (.aload 7, 2) := by decide +kernel
theorem dL_law_369 : decode cL_law 369 = .ok (.iload 8, 2) := by decide +kernel
theorem dL_law_371 : decode cL_law 371 = .ok (.iaload, 1) := by decide +kernel
theorem dL_law_372 : decode cL_law 372 = .ok (.aload 4, 2) := by decide +kernel
theorem dL_law_374 : decode cL_law 374 = .ok (.iload 8, 2) := by decide +kernel
theorem dL_law_376 : decode cL_law 376 = .ok (.iaload, 1) := by decide +kernel
theorem dL_law_377 : decode cL_law 377 = .ok (.aload 5, 2) := by decide +kernel
theorem dL_law_379 : decode cL_law 379 = .ok (.iload 8, 2) := by decide +kernel
theorem dL_law_381 : decode cL_law 381 = .ok (.iaload, 1) := by decide +kernel
theorem dL_law_382 : decode cL_law 382 = .ok (.invokestatic 90, 3) := by decide +kernel
theorem dL_law_385 : decode cL_law 385 = .ok (.ldc 29, 2) := by decide +kernel
theorem dL_law_387 : decode cL_law 387 = .ok (.if_icmp .ne 7, 3) := by decide +kernel
theorem dL_law_390 : decode cL_law 390 = .ok (.iconst 1, 1) := by decide +kernel
theorem dL_law_391 : decode cL_law 391 = .ok (.goto 4, 3) := by decide +kernel
theorem dL_law_394 : decode cL_law 394 = .ok (.iconst 0, 1) := by decide +kernel
theorem dL_law_395 : decode cL_law 395 = .ok (.iand, 1) := by decide +kernel
theorem dL_law_396 : decode cL_law 396 = .ok (.istore_n 2, 1) := by decide +kernel
theorem dL_law_397 : decode cL_law 397 = .ok (.iinc 8 1, 3) := by decide +kernel
theorem dL_law_400 : decode cL_law 400 = .ok (.goto (-268), 3) := by decide +kernel
theorem dL_law_403 : decode cL_law 403 = .ok (.aload 4, 2) := by decide +kernel
theorem dL_law_405 : decode cL_law 405 = .ok (.iconst 2, 1) := by decide +kernel
theorem dL_law_406 : decode cL_law 406 = .ok (.bipush 6, 2) := by decide +kernel
theorem dL_law_408 : decode cL_law 408 = .ok (.aload_n 0, 1) := by decide +kernel
theorem dL_law_409 : decode cL_law 409 = .ok (.bipush 6, 2) := by decide +kernel
theorem dL_law_411 : decode cL_law 411 = .ok (.bipush 25, 2) := by decide +kernel
theorem dL_law_413 : decode cL_law 413 = .ok (.invokestatic 86, 3) := by decide +kernel
theorem dL_law_416 : decode cL_law 416 = .ok (.iadd, 1) := by decide +kernel
theorem dL_law_417 : decode cL_law 417 = .ok (.iastore, 1) := by decide +kernel
theorem dL_law_418 : decode cL_law 418 = .ok (.aload 5, 2) := by decide +kernel
theorem dL_law_420 : decode cL_law 420 = .ok (.iconst 2, 1) := by decide +kernel
theorem dL_law_421 : decode cL_law 421 = .ok (.bipush 6, 2) := by decide +kernel
theorem dL_law_423 : decode cL_law 423 = .ok (.aload_n 0, 1) := by decide +kernel
theorem dL_law_424 : decode cL_law 424 = .ok (.bipush 7, 2) := by decide +kernel
theorem dL_law_426 : decode cL_law 426 = .ok (.bipush 25, 2) := by decide +kernel
theorem dL_law_428 : decode cL_law 428 = .ok (.invokestatic 86, 3) := by decide +kernel
theorem dL_law_431 : decode cL_law 431 = .ok (.iadd, 1) := by decide +kernel
theorem dL_law_432 : decode cL_law 432 = .ok (.iastore, 1) := by decide +kernel
theorem dL_law_433 : decode cL_law 433 = .ok (.iload_n 2, 1) := by decide +kernel
theorem dL_law_434 : decode cL_law 434 = .ok (.aload_n 1, 1) := by decide +kernel
theorem dL_law_435 : decode cL_law 435 = .ok (.bipush 103, 2) := by decide +kernel
theorem dL_law_437 : decode cL_law 437 = .ok (.iconst 0, 1) := by decide +kernel
theorem dL_law_438 : decode cL_law 438 = .ok (.iconst 4, 1) := by decide +kernel
theorem dL_law_439 : decode cL_law 439 = .ok (.iconst 5, 1) := by decide +kernel
theorem dL_law_440 : decode cL_law 440 = .ok (.bipush 6, 2) := by decide +kernel
theorem dL_law_442 : decode cL_law 442 = .ok (.invokestatic 90, 3) := by decide +kernel
theorem dL_law_445 : decode cL_law 445 = .ok (.ldc 26, 2) := by decide +kernel
theorem dL_law_447 : decode cL_law 447 = .ok (.if_icmp .ne 102, 3) := by decide +kernel
theorem dL_law_450 : decode cL_law 450 = .ok (.aload_n 1, 1) := by decide +kernel
theorem dL_law_451 : decode cL_law 451 = .ok (.bipush 118, 2) := by decide +kernel
theorem dL_law_453 : decode cL_law 453 = .ok (.iconst 0, 1) := by decide +kernel
theorem dL_law_454 : decode cL_law 454 = .ok (.iconst 4, 1) := by decide +kernel
theorem dL_law_455 : decode cL_law 455 = .ok (.iconst 3, 1) := by decide +kernel
theorem dL_law_456 : decode cL_law 456 = .ok (.iconst 1, 1) := by decide +kernel
theorem dL_law_457 : decode cL_law 457 = .ok (.invokestatic 90, 3) := by decide +kernel
theorem dL_law_460 : decode cL_law 460 = .ok (.ldc 26, 2) := by decide +kernel
theorem dL_law_462 : decode cL_law 462 = .ok (.if_icmp .ne 87, 3) := by decide +kernel
theorem dL_law_465 : decode cL_law 465 = .ok (.aload_n 1, 1) := by decide +kernel
theorem dL_law_466 : decode cL_law 466 = .ok (.bipush 120, 2) := by decide +kernel
theorem dL_law_468 : decode cL_law 468 = .ok (.iconst 0, 1) := by decide +kernel
theorem dL_law_469 : decode cL_law 469 = .ok (.iconst 4, 1) := by decide +kernel
theorem dL_law_470 : decode cL_law 470 = .ok (.iconst 0, 1) := by decide +kernel
theorem dL_law_471 : decode cL_law 471 = .ok (.iconst 0, 1) := by decide +kernel
theorem dL_law_472 : decode cL_law 472 = .ok (.invokestatic 90, 3) := by decide +kernel
theorem dL_law_475 : decode cL_law 475 = .ok (.ldc 26, 2) := by decide +kernel
theorem dL_law_477 : decode cL_law 477 = .ok (.if_icmp .ne 72, 3) := by decide +kernel
theorem dL_law_480 : decode cL_law 480 = .ok (.aload_n 1, 1) := by decide +kernel
theorem dL_law_481 : decode cL_law 481 = .ok (.bipush 107, 2) := by decide +kernel
theorem dL_law_483 : decode cL_law 483 = .ok (.iconst 2, 1) := by decide +kernel
theorem dL_law_484 : decode cL_law 484 = .ok (.iconst 0, 1) := by decide +kernel
theorem dL_law_485 : decode cL_law 485 = .ok (.iconst 0, 1) := by decide +kernel
theorem dL_law_486 : decode cL_law 486 = .ok (.iconst 0, 1) := by decide +kernel
theorem dL_law_487 : decode cL_law 487 = .ok (.invokestatic 90, 3) := by decide +kernel
theorem dL_law_490 : decode cL_law 490 = .ok (.ldc 29, 2) := by decide +kernel
theorem dL_law_492 : decode cL_law 492 = .ok (.if_icmp .ne 57, 3) := by decide +kernel
theorem dL_law_495 : decode cL_law 495 = .ok (.aload_n 1, 1) := by decide +kernel
theorem dL_law_496 : decode cL_law 496 = .ok (.bipush 107, 2) := by decide +kernel
theorem dL_law_498 : decode cL_law 498 = .ok (.iconst 5, 1) := by decide +kernel
theorem dL_law_499 : decode cL_law 499 = .ok (.iconst 0, 1) := by decide +kernel
theorem dL_law_500 : decode cL_law 500 = .ok (.iconst 0, 1) := by decide +kernel
theorem dL_law_501 : decode cL_law 501 = .ok (.iconst 0, 1) := by decide +kernel
theorem dL_law_502 : decode cL_law 502 = .ok (.invokestatic 90, 3) := by decide +kernel
theorem dL_law_505 : decode cL_law 505 = .ok (.ldc 17, 2) := by decide +kernel
theorem dL_law_507 : decode cL_law 507 = .ok (.if_icmp .ne 42, 3) := by decide +kernel
theorem dL_law_510 : decode cL_law 510 = .ok (.aload_n 1, 1) := by decide +kernel
theorem dL_law_511 : decode cL_law 511 = .ok (.iconst 1, 1) := by decide +kernel
theorem dL_law_512 : decode cL_law 512 = .ok (.iconst 1, 1) := by decide +kernel
theorem dL_law_513 : decode cL_law 513 = .ok (.iconst 4, 1) := by decide +kernel
theorem dL_law_514 : decode cL_law 514 = .ok (.bipush 6, 2) := by decide +kernel
theorem dL_law_516 : decode cL_law 516 = .ok (.bipush 6, 2) := by decide +kernel
theorem dL_law_518 : decode cL_law 518 = .ok (.invokestatic 93, 3) := by decide +kernel
theorem dL_law_521 : decode cL_law 521 = .ok (.ldc 29, 2) := by decide +kernel
theorem dL_law_523 : decode cL_law 523 = .ok (.if_icmp .ne 26, 3) := by decide +kernel
theorem dL_law_526 : decode cL_law 526 = .ok (.aload_n 1, 1) := by decide +kernel
theorem dL_law_527 : decode cL_law 527 = .ok (.iconst 1, 1) := by decide +kernel
theorem dL_law_528 : decode cL_law 528 = .ok (.iconst 3, 1) := by decide +kernel
theorem dL_law_529 : decode cL_law 529 = .ok (.iconst 4, 1) := by decide +kernel
theorem dL_law_530 : decode cL_law 530 = .ok (.aload 4, 2) := by decide +kernel
theorem dL_law_532 : decode cL_law 532 = .ok (.iconst 2, 1) := by decide +kernel
theorem dL_law_533 : decode cL_law 533 = .ok (.iaload, 1) := by decide +kernel
theorem dL_law_534 : decode cL_law 534 = .ok (.aload 5, 2) := by decide +kernel
theorem dL_law_536 : decode cL_law 536 = .ok (.iconst 2, 1) := by decide +kernel
theorem dL_law_537 : decode cL_law 537 = .ok (.iaload, 1) := by decide +kernel
theorem dL_law_538 : decode cL_law 538 = .ok (.invokestatic 93, 3) := by decide +kernel
theorem dL_law_541 : decode cL_law 541 = .ok (.iconst 2, 1) := by decide +kernel
theorem dL_law_542 : decode cL_law 542 = .ok (.if_icmp .ne 7, 3) := by decide +kernel
theorem dL_law_545 : decode cL_law 545 = .ok (.iconst 1, 1) := by decide +kernel
theorem dL_law_546 : decode cL_law 546 = .ok (.goto 4, 3) := by decide +kernel
theorem dL_law_549 : decode cL_law 549 = .ok (.iconst 0, 1) := by decide +kernel
theorem dL_law_550 : decode cL_law 550 = .ok (.iand, 1) := by decide +kernel
theorem dL_law_551 : decode cL_law 551 = .ok (.istore_n 2, 1) := by decide +kernel
theorem dL_law_552 : decode cL_law 552 = .ok (.iload_n 2, 1) := by decide +kernel
theorem dL_law_553 : decode cL_law 553 = .ok (.aload_n 1, 1) := by decide +kernel
theorem dL_law_554 : decode cL_law 554 = .ok (.invokevirtual 75, 3) := by decide +kernel
theorem dL_law_557 : decode cL_law 557 = .ok (.iconst 2, 1) := by decide +kernel
theorem dL_law_558 : decode cL_law 558 = .ok (.if_icmp .ne 49, 3) := by decide +kernel
theorem dL_law_561 : decode cL_law 561 = .ok (.aload_n 1, 1) := by decide +kernel
theorem dL_law_562 : decode cL_law 562 = .ok (.iconst 4, 1) := by decide +kernel
theorem dL_law_563 : decode cL_law 563 = .ok (.invokestatic 96, 3) := by decide +kernel
theorem dL_law_566 : decode cL_law 566 = .ok (.iconst 2, 1) := by decide +kernel
theorem dL_law_567 : decode cL_law 567 = .ok (.if_icmp .ne 40, 3) := by decide +kernel
theorem dL_law_570 : decode cL_law 570 = .ok (.aload_n 1, 1) := by decide +kernel
theorem dL_law_571 : decode cL_law 571 = .ok (.iconst 3, 1) := by decide +kernel
theorem dL_law_572 : decode cL_law 572 = .ok (.invokestatic 96, 3) := by decide +kernel
theorem dL_law_575 : decode cL_law 575 = .ok (.ldc 26, 2) := by decide +kernel
theorem dL_law_577 : decode cL_law 577 = .ok (.if_icmp .ne 30, 3) := by decide +kernel
theorem dL_law_580 : decode cL_law 580 = .ok (.aload_n 1, 1) := by decide +kernel
theorem dL_law_581 : decode cL_law 581 = .ok (.iconst 1, 1) := by decide +kernel
theorem dL_law_582 : decode cL_law 582 = .ok (.iconst 1, 1) := by decide +kernel
theorem dL_law_583 : decode cL_law 583 = .ok (.invokestatic 72, 3) := by decide +kernel
theorem dL_law_586 : decode cL_law 586 = .ok (.ldc 29, 2) := by decide +kernel
theorem dL_law_588 : decode cL_law 588 = .ok (.if_icmp .ne 19, 3) := by decide +kernel
theorem dL_law_591 : decode cL_law 591 = .ok (.aload_n 1, 1) := by decide +kernel
theorem dL_law_592 : decode cL_law 592 = .ok (.iconst 0, 1) := by decide +kernel
theorem dL_law_593 : decode cL_law 593 = .ok (.bipush 49, 2) := by decide +kernel
theorem dL_law_595 : decode cL_law 595 = .ok (.invokestatic 72, 3) := by decide +kernel
theorem dL_law_598 : decode cL_law 598 = .ok (.ldc 26, 2) := by decide +kernel
theorem dL_law_600 : decode cL_law 600 = .ok (.if_icmp .ne 7, 3) := by decide +kernel
theorem dL_law_603 : decode cL_law 603 = .ok (.iconst 1, 1) := by decide +kernel
theorem dL_law_604 : decode cL_law 604 = .ok (.goto 4, 3) := by decide +kernel
theorem dL_law_607 : decode cL_law 607 = .ok (.iconst 0, 1) := by decide +kernel
theorem dL_law_608 : decode cL_law 608 = .ok (.iand, 1) := by decide +kernel
theorem dL_law_609 : decode cL_law 609 = .ok (.istore_n 2, 1) := by decide +kernel
theorem dL_law_610 : decode cL_law 610 = .ok (.iconst 5, 1) := by decide +kernel
theorem dL_law_611 : decode cL_law 611 = .ok (.newarray .long, 2) := by decide +kernel
theorem dL_law_613 : decode cL_law 613 = .ok (.astore 8, 2) := by decide +kernel
theorem dL_law_615 : decode cL_law 615 = .ok (.iconst 5, 1) := by decide +kernel
theorem dL_law_616 : decode cL_law 616 = .ok (.newarray .long, 2) := by decide +kernel
theorem dL_law_618 : decode cL_law 618 = .ok (.dup, 1) := by decide +kernel
theorem dL_law_619 : decode cL_law 619 = .ok (.iconst 0, 1) := by decide +kernel
theorem dL_law_620 : decode cL_law 620 = .ok (.lconst 1, 1) := by decide +kernel
theorem dL_law_621 : decode cL_law 621 = .ok (.lastore, 1) := by decide +kernel
theorem dL_law_622 : decode cL_law 622 = .ok (.dup, 1) := by decide +kernel
theorem dL_law_623 : decode cL_law 623 = .ok (.iconst 1, 1) := by decide +kernel
theorem dL_law_624 : decode cL_law 624 = .ok (.lconst 1, 1) := by decide +kernel
theorem dL_law_625 : decode cL_law 625 = .ok (.lastore, 1) := by decide +kernel
theorem dL_law_626 : decode cL_law 626 = .ok (.dup, 1) := by decide +kernel
theorem dL_law_627 : decode cL_law 627 = .ok (.iconst 2, 1) := by decide +kernel
theorem dL_law_628 : decode cL_law 628 = .ok (.lconst 1, 1) := by decide +kernel
theorem dL_law_629 : decode cL_law 629 = .ok (.lastore, 1) := by decide +kernel
theorem dL_law_630 : decode cL_law 630 = .ok (.dup, 1) := by decide +kernel
theorem dL_law_631 : decode cL_law 631 = .ok (.iconst 3, 1) := by decide +kernel
theorem dL_law_632 : decode cL_law 632 = .ok (.lconst 1, 1) := by decide +kernel
theorem dL_law_633 : decode cL_law 633 = .ok (.lastore, 1) := by decide +kernel
theorem dL_law_634 : decode cL_law 634 = .ok (.dup, 1) := by decide +kernel
theorem dL_law_635 : decode cL_law 635 = .ok (.iconst 4, 1) := by decide +kernel
theorem dL_law_636 : decode cL_law 636 = .ok (.lconst 1, 1) := by decide +kernel
theorem dL_law_637 : decode cL_law 637 = .ok (.lastore, 1) := by decide +kernel
theorem dL_law_638 : decode cL_law 638 = .ok (.astore 9, 2) := by decide +kernel
theorem dL_law_640 : decode cL_law 640 = .ok (.iconst 3, 1) := by decide +kernel
theorem dL_law_641 : decode cL_law 641 = .ok (.newarray .long, 2) := by decide +kernel
theorem dL_law_643 : decode cL_law 643 = .ok (.astore 10, 2) := by decide +kernel
theorem dL_law_645 : decode cL_law 645 = .ok (.iconst 3, 1) := by decide +kernel
theorem dL_law_646 : decode cL_law 646 = .ok (.newarray .long, 2) := by decide +kernel
theorem dL_law_648 : decode cL_law 648 = .ok (.dup, 1) := by decide +kernel
theorem dL_law_649 : decode cL_law 649 = .ok (.iconst 0, 1) := by decide +kernel
theorem dL_law_650 : decode cL_law 650 = .ok (.lconst 1, 1) := by decide +kernel
theorem dL_law_651 : decode cL_law 651 = .ok (.lastore, 1) := by decide +kernel
theorem dL_law_652 : decode cL_law 652 = .ok (.dup, 1) := by decide +kernel
theorem dL_law_653 : decode cL_law 653 = .ok (.iconst 1, 1) := by decide +kernel
theorem dL_law_654 : decode cL_law 654 = .ok (.lconst 1, 1) := by decide +kernel
theorem dL_law_655 : decode cL_law 655 = .ok (.lastore, 1) := by decide +kernel
theorem dL_law_656 : decode cL_law 656 = .ok (.dup, 1) := by decide +kernel
theorem dL_law_657 : decode cL_law 657 = .ok (.iconst 2, 1) := by decide +kernel
theorem dL_law_658 : decode cL_law 658 = .ok (.lconst 1, 1) := by decide +kernel
theorem dL_law_659 : decode cL_law 659 = .ok (.lastore, 1) := by decide +kernel
theorem dL_law_660 : decode cL_law 660 = .ok (.astore 11, 2) := by decide +kernel
theorem dL_law_662 : decode cL_law 662 = .ok (.iconst 2, 1) := by decide +kernel
theorem dL_law_663 : decode cL_law 663 = .ok (.newarray .long, 2) := by decide +kernel
theorem dL_law_665 : decode cL_law 665 = .ok (.astore 12, 2) := by decide +kernel
theorem dL_law_667 : decode cL_law 667 = .ok (.iconst 0, 1) := by decide +kernel
theorem dL_law_668 : decode cL_law 668 = .ok (.istore 13, 2) := by decide +kernel
theorem dL_law_670 : decode cL_law 670 = .ok (.iload 13, 2) := by decide +kernel
theorem dL_law_672 : decode cL_law 672 = .ok (.iconst 5, 1) := by decide +kernel
theorem dL_law_673 : decode cL_law 673 = .ok (.if_icmp .ge 949, 3) := by decide +kernel
theorem dL_law_676 : decode cL_law 676 = .ok (.aload_n 0, 1) := by decide +kernel
theorem dL_law_677 : decode cL_law 677 = .ok (.bipush 10, 2) := by decide +kernel
theorem dL_law_679 : decode cL_law 679 = .ok (.iload 13, 2) := by decide +kernel
theorem dL_law_681 : decode cL_law 681 = .ok (.iadd, 1) := by decide +kernel
theorem dL_law_682 : decode cL_law 682 = .ok (.iconst 2, 1) := by decide +kernel
theorem dL_law_683 : decode cL_law 683 = .ok (.invokestatic 86, 3) := by decide +kernel
theorem dL_law_686 : decode cL_law 686 = .ok (.ifCond .ne 7, 3) := by decide +kernel
theorem dL_law_689 : decode cL_law 689 = .ok (.iconst 0, 1) := by decide +kernel
theorem dL_law_690 : decode cL_law 690 = .ok (.goto 4, 3) := by decide +kernel
theorem dL_law_693 : decode cL_law 693 = .ok (.iconst 3, 1) := by decide +kernel
theorem dL_law_694 : decode cL_law 694 = .ok (.istore 14, 2) := by decide +kernel
theorem dL_law_696 : decode cL_law 696 = .ok (.aload_n 0, 1) := by decide +kernel
theorem dL_law_697 : decode cL_law 697 = .ok (.bipush 20, 2) := by decide +kernel
theorem dL_law_699 : decode cL_law 699 = .ok (.iload 13, 2) := by decide +kernel
theorem dL_law_701 : decode cL_law 701 = .ok (.iadd, 1) := by decide +kernel
theorem dL_law_702 : decode cL_law 702 = .ok (.bipush 97, 2) := by decide +kernel
theorem dL_law_704 : decode cL_law 704 = .ok (.invokestatic 86, 3) := by decide +kernel
theorem dL_law_707 : decode cL_law 707 = .ok (.bipush 48, 2) := by decide +kernel
theorem dL_law_709 : decode cL_law 709 = .ok (.isub, 1) := by decide +kernel
theorem dL_law_710 : decode cL_law 710 = .ok (.istore 15, 2) := by decide +kernel
theorem dL_law_712 : decode cL_law 712 = .ok (.iload 15, 2) := by decide +kernel
theorem dL_law_714 : decode cL_law 714 = .ok (.ifCond .ge 7, 3) := by decide +kernel
theorem dL_law_717 : decode cL_law 717 = .ok (.iconst (-1), 1) := by decide +kernel
theorem dL_law_718 : decode cL_law 718 = .ok (.goto 4, 3) := by decide +kernel
theorem dL_law_721 : decode cL_law 721 = .ok (.iconst 1, 1) := by decide +kernel
theorem dL_law_722 : decode cL_law 722 = .ok (.istore 16, 2) := by decide +kernel
theorem dL_law_724 : decode cL_law 724 = .ok (.aload 8, 2) := by decide +kernel
theorem dL_law_726 : decode cL_law 726 = .ok (.invokevirtual 99, 3) := by decide +kernel
theorem dL_law_729 : decode cL_law 729 = .ok (.checkcast 100, 3) := by decide +kernel
theorem dL_law_732 : decode cL_law 732 = .ok (.astore 17, 2) := by decide +kernel
theorem dL_law_734 : decode cL_law 734 = .ok (.aload 9, 2) := by decide +kernel
theorem dL_law_736 : decode cL_law 736 = .ok (.invokevirtual 99, 3) := by decide +kernel
theorem dL_law_739 : decode cL_law 739 = .ok (.checkcast 100, 3) := by decide +kernel
theorem dL_law_742 : decode cL_law 742 = .ok (.astore 18, 2) := by decide +kernel
theorem dL_law_744 : decode cL_law 744 = .ok (.iconst 0, 1) := by decide +kernel
theorem dL_law_745 : decode cL_law 745 = .ok (.istore 19, 2) := by decide +kernel
theorem dL_law_747 : decode cL_law 747 = .ok (.iload 19, 2) := by decide +kernel
theorem dL_law_749 : decode cL_law 749 = .ok (.iload 15, 2) := by decide +kernel
theorem dL_law_751 : decode cL_law 751 = .ok (.iload 16, 2) := by decide +kernel
theorem dL_law_753 : decode cL_law 753 = .ok (.imul, 1) := by decide +kernel
theorem dL_law_754 : decode cL_law 754 = .ok (.if_icmp .ge 670, 3) := by decide +kernel
theorem dL_law_757 : decode cL_law 757 = .ok (.iconst 5, 1) := by decide +kernel
theorem dL_law_758 : decode cL_law 758 = .ok (.newarray .long, 2) := by decide +kernel
theorem dL_law_760 : decode cL_law 760 = .ok (.astore 20, 2) := by decide +kernel
theorem dL_law_762 : decode cL_law 762 = .ok (.iconst 5, 1) := by decide +kernel
theorem dL_law_763 : decode cL_law 763 = .ok (.newarray .long, 2) := by decide +kernel
theorem dL_law_765 : decode cL_law 765 = .ok (.dup, 1) := by decide +kernel
theorem dL_law_766 : decode cL_law 766 = .ok (.iconst 0, 1) := by decide +kernel
theorem dL_law_767 : decode cL_law 767 = .ok (.lconst 1, 1) := by decide +kernel
theorem dL_law_768 : decode cL_law 768 = .ok (.lastore, 1) := by decide +kernel
theorem dL_law_769 : decode cL_law 769 = .ok (.dup, 1) := by decide +kernel
theorem dL_law_770 : decode cL_law 770 = .ok (.iconst 1, 1) := by decide +kernel
theorem dL_law_771 : decode cL_law 771 = .ok (.lconst 1, 1) := by decide +kernel
theorem dL_law_772 : decode cL_law 772 = .ok (.lastore, 1) := by decide +kernel
theorem dL_law_773 : decode cL_law 773 = .ok (.dup, 1) := by decide +kernel
theorem dL_law_774 : decode cL_law 774 = .ok (.iconst 2, 1) := by decide +kernel
theorem dL_law_775 : decode cL_law 775 = .ok (.lconst 1, 1) := by decide +kernel
theorem dL_law_776 : decode cL_law 776 = .ok (.lastore, 1) := by decide +kernel
theorem dL_law_777 : decode cL_law 777 = .ok (.dup, 1) := by decide +kernel
theorem dL_law_778 : decode cL_law 778 = .ok (.iconst 3, 1) := by decide +kernel
theorem dL_law_779 : decode cL_law 779 = .ok (.lconst 1, 1) := by decide +kernel
theorem dL_law_780 : decode cL_law 780 = .ok (.lastore, 1) := by decide +kernel
theorem dL_law_781 : decode cL_law 781 = .ok (.dup, 1) := by decide +kernel
theorem dL_law_782 : decode cL_law 782 = .ok (.iconst 4, 1) := by decide +kernel
theorem dL_law_783 : decode cL_law 783 = .ok (.lconst 1, 1) := by decide +kernel
theorem dL_law_784 : decode cL_law 784 = .ok (.lastore, 1) := by decide +kernel
theorem dL_law_785 : decode cL_law 785 = .ok (.astore 21, 2) := by decide +kernel
theorem dL_law_787 : decode cL_law 787 = .ok (.aload 20, 2) := by decide +kernel
theorem dL_law_789 : decode cL_law 789 = .ok (.iload 14, 2) := by decide +kernel
theorem dL_law_791 : decode cL_law 791 = .ok (.iload 16, 2) := by decide +kernel
theorem dL_law_793 : decode cL_law 793 = .ok (.i2l, 1) := by decide +kernel
theorem dL_law_794 : decode cL_law 794 = .ok (.lastore, 1) := by decide +kernel
theorem dL_law_795 : decode cL_law 795 = .ok (.aload 21, 2) := by decide +kernel
theorem dL_law_797 : decode cL_law 797 = .ok (.iload 14, 2) := by decide +kernel
theorem dL_law_799 : decode cL_law 799 = .ok (.ldc2_w 105, 3) := by decide +kernel
theorem dL_law_802 : decode cL_law 802 = .ok (.lastore, 1) := by decide +kernel
theorem dL_law_803 : decode cL_law 803 = .ok (.iconst 0, 1) := by decide +kernel
theorem dL_law_804 : decode cL_law 804 = .ok (.istore 22, 2) := by decide +kernel
theorem dL_law_806 : decode cL_law 806 = .ok (.iload 22, 2) := by decide +kernel
theorem dL_law_808 : decode cL_law 808 = .ok (.iconst 2, 1) := by decide +kernel
theorem dL_law_809 : decode cL_law 809 = .ok (.if_icmp .ge 302, 3) := by decide +kernel
theorem dL_law_812 : decode cL_law 812 = .ok (.iload 14, 2) := by decide +kernel
theorem dL_law_814 : decode cL_law 814 = .ok (.ifCond .ne 297, 3) := by decide +kernel
theorem dL_law_817 : decode cL_law 817 = .ok (.aload 6, 2) := by decide +kernel
theorem dL_law_819 : decode cL_law 819 = .ok (.iload 22, 2) := by decide +kernel
theorem dL_law_821 : decode cL_law 821 = .ok (.iaload, 1) := by decide +kernel
theorem dL_law_822 : decode cL_law 822 = .ok (.istore 23, 2) := by decide +kernel
theorem dL_law_824 : decode cL_law 824 = .ok (.aload 8, 2) := by decide +kernel
theorem dL_law_826 : decode cL_law 826 = .ok (.iload 23, 2) := by decide +kernel
theorem dL_law_828 : decode cL_law 828 = .ok (.laload, 1) := by decide +kernel
theorem dL_law_829 : decode cL_law 829 = .ok (.aload 21, 2) := by decide +kernel
theorem dL_law_831 : decode cL_law 831 = .ok (.iload 23, 2) := by decide +kernel
theorem dL_law_833 : decode cL_law 833 = .ok (.laload, 1) := by decide +kernel
theorem dL_law_834 : decode cL_law 834 = .ok (.lmul, 1) := by decide +kernel
theorem dL_law_835 : decode cL_law 835 = .ok (.aload 20, 2) := by decide +kernel
theorem dL_law_837 : decode cL_law 837 = .ok (.iload 23, 2) := by decide +kernel
theorem dL_law_839 : decode cL_law 839 = .ok (.laload, 1) := by decide +kernel
theorem dL_law_840 : decode cL_law 840 = .ok (.aload 9, 2) := by decide +kernel
theorem dL_law_842 : decode cL_law 842 = .ok (.iload 23, 2) := by decide +kernel
theorem dL_law_844 : decode cL_law 844 = .ok (.laload, 1) := by decide +kernel
theorem dL_law_845 : decode cL_law 845 = .ok (.lmul, 1) := by decide +kernel
theorem dL_law_846 : decode cL_law 846 = .ok (.ladd, 1) := by decide +kernel
theorem dL_law_847 : decode cL_law 847 = .ok (.lstore 24, 2) := by decide +kernel
theorem dL_law_849 : decode cL_law 849 = .ok (.aload 9, 2) := by decide +kernel
theorem dL_law_851 : decode cL_law 851 = .ok (.iload 23, 2) := by decide +kernel
theorem dL_law_853 : decode cL_law 853 = .ok (.laload, 1) := by decide +kernel
theorem dL_law_854 : decode cL_law 854 = .ok (.aload 21, 2) := by decide +kernel
theorem dL_law_856 : decode cL_law 856 = .ok (.iload 23, 2) := by decide +kernel
theorem dL_law_858 : decode cL_law 858 = .ok (.laload, 1) := by decide +kernel
theorem dL_law_859 : decode cL_law 859 = .ok (.lmul, 1) := by decide +kernel
theorem dL_law_860 : decode cL_law 860 = .ok (.lstore 26, 2) := by decide +kernel
theorem dL_law_862 : decode cL_law 862 = .ok (.aload 4, 2) := by decide +kernel
theorem dL_law_864 : decode cL_law 864 = .ok (.iload 22, 2) := by decide +kernel
theorem dL_law_866 : decode cL_law 866 = .ok (.iaload, 1) := by decide +kernel
theorem dL_law_867 : decode cL_law 867 = .ok (.i2l, 1) := by decide +kernel
theorem dL_law_868 : decode cL_law 868 = .ok (.lstore 28, 2) := by decide +kernel
theorem dL_law_870 : decode cL_law 870 = .ok (.aload_n 3, 1) := by decide +kernel
theorem dL_law_871 : decode cL_law 871 = .ok (.iload 22, 2) := by decide +kernel
theorem dL_law_873 : decode cL_law 873 = .ok (.caload, 1) := by decide +kernel
theorem dL_law_874 : decode cL_law 874 = .ok (.bipush 103, 2) := by decide +kernel
theorem dL_law_876 : decode cL_law 876 = .ok (.if_icmp .ne 15, 3) := by decide +kernel
theorem dL_law_879 : decode cL_law 879 = .ok (.aload 20, 2) := by decide +kernel
theorem dL_law_881 : decode cL_law 881 = .ok (.iload 23, 2) := by decide +kernel
theorem dL_law_883 : decode cL_law 883 = .ok (.laload, 1) := by decide +kernel
theorem dL_law_884 : decode cL_law 884 = .ok (.lneg, 1) := by decide +kernel
theorem dL_law_885 : decode cL_law 885 = .ok (.lload 28, 2) := by decide +kernel
theorem dL_law_887 : decode cL_law 887 = .ok (.lmul, 1) := by decide +kernel
theorem dL_law_888 : decode cL_law 888 = .ok (.goto 28, 3) := by decide +kernel
theorem dL_law_891 : decode cL_law 891 = .ok (.aload_n 3, 1) := by decide +kernel
theorem dL_law_892 : decode cL_law 892 = .ok (.iload 22, 2) := by decide +kernel
theorem dL_law_894 : decode cL_law 894 = .ok (.caload, 1) := by decide +kernel
theorem dL_law_895 : decode cL_law 895 = .ok (.bipush 105, 2) := by decide +kernel
theorem dL_law_897 : decode cL_law 897 = .ok (.if_icmp .ne 14, 3) := by decide +kernel
theorem dL_law_900 : decode cL_law 900 = .ok (.aload 20, 2) := by decide +kernel
theorem dL_law_902 : decode cL_law 902 = .ok (.iload 23, 2) := by decide +kernel
theorem dL_law_904 : decode cL_law 904 = .ok (.laload, 1) := by decide +kernel
theorem dL_law_905 : decode cL_law 905 = .ok (.lload 28, 2) := by decide +kernel
theorem dL_law_907 : decode cL_law 907 = .ok (.lmul, 1) := by decide +kernel
theorem dL_law_908 : decode cL_law 908 = .ok (.goto 8, 3) := by decide +kernel
theorem dL_law_911 : decode cL_law 911 = .ok (.aload 20, 2) := by decide +kernel
theorem dL_law_913 : decode cL_law 913 = .ok (.iload 23, 2) := by decide +kernel
theorem dL_law_915 : decode cL_law 915 = .ok (.laload, 1) := by decide +kernel
theorem dL_law_916 : decode cL_law 916 = .ok (.lstore 30, 2) := by decide +kernel
theorem dL_law_918 : decode cL_law 918 = .ok (.aload_n 3, 1) := by decide +kernel
theorem dL_law_919 : decode cL_law 919 = .ok (.iload 22, 2) := by decide +kernel
theorem dL_law_921 : decode cL_law 921 = .ok (.caload, 1) := by decide +kernel
theorem dL_law_922 : decode cL_law 922 = .ok (.bipush 103, 2) := by decide +kernel
theorem dL_law_924 : decode cL_law 924 = .ok (.if_icmp .eq 12, 3) := by decide +kernel
theorem dL_law_927 : decode cL_law 927 = .ok (.aload_n 3, 1) := by decide +kernel
theorem dL_law_928 : decode cL_law 928 = .ok (.iload 22, 2) := by decide +kernel
theorem dL_law_930 : decode cL_law 930 = .ok (.caload, 1) := by decide +kernel
theorem dL_law_931 : decode cL_law 931 = .ok (.bipush 105, 2) := by decide +kernel
theorem dL_law_933 : decode cL_law 933 = .ok (.if_icmp .ne 18, 3) := by decide +kernel
theorem dL_law_936 : decode cL_law 936 = .ok (.aload 21, 2) := by decide +kernel
theorem dL_law_938 : decode cL_law 938 = .ok (.iload 23, 2) := by decide +kernel
theorem dL_law_940 : decode cL_law 940 = .ok (.laload, 1) := by decide +kernel
theorem dL_law_941 : decode cL_law 941 = .ok (.aload 5, 2) := by decide +kernel
theorem dL_law_943 : decode cL_law 943 = .ok (.iload 22, 2) := by decide +kernel
theorem dL_law_945 : decode cL_law 945 = .ok (.iaload, 1) := by decide +kernel
theorem dL_law_946 : decode cL_law 946 = .ok (.i2l, 1) := by decide +kernel
theorem dL_law_947 : decode cL_law 947 = .ok (.lmul, 1) := by decide +kernel
theorem dL_law_948 : decode cL_law 948 = .ok (.goto 8, 3) := by decide +kernel
theorem dL_law_951 : decode cL_law 951 = .ok (.aload 21, 2) := by decide +kernel
theorem dL_law_953 : decode cL_law 953 = .ok (.iload 23, 2) := by decide +kernel
theorem dL_law_955 : decode cL_law 955 = .ok (.laload, 1) := by decide +kernel
theorem dL_law_956 : decode cL_law 956 = .ok (.lstore 32, 2) := by decide +kernel
theorem dL_law_958 : decode cL_law 958 = .ok (.aload_n 3, 1) := by decide +kernel
theorem dL_law_959 : decode cL_law 959 = .ok (.iload 22, 2) := by decide +kernel
theorem dL_law_961 : decode cL_law 961 = .ok (.caload, 1) := by decide +kernel
theorem dL_law_962 : decode cL_law 962 = .ok (.bipush 118, 2) := by decide +kernel
theorem dL_law_964 : decode cL_law 964 = .ok (.if_icmp .ne 30, 3) := by decide +kernel
theorem dL_law_967 : decode cL_law 967 = .ok (.lload 24, 2) := by decide +kernel
theorem dL_law_969 : decode cL_law 969 = .ok (.lload 26, 2) := by decide +kernel
theorem dL_law_971 : decode cL_law 971 = .ok (.invokestatic 107, 3) := by decide +kernel
theorem dL_law_974 : decode cL_law 974 = .ok (.aload 8, 2) := by decide +kernel
theorem dL_law_976 : decode cL_law 976 = .ok (.iload 23, 2) := by decide +kernel
theorem dL_law_978 : decode cL_law 978 = .ok (.laload, 1) := by decide +kernel
theorem dL_law_979 : decode cL_law 979 = .ok (.aload 9, 2) := by decide +kernel
theorem dL_law_981 : decode cL_law 981 = .ok (.iload 23, 2) := by decide +kernel
theorem dL_law_983 : decode cL_law 983 = .ok (.laload, 1) := by decide +kernel
theorem dL_law_984 : decode cL_law 984 = .ok (.invokestatic 107, 3) := by decide +kernel
theorem dL_law_987 : decode cL_law 987 = .ok (.lsub, 1) := by decide +kernel
theorem dL_law_988 : decode cL_law 988 = .ok (.lstore 30, 2) := by decide +kernel
theorem dL_law_990 : decode cL_law 990 = .ok (.lload 28, 2) := by decide +kernel
theorem dL_law_992 : decode cL_law 992 = .ok (.lstore 32, 2) := by decide +kernel
theorem dL_law_994 : decode cL_law 994 = .ok (.aload_n 3, 1) := by decide +kernel
theorem dL_law_995 : decode cL_law 995 = .ok (.iload 22, 2) := by decide +kernel
theorem dL_law_997 : decode cL_law 997 = .ok (.caload, 1) := by decide +kernel
theorem dL_law_998 : decode cL_law 998 = .ok (.bipush 114, 2) := by decide +kernel
theorem dL_law_1000 : decode cL_law 1000 = .ok (.if_icmp .ne 70, 3) := by decide +kernel
theorem dL_law_1003 : decode cL_law 1003 = .ok (.lload 28, 2) := by decide +kernel
theorem dL_law_1005 : decode cL_law 1005 = .ok (.lload 24, 2) := by decide +kernel
theorem dL_law_1007 : decode cL_law 1007 = .ok (.lmul, 1) := by decide +kernel
theorem dL_law_1008 : decode cL_law 1008 = .ok (.lload 26, 2) := by decide +kernel
theorem dL_law_1010 : decode cL_law 1010 = .ok (.invokestatic 107, 3) := by decide +kernel
theorem dL_law_1013 : decode cL_law 1013 = .ok (.lstore 34, 2) := by decide +kernel
theorem dL_law_1015 : decode cL_law 1015 = .ok (.lload 34, 2) := by decide +kernel
theorem dL_law_1017 : decode cL_law 1017 = .ok (.aload 12, 2) := by decide +kernel
theorem dL_law_1019 : decode cL_law 1019 = .ok (.iload 22, 2) := by decide +kernel
theorem dL_law_1021 : decode cL_law 1021 = .ok (.laload, 1) := by decide +kernel
theorem dL_law_1022 : decode cL_law 1022 = .ok (.lcmp, 1) := by decide +kernel
theorem dL_law_1023 : decode cL_law 1023 = .ok (.ifCond .le 14, 3) := by decide +kernel
theorem dL_law_1026 : decode cL_law 1026 = .ok (.lload 34, 2) := by decide +kernel
theorem dL_law_1028 : decode cL_law 1028 = .ok (.aload 12, 2) := by decide +kernel
theorem dL_law_1030 : decode cL_law 1030 = .ok (.iload 22, 2) := by decide +kernel
theorem dL_law_1032 : decode cL_law 1032 = .ok (.laload, 1) := by decide +kernel
theorem dL_law_1033 : decode cL_law 1033 = .ok (.lsub, 1) := by decide +kernel
theorem dL_law_1034 : decode cL_law 1034 = .ok (.goto 4, 3) := by decide +kernel
theorem dL_law_1037 : decode cL_law 1037 = .ok (.lconst 0, 1) := by decide +kernel
theorem dL_law_1038 : decode cL_law 1038 = .ok (.lstore 30, 2) := by decide +kernel
theorem dL_law_1040 : decode cL_law 1040 = .ok (.lload 28, 2) := by decide +kernel
theorem dL_law_1042 : decode cL_law 1042 = .ok (.lstore 32, 2) := by decide +kernel
theorem dL_law_1044 : decode cL_law 1044 = .ok (.aload 12, 2) := by decide +kernel
theorem dL_law_1046 : decode cL_law 1046 = .ok (.iload 22, 2) := by decide +kernel
theorem dL_law_1048 : decode cL_law 1048 = .ok (.lload 34, 2) := by decide +kernel
theorem dL_law_1050 : decode cL_law 1050 = .ok (.aload 12, 2) := by decide +kernel
theorem dL_law_1052 : decode cL_law 1052 = .ok (.iload 22, 2) := by decide +kernel
theorem dL_law_1054 : decode cL_law 1054 = .ok (.laload, 1) := by decide +kernel
theorem dL_law_1055 : decode cL_law 1055 = .ok (.lcmp, 1) := by decide +kernel
theorem dL_law_1056 : decode cL_law 1056 = .ok (.ifCond .le 8, 3) := by decide +kernel
theorem dL_law_1059 : decode cL_law 1059 = .ok (.lload 34, 2) := by decide +kernel
theorem dL_law_1061 : decode cL_law 1061 = .ok (.goto 8, 3) := by decide +kernel
theorem dL_law_1064 : decode cL_law 1064 = .ok (.aload 12, 2) := by decide +kernel
theorem dL_law_1066 : decode cL_law 1066 = .ok (.iload 22, 2) := by decide +kernel
theorem dL_law_1068 : decode cL_law 1068 = .ok (.laload, 1) := by decide +kernel
theorem dL_law_1069 : decode cL_law 1069 = .ok (.lastore, 1) := by decide +kernel
theorem dL_law_1070 : decode cL_law 1070 = .ok (.lload 30, 2) := by decide +kernel
theorem dL_law_1072 : decode cL_law 1072 = .ok (.lload 32, 2) := by decide +kernel
theorem dL_law_1074 : decode cL_law 1074 = .ok (.invokestatic 67, 3) := by decide +kernel
theorem dL_law_1077 : decode cL_law 1077 = .ok (.lstore 34, 2) := by decide +kernel
theorem dL_law_1079 : decode cL_law 1079 = .ok (.aload 20, 2) := by decide +kernel
theorem dL_law_1081 : decode cL_law 1081 = .ok (.aload 7, 2) := by decide +kernel
theorem dL_law_1083 : decode cL_law 1083 = .ok (.iload 22, 2) := by decide +kernel
theorem dL_law_1085 : decode cL_law 1085 = .ok (.iaload, 1) := by decide +kernel
theorem dL_law_1086 : decode cL_law 1086 = .ok (.lload 30, 2) := by decide +kernel
theorem dL_law_1088 : decode cL_law 1088 = .ok (.lload 34, 2) := by decide +kernel
theorem dL_law_1090 : decode cL_law 1090 = .ok (.ldiv, 1) := by decide +kernel
theorem dL_law_1091 : decode cL_law 1091 = .ok (.lastore, 1) := by decide +kernel
theorem dL_law_1092 : decode cL_law 1092 = .ok (.aload 21, 2) := by decide +kernel
theorem dL_law_1094 : decode cL_law 1094 = .ok (.aload 7, 2) := by decide +kernel
theorem dL_law_1096 : decode cL_law 1096 = .ok (.iload 22, 2) := by decide +kernel
theorem dL_law_1098 : decode cL_law 1098 = .ok (.iaload, 1) := by decide +kernel
theorem dL_law_1099 : decode cL_law 1099 = .ok (.lload 32, 2) := by decide +kernel
theorem dL_law_1101 : decode cL_law 1101 = .ok (.lload 34, 2) := by decide +kernel
theorem dL_law_1103 : decode cL_law 1103 = .ok (.ldiv, 1) := by decide +kernel
theorem dL_law_1104 : decode cL_law 1104 = .ok (.lastore, 1) := by decide +kernel
theorem dL_law_1105 : decode cL_law 1105 = .ok (.iinc 22 1, 3) := by decide +kernel
theorem dL_law_1108 : decode cL_law 1108 = .ok (.goto (-302), 3) := by decide +kernel
theorem dL_law_1111 : decode cL_law 1111 = .ok (.aload 4, 2) := by decide +kernel
theorem dL_law_1113 : decode cL_law 1113 = .ok (.iconst 2, 1) := by decide +kernel
theorem dL_law_1114 : decode cL_law 1114 = .ok (.iaload, 1) := by decide +kernel
theorem dL_law_1115 : decode cL_law 1115 = .ok (.aload 5, 2) := by decide +kernel
theorem dL_law_1117 : decode cL_law 1117 = .ok (.iconst 2, 1) := by decide +kernel
theorem dL_law_1118 : decode cL_law 1118 = .ok (.iaload, 1) := by decide +kernel
theorem dL_law_1119 : decode cL_law 1119 = .ok (.iadd, 1) := by decide +kernel
theorem dL_law_1120 : decode cL_law 1120 = .ok (.i2l, 1) := by decide +kernel
theorem dL_law_1121 : decode cL_law 1121 = .ok (.lstore 22, 2) := by decide +kernel
theorem dL_law_1123 : decode cL_law 1123 = .ok (.aload 20, 2) := by decide +kernel
theorem dL_law_1125 : decode cL_law 1125 = .ok (.iconst 1, 1) := by decide +kernel
theorem dL_law_1126 : decode cL_law 1126 = .ok (.laload, 1) := by decide +kernel
theorem dL_law_1127 : decode cL_law 1127 = .ok (.aload 4, 2) := by decide +kernel
theorem dL_law_1129 : decode cL_law 1129 = .ok (.iconst 2, 1) := by decide +kernel
theorem dL_law_1130 : decode cL_law 1130 = .ok (.iaload, 1) := by decide +kernel
theorem dL_law_1131 : decode cL_law 1131 = .ok (.i2l, 1) := by decide +kernel
theorem dL_law_1132 : decode cL_law 1132 = .ok (.lmul, 1) := by decide +kernel
theorem dL_law_1133 : decode cL_law 1133 = .ok (.aload 21, 2) := by decide +kernel
theorem dL_law_1135 : decode cL_law 1135 = .ok (.iconst 3, 1) := by decide +kernel
theorem dL_law_1136 : decode cL_law 1136 = .ok (.laload, 1) := by decide +kernel
theorem dL_law_1137 : decode cL_law 1137 = .ok (.lmul, 1) := by decide +kernel
theorem dL_law_1138 : decode cL_law 1138 = .ok (.aload 20, 2) := by decide +kernel
theorem dL_law_1140 : decode cL_law 1140 = .ok (.iconst 3, 1) := by decide +kernel
theorem dL_law_1141 : decode cL_law 1141 = .ok (.laload, 1) := by decide +kernel
theorem dL_law_1142 : decode cL_law 1142 = .ok (.aload 5, 2) := by decide +kernel
theorem dL_law_1144 : decode cL_law 1144 = .ok (.iconst 2, 1) := by decide +kernel
theorem dL_law_1145 : decode cL_law 1145 = .ok (.iaload, 1) := by decide +kernel
theorem dL_law_1146 : decode cL_law 1146 = .ok (.i2l, 1) := by decide +kernel
theorem dL_law_1147 : decode cL_law 1147 = .ok (.lmul, 1) := by decide +kernel
theorem dL_law_1148 : decode cL_law 1148 = .ok (.aload 21, 2) := by decide +kernel
theorem dL_law_1150 : decode cL_law 1150 = .ok (.iconst 1, 1) := by decide +kernel
theorem dL_law_1151 : decode cL_law 1151 = .ok (.laload, 1) := by decide +kernel
theorem dL_law_1152 : decode cL_law 1152 = .ok (.lmul, 1) := by decide +kernel
theorem dL_law_1153 : decode cL_law 1153 = .ok (.ladd, 1) := by decide +kernel
theorem dL_law_1154 : decode cL_law 1154 = .ok (.lstore 24, 2) := by decide +kernel
theorem dL_law_1156 : decode cL_law 1156 = .ok (.aload 21, 2) := by decide +kernel
theorem dL_law_1158 : decode cL_law 1158 = .ok (.iconst 1, 1) := by decide +kernel
theorem dL_law_1159 : decode cL_law 1159 = .ok (.laload, 1) := by decide +kernel
theorem dL_law_1160 : decode cL_law 1160 = .ok (.aload 21, 2) := by decide +kernel
theorem dL_law_1162 : decode cL_law 1162 = .ok (.iconst 3, 1) := by decide +kernel
theorem dL_law_1163 : decode cL_law 1163 = .ok (.laload, 1) := by decide +kernel
theorem dL_law_1164 : decode cL_law 1164 = .ok (.lmul, 1) := by decide +kernel
theorem dL_law_1165 : decode cL_law 1165 = .ok (.lload 22, 2) := by decide +kernel
theorem dL_law_1167 : decode cL_law 1167 = .ok (.lmul, 1) := by decide +kernel
theorem dL_law_1168 : decode cL_law 1168 = .ok (.lstore 26, 2) := by decide +kernel
theorem dL_law_1170 : decode cL_law 1170 = .ok (.aload 20, 2) := by decide +kernel
theorem dL_law_1172 : decode cL_law 1172 = .ok (.iconst 4, 1) := by decide +kernel
theorem dL_law_1173 : decode cL_law 1173 = .ok (.lload 24, 2) := by decide +kernel
theorem dL_law_1175 : decode cL_law 1175 = .ok (.lload 24, 2) := by decide +kernel
theorem dL_law_1177 : decode cL_law 1177 = .ok (.lload 26, 2) := by decide +kernel
theorem dL_law_1179 : decode cL_law 1179 = .ok (.invokestatic 67, 3) := by decide +kernel
theorem dL_law_1182 : decode cL_law 1182 = .ok (.ldiv, 1) := by decide +kernel
theorem dL_law_1183 : decode cL_law 1183 = .ok (.lastore, 1) := by decide +kernel
theorem dL_law_1184 : decode cL_law 1184 = .ok (.aload 21, 2) := by decide +kernel
theorem dL_law_1186 : decode cL_law 1186 = .ok (.iconst 4, 1) := by decide +kernel
theorem dL_law_1187 : decode cL_law 1187 = .ok (.lload 26, 2) := by decide +kernel
theorem dL_law_1189 : decode cL_law 1189 = .ok (.lload 24, 2) := by decide +kernel
theorem dL_law_1191 : decode cL_law 1191 = .ok (.lload 26, 2) := by decide +kernel
theorem dL_law_1193 : decode cL_law 1193 = .ok (.invokestatic 67, 3) := by decide +kernel
theorem dL_law_1196 : decode cL_law 1196 = .ok (.ldiv, 1) := by decide +kernel
theorem dL_law_1197 : decode cL_law 1197 = .ok (.lastore, 1) := by decide +kernel
theorem dL_law_1198 : decode cL_law 1198 = .ok (.iconst 0, 1) := by decide +kernel
theorem dL_law_1199 : decode cL_law 1199 = .ok (.istore 28, 2) := by decide +kernel
theorem dL_law_1201 : decode cL_law 1201 = .ok (.iload 28, 2) := by decide +kernel
theorem dL_law_1203 : decode cL_law 1203 = .ok (.iconst 4, 1) := by decide +kernel
theorem dL_law_1204 : decode cL_law 1204 = .ok (.if_icmp .ge 131, 3) := by decide +kernel
theorem dL_law_1207 : decode cL_law 1207 = .ok (.iload 28, 2) := by decide +kernel
theorem dL_law_1209 : decode cL_law 1209 = .ok (.iconst 3, 1) := by decide +kernel
theorem dL_law_1210 : decode cL_law 1210 = .ok (.if_icmp .ne 7, 3) := by decide +kernel
theorem dL_law_1213 : decode cL_law 1213 = .ok (.iconst 2, 1) := by decide +kernel
theorem dL_law_1214 : decode cL_law 1214 = .ok (.goto 5, 3) := by decide +kernel
theorem dL_law_1217 : decode cL_law 1217 = .ok (.iload 28, 2) := by decide +kernel
theorem dL_law_1219 : decode cL_law 1219 = .ok (.istore 29, 2) := by decide +kernel
theorem dL_law_1221 : decode cL_law 1221 = .ok (.iload 28, 2) := by decide +kernel
theorem dL_law_1223 : decode cL_law 1223 = .ok (.iconst 3, 1) := by decide +kernel
theorem dL_law_1224 : decode cL_law 1224 = .ok (.if_icmp .ne 7, 3) := by decide +kernel
theorem dL_law_1227 : decode cL_law 1227 = .ok (.iconst 3, 1) := by decide +kernel
theorem dL_law_1228 : decode cL_law 1228 = .ok (.goto 8, 3) := by decide +kernel
theorem dL_law_1231 : decode cL_law 1231 = .ok (.aload 6, 2) := by decide +kernel
theorem dL_law_1233 : decode cL_law 1233 = .ok (.iload 28, 2) := by decide +kernel
theorem dL_law_1235 : decode cL_law 1235 = .ok (.iaload, 1) := by decide +kernel
theorem dL_law_1236 : decode cL_law 1236 = .ok (.istore 30, 2) := by decide +kernel
theorem dL_law_1238 : decode cL_law 1238 = .ok (.aload 20, 2) := by decide +kernel
theorem dL_law_1240 : decode cL_law 1240 = .ok (.iload 30, 2) := by decide +kernel
theorem dL_law_1242 : decode cL_law 1242 = .ok (.laload, 1) := by decide +kernel
theorem dL_law_1243 : decode cL_law 1243 = .ok (.lconst 0, 1) := by decide +kernel
theorem dL_law_1244 : decode cL_law 1244 = .ok (.lcmp, 1) := by decide +kernel
theorem dL_law_1245 : decode cL_law 1245 = .ok (.ifCond .ge 12, 3) := by decide +kernel
theorem dL_law_1248 : decode cL_law 1248 = .ok (.aload 20, 2) := by decide +kernel
theorem dL_law_1250 : decode cL_law 1250 = .ok (.iload 30, 2) := by decide +kernel
theorem dL_law_1252 : decode cL_law 1252 = .ok (.laload, 1) := by decide +kernel
theorem dL_law_1253 : decode cL_law 1253 = .ok (.lneg, 1) := by decide +kernel
theorem dL_law_1254 : decode cL_law 1254 = .ok (.goto 8, 3) := by decide +kernel
theorem dL_law_1257 : decode cL_law 1257 = .ok (.aload 20, 2) := by decide +kernel
theorem dL_law_1259 : decode cL_law 1259 = .ok (.iload 30, 2) := by decide +kernel
theorem dL_law_1261 : decode cL_law 1261 = .ok (.laload, 1) := by decide +kernel
theorem dL_law_1262 : decode cL_law 1262 = .ok (.lstore 31, 2) := by decide +kernel
theorem dL_law_1264 : decode cL_law 1264 = .ok (.aload 10, 2) := by decide +kernel
theorem dL_law_1266 : decode cL_law 1266 = .ok (.iload 29, 2) := by decide +kernel
theorem dL_law_1268 : decode cL_law 1268 = .ok (.laload, 1) := by decide +kernel
theorem dL_law_1269 : decode cL_law 1269 = .ok (.aload 21, 2) := by decide +kernel
theorem dL_law_1271 : decode cL_law 1271 = .ok (.iload 30, 2) := by decide +kernel
theorem dL_law_1273 : decode cL_law 1273 = .ok (.laload, 1) := by decide +kernel
theorem dL_law_1274 : decode cL_law 1274 = .ok (.lmul, 1) := by decide +kernel
theorem dL_law_1275 : decode cL_law 1275 = .ok (.lload 31, 2) := by decide +kernel
theorem dL_law_1277 : decode cL_law 1277 = .ok (.aload 11, 2) := by decide +kernel
theorem dL_law_1279 : decode cL_law 1279 = .ok (.iload 29, 2) := by decide +kernel
theorem dL_law_1281 : decode cL_law 1281 = .ok (.laload, 1) := by decide +kernel
theorem dL_law_1282 : decode cL_law 1282 = .ok (.lmul, 1) := by decide +kernel
theorem dL_law_1283 : decode cL_law 1283 = .ok (.ladd, 1) := by decide +kernel
theorem dL_law_1284 : decode cL_law 1284 = .ok (.lstore 33, 2) := by decide +kernel
theorem dL_law_1286 : decode cL_law 1286 = .ok (.aload 11, 2) := by decide +kernel
theorem dL_law_1288 : decode cL_law 1288 = .ok (.iload 29, 2) := by decide +kernel
theorem dL_law_1290 : decode cL_law 1290 = .ok (.laload, 1) := by decide +kernel
theorem dL_law_1291 : decode cL_law 1291 = .ok (.aload 21, 2) := by decide +kernel
theorem dL_law_1293 : decode cL_law 1293 = .ok (.iload 30, 2) := by decide +kernel
theorem dL_law_1295 : decode cL_law 1295 = .ok (.laload, 1) := by decide +kernel
theorem dL_law_1296 : decode cL_law 1296 = .ok (.lmul, 1) := by decide +kernel
theorem dL_law_1297 : decode cL_law 1297 = .ok (.lstore 35, 2) := by decide +kernel
theorem dL_law_1299 : decode cL_law 1299 = .ok (.aload 10, 2) := by decide +kernel
theorem dL_law_1301 : decode cL_law 1301 = .ok (.iload 29, 2) := by decide +kernel
theorem dL_law_1303 : decode cL_law 1303 = .ok (.lload 33, 2) := by decide +kernel
theorem dL_law_1305 : decode cL_law 1305 = .ok (.lload 33, 2) := by decide +kernel
theorem dL_law_1307 : decode cL_law 1307 = .ok (.lload 35, 2) := by decide +kernel
theorem dL_law_1309 : decode cL_law 1309 = .ok (.invokestatic 67, 3) := by decide +kernel
theorem dL_law_1312 : decode cL_law 1312 = .ok (.ldiv, 1) := by decide +kernel
theorem dL_law_1313 : decode cL_law 1313 = .ok (.lastore, 1) := by decide +kernel
theorem dL_law_1314 : decode cL_law 1314 = .ok (.aload 11, 2) := by decide +kernel
theorem dL_law_1316 : decode cL_law 1316 = .ok (.iload 29, 2) := by decide +kernel
theorem dL_law_1318 : decode cL_law 1318 = .ok (.lload 35, 2) := by decide +kernel
theorem dL_law_1320 : decode cL_law 1320 = .ok (.lload 33, 2) := by decide +kernel
theorem dL_law_1322 : decode cL_law 1322 = .ok (.lload 35, 2) := by decide +kernel
theorem dL_law_1324 : decode cL_law 1324 = .ok (.invokestatic 67, 3) := by decide +kernel
theorem dL_law_1327 : decode cL_law 1327 = .ok (.ldiv, 1) := by decide +kernel
theorem dL_law_1328 : decode cL_law 1328 = .ok (.lastore, 1) := by decide +kernel
theorem dL_law_1329 : decode cL_law 1329 = .ok (.iinc 28 1, 3) := by decide +kernel
theorem dL_law_1332 : decode cL_law 1332 = .ok (.goto (-131), 3) := by decide +kernel
theorem dL_law_1335 : decode cL_law 1335 = .ok (.iconst 0, 1) := by decide +kernel
theorem dL_law_1336 : decode cL_law 1336 = .ok (.istore 28, 2) := by decide +kernel
theorem dL_law_1338 : decode cL_law 1338 = .ok (.iload 28, 2) := by decide +kernel
theorem dL_law_1340 : decode cL_law 1340 = .ok (.iconst 5, 1) := by decide +kernel
theorem dL_law_1341 : decode cL_law 1341 = .ok (.if_icmp .ge 77, 3) := by decide +kernel
theorem dL_law_1344 : decode cL_law 1344 = .ok (.aload 8, 2) := by decide +kernel
theorem dL_law_1346 : decode cL_law 1346 = .ok (.iload 28, 2) := by decide +kernel
theorem dL_law_1348 : decode cL_law 1348 = .ok (.laload, 1) := by decide +kernel
theorem dL_law_1349 : decode cL_law 1349 = .ok (.aload 21, 2) := by decide +kernel
theorem dL_law_1351 : decode cL_law 1351 = .ok (.iload 28, 2) := by decide +kernel
theorem dL_law_1353 : decode cL_law 1353 = .ok (.laload, 1) := by decide +kernel
theorem dL_law_1354 : decode cL_law 1354 = .ok (.lmul, 1) := by decide +kernel
theorem dL_law_1355 : decode cL_law 1355 = .ok (.aload 20, 2) := by decide +kernel
theorem dL_law_1357 : decode cL_law 1357 = .ok (.iload 28, 2) := by decide +kernel
theorem dL_law_1359 : decode cL_law 1359 = .ok (.laload, 1) := by decide +kernel
theorem dL_law_1360 : decode cL_law 1360 = .ok (.aload 9, 2) := by decide +kernel
theorem dL_law_1362 : decode cL_law 1362 = .ok (.iload 28, 2) := by decide +kernel
theorem dL_law_1364 : decode cL_law 1364 = .ok (.laload, 1) := by decide +kernel
theorem dL_law_1365 : decode cL_law 1365 = .ok (.lmul, 1) := by decide +kernel
theorem dL_law_1366 : decode cL_law 1366 = .ok (.ladd, 1) := by decide +kernel
theorem dL_law_1367 : decode cL_law 1367 = .ok (.lstore 29, 2) := by decide +kernel
theorem dL_law_1369 : decode cL_law 1369 = .ok (.aload 9, 2) := by decide +kernel
theorem dL_law_1371 : decode cL_law 1371 = .ok (.iload 28, 2) := by decide +kernel
theorem dL_law_1373 : decode cL_law 1373 = .ok (.laload, 1) := by decide +kernel
theorem dL_law_1374 : decode cL_law 1374 = .ok (.aload 21, 2) := by decide +kernel
theorem dL_law_1376 : decode cL_law 1376 = .ok (.iload 28, 2) := by decide +kernel
theorem dL_law_1378 : decode cL_law 1378 = .ok (.laload, 1) := by decide +kernel
theorem dL_law_1379 : decode cL_law 1379 = .ok (.lmul, 1) := by decide +kernel
theorem dL_law_1380 : decode cL_law 1380 = .ok (.lstore 31, 2) := by decide +kernel
theorem dL_law_1382 : decode cL_law 1382 = .ok (.aload 8, 2) := by decide +kernel
theorem dL_law_1384 : decode cL_law 1384 = .ok (.iload 28, 2) := by decide +kernel
theorem dL_law_1386 : decode cL_law 1386 = .ok (.lload 29, 2) := by decide +kernel
theorem dL_law_1388 : decode cL_law 1388 = .ok (.lload 29, 2) := by decide +kernel
theorem dL_law_1390 : decode cL_law 1390 = .ok (.lload 31, 2) := by decide +kernel
theorem dL_law_1392 : decode cL_law 1392 = .ok (.invokestatic 67, 3) := by decide +kernel
theorem dL_law_1395 : decode cL_law 1395 = .ok (.ldiv, 1) := by decide +kernel
theorem dL_law_1396 : decode cL_law 1396 = .ok (.lastore, 1) := by decide +kernel
theorem dL_law_1397 : decode cL_law 1397 = .ok (.aload 9, 2) := by decide +kernel
theorem dL_law_1399 : decode cL_law 1399 = .ok (.iload 28, 2) := by decide +kernel
theorem dL_law_1401 : decode cL_law 1401 = .ok (.lload 31, 2) := by decide +kernel
theorem dL_law_1403 : decode cL_law 1403 = .ok (.lload 29, 2) := by decide +kernel
theorem dL_law_1405 : decode cL_law 1405 = .ok (.lload 31, 2) := by decide +kernel
theorem dL_law_1407 : decode cL_law 1407 = .ok (.invokestatic 67, 3) := by decide +kernel
theorem dL_law_1410 : decode cL_law 1410 = .ok (.ldiv, 1) := by decide +kernel
theorem dL_law_1411 : decode cL_law 1411 = .ok (.lastore, 1) := by decide +kernel
theorem dL_law_1412 : decode cL_law 1412 = .ok (.iinc 28 1, 3) := by decide +kernel
theorem dL_law_1415 : decode cL_law 1415 = .ok (.goto (-77), 3) := by decide +kernel
theorem dL_law_1418 : decode cL_law 1418 = .ok (.iinc 19 1, 3) := by decide +kernel
theorem dL_law_1421 : decode cL_law 1421 = .ok (.goto (-674), 3) := by decide +kernel
theorem dL_law_1424 : decode cL_law 1424 = .ok (.iconst 0, 1) := by decide +kernel
theorem dL_law_1425 : decode cL_law 1425 = .ok (.istore 19, 2) := by decide +kernel
theorem dL_law_1427 : decode cL_law 1427 = .ok (.iconst 0, 1) := by decide +kernel
theorem dL_law_1428 : decode cL_law 1428 = .ok (.istore 20, 2) := by decide +kernel
theorem dL_law_1430 : decode cL_law 1430 = .ok (.iload 20, 2) := by decide +kernel
theorem dL_law_1432 : decode cL_law 1432 = .ok (.iconst 5, 1) := by decide +kernel
theorem dL_law_1433 : decode cL_law 1433 = .ok (.if_icmp .ge 47, 3) := by decide +kernel
theorem dL_law_1436 : decode cL_law 1436 = .ok (.iload 19, 2) := by decide +kernel
theorem dL_law_1438 : decode cL_law 1438 = .ok (.aload 8, 2) := by decide +kernel
theorem dL_law_1440 : decode cL_law 1440 = .ok (.iload 20, 2) := by decide +kernel
theorem dL_law_1442 : decode cL_law 1442 = .ok (.laload, 1) := by decide +kernel
theorem dL_law_1443 : decode cL_law 1443 = .ok (.aload 17, 2) := by decide +kernel
theorem dL_law_1445 : decode cL_law 1445 = .ok (.iload 20, 2) := by decide +kernel
theorem dL_law_1447 : decode cL_law 1447 = .ok (.laload, 1) := by decide +kernel
theorem dL_law_1448 : decode cL_law 1448 = .ok (.lcmp, 1) := by decide +kernel
theorem dL_law_1449 : decode cL_law 1449 = .ok (.ifCond .ne 21, 3) := by decide +kernel
theorem dL_law_1452 : decode cL_law 1452 = .ok (.aload 9, 2) := by decide +kernel
theorem dL_law_1454 : decode cL_law 1454 = .ok (.iload 20, 2) := by decide +kernel
theorem dL_law_1456 : decode cL_law 1456 = .ok (.laload, 1) := by decide +kernel
theorem dL_law_1457 : decode cL_law 1457 = .ok (.aload 18, 2) := by decide +kernel
theorem dL_law_1459 : decode cL_law 1459 = .ok (.iload 20, 2) := by decide +kernel
theorem dL_law_1461 : decode cL_law 1461 = .ok (.laload, 1) := by decide +kernel
theorem dL_law_1462 : decode cL_law 1462 = .ok (.lcmp, 1) := by decide +kernel
theorem dL_law_1463 : decode cL_law 1463 = .ok (.ifCond .ne 7, 3) := by decide +kernel
theorem dL_law_1466 : decode cL_law 1466 = .ok (.iconst 0, 1) := by decide +kernel
theorem dL_law_1467 : decode cL_law 1467 = .ok (.goto 4, 3) := by decide +kernel
theorem dL_law_1470 : decode cL_law 1470 = .ok (.iconst 1, 1) := by decide +kernel
theorem dL_law_1471 : decode cL_law 1471 = .ok (.iadd, 1) := by decide +kernel
theorem dL_law_1472 : decode cL_law 1472 = .ok (.istore 19, 2) := by decide +kernel
theorem dL_law_1474 : decode cL_law 1474 = .ok (.iinc 20 1, 3) := by decide +kernel
theorem dL_law_1477 : decode cL_law 1477 = .ok (.goto (-47), 3) := by decide +kernel
theorem dL_law_1480 : decode cL_law 1480 = .ok (.iload_n 2, 1) := by decide +kernel
theorem dL_law_1481 : decode cL_law 1481 = .ok (.aload_n 1, 1) := by decide +kernel
theorem dL_law_1482 : decode cL_law 1482 = .ok (.iload 14, 2) := by decide +kernel
theorem dL_law_1484 : decode cL_law 1484 = .ok (.iload 15, 2) := by decide +kernel
theorem dL_law_1486 : decode cL_law 1486 = .ok (.invokestatic 72, 3) := by decide +kernel
theorem dL_law_1489 : decode cL_law 1489 = .ok (.iload 19, 2) := by decide +kernel
theorem dL_law_1491 : decode cL_law 1491 = .ok (.if_icmp .ne 7, 3) := by decide +kernel
theorem dL_law_1494 : decode cL_law 1494 = .ok (.iconst 1, 1) := by decide +kernel
theorem dL_law_1495 : decode cL_law 1495 = .ok (.goto 4, 3) := by decide +kernel
theorem dL_law_1498 : decode cL_law 1498 = .ok (.iconst 0, 1) := by decide +kernel
theorem dL_law_1499 : decode cL_law 1499 = .ok (.iand, 1) := by decide +kernel
theorem dL_law_1500 : decode cL_law 1500 = .ok (.istore_n 2, 1) := by decide +kernel
theorem dL_law_1501 : decode cL_law 1501 = .ok (.iconst 0, 1) := by decide +kernel
theorem dL_law_1502 : decode cL_law 1502 = .ok (.istore 20, 2) := by decide +kernel
theorem dL_law_1504 : decode cL_law 1504 = .ok (.iload 20, 2) := by decide +kernel
theorem dL_law_1506 : decode cL_law 1506 = .ok (.iconst 5, 1) := by decide +kernel
theorem dL_law_1507 : decode cL_law 1507 = .ok (.if_icmp .ge 47, 3) := by decide +kernel
theorem dL_law_1510 : decode cL_law 1510 = .ok (.iload_n 2, 1) := by decide +kernel
theorem dL_law_1511 : decode cL_law 1511 = .ok (.aload_n 1, 1) := by decide +kernel
theorem dL_law_1512 : decode cL_law 1512 = .ok (.iload 20, 2) := by decide +kernel
theorem dL_law_1514 : decode cL_law 1514 = .ok (.invokestatic 81, 3) := by decide +kernel
theorem dL_law_1517 : decode cL_law 1517 = .ok (.aload 8, 2) := by decide +kernel
theorem dL_law_1519 : decode cL_law 1519 = .ok (.iload 20, 2) := by decide +kernel
theorem dL_law_1521 : decode cL_law 1521 = .ok (.laload, 1) := by decide +kernel
theorem dL_law_1522 : decode cL_law 1522 = .ok (.lcmp, 1) := by decide +kernel
theorem dL_law_1523 : decode cL_law 1523 = .ok (.ifCond .ne 22, 3) := by decide +kernel
theorem dL_law_1526 : decode cL_law 1526 = .ok (.aload_n 1, 1) := by decide +kernel
theorem dL_law_1527 : decode cL_law 1527 = .ok (.iload 20, 2) := by decide +kernel
theorem dL_law_1529 : decode cL_law 1529 = .ok (.invokestatic 84, 3) := by decide +kernel
theorem dL_law_1532 : decode cL_law 1532 = .ok (.aload 9, 2) := by decide +kernel
theorem dL_law_1534 : decode cL_law 1534 = .ok (.iload 20, 2) := by decide +kernel
theorem dL_law_1536 : decode cL_law 1536 = .ok (.laload, 1) := by decide +kernel
theorem dL_law_1537 : decode cL_law 1537 = .ok (.lcmp, 1) := by decide +kernel
theorem dL_law_1538 : decode cL_law 1538 = .ok (.ifCond .ne 7, 3) := by decide +kernel
theorem dL_law_1541 : decode cL_law 1541 = .ok (.iconst 1, 1) := by decide +kernel
theorem dL_law_1542 : decode cL_law 1542 = .ok (.goto 4, 3) := by decide +kernel
theorem dL_law_1545 : decode cL_law 1545 = .ok (.iconst 0, 1) := by decide +kernel
theorem dL_law_1546 : decode cL_law 1546 = .ok (.iand, 1) := by decide +kernel
theorem dL_law_1547 : decode cL_law 1547 = .ok (.istore_n 2, 1) := by decide +kernel
theorem dL_law_1548 : decode cL_law 1548 = .ok (.iinc 20 1, 3) := by decide +kernel
theorem dL_law_1551 : decode cL_law 1551 = .ok (.goto (-47), 3) := by decide +kernel
theorem dL_law_1554 : decode cL_law 1554 = .ok (.iconst 0, 1) := by decide +kernel
theorem dL_law_1555 : decode cL_law 1555 = .ok (.istore 20, 2) := by decide +kernel
theorem dL_law_1557 : decode cL_law 1557 = .ok (.iload 20, 2) := by decide +kernel
theorem dL_law_1559 : decode cL_law 1559 = .ok (.iconst 3, 1) := by decide +kernel
theorem dL_law_1560 : decode cL_law 1560 = .ok (.if_icmp .ge 56, 3) := by decide +kernel
theorem dL_law_1563 : decode cL_law 1563 = .ok (.iload_n 2, 1) := by decide +kernel
theorem dL_law_1564 : decode cL_law 1564 = .ok (.aload_n 1, 1) := by decide +kernel
theorem dL_law_1565 : decode cL_law 1565 = .ok (.iload 20, 2) := by decide +kernel
theorem dL_law_1567 : decode cL_law 1567 = .ok (.invokestatic 112, 3) := by decide +kernel
theorem dL_law_1570 : decode cL_law 1570 = .ok (.aload 10, 2) := by decide +kernel
theorem dL_law_1572 : decode cL_law 1572 = .ok (.iload 20, 2) := by decide +kernel
theorem dL_law_1574 : decode cL_law 1574 = .ok (.laload, 1) := by decide +kernel
theorem dL_law_1575 : decode cL_law 1575 = .ok (.lcmp, 1) := by decide +kernel
theorem dL_law_1576 : decode cL_law 1576 = .ok (.ifCond .ne 31, 3) := by decide +kernel
theorem dL_law_1579 : decode cL_law 1579 = .ok (.aload_n 1, 1) := by decide +kernel
theorem dL_law_1580 : decode cL_law 1580 = .ok (.iload 20, 2) := by decide +kernel
theorem dL_law_1582 : decode cL_law 1582 = .ok (.invokestatic 114, 3) := by decide +kernel
theorem dL_law_1585 : decode cL_law 1585 = .ok (.aload 11, 2) := by decide +kernel
theorem dL_law_1587 : decode cL_law 1587 = .ok (.iload 20, 2) := by decide +kernel
theorem dL_law_1589 : decode cL_law 1589 = .ok (.laload, 1) := by decide +kernel
theorem dL_law_1590 : decode cL_law 1590 = .ok (.lcmp, 1) := by decide +kernel
theorem dL_law_1591 : decode cL_law 1591 = .ok (.ifCond .ne 16, 3) := by decide +kernel
theorem dL_law_1594 : decode cL_law 1594 = .ok (.aload_n 1, 1) := by decide +kernel
theorem dL_law_1595 : decode cL_law 1595 = .ok (.iload 20, 2) := by decide +kernel
theorem dL_law_1597 : decode cL_law 1597 = .ok (.invokevirtual 116, 3) := by decide +kernel
theorem dL_law_1600 : decode cL_law 1600 = .ok (.ifCond .ne 7, 3) := by decide +kernel
theorem dL_law_1603 : decode cL_law 1603 = .ok (.iconst 1, 1) := by decide +kernel
theorem dL_law_1604 : decode cL_law 1604 = .ok (.goto 4, 3) := by decide +kernel
theorem dL_law_1607 : decode cL_law 1607 = .ok (.iconst 0, 1) := by decide +kernel
theorem dL_law_1608 : decode cL_law 1608 = .ok (.iand, 1) := by decide +kernel
theorem dL_law_1609 : decode cL_law 1609 = .ok (.istore_n 2, 1) := by decide +kernel
theorem dL_law_1610 : decode cL_law 1610 = .ok (.iinc 20 1, 3) := by decide +kernel
theorem dL_law_1613 : decode cL_law 1613 = .ok (.goto (-56), 3) := by decide +kernel
theorem dL_law_1616 : decode cL_law 1616 = .ok (.iinc 13 1, 3) := by decide +kernel
theorem dL_law_1619 : decode cL_law 1619 = .ok (.goto (-949), 3) := by decide +kernel
theorem dL_law_1622 : decode cL_law 1622 = .ok (.iload_n 2, 1) := by decide +kernel
theorem dL_law_1623 : decode cL_law 1623 = .ok (.ifCond .eq 48, 3) := by decide +kernel
theorem dL_law_1626 : decode cL_law 1626 = .ok (.aload_n 1, 1) := by decide +kernel
theorem dL_law_1627 : decode cL_law 1627 = .ok (.iconst 5, 1) := by decide +kernel
theorem dL_law_1628 : decode cL_law 1628 = .ok (.invokestatic 81, 3) := by decide +kernel
theorem dL_law_1631 : decode cL_law 1631 = .ok (.ldc2_w 49, 3) := by decide +kernel
theorem dL_law_1634 : decode cL_law 1634 = .ok (.lcmp, 1) := by decide +kernel
theorem dL_law_1635 : decode cL_law 1635 = .ok (.ifCond .ne 36, 3) := by decide +kernel
theorem dL_law_1638 : decode cL_law 1638 = .ok (.aload_n 1, 1) := by decide +kernel
theorem dL_law_1639 : decode cL_law 1639 = .ok (.iconst 3, 1) := by decide +kernel
theorem dL_law_1640 : decode cL_law 1640 = .ok (.invokestatic 112, 3) := by decide +kernel
theorem dL_law_1643 : decode cL_law 1643 = .ok (.ldc2_w 49, 3) := by decide +kernel
theorem dL_law_1646 : decode cL_law 1646 = .ok (.lcmp, 1) := by decide +kernel
theorem dL_law_1647 : decode cL_law 1647 = .ok (.ifCond .ne 24, 3) := by decide +kernel
theorem dL_law_1650 : decode cL_law 1650 = .ok (.aload_n 1, 1) := by decide +kernel
theorem dL_law_1651 : decode cL_law 1651 = .ok (.invokevirtual 120, 3) := by decide +kernel
theorem dL_law_1654 : decode cL_law 1654 = .ok (.ldc 124, 2) := by decide +kernel
theorem dL_law_1656 : decode cL_law 1656 = .ok (.fcmp .l, 1) := by decide +kernel
theorem dL_law_1657 : decode cL_law 1657 = .ok (.ifCond .ne 14, 3) := by decide +kernel
theorem dL_law_1660 : decode cL_law 1660 = .ok (.aload_n 1, 1) := by decide +kernel
theorem dL_law_1661 : decode cL_law 1661 = .ok (.invokevirtual 125, 3) := by decide +kernel
theorem dL_law_1664 : decode cL_law 1664 = .ok (.ifCond .eq 7, 3) := by decide +kernel
theorem dL_law_1667 : decode cL_law 1667 = .ok (.iconst 1, 1) := by decide +kernel
theorem dL_law_1668 : decode cL_law 1668 = .ok (.goto 4, 3) := by decide +kernel
theorem dL_law_1671 : decode cL_law 1671 = .ok (.iconst 0, 1) := by decide +kernel
theorem dL_law_1672 : decode cL_law 1672 = .ok (.ireturn, 1) := by decide +kernel
