theorem dL_shaft_0 : decode cL_shaft 0 = .ok (.aload_n 1, 1) := by decide +kernel
theorem dL_shaft_1 : decode cL_shaft 1 = .ok (.iconst 0, 1) := by decide +kernel
theorem dL_shaft_2 : decode cL_shaft 2 = .ok (.aload_n 0, 1) := by decide +kernel
theorem dL_shaft_3 : decode cL_shaft 3 = .ok (.invokevirtual 7, 3) := by decide +kernel
theorem dL_shaft_6 : decode cL_shaft 6 = .ok (.i2l, 1) := by decide +kernel
theorem dL_shaft_7 : decode cL_shaft 7 = .ok (.lastore, 1) := by decide +kernel
theorem dL_shaft_8 : decode cL_shaft 8 = .ok (.goto 6, 3) := by decide +kernel
theorem dL_shaft_11 : decode cL_shaft 11 = .ok (.astore_n 2, 1) := by decide +kernel
theorem dL_shaft_12 : decode cL_shaft 12 = .ok (.iconst 1, 1) := by decide +kernel
theorem dL_shaft_13 : decode cL_shaft 13 = .ok (.ireturn, 1) := by decide +kernel
theorem dL_shaft_14 : decode cL_shaft 14 = .ok (.iconst 0, 1) := by decide +kernel
theorem dL_shaft_15 : decode cL_shaft 15 = .ok (.ireturn, 1) := by decide +kernel
theorem dL_link_0 : decode cL_link 0 = .ok (.aload 6, 2) := by decide +kernel
theorem dL_link_2 : decode cL_link 2 = .ok (.iconst 0, 1) := by decide +kernel
theorem dL_link_3 : decode cL_link 3 = .ok (.aload_n 0, 1) := by decide +kernel
theorem dL_link_4 : decode cL_link 4 = .ok (.iload_n 1, 1) := by decide +kernel
theorem dL_link_5 : decode cL_link 5 = .ok (.iload_n 2, 1) := by decide +kernel
theorem dL_link_6 : decode cL_link 6 = .ok (.iload_n 3, 1) := by decide +kernel
theorem dL_link_7 : decode cL_link 7 = .ok (.iload 4, 2) := by decide +kernel
theorem dL_link_9 : decode cL_link 9 = .ok (.iload 5, 2) := by decide +kernel
theorem dL_link_11 : decode cL_link 11 = .ok (.invokevirtual 15, 3) := by decide +kernel
theorem dL_link_14 : decode cL_link 14 = .ok (.i2l, 1) := by decide +kernel
theorem dL_link_15 : decode cL_link 15 = .ok (.lastore, 1) := by decide +kernel
theorem dL_link_16 : decode cL_link 16 = .ok (.goto 19, 3) := by decide +kernel
theorem dL_link_19 : decode cL_link 19 = .ok (.astore 7, 2) := by decide +kernel
theorem dL_link_21 : decode cL_link 21 = .ok (.iconst 1, 1) := by decide +kernel
theorem dL_link_22 : decode cL_link 22 = .ok (.ireturn, 1) := by decide +kernel
theorem dL_link_23 : decode cL_link 23 = .ok (.astore 7, 2) := by decide +kernel
theorem dL_link_25 : decode cL_link 25 = .ok (.iconst 2, 1) := by decide +kernel
theorem dL_link_26 : decode cL_link 26 = .ok (.ireturn, 1) := by decide +kernel
theorem dL_link_27 : decode cL_link 27 = .ok (.astore 7, 2) := by decide +kernel
theorem dL_link_29 : decode cL_link 29 = .ok (.iconst 3, 1) := by decide +kernel
theorem dL_link_30 : decode cL_link 30 = .ok (.ireturn, 1) := by decide +kernel
theorem dL_link_31 : decode cL_link 31 = .ok (.astore 7, 2) := by decide +kernel
theorem dL_link_33 : decode cL_link 33 = .ok (.iconst 4, 1) := by decide +kernel
theorem dL_link_34 : decode cL_link 34 = .ok (.ireturn, 1) := by decide +kernel
theorem dL_link_35 : decode cL_link 35 = .ok (.iconst 0, 1) := by decide +kernel
theorem dL_link_36 : decode cL_link 36 = .ok (.ireturn, 1) := by decide +kernel
theorem dL_planets_0 : decode cL_planets 0 = .ok (.aload 6, 2) := by decide +kernel
theorem dL_planets_2 : decode cL_planets 2 = .ok (.iconst 0, 1) := by decide +kernel
theorem dL_planets_3 : decode cL_planets 3 = .ok (.aload_n 0, 1) := by decide +kernel
theorem dL_planets_4 : decode cL_planets 4 = .ok (.iload_n 1, 1) := by decide +kernel
theorem dL_planets_5 : decode cL_planets 5 = .ok (.iload_n 2, 1) := by decide +kernel
theorem dL_planets_6 : decode cL_planets 6 = .ok (.iload_n 3, 1) := by decide +kernel
theorem dL_planets_7 : decode cL_planets 7 = .ok (.iload 4, 2) := by decide +kernel
theorem dL_planets_9 : decode cL_planets 9 = .ok (.iload 5, 2) := by decide +kernel
theorem dL_planets_11 : decode cL_planets 11 = .ok (.invokevirtual 25, 3) := by decide +kernel
theorem dL_planets_14 : decode cL_planets 14 = .ok (.i2l, 1) := by decide +kernel
theorem dL_planets_15 : decode cL_planets 15 = .ok (.lastore, 1) := by decide +kernel
theorem dL_planets_16 : decode cL_planets 16 = .ok (.goto 19, 3) := by decide +kernel
theorem dL_planets_19 : decode cL_planets 19 = .ok (.astore 7, 2) := by decide +kernel
theorem dL_planets_21 : decode cL_planets 21 = .ok (.iconst 1, 1) := by decide +kernel
theorem dL_planets_22 : decode cL_planets 22 = .ok (.ireturn, 1) := by decide +kernel
theorem dL_planets_23 : decode cL_planets 23 = .ok (.astore 7, 2) := by decide +kernel
theorem dL_planets_25 : decode cL_planets 25 = .ok (.iconst 2, 1) := by decide +kernel
theorem dL_planets_26 : decode cL_planets 26 = .ok (.ireturn, 1) := by decide +kernel
theorem dL_planets_27 : decode cL_planets 27 = .ok (.astore 7, 2) := by decide +kernel
theorem dL_planets_29 : decode cL_planets 29 = .ok (.iconst 3, 1) := by decide +kernel
theorem dL_planets_30 : decode cL_planets 30 = .ok (.ireturn, 1) := by decide +kernel
theorem dL_planets_31 : decode cL_planets 31 = .ok (.astore 7, 2) := by decide +kernel
theorem dL_planets_33 : decode cL_planets 33 = .ok (.iconst 4, 1) := by decide +kernel
theorem dL_planets_34 : decode cL_planets 34 = .ok (.ireturn, 1) := by decide +kernel
theorem dL_planets_35 : decode cL_planets 35 = .ok (.iconst 0, 1) := by decide +kernel
theorem dL_planets_36 : decode cL_planets 36 = .ok (.ireturn, 1) := by decide +kernel
theorem dL_engage_0 : decode cL_engage 0 = .ok (.aload_n 3, 1) := by decide +kernel
theorem dL_engage_1 : decode cL_engage 1 = .ok (.iconst 0, 1) := by decide +kernel
theorem dL_engage_2 : decode cL_engage 2 = .ok (.aload_n 0, 1) := by decide +kernel
theorem dL_engage_3 : decode cL_engage 3 = .ok (.iload_n 1, 1) := by decide +kernel
theorem dL_engage_4 : decode cL_engage 4 = .ok (.iload_n 2, 1) := by decide +kernel
theorem dL_engage_5 : decode cL_engage 5 = .ok (.invokevirtual 29, 3) := by decide +kernel
theorem dL_engage_8 : decode cL_engage 8 = .ok (.ifCond .eq 7, 3) := by decide +kernel
theorem dL_engage_11 : decode cL_engage 11 = .ok (.lconst 1, 1) := by decide +kernel
theorem dL_engage_12 : decode cL_engage 12 = .ok (.goto 4, 3) := by decide +kernel
theorem dL_engage_15 : decode cL_engage 15 = .ok (.lconst 0, 1) := by decide +kernel
theorem dL_engage_16 : decode cL_engage 16 = .ok (.lastore, 1) := by decide +kernel
theorem dL_engage_17 : decode cL_engage 17 = .ok (.goto 11, 3) := by decide +kernel
theorem dL_engage_20 : decode cL_engage 20 = .ok (.astore 4, 2) := by decide +kernel
theorem dL_engage_22 : decode cL_engage 22 = .ok (.iconst 1, 1) := by decide +kernel
theorem dL_engage_23 : decode cL_engage 23 = .ok (.ireturn, 1) := by decide +kernel
theorem dL_engage_24 : decode cL_engage 24 = .ok (.astore 4, 2) := by decide +kernel
theorem dL_engage_26 : decode cL_engage 26 = .ok (.iconst 2, 1) := by decide +kernel
theorem dL_engage_27 : decode cL_engage 27 = .ok (.ireturn, 1) := by decide +kernel
theorem dL_engage_28 : decode cL_engage 28 = .ok (.iconst 0, 1) := by decide +kernel
theorem dL_engage_29 : decode cL_engage 29 = .ok (.ireturn, 1) := by decide +kernel
theorem dL_life_0 : decode cL_life 0 = .ok (.aload_n 3, 1) := by decide +kernel
theorem dL_life_1 : decode cL_life 1 = .ok (.iconst 0, 1) := by decide +kernel
theorem dL_life_2 : decode cL_life 2 = .ok (.aload_n 0, 1) := by decide +kernel
theorem dL_life_3 : decode cL_life 3 = .ok (.iload_n 1, 1) := by decide +kernel
theorem dL_life_4 : decode cL_life 4 = .ok (.iload_n 2, 1) := by decide +kernel
theorem dL_life_5 : decode cL_life 5 = .ok (.invokevirtual 33, 3) := by decide +kernel
theorem dL_life_8 : decode cL_life 8 = .ok (.i2l, 1) := by decide +kernel
theorem dL_life_9 : decode cL_life 9 = .ok (.lastore, 1) := by decide +kernel
theorem dL_life_10 : decode cL_life 10 = .ok (.goto 11, 3) := by decide +kernel
theorem dL_life_13 : decode cL_life 13 = .ok (.astore 4, 2) := by decide +kernel
theorem dL_life_15 : decode cL_life 15 = .ok (.iconst 1, 1) := by decide +kernel
theorem dL_life_16 : decode cL_life 16 = .ok (.ireturn, 1) := by decide +kernel
theorem dL_life_17 : decode cL_life 17 = .ok (.astore 4, 2) := by decide +kernel
theorem dL_life_19 : decode cL_life 19 = .ok (.iconst 2, 1) := by decide +kernel
theorem dL_life_20 : decode cL_life 20 = .ok (.ireturn, 1) := by decide +kernel
theorem dL_life_21 : decode cL_life 21 = .ok (.iconst 0, 1) := by decide +kernel
theorem dL_life_22 : decode cL_life 22 = .ok (.ireturn, 1) := by decide +kernel
theorem dL_slack_0 : decode cL_slack 0 = .ok (.aload_n 3, 1) := by decide +kernel
theorem dL_slack_1 : decode cL_slack 1 = .ok (.iconst 0, 1) := by decide +kernel
theorem dL_slack_2 : decode cL_slack 2 = .ok (.aload_n 0, 1) := by decide +kernel
theorem dL_slack_3 : decode cL_slack 3 = .ok (.iload_n 1, 1) := by decide +kernel
theorem dL_slack_4 : decode cL_slack 4 = .ok (.iload_n 2, 1) := by decide +kernel
theorem dL_slack_5 : decode cL_slack 5 = .ok (.invokevirtual 37, 3) := by decide +kernel
theorem dL_slack_8 : decode cL_slack 8 = .ok (.i2l, 1) := by decide +kernel
theorem dL_slack_9 : decode cL_slack 9 = .ok (.lastore, 1) := by decide +kernel
theorem dL_slack_10 : decode cL_slack 10 = .ok (.goto 11, 3) := by decide +kernel
theorem dL_slack_13 : decode cL_slack 13 = .ok (.astore 4, 2) := by decide +kernel
theorem dL_slack_15 : decode cL_slack 15 = .ok (.iconst 1, 1) := by decide +kernel
theorem dL_slack_16 : decode cL_slack 16 = .ok (.ireturn, 1) := by decide +kernel
theorem dL_slack_17 : decode cL_slack 17 = .ok (.astore 4, 2) := by decide +kernel
theorem dL_slack_19 : decode cL_slack 19 = .ok (.iconst 2, 1) := by decide +kernel
theorem dL_slack_20 : decode cL_slack 20 = .ok (.ireturn, 1) := by decide +kernel
theorem dL_slack_21 : decode cL_slack 21 = .ok (.iconst 0, 1) := by decide +kernel
theorem dL_slack_22 : decode cL_slack 22 = .ok (.ireturn, 1) := by decide +kernel
theorem dL_turn_0 : decode cL_turn 0 = .ok (.aload_n 3, 1) := by decide +kernel
theorem dL_turn_1 : decode cL_turn 1 = .ok (.iconst 0, 1) := by decide +kernel
theorem dL_turn_2 : decode cL_turn 2 = .ok (.aload_n 0, 1) := by decide +kernel
theorem dL_turn_3 : decode cL_turn 3 = .ok (.iload_n 1, 1) := by decide +kernel
theorem dL_turn_4 : decode cL_turn 4 = .ok (.iload_n 2, 1) := by decide +kernel
theorem dL_turn_5 : decode cL_turn 5 = .ok (.invokevirtual 40, 3) := by decide +kernel
theorem dL_turn_8 : decode cL_turn 8 = .ok (.i2l, 1) := by decide +kernel
theorem dL_turn_9 : decode cL_turn 9 = .ok (.lastore, 1) := by decide +kernel
theorem dL_turn_10 : decode cL_turn 10 = .ok (.goto 15, 3) := by decide +kernel
theorem dL_turn_13 : decode cL_turn 13 = .ok (.astore 4, 2) := by decide +kernel
theorem dL_turn_15 : decode cL_turn 15 = .ok (.iconst 1, 1) := by decide +kernel
theorem dL_turn_16 : decode cL_turn 16 = .ok (.ireturn, 1) := by decide +kernel
theorem dL_turn_17 : decode cL_turn 17 = .ok (.astore 4, 2) := by decide +kernel
theorem dL_turn_19 : decode cL_turn 19 = .ok (.iconst 2, 1) := by decide +kernel
theorem dL_turn_20 : decode cL_turn 20 = .ok (.ireturn, 1) := by decide +kernel
theorem dL_turn_21 : decode cL_turn 21 = .ok (.astore 4, 2) := by decide +kernel
theorem dL_turn_23 : decode cL_turn 23 = .ok (.iconst 3, 1) := by decide +kernel
theorem dL_turn_24 : decode cL_turn 24 = .ok (.ireturn, 1) := by decide +kernel
theorem dL_turn_25 : decode cL_turn 25 = .ok (.iconst 0, 1) := by decide +kernel
theorem dL_turn_26 : decode cL_turn 26 = .ok (.ireturn, 1) := by decide +kernel
theorem dL_placeOver_0 : decode cL_placeOver 0 = .ok (.aload_n 2, 1) := by decide +kernel
theorem dL_placeOver_1 : decode cL_placeOver 1 = .ok (.iconst 0, 1) := by decide +kernel
theorem dL_placeOver_2 : decode cL_placeOver 2 = .ok (.aload_n 0, 1) := by decide +kernel
theorem dL_placeOver_3 : decode cL_placeOver 3 = .ok (.iload_n 1, 1) := by decide +kernel
theorem dL_placeOver_4 : decode cL_placeOver 4 = .ok (.invokevirtual 43, 3) := by decide +kernel
theorem dL_placeOver_7 : decode cL_placeOver 7 = .ok (.lastore, 1) := by decide +kernel
theorem dL_placeOver_8 : decode cL_placeOver 8 = .ok (.goto 6, 3) := by decide +kernel
theorem dL_placeOver_11 : decode cL_placeOver 11 = .ok (.astore_n 3, 1) := by decide +kernel
theorem dL_placeOver_12 : decode cL_placeOver 12 = .ok (.iconst 1, 1) := by decide +kernel
theorem dL_placeOver_13 : decode cL_placeOver 13 = .ok (.ireturn, 1) := by decide +kernel
theorem dL_placeOver_14 : decode cL_placeOver 14 = .ok (.iconst 0, 1) := by decide +kernel
theorem dL_placeOver_15 : decode cL_placeOver 15 = .ok (.ireturn, 1) := by decide +kernel
theorem dL_placeUnder_0 : decode cL_placeUnder 0 = .ok (.aload_n 2, 1) := by decide +kernel
theorem dL_placeUnder_1 : decode cL_placeUnder 1 = .ok (.iconst 0, 1) := by decide +kernel
theorem dL_placeUnder_2 : decode cL_placeUnder 2 = .ok (.aload_n 0, 1) := by decide +kernel
theorem dL_placeUnder_3 : decode cL_placeUnder 3 = .ok (.iload_n 1, 1) := by decide +kernel
theorem dL_placeUnder_4 : decode cL_placeUnder 4 = .ok (.invokevirtual 47, 3) := by decide +kernel
theorem dL_placeUnder_7 : decode cL_placeUnder 7 = .ok (.lastore, 1) := by decide +kernel
theorem dL_placeUnder_8 : decode cL_placeUnder 8 = .ok (.goto 6, 3) := by decide +kernel
theorem dL_placeUnder_11 : decode cL_placeUnder 11 = .ok (.astore_n 3, 1) := by decide +kernel
theorem dL_placeUnder_12 : decode cL_placeUnder 12 = .ok (.iconst 1, 1) := by decide +kernel
theorem dL_placeUnder_13 : decode cL_placeUnder 13 = .ok (.ireturn, 1) := by decide +kernel
theorem dL_placeUnder_14 : decode cL_placeUnder 14 = .ok (.iconst 0, 1) := by decide +kernel
theorem dL_placeUnder_15 : decode cL_placeUnder 15 = .ok (.ireturn, 1) := by decide +kernel
theorem dL_ratioOver_0 : decode cL_ratioOver 0 = .ok (.aload_n 3, 1) := by decide +kernel
theorem dL_ratioOver_1 : decode cL_ratioOver 1 = .ok (.iconst 0, 1) := by decide +kernel
theorem dL_ratioOver_2 : decode cL_ratioOver 2 = .ok (.aload_n 0, 1) := by decide +kernel
theorem dL_ratioOver_3 : decode cL_ratioOver 3 = .ok (.iload_n 1, 1) := by decide +kernel
theorem dL_ratioOver_4 : decode cL_ratioOver 4 = .ok (.iload_n 2, 1) := by decide +kernel
theorem dL_ratioOver_5 : decode cL_ratioOver 5 = .ok (.invokevirtual 50, 3) := by decide +kernel
theorem dL_ratioOver_8 : decode cL_ratioOver 8 = .ok (.lastore, 1) := by decide +kernel
theorem dL_ratioOver_9 : decode cL_ratioOver 9 = .ok (.goto 11, 3) := by decide +kernel
theorem dL_ratioOver_12 : decode cL_ratioOver 12 = .ok (.astore 4, 2) := by decide +kernel
theorem dL_ratioOver_14 : decode cL_ratioOver 14 = .ok (.iconst 1, 1) := by decide +kernel
theorem dL_ratioOver_15 : decode cL_ratioOver 15 = .ok (.ireturn, 1) := by decide +kernel
theorem dL_ratioOver_16 : decode cL_ratioOver 16 = .ok (.astore 4, 2) := by decide +kernel
theorem dL_ratioOver_18 : decode cL_ratioOver 18 = .ok (.iconst 2, 1) := by decide +kernel
theorem dL_ratioOver_19 : decode cL_ratioOver 19 = .ok (.ireturn, 1) := by decide +kernel
theorem dL_ratioOver_20 : decode cL_ratioOver 20 = .ok (.iconst 0, 1) := by decide +kernel
theorem dL_ratioOver_21 : decode cL_ratioOver 21 = .ok (.ireturn, 1) := by decide +kernel
theorem dL_ratioUnder_0 : decode cL_ratioUnder 0 = .ok (.aload_n 3, 1) := by decide +kernel
theorem dL_ratioUnder_1 : decode cL_ratioUnder 1 = .ok (.iconst 0, 1) := by decide +kernel
theorem dL_ratioUnder_2 : decode cL_ratioUnder 2 = .ok (.aload_n 0, 1) := by decide +kernel
theorem dL_ratioUnder_3 : decode cL_ratioUnder 3 = .ok (.iload_n 1, 1) := by decide +kernel
theorem dL_ratioUnder_4 : decode cL_ratioUnder 4 = .ok (.iload_n 2, 1) := by decide +kernel
theorem dL_ratioUnder_5 : decode cL_ratioUnder 5 = .ok (.invokevirtual 54, 3) := by decide +kernel
theorem dL_ratioUnder_8 : decode cL_ratioUnder 8 = .ok (.lastore, 1) := by decide +kernel
theorem dL_ratioUnder_9 : decode cL_ratioUnder 9 = .ok (.goto 11, 3) := by decide +kernel
theorem dL_ratioUnder_12 : decode cL_ratioUnder 12 = .ok (.astore 4, 2) := by decide +kernel
theorem dL_ratioUnder_14 : decode cL_ratioUnder 14 = .ok (.iconst 1, 1) := by decide +kernel
theorem dL_ratioUnder_15 : decode cL_ratioUnder 15 = .ok (.ireturn, 1) := by decide +kernel
theorem dL_ratioUnder_16 : decode cL_ratioUnder 16 = .ok (.astore 4, 2) := by decide +kernel
theorem dL_ratioUnder_18 : decode cL_ratioUnder 18 = .ok (.iconst 2, 1) := by decide +kernel
theorem dL_ratioUnder_19 : decode cL_ratioUnder 19 = .ok (.ireturn, 1) := by decide +kernel
theorem dL_ratioUnder_20 : decode cL_ratioUnder 20 = .ok (.iconst 0, 1) := by decide +kernel
theorem dL_ratioUnder_21 : decode cL_ratioUnder 21 = .ok (.ireturn, 1) := by decide +kernel
theorem dL_driver_0 : decode cL_driver 0 = .ok (.aload_n 2, 1) := by decide +kernel
theorem dL_driver_1 : decode cL_driver 1 = .ok (.iconst 0, 1) := by decide +kernel
theorem dL_driver_2 : decode cL_driver 2 = .ok (.aload_n 0, 1) := by decide +kernel
theorem dL_driver_3 : decode cL_driver 3 = .ok (.iload_n 1, 1) := by decide +kernel
theorem dL_driver_4 : decode cL_driver 4 = .ok (.invokevirtual 57, 3) := by decide +kernel
theorem dL_driver_7 : decode cL_driver 7 = .ok (.i2l, 1) := by decide +kernel
theorem dL_driver_8 : decode cL_driver 8 = .ok (.lastore, 1) := by decide +kernel
theorem dL_driver_9 : decode cL_driver 9 = .ok (.goto 9, 3) := by decide +kernel
theorem dL_driver_12 : decode cL_driver 12 = .ok (.astore_n 3, 1) := by decide +kernel
theorem dL_driver_13 : decode cL_driver 13 = .ok (.iconst 1, 1) := by decide +kernel
theorem dL_driver_14 : decode cL_driver 14 = .ok (.ireturn, 1) := by decide +kernel
theorem dL_driver_15 : decode cL_driver 15 = .ok (.astore_n 3, 1) := by decide +kernel
theorem dL_driver_16 : decode cL_driver 16 = .ok (.iconst 2, 1) := by decide +kernel
theorem dL_driver_17 : decode cL_driver 17 = .ok (.ireturn, 1) := by decide +kernel
theorem dL_driver_18 : decode cL_driver 18 = .ok (.iconst 0, 1) := by decide +kernel
theorem dL_driver_19 : decode cL_driver 19 = .ok (.ireturn, 1) := by decide +kernel
theorem dL_wornOver_0 : decode cL_wornOver 0 = .ok (.aload_n 2, 1) := by decide +kernel
theorem dL_wornOver_1 : decode cL_wornOver 1 = .ok (.iconst 0, 1) := by decide +kernel
theorem dL_wornOver_2 : decode cL_wornOver 2 = .ok (.aload_n 0, 1) := by decide +kernel
theorem dL_wornOver_3 : decode cL_wornOver 3 = .ok (.iload_n 1, 1) := by decide +kernel
theorem dL_wornOver_4 : decode cL_wornOver 4 = .ok (.invokevirtual 63, 3) := by decide +kernel
theorem dL_wornOver_7 : decode cL_wornOver 7 = .ok (.lastore, 1) := by decide +kernel
theorem dL_wornOver_8 : decode cL_wornOver 8 = .ok (.goto 6, 3) := by decide +kernel
theorem dL_wornOver_11 : decode cL_wornOver 11 = .ok (.astore_n 3, 1) := by decide +kernel
theorem dL_wornOver_12 : decode cL_wornOver 12 = .ok (.iconst 1, 1) := by decide +kernel
theorem dL_wornOver_13 : decode cL_wornOver 13 = .ok (.ireturn, 1) := by decide +kernel
theorem dL_wornOver_14 : decode cL_wornOver 14 = .ok (.iconst 0, 1) := by decide +kernel
theorem dL_wornOver_15 : decode cL_wornOver 15 = .ok (.ireturn, 1) := by decide +kernel
theorem dL_wornUnder_0 : decode cL_wornUnder 0 = .ok (.aload_n 2, 1) := by decide +kernel
theorem dL_wornUnder_1 : decode cL_wornUnder 1 = .ok (.iconst 0, 1) := by decide +kernel
theorem dL_wornUnder_2 : decode cL_wornUnder 2 = .ok (.aload_n 0, 1) := by decide +kernel
theorem dL_wornUnder_3 : decode cL_wornUnder 3 = .ok (.iload_n 1, 1) := by decide +kernel
theorem dL_wornUnder_4 : decode cL_wornUnder 4 = .ok (.invokevirtual 66, 3) := by decide +kernel
theorem dL_wornUnder_7 : decode cL_wornUnder 7 = .ok (.lastore, 1) := by decide +kernel
theorem dL_wornUnder_8 : decode cL_wornUnder 8 = .ok (.goto 6, 3) := by decide +kernel
theorem dL_wornUnder_11 : decode cL_wornUnder 11 = .ok (.astore_n 3, 1) := by decide +kernel
theorem dL_wornUnder_12 : decode cL_wornUnder 12 = .ok (.iconst 1, 1) := by decide +kernel
theorem dL_wornUnder_13 : decode cL_wornUnder 13 = .ok (.ireturn, 1) := by decide +kernel
theorem dL_wornUnder_14 : decode cL_wornUnder 14 = .ok (.iconst 0, 1) := by decide +kernel
theorem dL_wornUnder_15 : decode cL_wornUnder 15 = .ok (.ireturn, 1) := by decide +kernel
theorem dL_isBroken_0 : decode cL_isBroken 0 = .ok (.aload_n 2, 1) := by decide +kernel
theorem dL_isBroken_1 : decode cL_isBroken 1 = .ok (.iconst 0, 1) := by decide +kernel
theorem dL_isBroken_2 : decode cL_isBroken 2 = .ok (.aload_n 0, 1) := by decide +kernel
theorem dL_isBroken_3 : decode cL_isBroken 3 = .ok (.iload_n 1, 1) := by decide +kernel
theorem dL_isBroken_4 : decode cL_isBroken 4 = .ok (.invokevirtual 69, 3) := by decide +kernel
theorem dL_isBroken_7 : decode cL_isBroken 7 = .ok (.ifCond .eq 7, 3) := by decide +kernel
theorem dL_isBroken_10 : decode cL_isBroken 10 = .ok (.lconst 1, 1) := by decide +kernel
theorem dL_isBroken_11 : decode cL_isBroken 11 = .ok (.goto 4, 3) := by decide +kernel
theorem dL_isBroken_14 : decode cL_isBroken 14 = .ok (.lconst 0, 1) := by decide +kernel
theorem dL_isBroken_15 : decode cL_isBroken 15 = .ok (.lastore, 1) := by decide +kernel
theorem dL_isBroken_16 : decode cL_isBroken 16 = .ok (.goto 6, 3) := by decide +kernel
theorem dL_isBroken_19 : decode cL_isBroken 19 = .ok (.astore_n 3, 1) := by decide +kernel
theorem dL_isBroken_20 : decode cL_isBroken 20 = .ok (.iconst 1, 1) := by decide +kernel
theorem dL_isBroken_21 : decode cL_isBroken 21 = .ok (.ireturn, 1) := by decide +kernel
theorem dL_isBroken_22 : decode cL_isBroken 22 = .ok (.iconst 0, 1) := by decide +kernel
theorem dL_isBroken_23 : decode cL_isBroken 23 = .ok (.ireturn, 1) := by decide +kernel
theorem dL_repair_0 : decode cL_repair 0 = .ok (.aload_n 2, 1) := by decide +kernel
theorem dL_repair_1 : decode cL_repair 1 = .ok (.iconst 0, 1) := by decide +kernel
theorem dL_repair_2 : decode cL_repair 2 = .ok (.aload_n 0, 1) := by decide +kernel
theorem dL_repair_3 : decode cL_repair 3 = .ok (.iload_n 1, 1) := by decide +kernel
theorem dL_repair_4 : decode cL_repair 4 = .ok (.invokevirtual 73, 3) := by decide +kernel
theorem dL_repair_7 : decode cL_repair 7 = .ok (.i2l, 1) := by decide +kernel
theorem dL_repair_8 : decode cL_repair 8 = .ok (.lastore, 1) := by decide +kernel
theorem dL_repair_9 : decode cL_repair 9 = .ok (.goto 9, 3) := by decide +kernel
theorem dL_repair_12 : decode cL_repair 12 = .ok (.astore_n 3, 1) := by decide +kernel
theorem dL_repair_13 : decode cL_repair 13 = .ok (.iconst 1, 1) := by decide +kernel
theorem dL_repair_14 : decode cL_repair 14 = .ok (.ireturn, 1) := by decide +kernel
theorem dL_repair_15 : decode cL_repair 15 = .ok (.astore_n 3, 1) := by decide +kernel
theorem dL_repair_16 : decode cL_repair 16 = .ok (.iconst 2, 1) := by decide +kernel
theorem dL_repair_17 : decode cL_repair 17 = .ok (.ireturn, 1) := by decide +kernel
theorem dL_repair_18 : decode cL_repair 18 = .ok (.iconst 0, 1) := by decide +kernel
theorem dL_repair_19 : decode cL_repair 19 = .ok (.ireturn, 1) := by decide +kernel
theorem dL_slackOfOver_0 : decode cL_slackOfOver 0 = .ok (.aload_n 2, 1) := by decide +kernel
theorem dL_slackOfOver_1 : decode cL_slackOfOver 1 = .ok (.iconst 0, 1) := by decide +kernel
theorem dL_slackOfOver_2 : decode cL_slackOfOver 2 = .ok (.aload_n 0, 1) := by decide +kernel
theorem dL_slackOfOver_3 : decode cL_slackOfOver 3 = .ok (.iload_n 1, 1) := by decide +kernel
theorem dL_slackOfOver_4 : decode cL_slackOfOver 4 = .ok (.invokevirtual 76, 3) := by decide +kernel
theorem dL_slackOfOver_7 : decode cL_slackOfOver 7 = .ok (.lastore, 1) := by decide +kernel
theorem dL_slackOfOver_8 : decode cL_slackOfOver 8 = .ok (.goto 6, 3) := by decide +kernel
theorem dL_slackOfOver_11 : decode cL_slackOfOver 11 = .ok (.astore_n 3, 1) := by decide +kernel
theorem dL_slackOfOver_12 : decode cL_slackOfOver 12 = .ok (.iconst 1, 1) := by decide +kernel
theorem dL_slackOfOver_13 : decode cL_slackOfOver 13 = .ok (.ireturn, 1) := by decide +kernel
theorem dL_slackOfOver_14 : decode cL_slackOfOver 14 = .ok (.iconst 0, 1) := by decide +kernel
theorem dL_slackOfOver_15 : decode cL_slackOfOver 15 = .ok (.ireturn, 1) := by decide +kernel
theorem dL_slackOfUnder_0 : decode cL_slackOfUnder 0 = .ok (.aload_n 2, 1) := by decide +kernel
theorem dL_slackOfUnder_1 : decode cL_slackOfUnder 1 = .ok (.iconst 0, 1) := by decide +kernel
theorem dL_slackOfUnder_2 : decode cL_slackOfUnder 2 = .ok (.aload_n 0, 1) := by decide +kernel
theorem dL_slackOfUnder_3 : decode cL_slackOfUnder 3 = .ok (.iload_n 1, 1) := by decide +kernel
theorem dL_slackOfUnder_4 : decode cL_slackOfUnder 4 = .ok (.invokevirtual 79, 3) := by decide +kernel
theorem dL_slackOfUnder_7 : decode cL_slackOfUnder 7 = .ok (.lastore, 1) := by decide +kernel
theorem dL_slackOfUnder_8 : decode cL_slackOfUnder 8 = .ok (.goto 6, 3) := by decide +kernel
theorem dL_slackOfUnder_11 : decode cL_slackOfUnder 11 = .ok (.astore_n 3, 1) := by decide +kernel
theorem dL_slackOfUnder_12 : decode cL_slackOfUnder 12 = .ok (.iconst 1, 1) := by decide +kernel
theorem dL_slackOfUnder_13 : decode cL_slackOfUnder 13 = .ok (.ireturn, 1) := by decide +kernel
theorem dL_slackOfUnder_14 : decode cL_slackOfUnder 14 = .ok (.iconst 0, 1) := by decide +kernel
theorem dL_slackOfUnder_15 : decode cL_slackOfUnder 15 = .ok (.ireturn, 1) := by decide +kernel
theorem dL_cam_0 : decode cL_cam 0 = .ok (.aload_n 2, 1) := by decide +kernel
theorem dL_cam_1 : decode cL_cam 1 = .ok (.iconst 0, 1) := by decide +kernel
theorem dL_cam_2 : decode cL_cam 2 = .ok (.aload_n 0, 1) := by decide +kernel
theorem dL_cam_3 : decode cL_cam 3 = .ok (.iload_n 1, 1) := by decide +kernel
theorem dL_cam_4 : decode cL_cam 4 = .ok (.invokevirtual 82, 3) := by decide +kernel
theorem dL_cam_7 : decode cL_cam 7 = .ok (.i2l, 1) := by decide +kernel
theorem dL_cam_8 : decode cL_cam 8 = .ok (.lastore, 1) := by decide +kernel
theorem dL_cam_9 : decode cL_cam 9 = .ok (.goto 9, 3) := by decide +kernel
theorem dL_cam_12 : decode cL_cam 12 = .ok (.astore_n 3, 1) := by decide +kernel
theorem dL_cam_13 : decode cL_cam 13 = .ok (.iconst 1, 1) := by decide +kernel
theorem dL_cam_14 : decode cL_cam 14 = .ok (.ireturn, 1) := by decide +kernel
theorem dL_cam_15 : decode cL_cam 15 = .ok (.astore_n 3, 1) := by decide +kernel
theorem dL_cam_16 : decode cL_cam 16 = .ok (.iconst 2, 1) := by decide +kernel
theorem dL_cam_17 : decode cL_cam 17 = .ok (.ireturn, 1) := by decide +kernel
theorem dL_cam_18 : decode cL_cam 18 = .ok (.iconst 0, 1) := by decide +kernel
theorem dL_cam_19 : decode cL_cam 19 = .ok (.ireturn, 1) := by decide +kernel
theorem dL_segment_0 : decode cL_segment 0 = .ok (.aload 5, 2) := by decide +kernel
theorem dL_segment_2 : decode cL_segment 2 = .ok (.iconst 0, 1) := by decide +kernel
theorem dL_segment_3 : decode cL_segment 3 = .ok (.aload_n 0, 1) := by decide +kernel
theorem dL_segment_4 : decode cL_segment 4 = .ok (.iload_n 1, 1) := by decide +kernel
theorem dL_segment_5 : decode cL_segment 5 = .ok (.iload_n 2, 1) := by decide +kernel
theorem dL_segment_6 : decode cL_segment 6 = .ok (.iload_n 3, 1) := by decide +kernel
theorem dL_segment_7 : decode cL_segment 7 = .ok (.iload 4, 2) := by decide +kernel
theorem dL_segment_9 : decode cL_segment 9 = .ok (.invokevirtual 85, 3) := by decide +kernel
theorem dL_segment_12 : decode cL_segment 12 = .ok (.i2l, 1) := by decide +kernel
theorem dL_segment_13 : decode cL_segment 13 = .ok (.lastore, 1) := by decide +kernel
theorem dL_segment_14 : decode cL_segment 14 = .ok (.goto 15, 3) := by decide +kernel
theorem dL_segment_17 : decode cL_segment 17 = .ok (.astore 6, 2) := by decide +kernel
theorem dL_segment_19 : decode cL_segment 19 = .ok (.iconst 1, 1) := by decide +kernel
theorem dL_segment_20 : decode cL_segment 20 = .ok (.ireturn, 1) := by decide +kernel
theorem dL_segment_21 : decode cL_segment 21 = .ok (.astore 6, 2) := by decide +kernel
theorem dL_segment_23 : decode cL_segment 23 = .ok (.iconst 2, 1) := by decide +kernel
theorem dL_segment_24 : decode cL_segment 24 = .ok (.ireturn, 1) := by decide +kernel
theorem dL_segment_25 : decode cL_segment 25 = .ok (.astore 6, 2) := by decide +kernel
theorem dL_segment_27 : decode cL_segment 27 = .ok (.iconst 3, 1) := by decide +kernel
theorem dL_segment_28 : decode cL_segment 28 = .ok (.ireturn, 1) := by decide +kernel
theorem dL_segment_29 : decode cL_segment 29 = .ok (.iconst 0, 1) := by decide +kernel
theorem dL_segment_30 : decode cL_segment 30 = .ok (.ireturn, 1) := by decide +kernel
theorem dL_clear_0 : decode cL_clear 0 = .ok (.aload_n 2, 1) := by decide +kernel
theorem dL_clear_1 : decode cL_clear 1 = .ok (.iconst 0, 1) := by decide +kernel
theorem dL_clear_2 : decode cL_clear 2 = .ok (.aload_n 0, 1) := by decide +kernel
theorem dL_clear_3 : decode cL_clear 3 = .ok (.iload_n 1, 1) := by decide +kernel
theorem dL_clear_4 : decode cL_clear 4 = .ok (.invokevirtual 89, 3) := by decide +kernel
theorem dL_clear_7 : decode cL_clear 7 = .ok (.i2l, 1) := by decide +kernel
theorem dL_clear_8 : decode cL_clear 8 = .ok (.lastore, 1) := by decide +kernel
theorem dL_clear_9 : decode cL_clear 9 = .ok (.goto 6, 3) := by decide +kernel
theorem dL_clear_12 : decode cL_clear 12 = .ok (.astore_n 3, 1) := by decide +kernel
theorem dL_clear_13 : decode cL_clear 13 = .ok (.iconst 1, 1) := by decide +kernel
theorem dL_clear_14 : decode cL_clear 14 = .ok (.ireturn, 1) := by decide +kernel
theorem dL_clear_15 : decode cL_clear 15 = .ok (.iconst 0, 1) := by decide +kernel
theorem dL_clear_16 : decode cL_clear 16 = .ok (.ireturn, 1) := by decide +kernel
theorem dL_heightOver_0 : decode cL_heightOver 0 = .ok (.aload_n 2, 1) := by decide +kernel
theorem dL_heightOver_1 : decode cL_heightOver 1 = .ok (.iconst 0, 1) := by decide +kernel
theorem dL_heightOver_2 : decode cL_heightOver 2 = .ok (.aload_n 0, 1) := by decide +kernel
theorem dL_heightOver_3 : decode cL_heightOver 3 = .ok (.iload_n 1, 1) := by decide +kernel
theorem dL_heightOver_4 : decode cL_heightOver 4 = .ok (.invokevirtual 92, 3) := by decide +kernel
theorem dL_heightOver_7 : decode cL_heightOver 7 = .ok (.lastore, 1) := by decide +kernel
theorem dL_heightOver_8 : decode cL_heightOver 8 = .ok (.goto 9, 3) := by decide +kernel
theorem dL_heightOver_11 : decode cL_heightOver 11 = .ok (.astore_n 3, 1) := by decide +kernel
theorem dL_heightOver_12 : decode cL_heightOver 12 = .ok (.iconst 1, 1) := by decide +kernel
theorem dL_heightOver_13 : decode cL_heightOver 13 = .ok (.ireturn, 1) := by decide +kernel
theorem dL_heightOver_14 : decode cL_heightOver 14 = .ok (.astore_n 3, 1) := by decide +kernel
theorem dL_heightOver_15 : decode cL_heightOver 15 = .ok (.iconst 2, 1) := by decide +kernel
theorem dL_heightOver_16 : decode cL_heightOver 16 = .ok (.ireturn, 1) := by decide +kernel
theorem dL_heightOver_17 : decode cL_heightOver 17 = .ok (.iconst 0, 1) := by decide +kernel
theorem dL_heightOver_18 : decode cL_heightOver 18 = .ok (.ireturn, 1) := by decide +kernel
theorem dL_heightUnder_0 : decode cL_heightUnder 0 = .ok (.aload_n 2, 1) := by decide +kernel
theorem dL_heightUnder_1 : decode cL_heightUnder 1 = .ok (.iconst 0, 1) := by decide +kernel
theorem dL_heightUnder_2 : decode cL_heightUnder 2 = .ok (.aload_n 0, 1) := by decide +kernel
theorem dL_heightUnder_3 : decode cL_heightUnder 3 = .ok (.iload_n 1, 1) := by decide +kernel
theorem dL_heightUnder_4 : decode cL_heightUnder 4 = .ok (.invokevirtual 95, 3) := by decide +kernel
theorem dL_heightUnder_7 : decode cL_heightUnder 7 = .ok (.lastore, 1) := by decide +kernel
theorem dL_heightUnder_8 : decode cL_heightUnder 8 = .ok (.goto 9, 3) := by decide +kernel
theorem dL_heightUnder_11 : decode cL_heightUnder 11 = .ok (.astore_n 3, 1) := by decide +kernel
theorem dL_heightUnder_12 : decode cL_heightUnder 12 = .ok (.iconst 1, 1) := by decide +kernel
theorem dL_heightUnder_13 : decode cL_heightUnder 13 = .ok (.ireturn, 1) := by decide +kernel
theorem dL_heightUnder_14 : decode cL_heightUnder 14 = .ok (.astore_n 3, 1) := by decide +kernel
theorem dL_heightUnder_15 : decode cL_heightUnder 15 = .ok (.iconst 2, 1) := by decide +kernel
theorem dL_heightUnder_16 : decode cL_heightUnder 16 = .ok (.ireturn, 1) := by decide +kernel
theorem dL_heightUnder_17 : decode cL_heightUnder 17 = .ok (.iconst 0, 1) := by decide +kernel
theorem dL_heightUnder_18 : decode cL_heightUnder 18 = .ok (.ireturn, 1) := by decide +kernel
theorem dL_steepOver_0 : decode cL_steepOver 0 = .ok (.aload_n 2, 1) := by decide +kernel
theorem dL_steepOver_1 : decode cL_steepOver 1 = .ok (.iconst 0, 1) := by decide +kernel
theorem dL_steepOver_2 : decode cL_steepOver 2 = .ok (.aload_n 0, 1) := by decide +kernel
theorem dL_steepOver_3 : decode cL_steepOver 3 = .ok (.iload_n 1, 1) := by decide +kernel
theorem dL_steepOver_4 : decode cL_steepOver 4 = .ok (.invokevirtual 98, 3) := by decide +kernel
theorem dL_steepOver_7 : decode cL_steepOver 7 = .ok (.lastore, 1) := by decide +kernel
theorem dL_steepOver_8 : decode cL_steepOver 8 = .ok (.goto 9, 3) := by decide +kernel
theorem dL_steepOver_11 : decode cL_steepOver 11 = .ok (.astore_n 3, 1) := by decide +kernel
theorem dL_steepOver_12 : decode cL_steepOver 12 = .ok (.iconst 1, 1) := by decide +kernel
theorem dL_steepOver_13 : decode cL_steepOver 13 = .ok (.ireturn, 1) := by decide +kernel
theorem dL_steepOver_14 : decode cL_steepOver 14 = .ok (.astore_n 3, 1) := by decide +kernel
theorem dL_steepOver_15 : decode cL_steepOver 15 = .ok (.iconst 2, 1) := by decide +kernel
theorem dL_steepOver_16 : decode cL_steepOver 16 = .ok (.ireturn, 1) := by decide +kernel
theorem dL_steepOver_17 : decode cL_steepOver 17 = .ok (.iconst 0, 1) := by decide +kernel
theorem dL_steepOver_18 : decode cL_steepOver 18 = .ok (.ireturn, 1) := by decide +kernel
theorem dL_steepUnder_0 : decode cL_steepUnder 0 = .ok (.aload_n 2, 1) := by decide +kernel
theorem dL_steepUnder_1 : decode cL_steepUnder 1 = .ok (.iconst 0, 1) := by decide +kernel
theorem dL_steepUnder_2 : decode cL_steepUnder 2 = .ok (.aload_n 0, 1) := by decide +kernel
theorem dL_steepUnder_3 : decode cL_steepUnder 3 = .ok (.iload_n 1, 1) := by decide +kernel
theorem dL_steepUnder_4 : decode cL_steepUnder 4 = .ok (.invokevirtual 101, 3) := by decide +kernel
theorem dL_steepUnder_7 : decode cL_steepUnder 7 = .ok (.lastore, 1) := by decide +kernel
theorem dL_steepUnder_8 : decode cL_steepUnder 8 = .ok (.goto 9, 3) := by decide +kernel
theorem dL_steepUnder_11 : decode cL_steepUnder 11 = .ok (.astore_n 3, 1) := by decide +kernel
theorem dL_steepUnder_12 : decode cL_steepUnder 12 = .ok (.iconst 1, 1) := by decide +kernel
theorem dL_steepUnder_13 : decode cL_steepUnder 13 = .ok (.ireturn, 1) := by decide +kernel
theorem dL_steepUnder_14 : decode cL_steepUnder 14 = .ok (.astore_n 3, 1) := by decide +kernel
theorem dL_steepUnder_15 : decode cL_steepUnder 15 = .ok (.iconst 2, 1) := by decide +kernel
theorem dL_steepUnder_16 : decode cL_steepUnder 16 = .ok (.ireturn, 1) := by decide +kernel
theorem dL_steepUnder_17 : decode cL_steepUnder 17 = .ok (.iconst 0, 1) := by decide +kernel
theorem dL_steepUnder_18 : decode cL_steepUnder 18 = .ok (.ireturn, 1) := by decide +kernel
theorem dL_wish_0 : decode cL_wish 0 = .ok (.aload 4, 2) := by decide +kernel
theorem dL_wish_2 : decode cL_wish 2 = .ok (.iconst 0, 1) := by decide +kernel
theorem dL_wish_3 : decode cL_wish 3 = .ok (.aload_n 0, 1) := by decide +kernel
theorem dL_wish_4 : decode cL_wish 4 = .ok (.iload_n 1, 1) := by decide +kernel
theorem dL_wish_5 : decode cL_wish 5 = .ok (.iload_n 2, 1) := by decide +kernel
theorem dL_wish_6 : decode cL_wish 6 = .ok (.iload_n 3, 1) := by decide +kernel
theorem dL_wish_7 : decode cL_wish 7 = .ok (.invokevirtual 104, 3) := by decide +kernel
theorem dL_wish_10 : decode cL_wish 10 = .ok (.i2l, 1) := by decide +kernel
theorem dL_wish_11 : decode cL_wish 11 = .ok (.lastore, 1) := by decide +kernel
theorem dL_wish_12 : decode cL_wish 12 = .ok (.goto 11, 3) := by decide +kernel
theorem dL_wish_15 : decode cL_wish 15 = .ok (.astore 5, 2) := by decide +kernel
theorem dL_wish_17 : decode cL_wish 17 = .ok (.iconst 1, 1) := by decide +kernel
theorem dL_wish_18 : decode cL_wish 18 = .ok (.ireturn, 1) := by decide +kernel
theorem dL_wish_19 : decode cL_wish 19 = .ok (.astore 5, 2) := by decide +kernel
theorem dL_wish_21 : decode cL_wish 21 = .ok (.iconst 2, 1) := by decide +kernel
theorem dL_wish_22 : decode cL_wish 22 = .ok (.ireturn, 1) := by decide +kernel
theorem dL_wish_23 : decode cL_wish 23 = .ok (.iconst 0, 1) := by decide +kernel
theorem dL_wish_24 : decode cL_wish 24 = .ok (.ireturn, 1) := by decide +kernel
theorem dL_make_0 : decode cL_make 0 = .ok (.aload 4, 2) := by decide +kernel
theorem dL_make_2 : decode cL_make 2 = .ok (.iconst 0, 1) := by decide +kernel
theorem dL_make_3 : decode cL_make 3 = .ok (.aload_n 0, 1) := by decide +kernel
theorem dL_make_4 : decode cL_make 4 = .ok (.iload_n 1, 1) := by decide +kernel
theorem dL_make_5 : decode cL_make 5 = .ok (.iload_n 2, 1) := by decide +kernel
theorem dL_make_6 : decode cL_make 6 = .ok (.iload_n 3, 1) := by decide +kernel
theorem dL_make_7 : decode cL_make 7 = .ok (.invokevirtual 108, 3) := by decide +kernel
theorem dL_make_10 : decode cL_make 10 = .ok (.i2l, 1) := by decide +kernel
theorem dL_make_11 : decode cL_make 11 = .ok (.lastore, 1) := by decide +kernel
theorem dL_make_12 : decode cL_make 12 = .ok (.goto 19, 3) := by decide +kernel
theorem dL_make_15 : decode cL_make 15 = .ok (.astore 5, 2) := by decide +kernel
theorem dL_make_17 : decode cL_make 17 = .ok (.iconst 1, 1) := by decide +kernel
theorem dL_make_18 : decode cL_make 18 = .ok (.ireturn, 1) := by decide +kernel
theorem dL_make_19 : decode cL_make 19 = .ok (.astore 5, 2) := by decide +kernel
theorem dL_make_21 : decode cL_make 21 = .ok (.iconst 2, 1) := by decide +kernel
theorem dL_make_22 : decode cL_make 22 = .ok (.ireturn, 1) := by decide +kernel
theorem dL_make_23 : decode cL_make 23 = .ok (.astore 5, 2) := by decide +kernel
theorem dL_make_25 : decode cL_make 25 = .ok (.iconst 3, 1) := by decide +kernel
theorem dL_make_26 : decode cL_make 26 = .ok (.ireturn, 1) := by decide +kernel
theorem dL_make_27 : decode cL_make 27 = .ok (.astore 5, 2) := by decide +kernel
theorem dL_make_29 : decode cL_make 29 = .ok (.iconst 4, 1) := by decide +kernel
theorem dL_make_30 : decode cL_make 30 = .ok (.ireturn, 1) := by decide +kernel
theorem dL_make_31 : decode cL_make 31 = .ok (.iconst 0, 1) := by decide +kernel
theorem dL_make_32 : decode cL_make 32 = .ok (.ireturn, 1) := by decide +kernel
theorem dL_drum_0 : decode cL_drum 0 = .ok (.aload_n 2, 1) := by decide +kernel
theorem dL_drum_1 : decode cL_drum 1 = .ok (.iconst 0, 1) := by decide +kernel
theorem dL_drum_2 : decode cL_drum 2 = .ok (.aload_n 0, 1) := by decide +kernel
theorem dL_drum_3 : decode cL_drum 3 = .ok (.iload_n 1, 1) := by decide +kernel
theorem dL_drum_4 : decode cL_drum 4 = .ok (.invokevirtual 112, 3) := by decide +kernel
theorem dL_drum_7 : decode cL_drum 7 = .ok (.i2l, 1) := by decide +kernel
theorem dL_drum_8 : decode cL_drum 8 = .ok (.lastore, 1) := by decide +kernel
theorem dL_drum_9 : decode cL_drum 9 = .ok (.goto 9, 3) := by decide +kernel
theorem dL_drum_12 : decode cL_drum 12 = .ok (.astore_n 3, 1) := by decide +kernel
theorem dL_drum_13 : decode cL_drum 13 = .ok (.iconst 1, 1) := by decide +kernel
theorem dL_drum_14 : decode cL_drum 14 = .ok (.ireturn, 1) := by decide +kernel
theorem dL_drum_15 : decode cL_drum 15 = .ok (.astore_n 3, 1) := by decide +kernel
theorem dL_drum_16 : decode cL_drum 16 = .ok (.iconst 2, 1) := by decide +kernel
theorem dL_drum_17 : decode cL_drum 17 = .ok (.ireturn, 1) := by decide +kernel
theorem dL_drum_18 : decode cL_drum 18 = .ok (.iconst 0, 1) := by decide +kernel
theorem dL_drum_19 : decode cL_drum 19 = .ok (.ireturn, 1) := by decide +kernel
theorem dL_pin_0 : decode cL_pin 0 = .ok (.aload 5, 2) := by decide +kernel
theorem dL_pin_2 : decode cL_pin 2 = .ok (.iconst 0, 1) := by decide +kernel
theorem dL_pin_3 : decode cL_pin 3 = .ok (.aload_n 0, 1) := by decide +kernel
theorem dL_pin_4 : decode cL_pin 4 = .ok (.iload_n 1, 1) := by decide +kernel
theorem dL_pin_5 : decode cL_pin 5 = .ok (.iload_n 2, 1) := by decide +kernel
theorem dL_pin_6 : decode cL_pin 6 = .ok (.iload_n 3, 1) := by decide +kernel
theorem dL_pin_7 : decode cL_pin 7 = .ok (.iload 4, 2) := by decide +kernel
theorem dL_pin_9 : decode cL_pin 9 = .ok (.invokevirtual 115, 3) := by decide +kernel
theorem dL_pin_12 : decode cL_pin 12 = .ok (.ifCond .eq 7, 3) := by decide +kernel
theorem dL_pin_15 : decode cL_pin 15 = .ok (.lconst 1, 1) := by decide +kernel
theorem dL_pin_16 : decode cL_pin 16 = .ok (.goto 4, 3) := by decide +kernel
theorem dL_pin_19 : decode cL_pin 19 = .ok (.lconst 0, 1) := by decide +kernel
theorem dL_pin_20 : decode cL_pin 20 = .ok (.lastore, 1) := by decide +kernel
theorem dL_pin_21 : decode cL_pin 21 = .ok (.goto 11, 3) := by decide +kernel
theorem dL_pin_24 : decode cL_pin 24 = .ok (.astore 6, 2) := by decide +kernel
theorem dL_pin_26 : decode cL_pin 26 = .ok (.iconst 1, 1) := by decide +kernel
theorem dL_pin_27 : decode cL_pin 27 = .ok (.ireturn, 1) := by decide +kernel
theorem dL_pin_28 : decode cL_pin 28 = .ok (.astore 6, 2) := by decide +kernel
theorem dL_pin_30 : decode cL_pin 30 = .ok (.iconst 2, 1) := by decide +kernel
theorem dL_pin_31 : decode cL_pin 31 = .ok (.ireturn, 1) := by decide +kernel
theorem dL_pin_32 : decode cL_pin 32 = .ok (.iconst 0, 1) := by decide +kernel
theorem dL_pin_33 : decode cL_pin 33 = .ok (.ireturn, 1) := by decide +kernel
theorem dL_struck_0 : decode cL_struck 0 = .ok (.aload_n 3, 1) := by decide +kernel
theorem dL_struck_1 : decode cL_struck 1 = .ok (.iconst 0, 1) := by decide +kernel
theorem dL_struck_2 : decode cL_struck 2 = .ok (.aload_n 0, 1) := by decide +kernel
theorem dL_struck_3 : decode cL_struck 3 = .ok (.iload_n 1, 1) := by decide +kernel
theorem dL_struck_4 : decode cL_struck 4 = .ok (.iload_n 2, 1) := by decide +kernel
theorem dL_struck_5 : decode cL_struck 5 = .ok (.invokevirtual 119, 3) := by decide +kernel
theorem dL_struck_8 : decode cL_struck 8 = .ok (.i2l, 1) := by decide +kernel
theorem dL_struck_9 : decode cL_struck 9 = .ok (.lastore, 1) := by decide +kernel
theorem dL_struck_10 : decode cL_struck 10 = .ok (.goto 11, 3) := by decide +kernel
theorem dL_struck_13 : decode cL_struck 13 = .ok (.astore 4, 2) := by decide +kernel
theorem dL_struck_15 : decode cL_struck 15 = .ok (.iconst 1, 1) := by decide +kernel
theorem dL_struck_16 : decode cL_struck 16 = .ok (.ireturn, 1) := by decide +kernel
theorem dL_struck_17 : decode cL_struck 17 = .ok (.astore 4, 2) := by decide +kernel
theorem dL_struck_19 : decode cL_struck 19 = .ok (.iconst 2, 1) := by decide +kernel
theorem dL_struck_20 : decode cL_struck 20 = .ok (.ireturn, 1) := by decide +kernel
theorem dL_struck_21 : decode cL_struck 21 = .ok (.iconst 0, 1) := by decide +kernel
theorem dL_struck_22 : decode cL_struck 22 = .ok (.ireturn, 1) := by decide +kernel
theorem dL_bars_0 : decode cL_bars 0 = .ok (.aload 5, 2) := by decide +kernel
theorem dL_bars_2 : decode cL_bars 2 = .ok (.iconst 0, 1) := by decide +kernel
theorem dL_bars_3 : decode cL_bars 3 = .ok (.aload_n 0, 1) := by decide +kernel
theorem dL_bars_4 : decode cL_bars 4 = .ok (.iload_n 1, 1) := by decide +kernel
theorem dL_bars_5 : decode cL_bars 5 = .ok (.iload_n 2, 1) := by decide +kernel
theorem dL_bars_6 : decode cL_bars 6 = .ok (.iload_n 3, 1) := by decide +kernel
theorem dL_bars_7 : decode cL_bars 7 = .ok (.iload 4, 2) := by decide +kernel
theorem dL_bars_9 : decode cL_bars 9 = .ok (.invokevirtual 122, 3) := by decide +kernel
theorem dL_bars_12 : decode cL_bars 12 = .ok (.i2l, 1) := by decide +kernel
theorem dL_bars_13 : decode cL_bars 13 = .ok (.lastore, 1) := by decide +kernel
theorem dL_bars_14 : decode cL_bars 14 = .ok (.goto 7, 3) := by decide +kernel
theorem dL_bars_17 : decode cL_bars 17 = .ok (.astore 6, 2) := by decide +kernel
theorem dL_bars_19 : decode cL_bars 19 = .ok (.iconst 1, 1) := by decide +kernel
theorem dL_bars_20 : decode cL_bars 20 = .ok (.ireturn, 1) := by decide +kernel
theorem dL_bars_21 : decode cL_bars 21 = .ok (.iconst 0, 1) := by decide +kernel
theorem dL_bars_22 : decode cL_bars 22 = .ok (.ireturn, 1) := by decide +kernel
theorem dL_limitOver_0 : decode cL_limitOver 0 = .ok (.aload 6, 2) := by decide +kernel
theorem dL_limitOver_2 : decode cL_limitOver 2 = .ok (.iconst 0, 1) := by decide +kernel
theorem dL_limitOver_3 : decode cL_limitOver 3 = .ok (.aload_n 0, 1) := by decide +kernel
theorem dL_limitOver_4 : decode cL_limitOver 4 = .ok (.iload_n 1, 1) := by decide +kernel
theorem dL_limitOver_5 : decode cL_limitOver 5 = .ok (.iload_n 2, 1) := by decide +kernel
theorem dL_limitOver_6 : decode cL_limitOver 6 = .ok (.iload_n 3, 1) := by decide +kernel
theorem dL_limitOver_7 : decode cL_limitOver 7 = .ok (.iload 4, 2) := by decide +kernel
theorem dL_limitOver_9 : decode cL_limitOver 9 = .ok (.iload 5, 2) := by decide +kernel
theorem dL_limitOver_11 : decode cL_limitOver 11 = .ok (.invokevirtual 126, 3) := by decide +kernel
theorem dL_limitOver_14 : decode cL_limitOver 14 = .ok (.lastore, 1) := by decide +kernel
theorem dL_limitOver_15 : decode cL_limitOver 15 = .ok (.goto 11, 3) := by decide +kernel
theorem dL_limitOver_18 : decode cL_limitOver 18 = .ok (.astore 7, 2) := by decide +kernel
theorem dL_limitOver_20 : decode cL_limitOver 20 = .ok (.iconst 1, 1) := by decide +kernel
theorem dL_limitOver_21 : decode cL_limitOver 21 = .ok (.ireturn, 1) := by decide +kernel
theorem dL_limitOver_22 : decode cL_limitOver 22 = .ok (.astore 7, 2) := by decide +kernel
theorem dL_limitOver_24 : decode cL_limitOver 24 = .ok (.iconst 2, 1) := by decide +kernel
theorem dL_limitOver_25 : decode cL_limitOver 25 = .ok (.ireturn, 1) := by decide +kernel
theorem dL_limitOver_26 : decode cL_limitOver 26 = .ok (.iconst 0, 1) := by decide +kernel
theorem dL_limitOver_27 : decode cL_limitOver 27 = .ok (.ireturn, 1) := by decide +kernel
theorem dL_limitUnder_0 : decode cL_limitUnder 0 = .ok (.aload 6, 2) := by decide +kernel
theorem dL_limitUnder_2 : decode cL_limitUnder 2 = .ok (.iconst 0, 1) := by decide +kernel
theorem dL_limitUnder_3 : decode cL_limitUnder 3 = .ok (.aload_n 0, 1) := by decide +kernel
theorem dL_limitUnder_4 : decode cL_limitUnder 4 = .ok (.iload_n 1, 1) := by decide +kernel
theorem dL_limitUnder_5 : decode cL_limitUnder 5 = .ok (.iload_n 2, 1) := by decide +kernel
theorem dL_limitUnder_6 : decode cL_limitUnder 6 = .ok (.iload_n 3, 1) := by decide +kernel
theorem dL_limitUnder_7 : decode cL_limitUnder 7 = .ok (.iload 4, 2) := by decide +kernel
theorem dL_limitUnder_9 : decode cL_limitUnder 9 = .ok (.iload 5, 2) := by decide +kernel
theorem dL_limitUnder_11 : decode cL_limitUnder 11 = .ok (.invokevirtual 130, 3) := by decide +kernel
theorem dL_limitUnder_14 : decode cL_limitUnder 14 = .ok (.lastore, 1) := by decide +kernel
theorem dL_limitUnder_15 : decode cL_limitUnder 15 = .ok (.goto 11, 3) := by decide +kernel
theorem dL_limitUnder_18 : decode cL_limitUnder 18 = .ok (.astore 7, 2) := by decide +kernel
theorem dL_limitUnder_20 : decode cL_limitUnder 20 = .ok (.iconst 1, 1) := by decide +kernel
theorem dL_limitUnder_21 : decode cL_limitUnder 21 = .ok (.ireturn, 1) := by decide +kernel
theorem dL_limitUnder_22 : decode cL_limitUnder 22 = .ok (.astore 7, 2) := by decide +kernel
theorem dL_limitUnder_24 : decode cL_limitUnder 24 = .ok (.iconst 2, 1) := by decide +kernel
theorem dL_limitUnder_25 : decode cL_limitUnder 25 = .ok (.ireturn, 1) := by decide +kernel
theorem dL_limitUnder_26 : decode cL_limitUnder 26 = .ok (.iconst 0, 1) := by decide +kernel
theorem dL_limitUnder_27 : decode cL_limitUnder 27 = .ok (.ireturn, 1) := by decide +kernel
theorem dL_angleOver_0 : decode cL_angleOver 0 = .ok (.aload 6, 2) := by decide +kernel
theorem dL_angleOver_2 : decode cL_angleOver 2 = .ok (.iconst 0, 1) := by decide +kernel
theorem dL_angleOver_3 : decode cL_angleOver 3 = .ok (.aload_n 0, 1) := by decide +kernel
theorem dL_angleOver_4 : decode cL_angleOver 4 = .ok (.iload_n 1, 1) := by decide +kernel
theorem dL_angleOver_5 : decode cL_angleOver 5 = .ok (.iload_n 2, 1) := by decide +kernel
theorem dL_angleOver_6 : decode cL_angleOver 6 = .ok (.iload_n 3, 1) := by decide +kernel
theorem dL_angleOver_7 : decode cL_angleOver 7 = .ok (.iload 4, 2) := by decide +kernel
theorem dL_angleOver_9 : decode cL_angleOver 9 = .ok (.iload 5, 2) := by decide +kernel
theorem dL_angleOver_11 : decode cL_angleOver 11 = .ok (.invokevirtual 133, 3) := by decide +kernel
theorem dL_angleOver_14 : decode cL_angleOver 14 = .ok (.lastore, 1) := by decide +kernel
theorem dL_angleOver_15 : decode cL_angleOver 15 = .ok (.goto 11, 3) := by decide +kernel
theorem dL_angleOver_18 : decode cL_angleOver 18 = .ok (.astore 7, 2) := by decide +kernel
theorem dL_angleOver_20 : decode cL_angleOver 20 = .ok (.iconst 1, 1) := by decide +kernel
theorem dL_angleOver_21 : decode cL_angleOver 21 = .ok (.ireturn, 1) := by decide +kernel
theorem dL_angleOver_22 : decode cL_angleOver 22 = .ok (.astore 7, 2) := by decide +kernel
theorem dL_angleOver_24 : decode cL_angleOver 24 = .ok (.iconst 2, 1) := by decide +kernel
theorem dL_angleOver_25 : decode cL_angleOver 25 = .ok (.ireturn, 1) := by decide +kernel
theorem dL_angleOver_26 : decode cL_angleOver 26 = .ok (.iconst 0, 1) := by decide +kernel
theorem dL_angleOver_27 : decode cL_angleOver 27 = .ok (.ireturn, 1) := by decide +kernel
theorem dL_angleUnder_0 : decode cL_angleUnder 0 = .ok (.aload 6, 2) := by decide +kernel
theorem dL_angleUnder_2 : decode cL_angleUnder 2 = .ok (.iconst 0, 1) := by decide +kernel
theorem dL_angleUnder_3 : decode cL_angleUnder 3 = .ok (.aload_n 0, 1) := by decide +kernel
theorem dL_angleUnder_4 : decode cL_angleUnder 4 = .ok (.iload_n 1, 1) := by decide +kernel
theorem dL_angleUnder_5 : decode cL_angleUnder 5 = .ok (.iload_n 2, 1) := by decide +kernel
theorem dL_angleUnder_6 : decode cL_angleUnder 6 = .ok (.iload_n 3, 1) := by decide +kernel
theorem dL_angleUnder_7 : decode cL_angleUnder 7 = .ok (.iload 4, 2) := by decide +kernel
theorem dL_angleUnder_9 : decode cL_angleUnder 9 = .ok (.iload 5, 2) := by decide +kernel
theorem dL_angleUnder_11 : decode cL_angleUnder 11 = .ok (.invokevirtual 136, 3) := by decide +kernel
theorem dL_angleUnder_14 : decode cL_angleUnder 14 = .ok (.lastore, 1) := by decide +kernel
theorem dL_angleUnder_15 : decode cL_angleUnder 15 = .ok (.goto 11, 3) := by decide +kernel
theorem dL_angleUnder_18 : decode cL_angleUnder 18 = .ok (.astore 7, 2) := by decide +kernel
theorem dL_angleUnder_20 : decode cL_angleUnder 20 = .ok (.iconst 1, 1) := by decide +kernel
theorem dL_angleUnder_21 : decode cL_angleUnder 21 = .ok (.ireturn, 1) := by decide +kernel
theorem dL_angleUnder_22 : decode cL_angleUnder 22 = .ok (.astore 7, 2) := by decide +kernel
theorem dL_angleUnder_24 : decode cL_angleUnder 24 = .ok (.iconst 2, 1) := by decide +kernel
theorem dL_angleUnder_25 : decode cL_angleUnder 25 = .ok (.ireturn, 1) := by decide +kernel
theorem dL_angleUnder_26 : decode cL_angleUnder 26 = .ok (.iconst 0, 1) := by decide +kernel
theorem dL_angleUnder_27 : decode cL_angleUnder 27 = .ok (.ireturn, 1) := by decide +kernel
theorem dL_teeth_0 : decode cL_teeth 0 = .ok (.aload 4, 2) := by decide +kernel
theorem dL_teeth_2 : decode cL_teeth 2 = .ok (.iconst 0, 1) := by decide +kernel
theorem dL_teeth_3 : decode cL_teeth 3 = .ok (.aload_n 0, 1) := by decide +kernel
theorem dL_teeth_4 : decode cL_teeth 4 = .ok (.iload_n 1, 1) := by decide +kernel
theorem dL_teeth_5 : decode cL_teeth 5 = .ok (.iload_n 2, 1) := by decide +kernel
theorem dL_teeth_6 : decode cL_teeth 6 = .ok (.iload_n 3, 1) := by decide +kernel
theorem dL_teeth_7 : decode cL_teeth 7 = .ok (.invokevirtual 139, 3) := by decide +kernel
theorem dL_teeth_10 : decode cL_teeth 10 = .ok (.i2l, 1) := by decide +kernel
theorem dL_teeth_11 : decode cL_teeth 11 = .ok (.lastore, 1) := by decide +kernel
theorem dL_teeth_12 : decode cL_teeth 12 = .ok (.goto 7, 3) := by decide +kernel
theorem dL_teeth_15 : decode cL_teeth 15 = .ok (.astore 5, 2) := by decide +kernel
theorem dL_teeth_17 : decode cL_teeth 17 = .ok (.iconst 1, 1) := by decide +kernel
theorem dL_teeth_18 : decode cL_teeth 18 = .ok (.ireturn, 1) := by decide +kernel
theorem dL_teeth_19 : decode cL_teeth 19 = .ok (.iconst 0, 1) := by decide +kernel
theorem dL_teeth_20 : decode cL_teeth 20 = .ok (.ireturn, 1) := by decide +kernel
theorem dL_pairs_0 : decode cL_pairs 0 = .ok (.aload_n 3, 1) := by decide +kernel
theorem dL_pairs_1 : decode cL_pairs 1 = .ok (.iconst 0, 1) := by decide +kernel
theorem dL_pairs_2 : decode cL_pairs 2 = .ok (.aload_n 0, 1) := by decide +kernel
theorem dL_pairs_3 : decode cL_pairs 3 = .ok (.iload_n 1, 1) := by decide +kernel
theorem dL_pairs_4 : decode cL_pairs 4 = .ok (.iload_n 2, 1) := by decide +kernel
theorem dL_pairs_5 : decode cL_pairs 5 = .ok (.invokevirtual 143, 3) := by decide +kernel
theorem dL_pairs_8 : decode cL_pairs 8 = .ok (.i2l, 1) := by decide +kernel
theorem dL_pairs_9 : decode cL_pairs 9 = .ok (.lastore, 1) := by decide +kernel
theorem dL_pairs_10 : decode cL_pairs 10 = .ok (.goto 7, 3) := by decide +kernel
theorem dL_pairs_13 : decode cL_pairs 13 = .ok (.astore 4, 2) := by decide +kernel
theorem dL_pairs_15 : decode cL_pairs 15 = .ok (.iconst 1, 1) := by decide +kernel
theorem dL_pairs_16 : decode cL_pairs 16 = .ok (.ireturn, 1) := by decide +kernel
theorem dL_pairs_17 : decode cL_pairs 17 = .ok (.iconst 0, 1) := by decide +kernel
theorem dL_pairs_18 : decode cL_pairs 18 = .ok (.ireturn, 1) := by decide +kernel
theorem dL_drivenShare_0 : decode cL_drivenShare 0 = .ok (.aload_n 1, 1) := by decide +kernel
theorem dL_drivenShare_1 : decode cL_drivenShare 1 = .ok (.iconst 0, 1) := by decide +kernel
theorem dL_drivenShare_2 : decode cL_drivenShare 2 = .ok (.aload_n 0, 1) := by decide +kernel
theorem dL_drivenShare_3 : decode cL_drivenShare 3 = .ok (.invokevirtual 146, 3) := by decide +kernel
theorem dL_drivenShare_6 : decode cL_drivenShare 6 = .ok (.f2d, 1) := by decide +kernel
theorem dL_drivenShare_7 : decode cL_drivenShare 7 = .ok (.dastore, 1) := by decide +kernel
theorem dL_drivenShare_8 : decode cL_drivenShare 8 = .ok (.goto 6, 3) := by decide +kernel
theorem dL_drivenShare_11 : decode cL_drivenShare 11 = .ok (.astore_n 2, 1) := by decide +kernel
theorem dL_drivenShare_12 : decode cL_drivenShare 12 = .ok (.iconst 1, 1) := by decide +kernel
theorem dL_drivenShare_13 : decode cL_drivenShare 13 = .ok (.ireturn, 1) := by decide +kernel
theorem dL_drivenShare_14 : decode cL_drivenShare 14 = .ok (.iconst 0, 1) := by decide +kernel
theorem dL_drivenShare_15 : decode cL_drivenShare 15 = .ok (.ireturn, 1) := by decide +kernel
theorem dL_meanWorn_0 : decode cL_meanWorn 0 = .ok (.aload_n 1, 1) := by decide +kernel
theorem dL_meanWorn_1 : decode cL_meanWorn 1 = .ok (.iconst 0, 1) := by decide +kernel
theorem dL_meanWorn_2 : decode cL_meanWorn 2 = .ok (.aload_n 0, 1) := by decide +kernel
theorem dL_meanWorn_3 : decode cL_meanWorn 3 = .ok (.invokevirtual 152, 3) := by decide +kernel
theorem dL_meanWorn_6 : decode cL_meanWorn 6 = .ok (.dastore, 1) := by decide +kernel
theorem dL_meanWorn_7 : decode cL_meanWorn 7 = .ok (.goto 6, 3) := by decide +kernel
theorem dL_meanWorn_10 : decode cL_meanWorn 10 = .ok (.astore_n 2, 1) := by decide +kernel
theorem dL_meanWorn_11 : decode cL_meanWorn 11 = .ok (.iconst 1, 1) := by decide +kernel
theorem dL_meanWorn_12 : decode cL_meanWorn 12 = .ok (.ireturn, 1) := by decide +kernel
theorem dL_meanWorn_13 : decode cL_meanWorn 13 = .ok (.iconst 0, 1) := by decide +kernel
theorem dL_meanWorn_14 : decode cL_meanWorn 14 = .ok (.ireturn, 1) := by decide +kernel
theorem dL_law_0 : decode cL_law 0 = .ok (.new 8, 3) := by decide +kernel
theorem dL_law_3 : decode cL_law 3 = .ok (.dup, 1) := by decide +kernel
theorem dL_law_4 : decode cL_law 4 = .ok (.invokespecial 156, 3) := by decide +kernel
theorem dL_law_7 : decode cL_law 7 = .ok (.astore_n 1, 1) := by decide +kernel
theorem dL_law_8 : decode cL_law 8 = .ok (.new 157, 3) := by decide +kernel
theorem dL_law_11 : decode cL_law 11 = .ok (.dup, 1) := by decide +kernel
theorem dL_law_12 : decode cL_law 12 = .ok (.invokespecial 159, 3) := by decide +kernel
theorem dL_law_15 : decode cL_law 15 = .ok (.astore_n 2, 1) := by decide +kernel
theorem dL_law_16 : decode cL_law 16 = .ok (.iconst 1, 1) := by decide +kernel
theorem dL_law_17 : decode cL_law 17 = .ok (.newarray .long, 2) := by decide +kernel
theorem dL_law_19 : decode cL_law 19 = .ok (.astore_n 3, 1) := by decide +kernel
theorem dL_law_20 : decode cL_law 20 = .ok (.iconst 1, 1) := by decide +kernel
theorem dL_law_21 : decode cL_law 21 = .ok (.newarray .double, 2) := by decide +kernel
theorem dL_law_23 : decode cL_law 23 = .ok (.astore 4, 2) := by decide +kernel
theorem dL_law_25 : decode cL_law 25 = .ok (.iconst 0, 1) := by decide +kernel
theorem dL_law_26 : decode cL_law 26 = .ok (.istore 5, 2) := by decide +kernel
theorem dL_law_28 : decode cL_law 28 = .ok (.iload 5, 2) := by decide +kernel
theorem dL_law_30 : decode cL_law 30 = .ok (.aload_n 0, 1) := by decide +kernel
theorem dL_law_31 : decode cL_law 31 = .ok (.arraylength, 1) := by decide +kernel
theorem dL_law_32 : decode cL_law 32 = .ok (.bipush 6, 2) := by decide +kernel
theorem dL_law_34 : decode cL_law 34 = .ok (.isub, 1) := by decide +kernel
theorem dL_law_35 : decode cL_law 35 = .ok (.if_icmp .gt 3117, 3) := by decide +kernel
theorem dL_law_38 : decode cL_law 38 = .ok (.aload_n 0, 1) := by decide +kernel
theorem dL_law_39 : decode cL_law 39 = .ok (.iload 5, 2) := by decide +kernel
theorem dL_law_41 : decode cL_law 41 = .ok (.iaload, 1) := by decide +kernel
theorem dL_law_42 : decode cL_law 42 = .ok (.bipush 63, 2) := by decide +kernel
theorem dL_law_44 : decode cL_law 44 = .ok (.iand, 1) := by decide +kernel
theorem dL_law_45 : decode cL_law 45 = .ok (.tableswitch 3101 0 41 #[183, 227, 333, 437, 528, 596, 664, 732, 787, 842, 909, 976, 1032, 1045, 1100, 1155, 1218, 1274, 1329, 1384, 1440, 1534, 1590, 1645, 1700, 1755, 1810, 1890, 1972, 2028, 2143, 2211, 2303, 2422, 2541, 2660, 2779, 2875, 2943, 2957, 3023, 3088], 183) := by decide +kernel
theorem dL_law_228 : decode cL_law 228 = .ok (.aload_n 1, 1) := by decide +kernel
theorem dL_law_229 : decode cL_law 229 = .ok (.aload_n 3, 1) := by decide +kernel
theorem dL_law_230 : decode cL_law 230 = .ok (.invokestatic 160, 3) := by decide +kernel
theorem dL_law_233 : decode cL_law 233 = .ok (.istore 6, 2) := by decide +kernel
theorem dL_law_235 : decode cL_law 235 = .ok (.aload_n 2, 1) := by decide +kernel
theorem dL_law_236 : decode cL_law 236 = .ok (.invokevirtual 165, 3) := by decide +kernel
theorem dL_law_239 : decode cL_law 239 = .ok (.istore 7, 2) := by decide +kernel
theorem dL_law_241 : decode cL_law 241 = .ok (.aload_n 2, 1) := by decide +kernel
theorem dL_law_242 : decode cL_law 242 = .ok (.invokevirtual 166, 3) := by decide +kernel
theorem dL_law_245 : decode cL_law 245 = .ok (.iload 6, 2) := by decide +kernel
theorem dL_law_247 : decode cL_law 247 = .ok (.if_icmp .eq 5, 3) := by decide +kernel
theorem dL_law_250 : decode cL_law 250 = .ok (.iconst 0, 1) := by decide +kernel
theorem dL_law_251 : decode cL_law 251 = .ok (.ireturn, 1) := by decide +kernel
theorem dL_law_252 : decode cL_law 252 = .ok (.iload 6, 2) := by decide +kernel
theorem dL_law_254 : decode cL_law 254 = .ok (.ifCond .ne 15, 3) := by decide +kernel
theorem dL_law_257 : decode cL_law 257 = .ok (.aload_n 3, 1) := by decide +kernel
theorem dL_law_258 : decode cL_law 258 = .ok (.iconst 0, 1) := by decide +kernel
theorem dL_law_259 : decode cL_law 259 = .ok (.laload, 1) := by decide +kernel
theorem dL_law_260 : decode cL_law 260 = .ok (.iload 7, 2) := by decide +kernel
theorem dL_law_262 : decode cL_law 262 = .ok (.i2l, 1) := by decide +kernel
theorem dL_law_263 : decode cL_law 263 = .ok (.lcmp, 1) := by decide +kernel
theorem dL_law_264 : decode cL_law 264 = .ok (.ifCond .eq 5, 3) := by decide +kernel
theorem dL_law_267 : decode cL_law 267 = .ok (.iconst 0, 1) := by decide +kernel
theorem dL_law_268 : decode cL_law 268 = .ok (.ireturn, 1) := by decide +kernel
theorem dL_law_269 : decode cL_law 269 = .ok (.goto 2877, 3) := by decide +kernel
theorem dL_law_272 : decode cL_law 272 = .ok (.aload_n 1, 1) := by decide +kernel
theorem dL_law_273 : decode cL_law 273 = .ok (.aload_n 0, 1) := by decide +kernel
theorem dL_law_274 : decode cL_law 274 = .ok (.iload 5, 2) := by decide +kernel
theorem dL_law_276 : decode cL_law 276 = .ok (.iconst 1, 1) := by decide +kernel
theorem dL_law_277 : decode cL_law 277 = .ok (.iadd, 1) := by decide +kernel
theorem dL_law_278 : decode cL_law 278 = .ok (.iaload, 1) := by decide +kernel
theorem dL_law_279 : decode cL_law 279 = .ok (.i2c, 1) := by decide +kernel
theorem dL_law_280 : decode cL_law 280 = .ok (.aload_n 0, 1) := by decide +kernel
theorem dL_law_281 : decode cL_law 281 = .ok (.iload 5, 2) := by decide +kernel
theorem dL_law_283 : decode cL_law 283 = .ok (.iconst 2, 1) := by decide +kernel
theorem dL_law_284 : decode cL_law 284 = .ok (.iadd, 1) := by decide +kernel
theorem dL_law_285 : decode cL_law 285 = .ok (.iaload, 1) := by decide +kernel
theorem dL_law_286 : decode cL_law 286 = .ok (.aload_n 0, 1) := by decide +kernel
theorem dL_law_287 : decode cL_law 287 = .ok (.iload 5, 2) := by decide +kernel
theorem dL_law_289 : decode cL_law 289 = .ok (.iconst 3, 1) := by decide +kernel
theorem dL_law_290 : decode cL_law 290 = .ok (.iadd, 1) := by decide +kernel
theorem dL_law_291 : decode cL_law 291 = .ok (.iaload, 1) := by decide +kernel
theorem dL_law_292 : decode cL_law 292 = .ok (.aload_n 0, 1) := by decide +kernel
theorem dL_law_293 : decode cL_law 293 = .ok (.iload 5, 2) := by decide +kernel
theorem dL_law_295 : decode cL_law 295 = .ok (.iconst 4, 1) := by decide +kernel
theorem dL_law_296 : decode cL_law 296 = .ok (.iadd, 1) := by decide +kernel
theorem dL_law_297 : decode cL_law 297 = .ok (.iaload, 1) := by decide +kernel
theorem dL_law_298 : decode cL_law 298 = .ok (.aload_n 0, 1) := by decide +kernel
theorem dL_law_299 : decode cL_law 299 = .ok (.iload 5, 2) := by decide +kernel
theorem dL_law_301 : decode cL_law 301 = .ok (.iconst 5, 1) := by decide +kernel
theorem dL_law_302 : decode cL_law 302 = .ok (.iadd, 1) := by decide +kernel
theorem dL_law_303 : decode cL_law 303 = .ok (.iaload, 1) := by decide +kernel
theorem dL_law_304 : decode cL_law 304 = .ok (.aload_n 3, 1) := by decide +kernel
theorem dL_law_305 : decode cL_law 305 = .ok (.invokestatic 169, 3) := by decide +kernel
theorem dL_law_308 : decode cL_law 308 = .ok (.istore 6, 2) := by decide +kernel
theorem dL_law_310 : decode cL_law 310 = .ok (.aload_n 2, 1) := by decide +kernel
theorem dL_law_311 : decode cL_law 311 = .ok (.aload_n 0, 1) := by decide +kernel
theorem dL_law_312 : decode cL_law 312 = .ok (.iload 5, 2) := by decide +kernel
theorem dL_law_314 : decode cL_law 314 = .ok (.iconst 1, 1) := by decide +kernel
theorem dL_law_315 : decode cL_law 315 = .ok (.iadd, 1) := by decide +kernel
theorem dL_law_316 : decode cL_law 316 = .ok (.iaload, 1) := by decide +kernel
theorem dL_law_317 : decode cL_law 317 = .ok (.i2c, 1) := by decide +kernel
theorem dL_law_318 : decode cL_law 318 = .ok (.aload_n 0, 1) := by decide +kernel
theorem dL_law_319 : decode cL_law 319 = .ok (.iload 5, 2) := by decide +kernel
theorem dL_law_321 : decode cL_law 321 = .ok (.iconst 2, 1) := by decide +kernel
theorem dL_law_322 : decode cL_law 322 = .ok (.iadd, 1) := by decide +kernel
theorem dL_law_323 : decode cL_law 323 = .ok (.iaload, 1) := by decide +kernel
theorem dL_law_324 : decode cL_law 324 = .ok (.aload_n 0, 1) := by decide +kernel
theorem dL_law_325 : decode cL_law 325 = .ok (.iload 5, 2) := by decide +kernel
theorem dL_law_327 : decode cL_law 327 = .ok (.iconst 3, 1) := by decide +kernel
theorem dL_law_328 : decode cL_law 328 = .ok (.iadd, 1) := by decide +kernel
theorem dL_law_329 : decode cL_law 329 = .ok (.iaload, 1) := by decide +kernel
theorem dL_law_330 : decode cL_law 330 = .ok (.aload_n 0, 1) := by decide +kernel
theorem dL_law_331 : decode cL_law 331 = .ok (.iload 5, 2) := by decide +kernel
theorem dL_law_333 : decode cL_law 333 = .ok (.iconst 4, 1) := by decide +kernel
theorem dL_law_334 : decode cL_law 334 = .ok (.iadd, 1) := by decide +kernel
theorem dL_law_335 : decode cL_law 335 = .ok (.iaload, 1) := by decide +kernel
theorem dL_law_336 : decode cL_law 336 = .ok (.aload_n 0, 1) := by decide +kernel
theorem dL_law_337 : decode cL_law 337 = .ok (.iload 5, 2) := by decide +kernel
theorem dL_law_339 : decode cL_law 339 = .ok (.iconst 5, 1) := by decide +kernel
theorem dL_law_340 : decode cL_law 340 = .ok (.iadd, 1) := by decide +kernel
theorem dL_law_341 : decode cL_law 341 = .ok (.iaload, 1) := by decide +kernel
theorem dL_law_342 : decode cL_law 342 = .ok (.invokevirtual 172, 3) := by decide +kernel
theorem dL_law_345 : decode cL_law 345 = .ok (.istore 7, 2) := by decide +kernel
theorem dL_law_347 : decode cL_law 347 = .ok (.aload_n 2, 1) := by decide +kernel
theorem dL_law_348 : decode cL_law 348 = .ok (.invokevirtual 166, 3) := by decide +kernel
theorem dL_law_351 : decode cL_law 351 = .ok (.iload 6, 2) := by decide +kernel
theorem dL_law_353 : decode cL_law 353 = .ok (.if_icmp .eq 5, 3) := by decide +kernel
theorem dL_law_356 : decode cL_law 356 = .ok (.iconst 0, 1) := by decide +kernel
theorem dL_law_357 : decode cL_law 357 = .ok (.ireturn, 1) := by decide +kernel
theorem dL_law_358 : decode cL_law 358 = .ok (.iload 6, 2) := by decide +kernel
theorem dL_law_360 : decode cL_law 360 = .ok (.ifCond .ne 15, 3) := by decide +kernel
theorem dL_law_363 : decode cL_law 363 = .ok (.aload_n 3, 1) := by decide +kernel
theorem dL_law_364 : decode cL_law 364 = .ok (.iconst 0, 1) := by decide +kernel
theorem dL_law_365 : decode cL_law 365 = .ok (.laload, 1) := by decide +kernel
theorem dL_law_366 : decode cL_law 366 = .ok (.iload 7, 2) := by decide +kernel
theorem dL_law_368 : decode cL_law 368 = .ok (.i2l, 1) := by decide +kernel
theorem dL_law_369 : decode cL_law 369 = .ok (.lcmp, 1) := by decide +kernel
theorem dL_law_370 : decode cL_law 370 = .ok (.ifCond .eq 5, 3) := by decide +kernel
theorem dL_law_373 : decode cL_law 373 = .ok (.iconst 0, 1) := by decide +kernel
theorem dL_law_374 : decode cL_law 374 = .ok (.ireturn, 1) := by decide +kernel
theorem dL_law_375 : decode cL_law 375 = .ok (.goto 2771, 3) := by decide +kernel
theorem dL_law_378 : decode cL_law 378 = .ok (.aload_n 1, 1) := by decide +kernel
theorem dL_law_379 : decode cL_law 379 = .ok (.aload_n 0, 1) := by decide +kernel
theorem dL_law_380 : decode cL_law 380 = .ok (.iload 5, 2) := by decide +kernel
theorem dL_law_382 : decode cL_law 382 = .ok (.iconst 1, 1) := by decide +kernel
theorem dL_law_383 : decode cL_law 383 = .ok (.iadd, 1) := by decide +kernel
theorem dL_law_384 : decode cL_law 384 = .ok (.iaload, 1) := by decide +kernel
theorem dL_law_385 : decode cL_law 385 = .ok (.aload_n 0, 1) := by decide +kernel
theorem dL_law_386 : decode cL_law 386 = .ok (.iload 5, 2) := by decide +kernel
theorem dL_law_388 : decode cL_law 388 = .ok (.iconst 2, 1) := by decide +kernel
theorem dL_law_389 : decode cL_law 389 = .ok (.iadd, 1) := by decide +kernel
theorem dL_law_390 : decode cL_law 390 = .ok (.iaload, 1) := by decide +kernel
theorem dL_law_391 : decode cL_law 391 = .ok (.aload_n 0, 1) := by decide +kernel
theorem dL_law_392 : decode cL_law 392 = .ok (.iload 5, 2) := by decide +kernel
theorem dL_law_394 : decode cL_law 394 = .ok (.iconst 3, 1) := by decide +kernel
theorem dL_law_395 : decode cL_law 395 = .ok (.iadd, 1) := by decide +kernel
theorem dL_law_396 : decode cL_law 396 = .ok (.iaload, 1) := by decide +kernel
theorem dL_law_397 : decode cL_law 397 = .ok (.aload_n 0, 1) := by decide +kernel
theorem dL_law_398 : decode cL_law 398 = .ok (.iload 5, 2) := by decide +kernel
theorem dL_law_400 : decode cL_law 400 = .ok (.iconst 4, 1) := by decide +kernel
theorem dL_law_401 : decode cL_law 401 = .ok (.iadd, 1) := by decide +kernel
theorem dL_law_402 : decode cL_law 402 = .ok (.iaload, 1) := by decide +kernel
theorem dL_law_403 : decode cL_law 403 = .ok (.aload_n 0, 1) := by decide +kernel
theorem dL_law_404 : decode cL_law 404 = .ok (.iload 5, 2) := by decide +kernel
theorem dL_law_406 : decode cL_law 406 = .ok (.iconst 5, 1) := by decide +kernel
theorem dL_law_407 : decode cL_law 407 = .ok (.iadd, 1) := by decide +kernel
theorem dL_law_408 : decode cL_law 408 = .ok (.iaload, 1) := by decide +kernel
theorem dL_law_409 : decode cL_law 409 = .ok (.aload_n 3, 1) := by decide +kernel
theorem dL_law_410 : decode cL_law 410 = .ok (.invokestatic 173, 3) := by decide +kernel
theorem dL_law_413 : decode cL_law 413 = .ok (.istore 6, 2) := by decide +kernel
theorem dL_law_415 : decode cL_law 415 = .ok (.aload_n 2, 1) := by decide +kernel
theorem dL_law_416 : decode cL_law 416 = .ok (.aload_n 0, 1) := by decide +kernel
theorem dL_law_417 : decode cL_law 417 = .ok (.iload 5, 2) := by decide +kernel
theorem dL_law_419 : decode cL_law 419 = .ok (.iconst 1, 1) := by decide +kernel
theorem dL_law_420 : decode cL_law 420 = .ok (.iadd, 1) := by decide +kernel
theorem dL_law_421 : decode cL_law 421 = .ok (.iaload, 1) := by decide +kernel
theorem dL_law_422 : decode cL_law 422 = .ok (.aload_n 0, 1) := by decide +kernel
theorem dL_law_423 : decode cL_law 423 = .ok (.iload 5, 2) := by decide +kernel
theorem dL_law_425 : decode cL_law 425 = .ok (.iconst 2, 1) := by decide +kernel
theorem dL_law_426 : decode cL_law 426 = .ok (.iadd, 1) := by decide +kernel
theorem dL_law_427 : decode cL_law 427 = .ok (.iaload, 1) := by decide +kernel
theorem dL_law_428 : decode cL_law 428 = .ok (.aload_n 0, 1) := by decide +kernel
theorem dL_law_429 : decode cL_law 429 = .ok (.iload 5, 2) := by decide +kernel
theorem dL_law_431 : decode cL_law 431 = .ok (.iconst 3, 1) := by decide +kernel
theorem dL_law_432 : decode cL_law 432 = .ok (.iadd, 1) := by decide +kernel
theorem dL_law_433 : decode cL_law 433 = .ok (.iaload, 1) := by decide +kernel
theorem dL_law_434 : decode cL_law 434 = .ok (.aload_n 0, 1) := by decide +kernel
theorem dL_law_435 : decode cL_law 435 = .ok (.iload 5, 2) := by decide +kernel
theorem dL_law_437 : decode cL_law 437 = .ok (.iconst 4, 1) := by decide +kernel
theorem dL_law_438 : decode cL_law 438 = .ok (.iadd, 1) := by decide +kernel
theorem dL_law_439 : decode cL_law 439 = .ok (.iaload, 1) := by decide +kernel
theorem dL_law_440 : decode cL_law 440 = .ok (.aload_n 0, 1) := by decide +kernel
theorem dL_law_441 : decode cL_law 441 = .ok (.iload 5, 2) := by decide +kernel
theorem dL_law_443 : decode cL_law 443 = .ok (.iconst 5, 1) := by decide +kernel
theorem dL_law_444 : decode cL_law 444 = .ok (.iadd, 1) := by decide +kernel
theorem dL_law_445 : decode cL_law 445 = .ok (.iaload, 1) := by decide +kernel
theorem dL_law_446 : decode cL_law 446 = .ok (.invokevirtual 176, 3) := by decide +kernel
theorem dL_law_449 : decode cL_law 449 = .ok (.istore 7, 2) := by decide +kernel
theorem dL_law_451 : decode cL_law 451 = .ok (.aload_n 2, 1) := by decide +kernel
theorem dL_law_452 : decode cL_law 452 = .ok (.invokevirtual 166, 3) := by decide +kernel
theorem dL_law_455 : decode cL_law 455 = .ok (.iload 6, 2) := by decide +kernel
theorem dL_law_457 : decode cL_law 457 = .ok (.if_icmp .eq 5, 3) := by decide +kernel
theorem dL_law_460 : decode cL_law 460 = .ok (.iconst 0, 1) := by decide +kernel
theorem dL_law_461 : decode cL_law 461 = .ok (.ireturn, 1) := by decide +kernel
theorem dL_law_462 : decode cL_law 462 = .ok (.iload 6, 2) := by decide +kernel
theorem dL_law_464 : decode cL_law 464 = .ok (.ifCond .ne 15, 3) := by decide +kernel
theorem dL_law_467 : decode cL_law 467 = .ok (.aload_n 3, 1) := by decide +kernel
theorem dL_law_468 : decode cL_law 468 = .ok (.iconst 0, 1) := by decide +kernel
theorem dL_law_469 : decode cL_law 469 = .ok (.laload, 1) := by decide +kernel
theorem dL_law_470 : decode cL_law 470 = .ok (.iload 7, 2) := by decide +kernel
theorem dL_law_472 : decode cL_law 472 = .ok (.i2l, 1) := by decide +kernel
theorem dL_law_473 : decode cL_law 473 = .ok (.lcmp, 1) := by decide +kernel
theorem dL_law_474 : decode cL_law 474 = .ok (.ifCond .eq 5, 3) := by decide +kernel
theorem dL_law_477 : decode cL_law 477 = .ok (.iconst 0, 1) := by decide +kernel
theorem dL_law_478 : decode cL_law 478 = .ok (.ireturn, 1) := by decide +kernel
theorem dL_law_479 : decode cL_law 479 = .ok (.goto 2667, 3) := by decide +kernel
theorem dL_law_482 : decode cL_law 482 = .ok (.aload_n 1, 1) := by decide +kernel
theorem dL_law_483 : decode cL_law 483 = .ok (.aload_n 0, 1) := by decide +kernel
theorem dL_law_484 : decode cL_law 484 = .ok (.iload 5, 2) := by decide +kernel
theorem dL_law_486 : decode cL_law 486 = .ok (.iconst 1, 1) := by decide +kernel
theorem dL_law_487 : decode cL_law 487 = .ok (.iadd, 1) := by decide +kernel
theorem dL_law_488 : decode cL_law 488 = .ok (.iaload, 1) := by decide +kernel
theorem dL_law_489 : decode cL_law 489 = .ok (.aload_n 0, 1) := by decide +kernel
theorem dL_law_490 : decode cL_law 490 = .ok (.iload 5, 2) := by decide +kernel
theorem dL_law_492 : decode cL_law 492 = .ok (.iconst 2, 1) := by decide +kernel
theorem dL_law_493 : decode cL_law 493 = .ok (.iadd, 1) := by decide +kernel
theorem dL_law_494 : decode cL_law 494 = .ok (.iaload, 1) := by decide +kernel
theorem dL_law_495 : decode cL_law 495 = .ok (.ifCond .eq 7, 3) := by decide +kernel
theorem dL_law_498 : decode cL_law 498 = .ok (.iconst 1, 1) := by decide +kernel
theorem dL_law_499 : decode cL_law 499 = .ok (.goto 4, 3) := by decide +kernel
theorem dL_law_502 : decode cL_law 502 = .ok (.iconst 0, 1) := by decide +kernel
theorem dL_law_503 : decode cL_law 503 = .ok (.aload_n 3, 1) := by decide +kernel
theorem dL_law_504 : decode cL_law 504 = .ok (.invokestatic 177, 3) := by decide +kernel
theorem dL_law_507 : decode cL_law 507 = .ok (.istore 6, 2) := by decide +kernel
theorem dL_law_509 : decode cL_law 509 = .ok (.aload_n 2, 1) := by decide +kernel
theorem dL_law_510 : decode cL_law 510 = .ok (.aload_n 0, 1) := by decide +kernel
theorem dL_law_511 : decode cL_law 511 = .ok (.iload 5, 2) := by decide +kernel
theorem dL_law_513 : decode cL_law 513 = .ok (.iconst 1, 1) := by decide +kernel
theorem dL_law_514 : decode cL_law 514 = .ok (.iadd, 1) := by decide +kernel
theorem dL_law_515 : decode cL_law 515 = .ok (.iaload, 1) := by decide +kernel
theorem dL_law_516 : decode cL_law 516 = .ok (.aload_n 0, 1) := by decide +kernel
theorem dL_law_517 : decode cL_law 517 = .ok (.iload 5, 2) := by decide +kernel
theorem dL_law_519 : decode cL_law 519 = .ok (.iconst 2, 1) := by decide +kernel
theorem dL_law_520 : decode cL_law 520 = .ok (.iadd, 1) := by decide +kernel
theorem dL_law_521 : decode cL_law 521 = .ok (.iaload, 1) := by decide +kernel
theorem dL_law_522 : decode cL_law 522 = .ok (.ifCond .eq 7, 3) := by decide +kernel
theorem dL_law_525 : decode cL_law 525 = .ok (.iconst 1, 1) := by decide +kernel
theorem dL_law_526 : decode cL_law 526 = .ok (.goto 4, 3) := by decide +kernel
theorem dL_law_529 : decode cL_law 529 = .ok (.iconst 0, 1) := by decide +kernel
theorem dL_law_530 : decode cL_law 530 = .ok (.invokevirtual 180, 3) := by decide +kernel
theorem dL_law_533 : decode cL_law 533 = .ok (.istore 7, 2) := by decide +kernel
theorem dL_law_535 : decode cL_law 535 = .ok (.aload_n 2, 1) := by decide +kernel
theorem dL_law_536 : decode cL_law 536 = .ok (.invokevirtual 166, 3) := by decide +kernel
theorem dL_law_539 : decode cL_law 539 = .ok (.iload 6, 2) := by decide +kernel
theorem dL_law_541 : decode cL_law 541 = .ok (.if_icmp .eq 5, 3) := by decide +kernel
theorem dL_law_544 : decode cL_law 544 = .ok (.iconst 0, 1) := by decide +kernel
theorem dL_law_545 : decode cL_law 545 = .ok (.ireturn, 1) := by decide +kernel
theorem dL_law_546 : decode cL_law 546 = .ok (.iload 6, 2) := by decide +kernel
theorem dL_law_548 : decode cL_law 548 = .ok (.ifCond .ne 22, 3) := by decide +kernel
theorem dL_law_551 : decode cL_law 551 = .ok (.aload_n 3, 1) := by decide +kernel
theorem dL_law_552 : decode cL_law 552 = .ok (.iconst 0, 1) := by decide +kernel
theorem dL_law_553 : decode cL_law 553 = .ok (.laload, 1) := by decide +kernel
theorem dL_law_554 : decode cL_law 554 = .ok (.iload 7, 2) := by decide +kernel
theorem dL_law_556 : decode cL_law 556 = .ok (.ifCond .eq 7, 3) := by decide +kernel
theorem dL_law_559 : decode cL_law 559 = .ok (.lconst 1, 1) := by decide +kernel
theorem dL_law_560 : decode cL_law 560 = .ok (.goto 4, 3) := by decide +kernel
theorem dL_law_563 : decode cL_law 563 = .ok (.lconst 0, 1) := by decide +kernel
theorem dL_law_564 : decode cL_law 564 = .ok (.lcmp, 1) := by decide +kernel
theorem dL_law_565 : decode cL_law 565 = .ok (.ifCond .eq 5, 3) := by decide +kernel
theorem dL_law_568 : decode cL_law 568 = .ok (.iconst 0, 1) := by decide +kernel
theorem dL_law_569 : decode cL_law 569 = .ok (.ireturn, 1) := by decide +kernel
theorem dL_law_570 : decode cL_law 570 = .ok (.goto 2576, 3) := by decide +kernel
theorem dL_law_573 : decode cL_law 573 = .ok (.aload_n 1, 1) := by decide +kernel
theorem dL_law_574 : decode cL_law 574 = .ok (.aload_n 0, 1) := by decide +kernel
theorem dL_law_575 : decode cL_law 575 = .ok (.iload 5, 2) := by decide +kernel
theorem dL_law_577 : decode cL_law 577 = .ok (.iconst 1, 1) := by decide +kernel
theorem dL_law_578 : decode cL_law 578 = .ok (.iadd, 1) := by decide +kernel
theorem dL_law_579 : decode cL_law 579 = .ok (.iaload, 1) := by decide +kernel
theorem dL_law_580 : decode cL_law 580 = .ok (.aload_n 0, 1) := by decide +kernel
theorem dL_law_581 : decode cL_law 581 = .ok (.iload 5, 2) := by decide +kernel
theorem dL_law_583 : decode cL_law 583 = .ok (.iconst 2, 1) := by decide +kernel
theorem dL_law_584 : decode cL_law 584 = .ok (.iadd, 1) := by decide +kernel
theorem dL_law_585 : decode cL_law 585 = .ok (.iaload, 1) := by decide +kernel
theorem dL_law_586 : decode cL_law 586 = .ok (.aload_n 3, 1) := by decide +kernel
theorem dL_law_587 : decode cL_law 587 = .ok (.invokestatic 181, 3) := by decide +kernel
theorem dL_law_590 : decode cL_law 590 = .ok (.istore 6, 2) := by decide +kernel
theorem dL_law_592 : decode cL_law 592 = .ok (.aload_n 2, 1) := by decide +kernel
theorem dL_law_593 : decode cL_law 593 = .ok (.aload_n 0, 1) := by decide +kernel
theorem dL_law_594 : decode cL_law 594 = .ok (.iload 5, 2) := by decide +kernel
theorem dL_law_596 : decode cL_law 596 = .ok (.iconst 1, 1) := by decide +kernel
theorem dL_law_597 : decode cL_law 597 = .ok (.iadd, 1) := by decide +kernel
theorem dL_law_598 : decode cL_law 598 = .ok (.iaload, 1) := by decide +kernel
theorem dL_law_599 : decode cL_law 599 = .ok (.aload_n 0, 1) := by decide +kernel
theorem dL_law_600 : decode cL_law 600 = .ok (.iload 5, 2) := by decide +kernel
theorem dL_law_602 : decode cL_law 602 = .ok (.iconst 2, 1) := by decide +kernel
theorem dL_law_603 : decode cL_law 603 = .ok (.iadd, 1) := by decide +kernel
theorem dL_law_604 : decode cL_law 604 = .ok (.iaload, 1) := by decide +kernel
theorem dL_law_605 : decode cL_law 605 = .ok (.invokevirtual 184, 3) := by decide +kernel
theorem dL_law_608 : decode cL_law 608 = .ok (.istore 7, 2) := by decide +kernel
theorem dL_law_610 : decode cL_law 610 = .ok (.aload_n 2, 1) := by decide +kernel
theorem dL_law_611 : decode cL_law 611 = .ok (.invokevirtual 166, 3) := by decide +kernel
theorem dL_law_614 : decode cL_law 614 = .ok (.iload 6, 2) := by decide +kernel
theorem dL_law_616 : decode cL_law 616 = .ok (.if_icmp .eq 5, 3) := by decide +kernel
theorem dL_law_619 : decode cL_law 619 = .ok (.iconst 0, 1) := by decide +kernel
theorem dL_law_620 : decode cL_law 620 = .ok (.ireturn, 1) := by decide +kernel
theorem dL_law_621 : decode cL_law 621 = .ok (.iload 6, 2) := by decide +kernel
theorem dL_law_623 : decode cL_law 623 = .ok (.ifCond .ne 15, 3) := by decide +kernel
theorem dL_law_626 : decode cL_law 626 = .ok (.aload_n 3, 1) := by decide +kernel
theorem dL_law_627 : decode cL_law 627 = .ok (.iconst 0, 1) := by decide +kernel
theorem dL_law_628 : decode cL_law 628 = .ok (.laload, 1) := by decide +kernel
theorem dL_law_629 : decode cL_law 629 = .ok (.iload 7, 2) := by decide +kernel
theorem dL_law_631 : decode cL_law 631 = .ok (.i2l, 1) := by decide +kernel
theorem dL_law_632 : decode cL_law 632 = .ok (.lcmp, 1) := by decide +kernel
theorem dL_law_633 : decode cL_law 633 = .ok (.ifCond .eq 5, 3) := by decide +kernel
theorem dL_law_636 : decode cL_law 636 = .ok (.iconst 0, 1) := by decide +kernel
theorem dL_law_637 : decode cL_law 637 = .ok (.ireturn, 1) := by decide +kernel
theorem dL_law_638 : decode cL_law 638 = .ok (.goto 2508, 3) := by decide +kernel
theorem dL_law_641 : decode cL_law 641 = .ok (.aload_n 1, 1) := by decide +kernel
theorem dL_law_642 : decode cL_law 642 = .ok (.aload_n 0, 1) := by decide +kernel
theorem dL_law_643 : decode cL_law 643 = .ok (.iload 5, 2) := by decide +kernel
theorem dL_law_645 : decode cL_law 645 = .ok (.iconst 1, 1) := by decide +kernel
theorem dL_law_646 : decode cL_law 646 = .ok (.iadd, 1) := by decide +kernel
theorem dL_law_647 : decode cL_law 647 = .ok (.iaload, 1) := by decide +kernel
theorem dL_law_648 : decode cL_law 648 = .ok (.aload_n 0, 1) := by decide +kernel
theorem dL_law_649 : decode cL_law 649 = .ok (.iload 5, 2) := by decide +kernel
theorem dL_law_651 : decode cL_law 651 = .ok (.iconst 2, 1) := by decide +kernel
theorem dL_law_652 : decode cL_law 652 = .ok (.iadd, 1) := by decide +kernel
theorem dL_law_653 : decode cL_law 653 = .ok (.iaload, 1) := by decide +kernel
theorem dL_law_654 : decode cL_law 654 = .ok (.aload_n 3, 1) := by decide +kernel
theorem dL_law_655 : decode cL_law 655 = .ok (.invokestatic 185, 3) := by decide +kernel
theorem dL_law_658 : decode cL_law 658 = .ok (.istore 6, 2) := by decide +kernel
theorem dL_law_660 : decode cL_law 660 = .ok (.aload_n 2, 1) := by decide +kernel
theorem dL_law_661 : decode cL_law 661 = .ok (.aload_n 0, 1) := by decide +kernel
theorem dL_law_662 : decode cL_law 662 = .ok (.iload 5, 2) := by decide +kernel
theorem dL_law_664 : decode cL_law 664 = .ok (.iconst 1, 1) := by decide +kernel
theorem dL_law_665 : decode cL_law 665 = .ok (.iadd, 1) := by decide +kernel
theorem dL_law_666 : decode cL_law 666 = .ok (.iaload, 1) := by decide +kernel
theorem dL_law_667 : decode cL_law 667 = .ok (.aload_n 0, 1) := by decide +kernel
theorem dL_law_668 : decode cL_law 668 = .ok (.iload 5, 2) := by decide +kernel
theorem dL_law_670 : decode cL_law 670 = .ok (.iconst 2, 1) := by decide +kernel
theorem dL_law_671 : decode cL_law 671 = .ok (.iadd, 1) := by decide +kernel
theorem dL_law_672 : decode cL_law 672 = .ok (.iaload, 1) := by decide +kernel
theorem dL_law_673 : decode cL_law 673 = .ok (.invokevirtual 187, 3) := by decide +kernel
theorem dL_law_676 : decode cL_law 676 = .ok (.istore 7, 2) := by decide +kernel
theorem dL_law_678 : decode cL_law 678 = .ok (.aload_n 2, 1) := by decide +kernel
theorem dL_law_679 : decode cL_law 679 = .ok (.invokevirtual 166, 3) := by decide +kernel
theorem dL_law_682 : decode cL_law 682 = .ok (.iload 6, 2) := by decide +kernel
theorem dL_law_684 : decode cL_law 684 = .ok (.if_icmp .eq 5, 3) := by decide +kernel
theorem dL_law_687 : decode cL_law 687 = .ok (.iconst 0, 1) := by decide +kernel
theorem dL_law_688 : decode cL_law 688 = .ok (.ireturn, 1) := by decide +kernel
theorem dL_law_689 : decode cL_law 689 = .ok (.iload 6, 2) := by decide +kernel
theorem dL_law_691 : decode cL_law 691 = .ok (.ifCond .ne 15, 3) := by decide +kernel
theorem dL_law_694 : decode cL_law 694 = .ok (.aload_n 3, 1) := by decide +kernel
theorem dL_law_695 : decode cL_law 695 = .ok (.iconst 0, 1) := by decide +kernel
theorem dL_law_696 : decode cL_law 696 = .ok (.laload, 1) := by decide +kernel
theorem dL_law_697 : decode cL_law 697 = .ok (.iload 7, 2) := by decide +kernel
theorem dL_law_699 : decode cL_law 699 = .ok (.i2l, 1) := by decide +kernel
theorem dL_law_700 : decode cL_law 700 = .ok (.lcmp, 1) := by decide +kernel
theorem dL_law_701 : decode cL_law 701 = .ok (.ifCond .eq 5, 3) := by decide +kernel
theorem dL_law_704 : decode cL_law 704 = .ok (.iconst 0, 1) := by decide +kernel
theorem dL_law_705 : decode cL_law 705 = .ok (.ireturn, 1) := by decide +kernel
theorem dL_law_706 : decode cL_law 706 = .ok (.goto 2440, 3) := by decide +kernel
theorem dL_law_709 : decode cL_law 709 = .ok (.aload_n 1, 1) := by decide +kernel
theorem dL_law_710 : decode cL_law 710 = .ok (.aload_n 0, 1) := by decide +kernel
theorem dL_law_711 : decode cL_law 711 = .ok (.iload 5, 2) := by decide +kernel
theorem dL_law_713 : decode cL_law 713 = .ok (.iconst 1, 1) := by decide +kernel
theorem dL_law_714 : decode cL_law 714 = .ok (.iadd, 1) := by decide +kernel
theorem dL_law_715 : decode cL_law 715 = .ok (.iaload, 1) := by decide +kernel
theorem dL_law_716 : decode cL_law 716 = .ok (.aload_n 0, 1) := by decide +kernel
theorem dL_law_717 : decode cL_law 717 = .ok (.iload 5, 2) := by decide +kernel
theorem dL_law_719 : decode cL_law 719 = .ok (.iconst 2, 1) := by decide +kernel
theorem dL_law_720 : decode cL_law 720 = .ok (.iadd, 1) := by decide +kernel
theorem dL_law_721 : decode cL_law 721 = .ok (.iaload, 1) := by decide +kernel
theorem dL_law_722 : decode cL_law 722 = .ok (.aload_n 3, 1) := by decide +kernel
theorem dL_law_723 : decode cL_law 723 = .ok (.invokestatic 188, 3) := by decide +kernel
theorem dL_law_726 : decode cL_law 726 = .ok (.istore 6, 2) := by decide +kernel
theorem dL_law_728 : decode cL_law 728 = .ok (.aload_n 2, 1) := by decide +kernel
theorem dL_law_729 : decode cL_law 729 = .ok (.aload_n 0, 1) := by decide +kernel
theorem dL_law_730 : decode cL_law 730 = .ok (.iload 5, 2) := by decide +kernel
theorem dL_law_732 : decode cL_law 732 = .ok (.iconst 1, 1) := by decide +kernel
theorem dL_law_733 : decode cL_law 733 = .ok (.iadd, 1) := by decide +kernel
theorem dL_law_734 : decode cL_law 734 = .ok (.iaload, 1) := by decide +kernel
theorem dL_law_735 : decode cL_law 735 = .ok (.aload_n 0, 1) := by decide +kernel
theorem dL_law_736 : decode cL_law 736 = .ok (.iload 5, 2) := by decide +kernel
theorem dL_law_738 : decode cL_law 738 = .ok (.iconst 2, 1) := by decide +kernel
theorem dL_law_739 : decode cL_law 739 = .ok (.iadd, 1) := by decide +kernel
theorem dL_law_740 : decode cL_law 740 = .ok (.iaload, 1) := by decide +kernel
theorem dL_law_741 : decode cL_law 741 = .ok (.invokevirtual 190, 3) := by decide +kernel
theorem dL_law_744 : decode cL_law 744 = .ok (.istore 7, 2) := by decide +kernel
theorem dL_law_746 : decode cL_law 746 = .ok (.aload_n 2, 1) := by decide +kernel
theorem dL_law_747 : decode cL_law 747 = .ok (.invokevirtual 166, 3) := by decide +kernel
theorem dL_law_750 : decode cL_law 750 = .ok (.iload 6, 2) := by decide +kernel
theorem dL_law_752 : decode cL_law 752 = .ok (.if_icmp .eq 5, 3) := by decide +kernel
theorem dL_law_755 : decode cL_law 755 = .ok (.iconst 0, 1) := by decide +kernel
theorem dL_law_756 : decode cL_law 756 = .ok (.ireturn, 1) := by decide +kernel
theorem dL_law_757 : decode cL_law 757 = .ok (.iload 6, 2) := by decide +kernel
theorem dL_law_759 : decode cL_law 759 = .ok (.ifCond .ne 15, 3) := by decide +kernel
theorem dL_law_762 : decode cL_law 762 = .ok (.aload_n 3, 1) := by decide +kernel
theorem dL_law_763 : decode cL_law 763 = .ok (.iconst 0, 1) := by decide +kernel
theorem dL_law_764 : decode cL_law 764 = .ok (.laload, 1) := by decide +kernel
theorem dL_law_765 : decode cL_law 765 = .ok (.iload 7, 2) := by decide +kernel
theorem dL_law_767 : decode cL_law 767 = .ok (.i2l, 1) := by decide +kernel
theorem dL_law_768 : decode cL_law 768 = .ok (.lcmp, 1) := by decide +kernel
theorem dL_law_769 : decode cL_law 769 = .ok (.ifCond .eq 5, 3) := by decide +kernel
theorem dL_law_772 : decode cL_law 772 = .ok (.iconst 0, 1) := by decide +kernel
theorem dL_law_773 : decode cL_law 773 = .ok (.ireturn, 1) := by decide +kernel
theorem dL_law_774 : decode cL_law 774 = .ok (.goto 2372, 3) := by decide +kernel
theorem dL_law_777 : decode cL_law 777 = .ok (.aload_n 1, 1) := by decide +kernel
theorem dL_law_778 : decode cL_law 778 = .ok (.aload_n 0, 1) := by decide +kernel
theorem dL_law_779 : decode cL_law 779 = .ok (.iload 5, 2) := by decide +kernel
theorem dL_law_781 : decode cL_law 781 = .ok (.iconst 1, 1) := by decide +kernel
theorem dL_law_782 : decode cL_law 782 = .ok (.iadd, 1) := by decide +kernel
theorem dL_law_783 : decode cL_law 783 = .ok (.iaload, 1) := by decide +kernel
theorem dL_law_784 : decode cL_law 784 = .ok (.aload_n 3, 1) := by decide +kernel
theorem dL_law_785 : decode cL_law 785 = .ok (.invokestatic 191, 3) := by decide +kernel
theorem dL_law_788 : decode cL_law 788 = .ok (.istore 6, 2) := by decide +kernel
theorem dL_law_790 : decode cL_law 790 = .ok (.aload_n 2, 1) := by decide +kernel
theorem dL_law_791 : decode cL_law 791 = .ok (.aload_n 0, 1) := by decide +kernel
theorem dL_law_792 : decode cL_law 792 = .ok (.iload 5, 2) := by decide +kernel
theorem dL_law_794 : decode cL_law 794 = .ok (.iconst 1, 1) := by decide +kernel
theorem dL_law_795 : decode cL_law 795 = .ok (.iadd, 1) := by decide +kernel
theorem dL_law_796 : decode cL_law 796 = .ok (.iaload, 1) := by decide +kernel
theorem dL_law_797 : decode cL_law 797 = .ok (.invokevirtual 194, 3) := by decide +kernel
theorem dL_law_800 : decode cL_law 800 = .ok (.lstore 7, 2) := by decide +kernel
theorem dL_law_802 : decode cL_law 802 = .ok (.aload_n 2, 1) := by decide +kernel
theorem dL_law_803 : decode cL_law 803 = .ok (.invokevirtual 166, 3) := by decide +kernel
theorem dL_law_806 : decode cL_law 806 = .ok (.iload 6, 2) := by decide +kernel
theorem dL_law_808 : decode cL_law 808 = .ok (.if_icmp .eq 5, 3) := by decide +kernel
theorem dL_law_811 : decode cL_law 811 = .ok (.iconst 0, 1) := by decide +kernel
theorem dL_law_812 : decode cL_law 812 = .ok (.ireturn, 1) := by decide +kernel
theorem dL_law_813 : decode cL_law 813 = .ok (.iload 6, 2) := by decide +kernel
theorem dL_law_815 : decode cL_law 815 = .ok (.ifCond .ne 14, 3) := by decide +kernel
theorem dL_law_818 : decode cL_law 818 = .ok (.aload_n 3, 1) := by decide +kernel
theorem dL_law_819 : decode cL_law 819 = .ok (.iconst 0, 1) := by decide +kernel
theorem dL_law_820 : decode cL_law 820 = .ok (.laload, 1) := by decide +kernel
theorem dL_law_821 : decode cL_law 821 = .ok (.lload 7, 2) := by decide +kernel
theorem dL_law_823 : decode cL_law 823 = .ok (.lcmp, 1) := by decide +kernel
theorem dL_law_824 : decode cL_law 824 = .ok (.ifCond .eq 5, 3) := by decide +kernel
theorem dL_law_827 : decode cL_law 827 = .ok (.iconst 0, 1) := by decide +kernel
theorem dL_law_828 : decode cL_law 828 = .ok (.ireturn, 1) := by decide +kernel
theorem dL_law_829 : decode cL_law 829 = .ok (.goto 2317, 3) := by decide +kernel
theorem dL_law_832 : decode cL_law 832 = .ok (.aload_n 1, 1) := by decide +kernel
theorem dL_law_833 : decode cL_law 833 = .ok (.aload_n 0, 1) := by decide +kernel
theorem dL_law_834 : decode cL_law 834 = .ok (.iload 5, 2) := by decide +kernel
theorem dL_law_836 : decode cL_law 836 = .ok (.iconst 1, 1) := by decide +kernel
theorem dL_law_837 : decode cL_law 837 = .ok (.iadd, 1) := by decide +kernel
theorem dL_law_838 : decode cL_law 838 = .ok (.iaload, 1) := by decide +kernel
theorem dL_law_839 : decode cL_law 839 = .ok (.aload_n 3, 1) := by decide +kernel
theorem dL_law_840 : decode cL_law 840 = .ok (.invokestatic 195, 3) := by decide +kernel
theorem dL_law_843 : decode cL_law 843 = .ok (.istore 6, 2) := by decide +kernel
theorem dL_law_845 : decode cL_law 845 = .ok (.aload_n 2, 1) := by decide +kernel
theorem dL_law_846 : decode cL_law 846 = .ok (.aload_n 0, 1) := by decide +kernel
theorem dL_law_847 : decode cL_law 847 = .ok (.iload 5, 2) := by decide +kernel
theorem dL_law_849 : decode cL_law 849 = .ok (.iconst 1, 1) := by decide +kernel
theorem dL_law_850 : decode cL_law 850 = .ok (.iadd, 1) := by decide +kernel
theorem dL_law_851 : decode cL_law 851 = .ok (.iaload, 1) := by decide +kernel
theorem dL_law_852 : decode cL_law 852 = .ok (.invokevirtual 197, 3) := by decide +kernel
theorem dL_law_855 : decode cL_law 855 = .ok (.lstore 7, 2) := by decide +kernel
theorem dL_law_857 : decode cL_law 857 = .ok (.aload_n 2, 1) := by decide +kernel
theorem dL_law_858 : decode cL_law 858 = .ok (.invokevirtual 166, 3) := by decide +kernel
theorem dL_law_861 : decode cL_law 861 = .ok (.iload 6, 2) := by decide +kernel
theorem dL_law_863 : decode cL_law 863 = .ok (.if_icmp .eq 5, 3) := by decide +kernel
theorem dL_law_866 : decode cL_law 866 = .ok (.iconst 0, 1) := by decide +kernel
theorem dL_law_867 : decode cL_law 867 = .ok (.ireturn, 1) := by decide +kernel
theorem dL_law_868 : decode cL_law 868 = .ok (.iload 6, 2) := by decide +kernel
theorem dL_law_870 : decode cL_law 870 = .ok (.ifCond .ne 14, 3) := by decide +kernel
theorem dL_law_873 : decode cL_law 873 = .ok (.aload_n 3, 1) := by decide +kernel
theorem dL_law_874 : decode cL_law 874 = .ok (.iconst 0, 1) := by decide +kernel
theorem dL_law_875 : decode cL_law 875 = .ok (.laload, 1) := by decide +kernel
theorem dL_law_876 : decode cL_law 876 = .ok (.lload 7, 2) := by decide +kernel
theorem dL_law_878 : decode cL_law 878 = .ok (.lcmp, 1) := by decide +kernel
theorem dL_law_879 : decode cL_law 879 = .ok (.ifCond .eq 5, 3) := by decide +kernel
theorem dL_law_882 : decode cL_law 882 = .ok (.iconst 0, 1) := by decide +kernel
theorem dL_law_883 : decode cL_law 883 = .ok (.ireturn, 1) := by decide +kernel
theorem dL_law_884 : decode cL_law 884 = .ok (.goto 2262, 3) := by decide +kernel
theorem dL_law_887 : decode cL_law 887 = .ok (.aload_n 1, 1) := by decide +kernel
theorem dL_law_888 : decode cL_law 888 = .ok (.aload_n 0, 1) := by decide +kernel
theorem dL_law_889 : decode cL_law 889 = .ok (.iload 5, 2) := by decide +kernel
theorem dL_law_891 : decode cL_law 891 = .ok (.iconst 1, 1) := by decide +kernel
theorem dL_law_892 : decode cL_law 892 = .ok (.iadd, 1) := by decide +kernel
theorem dL_law_893 : decode cL_law 893 = .ok (.iaload, 1) := by decide +kernel
theorem dL_law_894 : decode cL_law 894 = .ok (.aload_n 0, 1) := by decide +kernel
theorem dL_law_895 : decode cL_law 895 = .ok (.iload 5, 2) := by decide +kernel
theorem dL_law_897 : decode cL_law 897 = .ok (.iconst 2, 1) := by decide +kernel
theorem dL_law_898 : decode cL_law 898 = .ok (.iadd, 1) := by decide +kernel
theorem dL_law_899 : decode cL_law 899 = .ok (.iaload, 1) := by decide +kernel
theorem dL_law_900 : decode cL_law 900 = .ok (.aload_n 3, 1) := by decide +kernel
theorem dL_law_901 : decode cL_law 901 = .ok (.invokestatic 198, 3) := by decide +kernel
theorem dL_law_904 : decode cL_law 904 = .ok (.istore 6, 2) := by decide +kernel
theorem dL_law_906 : decode cL_law 906 = .ok (.aload_n 2, 1) := by decide +kernel
theorem dL_law_907 : decode cL_law 907 = .ok (.aload_n 0, 1) := by decide +kernel
theorem dL_law_908 : decode cL_law 908 = .ok (.iload 5, 2) := by decide +kernel
theorem dL_law_910 : decode cL_law 910 = .ok (.iconst 1, 1) := by decide +kernel
theorem dL_law_911 : decode cL_law 911 = .ok (.iadd, 1) := by decide +kernel
theorem dL_law_912 : decode cL_law 912 = .ok (.iaload, 1) := by decide +kernel
theorem dL_law_913 : decode cL_law 913 = .ok (.aload_n 0, 1) := by decide +kernel
theorem dL_law_914 : decode cL_law 914 = .ok (.iload 5, 2) := by decide +kernel
theorem dL_law_916 : decode cL_law 916 = .ok (.iconst 2, 1) := by decide +kernel
theorem dL_law_917 : decode cL_law 917 = .ok (.iadd, 1) := by decide +kernel
theorem dL_law_918 : decode cL_law 918 = .ok (.iaload, 1) := by decide +kernel
theorem dL_law_919 : decode cL_law 919 = .ok (.invokevirtual 200, 3) := by decide +kernel
theorem dL_law_922 : decode cL_law 922 = .ok (.lstore 7, 2) := by decide +kernel
theorem dL_law_924 : decode cL_law 924 = .ok (.aload_n 2, 1) := by decide +kernel
theorem dL_law_925 : decode cL_law 925 = .ok (.invokevirtual 166, 3) := by decide +kernel
theorem dL_law_928 : decode cL_law 928 = .ok (.iload 6, 2) := by decide +kernel
theorem dL_law_930 : decode cL_law 930 = .ok (.if_icmp .eq 5, 3) := by decide +kernel
theorem dL_law_933 : decode cL_law 933 = .ok (.iconst 0, 1) := by decide +kernel
theorem dL_law_934 : decode cL_law 934 = .ok (.ireturn, 1) := by decide +kernel
theorem dL_law_935 : decode cL_law 935 = .ok (.iload 6, 2) := by decide +kernel
theorem dL_law_937 : decode cL_law 937 = .ok (.ifCond .ne 14, 3) := by decide +kernel
theorem dL_law_940 : decode cL_law 940 = .ok (.aload_n 3, 1) := by decide +kernel
theorem dL_law_941 : decode cL_law 941 = .ok (.iconst 0, 1) := by decide +kernel
theorem dL_law_942 : decode cL_law 942 = .ok (.laload, 1) := by decide +kernel
theorem dL_law_943 : decode cL_law 943 = .ok (.lload 7, 2) := by decide +kernel
theorem dL_law_945 : decode cL_law 945 = .ok (.lcmp, 1) := by decide +kernel
theorem dL_law_946 : decode cL_law 946 = .ok (.ifCond .eq 5, 3) := by decide +kernel
theorem dL_law_949 : decode cL_law 949 = .ok (.iconst 0, 1) := by decide +kernel
theorem dL_law_950 : decode cL_law 950 = .ok (.ireturn, 1) := by decide +kernel
theorem dL_law_951 : decode cL_law 951 = .ok (.goto 2195, 3) := by decide +kernel
theorem dL_law_954 : decode cL_law 954 = .ok (.aload_n 1, 1) := by decide +kernel
theorem dL_law_955 : decode cL_law 955 = .ok (.aload_n 0, 1) := by decide +kernel
theorem dL_law_956 : decode cL_law 956 = .ok (.iload 5, 2) := by decide +kernel
theorem dL_law_958 : decode cL_law 958 = .ok (.iconst 1, 1) := by decide +kernel
theorem dL_law_959 : decode cL_law 959 = .ok (.iadd, 1) := by decide +kernel
theorem dL_law_960 : decode cL_law 960 = .ok (.iaload, 1) := by decide +kernel
theorem dL_law_961 : decode cL_law 961 = .ok (.aload_n 0, 1) := by decide +kernel
theorem dL_law_962 : decode cL_law 962 = .ok (.iload 5, 2) := by decide +kernel
theorem dL_law_964 : decode cL_law 964 = .ok (.iconst 2, 1) := by decide +kernel
theorem dL_law_965 : decode cL_law 965 = .ok (.iadd, 1) := by decide +kernel
theorem dL_law_966 : decode cL_law 966 = .ok (.iaload, 1) := by decide +kernel
theorem dL_law_967 : decode cL_law 967 = .ok (.aload_n 3, 1) := by decide +kernel
theorem dL_law_968 : decode cL_law 968 = .ok (.invokestatic 201, 3) := by decide +kernel
theorem dL_law_971 : decode cL_law 971 = .ok (.istore 6, 2) := by decide +kernel
theorem dL_law_973 : decode cL_law 973 = .ok (.aload_n 2, 1) := by decide +kernel
theorem dL_law_974 : decode cL_law 974 = .ok (.aload_n 0, 1) := by decide +kernel
theorem dL_law_975 : decode cL_law 975 = .ok (.iload 5, 2) := by decide +kernel
theorem dL_law_977 : decode cL_law 977 = .ok (.iconst 1, 1) := by decide +kernel
theorem dL_law_978 : decode cL_law 978 = .ok (.iadd, 1) := by decide +kernel
theorem dL_law_979 : decode cL_law 979 = .ok (.iaload, 1) := by decide +kernel
theorem dL_law_980 : decode cL_law 980 = .ok (.aload_n 0, 1) := by decide +kernel
theorem dL_law_981 : decode cL_law 981 = .ok (.iload 5, 2) := by decide +kernel
theorem dL_law_983 : decode cL_law 983 = .ok (.iconst 2, 1) := by decide +kernel
theorem dL_law_984 : decode cL_law 984 = .ok (.iadd, 1) := by decide +kernel
theorem dL_law_985 : decode cL_law 985 = .ok (.iaload, 1) := by decide +kernel
theorem dL_law_986 : decode cL_law 986 = .ok (.invokevirtual 203, 3) := by decide +kernel
theorem dL_law_989 : decode cL_law 989 = .ok (.lstore 7, 2) := by decide +kernel
theorem dL_law_991 : decode cL_law 991 = .ok (.aload_n 2, 1) := by decide +kernel
theorem dL_law_992 : decode cL_law 992 = .ok (.invokevirtual 166, 3) := by decide +kernel
theorem dL_law_995 : decode cL_law 995 = .ok (.iload 6, 2) := by decide +kernel
theorem dL_law_997 : decode cL_law 997 = .ok (.if_icmp .eq 5, 3) := by decide +kernel
theorem dL_law_1000 : decode cL_law 1000 = .ok (.iconst 0, 1) := by decide +kernel
theorem dL_law_1001 : decode cL_law 1001 = .ok (.ireturn, 1) := by decide +kernel
theorem dL_law_1002 : decode cL_law 1002 = .ok (.iload 6, 2) := by decide +kernel
theorem dL_law_1004 : decode cL_law 1004 = .ok (.ifCond .ne 14, 3) := by decide +kernel
theorem dL_law_1007 : decode cL_law 1007 = .ok (.aload_n 3, 1) := by decide +kernel
theorem dL_law_1008 : decode cL_law 1008 = .ok (.iconst 0, 1) := by decide +kernel
theorem dL_law_1009 : decode cL_law 1009 = .ok (.laload, 1) := by decide +kernel
theorem dL_law_1010 : decode cL_law 1010 = .ok (.lload 7, 2) := by decide +kernel
theorem dL_law_1012 : decode cL_law 1012 = .ok (.lcmp, 1) := by decide +kernel
theorem dL_law_1013 : decode cL_law 1013 = .ok (.ifCond .eq 5, 3) := by decide +kernel
theorem dL_law_1016 : decode cL_law 1016 = .ok (.iconst 0, 1) := by decide +kernel
theorem dL_law_1017 : decode cL_law 1017 = .ok (.ireturn, 1) := by decide +kernel
theorem dL_law_1018 : decode cL_law 1018 = .ok (.goto 2128, 3) := by decide +kernel
theorem dL_law_1021 : decode cL_law 1021 = .ok (.aload_n 1, 1) := by decide +kernel
theorem dL_law_1022 : decode cL_law 1022 = .ok (.aload_n 0, 1) := by decide +kernel
theorem dL_law_1023 : decode cL_law 1023 = .ok (.iload 5, 2) := by decide +kernel
theorem dL_law_1025 : decode cL_law 1025 = .ok (.iconst 1, 1) := by decide +kernel
theorem dL_law_1026 : decode cL_law 1026 = .ok (.iadd, 1) := by decide +kernel
theorem dL_law_1027 : decode cL_law 1027 = .ok (.iaload, 1) := by decide +kernel
theorem dL_law_1028 : decode cL_law 1028 = .ok (.aload_n 3, 1) := by decide +kernel
theorem dL_law_1029 : decode cL_law 1029 = .ok (.invokestatic 204, 3) := by decide +kernel
theorem dL_law_1032 : decode cL_law 1032 = .ok (.istore 6, 2) := by decide +kernel
theorem dL_law_1034 : decode cL_law 1034 = .ok (.aload_n 2, 1) := by decide +kernel
theorem dL_law_1035 : decode cL_law 1035 = .ok (.aload_n 0, 1) := by decide +kernel
theorem dL_law_1036 : decode cL_law 1036 = .ok (.iload 5, 2) := by decide +kernel
theorem dL_law_1038 : decode cL_law 1038 = .ok (.iconst 1, 1) := by decide +kernel
theorem dL_law_1039 : decode cL_law 1039 = .ok (.iadd, 1) := by decide +kernel
theorem dL_law_1040 : decode cL_law 1040 = .ok (.iaload, 1) := by decide +kernel
theorem dL_law_1041 : decode cL_law 1041 = .ok (.invokevirtual 206, 3) := by decide +kernel
theorem dL_law_1044 : decode cL_law 1044 = .ok (.istore 7, 2) := by decide +kernel
theorem dL_law_1046 : decode cL_law 1046 = .ok (.aload_n 2, 1) := by decide +kernel
theorem dL_law_1047 : decode cL_law 1047 = .ok (.invokevirtual 166, 3) := by decide +kernel
theorem dL_law_1050 : decode cL_law 1050 = .ok (.iload 6, 2) := by decide +kernel
theorem dL_law_1052 : decode cL_law 1052 = .ok (.if_icmp .eq 5, 3) := by decide +kernel
theorem dL_law_1055 : decode cL_law 1055 = .ok (.iconst 0, 1) := by decide +kernel
theorem dL_law_1056 : decode cL_law 1056 = .ok (.ireturn, 1) := by decide +kernel
theorem dL_law_1057 : decode cL_law 1057 = .ok (.iload 6, 2) := by decide +kernel
theorem dL_law_1059 : decode cL_law 1059 = .ok (.ifCond .ne 15, 3) := by decide +kernel
theorem dL_law_1062 : decode cL_law 1062 = .ok (.aload_n 3, 1) := by decide +kernel
theorem dL_law_1063 : decode cL_law 1063 = .ok (.iconst 0, 1) := by decide +kernel
theorem dL_law_1064 : decode cL_law 1064 = .ok (.laload, 1) := by decide +kernel
theorem dL_law_1065 : decode cL_law 1065 = .ok (.iload 7, 2) := by decide +kernel
theorem dL_law_1067 : decode cL_law 1067 = .ok (.i2l, 1) := by decide +kernel
theorem dL_law_1068 : decode cL_law 1068 = .ok (.lcmp, 1) := by decide +kernel
theorem dL_law_1069 : decode cL_law 1069 = .ok (.ifCond .eq 5, 3) := by decide +kernel
theorem dL_law_1072 : decode cL_law 1072 = .ok (.iconst 0, 1) := by decide +kernel
theorem dL_law_1073 : decode cL_law 1073 = .ok (.ireturn, 1) := by decide +kernel
theorem dL_law_1074 : decode cL_law 1074 = .ok (.goto 2072, 3) := by decide +kernel
theorem dL_law_1077 : decode cL_law 1077 = .ok (.aload_n 1, 1) := by decide +kernel
theorem dL_law_1078 : decode cL_law 1078 = .ok (.invokevirtual 207, 3) := by decide +kernel
theorem dL_law_1081 : decode cL_law 1081 = .ok (.aload_n 2, 1) := by decide +kernel
theorem dL_law_1082 : decode cL_law 1082 = .ok (.invokevirtual 210, 3) := by decide +kernel
theorem dL_law_1085 : decode cL_law 1085 = .ok (.if_icmp .eq 2061, 3) := by decide +kernel
theorem dL_law_1088 : decode cL_law 1088 = .ok (.iconst 0, 1) := by decide +kernel
theorem dL_law_1089 : decode cL_law 1089 = .ok (.ireturn, 1) := by decide +kernel
theorem dL_law_1090 : decode cL_law 1090 = .ok (.aload_n 1, 1) := by decide +kernel
theorem dL_law_1091 : decode cL_law 1091 = .ok (.aload_n 0, 1) := by decide +kernel
theorem dL_law_1092 : decode cL_law 1092 = .ok (.iload 5, 2) := by decide +kernel
theorem dL_law_1094 : decode cL_law 1094 = .ok (.iconst 1, 1) := by decide +kernel
theorem dL_law_1095 : decode cL_law 1095 = .ok (.iadd, 1) := by decide +kernel
theorem dL_law_1096 : decode cL_law 1096 = .ok (.iaload, 1) := by decide +kernel
theorem dL_law_1097 : decode cL_law 1097 = .ok (.aload_n 3, 1) := by decide +kernel
theorem dL_law_1098 : decode cL_law 1098 = .ok (.invokestatic 211, 3) := by decide +kernel
theorem dL_law_1101 : decode cL_law 1101 = .ok (.istore 6, 2) := by decide +kernel
theorem dL_law_1103 : decode cL_law 1103 = .ok (.aload_n 2, 1) := by decide +kernel
theorem dL_law_1104 : decode cL_law 1104 = .ok (.aload_n 0, 1) := by decide +kernel
theorem dL_law_1105 : decode cL_law 1105 = .ok (.iload 5, 2) := by decide +kernel
theorem dL_law_1107 : decode cL_law 1107 = .ok (.iconst 1, 1) := by decide +kernel
theorem dL_law_1108 : decode cL_law 1108 = .ok (.iadd, 1) := by decide +kernel
theorem dL_law_1109 : decode cL_law 1109 = .ok (.iaload, 1) := by decide +kernel
theorem dL_law_1110 : decode cL_law 1110 = .ok (.invokevirtual 213, 3) := by decide +kernel
theorem dL_law_1113 : decode cL_law 1113 = .ok (.lstore 7, 2) := by decide +kernel
theorem dL_law_1115 : decode cL_law 1115 = .ok (.aload_n 2, 1) := by decide +kernel
theorem dL_law_1116 : decode cL_law 1116 = .ok (.invokevirtual 166, 3) := by decide +kernel
theorem dL_law_1119 : decode cL_law 1119 = .ok (.iload 6, 2) := by decide +kernel
theorem dL_law_1121 : decode cL_law 1121 = .ok (.if_icmp .eq 5, 3) := by decide +kernel
theorem dL_law_1124 : decode cL_law 1124 = .ok (.iconst 0, 1) := by decide +kernel
theorem dL_law_1125 : decode cL_law 1125 = .ok (.ireturn, 1) := by decide +kernel
theorem dL_law_1126 : decode cL_law 1126 = .ok (.iload 6, 2) := by decide +kernel
theorem dL_law_1128 : decode cL_law 1128 = .ok (.ifCond .ne 14, 3) := by decide +kernel
theorem dL_law_1131 : decode cL_law 1131 = .ok (.aload_n 3, 1) := by decide +kernel
theorem dL_law_1132 : decode cL_law 1132 = .ok (.iconst 0, 1) := by decide +kernel
theorem dL_law_1133 : decode cL_law 1133 = .ok (.laload, 1) := by decide +kernel
theorem dL_law_1134 : decode cL_law 1134 = .ok (.lload 7, 2) := by decide +kernel
theorem dL_law_1136 : decode cL_law 1136 = .ok (.lcmp, 1) := by decide +kernel
theorem dL_law_1137 : decode cL_law 1137 = .ok (.ifCond .eq 5, 3) := by decide +kernel
theorem dL_law_1140 : decode cL_law 1140 = .ok (.iconst 0, 1) := by decide +kernel
theorem dL_law_1141 : decode cL_law 1141 = .ok (.ireturn, 1) := by decide +kernel
theorem dL_law_1142 : decode cL_law 1142 = .ok (.goto 2004, 3) := by decide +kernel
theorem dL_law_1145 : decode cL_law 1145 = .ok (.aload_n 1, 1) := by decide +kernel
theorem dL_law_1146 : decode cL_law 1146 = .ok (.aload_n 0, 1) := by decide +kernel
theorem dL_law_1147 : decode cL_law 1147 = .ok (.iload 5, 2) := by decide +kernel
theorem dL_law_1149 : decode cL_law 1149 = .ok (.iconst 1, 1) := by decide +kernel
theorem dL_law_1150 : decode cL_law 1150 = .ok (.iadd, 1) := by decide +kernel
theorem dL_law_1151 : decode cL_law 1151 = .ok (.iaload, 1) := by decide +kernel
theorem dL_law_1152 : decode cL_law 1152 = .ok (.aload_n 3, 1) := by decide +kernel
theorem dL_law_1153 : decode cL_law 1153 = .ok (.invokestatic 214, 3) := by decide +kernel
theorem dL_law_1156 : decode cL_law 1156 = .ok (.istore 6, 2) := by decide +kernel
theorem dL_law_1158 : decode cL_law 1158 = .ok (.aload_n 2, 1) := by decide +kernel
theorem dL_law_1159 : decode cL_law 1159 = .ok (.aload_n 0, 1) := by decide +kernel
theorem dL_law_1160 : decode cL_law 1160 = .ok (.iload 5, 2) := by decide +kernel
theorem dL_law_1162 : decode cL_law 1162 = .ok (.iconst 1, 1) := by decide +kernel
theorem dL_law_1163 : decode cL_law 1163 = .ok (.iadd, 1) := by decide +kernel
theorem dL_law_1164 : decode cL_law 1164 = .ok (.iaload, 1) := by decide +kernel
theorem dL_law_1165 : decode cL_law 1165 = .ok (.invokevirtual 216, 3) := by decide +kernel
theorem dL_law_1168 : decode cL_law 1168 = .ok (.lstore 7, 2) := by decide +kernel
theorem dL_law_1170 : decode cL_law 1170 = .ok (.aload_n 2, 1) := by decide +kernel
theorem dL_law_1171 : decode cL_law 1171 = .ok (.invokevirtual 166, 3) := by decide +kernel
theorem dL_law_1174 : decode cL_law 1174 = .ok (.iload 6, 2) := by decide +kernel
theorem dL_law_1176 : decode cL_law 1176 = .ok (.if_icmp .eq 5, 3) := by decide +kernel
theorem dL_law_1179 : decode cL_law 1179 = .ok (.iconst 0, 1) := by decide +kernel
theorem dL_law_1180 : decode cL_law 1180 = .ok (.ireturn, 1) := by decide +kernel
theorem dL_law_1181 : decode cL_law 1181 = .ok (.iload 6, 2) := by decide +kernel
theorem dL_law_1183 : decode cL_law 1183 = .ok (.ifCond .ne 14, 3) := by decide +kernel
theorem dL_law_1186 : decode cL_law 1186 = .ok (.aload_n 3, 1) := by decide +kernel
theorem dL_law_1187 : decode cL_law 1187 = .ok (.iconst 0, 1) := by decide +kernel
theorem dL_law_1188 : decode cL_law 1188 = .ok (.laload, 1) := by decide +kernel
theorem dL_law_1189 : decode cL_law 1189 = .ok (.lload 7, 2) := by decide +kernel
theorem dL_law_1191 : decode cL_law 1191 = .ok (.lcmp, 1) := by decide +kernel
