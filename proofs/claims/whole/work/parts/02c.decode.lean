theorem dX6_begin_4 : decode cX6_begin 4 = .ok (.ifCond .eq 41, 3) := by decide +kernel
theorem dX6_begin_7 : decode cX6_begin 7 = .ok (.aload_n 0, 1) := by decide +kernel
theorem dX6_begin_8 : decode cX6_begin 8 = .ok (.getfield 30, 3) := by decide +kernel
theorem dX6_begin_11 : decode cX6_begin 11 = .ok (.aload_n 1, 1) := by decide +kernel
theorem dX6_begin_12 : decode cX6_begin 12 = .ok (.getfield 38, 3) := by decide +kernel
theorem dX6_begin_15 : decode cX6_begin 15 = .ok (.aload_n 1, 1) := by decide +kernel
theorem dX6_begin_16 : decode cX6_begin 16 = .ok (.invokevirtual 48, 3) := by decide +kernel
theorem dX6_begin_19 : decode cX6_begin 19 = .ok (.bastore, 1) := by decide +kernel
theorem dX6_begin_20 : decode cX6_begin 20 = .ok (.aload_n 0, 1) := by decide +kernel
theorem dX6_begin_21 : decode cX6_begin 21 = .ok (.getfield 26, 3) := by decide +kernel
theorem dX6_begin_24 : decode cX6_begin 24 = .ok (.aload_n 1, 1) := by decide +kernel
theorem dX6_begin_25 : decode cX6_begin 25 = .ok (.getfield 38, 3) := by decide +kernel
theorem dX6_begin_28 : decode cX6_begin 28 = .ok (.aload_n 0, 1) := by decide +kernel
theorem dX6_begin_29 : decode cX6_begin 29 = .ok (.getfield 14, 3) := by decide +kernel
theorem dX6_begin_32 : decode cX6_begin 32 = .ok (.aload_n 1, 1) := by decide +kernel
theorem dX6_begin_33 : decode cX6_begin 33 = .ok (.getfield 52, 3) := by decide +kernel
theorem dX6_begin_36 : decode cX6_begin 36 = .ok (.aload_n 1, 1) := by decide +kernel
theorem dX6_begin_37 : decode cX6_begin 37 = .ok (.getfield 55, 3) := by decide +kernel
theorem dX6_begin_40 : decode cX6_begin 40 = .ok (.i2l, 1) := by decide +kernel
theorem dX6_begin_41 : decode cX6_begin 41 = .ok (.invokevirtual 58, 3) := by decide +kernel
theorem dX6_begin_44 : decode cX6_begin 44 = .ok (.lastore, 1) := by decide +kernel
theorem dX6_begin_45 : decode cX6_begin 45 = .ok (.return_, 1) := by decide +kernel
theorem dX6_turnInput_0 : decode cX6_turnInput 0 = .ok (.aload_n 0, 1) := by decide +kernel
theorem dX6_turnInput_1 : decode cX6_turnInput 1 = .ok (.getfield 20, 3) := by decide +kernel
theorem dX6_turnInput_4 : decode cX6_turnInput 4 = .ok (.aload_n 0, 1) := by decide +kernel
theorem dX6_turnInput_5 : decode cX6_turnInput 5 = .ok (.getfield 14, 3) := by decide +kernel
theorem dX6_turnInput_8 : decode cX6_turnInput 8 = .ok (.invokevirtual 34, 3) := by decide +kernel
theorem dX6_turnInput_11 : decode cX6_turnInput 11 = .ok (.aload_n 0, 1) := by decide +kernel
theorem dX6_turnInput_12 : decode cX6_turnInput 12 = .ok (.getfield 23, 3) := by decide +kernel
theorem dX6_turnInput_15 : decode cX6_turnInput 15 = .ok (.invokevirtual 62, 3) := by decide +kernel
theorem dX6_turnInput_18 : decode cX6_turnInput 18 = .ok (.aload_n 0, 1) := by decide +kernel
theorem dX6_turnInput_19 : decode cX6_turnInput 19 = .ok (.getfield 23, 3) := by decide +kernel
theorem dX6_turnInput_22 : decode cX6_turnInput 22 = .ok (.iload_n 1, 1) := by decide +kernel
theorem dX6_turnInput_23 : decode cX6_turnInput 23 = .ok (.iload_n 2, 1) := by decide +kernel
theorem dX6_turnInput_24 : decode cX6_turnInput 24 = .ok (.i2l, 1) := by decide +kernel
theorem dX6_turnInput_25 : decode cX6_turnInput 25 = .ok (.ldc2_w 65, 3) := by decide +kernel
theorem dX6_turnInput_28 : decode cX6_turnInput 28 = .ok (.invokevirtual 67, 3) := by decide +kernel
theorem dX6_turnInput_31 : decode cX6_turnInput 31 = .ok (.aload_n 0, 1) := by decide +kernel
theorem dX6_turnInput_32 : decode cX6_turnInput 32 = .ok (.getfield 14, 3) := by decide +kernel
theorem dX6_turnInput_35 : decode cX6_turnInput 35 = .ok (.iload_n 1, 1) := by decide +kernel
theorem dX6_turnInput_36 : decode cX6_turnInput 36 = .ok (.iload_n 2, 1) := by decide +kernel
theorem dX6_turnInput_37 : decode cX6_turnInput 37 = .ok (.i2l, 1) := by decide +kernel
theorem dX6_turnInput_38 : decode cX6_turnInput 38 = .ok (.ldc2_w 65, 3) := by decide +kernel
theorem dX6_turnInput_41 : decode cX6_turnInput 41 = .ok (.invokevirtual 71, 3) := by decide +kernel
theorem dX6_turnInput_44 : decode cX6_turnInput 44 = .ok (.return_, 1) := by decide +kernel
theorem dX6_follow_0 : decode cX6_follow 0 = .ok (.aload_n 0, 1) := by decide +kernel
theorem dX6_follow_1 : decode cX6_follow 1 = .ok (.aload_n 1, 1) := by decide +kernel
theorem dX6_follow_2 : decode cX6_follow 2 = .ok (.invokevirtual 74, 3) := by decide +kernel
theorem dX6_follow_5 : decode cX6_follow 5 = .ok (.ifCond .eq 31, 3) := by decide +kernel
theorem dX6_follow_8 : decode cX6_follow 8 = .ok (.aload_n 0, 1) := by decide +kernel
theorem dX6_follow_9 : decode cX6_follow 9 = .ok (.getfield 23, 3) := by decide +kernel
theorem dX6_follow_12 : decode cX6_follow 12 = .ok (.aload_n 1, 1) := by decide +kernel
theorem dX6_follow_13 : decode cX6_follow 13 = .ok (.getfield 52, 3) := by decide +kernel
theorem dX6_follow_16 : decode cX6_follow 16 = .ok (.invokevirtual 76, 3) := by decide +kernel
theorem dX6_follow_19 : decode cX6_follow 19 = .ok (.ifCond .ne 18, 3) := by decide +kernel
theorem dX6_follow_22 : decode cX6_follow 22 = .ok (.aload_n 0, 1) := by decide +kernel
theorem dX6_follow_23 : decode cX6_follow 23 = .ok (.getfield 23, 3) := by decide +kernel
theorem dX6_follow_26 : decode cX6_follow 26 = .ok (.aload_n 1, 1) := by decide +kernel
theorem dX6_follow_27 : decode cX6_follow 27 = .ok (.getfield 80, 3) := by decide +kernel
theorem dX6_follow_30 : decode cX6_follow 30 = .ok (.invokevirtual 76, 3) := by decide +kernel
theorem dX6_follow_33 : decode cX6_follow 33 = .ok (.ifCond .ne 4, 3) := by decide +kernel
theorem dX6_follow_36 : decode cX6_follow 36 = .ok (.return_, 1) := by decide +kernel
theorem dX6_follow_37 : decode cX6_follow 37 = .ok (.aload_n 1, 1) := by decide +kernel
theorem dX6_follow_38 : decode cX6_follow 38 = .ok (.getfield 83, 3) := by decide +kernel
theorem dX6_follow_41 : decode cX6_follow 41 = .ok (.bipush 118, 2) := by decide +kernel
theorem dX6_follow_43 : decode cX6_follow 43 = .ok (.if_icmp .ne 47, 3) := by decide +kernel
theorem dX6_follow_46 : decode cX6_follow 46 = .ok (.aload_n 0, 1) := by decide +kernel
theorem dX6_follow_47 : decode cX6_follow 47 = .ok (.getfield 23, 3) := by decide +kernel
theorem dX6_follow_50 : decode cX6_follow 50 = .ok (.aload_n 1, 1) := by decide +kernel
theorem dX6_follow_51 : decode cX6_follow 51 = .ok (.getfield 87, 3) := by decide +kernel
theorem dX6_follow_54 : decode cX6_follow 54 = .ok (.aload_n 0, 1) := by decide +kernel
theorem dX6_follow_55 : decode cX6_follow 55 = .ok (.getfield 14, 3) := by decide +kernel
theorem dX6_follow_58 : decode cX6_follow 58 = .ok (.aload_n 1, 1) := by decide +kernel
theorem dX6_follow_59 : decode cX6_follow 59 = .ok (.getfield 52, 3) := by decide +kernel
theorem dX6_follow_62 : decode cX6_follow 62 = .ok (.lconst 1, 1) := by decide +kernel
theorem dX6_follow_63 : decode cX6_follow 63 = .ok (.invokevirtual 58, 3) := by decide +kernel
theorem dX6_follow_66 : decode cX6_follow 66 = .ok (.aload_n 0, 1) := by decide +kernel
theorem dX6_follow_67 : decode cX6_follow 67 = .ok (.getfield 20, 3) := by decide +kernel
theorem dX6_follow_70 : decode cX6_follow 70 = .ok (.aload_n 1, 1) := by decide +kernel
theorem dX6_follow_71 : decode cX6_follow 71 = .ok (.getfield 52, 3) := by decide +kernel
theorem dX6_follow_74 : decode cX6_follow 74 = .ok (.lconst 1, 1) := by decide +kernel
theorem dX6_follow_75 : decode cX6_follow 75 = .ok (.invokevirtual 58, 3) := by decide +kernel
theorem dX6_follow_78 : decode cX6_follow 78 = .ok (.lsub, 1) := by decide +kernel
theorem dX6_follow_79 : decode cX6_follow 79 = .ok (.aload_n 1, 1) := by decide +kernel
theorem dX6_follow_80 : decode cX6_follow 80 = .ok (.getfield 55, 3) := by decide +kernel
theorem dX6_follow_83 : decode cX6_follow 83 = .ok (.i2l, 1) := by decide +kernel
theorem dX6_follow_84 : decode cX6_follow 84 = .ok (.invokevirtual 67, 3) := by decide +kernel
theorem dX6_follow_87 : decode cX6_follow 87 = .ok (.goto 32, 3) := by decide +kernel
theorem dX6_follow_90 : decode cX6_follow 90 = .ok (.aload_n 1, 1) := by decide +kernel
theorem dX6_follow_91 : decode cX6_follow 91 = .ok (.getfield 83, 3) := by decide +kernel
theorem dX6_follow_94 : decode cX6_follow 94 = .ok (.bipush 114, 2) := by decide +kernel
theorem dX6_follow_96 : decode cX6_follow 96 = .ok (.if_icmp .ne 11, 3) := by decide +kernel
theorem dX6_follow_99 : decode cX6_follow 99 = .ok (.aload_n 0, 1) := by decide +kernel
theorem dX6_follow_100 : decode cX6_follow 100 = .ok (.aload_n 1, 1) := by decide +kernel
theorem dX6_follow_101 : decode cX6_follow 101 = .ok (.invokevirtual 90, 3) := by decide +kernel
theorem dX6_follow_104 : decode cX6_follow 104 = .ok (.goto 15, 3) := by decide +kernel
theorem dX6_follow_107 : decode cX6_follow 107 = .ok (.aload_n 1, 1) := by decide +kernel
theorem dX6_follow_108 : decode cX6_follow 108 = .ok (.aload_n 0, 1) := by decide +kernel
theorem dX6_follow_109 : decode cX6_follow 109 = .ok (.getfield 23, 3) := by decide +kernel
theorem dX6_follow_112 : decode cX6_follow 112 = .ok (.aload_n 1, 1) := by decide +kernel
theorem dX6_follow_113 : decode cX6_follow 113 = .ok (.invokevirtual 94, 3) := by decide +kernel
theorem dX6_follow_116 : decode cX6_follow 116 = .ok (.invokevirtual 98, 3) := by decide +kernel
theorem dX6_follow_119 : decode cX6_follow 119 = .ok (.aload_n 0, 1) := by decide +kernel
theorem dX6_follow_120 : decode cX6_follow 120 = .ok (.getfield 14, 3) := by decide +kernel
theorem dX6_follow_123 : decode cX6_follow 123 = .ok (.aload_n 1, 1) := by decide +kernel
theorem dX6_follow_124 : decode cX6_follow 124 = .ok (.getfield 87, 3) := by decide +kernel
theorem dX6_follow_127 : decode cX6_follow 127 = .ok (.aload_n 0, 1) := by decide +kernel
theorem dX6_follow_128 : decode cX6_follow 128 = .ok (.getfield 23, 3) := by decide +kernel
theorem dX6_follow_131 : decode cX6_follow 131 = .ok (.aload_n 1, 1) := by decide +kernel
theorem dX6_follow_132 : decode cX6_follow 132 = .ok (.getfield 87, 3) := by decide +kernel
theorem dX6_follow_135 : decode cX6_follow 135 = .ok (.invokevirtual 102, 3) := by decide +kernel
theorem dX6_follow_138 : decode cX6_follow 138 = .ok (.aload_n 0, 1) := by decide +kernel
theorem dX6_follow_139 : decode cX6_follow 139 = .ok (.getfield 23, 3) := by decide +kernel
theorem dX6_follow_142 : decode cX6_follow 142 = .ok (.aload_n 1, 1) := by decide +kernel
theorem dX6_follow_143 : decode cX6_follow 143 = .ok (.getfield 87, 3) := by decide +kernel
theorem dX6_follow_146 : decode cX6_follow 146 = .ok (.invokevirtual 106, 3) := by decide +kernel
theorem dX6_follow_149 : decode cX6_follow 149 = .ok (.invokevirtual 71, 3) := by decide +kernel
theorem dX6_follow_152 : decode cX6_follow 152 = .ok (.return_, 1) := by decide +kernel
theorem dX6_followRatchet_0 : decode cX6_followRatchet 0 = .ok (.aload_n 0, 1) := by decide +kernel
theorem dX6_followRatchet_1 : decode cX6_followRatchet 1 = .ok (.getfield 14, 3) := by decide +kernel
theorem dX6_followRatchet_4 : decode cX6_followRatchet 4 = .ok (.aload_n 1, 1) := by decide +kernel
theorem dX6_followRatchet_5 : decode cX6_followRatchet 5 = .ok (.getfield 52, 3) := by decide +kernel
theorem dX6_followRatchet_8 : decode cX6_followRatchet 8 = .ok (.aload_n 1, 1) := by decide +kernel
theorem dX6_followRatchet_9 : decode cX6_followRatchet 9 = .ok (.getfield 55, 3) := by decide +kernel
theorem dX6_followRatchet_12 : decode cX6_followRatchet 12 = .ok (.i2l, 1) := by decide +kernel
theorem dX6_followRatchet_13 : decode cX6_followRatchet 13 = .ok (.invokevirtual 58, 3) := by decide +kernel
theorem dX6_followRatchet_16 : decode cX6_followRatchet 16 = .ok (.lstore_n 2, 1) := by decide +kernel
theorem dX6_followRatchet_17 : decode cX6_followRatchet 17 = .ok (.aload_n 1, 1) := by decide +kernel
theorem dX6_followRatchet_18 : decode cX6_followRatchet 18 = .ok (.invokestatic 44, 3) := by decide +kernel
theorem dX6_followRatchet_21 : decode cX6_followRatchet 21 = .ok (.ifCond .eq 54, 3) := by decide +kernel
theorem dX6_followRatchet_24 : decode cX6_followRatchet 24 = .ok (.lload_n 2, 1) := by decide +kernel
theorem dX6_followRatchet_25 : decode cX6_followRatchet 25 = .ok (.aload_n 0, 1) := by decide +kernel
theorem dX6_followRatchet_26 : decode cX6_followRatchet 26 = .ok (.getfield 26, 3) := by decide +kernel
theorem dX6_followRatchet_29 : decode cX6_followRatchet 29 = .ok (.aload_n 1, 1) := by decide +kernel
theorem dX6_followRatchet_30 : decode cX6_followRatchet 30 = .ok (.getfield 38, 3) := by decide +kernel
theorem dX6_followRatchet_33 : decode cX6_followRatchet 33 = .ok (.laload, 1) := by decide +kernel
theorem dX6_followRatchet_34 : decode cX6_followRatchet 34 = .ok (.lcmp, 1) := by decide +kernel
theorem dX6_followRatchet_35 : decode cX6_followRatchet 35 = .ok (.ifCond .le 40, 3) := by decide +kernel
theorem dX6_followRatchet_38 : decode cX6_followRatchet 38 = .ok (.aload_n 0, 1) := by decide +kernel
theorem dX6_followRatchet_39 : decode cX6_followRatchet 39 = .ok (.getfield 23, 3) := by decide +kernel
theorem dX6_followRatchet_42 : decode cX6_followRatchet 42 = .ok (.aload_n 1, 1) := by decide +kernel
theorem dX6_followRatchet_43 : decode cX6_followRatchet 43 = .ok (.getfield 87, 3) := by decide +kernel
theorem dX6_followRatchet_46 : decode cX6_followRatchet 46 = .ok (.lload_n 2, 1) := by decide +kernel
theorem dX6_followRatchet_47 : decode cX6_followRatchet 47 = .ok (.aload_n 0, 1) := by decide +kernel
theorem dX6_followRatchet_48 : decode cX6_followRatchet 48 = .ok (.getfield 26, 3) := by decide +kernel
theorem dX6_followRatchet_51 : decode cX6_followRatchet 51 = .ok (.aload_n 1, 1) := by decide +kernel
theorem dX6_followRatchet_52 : decode cX6_followRatchet 52 = .ok (.getfield 38, 3) := by decide +kernel
theorem dX6_followRatchet_55 : decode cX6_followRatchet 55 = .ok (.laload, 1) := by decide +kernel
theorem dX6_followRatchet_56 : decode cX6_followRatchet 56 = .ok (.lsub, 1) := by decide +kernel
theorem dX6_followRatchet_57 : decode cX6_followRatchet 57 = .ok (.aload_n 1, 1) := by decide +kernel
theorem dX6_followRatchet_58 : decode cX6_followRatchet 58 = .ok (.getfield 55, 3) := by decide +kernel
theorem dX6_followRatchet_61 : decode cX6_followRatchet 61 = .ok (.i2l, 1) := by decide +kernel
theorem dX6_followRatchet_62 : decode cX6_followRatchet 62 = .ok (.invokevirtual 67, 3) := by decide +kernel
theorem dX6_followRatchet_65 : decode cX6_followRatchet 65 = .ok (.aload_n 0, 1) := by decide +kernel
theorem dX6_followRatchet_66 : decode cX6_followRatchet 66 = .ok (.getfield 26, 3) := by decide +kernel
theorem dX6_followRatchet_69 : decode cX6_followRatchet 69 = .ok (.aload_n 1, 1) := by decide +kernel
theorem dX6_followRatchet_70 : decode cX6_followRatchet 70 = .ok (.getfield 38, 3) := by decide +kernel
theorem dX6_followRatchet_73 : decode cX6_followRatchet 73 = .ok (.lload_n 2, 1) := by decide +kernel
theorem dX6_followRatchet_74 : decode cX6_followRatchet 74 = .ok (.lastore, 1) := by decide +kernel
theorem dX6_followRatchet_75 : decode cX6_followRatchet 75 = .ok (.return_, 1) := by decide +kernel
theorem dX7_init_0 : decode cX7_init 0 = .ok (.aload_n 0, 1) := by decide +kernel
theorem dX7_init_1 : decode cX7_init 1 = .ok (.invokespecial 1, 3) := by decide +kernel
theorem dX7_init_4 : decode cX7_init 4 = .ok (.aload_n 0, 1) := by decide +kernel
theorem dX7_init_5 : decode cX7_init 5 = .ok (.new 7, 3) := by decide +kernel
theorem dX7_init_8 : decode cX7_init 8 = .ok (.dup, 1) := by decide +kernel
theorem dX7_init_9 : decode cX7_init 9 = .ok (.invokespecial 9, 3) := by decide +kernel
theorem dX7_init_12 : decode cX7_init 12 = .ok (.putfield 10, 3) := by decide +kernel
theorem dX7_init_15 : decode cX7_init 15 = .ok (.aload_n 0, 1) := by decide +kernel
theorem dX7_init_16 : decode cX7_init 16 = .ok (.new 7, 3) := by decide +kernel
theorem dX7_init_19 : decode cX7_init 19 = .ok (.dup, 1) := by decide +kernel
theorem dX7_init_20 : decode cX7_init 20 = .ok (.invokespecial 9, 3) := by decide +kernel
theorem dX7_init_23 : decode cX7_init 23 = .ok (.putfield 16, 3) := by decide +kernel
theorem dX7_init_26 : decode cX7_init 26 = .ok (.aload_n 0, 1) := by decide +kernel
theorem dX7_init_27 : decode cX7_init 27 = .ok (.new 7, 3) := by decide +kernel
theorem dX7_init_30 : decode cX7_init 30 = .ok (.dup, 1) := by decide +kernel
theorem dX7_init_31 : decode cX7_init 31 = .ok (.invokespecial 9, 3) := by decide +kernel
theorem dX7_init_34 : decode cX7_init 34 = .ok (.putfield 19, 3) := by decide +kernel
theorem dX7_init_37 : decode cX7_init 37 = .ok (.aload_n 0, 1) := by decide +kernel
theorem dX7_init_38 : decode cX7_init 38 = .ok (.new 7, 3) := by decide +kernel
theorem dX7_init_41 : decode cX7_init 41 = .ok (.dup, 1) := by decide +kernel
theorem dX7_init_42 : decode cX7_init 42 = .ok (.invokespecial 9, 3) := by decide +kernel
theorem dX7_init_45 : decode cX7_init 45 = .ok (.putfield 22, 3) := by decide +kernel
theorem dX7_init_48 : decode cX7_init 48 = .ok (.aload_n 0, 1) := by decide +kernel
theorem dX7_init_49 : decode cX7_init 49 = .ok (.bipush 14, 2) := by decide +kernel
theorem dX7_init_51 : decode cX7_init 51 = .ok (.newarray .int, 2) := by decide +kernel
theorem dX7_init_53 : decode cX7_init 53 = .ok (.putfield 25, 3) := by decide +kernel
theorem dX7_init_56 : decode cX7_init 56 = .ok (.aload_n 0, 1) := by decide +kernel
theorem dX7_init_57 : decode cX7_init 57 = .ok (.bipush 14, 2) := by decide +kernel
theorem dX7_init_59 : decode cX7_init 59 = .ok (.newarray .int, 2) := by decide +kernel
theorem dX7_init_61 : decode cX7_init 61 = .ok (.putfield 29, 3) := by decide +kernel
theorem dX7_init_64 : decode cX7_init 64 = .ok (.aload_n 0, 1) := by decide +kernel
theorem dX7_init_65 : decode cX7_init 65 = .ok (.bipush 14, 2) := by decide +kernel
theorem dX7_init_67 : decode cX7_init 67 = .ok (.newarray .boolean, 2) := by decide +kernel
theorem dX7_init_69 : decode cX7_init 69 = .ok (.putfield 32, 3) := by decide +kernel
theorem dX7_init_72 : decode cX7_init 72 = .ok (.aload_n 0, 1) := by decide +kernel
theorem dX7_init_73 : decode cX7_init 73 = .ok (.bipush 14, 2) := by decide +kernel
theorem dX7_init_75 : decode cX7_init 75 = .ok (.newarray .boolean, 2) := by decide +kernel
theorem dX7_init_77 : decode cX7_init 77 = .ok (.putfield 36, 3) := by decide +kernel
theorem dX7_init_80 : decode cX7_init 80 = .ok (.aload_n 0, 1) := by decide +kernel
theorem dX7_init_81 : decode cX7_init 81 = .ok (.new 39, 3) := by decide +kernel
theorem dX7_init_84 : decode cX7_init 84 = .ok (.dup, 1) := by decide +kernel
theorem dX7_init_85 : decode cX7_init 85 = .ok (.bipush 14, 2) := by decide +kernel
theorem dX7_init_87 : decode cX7_init 87 = .ok (.invokespecial 41, 3) := by decide +kernel
theorem dX7_init_90 : decode cX7_init 90 = .ok (.putfield 44, 3) := by decide +kernel
theorem dX7_init_93 : decode cX7_init 93 = .ok (.aload_n 0, 1) := by decide +kernel
theorem dX7_init_94 : decode cX7_init 94 = .ok (.new 39, 3) := by decide +kernel
theorem dX7_init_97 : decode cX7_init 97 = .ok (.dup, 1) := by decide +kernel
theorem dX7_init_98 : decode cX7_init 98 = .ok (.bipush 16, 2) := by decide +kernel
theorem dX7_init_100 : decode cX7_init 100 = .ok (.invokespecial 41, 3) := by decide +kernel
theorem dX7_init_103 : decode cX7_init 103 = .ok (.putfield 48, 3) := by decide +kernel
theorem dX7_init_106 : decode cX7_init 106 = .ok (.aload_n 0, 1) := by decide +kernel
theorem dX7_init_107 : decode cX7_init 107 = .ok (.new 51, 3) := by decide +kernel
theorem dX7_init_110 : decode cX7_init 110 = .ok (.dup, 1) := by decide +kernel
theorem dX7_init_111 : decode cX7_init 111 = .ok (.invokespecial 53, 3) := by decide +kernel
theorem dX7_init_114 : decode cX7_init 114 = .ok (.putfield 54, 3) := by decide +kernel
theorem dX7_init_117 : decode cX7_init 117 = .ok (.aload_n 0, 1) := by decide +kernel
theorem dX7_init_118 : decode cX7_init 118 = .ok (.new 51, 3) := by decide +kernel
theorem dX7_init_121 : decode cX7_init 121 = .ok (.dup, 1) := by decide +kernel
theorem dX7_init_122 : decode cX7_init 122 = .ok (.invokespecial 53, 3) := by decide +kernel
theorem dX7_init_125 : decode cX7_init 125 = .ok (.putfield 58, 3) := by decide +kernel
theorem dX7_init_128 : decode cX7_init 128 = .ok (.aload_n 0, 1) := by decide +kernel
theorem dX7_init_129 : decode cX7_init 129 = .ok (.new 51, 3) := by decide +kernel
theorem dX7_init_132 : decode cX7_init 132 = .ok (.dup, 1) := by decide +kernel
theorem dX7_init_133 : decode cX7_init 133 = .ok (.invokespecial 53, 3) := by decide +kernel
theorem dX7_init_136 : decode cX7_init 136 = .ok (.putfield 61, 3) := by decide +kernel
theorem dX7_init_139 : decode cX7_init 139 = .ok (.aload_n 0, 1) := by decide +kernel
theorem dX7_init_140 : decode cX7_init 140 = .ok (.iconst (-1), 1) := by decide +kernel
theorem dX7_init_141 : decode cX7_init 141 = .ok (.putfield 64, 3) := by decide +kernel
theorem dX7_init_144 : decode cX7_init 144 = .ok (.aload_n 0, 1) := by decide +kernel
theorem dX7_init_145 : decode cX7_init 145 = .ok (.getfield 25, 3) := by decide +kernel
theorem dX7_init_148 : decode cX7_init 148 = .ok (.iconst (-1), 1) := by decide +kernel
theorem dX7_init_149 : decode cX7_init 149 = .ok (.invokestatic 68, 3) := by decide +kernel
theorem dX7_init_152 : decode cX7_init 152 = .ok (.return_, 1) := by decide +kernel
theorem dX7_shaft_0 : decode cX7_shaft 0 = .ok (.aload_n 0, 1) := by decide +kernel
theorem dX7_shaft_1 : decode cX7_shaft 1 = .ok (.getfield 74, 3) := by decide +kernel
theorem dX7_shaft_4 : decode cX7_shaft 4 = .ok (.bipush 14, 2) := by decide +kernel
theorem dX7_shaft_6 : decode cX7_shaft 6 = .ok (.if_icmp .lt 13, 3) := by decide +kernel
theorem dX7_shaft_9 : decode cX7_shaft 9 = .ok (.new 77, 3) := by decide +kernel
theorem dX7_shaft_12 : decode cX7_shaft 12 = .ok (.dup, 1) := by decide +kernel
theorem dX7_shaft_13 : decode cX7_shaft 13 = .ok (.ldc 79, 2) := by decide +kernel
theorem dX7_shaft_15 : decode cX7_shaft 15 = .ok (.invokespecial 81, 3) := by decide +kernel
theorem dX7_shaft_18 : decode cX7_shaft 18 = .ok (.athrow, 1) := by decide +kernel
theorem dX7_shaft_19 : decode cX7_shaft 19 = .ok (.aload_n 0, 1) := by decide +kernel
theorem dX7_shaft_20 : decode cX7_shaft 20 = .ok (.dup, 1) := by decide +kernel
theorem dX7_shaft_21 : decode cX7_shaft 21 = .ok (.getfield 74, 3) := by decide +kernel
theorem dX7_shaft_24 : decode cX7_shaft 24 = .ok (.iconst 1, 1) := by decide +kernel
theorem dX7_shaft_25 : decode cX7_shaft 25 = .ok (.iadd, 1) := by decide +kernel
theorem dX7_shaft_26 : decode cX7_shaft 26 = .ok (.putfield 74, 3) := by decide +kernel
theorem dX7_shaft_29 : decode cX7_shaft 29 = .ok (.aload_n 0, 1) := by decide +kernel
theorem dX7_shaft_30 : decode cX7_shaft 30 = .ok (.getfield 74, 3) := by decide +kernel
theorem dX7_shaft_33 : decode cX7_shaft 33 = .ok (.iconst 1, 1) := by decide +kernel
theorem dX7_shaft_34 : decode cX7_shaft 34 = .ok (.isub, 1) := by decide +kernel
theorem dX7_shaft_35 : decode cX7_shaft 35 = .ok (.ireturn, 1) := by decide +kernel
theorem dX7_link_0 : decode cX7_link 0 = .ok (.aload_n 0, 1) := by decide +kernel
theorem dX7_link_1 : decode cX7_link 1 = .ok (.iload_n 2, 1) := by decide +kernel
theorem dX7_link_2 : decode cX7_link 2 = .ok (.invokevirtual 84, 3) := by decide +kernel
theorem dX7_link_5 : decode cX7_link 5 = .ok (.aload_n 0, 1) := by decide +kernel
theorem dX7_link_6 : decode cX7_link 6 = .ok (.iload_n 3, 1) := by decide +kernel
theorem dX7_link_7 : decode cX7_link 7 = .ok (.invokevirtual 84, 3) := by decide +kernel
theorem dX7_link_10 : decode cX7_link 10 = .ok (.iload_n 1, 1) := by decide +kernel
theorem dX7_link_11 : decode cX7_link 11 = .ok (.iload 4, 2) := by decide +kernel
theorem dX7_link_13 : decode cX7_link 13 = .ok (.iload 5, 2) := by decide +kernel
theorem dX7_link_15 : decode cX7_link 15 = .ok (.invokestatic 87, 3) := by decide +kernel
theorem dX7_link_18 : decode cX7_link 18 = .ok (.ifCond .ne 13, 3) := by decide +kernel
theorem dX7_link_21 : decode cX7_link 21 = .ok (.new 91, 3) := by decide +kernel
theorem dX7_link_24 : decode cX7_link 24 = .ok (.dup, 1) := by decide +kernel
theorem dX7_link_25 : decode cX7_link 25 = .ok (.ldc 93, 2) := by decide +kernel
theorem dX7_link_27 : decode cX7_link 27 = .ok (.invokespecial 95, 3) := by decide +kernel
theorem dX7_link_30 : decode cX7_link 30 = .ok (.athrow, 1) := by decide +kernel
theorem dX7_link_31 : decode cX7_link 31 = .ok (.iload_n 2, 1) := by decide +kernel
theorem dX7_link_32 : decode cX7_link 32 = .ok (.iload_n 3, 1) := by decide +kernel
theorem dX7_link_33 : decode cX7_link 33 = .ok (.if_icmp .ne 13, 3) := by decide +kernel
theorem dX7_link_36 : decode cX7_link 36 = .ok (.new 96, 3) := by decide +kernel
theorem dX7_link_39 : decode cX7_link 39 = .ok (.dup, 1) := by decide +kernel
theorem dX7_link_40 : decode cX7_link 40 = .ok (.ldc 98, 2) := by decide +kernel
theorem dX7_link_42 : decode cX7_link 42 = .ok (.invokespecial 100, 3) := by decide +kernel
theorem dX7_link_45 : decode cX7_link 45 = .ok (.athrow, 1) := by decide +kernel
theorem dX7_link_46 : decode cX7_link 46 = .ok (.aload_n 0, 1) := by decide +kernel
theorem dX7_link_47 : decode cX7_link 47 = .ok (.new 101, 3) := by decide +kernel
theorem dX7_link_50 : decode cX7_link 50 = .ok (.dup, 1) := by decide +kernel
theorem dX7_link_51 : decode cX7_link 51 = .ok (.aload_n 0, 1) := by decide +kernel
theorem dX7_link_52 : decode cX7_link 52 = .ok (.getfield 10, 3) := by decide +kernel
theorem dX7_link_55 : decode cX7_link 55 = .ok (.invokevirtual 103, 3) := by decide +kernel
theorem dX7_link_58 : decode cX7_link 58 = .ok (.iload_n 1, 1) := by decide +kernel
theorem dX7_link_59 : decode cX7_link 59 = .ok (.iload_n 2, 1) := by decide +kernel
theorem dX7_link_60 : decode cX7_link 60 = .ok (.iconst (-1), 1) := by decide +kernel
theorem dX7_link_61 : decode cX7_link 61 = .ok (.iload_n 3, 1) := by decide +kernel
theorem dX7_link_62 : decode cX7_link 62 = .ok (.iload 4, 2) := by decide +kernel
theorem dX7_link_64 : decode cX7_link 64 = .ok (.iload 5, 2) := by decide +kernel
theorem dX7_link_66 : decode cX7_link 66 = .ok (.invokespecial 107, 3) := by decide +kernel
theorem dX7_link_69 : decode cX7_link 69 = .ok (.invokevirtual 110, 3) := by decide +kernel
theorem dX7_link_72 : decode cX7_link 72 = .ok (.ireturn, 1) := by decide +kernel
theorem dX7_planets_0 : decode cX7_planets 0 = .ok (.aload_n 0, 1) := by decide +kernel
theorem dX7_planets_1 : decode cX7_planets 1 = .ok (.iload_n 1, 1) := by decide +kernel
theorem dX7_planets_2 : decode cX7_planets 2 = .ok (.invokevirtual 84, 3) := by decide +kernel
theorem dX7_planets_5 : decode cX7_planets 5 = .ok (.aload_n 0, 1) := by decide +kernel
theorem dX7_planets_6 : decode cX7_planets 6 = .ok (.iload_n 2, 1) := by decide +kernel
theorem dX7_planets_7 : decode cX7_planets 7 = .ok (.invokevirtual 84, 3) := by decide +kernel
theorem dX7_planets_10 : decode cX7_planets 10 = .ok (.aload_n 0, 1) := by decide +kernel
theorem dX7_planets_11 : decode cX7_planets 11 = .ok (.iload_n 3, 1) := by decide +kernel
theorem dX7_planets_12 : decode cX7_planets 12 = .ok (.invokevirtual 84, 3) := by decide +kernel
theorem dX7_planets_15 : decode cX7_planets 15 = .ok (.iload 4, 2) := by decide +kernel
theorem dX7_planets_17 : decode cX7_planets 17 = .ok (.bipush 6, 2) := by decide +kernel
theorem dX7_planets_19 : decode cX7_planets 19 = .ok (.bipush 30, 2) := by decide +kernel
theorem dX7_planets_21 : decode cX7_planets 21 = .ok (.invokestatic 114, 3) := by decide +kernel
theorem dX7_planets_24 : decode cX7_planets 24 = .ok (.iload 5, 2) := by decide +kernel
theorem dX7_planets_26 : decode cX7_planets 26 = .ok (.bipush 6, 2) := by decide +kernel
theorem dX7_planets_28 : decode cX7_planets 28 = .ok (.bipush 30, 2) := by decide +kernel
theorem dX7_planets_30 : decode cX7_planets 30 = .ok (.invokestatic 114, 3) := by decide +kernel
theorem dX7_planets_33 : decode cX7_planets 33 = .ok (.iload_n 1, 1) := by decide +kernel
theorem dX7_planets_34 : decode cX7_planets 34 = .ok (.iload_n 2, 1) := by decide +kernel
theorem dX7_planets_35 : decode cX7_planets 35 = .ok (.if_icmp .eq 13, 3) := by decide +kernel
theorem dX7_planets_38 : decode cX7_planets 38 = .ok (.iload_n 1, 1) := by decide +kernel
theorem dX7_planets_39 : decode cX7_planets 39 = .ok (.iload_n 3, 1) := by decide +kernel
theorem dX7_planets_40 : decode cX7_planets 40 = .ok (.if_icmp .eq 8, 3) := by decide +kernel
theorem dX7_planets_43 : decode cX7_planets 43 = .ok (.iload_n 2, 1) := by decide +kernel
theorem dX7_planets_44 : decode cX7_planets 44 = .ok (.iload_n 3, 1) := by decide +kernel
theorem dX7_planets_45 : decode cX7_planets 45 = .ok (.if_icmp .ne 13, 3) := by decide +kernel
theorem dX7_planets_48 : decode cX7_planets 48 = .ok (.new 96, 3) := by decide +kernel
theorem dX7_planets_51 : decode cX7_planets 51 = .ok (.dup, 1) := by decide +kernel
theorem dX7_planets_52 : decode cX7_planets 52 = .ok (.ldc 118, 2) := by decide +kernel
theorem dX7_planets_54 : decode cX7_planets 54 = .ok (.invokespecial 100, 3) := by decide +kernel
theorem dX7_planets_57 : decode cX7_planets 57 = .ok (.athrow, 1) := by decide +kernel
theorem dX7_planets_58 : decode cX7_planets 58 = .ok (.aload_n 0, 1) := by decide +kernel
theorem dX7_planets_59 : decode cX7_planets 59 = .ok (.new 101, 3) := by decide +kernel
theorem dX7_planets_62 : decode cX7_planets 62 = .ok (.dup, 1) := by decide +kernel
theorem dX7_planets_63 : decode cX7_planets 63 = .ok (.aload_n 0, 1) := by decide +kernel
theorem dX7_planets_64 : decode cX7_planets 64 = .ok (.getfield 10, 3) := by decide +kernel
theorem dX7_planets_67 : decode cX7_planets 67 = .ok (.invokevirtual 103, 3) := by decide +kernel
theorem dX7_planets_70 : decode cX7_planets 70 = .ok (.bipush 112, 2) := by decide +kernel
theorem dX7_planets_72 : decode cX7_planets 72 = .ok (.iload_n 1, 1) := by decide +kernel
theorem dX7_planets_73 : decode cX7_planets 73 = .ok (.iload_n 2, 1) := by decide +kernel
theorem dX7_planets_74 : decode cX7_planets 74 = .ok (.iload_n 3, 1) := by decide +kernel
theorem dX7_planets_75 : decode cX7_planets 75 = .ok (.iload 4, 2) := by decide +kernel
theorem dX7_planets_77 : decode cX7_planets 77 = .ok (.iload 5, 2) := by decide +kernel
theorem dX7_planets_79 : decode cX7_planets 79 = .ok (.invokespecial 107, 3) := by decide +kernel
theorem dX7_planets_82 : decode cX7_planets 82 = .ok (.invokevirtual 110, 3) := by decide +kernel
theorem dX7_planets_85 : decode cX7_planets 85 = .ok (.ireturn, 1) := by decide +kernel
theorem dX7_engage_0 : decode cX7_engage 0 = .ok (.aload_n 0, 1) := by decide +kernel
theorem dX7_engage_1 : decode cX7_engage 1 = .ok (.iload_n 1, 1) := by decide +kernel
theorem dX7_engage_2 : decode cX7_engage 2 = .ok (.invokevirtual 120, 3) := by decide +kernel
theorem dX7_engage_5 : decode cX7_engage 5 = .ok (.astore_n 3, 1) := by decide +kernel
theorem dX7_engage_6 : decode cX7_engage 6 = .ok (.aload_n 3, 1) := by decide +kernel
theorem dX7_engage_7 : decode cX7_engage 7 = .ok (.getfield 124, 3) := by decide +kernel
theorem dX7_engage_10 : decode cX7_engage 10 = .ok (.bipush 107, 2) := by decide +kernel
theorem dX7_engage_12 : decode cX7_engage 12 = .ok (.if_icmp .eq 13, 3) := by decide +kernel
theorem dX7_engage_15 : decode cX7_engage 15 = .ok (.new 96, 3) := by decide +kernel
theorem dX7_engage_18 : decode cX7_engage 18 = .ok (.dup, 1) := by decide +kernel
theorem dX7_engage_19 : decode cX7_engage 19 = .ok (.ldc 128, 2) := by decide +kernel
theorem dX7_engage_21 : decode cX7_engage 21 = .ok (.invokespecial 100, 3) := by decide +kernel
theorem dX7_engage_24 : decode cX7_engage 24 = .ok (.athrow, 1) := by decide +kernel
theorem dX7_engage_25 : decode cX7_engage 25 = .ok (.aload_n 3, 1) := by decide +kernel
theorem dX7_engage_26 : decode cX7_engage 26 = .ok (.getfield 130, 3) := by decide +kernel
theorem dX7_engage_29 : decode cX7_engage 29 = .ok (.istore 4, 2) := by decide +kernel
theorem dX7_engage_31 : decode cX7_engage 31 = .ok (.aload_n 3, 1) := by decide +kernel
theorem dX7_engage_32 : decode cX7_engage 32 = .ok (.iload_n 2, 1) := by decide +kernel
theorem dX7_engage_33 : decode cX7_engage 33 = .ok (.putfield 130, 3) := by decide +kernel
theorem dX7_engage_36 : decode cX7_engage 36 = .ok (.aload_n 0, 1) := by decide +kernel
theorem dX7_engage_37 : decode cX7_engage 37 = .ok (.getfield 54, 3) := by decide +kernel
theorem dX7_engage_40 : decode cX7_engage 40 = .ok (.aload_n 3, 1) := by decide +kernel
theorem dX7_engage_41 : decode cX7_engage 41 = .ok (.aload_n 3, 1) := by decide +kernel
theorem dX7_engage_42 : decode cX7_engage 42 = .ok (.invokevirtual 134, 3) := by decide +kernel
theorem dX7_engage_45 : decode cX7_engage 45 = .ok (.invokevirtual 138, 3) := by decide +kernel
theorem dX7_engage_48 : decode cX7_engage 48 = .ok (.iload 4, 2) := by decide +kernel
theorem dX7_engage_50 : decode cX7_engage 50 = .ok (.ireturn, 1) := by decide +kernel
theorem dX7_life_0 : decode cX7_life 0 = .ok (.aload_n 0, 1) := by decide +kernel
theorem dX7_life_1 : decode cX7_life 1 = .ok (.iload_n 1, 1) := by decide +kernel
theorem dX7_life_2 : decode cX7_life 2 = .ok (.invokevirtual 120, 3) := by decide +kernel
theorem dX7_life_5 : decode cX7_life 5 = .ok (.astore_n 3, 1) := by decide +kernel
theorem dX7_life_6 : decode cX7_life 6 = .ok (.iload_n 2, 1) := by decide +kernel
theorem dX7_life_7 : decode cX7_life 7 = .ok (.iconst 0, 1) := by decide +kernel
theorem dX7_life_8 : decode cX7_life 8 = .ok (.sipush 999, 3) := by decide +kernel
theorem dX7_life_11 : decode cX7_life 11 = .ok (.invokestatic 114, 3) := by decide +kernel
theorem dX7_life_14 : decode cX7_life 14 = .ok (.aload_n 3, 1) := by decide +kernel
theorem dX7_life_15 : decode cX7_life 15 = .ok (.getfield 142, 3) := by decide +kernel
theorem dX7_life_18 : decode cX7_life 18 = .ok (.istore 4, 2) := by decide +kernel
theorem dX7_life_20 : decode cX7_life 20 = .ok (.aload_n 3, 1) := by decide +kernel
theorem dX7_life_21 : decode cX7_life 21 = .ok (.iload_n 2, 1) := by decide +kernel
theorem dX7_life_22 : decode cX7_life 22 = .ok (.putfield 142, 3) := by decide +kernel
theorem dX7_life_25 : decode cX7_life 25 = .ok (.iload 4, 2) := by decide +kernel
theorem dX7_life_27 : decode cX7_life 27 = .ok (.ireturn, 1) := by decide +kernel
theorem dX7_slack_0 : decode cX7_slack 0 = .ok (.aload_n 0, 1) := by decide +kernel
theorem dX7_slack_1 : decode cX7_slack 1 = .ok (.iload_n 1, 1) := by decide +kernel
theorem dX7_slack_2 : decode cX7_slack 2 = .ok (.invokevirtual 120, 3) := by decide +kernel
theorem dX7_slack_5 : decode cX7_slack 5 = .ok (.astore_n 3, 1) := by decide +kernel
theorem dX7_slack_6 : decode cX7_slack 6 = .ok (.iload_n 2, 1) := by decide +kernel
theorem dX7_slack_7 : decode cX7_slack 7 = .ok (.iconst 0, 1) := by decide +kernel
theorem dX7_slack_8 : decode cX7_slack 8 = .ok (.bipush 99, 2) := by decide +kernel
theorem dX7_slack_10 : decode cX7_slack 10 = .ok (.invokestatic 114, 3) := by decide +kernel
theorem dX7_slack_13 : decode cX7_slack 13 = .ok (.aload_n 3, 1) := by decide +kernel
theorem dX7_slack_14 : decode cX7_slack 14 = .ok (.getfield 145, 3) := by decide +kernel
theorem dX7_slack_17 : decode cX7_slack 17 = .ok (.istore 4, 2) := by decide +kernel
theorem dX7_slack_19 : decode cX7_slack 19 = .ok (.aload_n 3, 1) := by decide +kernel
theorem dX7_slack_20 : decode cX7_slack 20 = .ok (.iload_n 2, 1) := by decide +kernel
theorem dX7_slack_21 : decode cX7_slack 21 = .ok (.putfield 145, 3) := by decide +kernel
theorem dX7_slack_24 : decode cX7_slack 24 = .ok (.iload 4, 2) := by decide +kernel
theorem dX7_slack_26 : decode cX7_slack 26 = .ok (.ireturn, 1) := by decide +kernel
theorem dX7_turn_0 : decode cX7_turn 0 = .ok (.aload_n 0, 1) := by decide +kernel
theorem dX7_turn_1 : decode cX7_turn 1 = .ok (.iload_n 1, 1) := by decide +kernel
theorem dX7_turn_2 : decode cX7_turn 2 = .ok (.invokevirtual 84, 3) := by decide +kernel
theorem dX7_turn_5 : decode cX7_turn 5 = .ok (.iload_n 2, 1) := by decide +kernel
theorem dX7_turn_6 : decode cX7_turn 6 = .ok (.bipush (-48), 2) := by decide +kernel
theorem dX7_turn_8 : decode cX7_turn 8 = .ok (.bipush 48, 2) := by decide +kernel
theorem dX7_turn_10 : decode cX7_turn 10 = .ok (.invokestatic 114, 3) := by decide +kernel
theorem dX7_turn_13 : decode cX7_turn 13 = .ok (.aload_n 0, 1) := by decide +kernel
theorem dX7_turn_14 : decode cX7_turn 14 = .ok (.getfield 25, 3) := by decide +kernel
theorem dX7_turn_17 : decode cX7_turn 17 = .ok (.iload_n 1, 1) := by decide +kernel
theorem dX7_turn_18 : decode cX7_turn 18 = .ok (.iaload, 1) := by decide +kernel
theorem dX7_turn_19 : decode cX7_turn 19 = .ok (.iconst (-1), 1) := by decide +kernel
theorem dX7_turn_20 : decode cX7_turn 20 = .ok (.if_icmp .eq 13, 3) := by decide +kernel
theorem dX7_turn_23 : decode cX7_turn 23 = .ok (.new 96, 3) := by decide +kernel
theorem dX7_turn_26 : decode cX7_turn 26 = .ok (.dup, 1) := by decide +kernel
theorem dX7_turn_27 : decode cX7_turn 27 = .ok (.ldc 148, 2) := by decide +kernel
theorem dX7_turn_29 : decode cX7_turn 29 = .ok (.invokespecial 100, 3) := by decide +kernel
theorem dX7_turn_32 : decode cX7_turn 32 = .ok (.athrow, 1) := by decide +kernel
theorem dX7_turn_33 : decode cX7_turn 33 = .ok (.aload_n 0, 1) := by decide +kernel
theorem dX7_turn_34 : decode cX7_turn 34 = .ok (.getfield 58, 3) := by decide +kernel
theorem dX7_turn_37 : decode cX7_turn 37 = .ok (.aload_n 0, 1) := by decide +kernel
theorem dX7_turn_38 : decode cX7_turn 38 = .ok (.getfield 54, 3) := by decide +kernel
theorem dX7_turn_41 : decode cX7_turn 41 = .ok (.invokevirtual 150, 3) := by decide +kernel
theorem dX7_turn_44 : decode cX7_turn 44 = .ok (.aload_n 0, 1) := by decide +kernel
theorem dX7_turn_45 : decode cX7_turn 45 = .ok (.iload_n 1, 1) := by decide +kernel
theorem dX7_turn_46 : decode cX7_turn 46 = .ok (.putfield 64, 3) := by decide +kernel
theorem dX7_turn_49 : decode cX7_turn 49 = .ok (.aload_n 0, 1) := by decide +kernel
theorem dX7_turn_50 : decode cX7_turn 50 = .ok (.iload_n 2, 1) := by decide +kernel
theorem dX7_turn_51 : decode cX7_turn 51 = .ok (.putfield 154, 3) := by decide +kernel
theorem dX7_turn_54 : decode cX7_turn 54 = .ok (.iconst 0, 1) := by decide +kernel
theorem dX7_turn_55 : decode cX7_turn 55 = .ok (.istore_n 3, 1) := by decide +kernel
theorem dX7_turn_56 : decode cX7_turn 56 = .ok (.iload_n 3, 1) := by decide +kernel
theorem dX7_turn_57 : decode cX7_turn 57 = .ok (.iload_n 2, 1) := by decide +kernel
theorem dX7_turn_58 : decode cX7_turn 58 = .ok (.invokestatic 157, 3) := by decide +kernel
theorem dX7_turn_61 : decode cX7_turn 61 = .ok (.if_icmp .ge 35, 3) := by decide +kernel
theorem dX7_turn_64 : decode cX7_turn 64 = .ok (.aload_n 0, 1) := by decide +kernel
theorem dX7_turn_65 : decode cX7_turn 65 = .ok (.aload_n 0, 1) := by decide +kernel
theorem dX7_turn_66 : decode cX7_turn 66 = .ok (.getfield 54, 3) := by decide +kernel
theorem dX7_turn_69 : decode cX7_turn 69 = .ok (.iload_n 1, 1) := by decide +kernel
theorem dX7_turn_70 : decode cX7_turn 70 = .ok (.iload_n 2, 1) := by decide +kernel
theorem dX7_turn_71 : decode cX7_turn 71 = .ok (.ifCond .ge 7, 3) := by decide +kernel
theorem dX7_turn_74 : decode cX7_turn 74 = .ok (.iconst (-1), 1) := by decide +kernel
theorem dX7_turn_75 : decode cX7_turn 75 = .ok (.goto 4, 3) := by decide +kernel
theorem dX7_turn_78 : decode cX7_turn 78 = .ok (.iconst 1, 1) := by decide +kernel
theorem dX7_turn_79 : decode cX7_turn 79 = .ok (.invokevirtual 163, 3) := by decide +kernel
theorem dX7_turn_82 : decode cX7_turn 82 = .ok (.aload_n 0, 1) := by decide +kernel
theorem dX7_turn_83 : decode cX7_turn 83 = .ok (.invokevirtual 167, 3) := by decide +kernel
theorem dX7_turn_86 : decode cX7_turn 86 = .ok (.aload_n 0, 1) := by decide +kernel
theorem dX7_turn_87 : decode cX7_turn 87 = .ok (.invokevirtual 170, 3) := by decide +kernel
theorem dX7_turn_90 : decode cX7_turn 90 = .ok (.iinc 3 1, 3) := by decide +kernel
theorem dX7_turn_93 : decode cX7_turn 93 = .ok (.goto (-37), 3) := by decide +kernel
theorem dX7_turn_96 : decode cX7_turn 96 = .ok (.aload_n 0, 1) := by decide +kernel
theorem dX7_turn_97 : decode cX7_turn 97 = .ok (.invokevirtual 173, 3) := by decide +kernel
theorem dX7_turn_100 : decode cX7_turn 100 = .ok (.aload_n 0, 1) := by decide +kernel
theorem dX7_turn_101 : decode cX7_turn 101 = .ok (.invokevirtual 176, 3) := by decide +kernel
theorem dX7_turn_104 : decode cX7_turn 104 = .ok (.ireturn, 1) := by decide +kernel
theorem dX7_placeOver_0 : decode cX7_placeOver 0 = .ok (.aload_n 0, 1) := by decide +kernel
theorem dX7_placeOver_1 : decode cX7_placeOver 1 = .ok (.iload_n 1, 1) := by decide +kernel
theorem dX7_placeOver_2 : decode cX7_placeOver 2 = .ok (.invokevirtual 84, 3) := by decide +kernel
theorem dX7_placeOver_5 : decode cX7_placeOver 5 = .ok (.aload_n 0, 1) := by decide +kernel
theorem dX7_placeOver_6 : decode cX7_placeOver 6 = .ok (.getfield 54, 3) := by decide +kernel
theorem dX7_placeOver_9 : decode cX7_placeOver 9 = .ok (.getfield 179, 3) := by decide +kernel
theorem dX7_placeOver_12 : decode cX7_placeOver 12 = .ok (.iload_n 1, 1) := by decide +kernel
theorem dX7_placeOver_13 : decode cX7_placeOver 13 = .ok (.invokevirtual 182, 3) := by decide +kernel
theorem dX7_placeOver_16 : decode cX7_placeOver 16 = .ok (.lreturn, 1) := by decide +kernel
theorem dX7_placeUnder_0 : decode cX7_placeUnder 0 = .ok (.aload_n 0, 1) := by decide +kernel
theorem dX7_placeUnder_1 : decode cX7_placeUnder 1 = .ok (.iload_n 1, 1) := by decide +kernel
theorem dX7_placeUnder_2 : decode cX7_placeUnder 2 = .ok (.invokevirtual 84, 3) := by decide +kernel
theorem dX7_placeUnder_5 : decode cX7_placeUnder 5 = .ok (.aload_n 0, 1) := by decide +kernel
theorem dX7_placeUnder_6 : decode cX7_placeUnder 6 = .ok (.getfield 54, 3) := by decide +kernel
theorem dX7_placeUnder_9 : decode cX7_placeUnder 9 = .ok (.getfield 179, 3) := by decide +kernel
theorem dX7_placeUnder_12 : decode cX7_placeUnder 12 = .ok (.iload_n 1, 1) := by decide +kernel
theorem dX7_placeUnder_13 : decode cX7_placeUnder 13 = .ok (.invokevirtual 186, 3) := by decide +kernel
theorem dX7_placeUnder_16 : decode cX7_placeUnder 16 = .ok (.lreturn, 1) := by decide +kernel
theorem dX7_ratioOver_0 : decode cX7_ratioOver 0 = .ok (.aload_n 0, 1) := by decide +kernel
theorem dX7_ratioOver_1 : decode cX7_ratioOver 1 = .ok (.iload_n 1, 1) := by decide +kernel
theorem dX7_ratioOver_2 : decode cX7_ratioOver 2 = .ok (.iload_n 2, 1) := by decide +kernel
theorem dX7_ratioOver_3 : decode cX7_ratioOver 3 = .ok (.invokevirtual 189, 3) := by decide +kernel
theorem dX7_ratioOver_6 : decode cX7_ratioOver 6 = .ok (.aload_n 0, 1) := by decide +kernel
theorem dX7_ratioOver_7 : decode cX7_ratioOver 7 = .ok (.getfield 44, 3) := by decide +kernel
theorem dX7_ratioOver_10 : decode cX7_ratioOver 10 = .ok (.iload_n 1, 1) := by decide +kernel
theorem dX7_ratioOver_11 : decode cX7_ratioOver 11 = .ok (.invokevirtual 182, 3) := by decide +kernel
theorem dX7_ratioOver_14 : decode cX7_ratioOver 14 = .ok (.lreturn, 1) := by decide +kernel
theorem dX7_ratioUnder_0 : decode cX7_ratioUnder 0 = .ok (.aload_n 0, 1) := by decide +kernel
theorem dX7_ratioUnder_1 : decode cX7_ratioUnder 1 = .ok (.iload_n 1, 1) := by decide +kernel
theorem dX7_ratioUnder_2 : decode cX7_ratioUnder 2 = .ok (.iload_n 2, 1) := by decide +kernel
theorem dX7_ratioUnder_3 : decode cX7_ratioUnder 3 = .ok (.invokevirtual 189, 3) := by decide +kernel
theorem dX7_ratioUnder_6 : decode cX7_ratioUnder 6 = .ok (.aload_n 0, 1) := by decide +kernel
theorem dX7_ratioUnder_7 : decode cX7_ratioUnder 7 = .ok (.getfield 44, 3) := by decide +kernel
theorem dX7_ratioUnder_10 : decode cX7_ratioUnder 10 = .ok (.iload_n 1, 1) := by decide +kernel
theorem dX7_ratioUnder_11 : decode cX7_ratioUnder 11 = .ok (.invokevirtual 186, 3) := by decide +kernel
theorem dX7_ratioUnder_14 : decode cX7_ratioUnder 14 = .ok (.lreturn, 1) := by decide +kernel
theorem dX7_driver_0 : decode cX7_driver 0 = .ok (.aload_n 0, 1) := by decide +kernel
theorem dX7_driver_1 : decode cX7_driver 1 = .ok (.iload_n 1, 1) := by decide +kernel
theorem dX7_driver_2 : decode cX7_driver 2 = .ok (.invokevirtual 84, 3) := by decide +kernel
theorem dX7_driver_5 : decode cX7_driver 5 = .ok (.aload_n 0, 1) := by decide +kernel
theorem dX7_driver_6 : decode cX7_driver 6 = .ok (.getfield 25, 3) := by decide +kernel
theorem dX7_driver_9 : decode cX7_driver 9 = .ok (.iload_n 1, 1) := by decide +kernel
theorem dX7_driver_10 : decode cX7_driver 10 = .ok (.iaload, 1) := by decide +kernel
theorem dX7_driver_11 : decode cX7_driver 11 = .ok (.iconst (-1), 1) := by decide +kernel
theorem dX7_driver_12 : decode cX7_driver 12 = .ok (.if_icmp .ne 13, 3) := by decide +kernel
theorem dX7_driver_15 : decode cX7_driver 15 = .ok (.new 193, 3) := by decide +kernel
theorem dX7_driver_18 : decode cX7_driver 18 = .ok (.dup, 1) := by decide +kernel
theorem dX7_driver_19 : decode cX7_driver 19 = .ok (.ldc 195, 2) := by decide +kernel
theorem dX7_driver_21 : decode cX7_driver 21 = .ok (.invokespecial 197, 3) := by decide +kernel
theorem dX7_driver_24 : decode cX7_driver 24 = .ok (.athrow, 1) := by decide +kernel
theorem dX7_driver_25 : decode cX7_driver 25 = .ok (.aload_n 0, 1) := by decide +kernel
theorem dX7_driver_26 : decode cX7_driver 26 = .ok (.getfield 25, 3) := by decide +kernel
theorem dX7_driver_29 : decode cX7_driver 29 = .ok (.iload_n 1, 1) := by decide +kernel
theorem dX7_driver_30 : decode cX7_driver 30 = .ok (.iaload, 1) := by decide +kernel
theorem dX7_driver_31 : decode cX7_driver 31 = .ok (.ireturn, 1) := by decide +kernel
theorem dX7_freedom_0 : decode cX7_freedom 0 = .ok (.aload_n 0, 1) := by decide +kernel
theorem dX7_freedom_1 : decode cX7_freedom 1 = .ok (.getfield 74, 3) := by decide +kernel
theorem dX7_freedom_4 : decode cX7_freedom 4 = .ok (.aload_n 0, 1) := by decide +kernel
theorem dX7_freedom_5 : decode cX7_freedom 5 = .ok (.invokevirtual 198, 3) := by decide +kernel
theorem dX7_freedom_8 : decode cX7_freedom 8 = .ok (.isub, 1) := by decide +kernel
theorem dX7_freedom_9 : decode cX7_freedom 9 = .ok (.ireturn, 1) := by decide +kernel
theorem dX7_wornOver_0 : decode cX7_wornOver 0 = .ok (.aload_n 0, 1) := by decide +kernel
theorem dX7_wornOver_1 : decode cX7_wornOver 1 = .ok (.iload_n 1, 1) := by decide +kernel
theorem dX7_wornOver_2 : decode cX7_wornOver 2 = .ok (.invokevirtual 201, 3) := by decide +kernel
theorem dX7_wornOver_5 : decode cX7_wornOver 5 = .ok (.aload_n 0, 1) := by decide +kernel
theorem dX7_wornOver_6 : decode cX7_wornOver 6 = .ok (.getfield 48, 3) := by decide +kernel
theorem dX7_wornOver_9 : decode cX7_wornOver 9 = .ok (.iload_n 1, 1) := by decide +kernel
theorem dX7_wornOver_10 : decode cX7_wornOver 10 = .ok (.invokevirtual 182, 3) := by decide +kernel
theorem dX7_wornOver_13 : decode cX7_wornOver 13 = .ok (.lreturn, 1) := by decide +kernel
theorem dX7_wornUnder_0 : decode cX7_wornUnder 0 = .ok (.aload_n 0, 1) := by decide +kernel
theorem dX7_wornUnder_1 : decode cX7_wornUnder 1 = .ok (.iload_n 1, 1) := by decide +kernel
theorem dX7_wornUnder_2 : decode cX7_wornUnder 2 = .ok (.invokevirtual 201, 3) := by decide +kernel
theorem dX7_wornUnder_5 : decode cX7_wornUnder 5 = .ok (.aload_n 0, 1) := by decide +kernel
theorem dX7_wornUnder_6 : decode cX7_wornUnder 6 = .ok (.getfield 48, 3) := by decide +kernel
theorem dX7_wornUnder_9 : decode cX7_wornUnder 9 = .ok (.iload_n 1, 1) := by decide +kernel
theorem dX7_wornUnder_10 : decode cX7_wornUnder 10 = .ok (.invokevirtual 186, 3) := by decide +kernel
theorem dX7_wornUnder_13 : decode cX7_wornUnder 13 = .ok (.lreturn, 1) := by decide +kernel
theorem dX7_isBroken_0 : decode cX7_isBroken 0 = .ok (.aload_n 0, 1) := by decide +kernel
theorem dX7_isBroken_1 : decode cX7_isBroken 1 = .ok (.iload_n 1, 1) := by decide +kernel
theorem dX7_isBroken_2 : decode cX7_isBroken 2 = .ok (.invokevirtual 120, 3) := by decide +kernel
theorem dX7_isBroken_5 : decode cX7_isBroken 5 = .ok (.getfield 204, 3) := by decide +kernel
theorem dX7_isBroken_8 : decode cX7_isBroken 8 = .ok (.ireturn, 1) := by decide +kernel
theorem dX7_repair_0 : decode cX7_repair 0 = .ok (.aload_n 0, 1) := by decide +kernel
theorem dX7_repair_1 : decode cX7_repair 1 = .ok (.iload_n 1, 1) := by decide +kernel
theorem dX7_repair_2 : decode cX7_repair 2 = .ok (.invokevirtual 120, 3) := by decide +kernel
theorem dX7_repair_5 : decode cX7_repair 5 = .ok (.astore_n 2, 1) := by decide +kernel
theorem dX7_repair_6 : decode cX7_repair 6 = .ok (.aload_n 2, 1) := by decide +kernel
theorem dX7_repair_7 : decode cX7_repair 7 = .ok (.getfield 204, 3) := by decide +kernel
theorem dX7_repair_10 : decode cX7_repair 10 = .ok (.ifCond .ne 13, 3) := by decide +kernel
theorem dX7_repair_13 : decode cX7_repair 13 = .ok (.new 96, 3) := by decide +kernel
theorem dX7_repair_16 : decode cX7_repair 16 = .ok (.dup, 1) := by decide +kernel
theorem dX7_repair_17 : decode cX7_repair 17 = .ok (.ldc 207, 2) := by decide +kernel
theorem dX7_repair_19 : decode cX7_repair 19 = .ok (.invokespecial 100, 3) := by decide +kernel
theorem dX7_repair_22 : decode cX7_repair 22 = .ok (.athrow, 1) := by decide +kernel
theorem dX7_repair_23 : decode cX7_repair 23 = .ok (.aload_n 2, 1) := by decide +kernel
theorem dX7_repair_24 : decode cX7_repair 24 = .ok (.iconst 0, 1) := by decide +kernel
theorem dX7_repair_25 : decode cX7_repair 25 = .ok (.putfield 204, 3) := by decide +kernel
theorem dX7_repair_28 : decode cX7_repair 28 = .ok (.aload_n 0, 1) := by decide +kernel
theorem dX7_repair_29 : decode cX7_repair 29 = .ok (.getfield 48, 3) := by decide +kernel
theorem dX7_repair_32 : decode cX7_repair 32 = .ok (.iload_n 1, 1) := by decide +kernel
theorem dX7_repair_33 : decode cX7_repair 33 = .ok (.lconst 0, 1) := by decide +kernel
theorem dX7_repair_34 : decode cX7_repair 34 = .ok (.lconst 1, 1) := by decide +kernel
theorem dX7_repair_35 : decode cX7_repair 35 = .ok (.invokevirtual 209, 3) := by decide +kernel
theorem dX7_repair_38 : decode cX7_repair 38 = .ok (.aload_n 0, 1) := by decide +kernel
theorem dX7_repair_39 : decode cX7_repair 39 = .ok (.getfield 54, 3) := by decide +kernel
theorem dX7_repair_42 : decode cX7_repair 42 = .ok (.aload_n 2, 1) := by decide +kernel
theorem dX7_repair_43 : decode cX7_repair 43 = .ok (.invokevirtual 213, 3) := by decide +kernel
theorem dX7_repair_46 : decode cX7_repair 46 = .ok (.aload_n 0, 1) := by decide +kernel
theorem dX7_repair_47 : decode cX7_repair 47 = .ok (.invokevirtual 217, 3) := by decide +kernel
theorem dX7_repair_50 : decode cX7_repair 50 = .ok (.ireturn, 1) := by decide +kernel
theorem dX7_slackOfOver_0 : decode cX7_slackOfOver 0 = .ok (.aload_n 0, 1) := by decide +kernel
theorem dX7_slackOfOver_1 : decode cX7_slackOfOver 1 = .ok (.iload_n 1, 1) := by decide +kernel
theorem dX7_slackOfOver_2 : decode cX7_slackOfOver 2 = .ok (.invokevirtual 220, 3) := by decide +kernel
theorem dX7_slackOfOver_5 : decode cX7_slackOfOver 5 = .ok (.aload_n 0, 1) := by decide +kernel
theorem dX7_slackOfOver_6 : decode cX7_slackOfOver 6 = .ok (.getfield 44, 3) := by decide +kernel
theorem dX7_slackOfOver_9 : decode cX7_slackOfOver 9 = .ok (.iload_n 1, 1) := by decide +kernel
theorem dX7_slackOfOver_10 : decode cX7_slackOfOver 10 = .ok (.invokevirtual 182, 3) := by decide +kernel
theorem dX7_slackOfOver_13 : decode cX7_slackOfOver 13 = .ok (.lreturn, 1) := by decide +kernel
theorem dX7_slackOfUnder_0 : decode cX7_slackOfUnder 0 = .ok (.aload_n 0, 1) := by decide +kernel
theorem dX7_slackOfUnder_1 : decode cX7_slackOfUnder 1 = .ok (.iload_n 1, 1) := by decide +kernel
theorem dX7_slackOfUnder_2 : decode cX7_slackOfUnder 2 = .ok (.invokevirtual 220, 3) := by decide +kernel
theorem dX7_slackOfUnder_5 : decode cX7_slackOfUnder 5 = .ok (.aload_n 0, 1) := by decide +kernel
theorem dX7_slackOfUnder_6 : decode cX7_slackOfUnder 6 = .ok (.getfield 44, 3) := by decide +kernel
theorem dX7_slackOfUnder_9 : decode cX7_slackOfUnder 9 = .ok (.iload_n 1, 1) := by decide +kernel
theorem dX7_slackOfUnder_10 : decode cX7_slackOfUnder 10 = .ok (.invokevirtual 186, 3) := by decide +kernel
theorem dX7_slackOfUnder_13 : decode cX7_slackOfUnder 13 = .ok (.lreturn, 1) := by decide +kernel
theorem dX7_cam_0 : decode cX7_cam 0 = .ok (.aload_n 0, 1) := by decide +kernel
theorem dX7_cam_1 : decode cX7_cam 1 = .ok (.iload_n 1, 1) := by decide +kernel
theorem dX7_cam_2 : decode cX7_cam 2 = .ok (.invokevirtual 84, 3) := by decide +kernel
theorem dX7_cam_5 : decode cX7_cam 5 = .ok (.aload_n 0, 1) := by decide +kernel
theorem dX7_cam_6 : decode cX7_cam 6 = .ok (.getfield 19, 3) := by decide +kernel
theorem dX7_cam_9 : decode cX7_cam 9 = .ok (.invokevirtual 103, 3) := by decide +kernel
theorem dX7_cam_12 : decode cX7_cam 12 = .ok (.bipush 8, 2) := by decide +kernel
theorem dX7_cam_14 : decode cX7_cam 14 = .ok (.if_icmp .lt 13, 3) := by decide +kernel
theorem dX7_cam_17 : decode cX7_cam 17 = .ok (.new 77, 3) := by decide +kernel
theorem dX7_cam_20 : decode cX7_cam 20 = .ok (.dup, 1) := by decide +kernel
theorem dX7_cam_21 : decode cX7_cam 21 = .ok (.ldc 223, 2) := by decide +kernel
theorem dX7_cam_23 : decode cX7_cam 23 = .ok (.invokespecial 81, 3) := by decide +kernel
theorem dX7_cam_26 : decode cX7_cam 26 = .ok (.athrow, 1) := by decide +kernel
theorem dX7_cam_27 : decode cX7_cam 27 = .ok (.aload_n 0, 1) := by decide +kernel
theorem dX7_cam_28 : decode cX7_cam 28 = .ok (.getfield 19, 3) := by decide +kernel
theorem dX7_cam_31 : decode cX7_cam 31 = .ok (.new 225, 3) := by decide +kernel
theorem dX7_cam_34 : decode cX7_cam 34 = .ok (.dup, 1) := by decide +kernel
theorem dX7_cam_35 : decode cX7_cam 35 = .ok (.iload_n 1, 1) := by decide +kernel
theorem dX7_cam_36 : decode cX7_cam 36 = .ok (.invokespecial 227, 3) := by decide +kernel
theorem dX7_cam_39 : decode cX7_cam 39 = .ok (.invokevirtual 228, 3) := by decide +kernel
theorem dX7_cam_42 : decode cX7_cam 42 = .ok (.pop, 1) := by decide +kernel
theorem dX7_cam_43 : decode cX7_cam 43 = .ok (.aload_n 0, 1) := by decide +kernel
theorem dX7_cam_44 : decode cX7_cam 44 = .ok (.getfield 19, 3) := by decide +kernel
theorem dX7_cam_47 : decode cX7_cam 47 = .ok (.invokevirtual 103, 3) := by decide +kernel
theorem dX7_cam_50 : decode cX7_cam 50 = .ok (.iconst 1, 1) := by decide +kernel
theorem dX7_cam_51 : decode cX7_cam 51 = .ok (.isub, 1) := by decide +kernel
theorem dX7_cam_52 : decode cX7_cam 52 = .ok (.ireturn, 1) := by decide +kernel
theorem dX7_segment_0 : decode cX7_segment 0 = .ok (.aload_n 0, 1) := by decide +kernel
theorem dX7_segment_1 : decode cX7_segment 1 = .ok (.iload_n 1, 1) := by decide +kernel
theorem dX7_segment_2 : decode cX7_segment 2 = .ok (.invokevirtual 232, 3) := by decide +kernel
theorem dX7_segment_5 : decode cX7_segment 5 = .ok (.astore 5, 2) := by decide +kernel
theorem dX7_segment_7 : decode cX7_segment 7 = .ok (.iload_n 2, 1) := by decide +kernel
theorem dX7_segment_8 : decode cX7_segment 8 = .ok (.iconst 1, 1) := by decide +kernel
theorem dX7_segment_9 : decode cX7_segment 9 = .ok (.bipush 24, 2) := by decide +kernel
theorem dX7_segment_11 : decode cX7_segment 11 = .ok (.invokestatic 114, 3) := by decide +kernel
theorem dX7_segment_14 : decode cX7_segment 14 = .ok (.iload_n 3, 1) := by decide +kernel
theorem dX7_segment_15 : decode cX7_segment 15 = .ok (.iconst 0, 1) := by decide +kernel
theorem dX7_segment_16 : decode cX7_segment 16 = .ok (.bipush 99, 2) := by decide +kernel
theorem dX7_segment_18 : decode cX7_segment 18 = .ok (.invokestatic 114, 3) := by decide +kernel
theorem dX7_segment_21 : decode cX7_segment 21 = .ok (.iload 4, 2) := by decide +kernel
theorem dX7_segment_23 : decode cX7_segment 23 = .ok (.invokestatic 236, 3) := by decide +kernel
theorem dX7_segment_26 : decode cX7_segment 26 = .ok (.aload 5, 2) := by decide +kernel
theorem dX7_segment_28 : decode cX7_segment 28 = .ok (.getfield 240, 3) := by decide +kernel
theorem dX7_segment_31 : decode cX7_segment 31 = .ok (.iload_n 2, 1) := by decide +kernel
theorem dX7_segment_32 : decode cX7_segment 32 = .ok (.iadd, 1) := by decide +kernel
theorem dX7_segment_33 : decode cX7_segment 33 = .ok (.bipush 24, 2) := by decide +kernel
theorem dX7_segment_35 : decode cX7_segment 35 = .ok (.if_icmp .le 13, 3) := by decide +kernel
theorem dX7_segment_38 : decode cX7_segment 38 = .ok (.new 96, 3) := by decide +kernel
theorem dX7_segment_41 : decode cX7_segment 41 = .ok (.dup, 1) := by decide +kernel
theorem dX7_segment_42 : decode cX7_segment 42 = .ok (.ldc 243, 2) := by decide +kernel
theorem dX7_segment_44 : decode cX7_segment 44 = .ok (.invokespecial 100, 3) := by decide +kernel
theorem dX7_segment_47 : decode cX7_segment 47 = .ok (.athrow, 1) := by decide +kernel
theorem dX7_segment_48 : decode cX7_segment 48 = .ok (.aload 5, 2) := by decide +kernel
theorem dX7_segment_50 : decode cX7_segment 50 = .ok (.iload_n 2, 1) := by decide +kernel
theorem dX7_segment_51 : decode cX7_segment 51 = .ok (.iload_n 3, 1) := by decide +kernel
theorem dX7_segment_52 : decode cX7_segment 52 = .ok (.iload 4, 2) := by decide +kernel
theorem dX7_segment_54 : decode cX7_segment 54 = .ok (.invokevirtual 245, 3) := by decide +kernel
theorem dX7_segment_57 : decode cX7_segment 57 = .ok (.aload 5, 2) := by decide +kernel
theorem dX7_segment_59 : decode cX7_segment 59 = .ok (.getfield 240, 3) := by decide +kernel
theorem dX7_segment_62 : decode cX7_segment 62 = .ok (.ireturn, 1) := by decide +kernel
theorem dX7_clear_0 : decode cX7_clear 0 = .ok (.aload_n 0, 1) := by decide +kernel
theorem dX7_clear_1 : decode cX7_clear 1 = .ok (.iload_n 1, 1) := by decide +kernel
theorem dX7_clear_2 : decode cX7_clear 2 = .ok (.invokevirtual 232, 3) := by decide +kernel
theorem dX7_clear_5 : decode cX7_clear 5 = .ok (.astore_n 2, 1) := by decide +kernel
theorem dX7_clear_6 : decode cX7_clear 6 = .ok (.aload_n 2, 1) := by decide +kernel
theorem dX7_clear_7 : decode cX7_clear 7 = .ok (.getfield 249, 3) := by decide +kernel
theorem dX7_clear_10 : decode cX7_clear 10 = .ok (.istore_n 3, 1) := by decide +kernel
theorem dX7_clear_11 : decode cX7_clear 11 = .ok (.aload_n 2, 1) := by decide +kernel
theorem dX7_clear_12 : decode cX7_clear 12 = .ok (.invokevirtual 252, 3) := by decide +kernel
theorem dX7_clear_15 : decode cX7_clear 15 = .ok (.iload_n 3, 1) := by decide +kernel
theorem dX7_clear_16 : decode cX7_clear 16 = .ok (.ireturn, 1) := by decide +kernel
theorem dX7_heightOver_0 : decode cX7_heightOver 0 = .ok (.aload_n 0, 1) := by decide +kernel
theorem dX7_heightOver_1 : decode cX7_heightOver 1 = .ok (.aload_n 0, 1) := by decide +kernel
theorem dX7_heightOver_2 : decode cX7_heightOver 2 = .ok (.iload_n 1, 1) := by decide +kernel
theorem dX7_heightOver_3 : decode cX7_heightOver 3 = .ok (.invokevirtual 255, 3) := by decide +kernel
theorem dX7_heightOver_6 : decode cX7_heightOver 6 = .ok (.invokevirtual 258, 3) := by decide +kernel
theorem dX7_heightOver_9 : decode cX7_heightOver 9 = .ok (.getfield 262, 3) := by decide +kernel
theorem dX7_heightOver_12 : decode cX7_heightOver 12 = .ok (.lreturn, 1) := by decide +kernel
theorem dX7_heightUnder_0 : decode cX7_heightUnder 0 = .ok (.aload_n 0, 1) := by decide +kernel
theorem dX7_heightUnder_1 : decode cX7_heightUnder 1 = .ok (.aload_n 0, 1) := by decide +kernel
theorem dX7_heightUnder_2 : decode cX7_heightUnder 2 = .ok (.iload_n 1, 1) := by decide +kernel
theorem dX7_heightUnder_3 : decode cX7_heightUnder 3 = .ok (.invokevirtual 255, 3) := by decide +kernel
theorem dX7_heightUnder_6 : decode cX7_heightUnder 6 = .ok (.invokevirtual 258, 3) := by decide +kernel
theorem dX7_heightUnder_9 : decode cX7_heightUnder 9 = .ok (.getfield 268, 3) := by decide +kernel
theorem dX7_heightUnder_12 : decode cX7_heightUnder 12 = .ok (.lreturn, 1) := by decide +kernel
theorem dX7_steepOver_0 : decode cX7_steepOver 0 = .ok (.aload_n 0, 1) := by decide +kernel
theorem dX7_steepOver_1 : decode cX7_steepOver 1 = .ok (.iload_n 1, 1) := by decide +kernel
theorem dX7_steepOver_2 : decode cX7_steepOver 2 = .ok (.invokevirtual 255, 3) := by decide +kernel
theorem dX7_steepOver_5 : decode cX7_steepOver 5 = .ok (.invokevirtual 271, 3) := by decide +kernel
theorem dX7_steepOver_8 : decode cX7_steepOver 8 = .ok (.getfield 262, 3) := by decide +kernel
theorem dX7_steepOver_11 : decode cX7_steepOver 11 = .ok (.lreturn, 1) := by decide +kernel
theorem dX7_steepUnder_0 : decode cX7_steepUnder 0 = .ok (.aload_n 0, 1) := by decide +kernel
theorem dX7_steepUnder_1 : decode cX7_steepUnder 1 = .ok (.iload_n 1, 1) := by decide +kernel
theorem dX7_steepUnder_2 : decode cX7_steepUnder 2 = .ok (.invokevirtual 255, 3) := by decide +kernel
theorem dX7_steepUnder_5 : decode cX7_steepUnder 5 = .ok (.invokevirtual 271, 3) := by decide +kernel
theorem dX7_steepUnder_8 : decode cX7_steepUnder 8 = .ok (.getfield 268, 3) := by decide +kernel
theorem dX7_steepUnder_11 : decode cX7_steepUnder 11 = .ok (.lreturn, 1) := by decide +kernel
theorem dX7_wish_0 : decode cX7_wish 0 = .ok (.aload_n 0, 1) := by decide +kernel
theorem dX7_wish_1 : decode cX7_wish 1 = .ok (.iload_n 1, 1) := by decide +kernel
theorem dX7_wish_2 : decode cX7_wish 2 = .ok (.invokevirtual 232, 3) := by decide +kernel
theorem dX7_wish_5 : decode cX7_wish 5 = .ok (.astore 4, 2) := by decide +kernel
theorem dX7_wish_7 : decode cX7_wish 7 = .ok (.iload_n 2, 1) := by decide +kernel
theorem dX7_wish_8 : decode cX7_wish 8 = .ok (.iconst 0, 1) := by decide +kernel
theorem dX7_wish_9 : decode cX7_wish 9 = .ok (.bipush 23, 2) := by decide +kernel
theorem dX7_wish_11 : decode cX7_wish 11 = .ok (.invokestatic 114, 3) := by decide +kernel
theorem dX7_wish_14 : decode cX7_wish 14 = .ok (.iload_n 3, 1) := by decide +kernel
theorem dX7_wish_15 : decode cX7_wish 15 = .ok (.iconst (-1), 1) := by decide +kernel
theorem dX7_wish_16 : decode cX7_wish 16 = .ok (.bipush 99, 2) := by decide +kernel
theorem dX7_wish_18 : decode cX7_wish 18 = .ok (.invokestatic 114, 3) := by decide +kernel
theorem dX7_wish_21 : decode cX7_wish 21 = .ok (.aload 4, 2) := by decide +kernel
theorem dX7_wish_23 : decode cX7_wish 23 = .ok (.getfield 275, 3) := by decide +kernel
theorem dX7_wish_26 : decode cX7_wish 26 = .ok (.iload_n 2, 1) := by decide +kernel
theorem dX7_wish_27 : decode cX7_wish 27 = .ok (.iload_n 3, 1) := by decide +kernel
theorem dX7_wish_28 : decode cX7_wish 28 = .ok (.iastore, 1) := by decide +kernel
theorem dX7_wish_29 : decode cX7_wish 29 = .ok (.aload 4, 2) := by decide +kernel
theorem dX7_wish_31 : decode cX7_wish 31 = .ok (.invokevirtual 278, 3) := by decide +kernel
theorem dX7_wish_34 : decode cX7_wish 34 = .ok (.ireturn, 1) := by decide +kernel
theorem dX7_make_0 : decode cX7_make 0 = .ok (.aload_n 0, 1) := by decide +kernel
theorem dX7_make_1 : decode cX7_make 1 = .ok (.iload_n 1, 1) := by decide +kernel
theorem dX7_make_2 : decode cX7_make 2 = .ok (.invokevirtual 232, 3) := by decide +kernel
theorem dX7_make_5 : decode cX7_make 5 = .ok (.astore 4, 2) := by decide +kernel
theorem dX7_make_7 : decode cX7_make 7 = .ok (.iload_n 2, 1) := by decide +kernel
theorem dX7_make_8 : decode cX7_make 8 = .ok (.invokestatic 236, 3) := by decide +kernel
theorem dX7_make_11 : decode cX7_make 11 = .ok (.iload_n 3, 1) := by decide +kernel
theorem dX7_make_12 : decode cX7_make 12 = .ok (.iconst 1, 1) := by decide +kernel
theorem dX7_make_13 : decode cX7_make 13 = .ok (.bipush 99, 2) := by decide +kernel
theorem dX7_make_15 : decode cX7_make 15 = .ok (.invokestatic 114, 3) := by decide +kernel
theorem dX7_make_18 : decode cX7_make 18 = .ok (.aload 4, 2) := by decide +kernel
theorem dX7_make_20 : decode cX7_make 20 = .ok (.getfield 275, 3) := by decide +kernel
theorem dX7_make_23 : decode cX7_make 23 = .ok (.iconst 0, 1) := by decide +kernel
theorem dX7_make_24 : decode cX7_make 24 = .ok (.iaload, 1) := by decide +kernel
theorem dX7_make_25 : decode cX7_make 25 = .ok (.iconst (-1), 1) := by decide +kernel
theorem dX7_make_26 : decode cX7_make 26 = .ok (.if_icmp .ne 14, 3) := by decide +kernel
theorem dX7_make_29 : decode cX7_make 29 = .ok (.new 193, 3) := by decide +kernel
theorem dX7_make_32 : decode cX7_make 32 = .ok (.dup, 1) := by decide +kernel
theorem dX7_make_33 : decode cX7_make 33 = .ok (.ldc_w 281, 3) := by decide +kernel
theorem dX7_make_36 : decode cX7_make 36 = .ok (.invokespecial 197, 3) := by decide +kernel
theorem dX7_make_39 : decode cX7_make 39 = .ok (.athrow, 1) := by decide +kernel
theorem dX7_make_40 : decode cX7_make 40 = .ok (.aload 4, 2) := by decide +kernel
theorem dX7_make_42 : decode cX7_make 42 = .ok (.iload_n 2, 1) := by decide +kernel
theorem dX7_make_43 : decode cX7_make 43 = .ok (.iload_n 3, 1) := by decide +kernel
theorem dX7_make_44 : decode cX7_make 44 = .ok (.invokevirtual 283, 3) := by decide +kernel
theorem dX7_make_47 : decode cX7_make 47 = .ok (.ifCond .eq 14, 3) := by decide +kernel
theorem dX7_make_50 : decode cX7_make 50 = .ok (.new 96, 3) := by decide +kernel
theorem dX7_make_53 : decode cX7_make 53 = .ok (.dup, 1) := by decide +kernel
theorem dX7_make_54 : decode cX7_make 54 = .ok (.ldc_w 287, 3) := by decide +kernel
theorem dX7_make_57 : decode cX7_make 57 = .ok (.invokespecial 100, 3) := by decide +kernel
theorem dX7_make_60 : decode cX7_make 60 = .ok (.athrow, 1) := by decide +kernel
theorem dX7_make_61 : decode cX7_make 61 = .ok (.aload 4, 2) := by decide +kernel
theorem dX7_make_63 : decode cX7_make 63 = .ok (.iload_n 2, 1) := by decide +kernel
theorem dX7_make_64 : decode cX7_make 64 = .ok (.invokevirtual 289, 3) := by decide +kernel
theorem dX7_make_67 : decode cX7_make 67 = .ok (.aload 4, 2) := by decide +kernel
theorem dX7_make_69 : decode cX7_make 69 = .ok (.getfield 249, 3) := by decide +kernel
theorem dX7_make_72 : decode cX7_make 72 = .ok (.ireturn, 1) := by decide +kernel
theorem dX7_drum_0 : decode cX7_drum 0 = .ok (.aload_n 0, 1) := by decide +kernel
theorem dX7_drum_1 : decode cX7_drum 1 = .ok (.iload_n 1, 1) := by decide +kernel
theorem dX7_drum_2 : decode cX7_drum 2 = .ok (.invokevirtual 84, 3) := by decide +kernel
theorem dX7_drum_5 : decode cX7_drum 5 = .ok (.aload_n 0, 1) := by decide +kernel
theorem dX7_drum_6 : decode cX7_drum 6 = .ok (.getfield 22, 3) := by decide +kernel
theorem dX7_drum_9 : decode cX7_drum 9 = .ok (.invokevirtual 103, 3) := by decide +kernel
theorem dX7_drum_12 : decode cX7_drum 12 = .ok (.iconst 4, 1) := by decide +kernel
theorem dX7_drum_13 : decode cX7_drum 13 = .ok (.if_icmp .lt 14, 3) := by decide +kernel
theorem dX7_drum_16 : decode cX7_drum 16 = .ok (.new 77, 3) := by decide +kernel
theorem dX7_drum_19 : decode cX7_drum 19 = .ok (.dup, 1) := by decide +kernel
theorem dX7_drum_20 : decode cX7_drum 20 = .ok (.ldc_w 292, 3) := by decide +kernel
theorem dX7_drum_23 : decode cX7_drum 23 = .ok (.invokespecial 81, 3) := by decide +kernel
theorem dX7_drum_26 : decode cX7_drum 26 = .ok (.athrow, 1) := by decide +kernel
theorem dX7_drum_27 : decode cX7_drum 27 = .ok (.aload_n 0, 1) := by decide +kernel
theorem dX7_drum_28 : decode cX7_drum 28 = .ok (.getfield 22, 3) := by decide +kernel
theorem dX7_drum_31 : decode cX7_drum 31 = .ok (.new 294, 3) := by decide +kernel
theorem dX7_drum_34 : decode cX7_drum 34 = .ok (.dup, 1) := by decide +kernel
theorem dX7_drum_35 : decode cX7_drum 35 = .ok (.iload_n 1, 1) := by decide +kernel
theorem dX7_drum_36 : decode cX7_drum 36 = .ok (.invokespecial 296, 3) := by decide +kernel
theorem dX7_drum_39 : decode cX7_drum 39 = .ok (.invokevirtual 228, 3) := by decide +kernel
theorem dX7_drum_42 : decode cX7_drum 42 = .ok (.pop, 1) := by decide +kernel
theorem dX7_drum_43 : decode cX7_drum 43 = .ok (.aload_n 0, 1) := by decide +kernel
theorem dX7_drum_44 : decode cX7_drum 44 = .ok (.getfield 22, 3) := by decide +kernel
theorem dX7_drum_47 : decode cX7_drum 47 = .ok (.invokevirtual 103, 3) := by decide +kernel
theorem dX7_drum_50 : decode cX7_drum 50 = .ok (.iconst 1, 1) := by decide +kernel
theorem dX7_drum_51 : decode cX7_drum 51 = .ok (.isub, 1) := by decide +kernel
theorem dX7_drum_52 : decode cX7_drum 52 = .ok (.ireturn, 1) := by decide +kernel
theorem dX7_pin_0 : decode cX7_pin 0 = .ok (.aload_n 0, 1) := by decide +kernel
theorem dX7_pin_1 : decode cX7_pin 1 = .ok (.iload_n 1, 1) := by decide +kernel
theorem dX7_pin_2 : decode cX7_pin 2 = .ok (.invokevirtual 297, 3) := by decide +kernel
theorem dX7_pin_5 : decode cX7_pin 5 = .ok (.astore 5, 2) := by decide +kernel
theorem dX7_pin_7 : decode cX7_pin 7 = .ok (.iload_n 2, 1) := by decide +kernel
theorem dX7_pin_8 : decode cX7_pin 8 = .ok (.iconst 0, 1) := by decide +kernel
theorem dX7_pin_9 : decode cX7_pin 9 = .ok (.bipush 23, 2) := by decide +kernel
theorem dX7_pin_11 : decode cX7_pin 11 = .ok (.invokestatic 114, 3) := by decide +kernel
theorem dX7_pin_14 : decode cX7_pin 14 = .ok (.iload_n 3, 1) := by decide +kernel
theorem dX7_pin_15 : decode cX7_pin 15 = .ok (.iconst 0, 1) := by decide +kernel
theorem dX7_pin_16 : decode cX7_pin 16 = .ok (.bipush 7, 2) := by decide +kernel
theorem dX7_pin_18 : decode cX7_pin 18 = .ok (.invokestatic 114, 3) := by decide +kernel
theorem dX7_pin_21 : decode cX7_pin 21 = .ok (.aload 5, 2) := by decide +kernel
theorem dX7_pin_23 : decode cX7_pin 23 = .ok (.iload_n 2, 1) := by decide +kernel
theorem dX7_pin_24 : decode cX7_pin 24 = .ok (.iload_n 3, 1) := by decide +kernel
theorem dX7_pin_25 : decode cX7_pin 25 = .ok (.iload 4, 2) := by decide +kernel
theorem dX7_pin_27 : decode cX7_pin 27 = .ok (.invokevirtual 301, 3) := by decide +kernel
theorem dX7_pin_30 : decode cX7_pin 30 = .ok (.ireturn, 1) := by decide +kernel
theorem dX7_struck_0 : decode cX7_struck 0 = .ok (.aload_n 0, 1) := by decide +kernel
theorem dX7_struck_1 : decode cX7_struck 1 = .ok (.iload_n 1, 1) := by decide +kernel
theorem dX7_struck_2 : decode cX7_struck 2 = .ok (.invokevirtual 297, 3) := by decide +kernel
theorem dX7_struck_5 : decode cX7_struck 5 = .ok (.astore_n 3, 1) := by decide +kernel
theorem dX7_struck_6 : decode cX7_struck 6 = .ok (.iload_n 2, 1) := by decide +kernel
theorem dX7_struck_7 : decode cX7_struck 7 = .ok (.iconst 0, 1) := by decide +kernel
theorem dX7_struck_8 : decode cX7_struck 8 = .ok (.bipush 7, 2) := by decide +kernel
theorem dX7_struck_10 : decode cX7_struck 10 = .ok (.invokestatic 114, 3) := by decide +kernel
theorem dX7_struck_13 : decode cX7_struck 13 = .ok (.aload_n 3, 1) := by decide +kernel
theorem dX7_struck_14 : decode cX7_struck 14 = .ok (.getfield 305, 3) := by decide +kernel
theorem dX7_struck_17 : decode cX7_struck 17 = .ok (.iload_n 2, 1) := by decide +kernel
theorem dX7_struck_18 : decode cX7_struck 18 = .ok (.iaload, 1) := by decide +kernel
theorem dX7_struck_19 : decode cX7_struck 19 = .ok (.ireturn, 1) := by decide +kernel
theorem dX7_bars_0 : decode cX7_bars 0 = .ok (.iload_n 1, 1) := by decide +kernel
theorem dX7_bars_1 : decode cX7_bars 1 = .ok (.iload_n 2, 1) := by decide +kernel
theorem dX7_bars_2 : decode cX7_bars 2 = .ok (.iload_n 3, 1) := by decide +kernel
theorem dX7_bars_3 : decode cX7_bars 3 = .ok (.iload 4, 2) := by decide +kernel
theorem dX7_bars_5 : decode cX7_bars 5 = .ok (.invokestatic 308, 3) := by decide +kernel
theorem dX7_bars_8 : decode cX7_bars 8 = .ok (.invokevirtual 312, 3) := by decide +kernel
theorem dX7_bars_11 : decode cX7_bars 11 = .ok (.ireturn, 1) := by decide +kernel
theorem dX7_limitOver_0 : decode cX7_limitOver 0 = .ok (.iload_n 1, 1) := by decide +kernel
theorem dX7_limitOver_1 : decode cX7_limitOver 1 = .ok (.iload_n 2, 1) := by decide +kernel
theorem dX7_limitOver_2 : decode cX7_limitOver 2 = .ok (.iload_n 3, 1) := by decide +kernel
theorem dX7_limitOver_3 : decode cX7_limitOver 3 = .ok (.iload 4, 2) := by decide +kernel
theorem dX7_limitOver_5 : decode cX7_limitOver 5 = .ok (.invokestatic 308, 3) := by decide +kernel
theorem dX7_limitOver_8 : decode cX7_limitOver 8 = .ok (.iload 5, 2) := by decide +kernel
theorem dX7_limitOver_10 : decode cX7_limitOver 10 = .ok (.invokevirtual 318, 3) := by decide +kernel
theorem dX7_limitOver_13 : decode cX7_limitOver 13 = .ok (.invokestatic 322, 3) := by decide +kernel
theorem dX7_limitOver_16 : decode cX7_limitOver 16 = .ok (.getfield 262, 3) := by decide +kernel
theorem dX7_limitOver_19 : decode cX7_limitOver 19 = .ok (.lreturn, 1) := by decide +kernel
theorem dX7_limitUnder_0 : decode cX7_limitUnder 0 = .ok (.iload_n 1, 1) := by decide +kernel
theorem dX7_limitUnder_1 : decode cX7_limitUnder 1 = .ok (.iload_n 2, 1) := by decide +kernel
theorem dX7_limitUnder_2 : decode cX7_limitUnder 2 = .ok (.iload_n 3, 1) := by decide +kernel
theorem dX7_limitUnder_3 : decode cX7_limitUnder 3 = .ok (.iload 4, 2) := by decide +kernel
theorem dX7_limitUnder_5 : decode cX7_limitUnder 5 = .ok (.invokestatic 308, 3) := by decide +kernel
theorem dX7_limitUnder_8 : decode cX7_limitUnder 8 = .ok (.iload 5, 2) := by decide +kernel
theorem dX7_limitUnder_10 : decode cX7_limitUnder 10 = .ok (.invokevirtual 318, 3) := by decide +kernel
theorem dX7_limitUnder_13 : decode cX7_limitUnder 13 = .ok (.invokestatic 322, 3) := by decide +kernel
theorem dX7_limitUnder_16 : decode cX7_limitUnder 16 = .ok (.getfield 268, 3) := by decide +kernel
theorem dX7_limitUnder_19 : decode cX7_limitUnder 19 = .ok (.lreturn, 1) := by decide +kernel
theorem dX7_angleOver_0 : decode cX7_angleOver 0 = .ok (.iload_n 1, 1) := by decide +kernel
theorem dX7_angleOver_1 : decode cX7_angleOver 1 = .ok (.iload_n 2, 1) := by decide +kernel
theorem dX7_angleOver_2 : decode cX7_angleOver 2 = .ok (.iload_n 3, 1) := by decide +kernel
theorem dX7_angleOver_3 : decode cX7_angleOver 3 = .ok (.iload 4, 2) := by decide +kernel
theorem dX7_angleOver_5 : decode cX7_angleOver 5 = .ok (.invokestatic 308, 3) := by decide +kernel
theorem dX7_angleOver_8 : decode cX7_angleOver 8 = .ok (.iload 5, 2) := by decide +kernel
theorem dX7_angleOver_10 : decode cX7_angleOver 10 = .ok (.invokevirtual 326, 3) := by decide +kernel
theorem dX7_angleOver_13 : decode cX7_angleOver 13 = .ok (.invokestatic 322, 3) := by decide +kernel
theorem dX7_angleOver_16 : decode cX7_angleOver 16 = .ok (.getfield 262, 3) := by decide +kernel
theorem dX7_angleOver_19 : decode cX7_angleOver 19 = .ok (.lreturn, 1) := by decide +kernel
theorem dX7_angleUnder_0 : decode cX7_angleUnder 0 = .ok (.iload_n 1, 1) := by decide +kernel
theorem dX7_angleUnder_1 : decode cX7_angleUnder 1 = .ok (.iload_n 2, 1) := by decide +kernel
theorem dX7_angleUnder_2 : decode cX7_angleUnder 2 = .ok (.iload_n 3, 1) := by decide +kernel
theorem dX7_angleUnder_3 : decode cX7_angleUnder 3 = .ok (.iload 4, 2) := by decide +kernel
theorem dX7_angleUnder_5 : decode cX7_angleUnder 5 = .ok (.invokestatic 308, 3) := by decide +kernel
theorem dX7_angleUnder_8 : decode cX7_angleUnder 8 = .ok (.iload 5, 2) := by decide +kernel
theorem dX7_angleUnder_10 : decode cX7_angleUnder 10 = .ok (.invokevirtual 326, 3) := by decide +kernel
theorem dX7_angleUnder_13 : decode cX7_angleUnder 13 = .ok (.invokestatic 322, 3) := by decide +kernel
theorem dX7_angleUnder_16 : decode cX7_angleUnder 16 = .ok (.getfield 268, 3) := by decide +kernel
theorem dX7_angleUnder_19 : decode cX7_angleUnder 19 = .ok (.lreturn, 1) := by decide +kernel
theorem dX7_teeth_0 : decode cX7_teeth 0 = .ok (.iload_n 1, 1) := by decide +kernel
theorem dX7_teeth_1 : decode cX7_teeth 1 = .ok (.iconst 1, 1) := by decide +kernel
theorem dX7_teeth_2 : decode cX7_teeth 2 = .ok (.sipush 9999, 3) := by decide +kernel
theorem dX7_teeth_5 : decode cX7_teeth 5 = .ok (.invokestatic 114, 3) := by decide +kernel
theorem dX7_teeth_8 : decode cX7_teeth 8 = .ok (.iload_n 2, 1) := by decide +kernel
theorem dX7_teeth_9 : decode cX7_teeth 9 = .ok (.iconst 1, 1) := by decide +kernel
theorem dX7_teeth_10 : decode cX7_teeth 10 = .ok (.sipush 9999, 3) := by decide +kernel
theorem dX7_teeth_13 : decode cX7_teeth 13 = .ok (.invokestatic 114, 3) := by decide +kernel
theorem dX7_teeth_16 : decode cX7_teeth 16 = .ok (.bipush 6, 2) := by decide +kernel
theorem dX7_teeth_18 : decode cX7_teeth 18 = .ok (.istore 4, 2) := by decide +kernel
theorem dX7_teeth_20 : decode cX7_teeth 20 = .ok (.bipush 6, 2) := by decide +kernel
theorem dX7_teeth_22 : decode cX7_teeth 22 = .ok (.istore 5, 2) := by decide +kernel
theorem dX7_teeth_24 : decode cX7_teeth 24 = .ok (.bipush 6, 2) := by decide +kernel
theorem dX7_teeth_26 : decode cX7_teeth 26 = .ok (.istore 6, 2) := by decide +kernel
theorem dX7_teeth_28 : decode cX7_teeth 28 = .ok (.iload 6, 2) := by decide +kernel
theorem dX7_teeth_30 : decode cX7_teeth 30 = .ok (.bipush 30, 2) := by decide +kernel
theorem dX7_teeth_32 : decode cX7_teeth 32 = .ok (.if_icmp .gt 50, 3) := by decide +kernel
theorem dX7_teeth_35 : decode cX7_teeth 35 = .ok (.bipush 6, 2) := by decide +kernel
theorem dX7_teeth_37 : decode cX7_teeth 37 = .ok (.istore 7, 2) := by decide +kernel
theorem dX7_teeth_39 : decode cX7_teeth 39 = .ok (.iload 7, 2) := by decide +kernel
theorem dX7_teeth_41 : decode cX7_teeth 41 = .ok (.bipush 30, 2) := by decide +kernel
theorem dX7_teeth_43 : decode cX7_teeth 43 = .ok (.if_icmp .gt 33, 3) := by decide +kernel
theorem dX7_teeth_46 : decode cX7_teeth 46 = .ok (.iload 6, 2) := by decide +kernel
theorem dX7_teeth_48 : decode cX7_teeth 48 = .ok (.iload 7, 2) := by decide +kernel
theorem dX7_teeth_50 : decode cX7_teeth 50 = .ok (.iload 4, 2) := by decide +kernel
theorem dX7_teeth_52 : decode cX7_teeth 52 = .ok (.iload 5, 2) := by decide +kernel
theorem dX7_teeth_54 : decode cX7_teeth 54 = .ok (.iload_n 1, 1) := by decide +kernel
theorem dX7_teeth_55 : decode cX7_teeth 55 = .ok (.iload_n 2, 1) := by decide +kernel
theorem dX7_teeth_56 : decode cX7_teeth 56 = .ok (.invokestatic 329, 3) := by decide +kernel
theorem dX7_teeth_59 : decode cX7_teeth 59 = .ok (.ifCond .eq 11, 3) := by decide +kernel
theorem dX7_teeth_62 : decode cX7_teeth 62 = .ok (.iload 6, 2) := by decide +kernel
theorem dX7_teeth_64 : decode cX7_teeth 64 = .ok (.istore 4, 2) := by decide +kernel
theorem dX7_teeth_66 : decode cX7_teeth 66 = .ok (.iload 7, 2) := by decide +kernel
theorem dX7_teeth_68 : decode cX7_teeth 68 = .ok (.istore 5, 2) := by decide +kernel
theorem dX7_teeth_70 : decode cX7_teeth 70 = .ok (.iinc 7 1, 3) := by decide +kernel
theorem dX7_teeth_73 : decode cX7_teeth 73 = .ok (.goto (-34), 3) := by decide +kernel
theorem dX7_teeth_76 : decode cX7_teeth 76 = .ok (.iinc 6 1, 3) := by decide +kernel
theorem dX7_teeth_79 : decode cX7_teeth 79 = .ok (.goto (-51), 3) := by decide +kernel
theorem dX7_teeth_82 : decode cX7_teeth 82 = .ok (.iload_n 3, 1) := by decide +kernel
theorem dX7_teeth_83 : decode cX7_teeth 83 = .ok (.ifCond .eq 8, 3) := by decide +kernel
theorem dX7_teeth_86 : decode cX7_teeth 86 = .ok (.iload 4, 2) := by decide +kernel
theorem dX7_teeth_88 : decode cX7_teeth 88 = .ok (.goto 5, 3) := by decide +kernel
theorem dX7_teeth_91 : decode cX7_teeth 91 = .ok (.iload 5, 2) := by decide +kernel
theorem dX7_teeth_93 : decode cX7_teeth 93 = .ok (.ireturn, 1) := by decide +kernel
theorem dX7_pairs_0 : decode cX7_pairs 0 = .ok (.iload_n 1, 1) := by decide +kernel
theorem dX7_pairs_1 : decode cX7_pairs 1 = .ok (.iconst 1, 1) := by decide +kernel
theorem dX7_pairs_2 : decode cX7_pairs 2 = .ok (.sipush 9999, 3) := by decide +kernel
theorem dX7_pairs_5 : decode cX7_pairs 5 = .ok (.invokestatic 114, 3) := by decide +kernel
theorem dX7_pairs_8 : decode cX7_pairs 8 = .ok (.iload_n 2, 1) := by decide +kernel
theorem dX7_pairs_9 : decode cX7_pairs 9 = .ok (.iconst 1, 1) := by decide +kernel
theorem dX7_pairs_10 : decode cX7_pairs 10 = .ok (.sipush 9999, 3) := by decide +kernel
theorem dX7_pairs_13 : decode cX7_pairs 13 = .ok (.invokestatic 114, 3) := by decide +kernel
theorem dX7_pairs_16 : decode cX7_pairs 16 = .ok (.iconst 0, 1) := by decide +kernel
theorem dX7_pairs_17 : decode cX7_pairs 17 = .ok (.istore_n 3, 1) := by decide +kernel
theorem dX7_pairs_18 : decode cX7_pairs 18 = .ok (.bipush 6, 2) := by decide +kernel
theorem dX7_pairs_20 : decode cX7_pairs 20 = .ok (.istore 4, 2) := by decide +kernel
theorem dX7_pairs_22 : decode cX7_pairs 22 = .ok (.iload 4, 2) := by decide +kernel
theorem dX7_pairs_24 : decode cX7_pairs 24 = .ok (.bipush 30, 2) := by decide +kernel
theorem dX7_pairs_26 : decode cX7_pairs 26 = .ok (.if_icmp .gt 40, 3) := by decide +kernel
theorem dX7_pairs_29 : decode cX7_pairs 29 = .ok (.bipush 6, 2) := by decide +kernel
theorem dX7_pairs_31 : decode cX7_pairs 31 = .ok (.istore 5, 2) := by decide +kernel
theorem dX7_pairs_33 : decode cX7_pairs 33 = .ok (.iload 5, 2) := by decide +kernel
theorem dX7_pairs_35 : decode cX7_pairs 35 = .ok (.bipush 30, 2) := by decide +kernel
theorem dX7_pairs_37 : decode cX7_pairs 37 = .ok (.if_icmp .gt 23, 3) := by decide +kernel
theorem dX7_pairs_40 : decode cX7_pairs 40 = .ok (.iload 4, 2) := by decide +kernel
theorem dX7_pairs_42 : decode cX7_pairs 42 = .ok (.iload_n 2, 1) := by decide +kernel
theorem dX7_pairs_43 : decode cX7_pairs 43 = .ok (.imul, 1) := by decide +kernel
theorem dX7_pairs_44 : decode cX7_pairs 44 = .ok (.iload 5, 2) := by decide +kernel
theorem dX7_pairs_46 : decode cX7_pairs 46 = .ok (.iload_n 1, 1) := by decide +kernel
theorem dX7_pairs_47 : decode cX7_pairs 47 = .ok (.imul, 1) := by decide +kernel
theorem dX7_pairs_48 : decode cX7_pairs 48 = .ok (.if_icmp .ne 6, 3) := by decide +kernel
theorem dX7_pairs_51 : decode cX7_pairs 51 = .ok (.iinc 3 1, 3) := by decide +kernel
theorem dX7_pairs_54 : decode cX7_pairs 54 = .ok (.iinc 5 1, 3) := by decide +kernel
theorem dX7_pairs_57 : decode cX7_pairs 57 = .ok (.goto (-24), 3) := by decide +kernel
theorem dX7_pairs_60 : decode cX7_pairs 60 = .ok (.iinc 4 1, 3) := by decide +kernel
theorem dX7_pairs_63 : decode cX7_pairs 63 = .ok (.goto (-41), 3) := by decide +kernel
theorem dX7_pairs_66 : decode cX7_pairs 66 = .ok (.iload_n 3, 1) := by decide +kernel
theorem dX7_pairs_67 : decode cX7_pairs 67 = .ok (.ireturn, 1) := by decide +kernel
theorem dX7_checksum_0 : decode cX7_checksum 0 = .ok (.ldc2_w 333, 3) := by decide +kernel
theorem dX7_checksum_3 : decode cX7_checksum 3 = .ok (.lstore_n 1, 1) := by decide +kernel
theorem dX7_checksum_4 : decode cX7_checksum 4 = .ok (.iconst 0, 1) := by decide +kernel
theorem dX7_checksum_5 : decode cX7_checksum 5 = .ok (.istore_n 3, 1) := by decide +kernel
theorem dX7_checksum_6 : decode cX7_checksum 6 = .ok (.iload_n 3, 1) := by decide +kernel
theorem dX7_checksum_7 : decode cX7_checksum 7 = .ok (.aload_n 0, 1) := by decide +kernel
theorem dX7_checksum_8 : decode cX7_checksum 8 = .ok (.getfield 74, 3) := by decide +kernel
theorem dX7_checksum_11 : decode cX7_checksum 11 = .ok (.if_icmp .ge 45, 3) := by decide +kernel
theorem dX7_checksum_14 : decode cX7_checksum 14 = .ok (.ldc2_w 335, 3) := by decide +kernel
theorem dX7_checksum_17 : decode cX7_checksum 17 = .ok (.lload_n 1, 1) := by decide +kernel
theorem dX7_checksum_18 : decode cX7_checksum 18 = .ok (.lmul, 1) := by decide +kernel
theorem dX7_checksum_19 : decode cX7_checksum 19 = .ok (.aload_n 0, 1) := by decide +kernel
theorem dX7_checksum_20 : decode cX7_checksum 20 = .ok (.getfield 54, 3) := by decide +kernel
theorem dX7_checksum_23 : decode cX7_checksum 23 = .ok (.getfield 179, 3) := by decide +kernel
theorem dX7_checksum_26 : decode cX7_checksum 26 = .ok (.iload_n 3, 1) := by decide +kernel
theorem dX7_checksum_27 : decode cX7_checksum 27 = .ok (.invokevirtual 182, 3) := by decide +kernel
theorem dX7_checksum_30 : decode cX7_checksum 30 = .ok (.ladd, 1) := by decide +kernel
theorem dX7_checksum_31 : decode cX7_checksum 31 = .ok (.lstore_n 1, 1) := by decide +kernel
theorem dX7_checksum_32 : decode cX7_checksum 32 = .ok (.ldc2_w 335, 3) := by decide +kernel
theorem dX7_checksum_35 : decode cX7_checksum 35 = .ok (.lload_n 1, 1) := by decide +kernel
theorem dX7_checksum_36 : decode cX7_checksum 36 = .ok (.lmul, 1) := by decide +kernel
theorem dX7_checksum_37 : decode cX7_checksum 37 = .ok (.aload_n 0, 1) := by decide +kernel
theorem dX7_checksum_38 : decode cX7_checksum 38 = .ok (.getfield 54, 3) := by decide +kernel
theorem dX7_checksum_41 : decode cX7_checksum 41 = .ok (.getfield 179, 3) := by decide +kernel
theorem dX7_checksum_44 : decode cX7_checksum 44 = .ok (.iload_n 3, 1) := by decide +kernel
theorem dX7_checksum_45 : decode cX7_checksum 45 = .ok (.invokevirtual 186, 3) := by decide +kernel
theorem dX7_checksum_48 : decode cX7_checksum 48 = .ok (.ladd, 1) := by decide +kernel
theorem dX7_checksum_49 : decode cX7_checksum 49 = .ok (.lstore_n 1, 1) := by decide +kernel
theorem dX7_checksum_50 : decode cX7_checksum 50 = .ok (.iinc 3 1, 3) := by decide +kernel
theorem dX7_checksum_53 : decode cX7_checksum 53 = .ok (.goto (-47), 3) := by decide +kernel
theorem dX7_checksum_56 : decode cX7_checksum 56 = .ok (.iconst 0, 1) := by decide +kernel
theorem dX7_checksum_57 : decode cX7_checksum 57 = .ok (.istore_n 3, 1) := by decide +kernel
theorem dX7_checksum_58 : decode cX7_checksum 58 = .ok (.iload_n 3, 1) := by decide +kernel
theorem dX7_checksum_59 : decode cX7_checksum 59 = .ok (.aload_n 0, 1) := by decide +kernel
theorem dX7_checksum_60 : decode cX7_checksum 60 = .ok (.getfield 22, 3) := by decide +kernel
theorem dX7_checksum_63 : decode cX7_checksum 63 = .ok (.invokevirtual 103, 3) := by decide +kernel
theorem dX7_checksum_66 : decode cX7_checksum 66 = .ok (.if_icmp .ge 54, 3) := by decide +kernel
theorem dX7_checksum_69 : decode cX7_checksum 69 = .ok (.aload_n 0, 1) := by decide +kernel
theorem dX7_checksum_70 : decode cX7_checksum 70 = .ok (.getfield 22, 3) := by decide +kernel
theorem dX7_checksum_73 : decode cX7_checksum 73 = .ok (.iload_n 3, 1) := by decide +kernel
theorem dX7_checksum_74 : decode cX7_checksum 74 = .ok (.invokevirtual 337, 3) := by decide +kernel
theorem dX7_checksum_77 : decode cX7_checksum 77 = .ok (.checkcast 294, 3) := by decide +kernel
theorem dX7_checksum_80 : decode cX7_checksum 80 = .ok (.astore 4, 2) := by decide +kernel
theorem dX7_checksum_82 : decode cX7_checksum 82 = .ok (.iconst 0, 1) := by decide +kernel
theorem dX7_checksum_83 : decode cX7_checksum 83 = .ok (.istore 5, 2) := by decide +kernel
theorem dX7_checksum_85 : decode cX7_checksum 85 = .ok (.iload 5, 2) := by decide +kernel
theorem dX7_checksum_87 : decode cX7_checksum 87 = .ok (.bipush 8, 2) := by decide +kernel
theorem dX7_checksum_89 : decode cX7_checksum 89 = .ok (.if_icmp .ge 25, 3) := by decide +kernel
theorem dX7_checksum_92 : decode cX7_checksum 92 = .ok (.ldc2_w 335, 3) := by decide +kernel
theorem dX7_checksum_95 : decode cX7_checksum 95 = .ok (.lload_n 1, 1) := by decide +kernel
theorem dX7_checksum_96 : decode cX7_checksum 96 = .ok (.lmul, 1) := by decide +kernel
theorem dX7_checksum_97 : decode cX7_checksum 97 = .ok (.aload 4, 2) := by decide +kernel
theorem dX7_checksum_99 : decode cX7_checksum 99 = .ok (.getfield 305, 3) := by decide +kernel
theorem dX7_checksum_102 : decode cX7_checksum 102 = .ok (.iload 5, 2) := by decide +kernel
theorem dX7_checksum_104 : decode cX7_checksum 104 = .ok (.iaload, 1) := by decide +kernel
theorem dX7_checksum_105 : decode cX7_checksum 105 = .ok (.i2l, 1) := by decide +kernel
theorem dX7_checksum_106 : decode cX7_checksum 106 = .ok (.ladd, 1) := by decide +kernel
theorem dX7_checksum_107 : decode cX7_checksum 107 = .ok (.lstore_n 1, 1) := by decide +kernel
theorem dX7_checksum_108 : decode cX7_checksum 108 = .ok (.iinc 5 1, 3) := by decide +kernel
theorem dX7_checksum_111 : decode cX7_checksum 111 = .ok (.goto (-26), 3) := by decide +kernel
theorem dX7_checksum_114 : decode cX7_checksum 114 = .ok (.iinc 3 1, 3) := by decide +kernel
theorem dX7_checksum_117 : decode cX7_checksum 117 = .ok (.goto (-59), 3) := by decide +kernel
theorem dX7_checksum_120 : decode cX7_checksum 120 = .ok (.lload_n 1, 1) := by decide +kernel
theorem dX7_checksum_121 : decode cX7_checksum 121 = .ok (.lreturn, 1) := by decide +kernel
theorem dX7_drivenShare_0 : decode cX7_drivenShare 0 = .ok (.aload_n 0, 1) := by decide +kernel
theorem dX7_drivenShare_1 : decode cX7_drivenShare 1 = .ok (.getfield 74, 3) := by decide +kernel
theorem dX7_drivenShare_4 : decode cX7_drivenShare 4 = .ok (.ifCond .ne 14, 3) := by decide +kernel
theorem dX7_drivenShare_7 : decode cX7_drivenShare 7 = .ok (.new 341, 3) := by decide +kernel
theorem dX7_drivenShare_10 : decode cX7_drivenShare 10 = .ok (.dup, 1) := by decide +kernel
theorem dX7_drivenShare_11 : decode cX7_drivenShare 11 = .ok (.ldc_w 343, 3) := by decide +kernel
theorem dX7_drivenShare_14 : decode cX7_drivenShare 14 = .ok (.invokespecial 345, 3) := by decide +kernel
theorem dX7_drivenShare_17 : decode cX7_drivenShare 17 = .ok (.athrow, 1) := by decide +kernel
theorem dX7_drivenShare_18 : decode cX7_drivenShare 18 = .ok (.aload_n 0, 1) := by decide +kernel
theorem dX7_drivenShare_19 : decode cX7_drivenShare 19 = .ok (.invokevirtual 198, 3) := by decide +kernel
theorem dX7_drivenShare_22 : decode cX7_drivenShare 22 = .ok (.i2f, 1) := by decide +kernel
theorem dX7_drivenShare_23 : decode cX7_drivenShare 23 = .ok (.aload_n 0, 1) := by decide +kernel
theorem dX7_drivenShare_24 : decode cX7_drivenShare 24 = .ok (.getfield 74, 3) := by decide +kernel
theorem dX7_drivenShare_27 : decode cX7_drivenShare 27 = .ok (.i2f, 1) := by decide +kernel
theorem dX7_drivenShare_28 : decode cX7_drivenShare 28 = .ok (.fdiv, 1) := by decide +kernel
theorem dX7_drivenShare_29 : decode cX7_drivenShare 29 = .ok (.freturn, 1) := by decide +kernel
theorem dX7_meanWorn_0 : decode cX7_meanWorn 0 = .ok (.aload_n 0, 1) := by decide +kernel
theorem dX7_meanWorn_1 : decode cX7_meanWorn 1 = .ok (.getfield 10, 3) := by decide +kernel
theorem dX7_meanWorn_4 : decode cX7_meanWorn 4 = .ok (.invokevirtual 346, 3) := by decide +kernel
theorem dX7_meanWorn_7 : decode cX7_meanWorn 7 = .ok (.ifCond .eq 14, 3) := by decide +kernel
theorem dX7_meanWorn_10 : decode cX7_meanWorn 10 = .ok (.new 341, 3) := by decide +kernel
theorem dX7_meanWorn_13 : decode cX7_meanWorn 13 = .ok (.dup, 1) := by decide +kernel
theorem dX7_meanWorn_14 : decode cX7_meanWorn 14 = .ok (.ldc_w 349, 3) := by decide +kernel
theorem dX7_meanWorn_17 : decode cX7_meanWorn 17 = .ok (.invokespecial 345, 3) := by decide +kernel
theorem dX7_meanWorn_20 : decode cX7_meanWorn 20 = .ok (.athrow, 1) := by decide +kernel
theorem dX7_meanWorn_21 : decode cX7_meanWorn 21 = .ok (.dconst 0, 1) := by decide +kernel
theorem dX7_meanWorn_22 : decode cX7_meanWorn 22 = .ok (.dstore_n 1, 1) := by decide +kernel
theorem dX7_meanWorn_23 : decode cX7_meanWorn 23 = .ok (.iconst 0, 1) := by decide +kernel
theorem dX7_meanWorn_24 : decode cX7_meanWorn 24 = .ok (.istore_n 3, 1) := by decide +kernel
theorem dX7_meanWorn_25 : decode cX7_meanWorn 25 = .ok (.iload_n 3, 1) := by decide +kernel
theorem dX7_meanWorn_26 : decode cX7_meanWorn 26 = .ok (.aload_n 0, 1) := by decide +kernel
theorem dX7_meanWorn_27 : decode cX7_meanWorn 27 = .ok (.getfield 10, 3) := by decide +kernel
theorem dX7_meanWorn_30 : decode cX7_meanWorn 30 = .ok (.invokevirtual 103, 3) := by decide +kernel
theorem dX7_meanWorn_33 : decode cX7_meanWorn 33 = .ok (.if_icmp .ge 31, 3) := by decide +kernel
theorem dX7_meanWorn_36 : decode cX7_meanWorn 36 = .ok (.dload_n 1, 1) := by decide +kernel
theorem dX7_meanWorn_37 : decode cX7_meanWorn 37 = .ok (.aload_n 0, 1) := by decide +kernel
theorem dX7_meanWorn_38 : decode cX7_meanWorn 38 = .ok (.getfield 48, 3) := by decide +kernel
theorem dX7_meanWorn_41 : decode cX7_meanWorn 41 = .ok (.iload_n 3, 1) := by decide +kernel
theorem dX7_meanWorn_42 : decode cX7_meanWorn 42 = .ok (.invokevirtual 182, 3) := by decide +kernel
theorem dX7_meanWorn_45 : decode cX7_meanWorn 45 = .ok (.l2d, 1) := by decide +kernel
theorem dX7_meanWorn_46 : decode cX7_meanWorn 46 = .ok (.aload_n 0, 1) := by decide +kernel
theorem dX7_meanWorn_47 : decode cX7_meanWorn 47 = .ok (.getfield 48, 3) := by decide +kernel
theorem dX7_meanWorn_50 : decode cX7_meanWorn 50 = .ok (.iload_n 3, 1) := by decide +kernel
theorem dX7_meanWorn_51 : decode cX7_meanWorn 51 = .ok (.invokevirtual 186, 3) := by decide +kernel
theorem dX7_meanWorn_54 : decode cX7_meanWorn 54 = .ok (.l2d, 1) := by decide +kernel
theorem dX7_meanWorn_55 : decode cX7_meanWorn 55 = .ok (.ddiv, 1) := by decide +kernel
theorem dX7_meanWorn_56 : decode cX7_meanWorn 56 = .ok (.dadd, 1) := by decide +kernel
theorem dX7_meanWorn_57 : decode cX7_meanWorn 57 = .ok (.dstore_n 1, 1) := by decide +kernel
theorem dX7_meanWorn_58 : decode cX7_meanWorn 58 = .ok (.iinc 3 1, 3) := by decide +kernel
theorem dX7_meanWorn_61 : decode cX7_meanWorn 61 = .ok (.goto (-36), 3) := by decide +kernel
theorem dX7_meanWorn_64 : decode cX7_meanWorn 64 = .ok (.dload_n 1, 1) := by decide +kernel
theorem dX7_meanWorn_65 : decode cX7_meanWorn 65 = .ok (.aload_n 0, 1) := by decide +kernel
theorem dX7_meanWorn_66 : decode cX7_meanWorn 66 = .ok (.getfield 10, 3) := by decide +kernel
theorem dX7_meanWorn_69 : decode cX7_meanWorn 69 = .ok (.invokevirtual 103, 3) := by decide +kernel
theorem dX7_meanWorn_72 : decode cX7_meanWorn 72 = .ok (.i2d, 1) := by decide +kernel
theorem dX7_meanWorn_73 : decode cX7_meanWorn 73 = .ok (.ddiv, 1) := by decide +kernel
theorem dX7_meanWorn_74 : decode cX7_meanWorn 74 = .ok (.dreturn, 1) := by decide +kernel
theorem dX7_isSound_0 : decode cX7_isSound 0 = .ok (.aload_n 0, 1) := by decide +kernel
theorem dX7_isSound_1 : decode cX7_isSound 1 = .ok (.invokevirtual 351, 3) := by decide +kernel
theorem dX7_isSound_4 : decode cX7_isSound 4 = .ok (.ifCond .eq 29, 3) := by decide +kernel
theorem dX7_isSound_7 : decode cX7_isSound 7 = .ok (.aload_n 0, 1) := by decide +kernel
theorem dX7_isSound_8 : decode cX7_isSound 8 = .ok (.invokevirtual 354, 3) := by decide +kernel
theorem dX7_isSound_11 : decode cX7_isSound 11 = .ok (.ifCond .eq 22, 3) := by decide +kernel
theorem dX7_isSound_14 : decode cX7_isSound 14 = .ok (.aload_n 0, 1) := by decide +kernel
theorem dX7_isSound_15 : decode cX7_isSound 15 = .ok (.aconst_null, 1) := by decide +kernel
theorem dX7_isSound_16 : decode cX7_isSound 16 = .ok (.invokevirtual 357, 3) := by decide +kernel
theorem dX7_isSound_19 : decode cX7_isSound 19 = .ok (.ifCond .eq 14, 3) := by decide +kernel
theorem dX7_isSound_22 : decode cX7_isSound 22 = .ok (.aload_n 0, 1) := by decide +kernel
theorem dX7_isSound_23 : decode cX7_isSound 23 = .ok (.invokevirtual 361, 3) := by decide +kernel
theorem dX7_isSound_26 : decode cX7_isSound 26 = .ok (.ifCond .eq 7, 3) := by decide +kernel
theorem dX7_isSound_29 : decode cX7_isSound 29 = .ok (.iconst 1, 1) := by decide +kernel
theorem dX7_isSound_30 : decode cX7_isSound 30 = .ok (.goto 4, 3) := by decide +kernel
theorem dX7_isSound_33 : decode cX7_isSound 33 = .ok (.iconst 0, 1) := by decide +kernel
theorem dX7_isSound_34 : decode cX7_isSound 34 = .ok (.ireturn, 1) := by decide +kernel
theorem dX7_checkShaft_0 : decode cX7_checkShaft 0 = .ok (.iload_n 1, 1) := by decide +kernel
theorem dX7_checkShaft_1 : decode cX7_checkShaft 1 = .ok (.ifCond .lt 11, 3) := by decide +kernel
theorem dX7_checkShaft_4 : decode cX7_checkShaft 4 = .ok (.iload_n 1, 1) := by decide +kernel
theorem dX7_checkShaft_5 : decode cX7_checkShaft 5 = .ok (.aload_n 0, 1) := by decide +kernel
theorem dX7_checkShaft_6 : decode cX7_checkShaft 6 = .ok (.getfield 74, 3) := by decide +kernel
theorem dX7_checkShaft_9 : decode cX7_checkShaft 9 = .ok (.if_icmp .lt 14, 3) := by decide +kernel
theorem dX7_checkShaft_12 : decode cX7_checkShaft 12 = .ok (.new 364, 3) := by decide +kernel
theorem dX7_checkShaft_15 : decode cX7_checkShaft 15 = .ok (.dup, 1) := by decide +kernel
theorem dX7_checkShaft_16 : decode cX7_checkShaft 16 = .ok (.ldc_w 366, 3) := by decide +kernel
theorem dX7_checkShaft_19 : decode cX7_checkShaft 19 = .ok (.invokespecial 368, 3) := by decide +kernel
theorem dX7_checkShaft_22 : decode cX7_checkShaft 22 = .ok (.athrow, 1) := by decide +kernel
theorem dX7_checkShaft_23 : decode cX7_checkShaft 23 = .ok (.return_, 1) := by decide +kernel
theorem dX7_checkLink_0 : decode cX7_checkLink 0 = .ok (.iload_n 1, 1) := by decide +kernel
theorem dX7_checkLink_1 : decode cX7_checkLink 1 = .ok (.ifCond .lt 14, 3) := by decide +kernel
theorem dX7_checkLink_4 : decode cX7_checkLink 4 = .ok (.iload_n 1, 1) := by decide +kernel
theorem dX7_checkLink_5 : decode cX7_checkLink 5 = .ok (.aload_n 0, 1) := by decide +kernel
theorem dX7_checkLink_6 : decode cX7_checkLink 6 = .ok (.getfield 10, 3) := by decide +kernel
theorem dX7_checkLink_9 : decode cX7_checkLink 9 = .ok (.invokevirtual 103, 3) := by decide +kernel
theorem dX7_checkLink_12 : decode cX7_checkLink 12 = .ok (.if_icmp .lt 14, 3) := by decide +kernel
theorem dX7_checkLink_15 : decode cX7_checkLink 15 = .ok (.new 364, 3) := by decide +kernel
theorem dX7_checkLink_18 : decode cX7_checkLink 18 = .ok (.dup, 1) := by decide +kernel
theorem dX7_checkLink_19 : decode cX7_checkLink 19 = .ok (.ldc_w 369, 3) := by decide +kernel
theorem dX7_checkLink_22 : decode cX7_checkLink 22 = .ok (.invokespecial 368, 3) := by decide +kernel
theorem dX7_checkLink_25 : decode cX7_checkLink 25 = .ok (.athrow, 1) := by decide +kernel
theorem dX7_checkLink_26 : decode cX7_checkLink 26 = .ok (.return_, 1) := by decide +kernel
theorem dX7_linkAt_0 : decode cX7_linkAt 0 = .ok (.aload_n 0, 1) := by decide +kernel
theorem dX7_linkAt_1 : decode cX7_linkAt 1 = .ok (.iload_n 1, 1) := by decide +kernel
theorem dX7_linkAt_2 : decode cX7_linkAt 2 = .ok (.invokevirtual 201, 3) := by decide +kernel
theorem dX7_linkAt_5 : decode cX7_linkAt 5 = .ok (.aload_n 0, 1) := by decide +kernel
theorem dX7_linkAt_6 : decode cX7_linkAt 6 = .ok (.getfield 10, 3) := by decide +kernel
theorem dX7_linkAt_9 : decode cX7_linkAt 9 = .ok (.iload_n 1, 1) := by decide +kernel
theorem dX7_linkAt_10 : decode cX7_linkAt 10 = .ok (.invokevirtual 337, 3) := by decide +kernel
theorem dX7_linkAt_13 : decode cX7_linkAt 13 = .ok (.checkcast 101, 3) := by decide +kernel
theorem dX7_linkAt_16 : decode cX7_linkAt 16 = .ok (.areturn, 1) := by decide +kernel
theorem dX7_camAt_0 : decode cX7_camAt 0 = .ok (.iload_n 1, 1) := by decide +kernel
theorem dX7_camAt_1 : decode cX7_camAt 1 = .ok (.ifCond .lt 14, 3) := by decide +kernel
theorem dX7_camAt_4 : decode cX7_camAt 4 = .ok (.iload_n 1, 1) := by decide +kernel
theorem dX7_camAt_5 : decode cX7_camAt 5 = .ok (.aload_n 0, 1) := by decide +kernel
theorem dX7_camAt_6 : decode cX7_camAt 6 = .ok (.getfield 19, 3) := by decide +kernel
theorem dX7_camAt_9 : decode cX7_camAt 9 = .ok (.invokevirtual 103, 3) := by decide +kernel
theorem dX7_camAt_12 : decode cX7_camAt 12 = .ok (.if_icmp .lt 14, 3) := by decide +kernel
theorem dX7_camAt_15 : decode cX7_camAt 15 = .ok (.new 364, 3) := by decide +kernel
theorem dX7_camAt_18 : decode cX7_camAt 18 = .ok (.dup, 1) := by decide +kernel
theorem dX7_camAt_19 : decode cX7_camAt 19 = .ok (.ldc_w 371, 3) := by decide +kernel
theorem dX7_camAt_22 : decode cX7_camAt 22 = .ok (.invokespecial 368, 3) := by decide +kernel
theorem dX7_camAt_25 : decode cX7_camAt 25 = .ok (.athrow, 1) := by decide +kernel
theorem dX7_camAt_26 : decode cX7_camAt 26 = .ok (.aload_n 0, 1) := by decide +kernel
theorem dX7_camAt_27 : decode cX7_camAt 27 = .ok (.getfield 19, 3) := by decide +kernel
theorem dX7_camAt_30 : decode cX7_camAt 30 = .ok (.iload_n 1, 1) := by decide +kernel
theorem dX7_camAt_31 : decode cX7_camAt 31 = .ok (.invokevirtual 337, 3) := by decide +kernel
theorem dX7_camAt_34 : decode cX7_camAt 34 = .ok (.checkcast 225, 3) := by decide +kernel
theorem dX7_camAt_37 : decode cX7_camAt 37 = .ok (.areturn, 1) := by decide +kernel
theorem dX7_wholeCamAt_0 : decode cX7_wholeCamAt 0 = .ok (.aload_n 0, 1) := by decide +kernel
theorem dX7_wholeCamAt_1 : decode cX7_wholeCamAt 1 = .ok (.iload_n 1, 1) := by decide +kernel
theorem dX7_wholeCamAt_2 : decode cX7_wholeCamAt 2 = .ok (.invokevirtual 232, 3) := by decide +kernel
theorem dX7_wholeCamAt_5 : decode cX7_wholeCamAt 5 = .ok (.astore_n 2, 1) := by decide +kernel
theorem dX7_wholeCamAt_6 : decode cX7_wholeCamAt 6 = .ok (.aload_n 2, 1) := by decide +kernel
theorem dX7_wholeCamAt_7 : decode cX7_wholeCamAt 7 = .ok (.invokevirtual 373, 3) := by decide +kernel
theorem dX7_wholeCamAt_10 : decode cX7_wholeCamAt 10 = .ok (.ifCond .ne 14, 3) := by decide +kernel
theorem dX7_wholeCamAt_13 : decode cX7_wholeCamAt 13 = .ok (.new 96, 3) := by decide +kernel
theorem dX7_wholeCamAt_16 : decode cX7_wholeCamAt 16 = .ok (.dup, 1) := by decide +kernel
theorem dX7_wholeCamAt_17 : decode cX7_wholeCamAt 17 = .ok (.ldc_w 376, 3) := by decide +kernel
theorem dX7_wholeCamAt_20 : decode cX7_wholeCamAt 20 = .ok (.invokespecial 100, 3) := by decide +kernel
theorem dX7_wholeCamAt_23 : decode cX7_wholeCamAt 23 = .ok (.athrow, 1) := by decide +kernel
theorem dX7_wholeCamAt_24 : decode cX7_wholeCamAt 24 = .ok (.aload_n 2, 1) := by decide +kernel
theorem dX7_wholeCamAt_25 : decode cX7_wholeCamAt 25 = .ok (.areturn, 1) := by decide +kernel
theorem dX7_drumAt_0 : decode cX7_drumAt 0 = .ok (.iload_n 1, 1) := by decide +kernel
theorem dX7_drumAt_1 : decode cX7_drumAt 1 = .ok (.ifCond .lt 14, 3) := by decide +kernel
theorem dX7_drumAt_4 : decode cX7_drumAt 4 = .ok (.iload_n 1, 1) := by decide +kernel
theorem dX7_drumAt_5 : decode cX7_drumAt 5 = .ok (.aload_n 0, 1) := by decide +kernel
theorem dX7_drumAt_6 : decode cX7_drumAt 6 = .ok (.getfield 22, 3) := by decide +kernel
theorem dX7_drumAt_9 : decode cX7_drumAt 9 = .ok (.invokevirtual 103, 3) := by decide +kernel
theorem dX7_drumAt_12 : decode cX7_drumAt 12 = .ok (.if_icmp .lt 14, 3) := by decide +kernel
theorem dX7_drumAt_15 : decode cX7_drumAt 15 = .ok (.new 364, 3) := by decide +kernel
theorem dX7_drumAt_18 : decode cX7_drumAt 18 = .ok (.dup, 1) := by decide +kernel
theorem dX7_drumAt_19 : decode cX7_drumAt 19 = .ok (.ldc_w 378, 3) := by decide +kernel
theorem dX7_drumAt_22 : decode cX7_drumAt 22 = .ok (.invokespecial 368, 3) := by decide +kernel
theorem dX7_drumAt_25 : decode cX7_drumAt 25 = .ok (.athrow, 1) := by decide +kernel
theorem dX7_drumAt_26 : decode cX7_drumAt 26 = .ok (.aload_n 0, 1) := by decide +kernel
theorem dX7_drumAt_27 : decode cX7_drumAt 27 = .ok (.getfield 22, 3) := by decide +kernel
theorem dX7_drumAt_30 : decode cX7_drumAt 30 = .ok (.iload_n 1, 1) := by decide +kernel
theorem dX7_drumAt_31 : decode cX7_drumAt 31 = .ok (.invokevirtual 337, 3) := by decide +kernel
theorem dX7_drumAt_34 : decode cX7_drumAt 34 = .ok (.checkcast 294, 3) := by decide +kernel
theorem dX7_drumAt_37 : decode cX7_drumAt 37 = .ok (.areturn, 1) := by decide +kernel
theorem dX7_checkRange_0 : decode cX7_checkRange 0 = .ok (.iload_n 0, 1) := by decide +kernel
theorem dX7_checkRange_1 : decode cX7_checkRange 1 = .ok (.iload_n 1, 1) := by decide +kernel
theorem dX7_checkRange_2 : decode cX7_checkRange 2 = .ok (.if_icmp .lt 8, 3) := by decide +kernel
theorem dX7_checkRange_5 : decode cX7_checkRange 5 = .ok (.iload_n 0, 1) := by decide +kernel
theorem dX7_checkRange_6 : decode cX7_checkRange 6 = .ok (.iload_n 2, 1) := by decide +kernel
theorem dX7_checkRange_7 : decode cX7_checkRange 7 = .ok (.if_icmp .le 14, 3) := by decide +kernel
theorem dX7_checkRange_10 : decode cX7_checkRange 10 = .ok (.new 91, 3) := by decide +kernel
theorem dX7_checkRange_13 : decode cX7_checkRange 13 = .ok (.dup, 1) := by decide +kernel
theorem dX7_checkRange_14 : decode cX7_checkRange 14 = .ok (.ldc_w 380, 3) := by decide +kernel
theorem dX7_checkRange_17 : decode cX7_checkRange 17 = .ok (.invokespecial 95, 3) := by decide +kernel
theorem dX7_checkRange_20 : decode cX7_checkRange 20 = .ok (.athrow, 1) := by decide +kernel
theorem dX7_checkRange_21 : decode cX7_checkRange 21 = .ok (.return_, 1) := by decide +kernel
theorem dX7_checkLaw_0 : decode cX7_checkLaw 0 = .ok (.iload_n 0, 1) := by decide +kernel
theorem dX7_checkLaw_1 : decode cX7_checkLaw 1 = .ok (.bipush 117, 2) := by decide +kernel
theorem dX7_checkLaw_3 : decode cX7_checkLaw 3 = .ok (.if_icmp .eq 20, 3) := by decide +kernel
theorem dX7_checkLaw_6 : decode cX7_checkLaw 6 = .ok (.iload_n 0, 1) := by decide +kernel
theorem dX7_checkLaw_7 : decode cX7_checkLaw 7 = .ok (.bipush 112, 2) := by decide +kernel
theorem dX7_checkLaw_9 : decode cX7_checkLaw 9 = .ok (.if_icmp .eq 14, 3) := by decide +kernel
theorem dX7_checkLaw_12 : decode cX7_checkLaw 12 = .ok (.new 91, 3) := by decide +kernel
theorem dX7_checkLaw_15 : decode cX7_checkLaw 15 = .ok (.dup, 1) := by decide +kernel
theorem dX7_checkLaw_16 : decode cX7_checkLaw 16 = .ok (.ldc_w 382, 3) := by decide +kernel
theorem dX7_checkLaw_19 : decode cX7_checkLaw 19 = .ok (.invokespecial 95, 3) := by decide +kernel
theorem dX7_checkLaw_22 : decode cX7_checkLaw 22 = .ok (.athrow, 1) := by decide +kernel
theorem dX7_checkLaw_23 : decode cX7_checkLaw 23 = .ok (.return_, 1) := by decide +kernel
theorem dX7_hasMeaning_0 : decode cX7_hasMeaning 0 = .ok (.iload_n 0, 1) := by decide +kernel
theorem dX7_hasMeaning_1 : decode cX7_hasMeaning 1 = .ok (.bipush 103, 2) := by decide +kernel
theorem dX7_hasMeaning_3 : decode cX7_hasMeaning 3 = .ok (.if_icmp .eq 9, 3) := by decide +kernel
theorem dX7_hasMeaning_6 : decode cX7_hasMeaning 6 = .ok (.iload_n 0, 1) := by decide +kernel
theorem dX7_hasMeaning_7 : decode cX7_hasMeaning 7 = .ok (.bipush 105, 2) := by decide +kernel
theorem dX7_hasMeaning_9 : decode cX7_hasMeaning 9 = .ok (.if_icmp .ne 31, 3) := by decide +kernel
theorem dX7_hasMeaning_12 : decode cX7_hasMeaning 12 = .ok (.iload_n 1, 1) := by decide +kernel
theorem dX7_hasMeaning_13 : decode cX7_hasMeaning 13 = .ok (.bipush 6, 2) := by decide +kernel
theorem dX7_hasMeaning_15 : decode cX7_hasMeaning 15 = .ok (.bipush 30, 2) := by decide +kernel
theorem dX7_hasMeaning_17 : decode cX7_hasMeaning 17 = .ok (.invokestatic 384, 3) := by decide +kernel
theorem dX7_hasMeaning_20 : decode cX7_hasMeaning 20 = .ok (.ifCond .eq 18, 3) := by decide +kernel
theorem dX7_hasMeaning_23 : decode cX7_hasMeaning 23 = .ok (.iload_n 2, 1) := by decide +kernel
theorem dX7_hasMeaning_24 : decode cX7_hasMeaning 24 = .ok (.bipush 6, 2) := by decide +kernel
theorem dX7_hasMeaning_26 : decode cX7_hasMeaning 26 = .ok (.bipush 30, 2) := by decide +kernel
theorem dX7_hasMeaning_28 : decode cX7_hasMeaning 28 = .ok (.invokestatic 384, 3) := by decide +kernel
theorem dX7_hasMeaning_31 : decode cX7_hasMeaning 31 = .ok (.ifCond .eq 7, 3) := by decide +kernel
theorem dX7_hasMeaning_34 : decode cX7_hasMeaning 34 = .ok (.iconst 1, 1) := by decide +kernel
theorem dX7_hasMeaning_35 : decode cX7_hasMeaning 35 = .ok (.goto 4, 3) := by decide +kernel
theorem dX7_hasMeaning_38 : decode cX7_hasMeaning 38 = .ok (.iconst 0, 1) := by decide +kernel
theorem dX7_hasMeaning_39 : decode cX7_hasMeaning 39 = .ok (.ireturn, 1) := by decide +kernel
theorem dX7_hasMeaning_40 : decode cX7_hasMeaning 40 = .ok (.iload_n 0, 1) := by decide +kernel
theorem dX7_hasMeaning_41 : decode cX7_hasMeaning 41 = .ok (.bipush 118, 2) := by decide +kernel
theorem dX7_hasMeaning_43 : decode cX7_hasMeaning 43 = .ok (.if_icmp .ne 23, 3) := by decide +kernel
theorem dX7_hasMeaning_46 : decode cX7_hasMeaning 46 = .ok (.iload_n 1, 1) := by decide +kernel
theorem dX7_hasMeaning_47 : decode cX7_hasMeaning 47 = .ok (.iconst 3, 1) := by decide +kernel
theorem dX7_hasMeaning_48 : decode cX7_hasMeaning 48 = .ok (.bipush 12, 2) := by decide +kernel
theorem dX7_hasMeaning_50 : decode cX7_hasMeaning 50 = .ok (.invokestatic 384, 3) := by decide +kernel
theorem dX7_hasMeaning_53 : decode cX7_hasMeaning 53 = .ok (.ifCond .eq 11, 3) := by decide +kernel
theorem dX7_hasMeaning_56 : decode cX7_hasMeaning 56 = .ok (.iload_n 2, 1) := by decide +kernel
theorem dX7_hasMeaning_57 : decode cX7_hasMeaning 57 = .ok (.ifCond .ne 7, 3) := by decide +kernel
theorem dX7_hasMeaning_60 : decode cX7_hasMeaning 60 = .ok (.iconst 1, 1) := by decide +kernel
theorem dX7_hasMeaning_61 : decode cX7_hasMeaning 61 = .ok (.goto 4, 3) := by decide +kernel
theorem dX7_hasMeaning_64 : decode cX7_hasMeaning 64 = .ok (.iconst 0, 1) := by decide +kernel
theorem dX7_hasMeaning_65 : decode cX7_hasMeaning 65 = .ok (.ireturn, 1) := by decide +kernel
theorem dX7_hasMeaning_66 : decode cX7_hasMeaning 66 = .ok (.iload_n 0, 1) := by decide +kernel
theorem dX7_hasMeaning_67 : decode cX7_hasMeaning 67 = .ok (.bipush 114, 2) := by decide +kernel
theorem dX7_hasMeaning_69 : decode cX7_hasMeaning 69 = .ok (.if_icmp .ne 23, 3) := by decide +kernel
theorem dX7_hasMeaning_72 : decode cX7_hasMeaning 72 = .ok (.iload_n 1, 1) := by decide +kernel
theorem dX7_hasMeaning_73 : decode cX7_hasMeaning 73 = .ok (.iconst 3, 1) := by decide +kernel
theorem dX7_hasMeaning_74 : decode cX7_hasMeaning 74 = .ok (.bipush 24, 2) := by decide +kernel
theorem dX7_hasMeaning_76 : decode cX7_hasMeaning 76 = .ok (.invokestatic 384, 3) := by decide +kernel
theorem dX7_hasMeaning_79 : decode cX7_hasMeaning 79 = .ok (.ifCond .eq 11, 3) := by decide +kernel
theorem dX7_hasMeaning_82 : decode cX7_hasMeaning 82 = .ok (.iload_n 2, 1) := by decide +kernel
theorem dX7_hasMeaning_83 : decode cX7_hasMeaning 83 = .ok (.ifCond .ne 7, 3) := by decide +kernel
theorem dX7_hasMeaning_86 : decode cX7_hasMeaning 86 = .ok (.iconst 1, 1) := by decide +kernel
theorem dX7_hasMeaning_87 : decode cX7_hasMeaning 87 = .ok (.goto 4, 3) := by decide +kernel
theorem dX7_hasMeaning_90 : decode cX7_hasMeaning 90 = .ok (.iconst 0, 1) := by decide +kernel
theorem dX7_hasMeaning_91 : decode cX7_hasMeaning 91 = .ok (.ireturn, 1) := by decide +kernel
theorem dX7_hasMeaning_92 : decode cX7_hasMeaning 92 = .ok (.iload_n 0, 1) := by decide +kernel
theorem dX7_hasMeaning_93 : decode cX7_hasMeaning 93 = .ok (.bipush 107, 2) := by decide +kernel
theorem dX7_hasMeaning_95 : decode cX7_hasMeaning 95 = .ok (.if_icmp .ne 15, 3) := by decide +kernel
theorem dX7_hasMeaning_98 : decode cX7_hasMeaning 98 = .ok (.iload_n 1, 1) := by decide +kernel
theorem dX7_hasMeaning_99 : decode cX7_hasMeaning 99 = .ok (.ifCond .ne 11, 3) := by decide +kernel
theorem dX7_hasMeaning_102 : decode cX7_hasMeaning 102 = .ok (.iload_n 2, 1) := by decide +kernel
theorem dX7_hasMeaning_103 : decode cX7_hasMeaning 103 = .ok (.ifCond .ne 7, 3) := by decide +kernel
theorem dX7_hasMeaning_106 : decode cX7_hasMeaning 106 = .ok (.iconst 1, 1) := by decide +kernel
theorem dX7_hasMeaning_107 : decode cX7_hasMeaning 107 = .ok (.goto 4, 3) := by decide +kernel
theorem dX7_hasMeaning_110 : decode cX7_hasMeaning 110 = .ok (.iconst 0, 1) := by decide +kernel
theorem dX7_hasMeaning_111 : decode cX7_hasMeaning 111 = .ok (.ireturn, 1) := by decide +kernel
theorem dX7_isWithin_0 : decode cX7_isWithin 0 = .ok (.iload_n 0, 1) := by decide +kernel
theorem dX7_isWithin_1 : decode cX7_isWithin 1 = .ok (.iload_n 1, 1) := by decide +kernel
theorem dX7_isWithin_2 : decode cX7_isWithin 2 = .ok (.if_icmp .lt 12, 3) := by decide +kernel
theorem dX7_isWithin_5 : decode cX7_isWithin 5 = .ok (.iload_n 0, 1) := by decide +kernel
theorem dX7_isWithin_6 : decode cX7_isWithin 6 = .ok (.iload_n 2, 1) := by decide +kernel
theorem dX7_isWithin_7 : decode cX7_isWithin 7 = .ok (.if_icmp .gt 7, 3) := by decide +kernel
theorem dX7_isWithin_10 : decode cX7_isWithin 10 = .ok (.iconst 1, 1) := by decide +kernel
theorem dX7_isWithin_11 : decode cX7_isWithin 11 = .ok (.goto 4, 3) := by decide +kernel
theorem dX7_isWithin_14 : decode cX7_isWithin 14 = .ok (.iconst 0, 1) := by decide +kernel
theorem dX7_isWithin_15 : decode cX7_isWithin 15 = .ok (.ireturn, 1) := by decide +kernel
theorem dX7_addLink_0 : decode cX7_addLink 0 = .ok (.aload_n 0, 1) := by decide +kernel
theorem dX7_addLink_1 : decode cX7_addLink 1 = .ok (.getfield 25, 3) := by decide +kernel
theorem dX7_addLink_4 : decode cX7_addLink 4 = .ok (.aload_n 1, 1) := by decide +kernel
theorem dX7_addLink_5 : decode cX7_addLink 5 = .ok (.getfield 388, 3) := by decide +kernel
theorem dX7_addLink_8 : decode cX7_addLink 8 = .ok (.iaload, 1) := by decide +kernel
theorem dX7_addLink_9 : decode cX7_addLink 9 = .ok (.iconst (-1), 1) := by decide +kernel
theorem dX7_addLink_10 : decode cX7_addLink 10 = .ok (.if_icmp .eq 13, 3) := by decide +kernel
theorem dX7_addLink_13 : decode cX7_addLink 13 = .ok (.new 96, 3) := by decide +kernel
theorem dX7_addLink_16 : decode cX7_addLink 16 = .ok (.dup, 1) := by decide +kernel
theorem dX7_addLink_17 : decode cX7_addLink 17 = .ok (.ldc 148, 2) := by decide +kernel
theorem dX7_addLink_19 : decode cX7_addLink 19 = .ok (.invokespecial 100, 3) := by decide +kernel
theorem dX7_addLink_22 : decode cX7_addLink 22 = .ok (.athrow, 1) := by decide +kernel
theorem dX7_addLink_23 : decode cX7_addLink 23 = .ok (.aload_n 0, 1) := by decide +kernel
theorem dX7_addLink_24 : decode cX7_addLink 24 = .ok (.aload_n 1, 1) := by decide +kernel
theorem dX7_addLink_25 : decode cX7_addLink 25 = .ok (.invokevirtual 357, 3) := by decide +kernel
theorem dX7_addLink_28 : decode cX7_addLink 28 = .ok (.ifCond .ne 14, 3) := by decide +kernel
theorem dX7_addLink_31 : decode cX7_addLink 31 = .ok (.new 96, 3) := by decide +kernel
theorem dX7_addLink_34 : decode cX7_addLink 34 = .ok (.dup, 1) := by decide +kernel
theorem dX7_addLink_35 : decode cX7_addLink 35 = .ok (.ldc_w 391, 3) := by decide +kernel
theorem dX7_addLink_38 : decode cX7_addLink 38 = .ok (.invokespecial 100, 3) := by decide +kernel
theorem dX7_addLink_41 : decode cX7_addLink 41 = .ok (.athrow, 1) := by decide +kernel
theorem dX7_addLink_42 : decode cX7_addLink 42 = .ok (.aload_n 0, 1) := by decide +kernel
theorem dX7_addLink_43 : decode cX7_addLink 43 = .ok (.getfield 10, 3) := by decide +kernel
theorem dX7_addLink_46 : decode cX7_addLink 46 = .ok (.invokevirtual 103, 3) := by decide +kernel
theorem dX7_addLink_49 : decode cX7_addLink 49 = .ok (.bipush 16, 2) := by decide +kernel
theorem dX7_addLink_51 : decode cX7_addLink 51 = .ok (.if_icmp .lt 14, 3) := by decide +kernel
theorem dX7_addLink_54 : decode cX7_addLink 54 = .ok (.new 77, 3) := by decide +kernel
theorem dX7_addLink_57 : decode cX7_addLink 57 = .ok (.dup, 1) := by decide +kernel
theorem dX7_addLink_58 : decode cX7_addLink 58 = .ok (.ldc_w 393, 3) := by decide +kernel
theorem dX7_addLink_61 : decode cX7_addLink 61 = .ok (.invokespecial 81, 3) := by decide +kernel
theorem dX7_addLink_64 : decode cX7_addLink 64 = .ok (.athrow, 1) := by decide +kernel
theorem dX7_addLink_65 : decode cX7_addLink 65 = .ok (.aload_n 0, 1) := by decide +kernel
theorem dX7_addLink_66 : decode cX7_addLink 66 = .ok (.getfield 10, 3) := by decide +kernel
theorem dX7_addLink_69 : decode cX7_addLink 69 = .ok (.aload_n 1, 1) := by decide +kernel
theorem dX7_addLink_70 : decode cX7_addLink 70 = .ok (.invokevirtual 228, 3) := by decide +kernel
theorem dX7_addLink_73 : decode cX7_addLink 73 = .ok (.pop, 1) := by decide +kernel
theorem dX7_addLink_74 : decode cX7_addLink 74 = .ok (.aload_n 0, 1) := by decide +kernel
theorem dX7_addLink_75 : decode cX7_addLink 75 = .ok (.getfield 25, 3) := by decide +kernel
theorem dX7_addLink_78 : decode cX7_addLink 78 = .ok (.aload_n 1, 1) := by decide +kernel
theorem dX7_addLink_79 : decode cX7_addLink 79 = .ok (.getfield 388, 3) := by decide +kernel
theorem dX7_addLink_82 : decode cX7_addLink 82 = .ok (.aload_n 1, 1) := by decide +kernel
theorem dX7_addLink_83 : decode cX7_addLink 83 = .ok (.getfield 395, 3) := by decide +kernel
theorem dX7_addLink_86 : decode cX7_addLink 86 = .ok (.iastore, 1) := by decide +kernel
theorem dX7_addLink_87 : decode cX7_addLink 87 = .ok (.aload_n 0, 1) := by decide +kernel
theorem dX7_addLink_88 : decode cX7_addLink 88 = .ok (.getfield 54, 3) := by decide +kernel
theorem dX7_addLink_91 : decode cX7_addLink 91 = .ok (.aload_n 1, 1) := by decide +kernel
theorem dX7_addLink_92 : decode cX7_addLink 92 = .ok (.invokevirtual 213, 3) := by decide +kernel
theorem dX7_addLink_95 : decode cX7_addLink 95 = .ok (.aload_n 0, 1) := by decide +kernel
theorem dX7_addLink_96 : decode cX7_addLink 96 = .ok (.invokevirtual 398, 3) := by decide +kernel
theorem dX7_addLink_99 : decode cX7_addLink 99 = .ok (.aload_n 1, 1) := by decide +kernel
theorem dX7_addLink_100 : decode cX7_addLink 100 = .ok (.getfield 395, 3) := by decide +kernel
theorem dX7_addLink_103 : decode cX7_addLink 103 = .ok (.ireturn, 1) := by decide +kernel
theorem dX7_areLevelsFit_0 : decode cX7_areLevelsFit 0 = .ok (.aload_n 0, 1) := by decide +kernel
theorem dX7_areLevelsFit_1 : decode cX7_areLevelsFit 1 = .ok (.getfield 29, 3) := by decide +kernel
theorem dX7_areLevelsFit_4 : decode cX7_areLevelsFit 4 = .ok (.iconst 0, 1) := by decide +kernel
theorem dX7_areLevelsFit_5 : decode cX7_areLevelsFit 5 = .ok (.invokestatic 68, 3) := by decide +kernel
theorem dX7_areLevelsFit_8 : decode cX7_areLevelsFit 8 = .ok (.iconst 0, 1) := by decide +kernel
theorem dX7_areLevelsFit_9 : decode cX7_areLevelsFit 9 = .ok (.istore_n 2, 1) := by decide +kernel
theorem dX7_areLevelsFit_10 : decode cX7_areLevelsFit 10 = .ok (.iload_n 2, 1) := by decide +kernel
theorem dX7_areLevelsFit_11 : decode cX7_areLevelsFit 11 = .ok (.iconst 3, 1) := by decide +kernel
theorem dX7_areLevelsFit_12 : decode cX7_areLevelsFit 12 = .ok (.if_icmp .gt 52, 3) := by decide +kernel
theorem dX7_areLevelsFit_15 : decode cX7_areLevelsFit 15 = .ok (.iconst 0, 1) := by decide +kernel
theorem dX7_areLevelsFit_16 : decode cX7_areLevelsFit 16 = .ok (.istore_n 3, 1) := by decide +kernel
theorem dX7_areLevelsFit_17 : decode cX7_areLevelsFit 17 = .ok (.iload_n 3, 1) := by decide +kernel
theorem dX7_areLevelsFit_18 : decode cX7_areLevelsFit 18 = .ok (.aload_n 0, 1) := by decide +kernel
theorem dX7_areLevelsFit_19 : decode cX7_areLevelsFit 19 = .ok (.getfield 10, 3) := by decide +kernel
theorem dX7_areLevelsFit_22 : decode cX7_areLevelsFit 22 = .ok (.invokevirtual 103, 3) := by decide +kernel
theorem dX7_areLevelsFit_25 : decode cX7_areLevelsFit 25 = .ok (.if_icmp .ge 24, 3) := by decide +kernel
theorem dX7_areLevelsFit_28 : decode cX7_areLevelsFit 28 = .ok (.aload_n 0, 1) := by decide +kernel
