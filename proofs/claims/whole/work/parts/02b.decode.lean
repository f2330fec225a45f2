theorem dX0_init_0 : decode cX0_init 0 = .ok (.aload_n 0, 1) := by decide +kernel
theorem dX0_init_1 : decode cX0_init 1 = .ok (.invokespecial 1, 3) := by decide +kernel
theorem dX0_init_4 : decode cX0_init 4 = .ok (.aload_n 0, 1) := by decide +kernel
theorem dX0_init_5 : decode cX0_init 5 = .ok (.iload_n 1, 1) := by decide +kernel
theorem dX0_init_6 : decode cX0_init 6 = .ok (.putfield 7, 3) := by decide +kernel
theorem dX0_init_9 : decode cX0_init 9 = .ok (.aload_n 0, 1) := by decide +kernel
theorem dX0_init_10 : decode cX0_init 10 = .ok (.iload_n 2, 1) := by decide +kernel
theorem dX0_init_11 : decode cX0_init 11 = .ok (.putfield 13, 3) := by decide +kernel
theorem dX0_init_14 : decode cX0_init 14 = .ok (.aload_n 0, 1) := by decide +kernel
theorem dX0_init_15 : decode cX0_init 15 = .ok (.iload_n 3, 1) := by decide +kernel
theorem dX0_init_16 : decode cX0_init 16 = .ok (.putfield 16, 3) := by decide +kernel
theorem dX0_init_19 : decode cX0_init 19 = .ok (.aload_n 0, 1) := by decide +kernel
theorem dX0_init_20 : decode cX0_init 20 = .ok (.iload 4, 2) := by decide +kernel
theorem dX0_init_22 : decode cX0_init 22 = .ok (.putfield 19, 3) := by decide +kernel
theorem dX0_init_25 : decode cX0_init 25 = .ok (.return_, 1) := by decide +kernel
theorem dX0_letter_0 : decode cX0_letter 0 = .ok (.aload_n 0, 1) := by decide +kernel
theorem dX0_letter_1 : decode cX0_letter 1 = .ok (.getfield 7, 3) := by decide +kernel
theorem dX0_letter_4 : decode cX0_letter 4 = .ok (.aload_n 0, 1) := by decide +kernel
theorem dX0_letter_5 : decode cX0_letter 5 = .ok (.getfield 13, 3) := by decide +kernel
theorem dX0_letter_8 : decode cX0_letter 8 = .ok (.invokestatic 22, 3) := by decide +kernel
theorem dX0_letter_11 : decode cX0_letter 11 = .ok (.aload_n 0, 1) := by decide +kernel
theorem dX0_letter_12 : decode cX0_letter 12 = .ok (.getfield 16, 3) := by decide +kernel
theorem dX0_letter_15 : decode cX0_letter 15 = .ok (.aload_n 0, 1) := by decide +kernel
theorem dX0_letter_16 : decode cX0_letter 16 = .ok (.getfield 19, 3) := by decide +kernel
theorem dX0_letter_19 : decode cX0_letter 19 = .ok (.invokestatic 22, 3) := by decide +kernel
theorem dX0_letter_22 : decode cX0_letter 22 = .ok (.invokestatic 22, 3) := by decide +kernel
theorem dX0_letter_25 : decode cX0_letter 25 = .ok (.istore_n 1, 1) := by decide +kernel
theorem dX0_letter_26 : decode cX0_letter 26 = .ok (.aload_n 0, 1) := by decide +kernel
theorem dX0_letter_27 : decode cX0_letter 27 = .ok (.getfield 7, 3) := by decide +kernel
theorem dX0_letter_30 : decode cX0_letter 30 = .ok (.aload_n 0, 1) := by decide +kernel
theorem dX0_letter_31 : decode cX0_letter 31 = .ok (.getfield 13, 3) := by decide +kernel
theorem dX0_letter_34 : decode cX0_letter 34 = .ok (.invokestatic 28, 3) := by decide +kernel
theorem dX0_letter_37 : decode cX0_letter 37 = .ok (.aload_n 0, 1) := by decide +kernel
theorem dX0_letter_38 : decode cX0_letter 38 = .ok (.getfield 16, 3) := by decide +kernel
theorem dX0_letter_41 : decode cX0_letter 41 = .ok (.aload_n 0, 1) := by decide +kernel
theorem dX0_letter_42 : decode cX0_letter 42 = .ok (.getfield 19, 3) := by decide +kernel
theorem dX0_letter_45 : decode cX0_letter 45 = .ok (.invokestatic 28, 3) := by decide +kernel
theorem dX0_letter_48 : decode cX0_letter 48 = .ok (.invokestatic 28, 3) := by decide +kernel
theorem dX0_letter_51 : decode cX0_letter 51 = .ok (.istore_n 2, 1) := by decide +kernel
theorem dX0_letter_52 : decode cX0_letter 52 = .ok (.aload_n 0, 1) := by decide +kernel
theorem dX0_letter_53 : decode cX0_letter 53 = .ok (.getfield 7, 3) := by decide +kernel
theorem dX0_letter_56 : decode cX0_letter 56 = .ok (.aload_n 0, 1) := by decide +kernel
theorem dX0_letter_57 : decode cX0_letter 57 = .ok (.getfield 13, 3) := by decide +kernel
theorem dX0_letter_60 : decode cX0_letter 60 = .ok (.iadd, 1) := by decide +kernel
theorem dX0_letter_61 : decode cX0_letter 61 = .ok (.aload_n 0, 1) := by decide +kernel
theorem dX0_letter_62 : decode cX0_letter 62 = .ok (.getfield 16, 3) := by decide +kernel
theorem dX0_letter_65 : decode cX0_letter 65 = .ok (.iadd, 1) := by decide +kernel
theorem dX0_letter_66 : decode cX0_letter 66 = .ok (.aload_n 0, 1) := by decide +kernel
theorem dX0_letter_67 : decode cX0_letter 67 = .ok (.getfield 19, 3) := by decide +kernel
theorem dX0_letter_70 : decode cX0_letter 70 = .ok (.iadd, 1) := by decide +kernel
theorem dX0_letter_71 : decode cX0_letter 71 = .ok (.istore_n 3, 1) := by decide +kernel
theorem dX0_letter_72 : decode cX0_letter 72 = .ok (.iload_n 1, 1) := by decide +kernel
theorem dX0_letter_73 : decode cX0_letter 73 = .ok (.iload_n 2, 1) := by decide +kernel
theorem dX0_letter_74 : decode cX0_letter 74 = .ok (.iadd, 1) := by decide +kernel
theorem dX0_letter_75 : decode cX0_letter 75 = .ok (.istore 4, 2) := by decide +kernel
theorem dX0_letter_77 : decode cX0_letter 77 = .ok (.iload_n 1, 1) := by decide +kernel
theorem dX0_letter_78 : decode cX0_letter 78 = .ok (.iload_n 3, 1) := by decide +kernel
theorem dX0_letter_79 : decode cX0_letter 79 = .ok (.iload_n 1, 1) := by decide +kernel
theorem dX0_letter_80 : decode cX0_letter 80 = .ok (.isub, 1) := by decide +kernel
theorem dX0_letter_81 : decode cX0_letter 81 = .ok (.if_icmp .lt 6, 3) := by decide +kernel
theorem dX0_letter_84 : decode cX0_letter 84 = .ok (.bipush 120, 2) := by decide +kernel
theorem dX0_letter_86 : decode cX0_letter 86 = .ok (.ireturn, 1) := by decide +kernel
theorem dX0_letter_87 : decode cX0_letter 87 = .ok (.iload 4, 2) := by decide +kernel
theorem dX0_letter_89 : decode cX0_letter 89 = .ok (.iload_n 3, 1) := by decide +kernel
theorem dX0_letter_90 : decode cX0_letter 90 = .ok (.iload 4, 2) := by decide +kernel
theorem dX0_letter_92 : decode cX0_letter 92 = .ok (.isub, 1) := by decide +kernel
theorem dX0_letter_93 : decode cX0_letter 93 = .ok (.if_icmp .eq 23, 3) := by decide +kernel
theorem dX0_letter_96 : decode cX0_letter 96 = .ok (.iload 4, 2) := by decide +kernel
theorem dX0_letter_98 : decode cX0_letter 98 = .ok (.iload_n 3, 1) := by decide +kernel
theorem dX0_letter_99 : decode cX0_letter 99 = .ok (.iload 4, 2) := by decide +kernel
theorem dX0_letter_101 : decode cX0_letter 101 = .ok (.isub, 1) := by decide +kernel
theorem dX0_letter_102 : decode cX0_letter 102 = .ok (.if_icmp .ge 11, 3) := by decide +kernel
theorem dX0_letter_105 : decode cX0_letter 105 = .ok (.aload_n 0, 1) := by decide +kernel
theorem dX0_letter_106 : decode cX0_letter 106 = .ok (.iload_n 2, 1) := by decide +kernel
theorem dX0_letter_107 : decode cX0_letter 107 = .ok (.invokevirtual 31, 3) := by decide +kernel
theorem dX0_letter_110 : decode cX0_letter 110 = .ok (.goto 5, 3) := by decide +kernel
theorem dX0_letter_113 : decode cX0_letter 113 = .ok (.bipush 116, 2) := by decide +kernel
theorem dX0_letter_115 : decode cX0_letter 115 = .ok (.ireturn, 1) := by decide +kernel
theorem dX0_letter_116 : decode cX0_letter 116 = .ok (.bipush 101, 2) := by decide +kernel
theorem dX0_letter_118 : decode cX0_letter 118 = .ok (.ireturn, 1) := by decide +kernel
theorem dX0_letterOf_0 : decode cX0_letterOf 0 = .ok (.aload_n 0, 1) := by decide +kernel
theorem dX0_letterOf_1 : decode cX0_letterOf 1 = .ok (.getfield 7, 3) := by decide +kernel
theorem dX0_letterOf_4 : decode cX0_letterOf 4 = .ok (.iload_n 1, 1) := by decide +kernel
theorem dX0_letterOf_5 : decode cX0_letterOf 5 = .ok (.if_icmp .ne 6, 3) := by decide +kernel
theorem dX0_letterOf_8 : decode cX0_letterOf 8 = .ok (.bipush 99, 2) := by decide +kernel
theorem dX0_letterOf_10 : decode cX0_letterOf 10 = .ok (.ireturn, 1) := by decide +kernel
theorem dX0_letterOf_11 : decode cX0_letterOf 11 = .ok (.aload_n 0, 1) := by decide +kernel
theorem dX0_letterOf_12 : decode cX0_letterOf 12 = .ok (.getfield 16, 3) := by decide +kernel
theorem dX0_letterOf_15 : decode cX0_letterOf 15 = .ok (.iload_n 1, 1) := by decide +kernel
theorem dX0_letterOf_16 : decode cX0_letterOf 16 = .ok (.if_icmp .ne 6, 3) := by decide +kernel
theorem dX0_letterOf_19 : decode cX0_letterOf 19 = .ok (.bipush 114, 2) := by decide +kernel
theorem dX0_letterOf_21 : decode cX0_letterOf 21 = .ok (.ireturn, 1) := by decide +kernel
theorem dX0_letterOf_22 : decode cX0_letterOf 22 = .ok (.aload_n 0, 1) := by decide +kernel
theorem dX0_letterOf_23 : decode cX0_letterOf 23 = .ok (.getfield 19, 3) := by decide +kernel
theorem dX0_letterOf_26 : decode cX0_letterOf 26 = .ok (.iload_n 1, 1) := by decide +kernel
theorem dX0_letterOf_27 : decode cX0_letterOf 27 = .ok (.if_icmp .ne 8, 3) := by decide +kernel
theorem dX0_letterOf_30 : decode cX0_letterOf 30 = .ok (.bipush 100, 2) := by decide +kernel
theorem dX0_letterOf_32 : decode cX0_letterOf 32 = .ok (.goto 5, 3) := by decide +kernel
theorem dX0_letterOf_35 : decode cX0_letterOf 35 = .ok (.bipush 111, 2) := by decide +kernel
theorem dX0_letterOf_37 : decode cX0_letterOf 37 = .ok (.ireturn, 1) := by decide +kernel
theorem dX0_limit_0 : decode cX0_limit 0 = .ok (.aload_n 0, 1) := by decide +kernel
theorem dX0_limit_1 : decode cX0_limit 1 = .ok (.getfield 16, 3) := by decide +kernel
theorem dX0_limit_4 : decode cX0_limit 4 = .ok (.i2l, 1) := by decide +kernel
theorem dX0_limit_5 : decode cX0_limit 5 = .ok (.aload_n 0, 1) := by decide +kernel
theorem dX0_limit_6 : decode cX0_limit 6 = .ok (.getfield 19, 3) := by decide +kernel
theorem dX0_limit_9 : decode cX0_limit 9 = .ok (.i2l, 1) := by decide +kernel
theorem dX0_limit_10 : decode cX0_limit 10 = .ok (.iload_n 1, 1) := by decide +kernel
theorem dX0_limit_11 : decode cX0_limit 11 = .ok (.ifCond .eq 16, 3) := by decide +kernel
theorem dX0_limit_14 : decode cX0_limit 14 = .ok (.aload_n 0, 1) := by decide +kernel
theorem dX0_limit_15 : decode cX0_limit 15 = .ok (.getfield 7, 3) := by decide +kernel
theorem dX0_limit_18 : decode cX0_limit 18 = .ok (.aload_n 0, 1) := by decide +kernel
theorem dX0_limit_19 : decode cX0_limit 19 = .ok (.getfield 13, 3) := by decide +kernel
theorem dX0_limit_22 : decode cX0_limit 22 = .ok (.iadd, 1) := by decide +kernel
theorem dX0_limit_23 : decode cX0_limit 23 = .ok (.i2l, 1) := by decide +kernel
theorem dX0_limit_24 : decode cX0_limit 24 = .ok (.goto 16, 3) := by decide +kernel
theorem dX0_limit_27 : decode cX0_limit 27 = .ok (.aload_n 0, 1) := by decide +kernel
theorem dX0_limit_28 : decode cX0_limit 28 = .ok (.getfield 7, 3) := by decide +kernel
theorem dX0_limit_31 : decode cX0_limit 31 = .ok (.aload_n 0, 1) := by decide +kernel
theorem dX0_limit_32 : decode cX0_limit 32 = .ok (.getfield 13, 3) := by decide +kernel
theorem dX0_limit_35 : decode cX0_limit 35 = .ok (.isub, 1) := by decide +kernel
theorem dX0_limit_36 : decode cX0_limit 36 = .ok (.invokestatic 35, 3) := by decide +kernel
theorem dX0_limit_39 : decode cX0_limit 39 = .ok (.i2l, 1) := by decide +kernel
theorem dX0_limit_40 : decode cX0_limit 40 = .ok (.invokestatic 39, 3) := by decide +kernel
theorem dX0_limit_43 : decode cX0_limit 43 = .ok (.areturn, 1) := by decide +kernel
theorem dX0_angle_0 : decode cX0_angle 0 = .ok (.aload_n 0, 1) := by decide +kernel
theorem dX0_angle_1 : decode cX0_angle 1 = .ok (.getfield 13, 3) := by decide +kernel
theorem dX0_angle_4 : decode cX0_angle 4 = .ok (.i2l, 1) := by decide +kernel
theorem dX0_angle_5 : decode cX0_angle 5 = .ok (.aload_n 0, 1) := by decide +kernel
theorem dX0_angle_6 : decode cX0_angle 6 = .ok (.getfield 16, 3) := by decide +kernel
theorem dX0_angle_9 : decode cX0_angle 9 = .ok (.i2l, 1) := by decide +kernel
theorem dX0_angle_10 : decode cX0_angle 10 = .ok (.iload_n 1, 1) := by decide +kernel
theorem dX0_angle_11 : decode cX0_angle 11 = .ok (.ifCond .eq 16, 3) := by decide +kernel
theorem dX0_angle_14 : decode cX0_angle 14 = .ok (.aload_n 0, 1) := by decide +kernel
theorem dX0_angle_15 : decode cX0_angle 15 = .ok (.getfield 7, 3) := by decide +kernel
theorem dX0_angle_18 : decode cX0_angle 18 = .ok (.aload_n 0, 1) := by decide +kernel
theorem dX0_angle_19 : decode cX0_angle 19 = .ok (.getfield 19, 3) := by decide +kernel
theorem dX0_angle_22 : decode cX0_angle 22 = .ok (.iadd, 1) := by decide +kernel
theorem dX0_angle_23 : decode cX0_angle 23 = .ok (.i2l, 1) := by decide +kernel
theorem dX0_angle_24 : decode cX0_angle 24 = .ok (.goto 16, 3) := by decide +kernel
theorem dX0_angle_27 : decode cX0_angle 27 = .ok (.aload_n 0, 1) := by decide +kernel
theorem dX0_angle_28 : decode cX0_angle 28 = .ok (.getfield 7, 3) := by decide +kernel
theorem dX0_angle_31 : decode cX0_angle 31 = .ok (.aload_n 0, 1) := by decide +kernel
theorem dX0_angle_32 : decode cX0_angle 32 = .ok (.getfield 19, 3) := by decide +kernel
theorem dX0_angle_35 : decode cX0_angle 35 = .ok (.isub, 1) := by decide +kernel
theorem dX0_angle_36 : decode cX0_angle 36 = .ok (.invokestatic 35, 3) := by decide +kernel
theorem dX0_angle_39 : decode cX0_angle 39 = .ok (.i2l, 1) := by decide +kernel
theorem dX0_angle_40 : decode cX0_angle 40 = .ok (.invokestatic 39, 3) := by decide +kernel
theorem dX0_angle_43 : decode cX0_angle 43 = .ok (.areturn, 1) := by decide +kernel
theorem dX0_cosine_0 : decode cX0_cosine 0 = .ok (.lload 4, 2) := by decide +kernel
theorem dX0_cosine_2 : decode cX0_cosine 2 = .ok (.lconst 0, 1) := by decide +kernel
theorem dX0_cosine_3 : decode cX0_cosine 3 = .ok (.lcmp, 1) := by decide +kernel
theorem dX0_cosine_4 : decode cX0_cosine 4 = .ok (.ifCond .le 24, 3) := by decide +kernel
theorem dX0_cosine_7 : decode cX0_cosine 7 = .ok (.lload 4, 2) := by decide +kernel
theorem dX0_cosine_9 : decode cX0_cosine 9 = .ok (.lload_n 0, 1) := by decide +kernel
theorem dX0_cosine_10 : decode cX0_cosine 10 = .ok (.lload_n 2, 1) := by decide +kernel
theorem dX0_cosine_11 : decode cX0_cosine 11 = .ok (.ladd, 1) := by decide +kernel
theorem dX0_cosine_12 : decode cX0_cosine 12 = .ok (.lcmp, 1) := by decide +kernel
theorem dX0_cosine_13 : decode cX0_cosine 13 = .ok (.ifCond .ge 15, 3) := by decide +kernel
theorem dX0_cosine_16 : decode cX0_cosine 16 = .ok (.lload 4, 2) := by decide +kernel
theorem dX0_cosine_18 : decode cX0_cosine 18 = .ok (.lload_n 0, 1) := by decide +kernel
theorem dX0_cosine_19 : decode cX0_cosine 19 = .ok (.lload_n 2, 1) := by decide +kernel
theorem dX0_cosine_20 : decode cX0_cosine 20 = .ok (.lsub, 1) := by decide +kernel
theorem dX0_cosine_21 : decode cX0_cosine 21 = .ok (.invokestatic 43, 3) := by decide +kernel
theorem dX0_cosine_24 : decode cX0_cosine 24 = .ok (.lcmp, 1) := by decide +kernel
theorem dX0_cosine_25 : decode cX0_cosine 25 = .ok (.ifCond .gt 5, 3) := by decide +kernel
theorem dX0_cosine_28 : decode cX0_cosine 28 = .ok (.aconst_null, 1) := by decide +kernel
theorem dX0_cosine_29 : decode cX0_cosine 29 = .ok (.areturn, 1) := by decide +kernel
theorem dX0_cosine_30 : decode cX0_cosine 30 = .ok (.new 46, 3) := by decide +kernel
theorem dX0_cosine_33 : decode cX0_cosine 33 = .ok (.dup, 1) := by decide +kernel
theorem dX0_cosine_34 : decode cX0_cosine 34 = .ok (.lload_n 0, 1) := by decide +kernel
theorem dX0_cosine_35 : decode cX0_cosine 35 = .ok (.lload_n 0, 1) := by decide +kernel
theorem dX0_cosine_36 : decode cX0_cosine 36 = .ok (.lmul, 1) := by decide +kernel
theorem dX0_cosine_37 : decode cX0_cosine 37 = .ok (.lload_n 2, 1) := by decide +kernel
theorem dX0_cosine_38 : decode cX0_cosine 38 = .ok (.lload_n 2, 1) := by decide +kernel
theorem dX0_cosine_39 : decode cX0_cosine 39 = .ok (.lmul, 1) := by decide +kernel
theorem dX0_cosine_40 : decode cX0_cosine 40 = .ok (.ladd, 1) := by decide +kernel
theorem dX0_cosine_41 : decode cX0_cosine 41 = .ok (.lload 4, 2) := by decide +kernel
theorem dX0_cosine_43 : decode cX0_cosine 43 = .ok (.lload 4, 2) := by decide +kernel
theorem dX0_cosine_45 : decode cX0_cosine 45 = .ok (.lmul, 1) := by decide +kernel
theorem dX0_cosine_46 : decode cX0_cosine 46 = .ok (.lsub, 1) := by decide +kernel
theorem dX0_cosine_47 : decode cX0_cosine 47 = .ok (.ldc2_w 48, 3) := by decide +kernel
theorem dX0_cosine_50 : decode cX0_cosine 50 = .ok (.lload_n 0, 1) := by decide +kernel
theorem dX0_cosine_51 : decode cX0_cosine 51 = .ok (.lmul, 1) := by decide +kernel
theorem dX0_cosine_52 : decode cX0_cosine 52 = .ok (.lload_n 2, 1) := by decide +kernel
theorem dX0_cosine_53 : decode cX0_cosine 53 = .ok (.lmul, 1) := by decide +kernel
theorem dX0_cosine_54 : decode cX0_cosine 54 = .ok (.invokespecial 50, 3) := by decide +kernel
theorem dX0_cosine_57 : decode cX0_cosine 57 = .ok (.areturn, 1) := by decide +kernel
theorem dX1_init_0 : decode cX1_init 0 = .ok (.aload_n 0, 1) := by decide +kernel
theorem dX1_init_1 : decode cX1_init 1 = .ok (.invokespecial 3, 3) := by decide +kernel
theorem dX1_init_4 : decode cX1_init 4 = .ok (.aload_n 0, 1) := by decide +kernel
theorem dX1_init_5 : decode cX1_init 5 = .ok (.bipush 24, 2) := by decide +kernel
theorem dX1_init_7 : decode cX1_init 7 = .ok (.newarray .int, 2) := by decide +kernel
theorem dX1_init_9 : decode cX1_init 9 = .ok (.putfield 9, 3) := by decide +kernel
theorem dX1_init_12 : decode cX1_init 12 = .ok (.aload_n 0, 1) := by decide +kernel
theorem dX1_init_13 : decode cX1_init 13 = .ok (.bipush 24, 2) := by decide +kernel
theorem dX1_init_15 : decode cX1_init 15 = .ok (.newarray .int, 2) := by decide +kernel
theorem dX1_init_17 : decode cX1_init 17 = .ok (.putfield 15, 3) := by decide +kernel
theorem dX1_init_20 : decode cX1_init 20 = .ok (.aload_n 0, 1) := by decide +kernel
theorem dX1_init_21 : decode cX1_init 21 = .ok (.bipush 24, 2) := by decide +kernel
theorem dX1_init_23 : decode cX1_init 23 = .ok (.newarray .char, 2) := by decide +kernel
theorem dX1_init_25 : decode cX1_init 25 = .ok (.putfield 18, 3) := by decide +kernel
theorem dX1_init_28 : decode cX1_init 28 = .ok (.aload_n 0, 1) := by decide +kernel
theorem dX1_init_29 : decode cX1_init 29 = .ok (.bipush 24, 2) := by decide +kernel
theorem dX1_init_31 : decode cX1_init 31 = .ok (.newarray .int, 2) := by decide +kernel
theorem dX1_init_33 : decode cX1_init 33 = .ok (.putfield 22, 3) := by decide +kernel
theorem dX1_init_36 : decode cX1_init 36 = .ok (.aload_n 0, 1) := by decide +kernel
theorem dX1_init_37 : decode cX1_init 37 = .ok (.iload_n 1, 1) := by decide +kernel
theorem dX1_init_38 : decode cX1_init 38 = .ok (.putfield 25, 3) := by decide +kernel
theorem dX1_init_41 : decode cX1_init 41 = .ok (.aload_n 0, 1) := by decide +kernel
theorem dX1_init_42 : decode cX1_init 42 = .ok (.getfield 22, 3) := by decide +kernel
theorem dX1_init_45 : decode cX1_init 45 = .ok (.iconst (-1), 1) := by decide +kernel
theorem dX1_init_46 : decode cX1_init 46 = .ok (.invokestatic 29, 3) := by decide +kernel
theorem dX1_init_49 : decode cX1_init 49 = .ok (.return_, 1) := by decide +kernel
theorem dX1_isWhole_0 : decode cX1_isWhole 0 = .ok (.aload_n 0, 1) := by decide +kernel
theorem dX1_isWhole_1 : decode cX1_isWhole 1 = .ok (.getfield 35, 3) := by decide +kernel
theorem dX1_isWhole_4 : decode cX1_isWhole 4 = .ok (.bipush 24, 2) := by decide +kernel
theorem dX1_isWhole_6 : decode cX1_isWhole 6 = .ok (.if_icmp .ne 7, 3) := by decide +kernel
theorem dX1_isWhole_9 : decode cX1_isWhole 9 = .ok (.iconst 1, 1) := by decide +kernel
theorem dX1_isWhole_10 : decode cX1_isWhole 10 = .ok (.goto 4, 3) := by decide +kernel
theorem dX1_isWhole_13 : decode cX1_isWhole 13 = .ok (.iconst 0, 1) := by decide +kernel
theorem dX1_isWhole_14 : decode cX1_isWhole 14 = .ok (.ireturn, 1) := by decide +kernel
theorem dX1_empty_0 : decode cX1_empty 0 = .ok (.aload_n 0, 1) := by decide +kernel
theorem dX1_empty_1 : decode cX1_empty 1 = .ok (.iconst 0, 1) := by decide +kernel
theorem dX1_empty_2 : decode cX1_empty 2 = .ok (.putfield 38, 3) := by decide +kernel
theorem dX1_empty_5 : decode cX1_empty 5 = .ok (.aload_n 0, 1) := by decide +kernel
theorem dX1_empty_6 : decode cX1_empty 6 = .ok (.iconst 0, 1) := by decide +kernel
theorem dX1_empty_7 : decode cX1_empty 7 = .ok (.putfield 35, 3) := by decide +kernel
theorem dX1_empty_10 : decode cX1_empty 10 = .ok (.return_, 1) := by decide +kernel
theorem dX1_append_0 : decode cX1_append 0 = .ok (.aload_n 0, 1) := by decide +kernel
theorem dX1_append_1 : decode cX1_append 1 = .ok (.getfield 38, 3) := by decide +kernel
theorem dX1_append_4 : decode cX1_append 4 = .ok (.bipush 24, 2) := by decide +kernel
theorem dX1_append_6 : decode cX1_append 6 = .ok (.if_icmp .ge 53, 3) := by decide +kernel
theorem dX1_append_9 : decode cX1_append 9 = .ok (.aload_n 0, 1) := by decide +kernel
theorem dX1_append_10 : decode cX1_append 10 = .ok (.getfield 9, 3) := by decide +kernel
theorem dX1_append_13 : decode cX1_append 13 = .ok (.aload_n 0, 1) := by decide +kernel
theorem dX1_append_14 : decode cX1_append 14 = .ok (.getfield 38, 3) := by decide +kernel
theorem dX1_append_17 : decode cX1_append 17 = .ok (.iload_n 1, 1) := by decide +kernel
theorem dX1_append_18 : decode cX1_append 18 = .ok (.iastore, 1) := by decide +kernel
theorem dX1_append_19 : decode cX1_append 19 = .ok (.aload_n 0, 1) := by decide +kernel
theorem dX1_append_20 : decode cX1_append 20 = .ok (.getfield 15, 3) := by decide +kernel
theorem dX1_append_23 : decode cX1_append 23 = .ok (.aload_n 0, 1) := by decide +kernel
theorem dX1_append_24 : decode cX1_append 24 = .ok (.getfield 38, 3) := by decide +kernel
theorem dX1_append_27 : decode cX1_append 27 = .ok (.iload_n 2, 1) := by decide +kernel
theorem dX1_append_28 : decode cX1_append 28 = .ok (.iastore, 1) := by decide +kernel
theorem dX1_append_29 : decode cX1_append 29 = .ok (.aload_n 0, 1) := by decide +kernel
theorem dX1_append_30 : decode cX1_append 30 = .ok (.getfield 18, 3) := by decide +kernel
theorem dX1_append_33 : decode cX1_append 33 = .ok (.aload_n 0, 1) := by decide +kernel
theorem dX1_append_34 : decode cX1_append 34 = .ok (.getfield 38, 3) := by decide +kernel
theorem dX1_append_37 : decode cX1_append 37 = .ok (.iload_n 3, 1) := by decide +kernel
theorem dX1_append_38 : decode cX1_append 38 = .ok (.castore, 1) := by decide +kernel
theorem dX1_append_39 : decode cX1_append 39 = .ok (.aload_n 0, 1) := by decide +kernel
theorem dX1_append_40 : decode cX1_append 40 = .ok (.dup, 1) := by decide +kernel
theorem dX1_append_41 : decode cX1_append 41 = .ok (.getfield 38, 3) := by decide +kernel
theorem dX1_append_44 : decode cX1_append 44 = .ok (.iconst 1, 1) := by decide +kernel
theorem dX1_append_45 : decode cX1_append 45 = .ok (.iadd, 1) := by decide +kernel
theorem dX1_append_46 : decode cX1_append 46 = .ok (.putfield 38, 3) := by decide +kernel
theorem dX1_append_49 : decode cX1_append 49 = .ok (.aload_n 0, 1) := by decide +kernel
theorem dX1_append_50 : decode cX1_append 50 = .ok (.dup, 1) := by decide +kernel
theorem dX1_append_51 : decode cX1_append 51 = .ok (.getfield 35, 3) := by decide +kernel
theorem dX1_append_54 : decode cX1_append 54 = .ok (.iload_n 1, 1) := by decide +kernel
theorem dX1_append_55 : decode cX1_append 55 = .ok (.iadd, 1) := by decide +kernel
theorem dX1_append_56 : decode cX1_append 56 = .ok (.putfield 35, 3) := by decide +kernel
theorem dX1_append_59 : decode cX1_append 59 = .ok (.return_, 1) := by decide +kernel
theorem dX1_startOf_0 : decode cX1_startOf 0 = .ok (.iload_n 1, 1) := by decide +kernel
theorem dX1_startOf_1 : decode cX1_startOf 1 = .ok (.ifCond .ne 12, 3) := by decide +kernel
theorem dX1_startOf_4 : decode cX1_startOf 4 = .ok (.aload_n 0, 1) := by decide +kernel
theorem dX1_startOf_5 : decode cX1_startOf 5 = .ok (.getfield 38, 3) := by decide +kernel
theorem dX1_startOf_8 : decode cX1_startOf 8 = .ok (.iconst 1, 1) := by decide +kernel
theorem dX1_startOf_9 : decode cX1_startOf 9 = .ok (.isub, 1) := by decide +kernel
theorem dX1_startOf_10 : decode cX1_startOf 10 = .ok (.goto 6, 3) := by decide +kernel
theorem dX1_startOf_13 : decode cX1_startOf 13 = .ok (.iload_n 1, 1) := by decide +kernel
theorem dX1_startOf_14 : decode cX1_startOf 14 = .ok (.iconst 1, 1) := by decide +kernel
theorem dX1_startOf_15 : decode cX1_startOf 15 = .ok (.isub, 1) := by decide +kernel
theorem dX1_startOf_16 : decode cX1_startOf 16 = .ok (.istore_n 2, 1) := by decide +kernel
theorem dX1_startOf_17 : decode cX1_startOf 17 = .ok (.iload_n 2, 1) := by decide +kernel
theorem dX1_startOf_18 : decode cX1_startOf 18 = .ok (.ifCond .lt 18, 3) := by decide +kernel
theorem dX1_startOf_21 : decode cX1_startOf 21 = .ok (.iload_n 2, 1) := by decide +kernel
theorem dX1_startOf_22 : decode cX1_startOf 22 = .ok (.bipush 24, 2) := by decide +kernel
theorem dX1_startOf_24 : decode cX1_startOf 24 = .ok (.if_icmp .ge 12, 3) := by decide +kernel
theorem dX1_startOf_27 : decode cX1_startOf 27 = .ok (.aload_n 0, 1) := by decide +kernel
theorem dX1_startOf_28 : decode cX1_startOf 28 = .ok (.getfield 15, 3) := by decide +kernel
theorem dX1_startOf_31 : decode cX1_startOf 31 = .ok (.iload_n 2, 1) := by decide +kernel
theorem dX1_startOf_32 : decode cX1_startOf 32 = .ok (.iaload, 1) := by decide +kernel
theorem dX1_startOf_33 : decode cX1_startOf 33 = .ok (.goto 4, 3) := by decide +kernel
theorem dX1_startOf_36 : decode cX1_startOf 36 = .ok (.iconst 0, 1) := by decide +kernel
theorem dX1_startOf_37 : decode cX1_startOf 37 = .ok (.ireturn, 1) := by decide +kernel
theorem dX1_heightAt_0 : decode cX1_heightAt 0 = .ok (.iload_n 1, 1) := by decide +kernel
theorem dX1_heightAt_1 : decode cX1_heightAt 1 = .ok (.istore_n 2, 1) := by decide +kernel
theorem dX1_heightAt_2 : decode cX1_heightAt 2 = .ok (.iconst 0, 1) := by decide +kernel
theorem dX1_heightAt_3 : decode cX1_heightAt 3 = .ok (.istore_n 3, 1) := by decide +kernel
theorem dX1_heightAt_4 : decode cX1_heightAt 4 = .ok (.iload_n 3, 1) := by decide +kernel
theorem dX1_heightAt_5 : decode cX1_heightAt 5 = .ok (.aload_n 0, 1) := by decide +kernel
theorem dX1_heightAt_6 : decode cX1_heightAt 6 = .ok (.getfield 38, 3) := by decide +kernel
theorem dX1_heightAt_9 : decode cX1_heightAt 9 = .ok (.if_icmp .ge 45, 3) := by decide +kernel
theorem dX1_heightAt_12 : decode cX1_heightAt 12 = .ok (.iload_n 2, 1) := by decide +kernel
theorem dX1_heightAt_13 : decode cX1_heightAt 13 = .ok (.aload_n 0, 1) := by decide +kernel
theorem dX1_heightAt_14 : decode cX1_heightAt 14 = .ok (.getfield 9, 3) := by decide +kernel
theorem dX1_heightAt_17 : decode cX1_heightAt 17 = .ok (.iload_n 3, 1) := by decide +kernel
theorem dX1_heightAt_18 : decode cX1_heightAt 18 = .ok (.iaload, 1) := by decide +kernel
theorem dX1_heightAt_19 : decode cX1_heightAt 19 = .ok (.if_icmp .lt 13, 3) := by decide +kernel
theorem dX1_heightAt_22 : decode cX1_heightAt 22 = .ok (.iload_n 3, 1) := by decide +kernel
theorem dX1_heightAt_23 : decode cX1_heightAt 23 = .ok (.aload_n 0, 1) := by decide +kernel
theorem dX1_heightAt_24 : decode cX1_heightAt 24 = .ok (.getfield 38, 3) := by decide +kernel
theorem dX1_heightAt_27 : decode cX1_heightAt 27 = .ok (.iconst 1, 1) := by decide +kernel
theorem dX1_heightAt_28 : decode cX1_heightAt 28 = .ok (.isub, 1) := by decide +kernel
theorem dX1_heightAt_29 : decode cX1_heightAt 29 = .ok (.if_icmp .ne 10, 3) := by decide +kernel
theorem dX1_heightAt_32 : decode cX1_heightAt 32 = .ok (.aload_n 0, 1) := by decide +kernel
theorem dX1_heightAt_33 : decode cX1_heightAt 33 = .ok (.iload_n 3, 1) := by decide +kernel
theorem dX1_heightAt_34 : decode cX1_heightAt 34 = .ok (.iload_n 2, 1) := by decide +kernel
theorem dX1_heightAt_35 : decode cX1_heightAt 35 = .ok (.invokevirtual 41, 3) := by decide +kernel
theorem dX1_heightAt_38 : decode cX1_heightAt 38 = .ok (.areturn, 1) := by decide +kernel
theorem dX1_heightAt_39 : decode cX1_heightAt 39 = .ok (.iload_n 2, 1) := by decide +kernel
theorem dX1_heightAt_40 : decode cX1_heightAt 40 = .ok (.aload_n 0, 1) := by decide +kernel
theorem dX1_heightAt_41 : decode cX1_heightAt 41 = .ok (.getfield 9, 3) := by decide +kernel
theorem dX1_heightAt_44 : decode cX1_heightAt 44 = .ok (.iload_n 3, 1) := by decide +kernel
theorem dX1_heightAt_45 : decode cX1_heightAt 45 = .ok (.iaload, 1) := by decide +kernel
theorem dX1_heightAt_46 : decode cX1_heightAt 46 = .ok (.isub, 1) := by decide +kernel
theorem dX1_heightAt_47 : decode cX1_heightAt 47 = .ok (.istore_n 2, 1) := by decide +kernel
theorem dX1_heightAt_48 : decode cX1_heightAt 48 = .ok (.iinc 3 1, 3) := by decide +kernel
theorem dX1_heightAt_51 : decode cX1_heightAt 51 = .ok (.goto (-47), 3) := by decide +kernel
theorem dX1_heightAt_54 : decode cX1_heightAt 54 = .ok (.new 45, 3) := by decide +kernel
theorem dX1_heightAt_57 : decode cX1_heightAt 57 = .ok (.dup, 1) := by decide +kernel
theorem dX1_heightAt_58 : decode cX1_heightAt 58 = .ok (.lconst 0, 1) := by decide +kernel
theorem dX1_heightAt_59 : decode cX1_heightAt 59 = .ok (.lconst 1, 1) := by decide +kernel
theorem dX1_heightAt_60 : decode cX1_heightAt 60 = .ok (.invokespecial 47, 3) := by decide +kernel
theorem dX1_heightAt_63 : decode cX1_heightAt 63 = .ok (.areturn, 1) := by decide +kernel
theorem dX1_heightWithin_0 : decode cX1_heightWithin 0 = .ok (.aload_n 0, 1) := by decide +kernel
theorem dX1_heightWithin_1 : decode cX1_heightWithin 1 = .ok (.iload_n 1, 1) := by decide +kernel
theorem dX1_heightWithin_2 : decode cX1_heightWithin 2 = .ok (.invokevirtual 50, 3) := by decide +kernel
theorem dX1_heightWithin_5 : decode cX1_heightWithin 5 = .ok (.i2l, 1) := by decide +kernel
theorem dX1_heightWithin_6 : decode cX1_heightWithin 6 = .ok (.lstore_n 3, 1) := by decide +kernel
theorem dX1_heightWithin_7 : decode cX1_heightWithin 7 = .ok (.aload_n 0, 1) := by decide +kernel
theorem dX1_heightWithin_8 : decode cX1_heightWithin 8 = .ok (.getfield 15, 3) := by decide +kernel
theorem dX1_heightWithin_11 : decode cX1_heightWithin 11 = .ok (.iload_n 1, 1) := by decide +kernel
theorem dX1_heightWithin_12 : decode cX1_heightWithin 12 = .ok (.iaload, 1) := by decide +kernel
theorem dX1_heightWithin_13 : decode cX1_heightWithin 13 = .ok (.i2l, 1) := by decide +kernel
theorem dX1_heightWithin_14 : decode cX1_heightWithin 14 = .ok (.lload_n 3, 1) := by decide +kernel
theorem dX1_heightWithin_15 : decode cX1_heightWithin 15 = .ok (.lsub, 1) := by decide +kernel
theorem dX1_heightWithin_16 : decode cX1_heightWithin 16 = .ok (.lstore 5, 2) := by decide +kernel
theorem dX1_heightWithin_18 : decode cX1_heightWithin 18 = .ok (.aload_n 0, 1) := by decide +kernel
theorem dX1_heightWithin_19 : decode cX1_heightWithin 19 = .ok (.getfield 9, 3) := by decide +kernel
theorem dX1_heightWithin_22 : decode cX1_heightWithin 22 = .ok (.iload_n 1, 1) := by decide +kernel
theorem dX1_heightWithin_23 : decode cX1_heightWithin 23 = .ok (.iaload, 1) := by decide +kernel
theorem dX1_heightWithin_24 : decode cX1_heightWithin 24 = .ok (.i2l, 1) := by decide +kernel
theorem dX1_heightWithin_25 : decode cX1_heightWithin 25 = .ok (.lstore 7, 2) := by decide +kernel
theorem dX1_heightWithin_27 : decode cX1_heightWithin 27 = .ok (.aload_n 0, 1) := by decide +kernel
theorem dX1_heightWithin_28 : decode cX1_heightWithin 28 = .ok (.getfield 18, 3) := by decide +kernel
theorem dX1_heightWithin_31 : decode cX1_heightWithin 31 = .ok (.iload_n 1, 1) := by decide +kernel
theorem dX1_heightWithin_32 : decode cX1_heightWithin 32 = .ok (.caload, 1) := by decide +kernel
theorem dX1_heightWithin_33 : decode cX1_heightWithin 33 = .ok (.bipush 117, 2) := by decide +kernel
theorem dX1_heightWithin_35 : decode cX1_heightWithin 35 = .ok (.if_icmp .ne 23, 3) := by decide +kernel
theorem dX1_heightWithin_38 : decode cX1_heightWithin 38 = .ok (.new 45, 3) := by decide +kernel
theorem dX1_heightWithin_41 : decode cX1_heightWithin 41 = .ok (.dup, 1) := by decide +kernel
theorem dX1_heightWithin_42 : decode cX1_heightWithin 42 = .ok (.lload_n 3, 1) := by decide +kernel
theorem dX1_heightWithin_43 : decode cX1_heightWithin 43 = .ok (.lload 7, 2) := by decide +kernel
theorem dX1_heightWithin_45 : decode cX1_heightWithin 45 = .ok (.lmul, 1) := by decide +kernel
theorem dX1_heightWithin_46 : decode cX1_heightWithin 46 = .ok (.lload 5, 2) := by decide +kernel
theorem dX1_heightWithin_48 : decode cX1_heightWithin 48 = .ok (.iload_n 2, 1) := by decide +kernel
theorem dX1_heightWithin_49 : decode cX1_heightWithin 49 = .ok (.i2l, 1) := by decide +kernel
theorem dX1_heightWithin_50 : decode cX1_heightWithin 50 = .ok (.lmul, 1) := by decide +kernel
theorem dX1_heightWithin_51 : decode cX1_heightWithin 51 = .ok (.ladd, 1) := by decide +kernel
theorem dX1_heightWithin_52 : decode cX1_heightWithin 52 = .ok (.lload 7, 2) := by decide +kernel
theorem dX1_heightWithin_54 : decode cX1_heightWithin 54 = .ok (.invokespecial 47, 3) := by decide +kernel
theorem dX1_heightWithin_57 : decode cX1_heightWithin 57 = .ok (.areturn, 1) := by decide +kernel
theorem dX1_heightWithin_58 : decode cX1_heightWithin 58 = .ok (.lload 7, 2) := by decide +kernel
theorem dX1_heightWithin_60 : decode cX1_heightWithin 60 = .ok (.lload 7, 2) := by decide +kernel
theorem dX1_heightWithin_62 : decode cX1_heightWithin 62 = .ok (.lmul, 1) := by decide +kernel
theorem dX1_heightWithin_63 : decode cX1_heightWithin 63 = .ok (.lstore 9, 2) := by decide +kernel
theorem dX1_heightWithin_65 : decode cX1_heightWithin 65 = .ok (.lload 7, 2) := by decide +kernel
theorem dX1_heightWithin_67 : decode cX1_heightWithin 67 = .ok (.iload_n 2, 1) := by decide +kernel
theorem dX1_heightWithin_68 : decode cX1_heightWithin 68 = .ok (.i2l, 1) := by decide +kernel
theorem dX1_heightWithin_69 : decode cX1_heightWithin 69 = .ok (.lsub, 1) := by decide +kernel
theorem dX1_heightWithin_70 : decode cX1_heightWithin 70 = .ok (.lstore 11, 2) := by decide +kernel
theorem dX1_heightWithin_72 : decode cX1_heightWithin 72 = .ok (.iconst 2, 1) := by decide +kernel
theorem dX1_heightWithin_73 : decode cX1_heightWithin 73 = .ok (.iload_n 2, 1) := by decide +kernel
theorem dX1_heightWithin_74 : decode cX1_heightWithin 74 = .ok (.imul, 1) := by decide +kernel
theorem dX1_heightWithin_75 : decode cX1_heightWithin 75 = .ok (.i2l, 1) := by decide +kernel
theorem dX1_heightWithin_76 : decode cX1_heightWithin 76 = .ok (.lload 7, 2) := by decide +kernel
theorem dX1_heightWithin_78 : decode cX1_heightWithin 78 = .ok (.lcmp, 1) := by decide +kernel
theorem dX1_heightWithin_79 : decode cX1_heightWithin 79 = .ok (.ifCond .gt 15, 3) := by decide +kernel
theorem dX1_heightWithin_82 : decode cX1_heightWithin 82 = .ok (.ldc2_w 54, 3) := by decide +kernel
theorem dX1_heightWithin_85 : decode cX1_heightWithin 85 = .ok (.iload_n 2, 1) := by decide +kernel
theorem dX1_heightWithin_86 : decode cX1_heightWithin 86 = .ok (.i2l, 1) := by decide +kernel
theorem dX1_heightWithin_87 : decode cX1_heightWithin 87 = .ok (.lmul, 1) := by decide +kernel
theorem dX1_heightWithin_88 : decode cX1_heightWithin 88 = .ok (.iload_n 2, 1) := by decide +kernel
theorem dX1_heightWithin_89 : decode cX1_heightWithin 89 = .ok (.i2l, 1) := by decide +kernel
theorem dX1_heightWithin_90 : decode cX1_heightWithin 90 = .ok (.lmul, 1) := by decide +kernel
theorem dX1_heightWithin_91 : decode cX1_heightWithin 91 = .ok (.goto 15, 3) := by decide +kernel
theorem dX1_heightWithin_94 : decode cX1_heightWithin 94 = .ok (.lload 9, 2) := by decide +kernel
theorem dX1_heightWithin_96 : decode cX1_heightWithin 96 = .ok (.ldc2_w 54, 3) := by decide +kernel
theorem dX1_heightWithin_99 : decode cX1_heightWithin 99 = .ok (.lload 11, 2) := by decide +kernel
theorem dX1_heightWithin_101 : decode cX1_heightWithin 101 = .ok (.lmul, 1) := by decide +kernel
theorem dX1_heightWithin_102 : decode cX1_heightWithin 102 = .ok (.lload 11, 2) := by decide +kernel
theorem dX1_heightWithin_104 : decode cX1_heightWithin 104 = .ok (.lmul, 1) := by decide +kernel
theorem dX1_heightWithin_105 : decode cX1_heightWithin 105 = .ok (.lsub, 1) := by decide +kernel
theorem dX1_heightWithin_106 : decode cX1_heightWithin 106 = .ok (.lstore 13, 2) := by decide +kernel
theorem dX1_heightWithin_108 : decode cX1_heightWithin 108 = .ok (.new 45, 3) := by decide +kernel
theorem dX1_heightWithin_111 : decode cX1_heightWithin 111 = .ok (.dup, 1) := by decide +kernel
theorem dX1_heightWithin_112 : decode cX1_heightWithin 112 = .ok (.lload_n 3, 1) := by decide +kernel
theorem dX1_heightWithin_113 : decode cX1_heightWithin 113 = .ok (.lload 9, 2) := by decide +kernel
theorem dX1_heightWithin_115 : decode cX1_heightWithin 115 = .ok (.lmul, 1) := by decide +kernel
theorem dX1_heightWithin_116 : decode cX1_heightWithin 116 = .ok (.lload 5, 2) := by decide +kernel
theorem dX1_heightWithin_118 : decode cX1_heightWithin 118 = .ok (.lload 13, 2) := by decide +kernel
theorem dX1_heightWithin_120 : decode cX1_heightWithin 120 = .ok (.lmul, 1) := by decide +kernel
theorem dX1_heightWithin_121 : decode cX1_heightWithin 121 = .ok (.ladd, 1) := by decide +kernel
theorem dX1_heightWithin_122 : decode cX1_heightWithin 122 = .ok (.lload 9, 2) := by decide +kernel
theorem dX1_heightWithin_124 : decode cX1_heightWithin 124 = .ok (.invokespecial 47, 3) := by decide +kernel
theorem dX1_heightWithin_127 : decode cX1_heightWithin 127 = .ok (.areturn, 1) := by decide +kernel
theorem dX1_steepest_0 : decode cX1_steepest 0 = .ok (.lconst 0, 1) := by decide +kernel
theorem dX1_steepest_1 : decode cX1_steepest 1 = .ok (.lstore_n 1, 1) := by decide +kernel
theorem dX1_steepest_2 : decode cX1_steepest 2 = .ok (.lconst 1, 1) := by decide +kernel
theorem dX1_steepest_3 : decode cX1_steepest 3 = .ok (.lstore_n 3, 1) := by decide +kernel
theorem dX1_steepest_4 : decode cX1_steepest 4 = .ok (.iconst 0, 1) := by decide +kernel
theorem dX1_steepest_5 : decode cX1_steepest 5 = .ok (.istore 5, 2) := by decide +kernel
theorem dX1_steepest_7 : decode cX1_steepest 7 = .ok (.iload 5, 2) := by decide +kernel
theorem dX1_steepest_9 : decode cX1_steepest 9 = .ok (.aload_n 0, 1) := by decide +kernel
theorem dX1_steepest_10 : decode cX1_steepest 10 = .ok (.getfield 38, 3) := by decide +kernel
theorem dX1_steepest_13 : decode cX1_steepest 13 = .ok (.if_icmp .ge 65, 3) := by decide +kernel
theorem dX1_steepest_16 : decode cX1_steepest 16 = .ok (.aload_n 0, 1) := by decide +kernel
theorem dX1_steepest_17 : decode cX1_steepest 17 = .ok (.iload 5, 2) := by decide +kernel
theorem dX1_steepest_19 : decode cX1_steepest 19 = .ok (.invokevirtual 50, 3) := by decide +kernel
theorem dX1_steepest_22 : decode cX1_steepest 22 = .ok (.aload_n 0, 1) := by decide +kernel
theorem dX1_steepest_23 : decode cX1_steepest 23 = .ok (.getfield 15, 3) := by decide +kernel
theorem dX1_steepest_26 : decode cX1_steepest 26 = .ok (.iload 5, 2) := by decide +kernel
theorem dX1_steepest_28 : decode cX1_steepest 28 = .ok (.iaload, 1) := by decide +kernel
theorem dX1_steepest_29 : decode cX1_steepest 29 = .ok (.aload_n 0, 1) := by decide +kernel
theorem dX1_steepest_30 : decode cX1_steepest 30 = .ok (.getfield 18, 3) := by decide +kernel
theorem dX1_steepest_33 : decode cX1_steepest 33 = .ok (.iload 5, 2) := by decide +kernel
theorem dX1_steepest_35 : decode cX1_steepest 35 = .ok (.caload, 1) := by decide +kernel
theorem dX1_steepest_36 : decode cX1_steepest 36 = .ok (.invokestatic 56, 3) := by decide +kernel
theorem dX1_steepest_39 : decode cX1_steepest 39 = .ok (.i2l, 1) := by decide +kernel
theorem dX1_steepest_40 : decode cX1_steepest 40 = .ok (.lstore 6, 2) := by decide +kernel
theorem dX1_steepest_42 : decode cX1_steepest 42 = .ok (.lload 6, 2) := by decide +kernel
theorem dX1_steepest_44 : decode cX1_steepest 44 = .ok (.lload_n 3, 1) := by decide +kernel
theorem dX1_steepest_45 : decode cX1_steepest 45 = .ok (.lmul, 1) := by decide +kernel
theorem dX1_steepest_46 : decode cX1_steepest 46 = .ok (.lload_n 1, 1) := by decide +kernel
theorem dX1_steepest_47 : decode cX1_steepest 47 = .ok (.aload_n 0, 1) := by decide +kernel
theorem dX1_steepest_48 : decode cX1_steepest 48 = .ok (.getfield 9, 3) := by decide +kernel
theorem dX1_steepest_51 : decode cX1_steepest 51 = .ok (.iload 5, 2) := by decide +kernel
theorem dX1_steepest_53 : decode cX1_steepest 53 = .ok (.iaload, 1) := by decide +kernel
theorem dX1_steepest_54 : decode cX1_steepest 54 = .ok (.i2l, 1) := by decide +kernel
theorem dX1_steepest_55 : decode cX1_steepest 55 = .ok (.lmul, 1) := by decide +kernel
theorem dX1_steepest_56 : decode cX1_steepest 56 = .ok (.lcmp, 1) := by decide +kernel
theorem dX1_steepest_57 : decode cX1_steepest 57 = .ok (.ifCond .le 15, 3) := by decide +kernel
theorem dX1_steepest_60 : decode cX1_steepest 60 = .ok (.lload 6, 2) := by decide +kernel
theorem dX1_steepest_62 : decode cX1_steepest 62 = .ok (.lstore_n 1, 1) := by decide +kernel
theorem dX1_steepest_63 : decode cX1_steepest 63 = .ok (.aload_n 0, 1) := by decide +kernel
theorem dX1_steepest_64 : decode cX1_steepest 64 = .ok (.getfield 9, 3) := by decide +kernel
theorem dX1_steepest_67 : decode cX1_steepest 67 = .ok (.iload 5, 2) := by decide +kernel
theorem dX1_steepest_69 : decode cX1_steepest 69 = .ok (.iaload, 1) := by decide +kernel
theorem dX1_steepest_70 : decode cX1_steepest 70 = .ok (.i2l, 1) := by decide +kernel
theorem dX1_steepest_71 : decode cX1_steepest 71 = .ok (.lstore_n 3, 1) := by decide +kernel
theorem dX1_steepest_72 : decode cX1_steepest 72 = .ok (.iinc 5 1, 3) := by decide +kernel
theorem dX1_steepest_75 : decode cX1_steepest 75 = .ok (.goto (-68), 3) := by decide +kernel
theorem dX1_steepest_78 : decode cX1_steepest 78 = .ok (.new 45, 3) := by decide +kernel
theorem dX1_steepest_81 : decode cX1_steepest 81 = .ok (.dup, 1) := by decide +kernel
theorem dX1_steepest_82 : decode cX1_steepest 82 = .ok (.lload_n 1, 1) := by decide +kernel
theorem dX1_steepest_83 : decode cX1_steepest 83 = .ok (.lload_n 3, 1) := by decide +kernel
theorem dX1_steepest_84 : decode cX1_steepest 84 = .ok (.invokespecial 47, 3) := by decide +kernel
theorem dX1_steepest_87 : decode cX1_steepest 87 = .ok (.areturn, 1) := by decide +kernel
theorem dX1_steepRise_0 : decode cX1_steepRise 0 = .ok (.iload_n 1, 1) := by decide +kernel
theorem dX1_steepRise_1 : decode cX1_steepRise 1 = .ok (.iload_n 0, 1) := by decide +kernel
theorem dX1_steepRise_2 : decode cX1_steepRise 2 = .ok (.isub, 1) := by decide +kernel
theorem dX1_steepRise_3 : decode cX1_steepRise 3 = .ok (.invokestatic 60, 3) := by decide +kernel
theorem dX1_steepRise_6 : decode cX1_steepRise 6 = .ok (.istore_n 3, 1) := by decide +kernel
theorem dX1_steepRise_7 : decode cX1_steepRise 7 = .ok (.iload_n 2, 1) := by decide +kernel
theorem dX1_steepRise_8 : decode cX1_steepRise 8 = .ok (.bipush 112, 2) := by decide +kernel
theorem dX1_steepRise_10 : decode cX1_steepRise 10 = .ok (.if_icmp .ne 9, 3) := by decide +kernel
theorem dX1_steepRise_13 : decode cX1_steepRise 13 = .ok (.iconst 2, 1) := by decide +kernel
theorem dX1_steepRise_14 : decode cX1_steepRise 14 = .ok (.iload_n 3, 1) := by decide +kernel
theorem dX1_steepRise_15 : decode cX1_steepRise 15 = .ok (.imul, 1) := by decide +kernel
theorem dX1_steepRise_16 : decode cX1_steepRise 16 = .ok (.goto 4, 3) := by decide +kernel
theorem dX1_steepRise_19 : decode cX1_steepRise 19 = .ok (.iload_n 3, 1) := by decide +kernel
theorem dX1_steepRise_20 : decode cX1_steepRise 20 = .ok (.ireturn, 1) := by decide +kernel
theorem dX1_countWishes_0 : decode cX1_countWishes 0 = .ok (.iconst 0, 1) := by decide +kernel
theorem dX1_countWishes_1 : decode cX1_countWishes 1 = .ok (.istore_n 1, 1) := by decide +kernel
theorem dX1_countWishes_2 : decode cX1_countWishes 2 = .ok (.iconst 0, 1) := by decide +kernel
theorem dX1_countWishes_3 : decode cX1_countWishes 3 = .ok (.istore_n 2, 1) := by decide +kernel
theorem dX1_countWishes_4 : decode cX1_countWishes 4 = .ok (.iload_n 2, 1) := by decide +kernel
theorem dX1_countWishes_5 : decode cX1_countWishes 5 = .ok (.bipush 24, 2) := by decide +kernel
theorem dX1_countWishes_7 : decode cX1_countWishes 7 = .ok (.if_icmp .ge 22, 3) := by decide +kernel
theorem dX1_countWishes_10 : decode cX1_countWishes 10 = .ok (.aload_n 0, 1) := by decide +kernel
theorem dX1_countWishes_11 : decode cX1_countWishes 11 = .ok (.getfield 22, 3) := by decide +kernel
theorem dX1_countWishes_14 : decode cX1_countWishes 14 = .ok (.iload_n 2, 1) := by decide +kernel
theorem dX1_countWishes_15 : decode cX1_countWishes 15 = .ok (.iaload, 1) := by decide +kernel
theorem dX1_countWishes_16 : decode cX1_countWishes 16 = .ok (.iconst (-1), 1) := by decide +kernel
theorem dX1_countWishes_17 : decode cX1_countWishes 17 = .ok (.if_icmp .eq 6, 3) := by decide +kernel
theorem dX1_countWishes_20 : decode cX1_countWishes 20 = .ok (.iinc 1 1, 3) := by decide +kernel
theorem dX1_countWishes_23 : decode cX1_countWishes 23 = .ok (.iinc 2 1, 3) := by decide +kernel
theorem dX1_countWishes_26 : decode cX1_countWishes 26 = .ok (.goto (-22), 3) := by decide +kernel
theorem dX1_countWishes_29 : decode cX1_countWishes 29 = .ok (.iload_n 1, 1) := by decide +kernel
theorem dX1_countWishes_30 : decode cX1_countWishes 30 = .ok (.ireturn, 1) := by decide +kernel
theorem dX1_nextWished_0 : decode cX1_nextWished 0 = .ok (.iload_n 1, 1) := by decide +kernel
theorem dX1_nextWished_1 : decode cX1_nextWished 1 = .ok (.iconst 1, 1) := by decide +kernel
theorem dX1_nextWished_2 : decode cX1_nextWished 2 = .ok (.iadd, 1) := by decide +kernel
theorem dX1_nextWished_3 : decode cX1_nextWished 3 = .ok (.istore_n 2, 1) := by decide +kernel
theorem dX1_nextWished_4 : decode cX1_nextWished 4 = .ok (.iload_n 2, 1) := by decide +kernel
theorem dX1_nextWished_5 : decode cX1_nextWished 5 = .ok (.bipush 24, 2) := by decide +kernel
theorem dX1_nextWished_7 : decode cX1_nextWished 7 = .ok (.if_icmp .ge 21, 3) := by decide +kernel
theorem dX1_nextWished_10 : decode cX1_nextWished 10 = .ok (.aload_n 0, 1) := by decide +kernel
theorem dX1_nextWished_11 : decode cX1_nextWished 11 = .ok (.getfield 22, 3) := by decide +kernel
theorem dX1_nextWished_14 : decode cX1_nextWished 14 = .ok (.iload_n 2, 1) := by decide +kernel
theorem dX1_nextWished_15 : decode cX1_nextWished 15 = .ok (.iaload, 1) := by decide +kernel
theorem dX1_nextWished_16 : decode cX1_nextWished 16 = .ok (.iconst (-1), 1) := by decide +kernel
theorem dX1_nextWished_17 : decode cX1_nextWished 17 = .ok (.if_icmp .eq 5, 3) := by decide +kernel
theorem dX1_nextWished_20 : decode cX1_nextWished 20 = .ok (.iload_n 2, 1) := by decide +kernel
theorem dX1_nextWished_21 : decode cX1_nextWished 21 = .ok (.ireturn, 1) := by decide +kernel
theorem dX1_nextWished_22 : decode cX1_nextWished 22 = .ok (.iinc 2 1, 3) := by decide +kernel
theorem dX1_nextWished_25 : decode cX1_nextWished 25 = .ok (.goto (-21), 3) := by decide +kernel
theorem dX1_nextWished_28 : decode cX1_nextWished 28 = .ok (.bipush 24, 2) := by decide +kernel
theorem dX1_nextWished_30 : decode cX1_nextWished 30 = .ok (.ireturn, 1) := by decide +kernel
theorem dX1_wishedRound_0 : decode cX1_wishedRound 0 = .ok (.aload_n 0, 1) := by decide +kernel
theorem dX1_wishedRound_1 : decode cX1_wishedRound 1 = .ok (.getfield 22, 3) := by decide +kernel
theorem dX1_wishedRound_4 : decode cX1_wishedRound 4 = .ok (.iload_n 1, 1) := by decide +kernel
theorem dX1_wishedRound_5 : decode cX1_wishedRound 5 = .ok (.bipush 24, 2) := by decide +kernel
theorem dX1_wishedRound_7 : decode cX1_wishedRound 7 = .ok (.if_icmp .ge 7, 3) := by decide +kernel
theorem dX1_wishedRound_10 : decode cX1_wishedRound 10 = .ok (.iload_n 1, 1) := by decide +kernel
theorem dX1_wishedRound_11 : decode cX1_wishedRound 11 = .ok (.goto 4, 3) := by decide +kernel
theorem dX1_wishedRound_14 : decode cX1_wishedRound 14 = .ok (.iconst 0, 1) := by decide +kernel
theorem dX1_wishedRound_15 : decode cX1_wishedRound 15 = .ok (.iaload, 1) := by decide +kernel
theorem dX1_wishedRound_16 : decode cX1_wishedRound 16 = .ok (.ireturn, 1) := by decide +kernel
theorem dX1_areWishesSteeper_0 : decode cX1_areWishesSteeper 0 = .ok (.iconst 0, 1) := by decide +kernel
theorem dX1_areWishesSteeper_1 : decode cX1_areWishesSteeper 1 = .ok (.istore_n 3, 1) := by decide +kernel
theorem dX1_areWishesSteeper_2 : decode cX1_areWishesSteeper 2 = .ok (.iload_n 3, 1) := by decide +kernel
theorem dX1_areWishesSteeper_3 : decode cX1_areWishesSteeper 3 = .ok (.bipush 24, 2) := by decide +kernel
theorem dX1_areWishesSteeper_5 : decode cX1_areWishesSteeper 5 = .ok (.if_icmp .ge 53, 3) := by decide +kernel
theorem dX1_areWishesSteeper_8 : decode cX1_areWishesSteeper 8 = .ok (.aload_n 0, 1) := by decide +kernel
theorem dX1_areWishesSteeper_9 : decode cX1_areWishesSteeper 9 = .ok (.getfield 22, 3) := by decide +kernel
theorem dX1_areWishesSteeper_12 : decode cX1_areWishesSteeper 12 = .ok (.iload_n 3, 1) := by decide +kernel
theorem dX1_areWishesSteeper_13 : decode cX1_areWishesSteeper 13 = .ok (.iaload, 1) := by decide +kernel
theorem dX1_areWishesSteeper_14 : decode cX1_areWishesSteeper 14 = .ok (.iconst (-1), 1) := by decide +kernel
theorem dX1_areWishesSteeper_15 : decode cX1_areWishesSteeper 15 = .ok (.if_icmp .eq 37, 3) := by decide +kernel
theorem dX1_areWishesSteeper_18 : decode cX1_areWishesSteeper 18 = .ok (.aload_n 0, 1) := by decide +kernel
theorem dX1_areWishesSteeper_19 : decode cX1_areWishesSteeper 19 = .ok (.iload_n 3, 1) := by decide +kernel
theorem dX1_areWishesSteeper_20 : decode cX1_areWishesSteeper 20 = .ok (.invokevirtual 65, 3) := by decide +kernel
theorem dX1_areWishesSteeper_23 : decode cX1_areWishesSteeper 23 = .ok (.istore 4, 2) := by decide +kernel
theorem dX1_areWishesSteeper_25 : decode cX1_areWishesSteeper 25 = .ok (.aload_n 0, 1) := by decide +kernel
theorem dX1_areWishesSteeper_26 : decode cX1_areWishesSteeper 26 = .ok (.getfield 22, 3) := by decide +kernel
theorem dX1_areWishesSteeper_29 : decode cX1_areWishesSteeper 29 = .ok (.iload_n 3, 1) := by decide +kernel
theorem dX1_areWishesSteeper_30 : decode cX1_areWishesSteeper 30 = .ok (.iaload, 1) := by decide +kernel
theorem dX1_areWishesSteeper_31 : decode cX1_areWishesSteeper 31 = .ok (.aload_n 0, 1) := by decide +kernel
theorem dX1_areWishesSteeper_32 : decode cX1_areWishesSteeper 32 = .ok (.iload 4, 2) := by decide +kernel
theorem dX1_areWishesSteeper_34 : decode cX1_areWishesSteeper 34 = .ok (.invokevirtual 68, 3) := by decide +kernel
theorem dX1_areWishesSteeper_37 : decode cX1_areWishesSteeper 37 = .ok (.iload_n 1, 1) := by decide +kernel
theorem dX1_areWishesSteeper_38 : decode cX1_areWishesSteeper 38 = .ok (.invokestatic 56, 3) := by decide +kernel
theorem dX1_areWishesSteeper_41 : decode cX1_areWishesSteeper 41 = .ok (.iload_n 2, 1) := by decide +kernel
theorem dX1_areWishesSteeper_42 : decode cX1_areWishesSteeper 42 = .ok (.iload 4, 2) := by decide +kernel
theorem dX1_areWishesSteeper_44 : decode cX1_areWishesSteeper 44 = .ok (.iload_n 3, 1) := by decide +kernel
theorem dX1_areWishesSteeper_45 : decode cX1_areWishesSteeper 45 = .ok (.isub, 1) := by decide +kernel
theorem dX1_areWishesSteeper_46 : decode cX1_areWishesSteeper 46 = .ok (.imul, 1) := by decide +kernel
theorem dX1_areWishesSteeper_47 : decode cX1_areWishesSteeper 47 = .ok (.if_icmp .le 5, 3) := by decide +kernel
theorem dX1_areWishesSteeper_50 : decode cX1_areWishesSteeper 50 = .ok (.iconst 1, 1) := by decide +kernel
theorem dX1_areWishesSteeper_51 : decode cX1_areWishesSteeper 51 = .ok (.ireturn, 1) := by decide +kernel
theorem dX1_areWishesSteeper_52 : decode cX1_areWishesSteeper 52 = .ok (.iinc 3 1, 3) := by decide +kernel
theorem dX1_areWishesSteeper_55 : decode cX1_areWishesSteeper 55 = .ok (.goto (-53), 3) := by decide +kernel
theorem dX1_areWishesSteeper_58 : decode cX1_areWishesSteeper 58 = .ok (.iconst 0, 1) := by decide +kernel
theorem dX1_areWishesSteeper_59 : decode cX1_areWishesSteeper 59 = .ok (.ireturn, 1) := by decide +kernel
theorem dX1_followWishes_0 : decode cX1_followWishes 0 = .ok (.aload_n 0, 1) := by decide +kernel
theorem dX1_followWishes_1 : decode cX1_followWishes 1 = .ok (.invokevirtual 71, 3) := by decide +kernel
theorem dX1_followWishes_4 : decode cX1_followWishes 4 = .ok (.iconst 0, 1) := by decide +kernel
theorem dX1_followWishes_5 : decode cX1_followWishes 5 = .ok (.istore_n 2, 1) := by decide +kernel
theorem dX1_followWishes_6 : decode cX1_followWishes 6 = .ok (.iload_n 2, 1) := by decide +kernel
theorem dX1_followWishes_7 : decode cX1_followWishes 7 = .ok (.bipush 24, 2) := by decide +kernel
theorem dX1_followWishes_9 : decode cX1_followWishes 9 = .ok (.if_icmp .ge 38, 3) := by decide +kernel
theorem dX1_followWishes_12 : decode cX1_followWishes 12 = .ok (.aload_n 0, 1) := by decide +kernel
theorem dX1_followWishes_13 : decode cX1_followWishes 13 = .ok (.getfield 22, 3) := by decide +kernel
theorem dX1_followWishes_16 : decode cX1_followWishes 16 = .ok (.iload_n 2, 1) := by decide +kernel
theorem dX1_followWishes_17 : decode cX1_followWishes 17 = .ok (.iaload, 1) := by decide +kernel
theorem dX1_followWishes_18 : decode cX1_followWishes 18 = .ok (.iconst (-1), 1) := by decide +kernel
theorem dX1_followWishes_19 : decode cX1_followWishes 19 = .ok (.if_icmp .eq 22, 3) := by decide +kernel
theorem dX1_followWishes_22 : decode cX1_followWishes 22 = .ok (.aload_n 0, 1) := by decide +kernel
theorem dX1_followWishes_23 : decode cX1_followWishes 23 = .ok (.iload_n 2, 1) := by decide +kernel
theorem dX1_followWishes_24 : decode cX1_followWishes 24 = .ok (.invokevirtual 65, 3) := by decide +kernel
theorem dX1_followWishes_27 : decode cX1_followWishes 27 = .ok (.istore_n 3, 1) := by decide +kernel
theorem dX1_followWishes_28 : decode cX1_followWishes 28 = .ok (.aload_n 0, 1) := by decide +kernel
theorem dX1_followWishes_29 : decode cX1_followWishes 29 = .ok (.iload_n 3, 1) := by decide +kernel
theorem dX1_followWishes_30 : decode cX1_followWishes 30 = .ok (.iload_n 2, 1) := by decide +kernel
theorem dX1_followWishes_31 : decode cX1_followWishes 31 = .ok (.isub, 1) := by decide +kernel
theorem dX1_followWishes_32 : decode cX1_followWishes 32 = .ok (.aload_n 0, 1) := by decide +kernel
theorem dX1_followWishes_33 : decode cX1_followWishes 33 = .ok (.iload_n 3, 1) := by decide +kernel
theorem dX1_followWishes_34 : decode cX1_followWishes 34 = .ok (.invokevirtual 68, 3) := by decide +kernel
theorem dX1_followWishes_37 : decode cX1_followWishes 37 = .ok (.iload_n 1, 1) := by decide +kernel
theorem dX1_followWishes_38 : decode cX1_followWishes 38 = .ok (.invokevirtual 74, 3) := by decide +kernel
theorem dX1_followWishes_41 : decode cX1_followWishes 41 = .ok (.iinc 2 1, 3) := by decide +kernel
theorem dX1_followWishes_44 : decode cX1_followWishes 44 = .ok (.goto (-38), 3) := by decide +kernel
theorem dX1_followWishes_47 : decode cX1_followWishes 47 = .ok (.return_, 1) := by decide +kernel
theorem dX2_init_0 : decode cX2_init 0 = .ok (.aload_n 0, 1) := by decide +kernel
theorem dX2_init_1 : decode cX2_init 1 = .ok (.invokespecial 3, 3) := by decide +kernel
theorem dX2_init_4 : decode cX2_init 4 = .ok (.aload_n 0, 1) := by decide +kernel
theorem dX2_init_5 : decode cX2_init 5 = .ok (.bipush 24, 2) := by decide +kernel
theorem dX2_init_7 : decode cX2_init 7 = .ok (.newarray .int, 2) := by decide +kernel
theorem dX2_init_9 : decode cX2_init 9 = .ok (.putfield 9, 3) := by decide +kernel
theorem dX2_init_12 : decode cX2_init 12 = .ok (.aload_n 0, 1) := by decide +kernel
theorem dX2_init_13 : decode cX2_init 13 = .ok (.bipush 8, 2) := by decide +kernel
theorem dX2_init_15 : decode cX2_init 15 = .ok (.newarray .int, 2) := by decide +kernel
theorem dX2_init_17 : decode cX2_init 17 = .ok (.putfield 15, 3) := by decide +kernel
theorem dX2_init_20 : decode cX2_init 20 = .ok (.aload_n 0, 1) := by decide +kernel
theorem dX2_init_21 : decode cX2_init 21 = .ok (.iload_n 1, 1) := by decide +kernel
theorem dX2_init_22 : decode cX2_init 22 = .ok (.putfield 18, 3) := by decide +kernel
theorem dX2_init_25 : decode cX2_init 25 = .ok (.return_, 1) := by decide +kernel
theorem dX2_setPin_0 : decode cX2_setPin 0 = .ok (.iconst 1, 1) := by decide +kernel
theorem dX2_setPin_1 : decode cX2_setPin 1 = .ok (.iload_n 2, 1) := by decide +kernel
theorem dX2_setPin_2 : decode cX2_setPin 2 = .ok (.ishl, 1) := by decide +kernel
theorem dX2_setPin_3 : decode cX2_setPin 3 = .ok (.istore 4, 2) := by decide +kernel
theorem dX2_setPin_5 : decode cX2_setPin 5 = .ok (.aload_n 0, 1) := by decide +kernel
theorem dX2_setPin_6 : decode cX2_setPin 6 = .ok (.getfield 9, 3) := by decide +kernel
theorem dX2_setPin_9 : decode cX2_setPin 9 = .ok (.iload_n 1, 1) := by decide +kernel
theorem dX2_setPin_10 : decode cX2_setPin 10 = .ok (.iaload, 1) := by decide +kernel
theorem dX2_setPin_11 : decode cX2_setPin 11 = .ok (.iload 4, 2) := by decide +kernel
theorem dX2_setPin_13 : decode cX2_setPin 13 = .ok (.iand, 1) := by decide +kernel
theorem dX2_setPin_14 : decode cX2_setPin 14 = .ok (.ifCond .eq 7, 3) := by decide +kernel
theorem dX2_setPin_17 : decode cX2_setPin 17 = .ok (.iconst 1, 1) := by decide +kernel
theorem dX2_setPin_18 : decode cX2_setPin 18 = .ok (.goto 4, 3) := by decide +kernel
theorem dX2_setPin_21 : decode cX2_setPin 21 = .ok (.iconst 0, 1) := by decide +kernel
theorem dX2_setPin_22 : decode cX2_setPin 22 = .ok (.istore 5, 2) := by decide +kernel
theorem dX2_setPin_24 : decode cX2_setPin 24 = .ok (.aload_n 0, 1) := by decide +kernel
theorem dX2_setPin_25 : decode cX2_setPin 25 = .ok (.getfield 9, 3) := by decide +kernel
theorem dX2_setPin_28 : decode cX2_setPin 28 = .ok (.iload_n 1, 1) := by decide +kernel
theorem dX2_setPin_29 : decode cX2_setPin 29 = .ok (.iload_n 3, 1) := by decide +kernel
theorem dX2_setPin_30 : decode cX2_setPin 30 = .ok (.ifCond .eq 15, 3) := by decide +kernel
theorem dX2_setPin_33 : decode cX2_setPin 33 = .ok (.aload_n 0, 1) := by decide +kernel
theorem dX2_setPin_34 : decode cX2_setPin 34 = .ok (.getfield 9, 3) := by decide +kernel
theorem dX2_setPin_37 : decode cX2_setPin 37 = .ok (.iload_n 1, 1) := by decide +kernel
theorem dX2_setPin_38 : decode cX2_setPin 38 = .ok (.iaload, 1) := by decide +kernel
theorem dX2_setPin_39 : decode cX2_setPin 39 = .ok (.iload 4, 2) := by decide +kernel
theorem dX2_setPin_41 : decode cX2_setPin 41 = .ok (.ior, 1) := by decide +kernel
theorem dX2_setPin_42 : decode cX2_setPin 42 = .ok (.goto 14, 3) := by decide +kernel
theorem dX2_setPin_45 : decode cX2_setPin 45 = .ok (.aload_n 0, 1) := by decide +kernel
theorem dX2_setPin_46 : decode cX2_setPin 46 = .ok (.getfield 9, 3) := by decide +kernel
theorem dX2_setPin_49 : decode cX2_setPin 49 = .ok (.iload_n 1, 1) := by decide +kernel
theorem dX2_setPin_50 : decode cX2_setPin 50 = .ok (.iaload, 1) := by decide +kernel
theorem dX2_setPin_51 : decode cX2_setPin 51 = .ok (.iload 4, 2) := by decide +kernel
theorem dX2_setPin_53 : decode cX2_setPin 53 = .ok (.iconst (-1), 1) := by decide +kernel
theorem dX2_setPin_54 : decode cX2_setPin 54 = .ok (.ixor, 1) := by decide +kernel
theorem dX2_setPin_55 : decode cX2_setPin 55 = .ok (.iand, 1) := by decide +kernel
theorem dX2_setPin_56 : decode cX2_setPin 56 = .ok (.iastore, 1) := by decide +kernel
theorem dX2_setPin_57 : decode cX2_setPin 57 = .ok (.iload 5, 2) := by decide +kernel
theorem dX2_setPin_59 : decode cX2_setPin 59 = .ok (.ireturn, 1) := by decide +kernel
theorem dX2_pass_0 : decode cX2_pass 0 = .ok (.lload_n 1, 1) := by decide +kernel
theorem dX2_pass_1 : decode cX2_pass 1 = .ok (.lload_n 3, 1) := by decide +kernel
theorem dX2_pass_2 : decode cX2_pass 2 = .ok (.invokestatic 22, 3) := by decide +kernel
theorem dX2_pass_5 : decode cX2_pass 5 = .ok (.lstore 5, 2) := by decide +kernel
theorem dX2_pass_7 : decode cX2_pass 7 = .ok (.lload_n 1, 1) := by decide +kernel
theorem dX2_pass_8 : decode cX2_pass 8 = .ok (.lload_n 3, 1) := by decide +kernel
theorem dX2_pass_9 : decode cX2_pass 9 = .ok (.invokestatic 28, 3) := by decide +kernel
theorem dX2_pass_12 : decode cX2_pass 12 = .ok (.lload 5, 2) := by decide +kernel
theorem dX2_pass_14 : decode cX2_pass 14 = .ok (.lsub, 1) := by decide +kernel
theorem dX2_pass_15 : decode cX2_pass 15 = .ok (.ldc2_w 31, 3) := by decide +kernel
theorem dX2_pass_18 : decode cX2_pass 18 = .ok (.invokestatic 22, 3) := by decide +kernel
theorem dX2_pass_21 : decode cX2_pass 21 = .ok (.lstore 7, 2) := by decide +kernel
theorem dX2_pass_23 : decode cX2_pass 23 = .ok (.lconst 1, 1) := by decide +kernel
theorem dX2_pass_24 : decode cX2_pass 24 = .ok (.lstore 9, 2) := by decide +kernel
theorem dX2_pass_26 : decode cX2_pass 26 = .ok (.lload 9, 2) := by decide +kernel
theorem dX2_pass_28 : decode cX2_pass 28 = .ok (.lload 7, 2) := by decide +kernel
theorem dX2_pass_30 : decode cX2_pass 30 = .ok (.lcmp, 1) := by decide +kernel
theorem dX2_pass_31 : decode cX2_pass 31 = .ok (.ifCond .gt 28, 3) := by decide +kernel
theorem dX2_pass_34 : decode cX2_pass 34 = .ok (.aload_n 0, 1) := by decide +kernel
theorem dX2_pass_35 : decode cX2_pass 35 = .ok (.lload 5, 2) := by decide +kernel
theorem dX2_pass_37 : decode cX2_pass 37 = .ok (.lload 9, 2) := by decide +kernel
theorem dX2_pass_39 : decode cX2_pass 39 = .ok (.ladd, 1) := by decide +kernel
theorem dX2_pass_40 : decode cX2_pass 40 = .ok (.ldc2_w 33, 3) := by decide +kernel
theorem dX2_pass_43 : decode cX2_pass 43 = .ok (.invokestatic 35, 3) := by decide +kernel
theorem dX2_pass_46 : decode cX2_pass 46 = .ok (.l2i, 1) := by decide +kernel
theorem dX2_pass_47 : decode cX2_pass 47 = .ok (.invokevirtual 38, 3) := by decide +kernel
theorem dX2_pass_50 : decode cX2_pass 50 = .ok (.lload 9, 2) := by decide +kernel
theorem dX2_pass_52 : decode cX2_pass 52 = .ok (.lconst 1, 1) := by decide +kernel
theorem dX2_pass_53 : decode cX2_pass 53 = .ok (.ladd, 1) := by decide +kernel
theorem dX2_pass_54 : decode cX2_pass 54 = .ok (.lstore 9, 2) := by decide +kernel
theorem dX2_pass_56 : decode cX2_pass 56 = .ok (.goto (-30), 3) := by decide +kernel
theorem dX2_pass_59 : decode cX2_pass 59 = .ok (.return_, 1) := by decide +kernel
theorem dX2_strikePart_0 : decode cX2_strikePart 0 = .ok (.iconst 0, 1) := by decide +kernel
theorem dX2_strikePart_1 : decode cX2_strikePart 1 = .ok (.istore_n 2, 1) := by decide +kernel
theorem dX2_strikePart_2 : decode cX2_strikePart 2 = .ok (.iload_n 2, 1) := by decide +kernel
theorem dX2_strikePart_3 : decode cX2_strikePart 3 = .ok (.bipush 8, 2) := by decide +kernel
theorem dX2_strikePart_5 : decode cX2_strikePart 5 = .ok (.if_icmp .ge 32, 3) := by decide +kernel
theorem dX2_strikePart_8 : decode cX2_strikePart 8 = .ok (.aload_n 0, 1) := by decide +kernel
theorem dX2_strikePart_9 : decode cX2_strikePart 9 = .ok (.getfield 9, 3) := by decide +kernel
theorem dX2_strikePart_12 : decode cX2_strikePart 12 = .ok (.iload_n 1, 1) := by decide +kernel
theorem dX2_strikePart_13 : decode cX2_strikePart 13 = .ok (.iaload, 1) := by decide +kernel
theorem dX2_strikePart_14 : decode cX2_strikePart 14 = .ok (.iconst 1, 1) := by decide +kernel
theorem dX2_strikePart_15 : decode cX2_strikePart 15 = .ok (.iload_n 2, 1) := by decide +kernel
theorem dX2_strikePart_16 : decode cX2_strikePart 16 = .ok (.ishl, 1) := by decide +kernel
theorem dX2_strikePart_17 : decode cX2_strikePart 17 = .ok (.iand, 1) := by decide +kernel
theorem dX2_strikePart_18 : decode cX2_strikePart 18 = .ok (.ifCond .eq 13, 3) := by decide +kernel
theorem dX2_strikePart_21 : decode cX2_strikePart 21 = .ok (.aload_n 0, 1) := by decide +kernel
theorem dX2_strikePart_22 : decode cX2_strikePart 22 = .ok (.getfield 15, 3) := by decide +kernel
theorem dX2_strikePart_25 : decode cX2_strikePart 25 = .ok (.iload_n 2, 1) := by decide +kernel
theorem dX2_strikePart_26 : decode cX2_strikePart 26 = .ok (.dup2, 1) := by decide +kernel
theorem dX2_strikePart_27 : decode cX2_strikePart 27 = .ok (.iaload, 1) := by decide +kernel
theorem dX2_strikePart_28 : decode cX2_strikePart 28 = .ok (.iconst 1, 1) := by decide +kernel
theorem dX2_strikePart_29 : decode cX2_strikePart 29 = .ok (.iadd, 1) := by decide +kernel
theorem dX2_strikePart_30 : decode cX2_strikePart 30 = .ok (.iastore, 1) := by decide +kernel
theorem dX2_strikePart_31 : decode cX2_strikePart 31 = .ok (.iinc 2 1, 3) := by decide +kernel
theorem dX2_strikePart_34 : decode cX2_strikePart 34 = .ok (.goto (-32), 3) := by decide +kernel
theorem dX2_strikePart_37 : decode cX2_strikePart 37 = .ok (.return_, 1) := by decide +kernel
theorem dX3_init_0 : decode cX3_init 0 = .ok (.aload_n 0, 1) := by decide +kernel
theorem dX3_init_1 : decode cX3_init 1 = .ok (.invokespecial 1, 3) := by decide +kernel
theorem dX3_init_4 : decode cX3_init 4 = .ok (.lload_n 1, 1) := by decide +kernel
theorem dX3_init_5 : decode cX3_init 5 = .ok (.lload_n 3, 1) := by decide +kernel
theorem dX3_init_6 : decode cX3_init 6 = .ok (.invokestatic 7, 3) := by decide +kernel
theorem dX3_init_9 : decode cX3_init 9 = .ok (.lstore 5, 2) := by decide +kernel
theorem dX3_init_11 : decode cX3_init 11 = .ok (.aload_n 0, 1) := by decide +kernel
theorem dX3_init_12 : decode cX3_init 12 = .ok (.lload 5, 2) := by decide +kernel
theorem dX3_init_14 : decode cX3_init 14 = .ok (.lconst 0, 1) := by decide +kernel
theorem dX3_init_15 : decode cX3_init 15 = .ok (.lcmp, 1) := by decide +kernel
theorem dX3_init_16 : decode cX3_init 16 = .ok (.ifCond .ne 7, 3) := by decide +kernel
theorem dX3_init_19 : decode cX3_init 19 = .ok (.lconst 0, 1) := by decide +kernel
theorem dX3_init_20 : decode cX3_init 20 = .ok (.goto 7, 3) := by decide +kernel
theorem dX3_init_23 : decode cX3_init 23 = .ok (.lload_n 1, 1) := by decide +kernel
theorem dX3_init_24 : decode cX3_init 24 = .ok (.lload 5, 2) := by decide +kernel
theorem dX3_init_26 : decode cX3_init 26 = .ok (.ldiv, 1) := by decide +kernel
theorem dX3_init_27 : decode cX3_init 27 = .ok (.putfield 13, 3) := by decide +kernel
theorem dX3_init_30 : decode cX3_init 30 = .ok (.aload_n 0, 1) := by decide +kernel
theorem dX3_init_31 : decode cX3_init 31 = .ok (.lload 5, 2) := by decide +kernel
theorem dX3_init_33 : decode cX3_init 33 = .ok (.lconst 0, 1) := by decide +kernel
theorem dX3_init_34 : decode cX3_init 34 = .ok (.lcmp, 1) := by decide +kernel
theorem dX3_init_35 : decode cX3_init 35 = .ok (.ifCond .ne 7, 3) := by decide +kernel
theorem dX3_init_38 : decode cX3_init 38 = .ok (.lconst 1, 1) := by decide +kernel
theorem dX3_init_39 : decode cX3_init 39 = .ok (.goto 7, 3) := by decide +kernel
theorem dX3_init_42 : decode cX3_init 42 = .ok (.lload_n 3, 1) := by decide +kernel
theorem dX3_init_43 : decode cX3_init 43 = .ok (.lload 5, 2) := by decide +kernel
theorem dX3_init_45 : decode cX3_init 45 = .ok (.ldiv, 1) := by decide +kernel
theorem dX3_init_46 : decode cX3_init 46 = .ok (.putfield 17, 3) := by decide +kernel
theorem dX3_init_49 : decode cX3_init 49 = .ok (.return_, 1) := by decide +kernel
theorem dX3_isSame_0 : decode cX3_isSame 0 = .ok (.aload_n 0, 1) := by decide +kernel
theorem dX3_isSame_1 : decode cX3_isSame 1 = .ok (.getfield 13, 3) := by decide +kernel
theorem dX3_isSame_4 : decode cX3_isSame 4 = .ok (.aload_n 1, 1) := by decide +kernel
theorem dX3_isSame_5 : decode cX3_isSame 5 = .ok (.getfield 13, 3) := by decide +kernel
theorem dX3_isSame_8 : decode cX3_isSame 8 = .ok (.lcmp, 1) := by decide +kernel
theorem dX3_isSame_9 : decode cX3_isSame 9 = .ok (.ifCond .ne 19, 3) := by decide +kernel
theorem dX3_isSame_12 : decode cX3_isSame 12 = .ok (.aload_n 0, 1) := by decide +kernel
theorem dX3_isSame_13 : decode cX3_isSame 13 = .ok (.getfield 17, 3) := by decide +kernel
theorem dX3_isSame_16 : decode cX3_isSame 16 = .ok (.aload_n 1, 1) := by decide +kernel
theorem dX3_isSame_17 : decode cX3_isSame 17 = .ok (.getfield 17, 3) := by decide +kernel
theorem dX3_isSame_20 : decode cX3_isSame 20 = .ok (.lcmp, 1) := by decide +kernel
theorem dX3_isSame_21 : decode cX3_isSame 21 = .ok (.ifCond .ne 7, 3) := by decide +kernel
theorem dX3_isSame_24 : decode cX3_isSame 24 = .ok (.iconst 1, 1) := by decide +kernel
theorem dX3_isSame_25 : decode cX3_isSame 25 = .ok (.goto 4, 3) := by decide +kernel
theorem dX3_isSame_28 : decode cX3_isSame 28 = .ok (.iconst 0, 1) := by decide +kernel
theorem dX3_isSame_29 : decode cX3_isSame 29 = .ok (.ireturn, 1) := by decide +kernel
theorem dX3_commonOf_0 : decode cX3_commonOf 0 = .ok (.lload_n 0, 1) := by decide +kernel
theorem dX3_commonOf_1 : decode cX3_commonOf 1 = .ok (.lconst 0, 1) := by decide +kernel
theorem dX3_commonOf_2 : decode cX3_commonOf 2 = .ok (.lcmp, 1) := by decide +kernel
theorem dX3_commonOf_3 : decode cX3_commonOf 3 = .ok (.ifCond .ge 8, 3) := by decide +kernel
theorem dX3_commonOf_6 : decode cX3_commonOf 6 = .ok (.lload_n 0, 1) := by decide +kernel
theorem dX3_commonOf_7 : decode cX3_commonOf 7 = .ok (.lneg, 1) := by decide +kernel
theorem dX3_commonOf_8 : decode cX3_commonOf 8 = .ok (.goto 4, 3) := by decide +kernel
theorem dX3_commonOf_11 : decode cX3_commonOf 11 = .ok (.lload_n 0, 1) := by decide +kernel
theorem dX3_commonOf_12 : decode cX3_commonOf 12 = .ok (.lstore 4, 2) := by decide +kernel
theorem dX3_commonOf_14 : decode cX3_commonOf 14 = .ok (.lload_n 2, 1) := by decide +kernel
theorem dX3_commonOf_15 : decode cX3_commonOf 15 = .ok (.lconst 0, 1) := by decide +kernel
theorem dX3_commonOf_16 : decode cX3_commonOf 16 = .ok (.lcmp, 1) := by decide +kernel
theorem dX3_commonOf_17 : decode cX3_commonOf 17 = .ok (.ifCond .ge 8, 3) := by decide +kernel
theorem dX3_commonOf_20 : decode cX3_commonOf 20 = .ok (.lload_n 2, 1) := by decide +kernel
theorem dX3_commonOf_21 : decode cX3_commonOf 21 = .ok (.lneg, 1) := by decide +kernel
theorem dX3_commonOf_22 : decode cX3_commonOf 22 = .ok (.goto 4, 3) := by decide +kernel
theorem dX3_commonOf_25 : decode cX3_commonOf 25 = .ok (.lload_n 2, 1) := by decide +kernel
theorem dX3_commonOf_26 : decode cX3_commonOf 26 = .ok (.lstore 6, 2) := by decide +kernel
theorem dX3_commonOf_28 : decode cX3_commonOf 28 = .ok (.iconst 0, 1) := by decide +kernel
theorem dX3_commonOf_29 : decode cX3_commonOf 29 = .ok (.istore 8, 2) := by decide +kernel
theorem dX3_commonOf_31 : decode cX3_commonOf 31 = .ok (.iload 8, 2) := by decide +kernel
theorem dX3_commonOf_33 : decode cX3_commonOf 33 = .ok (.sipush 200, 3) := by decide +kernel
theorem dX3_commonOf_36 : decode cX3_commonOf 36 = .ok (.if_icmp .ge 31, 3) := by decide +kernel
theorem dX3_commonOf_39 : decode cX3_commonOf 39 = .ok (.lload 6, 2) := by decide +kernel
theorem dX3_commonOf_41 : decode cX3_commonOf 41 = .ok (.lconst 0, 1) := by decide +kernel
theorem dX3_commonOf_42 : decode cX3_commonOf 42 = .ok (.lcmp, 1) := by decide +kernel
theorem dX3_commonOf_43 : decode cX3_commonOf 43 = .ok (.ifCond .eq 24, 3) := by decide +kernel
theorem dX3_commonOf_46 : decode cX3_commonOf 46 = .ok (.lload 4, 2) := by decide +kernel
theorem dX3_commonOf_48 : decode cX3_commonOf 48 = .ok (.lload 6, 2) := by decide +kernel
theorem dX3_commonOf_50 : decode cX3_commonOf 50 = .ok (.lrem, 1) := by decide +kernel
theorem dX3_commonOf_51 : decode cX3_commonOf 51 = .ok (.lstore 9, 2) := by decide +kernel
theorem dX3_commonOf_53 : decode cX3_commonOf 53 = .ok (.lload 6, 2) := by decide +kernel
theorem dX3_commonOf_55 : decode cX3_commonOf 55 = .ok (.lstore 4, 2) := by decide +kernel
theorem dX3_commonOf_57 : decode cX3_commonOf 57 = .ok (.lload 9, 2) := by decide +kernel
theorem dX3_commonOf_59 : decode cX3_commonOf 59 = .ok (.lstore 6, 2) := by decide +kernel
theorem dX3_commonOf_61 : decode cX3_commonOf 61 = .ok (.iinc 8 1, 3) := by decide +kernel
theorem dX3_commonOf_64 : decode cX3_commonOf 64 = .ok (.goto (-33), 3) := by decide +kernel
theorem dX3_commonOf_67 : decode cX3_commonOf 67 = .ok (.lload 4, 2) := by decide +kernel
theorem dX3_commonOf_69 : decode cX3_commonOf 69 = .ok (.lreturn, 1) := by decide +kernel
theorem dX4_init_0 : decode cX4_init 0 = .ok (.aload_n 0, 1) := by decide +kernel
theorem dX4_init_1 : decode cX4_init 1 = .ok (.invokespecial 1, 3) := by decide +kernel
theorem dX4_init_4 : decode cX4_init 4 = .ok (.aload_n 0, 1) := by decide +kernel
theorem dX4_init_5 : decode cX4_init 5 = .ok (.iload_n 1, 1) := by decide +kernel
theorem dX4_init_6 : decode cX4_init 6 = .ok (.newarray .long, 2) := by decide +kernel
theorem dX4_init_8 : decode cX4_init 8 = .ok (.putfield 7, 3) := by decide +kernel
theorem dX4_init_11 : decode cX4_init 11 = .ok (.aload_n 0, 1) := by decide +kernel
theorem dX4_init_12 : decode cX4_init 12 = .ok (.iload_n 1, 1) := by decide +kernel
theorem dX4_init_13 : decode cX4_init 13 = .ok (.newarray .long, 2) := by decide +kernel
theorem dX4_init_15 : decode cX4_init 15 = .ok (.putfield 13, 3) := by decide +kernel
theorem dX4_init_18 : decode cX4_init 18 = .ok (.aload_n 0, 1) := by decide +kernel
theorem dX4_init_19 : decode cX4_init 19 = .ok (.getfield 13, 3) := by decide +kernel
theorem dX4_init_22 : decode cX4_init 22 = .ok (.lconst 1, 1) := by decide +kernel
theorem dX4_init_23 : decode cX4_init 23 = .ok (.invokestatic 16, 3) := by decide +kernel
theorem dX4_init_26 : decode cX4_init 26 = .ok (.return_, 1) := by decide +kernel
theorem dX4_has_0 : decode cX4_has 0 = .ok (.iload_n 1, 1) := by decide +kernel
theorem dX4_has_1 : decode cX4_has 1 = .ok (.ifCond .lt 16, 3) := by decide +kernel
theorem dX4_has_4 : decode cX4_has 4 = .ok (.iload_n 1, 1) := by decide +kernel
theorem dX4_has_5 : decode cX4_has 5 = .ok (.aload_n 0, 1) := by decide +kernel
theorem dX4_has_6 : decode cX4_has 6 = .ok (.getfield 7, 3) := by decide +kernel
theorem dX4_has_9 : decode cX4_has 9 = .ok (.arraylength, 1) := by decide +kernel
theorem dX4_has_10 : decode cX4_has 10 = .ok (.if_icmp .ge 7, 3) := by decide +kernel
theorem dX4_has_13 : decode cX4_has 13 = .ok (.iconst 1, 1) := by decide +kernel
theorem dX4_has_14 : decode cX4_has 14 = .ok (.goto 4, 3) := by decide +kernel
theorem dX4_has_17 : decode cX4_has 17 = .ok (.iconst 0, 1) := by decide +kernel
theorem dX4_has_18 : decode cX4_has 18 = .ok (.ireturn, 1) := by decide +kernel
theorem dX4_overAt_0 : decode cX4_overAt 0 = .ok (.aload_n 0, 1) := by decide +kernel
theorem dX4_overAt_1 : decode cX4_overAt 1 = .ok (.iload_n 1, 1) := by decide +kernel
theorem dX4_overAt_2 : decode cX4_overAt 2 = .ok (.invokevirtual 22, 3) := by decide +kernel
theorem dX4_overAt_5 : decode cX4_overAt 5 = .ok (.ifCond .eq 12, 3) := by decide +kernel
theorem dX4_overAt_8 : decode cX4_overAt 8 = .ok (.aload_n 0, 1) := by decide +kernel
theorem dX4_overAt_9 : decode cX4_overAt 9 = .ok (.getfield 7, 3) := by decide +kernel
theorem dX4_overAt_12 : decode cX4_overAt 12 = .ok (.iload_n 1, 1) := by decide +kernel
theorem dX4_overAt_13 : decode cX4_overAt 13 = .ok (.laload, 1) := by decide +kernel
theorem dX4_overAt_14 : decode cX4_overAt 14 = .ok (.goto 4, 3) := by decide +kernel
theorem dX4_overAt_17 : decode cX4_overAt 17 = .ok (.lconst 0, 1) := by decide +kernel
theorem dX4_overAt_18 : decode cX4_overAt 18 = .ok (.lreturn, 1) := by decide +kernel
theorem dX4_underAt_0 : decode cX4_underAt 0 = .ok (.aload_n 0, 1) := by decide +kernel
theorem dX4_underAt_1 : decode cX4_underAt 1 = .ok (.iload_n 1, 1) := by decide +kernel
theorem dX4_underAt_2 : decode cX4_underAt 2 = .ok (.invokevirtual 22, 3) := by decide +kernel
theorem dX4_underAt_5 : decode cX4_underAt 5 = .ok (.ifCond .eq 12, 3) := by decide +kernel
theorem dX4_underAt_8 : decode cX4_underAt 8 = .ok (.aload_n 0, 1) := by decide +kernel
theorem dX4_underAt_9 : decode cX4_underAt 9 = .ok (.getfield 13, 3) := by decide +kernel
theorem dX4_underAt_12 : decode cX4_underAt 12 = .ok (.iload_n 1, 1) := by decide +kernel
theorem dX4_underAt_13 : decode cX4_underAt 13 = .ok (.laload, 1) := by decide +kernel
theorem dX4_underAt_14 : decode cX4_underAt 14 = .ok (.goto 4, 3) := by decide +kernel
theorem dX4_underAt_17 : decode cX4_underAt 17 = .ok (.lconst 1, 1) := by decide +kernel
theorem dX4_underAt_18 : decode cX4_underAt 18 = .ok (.lreturn, 1) := by decide +kernel
theorem dX4_isMoving_0 : decode cX4_isMoving 0 = .ok (.aload_n 0, 1) := by decide +kernel
theorem dX4_isMoving_1 : decode cX4_isMoving 1 = .ok (.iload_n 1, 1) := by decide +kernel
theorem dX4_isMoving_2 : decode cX4_isMoving 2 = .ok (.invokevirtual 26, 3) := by decide +kernel
theorem dX4_isMoving_5 : decode cX4_isMoving 5 = .ok (.lconst 0, 1) := by decide +kernel
theorem dX4_isMoving_6 : decode cX4_isMoving 6 = .ok (.lcmp, 1) := by decide +kernel
theorem dX4_isMoving_7 : decode cX4_isMoving 7 = .ok (.ifCond .eq 7, 3) := by decide +kernel
theorem dX4_isMoving_10 : decode cX4_isMoving 10 = .ok (.iconst 1, 1) := by decide +kernel
theorem dX4_isMoving_11 : decode cX4_isMoving 11 = .ok (.goto 4, 3) := by decide +kernel
theorem dX4_isMoving_14 : decode cX4_isMoving 14 = .ok (.iconst 0, 1) := by decide +kernel
theorem dX4_isMoving_15 : decode cX4_isMoving 15 = .ok (.ireturn, 1) := by decide +kernel
theorem dX4_isSame_0 : decode cX4_isSame 0 = .ok (.aload_n 0, 1) := by decide +kernel
theorem dX4_isSame_1 : decode cX4_isSame 1 = .ok (.iload_n 1, 1) := by decide +kernel
theorem dX4_isSame_2 : decode cX4_isSame 2 = .ok (.invokevirtual 26, 3) := by decide +kernel
theorem dX4_isSame_5 : decode cX4_isSame 5 = .ok (.aload_n 2, 1) := by decide +kernel
theorem dX4_isSame_6 : decode cX4_isSame 6 = .ok (.iload_n 1, 1) := by decide +kernel
theorem dX4_isSame_7 : decode cX4_isSame 7 = .ok (.invokevirtual 26, 3) := by decide +kernel
theorem dX4_isSame_10 : decode cX4_isSame 10 = .ok (.lcmp, 1) := by decide +kernel
theorem dX4_isSame_11 : decode cX4_isSame 11 = .ok (.ifCond .ne 21, 3) := by decide +kernel
theorem dX4_isSame_14 : decode cX4_isSame 14 = .ok (.aload_n 0, 1) := by decide +kernel
theorem dX4_isSame_15 : decode cX4_isSame 15 = .ok (.iload_n 1, 1) := by decide +kernel
theorem dX4_isSame_16 : decode cX4_isSame 16 = .ok (.invokevirtual 30, 3) := by decide +kernel
theorem dX4_isSame_19 : decode cX4_isSame 19 = .ok (.aload_n 2, 1) := by decide +kernel
theorem dX4_isSame_20 : decode cX4_isSame 20 = .ok (.iload_n 1, 1) := by decide +kernel
theorem dX4_isSame_21 : decode cX4_isSame 21 = .ok (.invokevirtual 30, 3) := by decide +kernel
theorem dX4_isSame_24 : decode cX4_isSame 24 = .ok (.lcmp, 1) := by decide +kernel
theorem dX4_isSame_25 : decode cX4_isSame 25 = .ok (.ifCond .ne 7, 3) := by decide +kernel
theorem dX4_isSame_28 : decode cX4_isSame 28 = .ok (.iconst 1, 1) := by decide +kernel
theorem dX4_isSame_29 : decode cX4_isSame 29 = .ok (.goto 4, 3) := by decide +kernel
theorem dX4_isSame_32 : decode cX4_isSame 32 = .ok (.iconst 0, 1) := by decide +kernel
theorem dX4_isSame_33 : decode cX4_isSame 33 = .ok (.ireturn, 1) := by decide +kernel
theorem dX4_reset_0 : decode cX4_reset 0 = .ok (.aload_n 0, 1) := by decide +kernel
theorem dX4_reset_1 : decode cX4_reset 1 = .ok (.getfield 7, 3) := by decide +kernel
theorem dX4_reset_4 : decode cX4_reset 4 = .ok (.lconst 0, 1) := by decide +kernel
theorem dX4_reset_5 : decode cX4_reset 5 = .ok (.invokestatic 16, 3) := by decide +kernel
theorem dX4_reset_8 : decode cX4_reset 8 = .ok (.aload_n 0, 1) := by decide +kernel
theorem dX4_reset_9 : decode cX4_reset 9 = .ok (.getfield 13, 3) := by decide +kernel
theorem dX4_reset_12 : decode cX4_reset 12 = .ok (.lconst 1, 1) := by decide +kernel
theorem dX4_reset_13 : decode cX4_reset 13 = .ok (.invokestatic 16, 3) := by decide +kernel
theorem dX4_reset_16 : decode cX4_reset 16 = .ok (.return_, 1) := by decide +kernel
theorem dX4_copyFrom_0 : decode cX4_copyFrom 0 = .ok (.aload_n 0, 1) := by decide +kernel
theorem dX4_copyFrom_1 : decode cX4_copyFrom 1 = .ok (.getfield 7, 3) := by decide +kernel
theorem dX4_copyFrom_4 : decode cX4_copyFrom 4 = .ok (.arraylength, 1) := by decide +kernel
theorem dX4_copyFrom_5 : decode cX4_copyFrom 5 = .ok (.aload_n 1, 1) := by decide +kernel
theorem dX4_copyFrom_6 : decode cX4_copyFrom 6 = .ok (.getfield 7, 3) := by decide +kernel
theorem dX4_copyFrom_9 : decode cX4_copyFrom 9 = .ok (.arraylength, 1) := by decide +kernel
theorem dX4_copyFrom_10 : decode cX4_copyFrom 10 = .ok (.invokestatic 33, 3) := by decide +kernel
theorem dX4_copyFrom_13 : decode cX4_copyFrom 13 = .ok (.istore_n 2, 1) := by decide +kernel
theorem dX4_copyFrom_14 : decode cX4_copyFrom 14 = .ok (.aload_n 1, 1) := by decide +kernel
theorem dX4_copyFrom_15 : decode cX4_copyFrom 15 = .ok (.getfield 7, 3) := by decide +kernel
theorem dX4_copyFrom_18 : decode cX4_copyFrom 18 = .ok (.iconst 0, 1) := by decide +kernel
theorem dX4_copyFrom_19 : decode cX4_copyFrom 19 = .ok (.aload_n 0, 1) := by decide +kernel
theorem dX4_copyFrom_20 : decode cX4_copyFrom 20 = .ok (.getfield 7, 3) := by decide +kernel
theorem dX4_copyFrom_23 : decode cX4_copyFrom 23 = .ok (.iconst 0, 1) := by decide +kernel
theorem dX4_copyFrom_24 : decode cX4_copyFrom 24 = .ok (.iload_n 2, 1) := by decide +kernel
theorem dX4_copyFrom_25 : decode cX4_copyFrom 25 = .ok (.invokestatic 39, 3) := by decide +kernel
theorem dX4_copyFrom_28 : decode cX4_copyFrom 28 = .ok (.aload_n 1, 1) := by decide +kernel
theorem dX4_copyFrom_29 : decode cX4_copyFrom 29 = .ok (.getfield 13, 3) := by decide +kernel
theorem dX4_copyFrom_32 : decode cX4_copyFrom 32 = .ok (.iconst 0, 1) := by decide +kernel
theorem dX4_copyFrom_33 : decode cX4_copyFrom 33 = .ok (.aload_n 0, 1) := by decide +kernel
theorem dX4_copyFrom_34 : decode cX4_copyFrom 34 = .ok (.getfield 13, 3) := by decide +kernel
theorem dX4_copyFrom_37 : decode cX4_copyFrom 37 = .ok (.iconst 0, 1) := by decide +kernel
theorem dX4_copyFrom_38 : decode cX4_copyFrom 38 = .ok (.iload_n 2, 1) := by decide +kernel
theorem dX4_copyFrom_39 : decode cX4_copyFrom 39 = .ok (.invokestatic 39, 3) := by decide +kernel
theorem dX4_copyFrom_42 : decode cX4_copyFrom 42 = .ok (.return_, 1) := by decide +kernel
theorem dX4_put_0 : decode cX4_put 0 = .ok (.lload_n 2, 1) := by decide +kernel
theorem dX4_put_1 : decode cX4_put 1 = .ok (.lload 4, 2) := by decide +kernel
theorem dX4_put_3 : decode cX4_put 3 = .ok (.invokestatic 45, 3) := by decide +kernel
theorem dX4_put_6 : decode cX4_put 6 = .ok (.lstore 6, 2) := by decide +kernel
theorem dX4_put_8 : decode cX4_put 8 = .ok (.aload_n 0, 1) := by decide +kernel
theorem dX4_put_9 : decode cX4_put 9 = .ok (.iload_n 1, 1) := by decide +kernel
theorem dX4_put_10 : decode cX4_put 10 = .ok (.invokevirtual 22, 3) := by decide +kernel
theorem dX4_put_13 : decode cX4_put 13 = .ok (.ifCond .eq 38, 3) := by decide +kernel
theorem dX4_put_16 : decode cX4_put 16 = .ok (.lload 4, 2) := by decide +kernel
theorem dX4_put_18 : decode cX4_put 18 = .ok (.lconst 0, 1) := by decide +kernel
theorem dX4_put_19 : decode cX4_put 19 = .ok (.lcmp, 1) := by decide +kernel
theorem dX4_put_20 : decode cX4_put 20 = .ok (.ifCond .le 31, 3) := by decide +kernel
theorem dX4_put_23 : decode cX4_put 23 = .ok (.lload 6, 2) := by decide +kernel
theorem dX4_put_25 : decode cX4_put 25 = .ok (.lconst 0, 1) := by decide +kernel
theorem dX4_put_26 : decode cX4_put 26 = .ok (.lcmp, 1) := by decide +kernel
theorem dX4_put_27 : decode cX4_put 27 = .ok (.ifCond .le 24, 3) := by decide +kernel
theorem dX4_put_30 : decode cX4_put 30 = .ok (.aload_n 0, 1) := by decide +kernel
theorem dX4_put_31 : decode cX4_put 31 = .ok (.getfield 7, 3) := by decide +kernel
theorem dX4_put_34 : decode cX4_put 34 = .ok (.iload_n 1, 1) := by decide +kernel
theorem dX4_put_35 : decode cX4_put 35 = .ok (.lload_n 2, 1) := by decide +kernel
theorem dX4_put_36 : decode cX4_put 36 = .ok (.lload 6, 2) := by decide +kernel
theorem dX4_put_38 : decode cX4_put 38 = .ok (.ldiv, 1) := by decide +kernel
theorem dX4_put_39 : decode cX4_put 39 = .ok (.lastore, 1) := by decide +kernel
theorem dX4_put_40 : decode cX4_put 40 = .ok (.aload_n 0, 1) := by decide +kernel
theorem dX4_put_41 : decode cX4_put 41 = .ok (.getfield 13, 3) := by decide +kernel
theorem dX4_put_44 : decode cX4_put 44 = .ok (.iload_n 1, 1) := by decide +kernel
theorem dX4_put_45 : decode cX4_put 45 = .ok (.lload 4, 2) := by decide +kernel
theorem dX4_put_47 : decode cX4_put 47 = .ok (.lload 6, 2) := by decide +kernel
theorem dX4_put_49 : decode cX4_put 49 = .ok (.ldiv, 1) := by decide +kernel
theorem dX4_put_50 : decode cX4_put 50 = .ok (.lastore, 1) := by decide +kernel
theorem dX4_put_51 : decode cX4_put 51 = .ok (.return_, 1) := by decide +kernel
theorem dX4_add_0 : decode cX4_add 0 = .ok (.aload_n 0, 1) := by decide +kernel
theorem dX4_add_1 : decode cX4_add 1 = .ok (.iload_n 1, 1) := by decide +kernel
theorem dX4_add_2 : decode cX4_add 2 = .ok (.invokevirtual 22, 3) := by decide +kernel
theorem dX4_add_5 : decode cX4_add 5 = .ok (.ifCond .eq 10, 3) := by decide +kernel
theorem dX4_add_8 : decode cX4_add 8 = .ok (.lload 4, 2) := by decide +kernel
theorem dX4_add_10 : decode cX4_add 10 = .ok (.lconst 0, 1) := by decide +kernel
theorem dX4_add_11 : decode cX4_add 11 = .ok (.lcmp, 1) := by decide +kernel
theorem dX4_add_12 : decode cX4_add 12 = .ok (.ifCond .gt 4, 3) := by decide +kernel
theorem dX4_add_15 : decode cX4_add 15 = .ok (.return_, 1) := by decide +kernel
theorem dX4_add_16 : decode cX4_add 16 = .ok (.aload_n 0, 1) := by decide +kernel
theorem dX4_add_17 : decode cX4_add 17 = .ok (.getfield 13, 3) := by decide +kernel
theorem dX4_add_20 : decode cX4_add 20 = .ok (.iload_n 1, 1) := by decide +kernel
theorem dX4_add_21 : decode cX4_add 21 = .ok (.laload, 1) := by decide +kernel
theorem dX4_add_22 : decode cX4_add 22 = .ok (.lload 4, 2) := by decide +kernel
theorem dX4_add_24 : decode cX4_add 24 = .ok (.invokestatic 45, 3) := by decide +kernel
theorem dX4_add_27 : decode cX4_add 27 = .ok (.lstore 6, 2) := by decide +kernel
theorem dX4_add_29 : decode cX4_add 29 = .ok (.lload 6, 2) := by decide +kernel
theorem dX4_add_31 : decode cX4_add 31 = .ok (.lconst 0, 1) := by decide +kernel
theorem dX4_add_32 : decode cX4_add 32 = .ok (.lcmp, 1) := by decide +kernel
theorem dX4_add_33 : decode cX4_add 33 = .ok (.ifCond .gt 4, 3) := by decide +kernel
theorem dX4_add_36 : decode cX4_add 36 = .ok (.return_, 1) := by decide +kernel
theorem dX4_add_37 : decode cX4_add 37 = .ok (.aload_n 0, 1) := by decide +kernel
theorem dX4_add_38 : decode cX4_add 38 = .ok (.getfield 13, 3) := by decide +kernel
theorem dX4_add_41 : decode cX4_add 41 = .ok (.iload_n 1, 1) := by decide +kernel
theorem dX4_add_42 : decode cX4_add 42 = .ok (.laload, 1) := by decide +kernel
theorem dX4_add_43 : decode cX4_add 43 = .ok (.lload 6, 2) := by decide +kernel
theorem dX4_add_45 : decode cX4_add 45 = .ok (.ldiv, 1) := by decide +kernel
theorem dX4_add_46 : decode cX4_add 46 = .ok (.lstore 8, 2) := by decide +kernel
theorem dX4_add_48 : decode cX4_add 48 = .ok (.aload_n 0, 1) := by decide +kernel
theorem dX4_add_49 : decode cX4_add 49 = .ok (.getfield 7, 3) := by decide +kernel
theorem dX4_add_52 : decode cX4_add 52 = .ok (.iload_n 1, 1) := by decide +kernel
theorem dX4_add_53 : decode cX4_add 53 = .ok (.laload, 1) := by decide +kernel
theorem dX4_add_54 : decode cX4_add 54 = .ok (.lload 4, 2) := by decide +kernel
theorem dX4_add_56 : decode cX4_add 56 = .ok (.lload 6, 2) := by decide +kernel
theorem dX4_add_58 : decode cX4_add 58 = .ok (.ldiv, 1) := by decide +kernel
theorem dX4_add_59 : decode cX4_add 59 = .ok (.lmul, 1) := by decide +kernel
theorem dX4_add_60 : decode cX4_add 60 = .ok (.lload_n 2, 1) := by decide +kernel
theorem dX4_add_61 : decode cX4_add 61 = .ok (.lload 8, 2) := by decide +kernel
theorem dX4_add_63 : decode cX4_add 63 = .ok (.lmul, 1) := by decide +kernel
theorem dX4_add_64 : decode cX4_add 64 = .ok (.ladd, 1) := by decide +kernel
theorem dX4_add_65 : decode cX4_add 65 = .ok (.lstore 10, 2) := by decide +kernel
theorem dX4_add_67 : decode cX4_add 67 = .ok (.lload 8, 2) := by decide +kernel
theorem dX4_add_69 : decode cX4_add 69 = .ok (.lload 4, 2) := by decide +kernel
theorem dX4_add_71 : decode cX4_add 71 = .ok (.lmul, 1) := by decide +kernel
theorem dX4_add_72 : decode cX4_add 72 = .ok (.lstore 12, 2) := by decide +kernel
theorem dX4_add_74 : decode cX4_add 74 = .ok (.lload 10, 2) := by decide +kernel
theorem dX4_add_76 : decode cX4_add 76 = .ok (.lload 12, 2) := by decide +kernel
theorem dX4_add_78 : decode cX4_add 78 = .ok (.invokestatic 45, 3) := by decide +kernel
theorem dX4_add_81 : decode cX4_add 81 = .ok (.lstore 14, 2) := by decide +kernel
theorem dX4_add_83 : decode cX4_add 83 = .ok (.lload 14, 2) := by decide +kernel
theorem dX4_add_85 : decode cX4_add 85 = .ok (.lconst 0, 1) := by decide +kernel
theorem dX4_add_86 : decode cX4_add 86 = .ok (.lcmp, 1) := by decide +kernel
theorem dX4_add_87 : decode cX4_add 87 = .ok (.ifCond .le 25, 3) := by decide +kernel
theorem dX4_add_90 : decode cX4_add 90 = .ok (.aload_n 0, 1) := by decide +kernel
theorem dX4_add_91 : decode cX4_add 91 = .ok (.getfield 7, 3) := by decide +kernel
theorem dX4_add_94 : decode cX4_add 94 = .ok (.iload_n 1, 1) := by decide +kernel
theorem dX4_add_95 : decode cX4_add 95 = .ok (.lload 10, 2) := by decide +kernel
theorem dX4_add_97 : decode cX4_add 97 = .ok (.lload 14, 2) := by decide +kernel
theorem dX4_add_99 : decode cX4_add 99 = .ok (.ldiv, 1) := by decide +kernel
theorem dX4_add_100 : decode cX4_add 100 = .ok (.lastore, 1) := by decide +kernel
theorem dX4_add_101 : decode cX4_add 101 = .ok (.aload_n 0, 1) := by decide +kernel
theorem dX4_add_102 : decode cX4_add 102 = .ok (.getfield 13, 3) := by decide +kernel
theorem dX4_add_105 : decode cX4_add 105 = .ok (.iload_n 1, 1) := by decide +kernel
theorem dX4_add_106 : decode cX4_add 106 = .ok (.lload 12, 2) := by decide +kernel
theorem dX4_add_108 : decode cX4_add 108 = .ok (.lload 14, 2) := by decide +kernel
theorem dX4_add_110 : decode cX4_add 110 = .ok (.ldiv, 1) := by decide +kernel
theorem dX4_add_111 : decode cX4_add 111 = .ok (.lastore, 1) := by decide +kernel
theorem dX4_add_112 : decode cX4_add 112 = .ok (.return_, 1) := by decide +kernel
theorem dX4_isWholeTimes_0 : decode cX4_isWholeTimes 0 = .ok (.aload_n 0, 1) := by decide +kernel
theorem dX4_isWholeTimes_1 : decode cX4_isWholeTimes 1 = .ok (.iload_n 1, 1) := by decide +kernel
theorem dX4_isWholeTimes_2 : decode cX4_isWholeTimes 2 = .ok (.invokevirtual 30, 3) := by decide +kernel
theorem dX4_isWholeTimes_5 : decode cX4_isWholeTimes 5 = .ok (.lstore 4, 2) := by decide +kernel
theorem dX4_isWholeTimes_7 : decode cX4_isWholeTimes 7 = .ok (.lload 4, 2) := by decide +kernel
theorem dX4_isWholeTimes_9 : decode cX4_isWholeTimes 9 = .ok (.lconst 0, 1) := by decide +kernel
theorem dX4_isWholeTimes_10 : decode cX4_isWholeTimes 10 = .ok (.lcmp, 1) := by decide +kernel
theorem dX4_isWholeTimes_11 : decode cX4_isWholeTimes 11 = .ok (.ifCond .le 22, 3) := by decide +kernel
theorem dX4_isWholeTimes_14 : decode cX4_isWholeTimes 14 = .ok (.aload_n 0, 1) := by decide +kernel
theorem dX4_isWholeTimes_15 : decode cX4_isWholeTimes 15 = .ok (.iload_n 1, 1) := by decide +kernel
theorem dX4_isWholeTimes_16 : decode cX4_isWholeTimes 16 = .ok (.invokevirtual 26, 3) := by decide +kernel
theorem dX4_isWholeTimes_19 : decode cX4_isWholeTimes 19 = .ok (.lload_n 2, 1) := by decide +kernel
theorem dX4_isWholeTimes_20 : decode cX4_isWholeTimes 20 = .ok (.lmul, 1) := by decide +kernel
theorem dX4_isWholeTimes_21 : decode cX4_isWholeTimes 21 = .ok (.lload 4, 2) := by decide +kernel
theorem dX4_isWholeTimes_23 : decode cX4_isWholeTimes 23 = .ok (.lrem, 1) := by decide +kernel
theorem dX4_isWholeTimes_24 : decode cX4_isWholeTimes 24 = .ok (.lconst 0, 1) := by decide +kernel
theorem dX4_isWholeTimes_25 : decode cX4_isWholeTimes 25 = .ok (.lcmp, 1) := by decide +kernel
theorem dX4_isWholeTimes_26 : decode cX4_isWholeTimes 26 = .ok (.ifCond .ne 7, 3) := by decide +kernel
theorem dX4_isWholeTimes_29 : decode cX4_isWholeTimes 29 = .ok (.iconst 1, 1) := by decide +kernel
theorem dX4_isWholeTimes_30 : decode cX4_isWholeTimes 30 = .ok (.goto 4, 3) := by decide +kernel
theorem dX4_isWholeTimes_33 : decode cX4_isWholeTimes 33 = .ok (.iconst 0, 1) := by decide +kernel
theorem dX4_isWholeTimes_34 : decode cX4_isWholeTimes 34 = .ok (.ireturn, 1) := by decide +kernel
theorem dX4_wholeTimes_0 : decode cX4_wholeTimes 0 = .ok (.aload_n 0, 1) := by decide +kernel
theorem dX4_wholeTimes_1 : decode cX4_wholeTimes 1 = .ok (.iload_n 1, 1) := by decide +kernel
theorem dX4_wholeTimes_2 : decode cX4_wholeTimes 2 = .ok (.invokevirtual 22, 3) := by decide +kernel
theorem dX4_wholeTimes_5 : decode cX4_wholeTimes 5 = .ok (.ifCond .eq 14, 3) := by decide +kernel
theorem dX4_wholeTimes_8 : decode cX4_wholeTimes 8 = .ok (.aload_n 0, 1) := by decide +kernel
theorem dX4_wholeTimes_9 : decode cX4_wholeTimes 9 = .ok (.getfield 13, 3) := by decide +kernel
theorem dX4_wholeTimes_12 : decode cX4_wholeTimes 12 = .ok (.iload_n 1, 1) := by decide +kernel
theorem dX4_wholeTimes_13 : decode cX4_wholeTimes 13 = .ok (.laload, 1) := by decide +kernel
theorem dX4_wholeTimes_14 : decode cX4_wholeTimes 14 = .ok (.lconst 0, 1) := by decide +kernel
theorem dX4_wholeTimes_15 : decode cX4_wholeTimes 15 = .ok (.lcmp, 1) := by decide +kernel
theorem dX4_wholeTimes_16 : decode cX4_wholeTimes 16 = .ok (.ifCond .gt 5, 3) := by decide +kernel
theorem dX4_wholeTimes_19 : decode cX4_wholeTimes 19 = .ok (.lconst 0, 1) := by decide +kernel
theorem dX4_wholeTimes_20 : decode cX4_wholeTimes 20 = .ok (.lreturn, 1) := by decide +kernel
theorem dX4_wholeTimes_21 : decode cX4_wholeTimes 21 = .ok (.aload_n 0, 1) := by decide +kernel
theorem dX4_wholeTimes_22 : decode cX4_wholeTimes 22 = .ok (.getfield 7, 3) := by decide +kernel
theorem dX4_wholeTimes_25 : decode cX4_wholeTimes 25 = .ok (.iload_n 1, 1) := by decide +kernel
theorem dX4_wholeTimes_26 : decode cX4_wholeTimes 26 = .ok (.laload, 1) := by decide +kernel
theorem dX4_wholeTimes_27 : decode cX4_wholeTimes 27 = .ok (.aload_n 0, 1) := by decide +kernel
theorem dX4_wholeTimes_28 : decode cX4_wholeTimes 28 = .ok (.getfield 13, 3) := by decide +kernel
theorem dX4_wholeTimes_31 : decode cX4_wholeTimes 31 = .ok (.iload_n 1, 1) := by decide +kernel
theorem dX4_wholeTimes_32 : decode cX4_wholeTimes 32 = .ok (.laload, 1) := by decide +kernel
theorem dX4_wholeTimes_33 : decode cX4_wholeTimes 33 = .ok (.invokestatic 51, 3) := by decide +kernel
theorem dX4_wholeTimes_36 : decode cX4_wholeTimes 36 = .ok (.lstore 4, 2) := by decide +kernel
theorem dX4_wholeTimes_38 : decode cX4_wholeTimes 38 = .ok (.aload_n 0, 1) := by decide +kernel
theorem dX4_wholeTimes_39 : decode cX4_wholeTimes 39 = .ok (.getfield 7, 3) := by decide +kernel
theorem dX4_wholeTimes_42 : decode cX4_wholeTimes 42 = .ok (.iload_n 1, 1) := by decide +kernel
theorem dX4_wholeTimes_43 : decode cX4_wholeTimes 43 = .ok (.laload, 1) := by decide +kernel
theorem dX4_wholeTimes_44 : decode cX4_wholeTimes 44 = .ok (.aload_n 0, 1) := by decide +kernel
theorem dX4_wholeTimes_45 : decode cX4_wholeTimes 45 = .ok (.getfield 13, 3) := by decide +kernel
theorem dX4_wholeTimes_48 : decode cX4_wholeTimes 48 = .ok (.iload_n 1, 1) := by decide +kernel
theorem dX4_wholeTimes_49 : decode cX4_wholeTimes 49 = .ok (.laload, 1) := by decide +kernel
theorem dX4_wholeTimes_50 : decode cX4_wholeTimes 50 = .ok (.invokestatic 54, 3) := by decide +kernel
theorem dX4_wholeTimes_53 : decode cX4_wholeTimes 53 = .ok (.lload_n 2, 1) := by decide +kernel
theorem dX4_wholeTimes_54 : decode cX4_wholeTimes 54 = .ok (.lmul, 1) := by decide +kernel
theorem dX4_wholeTimes_55 : decode cX4_wholeTimes 55 = .ok (.lload 4, 2) := by decide +kernel
theorem dX4_wholeTimes_57 : decode cX4_wholeTimes 57 = .ok (.lload_n 2, 1) := by decide +kernel
theorem dX4_wholeTimes_58 : decode cX4_wholeTimes 58 = .ok (.lmul, 1) := by decide +kernel
theorem dX4_wholeTimes_59 : decode cX4_wholeTimes 59 = .ok (.aload_n 0, 1) := by decide +kernel
theorem dX4_wholeTimes_60 : decode cX4_wholeTimes 60 = .ok (.getfield 13, 3) := by decide +kernel
theorem dX4_wholeTimes_63 : decode cX4_wholeTimes 63 = .ok (.iload_n 1, 1) := by decide +kernel
theorem dX4_wholeTimes_64 : decode cX4_wholeTimes 64 = .ok (.laload, 1) := by decide +kernel
theorem dX4_wholeTimes_65 : decode cX4_wholeTimes 65 = .ok (.invokestatic 54, 3) := by decide +kernel
theorem dX4_wholeTimes_68 : decode cX4_wholeTimes 68 = .ok (.ladd, 1) := by decide +kernel
theorem dX4_wholeTimes_69 : decode cX4_wholeTimes 69 = .ok (.lreturn, 1) := by decide +kernel
theorem dX5_init_0 : decode cX5_init 0 = .ok (.aload_n 0, 1) := by decide +kernel
theorem dX5_init_1 : decode cX5_init 1 = .ok (.invokespecial 3, 3) := by decide +kernel
theorem dX5_init_4 : decode cX5_init 4 = .ok (.aload_n 0, 1) := by decide +kernel
theorem dX5_init_5 : decode cX5_init 5 = .ok (.iconst 1, 1) := by decide +kernel
theorem dX5_init_6 : decode cX5_init 6 = .ok (.putfield 9, 3) := by decide +kernel
theorem dX5_init_9 : decode cX5_init 9 = .ok (.aload_n 0, 1) := by decide +kernel
theorem dX5_init_10 : decode cX5_init 10 = .ok (.iload_n 1, 1) := by decide +kernel
theorem dX5_init_11 : decode cX5_init 11 = .ok (.putfield 15, 3) := by decide +kernel
theorem dX5_init_14 : decode cX5_init 14 = .ok (.aload_n 0, 1) := by decide +kernel
theorem dX5_init_15 : decode cX5_init 15 = .ok (.iload_n 2, 1) := by decide +kernel
theorem dX5_init_16 : decode cX5_init 16 = .ok (.putfield 19, 3) := by decide +kernel
theorem dX5_init_19 : decode cX5_init 19 = .ok (.aload_n 0, 1) := by decide +kernel
theorem dX5_init_20 : decode cX5_init 20 = .ok (.iload_n 3, 1) := by decide +kernel
theorem dX5_init_21 : decode cX5_init 21 = .ok (.putfield 23, 3) := by decide +kernel
theorem dX5_init_24 : decode cX5_init 24 = .ok (.aload_n 0, 1) := by decide +kernel
theorem dX5_init_25 : decode cX5_init 25 = .ok (.iload 4, 2) := by decide +kernel
theorem dX5_init_27 : decode cX5_init 27 = .ok (.putfield 26, 3) := by decide +kernel
theorem dX5_init_30 : decode cX5_init 30 = .ok (.aload_n 0, 1) := by decide +kernel
theorem dX5_init_31 : decode cX5_init 31 = .ok (.iload 5, 2) := by decide +kernel
theorem dX5_init_33 : decode cX5_init 33 = .ok (.putfield 29, 3) := by decide +kernel
theorem dX5_init_36 : decode cX5_init 36 = .ok (.aload_n 0, 1) := by decide +kernel
theorem dX5_init_37 : decode cX5_init 37 = .ok (.iload 6, 2) := by decide +kernel
theorem dX5_init_39 : decode cX5_init 39 = .ok (.putfield 32, 3) := by decide +kernel
theorem dX5_init_42 : decode cX5_init 42 = .ok (.aload_n 0, 1) := by decide +kernel
theorem dX5_init_43 : decode cX5_init 43 = .ok (.iload 7, 2) := by decide +kernel
theorem dX5_init_45 : decode cX5_init 45 = .ok (.putfield 35, 3) := by decide +kernel
theorem dX5_init_48 : decode cX5_init 48 = .ok (.return_, 1) := by decide +kernel
theorem dX5_hasSecond_0 : decode cX5_hasSecond 0 = .ok (.aload_n 0, 1) := by decide +kernel
theorem dX5_hasSecond_1 : decode cX5_hasSecond 1 = .ok (.getfield 26, 3) := by decide +kernel
theorem dX5_hasSecond_4 : decode cX5_hasSecond 4 = .ok (.ifCond .lt 7, 3) := by decide +kernel
theorem dX5_hasSecond_7 : decode cX5_hasSecond 7 = .ok (.iconst 1, 1) := by decide +kernel
theorem dX5_hasSecond_8 : decode cX5_hasSecond 8 = .ok (.goto 4, 3) := by decide +kernel
theorem dX5_hasSecond_11 : decode cX5_hasSecond 11 = .ok (.iconst 0, 1) := by decide +kernel
theorem dX5_hasSecond_12 : decode cX5_hasSecond 12 = .ok (.ireturn, 1) := by decide +kernel
theorem dX5_doesAct_0 : decode cX5_doesAct 0 = .ok (.aload_n 0, 1) := by decide +kernel
theorem dX5_doesAct_1 : decode cX5_doesAct 1 = .ok (.getfield 9, 3) := by decide +kernel
theorem dX5_doesAct_4 : decode cX5_doesAct 4 = .ok (.ifCond .eq 14, 3) := by decide +kernel
theorem dX5_doesAct_7 : decode cX5_doesAct 7 = .ok (.aload_n 0, 1) := by decide +kernel
theorem dX5_doesAct_8 : decode cX5_doesAct 8 = .ok (.getfield 38, 3) := by decide +kernel
theorem dX5_doesAct_11 : decode cX5_doesAct 11 = .ok (.ifCond .ne 7, 3) := by decide +kernel
theorem dX5_doesAct_14 : decode cX5_doesAct 14 = .ok (.iconst 1, 1) := by decide +kernel
theorem dX5_doesAct_15 : decode cX5_doesAct 15 = .ok (.goto 4, 3) := by decide +kernel
theorem dX5_doesAct_18 : decode cX5_doesAct 18 = .ok (.iconst 0, 1) := by decide +kernel
theorem dX5_doesAct_19 : decode cX5_doesAct 19 = .ok (.ireturn, 1) := by decide +kernel
theorem dX5_isJerky_0 : decode cX5_isJerky 0 = .ok (.aload_n 0, 1) := by decide +kernel
theorem dX5_isJerky_1 : decode cX5_isJerky 1 = .ok (.getfield 19, 3) := by decide +kernel
theorem dX5_isJerky_4 : decode cX5_isJerky 4 = .ok (.bipush 118, 2) := by decide +kernel
theorem dX5_isJerky_6 : decode cX5_isJerky 6 = .ok (.if_icmp .eq 12, 3) := by decide +kernel
theorem dX5_isJerky_9 : decode cX5_isJerky 9 = .ok (.aload_n 0, 1) := by decide +kernel
theorem dX5_isJerky_10 : decode cX5_isJerky 10 = .ok (.getfield 19, 3) := by decide +kernel
theorem dX5_isJerky_13 : decode cX5_isJerky 13 = .ok (.bipush 114, 2) := by decide +kernel
theorem dX5_isJerky_15 : decode cX5_isJerky 15 = .ok (.if_icmp .ne 7, 3) := by decide +kernel
theorem dX5_isJerky_18 : decode cX5_isJerky 18 = .ok (.iconst 1, 1) := by decide +kernel
theorem dX5_isJerky_19 : decode cX5_isJerky 19 = .ok (.goto 4, 3) := by decide +kernel
theorem dX5_isJerky_22 : decode cX5_isJerky 22 = .ok (.iconst 0, 1) := by decide +kernel
theorem dX5_isJerky_23 : decode cX5_isJerky 23 = .ok (.ireturn, 1) := by decide +kernel
theorem dX5_over_0 : decode cX5_over 0 = .ok (.aload_n 0, 1) := by decide +kernel
theorem dX5_over_1 : decode cX5_over 1 = .ok (.getfield 19, 3) := by decide +kernel
theorem dX5_over_4 : decode cX5_over 4 = .ok (.bipush 103, 2) := by decide +kernel
theorem dX5_over_6 : decode cX5_over 6 = .ok (.if_icmp .ne 9, 3) := by decide +kernel
theorem dX5_over_9 : decode cX5_over 9 = .ok (.aload_n 0, 1) := by decide +kernel
theorem dX5_over_10 : decode cX5_over 10 = .ok (.getfield 32, 3) := by decide +kernel
theorem dX5_over_13 : decode cX5_over 13 = .ok (.ineg, 1) := by decide +kernel
theorem dX5_over_14 : decode cX5_over 14 = .ok (.ireturn, 1) := by decide +kernel
theorem dX5_over_15 : decode cX5_over 15 = .ok (.aload_n 0, 1) := by decide +kernel
theorem dX5_over_16 : decode cX5_over 16 = .ok (.getfield 19, 3) := by decide +kernel
theorem dX5_over_19 : decode cX5_over 19 = .ok (.bipush 105, 2) := by decide +kernel
theorem dX5_over_21 : decode cX5_over 21 = .ok (.if_icmp .eq 12, 3) := by decide +kernel
theorem dX5_over_24 : decode cX5_over 24 = .ok (.aload_n 0, 1) := by decide +kernel
theorem dX5_over_25 : decode cX5_over 25 = .ok (.getfield 19, 3) := by decide +kernel
theorem dX5_over_28 : decode cX5_over 28 = .ok (.bipush 112, 2) := by decide +kernel
theorem dX5_over_30 : decode cX5_over 30 = .ok (.if_icmp .ne 10, 3) := by decide +kernel
theorem dX5_over_33 : decode cX5_over 33 = .ok (.aload_n 0, 1) := by decide +kernel
theorem dX5_over_34 : decode cX5_over 34 = .ok (.getfield 32, 3) := by decide +kernel
theorem dX5_over_37 : decode cX5_over 37 = .ok (.goto 4, 3) := by decide +kernel
theorem dX5_over_40 : decode cX5_over 40 = .ok (.iconst 1, 1) := by decide +kernel
theorem dX5_over_41 : decode cX5_over 41 = .ok (.ireturn, 1) := by decide +kernel
theorem dX5_under_0 : decode cX5_under 0 = .ok (.aload_n 0, 1) := by decide +kernel
theorem dX5_under_1 : decode cX5_under 1 = .ok (.getfield 19, 3) := by decide +kernel
theorem dX5_under_4 : decode cX5_under 4 = .ok (.bipush 103, 2) := by decide +kernel
theorem dX5_under_6 : decode cX5_under 6 = .ok (.if_icmp .eq 12, 3) := by decide +kernel
theorem dX5_under_9 : decode cX5_under 9 = .ok (.aload_n 0, 1) := by decide +kernel
theorem dX5_under_10 : decode cX5_under 10 = .ok (.getfield 19, 3) := by decide +kernel
theorem dX5_under_13 : decode cX5_under 13 = .ok (.bipush 105, 2) := by decide +kernel
theorem dX5_under_15 : decode cX5_under 15 = .ok (.if_icmp .ne 8, 3) := by decide +kernel
theorem dX5_under_18 : decode cX5_under 18 = .ok (.aload_n 0, 1) := by decide +kernel
theorem dX5_under_19 : decode cX5_under 19 = .ok (.getfield 35, 3) := by decide +kernel
theorem dX5_under_22 : decode cX5_under 22 = .ok (.ireturn, 1) := by decide +kernel
theorem dX5_under_23 : decode cX5_under 23 = .ok (.aload_n 0, 1) := by decide +kernel
theorem dX5_under_24 : decode cX5_under 24 = .ok (.getfield 19, 3) := by decide +kernel
theorem dX5_under_27 : decode cX5_under 27 = .ok (.bipush 112, 2) := by decide +kernel
theorem dX5_under_29 : decode cX5_under 29 = .ok (.if_icmp .ne 13, 3) := by decide +kernel
theorem dX5_under_32 : decode cX5_under 32 = .ok (.aload_n 0, 1) := by decide +kernel
theorem dX5_under_33 : decode cX5_under 33 = .ok (.getfield 32, 3) := by decide +kernel
theorem dX5_under_36 : decode cX5_under 36 = .ok (.aload_n 0, 1) := by decide +kernel
theorem dX5_under_37 : decode cX5_under 37 = .ok (.getfield 35, 3) := by decide +kernel
theorem dX5_under_40 : decode cX5_under 40 = .ok (.iadd, 1) := by decide +kernel
theorem dX5_under_41 : decode cX5_under 41 = .ok (.ireturn, 1) := by decide +kernel
theorem dX5_under_42 : decode cX5_under 42 = .ok (.aload_n 0, 1) := by decide +kernel
theorem dX5_under_43 : decode cX5_under 43 = .ok (.getfield 19, 3) := by decide +kernel
theorem dX5_under_46 : decode cX5_under 46 = .ok (.bipush 118, 2) := by decide +kernel
theorem dX5_under_48 : decode cX5_under 48 = .ok (.if_icmp .ne 10, 3) := by decide +kernel
theorem dX5_under_51 : decode cX5_under 51 = .ok (.aload_n 0, 1) := by decide +kernel
theorem dX5_under_52 : decode cX5_under 52 = .ok (.getfield 32, 3) := by decide +kernel
theorem dX5_under_55 : decode cX5_under 55 = .ok (.goto 4, 3) := by decide +kernel
theorem dX5_under_58 : decode cX5_under 58 = .ok (.iconst 1, 1) := by decide +kernel
theorem dX5_under_59 : decode cX5_under 59 = .ok (.ireturn, 1) := by decide +kernel
theorem dX5_carry_0 : decode cX5_carry 0 = .ok (.aload_n 1, 1) := by decide +kernel
theorem dX5_carry_1 : decode cX5_carry 1 = .ok (.aload_n 0, 1) := by decide +kernel
theorem dX5_carry_2 : decode cX5_carry 2 = .ok (.getfield 29, 3) := by decide +kernel
theorem dX5_carry_5 : decode cX5_carry 5 = .ok (.aload_n 1, 1) := by decide +kernel
theorem dX5_carry_6 : decode cX5_carry 6 = .ok (.aload_n 0, 1) := by decide +kernel
theorem dX5_carry_7 : decode cX5_carry 7 = .ok (.getfield 23, 3) := by decide +kernel
theorem dX5_carry_10 : decode cX5_carry 10 = .ok (.invokevirtual 41, 3) := by decide +kernel
theorem dX5_carry_13 : decode cX5_carry 13 = .ok (.iload_n 2, 1) := by decide +kernel
theorem dX5_carry_14 : decode cX5_carry 14 = .ok (.i2l, 1) := by decide +kernel
theorem dX5_carry_15 : decode cX5_carry 15 = .ok (.lmul, 1) := by decide +kernel
theorem dX5_carry_16 : decode cX5_carry 16 = .ok (.aload_n 1, 1) := by decide +kernel
theorem dX5_carry_17 : decode cX5_carry 17 = .ok (.aload_n 0, 1) := by decide +kernel
theorem dX5_carry_18 : decode cX5_carry 18 = .ok (.getfield 23, 3) := by decide +kernel
theorem dX5_carry_21 : decode cX5_carry 21 = .ok (.invokevirtual 47, 3) := by decide +kernel
theorem dX5_carry_24 : decode cX5_carry 24 = .ok (.aload_n 0, 1) := by decide +kernel
theorem dX5_carry_25 : decode cX5_carry 25 = .ok (.invokevirtual 50, 3) := by decide +kernel
theorem dX5_carry_28 : decode cX5_carry 28 = .ok (.i2l, 1) := by decide +kernel
theorem dX5_carry_29 : decode cX5_carry 29 = .ok (.lmul, 1) := by decide +kernel
theorem dX5_carry_30 : decode cX5_carry 30 = .ok (.invokevirtual 54, 3) := by decide +kernel
theorem dX5_carry_33 : decode cX5_carry 33 = .ok (.aload_n 0, 1) := by decide +kernel
theorem dX5_carry_34 : decode cX5_carry 34 = .ok (.invokevirtual 58, 3) := by decide +kernel
theorem dX5_carry_37 : decode cX5_carry 37 = .ok (.ifCond .eq 39, 3) := by decide +kernel
theorem dX5_carry_40 : decode cX5_carry 40 = .ok (.aload_n 1, 1) := by decide +kernel
theorem dX5_carry_41 : decode cX5_carry 41 = .ok (.aload_n 0, 1) := by decide +kernel
theorem dX5_carry_42 : decode cX5_carry 42 = .ok (.getfield 29, 3) := by decide +kernel
theorem dX5_carry_45 : decode cX5_carry 45 = .ok (.aload_n 1, 1) := by decide +kernel
theorem dX5_carry_46 : decode cX5_carry 46 = .ok (.aload_n 0, 1) := by decide +kernel
theorem dX5_carry_47 : decode cX5_carry 47 = .ok (.getfield 26, 3) := by decide +kernel
theorem dX5_carry_50 : decode cX5_carry 50 = .ok (.invokevirtual 41, 3) := by decide +kernel
theorem dX5_carry_53 : decode cX5_carry 53 = .ok (.aload_n 0, 1) := by decide +kernel
theorem dX5_carry_54 : decode cX5_carry 54 = .ok (.getfield 35, 3) := by decide +kernel
theorem dX5_carry_57 : decode cX5_carry 57 = .ok (.i2l, 1) := by decide +kernel
theorem dX5_carry_58 : decode cX5_carry 58 = .ok (.lmul, 1) := by decide +kernel
theorem dX5_carry_59 : decode cX5_carry 59 = .ok (.aload_n 1, 1) := by decide +kernel
theorem dX5_carry_60 : decode cX5_carry 60 = .ok (.aload_n 0, 1) := by decide +kernel
theorem dX5_carry_61 : decode cX5_carry 61 = .ok (.getfield 26, 3) := by decide +kernel
theorem dX5_carry_64 : decode cX5_carry 64 = .ok (.invokevirtual 47, 3) := by decide +kernel
theorem dX5_carry_67 : decode cX5_carry 67 = .ok (.aload_n 0, 1) := by decide +kernel
theorem dX5_carry_68 : decode cX5_carry 68 = .ok (.invokevirtual 50, 3) := by decide +kernel
theorem dX5_carry_71 : decode cX5_carry 71 = .ok (.i2l, 1) := by decide +kernel
theorem dX5_carry_72 : decode cX5_carry 72 = .ok (.lmul, 1) := by decide +kernel
theorem dX5_carry_73 : decode cX5_carry 73 = .ok (.invokevirtual 54, 3) := by decide +kernel
theorem dX5_carry_76 : decode cX5_carry 76 = .ok (.return_, 1) := by decide +kernel
theorem dX6_init_0 : decode cX6_init 0 = .ok (.aload_n 0, 1) := by decide +kernel
theorem dX6_init_1 : decode cX6_init 1 = .ok (.invokespecial 3, 3) := by decide +kernel
theorem dX6_init_4 : decode cX6_init 4 = .ok (.aload_n 0, 1) := by decide +kernel
theorem dX6_init_5 : decode cX6_init 5 = .ok (.new 9, 3) := by decide +kernel
theorem dX6_init_8 : decode cX6_init 8 = .ok (.dup, 1) := by decide +kernel
theorem dX6_init_9 : decode cX6_init 9 = .ok (.bipush 14, 2) := by decide +kernel
theorem dX6_init_11 : decode cX6_init 11 = .ok (.invokespecial 11, 3) := by decide +kernel
theorem dX6_init_14 : decode cX6_init 14 = .ok (.putfield 14, 3) := by decide +kernel
theorem dX6_init_17 : decode cX6_init 17 = .ok (.aload_n 0, 1) := by decide +kernel
theorem dX6_init_18 : decode cX6_init 18 = .ok (.new 9, 3) := by decide +kernel
theorem dX6_init_21 : decode cX6_init 21 = .ok (.dup, 1) := by decide +kernel
theorem dX6_init_22 : decode cX6_init 22 = .ok (.bipush 14, 2) := by decide +kernel
theorem dX6_init_24 : decode cX6_init 24 = .ok (.invokespecial 11, 3) := by decide +kernel
theorem dX6_init_27 : decode cX6_init 27 = .ok (.putfield 20, 3) := by decide +kernel
theorem dX6_init_30 : decode cX6_init 30 = .ok (.aload_n 0, 1) := by decide +kernel
theorem dX6_init_31 : decode cX6_init 31 = .ok (.new 9, 3) := by decide +kernel
theorem dX6_init_34 : decode cX6_init 34 = .ok (.dup, 1) := by decide +kernel
theorem dX6_init_35 : decode cX6_init 35 = .ok (.bipush 14, 2) := by decide +kernel
theorem dX6_init_37 : decode cX6_init 37 = .ok (.invokespecial 11, 3) := by decide +kernel
theorem dX6_init_40 : decode cX6_init 40 = .ok (.putfield 23, 3) := by decide +kernel
theorem dX6_init_43 : decode cX6_init 43 = .ok (.aload_n 0, 1) := by decide +kernel
theorem dX6_init_44 : decode cX6_init 44 = .ok (.bipush 16, 2) := by decide +kernel
theorem dX6_init_46 : decode cX6_init 46 = .ok (.newarray .long, 2) := by decide +kernel
theorem dX6_init_48 : decode cX6_init 48 = .ok (.putfield 26, 3) := by decide +kernel
theorem dX6_init_51 : decode cX6_init 51 = .ok (.aload_n 0, 1) := by decide +kernel
theorem dX6_init_52 : decode cX6_init 52 = .ok (.bipush 16, 2) := by decide +kernel
theorem dX6_init_54 : decode cX6_init 54 = .ok (.newarray .boolean, 2) := by decide +kernel
theorem dX6_init_56 : decode cX6_init 56 = .ok (.putfield 30, 3) := by decide +kernel
theorem dX6_init_59 : decode cX6_init 59 = .ok (.return_, 1) := by decide +kernel
theorem dX6_copyFrom_0 : decode cX6_copyFrom 0 = .ok (.aload_n 0, 1) := by decide +kernel
theorem dX6_copyFrom_1 : decode cX6_copyFrom 1 = .ok (.getfield 14, 3) := by decide +kernel
theorem dX6_copyFrom_4 : decode cX6_copyFrom 4 = .ok (.aload_n 1, 1) := by decide +kernel
theorem dX6_copyFrom_5 : decode cX6_copyFrom 5 = .ok (.getfield 14, 3) := by decide +kernel
theorem dX6_copyFrom_8 : decode cX6_copyFrom 8 = .ok (.invokevirtual 34, 3) := by decide +kernel
theorem dX6_copyFrom_11 : decode cX6_copyFrom 11 = .ok (.iconst 0, 1) := by decide +kernel
theorem dX6_copyFrom_12 : decode cX6_copyFrom 12 = .ok (.istore_n 2, 1) := by decide +kernel
theorem dX6_copyFrom_13 : decode cX6_copyFrom 13 = .ok (.iload_n 2, 1) := by decide +kernel
theorem dX6_copyFrom_14 : decode cX6_copyFrom 14 = .ok (.bipush 16, 2) := by decide +kernel
theorem dX6_copyFrom_16 : decode cX6_copyFrom 16 = .ok (.if_icmp .ge 33, 3) := by decide +kernel
theorem dX6_copyFrom_19 : decode cX6_copyFrom 19 = .ok (.aload_n 0, 1) := by decide +kernel
theorem dX6_copyFrom_20 : decode cX6_copyFrom 20 = .ok (.getfield 26, 3) := by decide +kernel
theorem dX6_copyFrom_23 : decode cX6_copyFrom 23 = .ok (.iload_n 2, 1) := by decide +kernel
theorem dX6_copyFrom_24 : decode cX6_copyFrom 24 = .ok (.aload_n 1, 1) := by decide +kernel
theorem dX6_copyFrom_25 : decode cX6_copyFrom 25 = .ok (.getfield 26, 3) := by decide +kernel
theorem dX6_copyFrom_28 : decode cX6_copyFrom 28 = .ok (.iload_n 2, 1) := by decide +kernel
theorem dX6_copyFrom_29 : decode cX6_copyFrom 29 = .ok (.laload, 1) := by decide +kernel
theorem dX6_copyFrom_30 : decode cX6_copyFrom 30 = .ok (.lastore, 1) := by decide +kernel
theorem dX6_copyFrom_31 : decode cX6_copyFrom 31 = .ok (.aload_n 0, 1) := by decide +kernel
theorem dX6_copyFrom_32 : decode cX6_copyFrom 32 = .ok (.getfield 30, 3) := by decide +kernel
theorem dX6_copyFrom_35 : decode cX6_copyFrom 35 = .ok (.iload_n 2, 1) := by decide +kernel
theorem dX6_copyFrom_36 : decode cX6_copyFrom 36 = .ok (.aload_n 1, 1) := by decide +kernel
theorem dX6_copyFrom_37 : decode cX6_copyFrom 37 = .ok (.getfield 30, 3) := by decide +kernel
theorem dX6_copyFrom_40 : decode cX6_copyFrom 40 = .ok (.iload_n 2, 1) := by decide +kernel
theorem dX6_copyFrom_41 : decode cX6_copyFrom 41 = .ok (.baload, 1) := by decide +kernel
theorem dX6_copyFrom_42 : decode cX6_copyFrom 42 = .ok (.bastore, 1) := by decide +kernel
theorem dX6_copyFrom_43 : decode cX6_copyFrom 43 = .ok (.iinc 2 1, 3) := by decide +kernel
theorem dX6_copyFrom_46 : decode cX6_copyFrom 46 = .ok (.goto (-33), 3) := by decide +kernel
theorem dX6_copyFrom_49 : decode cX6_copyFrom 49 = .ok (.return_, 1) := by decide +kernel
theorem dX6_has_0 : decode cX6_has 0 = .ok (.aload_n 0, 1) := by decide +kernel
theorem dX6_has_1 : decode cX6_has 1 = .ok (.getfield 38, 3) := by decide +kernel
theorem dX6_has_4 : decode cX6_has 4 = .ok (.ifCond .lt 16, 3) := by decide +kernel
theorem dX6_has_7 : decode cX6_has 7 = .ok (.aload_n 0, 1) := by decide +kernel
theorem dX6_has_8 : decode cX6_has 8 = .ok (.getfield 38, 3) := by decide +kernel
theorem dX6_has_11 : decode cX6_has 11 = .ok (.bipush 16, 2) := by decide +kernel
theorem dX6_has_13 : decode cX6_has 13 = .ok (.if_icmp .ge 7, 3) := by decide +kernel
theorem dX6_has_16 : decode cX6_has 16 = .ok (.iconst 1, 1) := by decide +kernel
theorem dX6_has_17 : decode cX6_has 17 = .ok (.goto 4, 3) := by decide +kernel
theorem dX6_has_20 : decode cX6_has 20 = .ok (.iconst 0, 1) := by decide +kernel
theorem dX6_has_21 : decode cX6_has 21 = .ok (.ireturn, 1) := by decide +kernel
theorem dX6_doesAct_0 : decode cX6_doesAct 0 = .ok (.aload_n 1, 1) := by decide +kernel
theorem dX6_doesAct_1 : decode cX6_doesAct 1 = .ok (.invokestatic 44, 3) := by decide +kernel
theorem dX6_doesAct_4 : decode cX6_doesAct 4 = .ok (.ifCond .eq 19, 3) := by decide +kernel
theorem dX6_doesAct_7 : decode cX6_doesAct 7 = .ok (.aload_n 0, 1) := by decide +kernel
theorem dX6_doesAct_8 : decode cX6_doesAct 8 = .ok (.getfield 30, 3) := by decide +kernel
theorem dX6_doesAct_11 : decode cX6_doesAct 11 = .ok (.aload_n 1, 1) := by decide +kernel
theorem dX6_doesAct_12 : decode cX6_doesAct 12 = .ok (.getfield 38, 3) := by decide +kernel
theorem dX6_doesAct_15 : decode cX6_doesAct 15 = .ok (.baload, 1) := by decide +kernel
theorem dX6_doesAct_16 : decode cX6_doesAct 16 = .ok (.ifCond .eq 7, 3) := by decide +kernel
theorem dX6_doesAct_19 : decode cX6_doesAct 19 = .ok (.iconst 1, 1) := by decide +kernel
theorem dX6_doesAct_20 : decode cX6_doesAct 20 = .ok (.goto 4, 3) := by decide +kernel
theorem dX6_doesAct_23 : decode cX6_doesAct 23 = .ok (.iconst 0, 1) := by decide +kernel
theorem dX6_doesAct_24 : decode cX6_doesAct 24 = .ok (.ireturn, 1) := by decide +kernel
theorem dX6_setActs_0 : decode cX6_setActs 0 = .ok (.aload_n 1, 1) := by decide +kernel
theorem dX6_setActs_1 : decode cX6_setActs 1 = .ok (.invokestatic 44, 3) := by decide +kernel
theorem dX6_setActs_4 : decode cX6_setActs 4 = .ok (.ifCond .eq 13, 3) := by decide +kernel
theorem dX6_setActs_7 : decode cX6_setActs 7 = .ok (.aload_n 0, 1) := by decide +kernel
theorem dX6_setActs_8 : decode cX6_setActs 8 = .ok (.getfield 30, 3) := by decide +kernel
theorem dX6_setActs_11 : decode cX6_setActs 11 = .ok (.aload_n 1, 1) := by decide +kernel
theorem dX6_setActs_12 : decode cX6_setActs 12 = .ok (.getfield 38, 3) := by decide +kernel
theorem dX6_setActs_15 : decode cX6_setActs 15 = .ok (.iload_n 2, 1) := by decide +kernel
theorem dX6_setActs_16 : decode cX6_setActs 16 = .ok (.bastore, 1) := by decide +kernel
theorem dX6_setActs_17 : decode cX6_setActs 17 = .ok (.return_, 1) := by decide +kernel
theorem dX6_begin_0 : decode cX6_begin 0 = .ok (.aload_n 1, 1) := by decide +kernel
theorem dX6_begin_1 : decode cX6_begin 1 = .ok (.invokestatic 44, 3) := by decide +kernel
