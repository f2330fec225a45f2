theorem dX1_isWhole_0 : decode cX1_isWhole 0 = .ok (.aload_n 0, 1) := by decide +kernel
theorem dX1_isWhole_1 : decode cX1_isWhole 1 = .ok (.getfield 35, 3) := by decide +kernel
theorem dX1_isWhole_4 : decode cX1_isWhole 4 = .ok (.bipush 24, 2) := by decide +kernel
theorem dX1_isWhole_6 : decode cX1_isWhole 6 = .ok (.if_icmp .ne 7, 3) := by decide +kernel
theorem dX1_isWhole_9 : decode cX1_isWhole 9 = .ok (.iconst 1, 1) := by decide +kernel
theorem dX1_isWhole_10 : decode cX1_isWhole 10 = .ok (.goto 4, 3) := by decide +kernel
theorem dX1_isWhole_13 : decode cX1_isWhole 13 = .ok (.iconst 0, 1) := by decide +kernel
theorem dX1_isWhole_14 : decode cX1_isWhole 14 = .ok (.ireturn, 1) := by decide +kernel
theorem dX1_startOf_0 : decode cX1_startOf 0 = .ok (.iload_n 1, 1) := by decide +kernel
theorem dX1_startOf_1 : decode cX1_startOf 1 = .ok (.ifCond .ne 12, 3) := by decide +kernel
theorem dX1_startOf_4 : decode cX1_startOf 4 = .ok (.aload_n 0, 1) := by decide +kernel
theorem dX1_startOf_5 : decode cX1_startOf 5 = .ok (.getfield 38, 3) := by decide +kernel
theorem dX1_startOf_8 : decode cX1_startOf 8 = .ok (.iconst 1, 1) := by decide +kernel
theorem dX1_startOf_9 : decode cX1_startOf 9 = .ok (.isub, 1) := by decide +kernel
theorem dX1_startOf_10 : decode cX1_startOf 10 = .ok (.goto 6, 3) := by decide +kernel
theorem dX1_startOf_13 : decode cX1_startOf 13 = .ok (.iload_n 1, 1) := by decide +kernel
theorem dX1_startOf_14 : decode cX1_startOf 14 = .ok (.iconst 1, 1) := by decide +kernel
theorem dX1_startOf_15 : decode cX1_startOf 15 = .ok (.isub, 1) := by decide +kernel
theorem dX1_startOf_16 : decode cX1_startOf 16 = .ok (.istore_n 2, 1) := by decide +kernel
theorem dX1_startOf_17 : decode cX1_startOf 17 = .ok (.iload_n 2, 1) := by decide +kernel
theorem dX1_startOf_18 : decode cX1_startOf 18 = .ok (.ifCond .lt 18, 3) := by decide +kernel
theorem dX1_startOf_21 : decode cX1_startOf 21 = .ok (.iload_n 2, 1) := by decide +kernel
theorem dX1_startOf_22 : decode cX1_startOf 22 = .ok (.bipush 24, 2) := by decide +kernel
theorem dX1_startOf_24 : decode cX1_startOf 24 = .ok (.if_icmp .ge 12, 3) := by decide +kernel
theorem dX1_startOf_27 : decode cX1_startOf 27 = .ok (.aload_n 0, 1) := by decide +kernel
theorem dX1_startOf_28 : decode cX1_startOf 28 = .ok (.getfield 15, 3) := by decide +kernel
theorem dX1_startOf_31 : decode cX1_startOf 31 = .ok (.iload_n 2, 1) := by decide +kernel
theorem dX1_startOf_32 : decode cX1_startOf 32 = .ok (.iaload, 1) := by decide +kernel
theorem dX1_startOf_33 : decode cX1_startOf 33 = .ok (.goto 4, 3) := by decide +kernel
theorem dX1_startOf_36 : decode cX1_startOf 36 = .ok (.iconst 0, 1) := by decide +kernel
theorem dX1_startOf_37 : decode cX1_startOf 37 = .ok (.ireturn, 1) := by decide +kernel
theorem dX1_heightAt_0 : decode cX1_heightAt 0 = .ok (.iload_n 1, 1) := by decide +kernel
theorem dX1_heightAt_1 : decode cX1_heightAt 1 = .ok (.istore_n 2, 1) := by decide +kernel
theorem dX1_heightAt_2 : decode cX1_heightAt 2 = .ok (.iconst 0, 1) := by decide +kernel
theorem dX1_heightAt_3 : decode cX1_heightAt 3 = .ok (.istore_n 3, 1) := by decide +kernel
theorem dX1_heightAt_4 : decode cX1_heightAt 4 = .ok (.iload_n 3, 1) := by decide +kernel
theorem dX1_heightAt_5 : decode cX1_heightAt 5 = .ok (.aload_n 0, 1) := by decide +kernel
theorem dX1_heightAt_6 : decode cX1_heightAt 6 = .ok (.getfield 38, 3) := by decide +kernel
theorem dX1_heightAt_9 : decode cX1_heightAt 9 = .ok (.if_icmp .ge 45, 3) := by decide +kernel
theorem dX1_heightAt_12 : decode cX1_heightAt 12 = .ok (.iload_n 2, 1) := by decide +kernel
theorem dX1_heightAt_13 : decode cX1_heightAt 13 = .ok (.aload_n 0, 1) := by decide +kernel
theorem dX1_heightAt_14 : decode cX1_heightAt 14 = .ok (.getfield 9, 3) := by decide +kernel
theorem dX1_heightAt_17 : decode cX1_heightAt 17 = .ok (.iload_n 3, 1) := by decide +kernel
theorem dX1_heightAt_18 : decode cX1_heightAt 18 = .ok (.iaload, 1) := by decide +kernel
theorem dX1_heightAt_19 : decode cX1_heightAt 19 = .ok (.if_icmp .lt 13, 3) := by decide +kernel
theorem dX1_heightAt_22 : decode cX1_heightAt 22 = .ok (.iload_n 3, 1) := by decide +kernel
theorem dX1_heightAt_23 : decode cX1_heightAt 23 = .ok (.aload_n 0, 1) := by decide +kernel
theorem dX1_heightAt_24 : decode cX1_heightAt 24 = .ok (.getfield 38, 3) := by decide +kernel
theorem dX1_heightAt_27 : decode cX1_heightAt 27 = .ok (.iconst 1, 1) := by decide +kernel
theorem dX1_heightAt_28 : decode cX1_heightAt 28 = .ok (.isub, 1) := by decide +kernel
theorem dX1_heightAt_29 : decode cX1_heightAt 29 = .ok (.if_icmp .ne 10, 3) := by decide +kernel
theorem dX1_heightAt_32 : decode cX1_heightAt 32 = .ok (.aload_n 0, 1) := by decide +kernel
theorem dX1_heightAt_33 : decode cX1_heightAt 33 = .ok (.iload_n 3, 1) := by decide +kernel
theorem dX1_heightAt_34 : decode cX1_heightAt 34 = .ok (.iload_n 2, 1) := by decide +kernel
theorem dX1_heightAt_35 : decode cX1_heightAt 35 = .ok (.invokevirtual 41, 3) := by decide +kernel
theorem dX1_heightAt_38 : decode cX1_heightAt 38 = .ok (.areturn, 1) := by decide +kernel
theorem dX1_heightAt_39 : decode cX1_heightAt 39 = .ok (.iload_n 2, 1) := by decide +kernel
theorem dX1_heightAt_40 : decode cX1_heightAt 40 = .ok (.aload_n 0, 1) := by decide +kernel
theorem dX1_heightAt_41 : decode cX1_heightAt 41 = .ok (.getfield 9, 3) := by decide +kernel
theorem dX1_heightAt_44 : decode cX1_heightAt 44 = .ok (.iload_n 3, 1) := by decide +kernel
theorem dX1_heightAt_45 : decode cX1_heightAt 45 = .ok (.iaload, 1) := by decide +kernel
theorem dX1_heightAt_46 : decode cX1_heightAt 46 = .ok (.isub, 1) := by decide +kernel
theorem dX1_heightAt_47 : decode cX1_heightAt 47 = .ok (.istore_n 2, 1) := by decide +kernel
theorem dX1_heightAt_48 : decode cX1_heightAt 48 = .ok (.iinc 3 1, 3) := by decide +kernel
theorem dX1_heightAt_51 : decode cX1_heightAt 51 = .ok (.goto (-47), 3) := by decide +kernel
theorem dX1_heightAt_54 : decode cX1_heightAt 54 = .ok (.new 45, 3) := by decide +kernel
theorem dX1_heightAt_57 : decode cX1_heightAt 57 = .ok (.dup, 1) := by decide +kernel
theorem dX1_heightAt_58 : decode cX1_heightAt 58 = .ok (.lconst 0, 1) := by decide +kernel
theorem dX1_heightAt_59 : decode cX1_heightAt 59 = .ok (.lconst 1, 1) := by decide +kernel
theorem dX1_heightAt_60 : decode cX1_heightAt 60 = .ok (.invokespecial 47, 3) := by decide +kernel
theorem dX1_heightAt_63 : decode cX1_heightAt 63 = .ok (.areturn, 1) := by decide +kernel
theorem dX1_heightWithin_0 : decode cX1_heightWithin 0 = .ok (.aload_n 0, 1) := by decide +kernel
theorem dX1_heightWithin_1 : decode cX1_heightWithin 1 = .ok (.iload_n 1, 1) := by decide +kernel
theorem dX1_heightWithin_2 : decode cX1_heightWithin 2 = .ok (.invokevirtual 50, 3) := by decide +kernel
theorem dX1_heightWithin_5 : decode cX1_heightWithin 5 = .ok (.i2l, 1) := by decide +kernel
theorem dX1_heightWithin_6 : decode cX1_heightWithin 6 = .ok (.lstore_n 3, 1) := by decide +kernel
theorem dX1_heightWithin_7 : decode cX1_heightWithin 7 = .ok (.aload_n 0, 1) := by decide +kernel
theorem dX1_heightWithin_8 : decode cX1_heightWithin 8 = .ok (.getfield 15, 3) := by decide +kernel
theorem dX1_heightWithin_11 : decode cX1_heightWithin 11 = .ok (.iload_n 1, 1) := by decide +kernel
theorem dX1_heightWithin_12 : decode cX1_heightWithin 12 = .ok (.iaload, 1) := by decide +kernel
theorem dX1_heightWithin_13 : decode cX1_heightWithin 13 = .ok (.i2l, 1) := by decide +kernel
theorem dX1_heightWithin_14 : decode cX1_heightWithin 14 = .ok (.lload_n 3, 1) := by decide +kernel
theorem dX1_heightWithin_15 : decode cX1_heightWithin 15 = .ok (.lsub, 1) := by decide +kernel
theorem dX1_heightWithin_16 : decode cX1_heightWithin 16 = .ok (.lstore 5, 2) := by decide +kernel
theorem dX1_heightWithin_18 : decode cX1_heightWithin 18 = .ok (.aload_n 0, 1) := by decide +kernel
theorem dX1_heightWithin_19 : decode cX1_heightWithin 19 = .ok (.getfield 9, 3) := by decide +kernel
theorem dX1_heightWithin_22 : decode cX1_heightWithin 22 = .ok (.iload_n 1, 1) := by decide +kernel
theorem dX1_heightWithin_23 : decode cX1_heightWithin 23 = .ok (.iaload, 1) := by decide +kernel
theorem dX1_heightWithin_24 : decode cX1_heightWithin 24 = .ok (.i2l, 1) := by decide +kernel
theorem dX1_heightWithin_25 : decode cX1_heightWithin 25 = .ok (.lstore 7, 2) := by decide +kernel
theorem dX1_heightWithin_27 : decode cX1_heightWithin 27 = .ok (.aload_n 0, 1) := by decide +kernel
theorem dX1_heightWithin_28 : decode cX1_heightWithin 28 = .ok (.getfield 18, 3) := by decide +kernel
theorem dX1_heightWithin_31 : decode cX1_heightWithin 31 = .ok (.iload_n 1, 1) := by decide +kernel
theorem dX1_heightWithin_32 : decode cX1_heightWithin 32 = .ok (.caload, 1) := by decide +kernel
theorem dX1_heightWithin_33 : decode cX1_heightWithin 33 = .ok (.bipush 117, 2) := by decide +kernel
theorem dX1_heightWithin_35 : decode cX1_heightWithin 35 = .ok (.if_icmp .ne 23, 3) := by decide +kernel
theorem dX1_heightWithin_38 : decode cX1_heightWithin 38 = .ok (.new 45, 3) := by decide +kernel
theorem dX1_heightWithin_41 : decode cX1_heightWithin 41 = .ok (.dup, 1) := by decide +kernel
theorem dX1_heightWithin_42 : decode cX1_heightWithin 42 = .ok (.lload_n 3, 1) := by decide +kernel
theorem dX1_heightWithin_43 : decode cX1_heightWithin 43 = .ok (.lload 7, 2) := by decide +kernel
theorem dX1_heightWithin_45 : decode cX1_heightWithin 45 = .ok (.lmul, 1) := by decide +kernel
theorem dX1_heightWithin_46 : decode cX1_heightWithin 46 = .ok (.lload 5, 2) := by decide +kernel
theorem dX1_heightWithin_48 : decode cX1_heightWithin 48 = .ok (.iload_n 2, 1) := by decide +kernel
theorem dX1_heightWithin_49 : decode cX1_heightWithin 49 = .ok (.i2l, 1) := by decide +kernel
theorem dX1_heightWithin_50 : decode cX1_heightWithin 50 = .ok (.lmul, 1) := by decide +kernel
theorem dX1_heightWithin_51 : decode cX1_heightWithin 51 = .ok (.ladd, 1) := by decide +kernel
theorem dX1_heightWithin_52 : decode cX1_heightWithin 52 = .ok (.lload 7, 2) := by decide +kernel
theorem dX1_heightWithin_54 : decode cX1_heightWithin 54 = .ok (.invokespecial 47, 3) := by decide +kernel
theorem dX1_heightWithin_57 : decode cX1_heightWithin 57 = .ok (.areturn, 1) := by decide +kernel
theorem dX1_heightWithin_58 : decode cX1_heightWithin 58 = .ok (.lload 7, 2) := by decide +kernel
theorem dX1_heightWithin_60 : decode cX1_heightWithin 60 = .ok (.lload 7, 2) := by decide +kernel
theorem dX1_heightWithin_62 : decode cX1_heightWithin 62 = .ok (.lmul, 1) := by decide +kernel
theorem dX1_heightWithin_63 : decode cX1_heightWithin 63 = .ok (.lstore 9, 2) := by decide +kernel
theorem dX1_heightWithin_65 : decode cX1_heightWithin 65 = .ok (.lload 7, 2) := by decide +kernel
theorem dX1_heightWithin_67 : decode cX1_heightWithin 67 = .ok (.iload_n 2, 1) := by decide +kernel
theorem dX1_heightWithin_68 : decode cX1_heightWithin 68 = .ok (.i2l, 1) := by decide +kernel
theorem dX1_heightWithin_69 : decode cX1_heightWithin 69 = .ok (.lsub, 1) := by decide +kernel
theorem dX1_heightWithin_70 : decode cX1_heightWithin 70 = .ok (.lstore 11, 2) := by decide +kernel
theorem dX1_heightWithin_72 : decode cX1_heightWithin 72 = .ok (.iconst 2, 1) := by decide +kernel
theorem dX1_heightWithin_73 : decode cX1_heightWithin 73 = .ok (.iload_n 2, 1) := by decide +kernel
theorem dX1_heightWithin_74 : decode cX1_heightWithin 74 = .ok (.imul, 1) := by decide +kernel
theorem dX1_heightWithin_75 : decode cX1_heightWithin 75 = .ok (.i2l, 1) := by decide +kernel
theorem dX1_heightWithin_76 : decode cX1_heightWithin 76 = .ok (.lload 7, 2) := by decide +kernel
theorem dX1_heightWithin_78 : decode cX1_heightWithin 78 = .ok (.lcmp, 1) := by decide +kernel
theorem dX1_heightWithin_79 : decode cX1_heightWithin 79 = .ok (.ifCond .gt 15, 3) := by decide +kernel
theorem dX1_heightWithin_82 : decode cX1_heightWithin 82 = .ok (.ldc2_w 54, 3) := by decide +kernel
theorem dX1_heightWithin_85 : decode cX1_heightWithin 85 = .ok (.iload_n 2, 1) := by decide +kernel
theorem dX1_heightWithin_86 : decode cX1_heightWithin 86 = .ok (.i2l, 1) := by decide +kernel
theorem dX1_heightWithin_87 : decode cX1_heightWithin 87 = .ok (.lmul, 1) := by decide +kernel
theorem dX1_heightWithin_88 : decode cX1_heightWithin 88 = .ok (.iload_n 2, 1) := by decide +kernel
theorem dX1_heightWithin_89 : decode cX1_heightWithin 89 = .ok (.i2l, 1) := by decide +kernel
theorem dX1_heightWithin_90 : decode cX1_heightWithin 90 = .ok (.lmul, 1) := by decide +kernel
theorem dX1_heightWithin_91 : decode cX1_heightWithin 91 = .ok (.goto 15, 3) := by decide +kernel
theorem dX1_heightWithin_94 : decode cX1_heightWithin 94 = .ok (.lload 9, 2) := by decide +kernel
theorem dX1_heightWithin_96 : decode cX1_heightWithin 96 = .ok (.ldc2_w 54, 3) := by decide +kernel
theorem dX1_heightWithin_99 : decode cX1_heightWithin 99 = .ok (.lload 11, 2) := by decide +kernel
theorem dX1_heightWithin_101 : decode cX1_heightWithin 101 = .ok (.lmul, 1) := by decide +kernel
theorem dX1_heightWithin_102 : decode cX1_heightWithin 102 = .ok (.lload 11, 2) := by decide +kernel
theorem dX1_heightWithin_104 : decode cX1_heightWithin 104 = .ok (.lmul, 1) := by decide +kernel
theorem dX1_heightWithin_105 : decode cX1_heightWithin 105 = .ok (.lsub, 1) := by decide +kernel
theorem dX1_heightWithin_106 : decode cX1_heightWithin 106 = .ok (.lstore 13, 2) := by decide +kernel
theorem dX1_heightWithin_108 : decode cX1_heightWithin 108 = .ok (.new 45, 3) := by decide +kernel
theorem dX1_heightWithin_111 : decode cX1_heightWithin 111 = .ok (.dup, 1) := by decide +kernel
theorem dX1_heightWithin_112 : decode cX1_heightWithin 112 = .ok (.lload_n 3, 1) := by decide +kernel
theorem dX1_heightWithin_113 : decode cX1_heightWithin 113 = .ok (.lload 9, 2) := by decide +kernel
theorem dX1_heightWithin_115 : decode cX1_heightWithin 115 = .ok (.lmul, 1) := by decide +kernel
theorem dX1_heightWithin_116 : decode cX1_heightWithin 116 = .ok (.lload 5, 2) := by decide +kernel
theorem dX1_heightWithin_118 : decode cX1_heightWithin 118 = .ok (.lload 13, 2) := by decide +kernel
theorem dX1_heightWithin_120 : decode cX1_heightWithin 120 = .ok (.lmul, 1) := by decide +kernel
theorem dX1_heightWithin_121 : decode cX1_heightWithin 121 = .ok (.ladd, 1) := by decide +kernel
theorem dX1_heightWithin_122 : decode cX1_heightWithin 122 = .ok (.lload 9, 2) := by decide +kernel
theorem dX1_heightWithin_124 : decode cX1_heightWithin 124 = .ok (.invokespecial 47, 3) := by decide +kernel
theorem dX1_heightWithin_127 : decode cX1_heightWithin 127 = .ok (.areturn, 1) := by decide +kernel
theorem dX2_pass_0 : decode cX2_pass 0 = .ok (.lload_n 1, 1) := by decide +kernel
theorem dX2_pass_1 : decode cX2_pass 1 = .ok (.lload_n 3, 1) := by decide +kernel
theorem dX2_pass_2 : decode cX2_pass 2 = .ok (.invokestatic 22, 3) := by decide +kernel
theorem dX2_pass_5 : decode cX2_pass 5 = .ok (.lstore 5, 2) := by decide +kernel
theorem dX2_pass_7 : decode cX2_pass 7 = .ok (.lload_n 1, 1) := by decide +kernel
theorem dX2_pass_8 : decode cX2_pass 8 = .ok (.lload_n 3, 1) := by decide +kernel
theorem dX2_pass_9 : decode cX2_pass 9 = .ok (.invokestatic 28, 3) := by decide +kernel
theorem dX2_pass_12 : decode cX2_pass 12 = .ok (.lload 5, 2) := by decide +kernel
theorem dX2_pass_14 : decode cX2_pass 14 = .ok (.lsub, 1) := by decide +kernel
theorem dX2_pass_15 : decode cX2_pass 15 = .ok (.ldc2_w 31, 3) := by decide +kernel
theorem dX2_pass_18 : decode cX2_pass 18 = .ok (.invokestatic 22, 3) := by decide +kernel
theorem dX2_pass_21 : decode cX2_pass 21 = .ok (.lstore 7, 2) := by decide +kernel
theorem dX2_pass_23 : decode cX2_pass 23 = .ok (.lconst 1, 1) := by decide +kernel
theorem dX2_pass_24 : decode cX2_pass 24 = .ok (.lstore 9, 2) := by decide +kernel
theorem dX2_pass_26 : decode cX2_pass 26 = .ok (.lload 9, 2) := by decide +kernel
theorem dX2_pass_28 : decode cX2_pass 28 = .ok (.lload 7, 2) := by decide +kernel
theorem dX2_pass_30 : decode cX2_pass 30 = .ok (.lcmp, 1) := by decide +kernel
theorem dX2_pass_31 : decode cX2_pass 31 = .ok (.ifCond .gt 28, 3) := by decide +kernel
theorem dX2_pass_34 : decode cX2_pass 34 = .ok (.aload_n 0, 1) := by decide +kernel
theorem dX2_pass_35 : decode cX2_pass 35 = .ok (.lload 5, 2) := by decide +kernel
theorem dX2_pass_37 : decode cX2_pass 37 = .ok (.lload 9, 2) := by decide +kernel
theorem dX2_pass_39 : decode cX2_pass 39 = .ok (.ladd, 1) := by decide +kernel
theorem dX2_pass_40 : decode cX2_pass 40 = .ok (.ldc2_w 33, 3) := by decide +kernel
theorem dX2_pass_43 : decode cX2_pass 43 = .ok (.invokestatic 35, 3) := by decide +kernel
theorem dX2_pass_46 : decode cX2_pass 46 = .ok (.l2i, 1) := by decide +kernel
theorem dX2_pass_47 : decode cX2_pass 47 = .ok (.invokevirtual 38, 3) := by decide +kernel
theorem dX2_pass_50 : decode cX2_pass 50 = .ok (.lload 9, 2) := by decide +kernel
theorem dX2_pass_52 : decode cX2_pass 52 = .ok (.lconst 1, 1) := by decide +kernel
theorem dX2_pass_53 : decode cX2_pass 53 = .ok (.ladd, 1) := by decide +kernel
theorem dX2_pass_54 : decode cX2_pass 54 = .ok (.lstore 9, 2) := by decide +kernel
theorem dX2_pass_56 : decode cX2_pass 56 = .ok (.goto (-30), 3) := by decide +kernel
theorem dX2_pass_59 : decode cX2_pass 59 = .ok (.return_, 1) := by decide +kernel
theorem dX2_strikePart_0 : decode cX2_strikePart 0 = .ok (.iconst 0, 1) := by decide +kernel
theorem dX2_strikePart_1 : decode cX2_strikePart 1 = .ok (.istore_n 2, 1) := by decide +kernel
theorem dX2_strikePart_2 : decode cX2_strikePart 2 = .ok (.iload_n 2, 1) := by decide +kernel
theorem dX2_strikePart_3 : decode cX2_strikePart 3 = .ok (.bipush 8, 2) := by decide +kernel
theorem dX2_strikePart_5 : decode cX2_strikePart 5 = .ok (.if_icmp .ge 32, 3) := by decide +kernel
theorem dX2_strikePart_8 : decode cX2_strikePart 8 = .ok (.aload_n 0, 1) := by decide +kernel
theorem dX2_strikePart_9 : decode cX2_strikePart 9 = .ok (.getfield 9, 3) := by decide +kernel
theorem dX2_strikePart_12 : decode cX2_strikePart 12 = .ok (.iload_n 1, 1) := by decide +kernel
theorem dX2_strikePart_13 : decode cX2_strikePart 13 = .ok (.iaload, 1) := by decide +kernel
theorem dX2_strikePart_14 : decode cX2_strikePart 14 = .ok (.iconst 1, 1) := by decide +kernel
theorem dX2_strikePart_15 : decode cX2_strikePart 15 = .ok (.iload_n 2, 1) := by decide +kernel
theorem dX2_strikePart_16 : decode cX2_strikePart 16 = .ok (.ishl, 1) := by decide +kernel
theorem dX2_strikePart_17 : decode cX2_strikePart 17 = .ok (.iand, 1) := by decide +kernel
theorem dX2_strikePart_18 : decode cX2_strikePart 18 = .ok (.ifCond .eq 13, 3) := by decide +kernel
theorem dX2_strikePart_21 : decode cX2_strikePart 21 = .ok (.aload_n 0, 1) := by decide +kernel
theorem dX2_strikePart_22 : decode cX2_strikePart 22 = .ok (.getfield 15, 3) := by decide +kernel
theorem dX2_strikePart_25 : decode cX2_strikePart 25 = .ok (.iload_n 2, 1) := by decide +kernel
theorem dX2_strikePart_26 : decode cX2_strikePart 26 = .ok (.dup2, 1) := by decide +kernel
theorem dX2_strikePart_27 : decode cX2_strikePart 27 = .ok (.iaload, 1) := by decide +kernel
theorem dX2_strikePart_28 : decode cX2_strikePart 28 = .ok (.iconst 1, 1) := by decide +kernel
theorem dX2_strikePart_29 : decode cX2_strikePart 29 = .ok (.iadd, 1) := by decide +kernel
theorem dX2_strikePart_30 : decode cX2_strikePart 30 = .ok (.iastore, 1) := by decide +kernel
theorem dX2_strikePart_31 : decode cX2_strikePart 31 = .ok (.iinc 2 1, 3) := by decide +kernel
theorem dX2_strikePart_34 : decode cX2_strikePart 34 = .ok (.goto (-32), 3) := by decide +kernel
theorem dX2_strikePart_37 : decode cX2_strikePart 37 = .ok (.return_, 1) := by decide +kernel
theorem dX3_init_0 : decode cX3_init 0 = .ok (.aload_n 0, 1) := by decide +kernel
theorem dX3_init_1 : decode cX3_init 1 = .ok (.invokespecial 1, 3) := by decide +kernel
theorem dX3_init_4 : decode cX3_init 4 = .ok (.lload_n 1, 1) := by decide +kernel
theorem dX3_init_5 : decode cX3_init 5 = .ok (.lload_n 3, 1) := by decide +kernel
theorem dX3_init_6 : decode cX3_init 6 = .ok (.invokestatic 7, 3) := by decide +kernel
theorem dX3_init_9 : decode cX3_init 9 = .ok (.lstore 5, 2) := by decide +kernel
theorem dX3_init_11 : decode cX3_init 11 = .ok (.aload_n 0, 1) := by decide +kernel
theorem dX3_init_12 : decode cX3_init 12 = .ok (.lload 5, 2) := by decide +kernel
theorem dX3_init_14 : decode cX3_init 14 = .ok (.lconst 0, 1) := by decide +kernel
theorem dX3_init_15 : decode cX3_init 15 = .ok (.lcmp, 1) := by decide +kernel
theorem dX3_init_16 : decode cX3_init 16 = .ok (.ifCond .ne 7, 3) := by decide +kernel
theorem dX3_init_19 : decode cX3_init 19 = .ok (.lconst 0, 1) := by decide +kernel
theorem dX3_init_20 : decode cX3_init 20 = .ok (.goto 7, 3) := by decide +kernel
theorem dX3_init_23 : decode cX3_init 23 = .ok (.lload_n 1, 1) := by decide +kernel
theorem dX3_init_24 : decode cX3_init 24 = .ok (.lload 5, 2) := by decide +kernel
theorem dX3_init_26 : decode cX3_init 26 = .ok (.ldiv, 1) := by decide +kernel
theorem dX3_init_27 : decode cX3_init 27 = .ok (.putfield 13, 3) := by decide +kernel
theorem dX3_init_30 : decode cX3_init 30 = .ok (.aload_n 0, 1) := by decide +kernel
theorem dX3_init_31 : decode cX3_init 31 = .ok (.lload 5, 2) := by decide +kernel
theorem dX3_init_33 : decode cX3_init 33 = .ok (.lconst 0, 1) := by decide +kernel
theorem dX3_init_34 : decode cX3_init 34 = .ok (.lcmp, 1) := by decide +kernel
theorem dX3_init_35 : decode cX3_init 35 = .ok (.ifCond .ne 7, 3) := by decide +kernel
theorem dX3_init_38 : decode cX3_init 38 = .ok (.lconst 1, 1) := by decide +kernel
theorem dX3_init_39 : decode cX3_init 39 = .ok (.goto 7, 3) := by decide +kernel
theorem dX3_init_42 : decode cX3_init 42 = .ok (.lload_n 3, 1) := by decide +kernel
theorem dX3_init_43 : decode cX3_init 43 = .ok (.lload 5, 2) := by decide +kernel
theorem dX3_init_45 : decode cX3_init 45 = .ok (.ldiv, 1) := by decide +kernel
theorem dX3_init_46 : decode cX3_init 46 = .ok (.putfield 17, 3) := by decide +kernel
theorem dX3_init_49 : decode cX3_init 49 = .ok (.return_, 1) := by decide +kernel
theorem dX3_isSame_0 : decode cX3_isSame 0 = .ok (.aload_n 0, 1) := by decide +kernel
theorem dX3_isSame_1 : decode cX3_isSame 1 = .ok (.getfield 13, 3) := by decide +kernel
theorem dX3_isSame_4 : decode cX3_isSame 4 = .ok (.aload_n 1, 1) := by decide +kernel
theorem dX3_isSame_5 : decode cX3_isSame 5 = .ok (.getfield 13, 3) := by decide +kernel
theorem dX3_isSame_8 : decode cX3_isSame 8 = .ok (.lcmp, 1) := by decide +kernel
theorem dX3_isSame_9 : decode cX3_isSame 9 = .ok (.ifCond .ne 19, 3) := by decide +kernel
theorem dX3_isSame_12 : decode cX3_isSame 12 = .ok (.aload_n 0, 1) := by decide +kernel
theorem dX3_isSame_13 : decode cX3_isSame 13 = .ok (.getfield 17, 3) := by decide +kernel
theorem dX3_isSame_16 : decode cX3_isSame 16 = .ok (.aload_n 1, 1) := by decide +kernel
theorem dX3_isSame_17 : decode cX3_isSame 17 = .ok (.getfield 17, 3) := by decide +kernel
theorem dX3_isSame_20 : decode cX3_isSame 20 = .ok (.lcmp, 1) := by decide +kernel
theorem dX3_isSame_21 : decode cX3_isSame 21 = .ok (.ifCond .ne 7, 3) := by decide +kernel
theorem dX3_isSame_24 : decode cX3_isSame 24 = .ok (.iconst 1, 1) := by decide +kernel
theorem dX3_isSame_25 : decode cX3_isSame 25 = .ok (.goto 4, 3) := by decide +kernel
theorem dX3_isSame_28 : decode cX3_isSame 28 = .ok (.iconst 0, 1) := by decide +kernel
theorem dX3_isSame_29 : decode cX3_isSame 29 = .ok (.ireturn, 1) := by decide +kernel
theorem dX3_commonOf_0 : decode cX3_commonOf 0 = .ok (.lload_n 0, 1) := by decide +kernel
theorem dX3_commonOf_1 : decode cX3_commonOf 1 = .ok (.lconst 0, 1) := by decide +kernel
theorem dX3_commonOf_2 : decode cX3_commonOf 2 = .ok (.lcmp, 1) := by decide +kernel
theorem dX3_commonOf_3 : decode cX3_commonOf 3 = .ok (.ifCond .ge 8, 3) := by decide +kernel
theorem dX3_commonOf_6 : decode cX3_commonOf 6 = .ok (.lload_n 0, 1) := by decide +kernel
theorem dX3_commonOf_7 : decode cX3_commonOf 7 = .ok (.lneg, 1) := by decide +kernel
theorem dX3_commonOf_8 : decode cX3_commonOf 8 = .ok (.goto 4, 3) := by decide +kernel
theorem dX3_commonOf_11 : decode cX3_commonOf 11 = .ok (.lload_n 0, 1) := by decide +kernel
theorem dX3_commonOf_12 : decode cX3_commonOf 12 = .ok (.lstore 4, 2) := by decide +kernel
theorem dX3_commonOf_14 : decode cX3_commonOf 14 = .ok (.lload_n 2, 1) := by decide +kernel
theorem dX3_commonOf_15 : decode cX3_commonOf 15 = .ok (.lconst 0, 1) := by decide +kernel
theorem dX3_commonOf_16 : decode cX3_commonOf 16 = .ok (.lcmp, 1) := by decide +kernel
theorem dX3_commonOf_17 : decode cX3_commonOf 17 = .ok (.ifCond .ge 8, 3) := by decide +kernel
theorem dX3_commonOf_20 : decode cX3_commonOf 20 = .ok (.lload_n 2, 1) := by decide +kernel
theorem dX3_commonOf_21 : decode cX3_commonOf 21 = .ok (.lneg, 1) := by decide +kernel
theorem dX3_commonOf_22 : decode cX3_commonOf 22 = .ok (.goto 4, 3) := by decide +kernel
theorem dX3_commonOf_25 : decode cX3_commonOf 25 = .ok (.lload_n 2, 1) := by decide +kernel
theorem dX3_commonOf_26 : decode cX3_commonOf 26 = .ok (.lstore 6, 2) := by decide +kernel
theorem dX3_commonOf_28 : decode cX3_commonOf 28 = .ok (.iconst 0, 1) := by decide +kernel
theorem dX3_commonOf_29 : decode cX3_commonOf 29 = .ok (.istore 8, 2) := by decide +kernel
theorem dX3_commonOf_31 : decode cX3_commonOf 31 = .ok (.iload 8, 2) := by decide +kernel
theorem dX3_commonOf_33 : decode cX3_commonOf 33 = .ok (.sipush 200, 3) := by decide +kernel
theorem dX3_commonOf_36 : decode cX3_commonOf 36 = .ok (.if_icmp .ge 31, 3) := by decide +kernel
theorem dX3_commonOf_39 : decode cX3_commonOf 39 = .ok (.lload 6, 2) := by decide +kernel
theorem dX3_commonOf_41 : decode cX3_commonOf 41 = .ok (.lconst 0, 1) := by decide +kernel
theorem dX3_commonOf_42 : decode cX3_commonOf 42 = .ok (.lcmp, 1) := by decide +kernel
theorem dX3_commonOf_43 : decode cX3_commonOf 43 = .ok (.ifCond .eq 24, 3) := by decide +kernel
theorem dX3_commonOf_46 : decode cX3_commonOf 46 = .ok (.lload 4, 2) := by decide +kernel
theorem dX3_commonOf_48 : decode cX3_commonOf 48 = .ok (.lload 6, 2) := by decide +kernel
theorem dX3_commonOf_50 : decode cX3_commonOf 50 = .ok (.lrem, 1) := by decide +kernel
theorem dX3_commonOf_51 : decode cX3_commonOf 51 = .ok (.lstore 9, 2) := by decide +kernel
theorem dX3_commonOf_53 : decode cX3_commonOf 53 = .ok (.lload 6, 2) := by decide +kernel
theorem dX3_commonOf_55 : decode cX3_commonOf 55 = .ok (.lstore 4, 2) := by decide +kernel
theorem dX3_commonOf_57 : decode cX3_commonOf 57 = .ok (.lload 9, 2) := by decide +kernel
theorem dX3_commonOf_59 : decode cX3_commonOf 59 = .ok (.lstore 6, 2) := by decide +kernel
theorem dX3_commonOf_61 : decode cX3_commonOf 61 = .ok (.iinc 8 1, 3) := by decide +kernel
theorem dX3_commonOf_64 : decode cX3_commonOf 64 = .ok (.goto (-33), 3) := by decide +kernel
theorem dX3_commonOf_67 : decode cX3_commonOf 67 = .ok (.lload 4, 2) := by decide +kernel
theorem dX3_commonOf_69 : decode cX3_commonOf 69 = .ok (.lreturn, 1) := by decide +kernel
theorem dX4_init_0 : decode cX4_init 0 = .ok (.aload_n 0, 1) := by decide +kernel
theorem dX4_init_1 : decode cX4_init 1 = .ok (.invokespecial 1, 3) := by decide +kernel
theorem dX4_init_4 : decode cX4_init 4 = .ok (.aload_n 0, 1) := by decide +kernel
theorem dX4_init_5 : decode cX4_init 5 = .ok (.iload_n 1, 1) := by decide +kernel
theorem dX4_init_6 : decode cX4_init 6 = .ok (.newarray .long, 2) := by decide +kernel
theorem dX4_init_8 : decode cX4_init 8 = .ok (.putfield 7, 3) := by decide +kernel
theorem dX4_init_11 : decode cX4_init 11 = .ok (.aload_n 0, 1) := by decide +kernel
theorem dX4_init_12 : decode cX4_init 12 = .ok (.iload_n 1, 1) := by decide +kernel
theorem dX4_init_13 : decode cX4_init 13 = .ok (.newarray .long, 2) := by decide +kernel
theorem dX4_init_15 : decode cX4_init 15 = .ok (.putfield 13, 3) := by decide +kernel
theorem dX4_init_18 : decode cX4_init 18 = .ok (.aload_n 0, 1) := by decide +kernel
theorem dX4_init_19 : decode cX4_init 19 = .ok (.getfield 13, 3) := by decide +kernel
theorem dX4_init_22 : decode cX4_init 22 = .ok (.lconst 1, 1) := by decide +kernel
theorem dX4_init_23 : decode cX4_init 23 = .ok (.invokestatic 16, 3) := by decide +kernel
theorem dX4_init_26 : decode cX4_init 26 = .ok (.return_, 1) := by decide +kernel
theorem dX4_has_0 : decode cX4_has 0 = .ok (.iload_n 1, 1) := by decide +kernel
theorem dX4_has_1 : decode cX4_has 1 = .ok (.ifCond .lt 16, 3) := by decide +kernel
theorem dX4_has_4 : decode cX4_has 4 = .ok (.iload_n 1, 1) := by decide +kernel
theorem dX4_has_5 : decode cX4_has 5 = .ok (.aload_n 0, 1) := by decide +kernel
theorem dX4_has_6 : decode cX4_has 6 = .ok (.getfield 7, 3) := by decide +kernel
theorem dX4_has_9 : decode cX4_has 9 = .ok (.arraylength, 1) := by decide +kernel
theorem dX4_has_10 : decode cX4_has 10 = .ok (.if_icmp .ge 7, 3) := by decide +kernel
theorem dX4_has_13 : decode cX4_has 13 = .ok (.iconst 1, 1) := by decide +kernel
theorem dX4_has_14 : decode cX4_has 14 = .ok (.goto 4, 3) := by decide +kernel
theorem dX4_has_17 : decode cX4_has 17 = .ok (.iconst 0, 1) := by decide +kernel
theorem dX4_has_18 : decode cX4_has 18 = .ok (.ireturn, 1) := by decide +kernel
theorem dX4_overAt_0 : decode cX4_overAt 0 = .ok (.aload_n 0, 1) := by decide +kernel
theorem dX4_overAt_1 : decode cX4_overAt 1 = .ok (.iload_n 1, 1) := by decide +kernel
theorem dX4_overAt_2 : decode cX4_overAt 2 = .ok (.invokevirtual 22, 3) := by decide +kernel
theorem dX4_overAt_5 : decode cX4_overAt 5 = .ok (.ifCond .eq 12, 3) := by decide +kernel
theorem dX4_overAt_8 : decode cX4_overAt 8 = .ok (.aload_n 0, 1) := by decide +kernel
theorem dX4_overAt_9 : decode cX4_overAt 9 = .ok (.getfield 7, 3) := by decide +kernel
theorem dX4_overAt_12 : decode cX4_overAt 12 = .ok (.iload_n 1, 1) := by decide +kernel
theorem dX4_overAt_13 : decode cX4_overAt 13 = .ok (.laload, 1) := by decide +kernel
theorem dX4_overAt_14 : decode cX4_overAt 14 = .ok (.goto 4, 3) := by decide +kernel
theorem dX4_overAt_17 : decode cX4_overAt 17 = .ok (.lconst 0, 1) := by decide +kernel
theorem dX4_overAt_18 : decode cX4_overAt 18 = .ok (.lreturn, 1) := by decide +kernel
theorem dX4_underAt_0 : decode cX4_underAt 0 = .ok (.aload_n 0, 1) := by decide +kernel
theorem dX4_underAt_1 : decode cX4_underAt 1 = .ok (.iload_n 1, 1) := by decide +kernel
theorem dX4_underAt_2 : decode cX4_underAt 2 = .ok (.invokevirtual 22, 3) := by decide +kernel
theorem dX4_underAt_5 : decode cX4_underAt 5 = .ok (.ifCond .eq 12, 3) := by decide +kernel
theorem dX4_underAt_8 : decode cX4_underAt 8 = .ok (.aload_n 0, 1) := by decide +kernel
theorem dX4_underAt_9 : decode cX4_underAt 9 = .ok (.getfield 13, 3) := by decide +kernel
theorem dX4_underAt_12 : decode cX4_underAt 12 = .ok (.iload_n 1, 1) := by decide +kernel
theorem dX4_underAt_13 : decode cX4_underAt 13 = .ok (.laload, 1) := by decide +kernel
theorem dX4_underAt_14 : decode cX4_underAt 14 = .ok (.goto 4, 3) := by decide +kernel
theorem dX4_underAt_17 : decode cX4_underAt 17 = .ok (.lconst 1, 1) := by decide +kernel
theorem dX4_underAt_18 : decode cX4_underAt 18 = .ok (.lreturn, 1) := by decide +kernel
theorem dX4_isMoving_0 : decode cX4_isMoving 0 = .ok (.aload_n 0, 1) := by decide +kernel
theorem dX4_isMoving_1 : decode cX4_isMoving 1 = .ok (.iload_n 1, 1) := by decide +kernel
theorem dX4_isMoving_2 : decode cX4_isMoving 2 = .ok (.invokevirtual 26, 3) := by decide +kernel
theorem dX4_isMoving_5 : decode cX4_isMoving 5 = .ok (.lconst 0, 1) := by decide +kernel
theorem dX4_isMoving_6 : decode cX4_isMoving 6 = .ok (.lcmp, 1) := by decide +kernel
theorem dX4_isMoving_7 : decode cX4_isMoving 7 = .ok (.ifCond .eq 7, 3) := by decide +kernel
theorem dX4_isMoving_10 : decode cX4_isMoving 10 = .ok (.iconst 1, 1) := by decide +kernel
theorem dX4_isMoving_11 : decode cX4_isMoving 11 = .ok (.goto 4, 3) := by decide +kernel
theorem dX4_isMoving_14 : decode cX4_isMoving 14 = .ok (.iconst 0, 1) := by decide +kernel
theorem dX4_isMoving_15 : decode cX4_isMoving 15 = .ok (.ireturn, 1) := by decide +kernel
theorem dX4_isSame_0 : decode cX4_isSame 0 = .ok (.aload_n 0, 1) := by decide +kernel
theorem dX4_isSame_1 : decode cX4_isSame 1 = .ok (.iload_n 1, 1) := by decide +kernel
theorem dX4_isSame_2 : decode cX4_isSame 2 = .ok (.invokevirtual 26, 3) := by decide +kernel
theorem dX4_isSame_5 : decode cX4_isSame 5 = .ok (.aload_n 2, 1) := by decide +kernel
theorem dX4_isSame_6 : decode cX4_isSame 6 = .ok (.iload_n 1, 1) := by decide +kernel
theorem dX4_isSame_7 : decode cX4_isSame 7 = .ok (.invokevirtual 26, 3) := by decide +kernel
theorem dX4_isSame_10 : decode cX4_isSame 10 = .ok (.lcmp, 1) := by decide +kernel
theorem dX4_isSame_11 : decode cX4_isSame 11 = .ok (.ifCond .ne 21, 3) := by decide +kernel
theorem dX4_isSame_14 : decode cX4_isSame 14 = .ok (.aload_n 0, 1) := by decide +kernel
theorem dX4_isSame_15 : decode cX4_isSame 15 = .ok (.iload_n 1, 1) := by decide +kernel
theorem dX4_isSame_16 : decode cX4_isSame 16 = .ok (.invokevirtual 30, 3) := by decide +kernel
theorem dX4_isSame_19 : decode cX4_isSame 19 = .ok (.aload_n 2, 1) := by decide +kernel
theorem dX4_isSame_20 : decode cX4_isSame 20 = .ok (.iload_n 1, 1) := by decide +kernel
theorem dX4_isSame_21 : decode cX4_isSame 21 = .ok (.invokevirtual 30, 3) := by decide +kernel
theorem dX4_isSame_24 : decode cX4_isSame 24 = .ok (.lcmp, 1) := by decide +kernel
theorem dX4_isSame_25 : decode cX4_isSame 25 = .ok (.ifCond .ne 7, 3) := by decide +kernel
theorem dX4_isSame_28 : decode cX4_isSame 28 = .ok (.iconst 1, 1) := by decide +kernel
theorem dX4_isSame_29 : decode cX4_isSame 29 = .ok (.goto 4, 3) := by decide +kernel
theorem dX4_isSame_32 : decode cX4_isSame 32 = .ok (.iconst 0, 1) := by decide +kernel
theorem dX4_isSame_33 : decode cX4_isSame 33 = .ok (.ireturn, 1) := by decide +kernel
theorem dX4_reset_0 : decode cX4_reset 0 = .ok (.aload_n 0, 1) := by decide +kernel
theorem dX4_reset_1 : decode cX4_reset 1 = .ok (.getfield 7, 3) := by decide +kernel
theorem dX4_reset_4 : decode cX4_reset 4 = .ok (.lconst 0, 1) := by decide +kernel
theorem dX4_reset_5 : decode cX4_reset 5 = .ok (.invokestatic 16, 3) := by decide +kernel
theorem dX4_reset_8 : decode cX4_reset 8 = .ok (.aload_n 0, 1) := by decide +kernel
theorem dX4_reset_9 : decode cX4_reset 9 = .ok (.getfield 13, 3) := by decide +kernel
theorem dX4_reset_12 : decode cX4_reset 12 = .ok (.lconst 1, 1) := by decide +kernel
theorem dX4_reset_13 : decode cX4_reset 13 = .ok (.invokestatic 16, 3) := by decide +kernel
theorem dX4_reset_16 : decode cX4_reset 16 = .ok (.return_, 1) := by decide +kernel
theorem dX4_copyFrom_0 : decode cX4_copyFrom 0 = .ok (.aload_n 0, 1) := by decide +kernel
theorem dX4_copyFrom_1 : decode cX4_copyFrom 1 = .ok (.getfield 7, 3) := by decide +kernel
theorem dX4_copyFrom_4 : decode cX4_copyFrom 4 = .ok (.arraylength, 1) := by decide +kernel
theorem dX4_copyFrom_5 : decode cX4_copyFrom 5 = .ok (.aload_n 1, 1) := by decide +kernel
theorem dX4_copyFrom_6 : decode cX4_copyFrom 6 = .ok (.getfield 7, 3) := by decide +kernel
theorem dX4_copyFrom_9 : decode cX4_copyFrom 9 = .ok (.arraylength, 1) := by decide +kernel
theorem dX4_copyFrom_10 : decode cX4_copyFrom 10 = .ok (.invokestatic 33, 3) := by decide +kernel
theorem dX4_copyFrom_13 : decode cX4_copyFrom 13 = .ok (.istore_n 2, 1) := by decide +kernel
theorem dX4_copyFrom_14 : decode cX4_copyFrom 14 = .ok (.aload_n 1, 1) := by decide +kernel
theorem dX4_copyFrom_15 : decode cX4_copyFrom 15 = .ok (.getfield 7, 3) := by decide +kernel
theorem dX4_copyFrom_18 : decode cX4_copyFrom 18 = .ok (.iconst 0, 1) := by decide +kernel
theorem dX4_copyFrom_19 : decode cX4_copyFrom 19 = .ok (.aload_n 0, 1) := by decide +kernel
theorem dX4_copyFrom_20 : decode cX4_copyFrom 20 = .ok (.getfield 7, 3) := by decide +kernel
theorem dX4_copyFrom_23 : decode cX4_copyFrom 23 = .ok (.iconst 0, 1) := by decide +kernel
theorem dX4_copyFrom_24 : decode cX4_copyFrom 24 = .ok (.iload_n 2, 1) := by decide +kernel
theorem dX4_copyFrom_25 : decode cX4_copyFrom 25 = .ok (.invokestatic 39, 3) := by decide +kernel
theorem dX4_copyFrom_28 : decode cX4_copyFrom 28 = .ok (.aload_n 1, 1) := by decide +kernel
theorem dX4_copyFrom_29 : decode cX4_copyFrom 29 = .ok (.getfield 13, 3) := by decide +kernel
theorem dX4_copyFrom_32 : decode cX4_copyFrom 32 = .ok (.iconst 0, 1) := by decide +kernel
theorem dX4_copyFrom_33 : decode cX4_copyFrom 33 = .ok (.aload_n 0, 1) := by decide +kernel
theorem dX4_copyFrom_34 : decode cX4_copyFrom 34 = .ok (.getfield 13, 3) := by decide +kernel
theorem dX4_copyFrom_37 : decode cX4_copyFrom 37 = .ok (.iconst 0, 1) := by decide +kernel
theorem dX4_copyFrom_38 : decode cX4_copyFrom 38 = .ok (.iload_n 2, 1) := by decide +kernel
theorem dX4_copyFrom_39 : decode cX4_copyFrom 39 = .ok (.invokestatic 39, 3) := by decide +kernel
theorem dX4_copyFrom_42 : decode cX4_copyFrom 42 = .ok (.return_, 1) := by decide +kernel
theorem dX4_put_0 : decode cX4_put 0 = .ok (.lload_n 2, 1) := by decide +kernel
theorem dX4_put_1 : decode cX4_put 1 = .ok (.lload 4, 2) := by decide +kernel
theorem dX4_put_3 : decode cX4_put 3 = .ok (.invokestatic 45, 3) := by decide +kernel
theorem dX4_put_6 : decode cX4_put 6 = .ok (.lstore 6, 2) := by decide +kernel
theorem dX4_put_8 : decode cX4_put 8 = .ok (.aload_n 0, 1) := by decide +kernel
theorem dX4_put_9 : decode cX4_put 9 = .ok (.iload_n 1, 1) := by decide +kernel
theorem dX4_put_10 : decode cX4_put 10 = .ok (.invokevirtual 22, 3) := by decide +kernel
theorem dX4_put_13 : decode cX4_put 13 = .ok (.ifCond .eq 38, 3) := by decide +kernel
theorem dX4_put_16 : decode cX4_put 16 = .ok (.lload 4, 2) := by decide +kernel
theorem dX4_put_18 : decode cX4_put 18 = .ok (.lconst 0, 1) := by decide +kernel
theorem dX4_put_19 : decode cX4_put 19 = .ok (.lcmp, 1) := by decide +kernel
theorem dX4_put_20 : decode cX4_put 20 = .ok (.ifCond .le 31, 3) := by decide +kernel
theorem dX4_put_23 : decode cX4_put 23 = .ok (.lload 6, 2) := by decide +kernel
theorem dX4_put_25 : decode cX4_put 25 = .ok (.lconst 0, 1) := by decide +kernel
theorem dX4_put_26 : decode cX4_put 26 = .ok (.lcmp, 1) := by decide +kernel
theorem dX4_put_27 : decode cX4_put 27 = .ok (.ifCond .le 24, 3) := by decide +kernel
theorem dX4_put_30 : decode cX4_put 30 = .ok (.aload_n 0, 1) := by decide +kernel
theorem dX4_put_31 : decode cX4_put 31 = .ok (.getfield 7, 3) := by decide +kernel
theorem dX4_put_34 : decode cX4_put 34 = .ok (.iload_n 1, 1) := by decide +kernel
theorem dX4_put_35 : decode cX4_put 35 = .ok (.lload_n 2, 1) := by decide +kernel
theorem dX4_put_36 : decode cX4_put 36 = .ok (.lload 6, 2) := by decide +kernel
theorem dX4_put_38 : decode cX4_put 38 = .ok (.ldiv, 1) := by decide +kernel
theorem dX4_put_39 : decode cX4_put 39 = .ok (.lastore, 1) := by decide +kernel
theorem dX4_put_40 : decode cX4_put 40 = .ok (.aload_n 0, 1) := by decide +kernel
theorem dX4_put_41 : decode cX4_put 41 = .ok (.getfield 13, 3) := by decide +kernel
theorem dX4_put_44 : decode cX4_put 44 = .ok (.iload_n 1, 1) := by decide +kernel
theorem dX4_put_45 : decode cX4_put 45 = .ok (.lload 4, 2) := by decide +kernel
theorem dX4_put_47 : decode cX4_put 47 = .ok (.lload 6, 2) := by decide +kernel
theorem dX4_put_49 : decode cX4_put 49 = .ok (.ldiv, 1) := by decide +kernel
theorem dX4_put_50 : decode cX4_put 50 = .ok (.lastore, 1) := by decide +kernel
theorem dX4_put_51 : decode cX4_put 51 = .ok (.return_, 1) := by decide +kernel
theorem dX4_add_0 : decode cX4_add 0 = .ok (.aload_n 0, 1) := by decide +kernel
theorem dX4_add_1 : decode cX4_add 1 = .ok (.iload_n 1, 1) := by decide +kernel
theorem dX4_add_2 : decode cX4_add 2 = .ok (.invokevirtual 22, 3) := by decide +kernel
theorem dX4_add_5 : decode cX4_add 5 = .ok (.ifCond .eq 10, 3) := by decide +kernel
theorem dX4_add_8 : decode cX4_add 8 = .ok (.lload 4, 2) := by decide +kernel
theorem dX4_add_10 : decode cX4_add 10 = .ok (.lconst 0, 1) := by decide +kernel
theorem dX4_add_11 : decode cX4_add 11 = .ok (.lcmp, 1) := by decide +kernel
theorem dX4_add_12 : decode cX4_add 12 = .ok (.ifCond .gt 4, 3) := by decide +kernel
theorem dX4_add_15 : decode cX4_add 15 = .ok (.return_, 1) := by decide +kernel
theorem dX4_add_16 : decode cX4_add 16 = .ok (.aload_n 0, 1) := by decide +kernel
theorem dX4_add_17 : decode cX4_add 17 = .ok (.getfield 13, 3) := by decide +kernel
theorem dX4_add_20 : decode cX4_add 20 = .ok (.iload_n 1, 1) := by decide +kernel
theorem dX4_add_21 : decode cX4_add 21 = .ok (.laload, 1) := by decide +kernel
theorem dX4_add_22 : decode cX4_add 22 = .ok (.lload 4, 2) := by decide +kernel
theorem dX4_add_24 : decode cX4_add 24 = .ok (.invokestatic 45, 3) := by decide +kernel
theorem dX4_add_27 : decode cX4_add 27 = .ok (.lstore 6, 2) := by decide +kernel
theorem dX4_add_29 : decode cX4_add 29 = .ok (.lload 6, 2) := by decide +kernel
theorem dX4_add_31 : decode cX4_add 31 = .ok (.lconst 0, 1) := by decide +kernel
theorem dX4_add_32 : decode cX4_add 32 = .ok (.lcmp, 1) := by decide +kernel
theorem dX4_add_33 : decode cX4_add 33 = .ok (.ifCond .gt 4, 3) := by decide +kernel
theorem dX4_add_36 : decode cX4_add 36 = .ok (.return_, 1) := by decide +kernel
theorem dX4_add_37 : decode cX4_add 37 = .ok (.aload_n 0, 1) := by decide +kernel
theorem dX4_add_38 : decode cX4_add 38 = .ok (.getfield 13, 3) := by decide +kernel
theorem dX4_add_41 : decode cX4_add 41 = .ok (.iload_n 1, 1) := by decide +kernel
theorem dX4_add_42 : decode cX4_add 42 = .ok (.laload, 1) := by decide +kernel
theorem dX4_add_43 : decode cX4_add 43 = .ok (.lload 6, 2) := by decide +kernel
theorem dX4_add_45 : decode cX4_add 45 = .ok (.ldiv, 1) := by decide +kernel
theorem dX4_add_46 : decode cX4_add 46 = .ok (.lstore 8, 2) := by decide +kernel
theorem dX4_add_48 : decode cX4_add 48 = .ok (.aload_n 0, 1) := by decide +kernel
theorem dX4_add_49 : decode cX4_add 49 = .ok (.getfield 7, 3) := by decide +kernel
theorem dX4_add_52 : decode cX4_add 52 = .ok (.iload_n 1, 1) := by decide +kernel
theorem dX4_add_53 : decode cX4_add 53 = .ok (.laload, 1) := by decide +kernel
theorem dX4_add_54 : decode cX4_add 54 = .ok (.lload 4, 2) := by decide +kernel
theorem dX4_add_56 : decode cX4_add 56 = .ok (.lload 6, 2) := by decide +kernel
theorem dX4_add_58 : decode cX4_add 58 = .ok (.ldiv, 1) := by decide +kernel
theorem dX4_add_59 : decode cX4_add 59 = .ok (.lmul, 1) := by decide +kernel
theorem dX4_add_60 : decode cX4_add 60 = .ok (.lload_n 2, 1) := by decide +kernel
theorem dX4_add_61 : decode cX4_add 61 = .ok (.lload 8, 2) := by decide +kernel
theorem dX4_add_63 : decode cX4_add 63 = .ok (.lmul, 1) := by decide +kernel
theorem dX4_add_64 : decode cX4_add 64 = .ok (.ladd, 1) := by decide +kernel
theorem dX4_add_65 : decode cX4_add 65 = .ok (.lstore 10, 2) := by decide +kernel
theorem dX4_add_67 : decode cX4_add 67 = .ok (.lload 8, 2) := by decide +kernel
theorem dX4_add_69 : decode cX4_add 69 = .ok (.lload 4, 2) := by decide +kernel
theorem dX4_add_71 : decode cX4_add 71 = .ok (.lmul, 1) := by decide +kernel
theorem dX4_add_72 : decode cX4_add 72 = .ok (.lstore 12, 2) := by decide +kernel
theorem dX4_add_74 : decode cX4_add 74 = .ok (.lload 10, 2) := by decide +kernel
theorem dX4_add_76 : decode cX4_add 76 = .ok (.lload 12, 2) := by decide +kernel
theorem dX4_add_78 : decode cX4_add 78 = .ok (.invokestatic 45, 3) := by decide +kernel
theorem dX4_add_81 : decode cX4_add 81 = .ok (.lstore 14, 2) := by decide +kernel
theorem dX4_add_83 : decode cX4_add 83 = .ok (.lload 14, 2) := by decide +kernel
theorem dX4_add_85 : decode cX4_add 85 = .ok (.lconst 0, 1) := by decide +kernel
theorem dX4_add_86 : decode cX4_add 86 = .ok (.lcmp, 1) := by decide +kernel
theorem dX4_add_87 : decode cX4_add 87 = .ok (.ifCond .le 25, 3) := by decide +kernel
theorem dX4_add_90 : decode cX4_add 90 = .ok (.aload_n 0, 1) := by decide +kernel
theorem dX4_add_91 : decode cX4_add 91 = .ok (.getfield 7, 3) := by decide +kernel
theorem dX4_add_94 : decode cX4_add 94 = .ok (.iload_n 1, 1) := by decide +kernel
theorem dX4_add_95 : decode cX4_add 95 = .ok (.lload 10, 2) := by decide +kernel
theorem dX4_add_97 : decode cX4_add 97 = .ok (.lload 14, 2) := by decide +kernel
theorem dX4_add_99 : decode cX4_add 99 = .ok (.ldiv, 1) := by decide +kernel
theorem dX4_add_100 : decode cX4_add 100 = .ok (.lastore, 1) := by decide +kernel
theorem dX4_add_101 : decode cX4_add 101 = .ok (.aload_n 0, 1) := by decide +kernel
theorem dX4_add_102 : decode cX4_add 102 = .ok (.getfield 13, 3) := by decide +kernel
theorem dX4_add_105 : decode cX4_add 105 = .ok (.iload_n 1, 1) := by decide +kernel
theorem dX4_add_106 : decode cX4_add 106 = .ok (.lload 12, 2) := by decide +kernel
theorem dX4_add_108 : decode cX4_add 108 = .ok (.lload 14, 2) := by decide +kernel
theorem dX4_add_110 : decode cX4_add 110 = .ok (.ldiv, 1) := by decide +kernel
theorem dX4_add_111 : decode cX4_add 111 = .ok (.lastore, 1) := by decide +kernel
theorem dX4_add_112 : decode cX4_add 112 = .ok (.return_, 1) := by decide +kernel
theorem dX4_isWholeTimes_0 : decode cX4_isWholeTimes 0 = .ok (.aload_n 0, 1) := by decide +kernel
theorem dX4_isWholeTimes_1 : decode cX4_isWholeTimes 1 = .ok (.iload_n 1, 1) := by decide +kernel
theorem dX4_isWholeTimes_2 : decode cX4_isWholeTimes 2 = .ok (.invokevirtual 30, 3) := by decide +kernel
theorem dX4_isWholeTimes_5 : decode cX4_isWholeTimes 5 = .ok (.lstore 4, 2) := by decide +kernel
theorem dX4_isWholeTimes_7 : decode cX4_isWholeTimes 7 = .ok (.lload 4, 2) := by decide +kernel
theorem dX4_isWholeTimes_9 : decode cX4_isWholeTimes 9 = .ok (.lconst 0, 1) := by decide +kernel
theorem dX4_isWholeTimes_10 : decode cX4_isWholeTimes 10 = .ok (.lcmp, 1) := by decide +kernel
theorem dX4_isWholeTimes_11 : decode cX4_isWholeTimes 11 = .ok (.ifCond .le 22, 3) := by decide +kernel
theorem dX4_isWholeTimes_14 : decode cX4_isWholeTimes 14 = .ok (.aload_n 0, 1) := by decide +kernel
theorem dX4_isWholeTimes_15 : decode cX4_isWholeTimes 15 = .ok (.iload_n 1, 1) := by decide +kernel
theorem dX4_isWholeTimes_16 : decode cX4_isWholeTimes 16 = .ok (.invokevirtual 26, 3) := by decide +kernel
theorem dX4_isWholeTimes_19 : decode cX4_isWholeTimes 19 = .ok (.lload_n 2, 1) := by decide +kernel
theorem dX4_isWholeTimes_20 : decode cX4_isWholeTimes 20 = .ok (.lmul, 1) := by decide +kernel
theorem dX4_isWholeTimes_21 : decode cX4_isWholeTimes 21 = .ok (.lload 4, 2) := by decide +kernel
theorem dX4_isWholeTimes_23 : decode cX4_isWholeTimes 23 = .ok (.lrem, 1) := by decide +kernel
theorem dX4_isWholeTimes_24 : decode cX4_isWholeTimes 24 = .ok (.lconst 0, 1) := by decide +kernel
theorem dX4_isWholeTimes_25 : decode cX4_isWholeTimes 25 = .ok (.lcmp, 1) := by decide +kernel
theorem dX4_isWholeTimes_26 : decode cX4_isWholeTimes 26 = .ok (.ifCond .ne 7, 3) := by decide +kernel
theorem dX4_isWholeTimes_29 : decode cX4_isWholeTimes 29 = .ok (.iconst 1, 1) := by decide +kernel
theorem dX4_isWholeTimes_30 : decode cX4_isWholeTimes 30 = .ok (.goto 4, 3) := by decide +kernel
theorem dX4_isWholeTimes_33 : decode cX4_isWholeTimes 33 = .ok (.iconst 0, 1) := by decide +kernel
theorem dX4_isWholeTimes_34 : decode cX4_isWholeTimes 34 = .ok (.ireturn, 1) := by decide +kernel
theorem dX4_wholeTimes_0 : decode cX4_wholeTimes 0 = .ok (.aload_n 0, 1) := by decide +kernel
theorem dX4_wholeTimes_1 : decode cX4_wholeTimes 1 = .ok (.iload_n 1, 1) := by decide +kernel
theorem dX4_wholeTimes_2 : decode cX4_wholeTimes 2 = .ok (.invokevirtual 22, 3) := by decide +kernel
theorem dX4_wholeTimes_5 : decode cX4_wholeTimes 5 = .ok (.ifCond .eq 14, 3) := by decide +kernel
theorem dX4_wholeTimes_8 : decode cX4_wholeTimes 8 = .ok (.aload_n 0, 1) := by decide +kernel
theorem dX4_wholeTimes_9 : decode cX4_wholeTimes 9 = .ok (.getfield 13, 3) := by decide +kernel
theorem dX4_wholeTimes_12 : decode cX4_wholeTimes 12 = .ok (.iload_n 1, 1) := by decide +kernel
theorem dX4_wholeTimes_13 : decode cX4_wholeTimes 13 = .ok (.laload, 1) := by decide +kernel
theorem dX4_wholeTimes_14 : decode cX4_wholeTimes 14 = .ok (.lconst 0, 1) := by decide +kernel
theorem dX4_wholeTimes_15 : decode cX4_wholeTimes 15 = .ok (.lcmp, 1) := by decide +kernel
theorem dX4_wholeTimes_16 : decode cX4_wholeTimes 16 = .ok (.ifCond .gt 5, 3) := by decide +kernel
theorem dX4_wholeTimes_19 : decode cX4_wholeTimes 19 = .ok (.lconst 0, 1) := by decide +kernel
theorem dX4_wholeTimes_20 : decode cX4_wholeTimes 20 = .ok (.lreturn, 1) := by decide +kernel
theorem dX4_wholeTimes_21 : decode cX4_wholeTimes 21 = .ok (.aload_n 0, 1) := by decide +kernel
theorem dX4_wholeTimes_22 : decode cX4_wholeTimes 22 = .ok (.getfield 7, 3) := by decide +kernel
theorem dX4_wholeTimes_25 : decode cX4_wholeTimes 25 = .ok (.iload_n 1, 1) := by decide +kernel
theorem dX4_wholeTimes_26 : decode cX4_wholeTimes 26 = .ok (.laload, 1) := by decide +kernel
theorem dX4_wholeTimes_27 : decode cX4_wholeTimes 27 = .ok (.aload_n 0, 1) := by decide +kernel
theorem dX4_wholeTimes_28 : decode cX4_wholeTimes 28 = .ok (.getfield 13, 3) := by decide +kernel
theorem dX4_wholeTimes_31 : decode cX4_wholeTimes 31 = .ok (.iload_n 1, 1) := by decide +kernel
theorem dX4_wholeTimes_32 : decode cX4_wholeTimes 32 = .ok (.laload, 1) := by decide +kernel
theorem dX4_wholeTimes_33 : decode cX4_wholeTimes 33 = .ok (.invokestatic 51, 3) := by decide +kernel
theorem dX4_wholeTimes_36 : decode cX4_wholeTimes 36 = .ok (.lstore 4, 2) := by decide +kernel
theorem dX4_wholeTimes_38 : decode cX4_wholeTimes 38 = .ok (.aload_n 0, 1) := by decide +kernel
theorem dX4_wholeTimes_39 : decode cX4_wholeTimes 39 = .ok (.getfield 7, 3) := by decide +kernel
theorem dX4_wholeTimes_42 : decode cX4_wholeTimes 42 = .ok (.iload_n 1, 1) := by decide +kernel
theorem dX4_wholeTimes_43 : decode cX4_wholeTimes 43 = .ok (.laload, 1) := by decide +kernel
theorem dX4_wholeTimes_44 : decode cX4_wholeTimes 44 = .ok (.aload_n 0, 1) := by decide +kernel
theorem dX4_wholeTimes_45 : decode cX4_wholeTimes 45 = .ok (.getfield 13, 3) := by decide +kernel
theorem dX4_wholeTimes_48 : decode cX4_wholeTimes 48 = .ok (.iload_n 1, 1) := by decide +kernel
theorem dX4_wholeTimes_49 : decode cX4_wholeTimes 49 = .ok (.laload, 1) := by decide +kernel
theorem dX4_wholeTimes_50 : decode cX4_wholeTimes 50 = .ok (.invokestatic 54, 3) := by decide +kernel
theorem dX4_wholeTimes_53 : decode cX4_wholeTimes 53 = .ok (.lload_n 2, 1) := by decide +kernel
theorem dX4_wholeTimes_54 : decode cX4_wholeTimes 54 = .ok (.lmul, 1) := by decide +kernel
theorem dX4_wholeTimes_55 : decode cX4_wholeTimes 55 = .ok (.lload 4, 2) := by decide +kernel
theorem dX4_wholeTimes_57 : decode cX4_wholeTimes 57 = .ok (.lload_n 2, 1) := by decide +kernel
theorem dX4_wholeTimes_58 : decode cX4_wholeTimes 58 = .ok (.lmul, 1) := by decide +kernel
theorem dX4_wholeTimes_59 : decode cX4_wholeTimes 59 = .ok (.aload_n 0, 1) := by decide +kernel
theorem dX4_wholeTimes_60 : decode cX4_wholeTimes 60 = .ok (.getfield 13, 3) := by decide +kernel
theorem dX4_wholeTimes_63 : decode cX4_wholeTimes 63 = .ok (.iload_n 1, 1) := by decide +kernel
theorem dX4_wholeTimes_64 : decode cX4_wholeTimes 64 = .ok (.laload, 1) := by decide +kernel
theorem dX4_wholeTimes_65 : decode cX4_wholeTimes 65 = .ok (.invokestatic 54, 3) := by decide +kernel
theorem dX4_wholeTimes_68 : decode cX4_wholeTimes 68 = .ok (.ladd, 1) := by decide +kernel
theorem dX4_wholeTimes_69 : decode cX4_wholeTimes 69 = .ok (.lreturn, 1) := by decide +kernel
theorem dX5_init_0 : decode cX5_init 0 = .ok (.aload_n 0, 1) := by decide +kernel
theorem dX5_init_1 : decode cX5_init 1 = .ok (.invokespecial 3, 3) := by decide +kernel
theorem dX5_init_4 : decode cX5_init 4 = .ok (.aload_n 0, 1) := by decide +kernel
theorem dX5_init_5 : decode cX5_init 5 = .ok (.iconst 1, 1) := by decide +kernel
theorem dX5_init_6 : decode cX5_init 6 = .ok (.putfield 9, 3) := by decide +kernel
theorem dX5_init_9 : decode cX5_init 9 = .ok (.aload_n 0, 1) := by decide +kernel
theorem dX5_init_10 : decode cX5_init 10 = .ok (.iload_n 1, 1) := by decide +kernel
theorem dX5_init_11 : decode cX5_init 11 = .ok (.putfield 15, 3) := by decide +kernel
theorem dX5_init_14 : decode cX5_init 14 = .ok (.aload_n 0, 1) := by decide +kernel
theorem dX5_init_15 : decode cX5_init 15 = .ok (.iload_n 2, 1) := by decide +kernel
theorem dX5_init_16 : decode cX5_init 16 = .ok (.putfield 19, 3) := by decide +kernel
theorem dX5_init_19 : decode cX5_init 19 = .ok (.aload_n 0, 1) := by decide +kernel
theorem dX5_init_20 : decode cX5_init 20 = .ok (.iload_n 3, 1) := by decide +kernel
theorem dX5_init_21 : decode cX5_init 21 = .ok (.putfield 23, 3) := by decide +kernel
theorem dX5_init_24 : decode cX5_init 24 = .ok (.aload_n 0, 1) := by decide +kernel
theorem dX5_init_25 : decode cX5_init 25 = .ok (.iload 4, 2) := by decide +kernel
theorem dX5_init_27 : decode cX5_init 27 = .ok (.putfield 26, 3) := by decide +kernel
theorem dX5_init_30 : decode cX5_init 30 = .ok (.aload_n 0, 1) := by decide +kernel
theorem dX5_init_31 : decode cX5_init 31 = .ok (.iload 5, 2) := by decide +kernel
theorem dX5_init_33 : decode cX5_init 33 = .ok (.putfield 29, 3) := by decide +kernel
theorem dX5_init_36 : decode cX5_init 36 = .ok (.aload_n 0, 1) := by decide +kernel
theorem dX5_init_37 : decode cX5_init 37 = .ok (.iload 6, 2) := by decide +kernel
theorem dX5_init_39 : decode cX5_init 39 = .ok (.putfield 32, 3) := by decide +kernel
theorem dX5_init_42 : decode cX5_init 42 = .ok (.aload_n 0, 1) := by decide +kernel
theorem dX5_init_43 : decode cX5_init 43 = .ok (.iload 7, 2) := by decide +kernel
theorem dX5_init_45 : decode cX5_init 45 = .ok (.putfield 35, 3) := by decide +kernel
theorem dX5_init_48 : decode cX5_init 48 = .ok (.return_, 1) := by decide +kernel
theorem dX5_hasSecond_0 : decode cX5_hasSecond 0 = .ok (.aload_n 0, 1) := by decide +kernel
theorem dX5_hasSecond_1 : decode cX5_hasSecond 1 = .ok (.getfield 26, 3) := by decide +kernel
theorem dX5_hasSecond_4 : decode cX5_hasSecond 4 = .ok (.ifCond .lt 7, 3) := by decide +kernel
theorem dX5_hasSecond_7 : decode cX5_hasSecond 7 = .ok (.iconst 1, 1) := by decide +kernel
theorem dX5_hasSecond_8 : decode cX5_hasSecond 8 = .ok (.goto 4, 3) := by decide +kernel
theorem dX5_hasSecond_11 : decode cX5_hasSecond 11 = .ok (.iconst 0, 1) := by decide +kernel
theorem dX5_hasSecond_12 : decode cX5_hasSecond 12 = .ok (.ireturn, 1) := by decide +kernel
theorem dX5_doesAct_0 : decode cX5_doesAct 0 = .ok (.aload_n 0, 1) := by decide +kernel
theorem dX5_doesAct_1 : decode cX5_doesAct 1 = .ok (.getfield 9, 3) := by decide +kernel
theorem dX5_doesAct_4 : decode cX5_doesAct 4 = .ok (.ifCond .eq 14, 3) := by decide +kernel
theorem dX5_doesAct_7 : decode cX5_doesAct 7 = .ok (.aload_n 0, 1) := by decide +kernel
theorem dX5_doesAct_8 : decode cX5_doesAct 8 = .ok (.getfield 38, 3) := by decide +kernel
theorem dX5_doesAct_11 : decode cX5_doesAct 11 = .ok (.ifCond .ne 7, 3) := by decide +kernel
theorem dX5_doesAct_14 : decode cX5_doesAct 14 = .ok (.iconst 1, 1) := by decide +kernel
theorem dX5_doesAct_15 : decode cX5_doesAct 15 = .ok (.goto 4, 3) := by decide +kernel
theorem dX5_doesAct_18 : decode cX5_doesAct 18 = .ok (.iconst 0, 1) := by decide +kernel
theorem dX5_doesAct_19 : decode cX5_doesAct 19 = .ok (.ireturn, 1) := by decide +kernel
theorem dX5_over_0 : decode cX5_over 0 = .ok (.aload_n 0, 1) := by decide +kernel
theorem dX5_over_1 : decode cX5_over 1 = .ok (.getfield 19, 3) := by decide +kernel
theorem dX5_over_4 : decode cX5_over 4 = .ok (.bipush 103, 2) := by decide +kernel
theorem dX5_over_6 : decode cX5_over 6 = .ok (.if_icmp .ne 9, 3) := by decide +kernel
theorem dX5_over_9 : decode cX5_over 9 = .ok (.aload_n 0, 1) := by decide +kernel
theorem dX5_over_10 : decode cX5_over 10 = .ok (.getfield 32, 3) := by decide +kernel
theorem dX5_over_13 : decode cX5_over 13 = .ok (.ineg, 1) := by decide +kernel
theorem dX5_over_14 : decode cX5_over 14 = .ok (.ireturn, 1) := by decide +kernel
theorem dX5_over_15 : decode cX5_over 15 = .ok (.aload_n 0, 1) := by decide +kernel
theorem dX5_over_16 : decode cX5_over 16 = .ok (.getfield 19, 3) := by decide +kernel
theorem dX5_over_19 : decode cX5_over 19 = .ok (.bipush 105, 2) := by decide +kernel
theorem dX5_over_21 : decode cX5_over 21 = .ok (.if_icmp .eq 12, 3) := by decide +kernel
theorem dX5_over_24 : decode cX5_over 24 = .ok (.aload_n 0, 1) := by decide +kernel
theorem dX5_over_25 : decode cX5_over 25 = .ok (.getfield 19, 3) := by decide +kernel
theorem dX5_over_28 : decode cX5_over 28 = .ok (.bipush 112, 2) := by decide +kernel
theorem dX5_over_30 : decode cX5_over 30 = .ok (.if_icmp .ne 10, 3) := by decide +kernel
theorem dX5_over_33 : decode cX5_over 33 = .ok (.aload_n 0, 1) := by decide +kernel
theorem dX5_over_34 : decode cX5_over 34 = .ok (.getfield 32, 3) := by decide +kernel
theorem dX5_over_37 : decode cX5_over 37 = .ok (.goto 4, 3) := by decide +kernel
theorem dX5_over_40 : decode cX5_over 40 = .ok (.iconst 1, 1) := by decide +kernel
theorem dX5_over_41 : decode cX5_over 41 = .ok (.ireturn, 1) := by decide +kernel
theorem dX5_under_0 : decode cX5_under 0 = .ok (.aload_n 0, 1) := by decide +kernel
theorem dX5_under_1 : decode cX5_under 1 = .ok (.getfield 19, 3) := by decide +kernel
theorem dX5_under_4 : decode cX5_under 4 = .ok (.bipush 103, 2) := by decide +kernel
theorem dX5_under_6 : decode cX5_under 6 = .ok (.if_icmp .eq 12, 3) := by decide +kernel
theorem dX5_under_9 : decode cX5_under 9 = .ok (.aload_n 0, 1) := by decide +kernel
theorem dX5_under_10 : decode cX5_under 10 = .ok (.getfield 19, 3) := by decide +kernel
theorem dX5_under_13 : decode cX5_under 13 = .ok (.bipush 105, 2) := by decide +kernel
theorem dX5_under_15 : decode cX5_under 15 = .ok (.if_icmp .ne 8, 3) := by decide +kernel
theorem dX5_under_18 : decode cX5_under 18 = .ok (.aload_n 0, 1) := by decide +kernel
theorem dX5_under_19 : decode cX5_under 19 = .ok (.getfield 35, 3) := by decide +kernel
theorem dX5_under_22 : decode cX5_under 22 = .ok (.ireturn, 1) := by decide +kernel
theorem dX5_under_23 : decode cX5_under 23 = .ok (.aload_n 0, 1) := by decide +kernel
theorem dX5_under_24 : decode cX5_under 24 = .ok (.getfield 19, 3) := by decide +kernel
theorem dX5_under_27 : decode cX5_under 27 = .ok (.bipush 112, 2) := by decide +kernel
theorem dX5_under_29 : decode cX5_under 29 = .ok (.if_icmp .ne 13, 3) := by decide +kernel
theorem dX5_under_32 : decode cX5_under 32 = .ok (.aload_n 0, 1) := by decide +kernel
theorem dX5_under_33 : decode cX5_under 33 = .ok (.getfield 32, 3) := by decide +kernel
theorem dX5_under_36 : decode cX5_under 36 = .ok (.aload_n 0, 1) := by decide +kernel
theorem dX5_under_37 : decode cX5_under 37 = .ok (.getfield 35, 3) := by decide +kernel
theorem dX5_under_40 : decode cX5_under 40 = .ok (.iadd, 1) := by decide +kernel
theorem dX5_under_41 : decode cX5_under 41 = .ok (.ireturn, 1) := by decide +kernel
theorem dX5_under_42 : decode cX5_under 42 = .ok (.aload_n 0, 1) := by decide +kernel
theorem dX5_under_43 : decode cX5_under 43 = .ok (.getfield 19, 3) := by decide +kernel
theorem dX5_under_46 : decode cX5_under 46 = .ok (.bipush 118, 2) := by decide +kernel
theorem dX5_under_48 : decode cX5_under 48 = .ok (.if_icmp .ne 10, 3) := by decide +kernel
theorem dX5_under_51 : decode cX5_under 51 = .ok (.aload_n 0, 1) := by decide +kernel
theorem dX5_under_52 : decode cX5_under 52 = .ok (.getfield 32, 3) := by decide +kernel
theorem dX5_under_55 : decode cX5_under 55 = .ok (.goto 4, 3) := by decide +kernel
theorem dX5_under_58 : decode cX5_under 58 = .ok (.iconst 1, 1) := by decide +kernel
theorem dX5_under_59 : decode cX5_under 59 = .ok (.ireturn, 1) := by decide +kernel
theorem dX5_carry_0 : decode cX5_carry 0 = .ok (.aload_n 1, 1) := by decide +kernel
theorem dX5_carry_1 : decode cX5_carry 1 = .ok (.aload_n 0, 1) := by decide +kernel
theorem dX5_carry_2 : decode cX5_carry 2 = .ok (.getfield 29, 3) := by decide +kernel
theorem dX5_carry_5 : decode cX5_carry 5 = .ok (.aload_n 1, 1) := by decide +kernel
theorem dX5_carry_6 : decode cX5_carry 6 = .ok (.aload_n 0, 1) := by decide +kernel
theorem dX5_carry_7 : decode cX5_carry 7 = .ok (.getfield 23, 3) := by decide +kernel
theorem dX5_carry_10 : decode cX5_carry 10 = .ok (.invokevirtual 41, 3) := by decide +kernel
theorem dX5_carry_13 : decode cX5_carry 13 = .ok (.iload_n 2, 1) := by decide +kernel
theorem dX5_carry_14 : decode cX5_carry 14 = .ok (.i2l, 1) := by decide +kernel
theorem dX5_carry_15 : decode cX5_carry 15 = .ok (.lmul, 1) := by decide +kernel
theorem dX5_carry_16 : decode cX5_carry 16 = .ok (.aload_n 1, 1) := by decide +kernel
theorem dX5_carry_17 : decode cX5_carry 17 = .ok (.aload_n 0, 1) := by decide +kernel
theorem dX5_carry_18 : decode cX5_carry 18 = .ok (.getfield 23, 3) := by decide +kernel
theorem dX5_carry_21 : decode cX5_carry 21 = .ok (.invokevirtual 47, 3) := by decide +kernel
theorem dX5_carry_24 : decode cX5_carry 24 = .ok (.aload_n 0, 1) := by decide +kernel
theorem dX5_carry_25 : decode cX5_carry 25 = .ok (.invokevirtual 50, 3) := by decide +kernel
theorem dX5_carry_28 : decode cX5_carry 28 = .ok (.i2l, 1) := by decide +kernel
theorem dX5_carry_29 : decode cX5_carry 29 = .ok (.lmul, 1) := by decide +kernel
theorem dX5_carry_30 : decode cX5_carry 30 = .ok (.invokevirtual 54, 3) := by decide +kernel
theorem dX5_carry_33 : decode cX5_carry 33 = .ok (.aload_n 0, 1) := by decide +kernel
theorem dX5_carry_34 : decode cX5_carry 34 = .ok (.invokevirtual 58, 3) := by decide +kernel
theorem dX5_carry_37 : decode cX5_carry 37 = .ok (.ifCond .eq 39, 3) := by decide +kernel
theorem dX5_carry_40 : decode cX5_carry 40 = .ok (.aload_n 1, 1) := by decide +kernel
theorem dX5_carry_41 : decode cX5_carry 41 = .ok (.aload_n 0, 1) := by decide +kernel
theorem dX5_carry_42 : decode cX5_carry 42 = .ok (.getfield 29, 3) := by decide +kernel
theorem dX5_carry_45 : decode cX5_carry 45 = .ok (.aload_n 1, 1) := by decide +kernel
theorem dX5_carry_46 : decode cX5_carry 46 = .ok (.aload_n 0, 1) := by decide +kernel
theorem dX5_carry_47 : decode cX5_carry 47 = .ok (.getfield 26, 3) := by decide +kernel
theorem dX5_carry_50 : decode cX5_carry 50 = .ok (.invokevirtual 41, 3) := by decide +kernel
theorem dX5_carry_53 : decode cX5_carry 53 = .ok (.aload_n 0, 1) := by decide +kernel
theorem dX5_carry_54 : decode cX5_carry 54 = .ok (.getfield 35, 3) := by decide +kernel
theorem dX5_carry_57 : decode cX5_carry 57 = .ok (.i2l, 1) := by decide +kernel
theorem dX5_carry_58 : decode cX5_carry 58 = .ok (.lmul, 1) := by decide +kernel
theorem dX5_carry_59 : decode cX5_carry 59 = .ok (.aload_n 1, 1) := by decide +kernel
theorem dX5_carry_60 : decode cX5_carry 60 = .ok (.aload_n 0, 1) := by decide +kernel
theorem dX5_carry_61 : decode cX5_carry 61 = .ok (.getfield 26, 3) := by decide +kernel
theorem dX5_carry_64 : decode cX5_carry 64 = .ok (.invokevirtual 47, 3) := by decide +kernel
theorem dX5_carry_67 : decode cX5_carry 67 = .ok (.aload_n 0, 1) := by decide +kernel
theorem dX5_carry_68 : decode cX5_carry 68 = .ok (.invokevirtual 50, 3) := by decide +kernel
theorem dX5_carry_71 : decode cX5_carry 71 = .ok (.i2l, 1) := by decide +kernel
theorem dX5_carry_72 : decode cX5_carry 72 = .ok (.lmul, 1) := by decide +kernel
theorem dX5_carry_73 : decode cX5_carry 73 = .ok (.invokevirtual 54, 3) := by decide +kernel
theorem dX5_carry_76 : decode cX5_carry 76 = .ok (.return_, 1) := by decide +kernel
theorem dX6_init_0 : decode cX6_init 0 = .ok (.aload_n 0, 1) := by decide +kernel
theorem dX6_init_1 : decode cX6_init 1 = .ok (.invokespecial 3, 3) := by decide +kernel
theorem dX6_init_4 : decode cX6_init 4 = .ok (.aload_n 0, 1) := by decide +kernel
theorem dX6_init_5 : decode cX6_init 5 = .ok (.new 9, 3) := by decide +kernel
theorem dX6_init_8 : decode cX6_init 8 = .ok (.dup, 1) := by decide +kernel
theorem dX6_init_9 : decode cX6_init 9 = .ok (.bipush 14, 2) := by decide +kernel
theorem dX6_init_11 : decode cX6_init 11 = .ok (.invokespecial 11, 3) := by decide +kernel
theorem dX6_init_14 : decode cX6_init 14 = .ok (.putfield 14, 3) := by decide +kernel
theorem dX6_init_17 : decode cX6_init 17 = .ok (.aload_n 0, 1) := by decide +kernel
theorem dX6_init_18 : decode cX6_init 18 = .ok (.new 9, 3) := by decide +kernel
theorem dX6_init_21 : decode cX6_init 21 = .ok (.dup, 1) := by decide +kernel
theorem dX6_init_22 : decode cX6_init 22 = .ok (.bipush 14, 2) := by decide +kernel
theorem dX6_init_24 : decode cX6_init 24 = .ok (.invokespecial 11, 3) := by decide +kernel
theorem dX6_init_27 : decode cX6_init 27 = .ok (.putfield 20, 3) := by decide +kernel
theorem dX6_init_30 : decode cX6_init 30 = .ok (.aload_n 0, 1) := by decide +kernel
theorem dX6_init_31 : decode cX6_init 31 = .ok (.new 9, 3) := by decide +kernel
theorem dX6_init_34 : decode cX6_init 34 = .ok (.dup, 1) := by decide +kernel
theorem dX6_init_35 : decode cX6_init 35 = .ok (.bipush 14, 2) := by decide +kernel
theorem dX6_init_37 : decode cX6_init 37 = .ok (.invokespecial 11, 3) := by decide +kernel
theorem dX6_init_40 : decode cX6_init 40 = .ok (.putfield 23, 3) := by decide +kernel
theorem dX6_init_43 : decode cX6_init 43 = .ok (.aload_n 0, 1) := by decide +kernel
theorem dX6_init_44 : decode cX6_init 44 = .ok (.bipush 16, 2) := by decide +kernel
theorem dX6_init_46 : decode cX6_init 46 = .ok (.newarray .long, 2) := by decide +kernel
theorem dX6_init_48 : decode cX6_init 48 = .ok (.putfield 26, 3) := by decide +kernel
theorem dX6_init_51 : decode cX6_init 51 = .ok (.aload_n 0, 1) := by decide +kernel
theorem dX6_init_52 : decode cX6_init 52 = .ok (.bipush 16, 2) := by decide +kernel
theorem dX6_init_54 : decode cX6_init 54 = .ok (.newarray .boolean, 2) := by decide +kernel
theorem dX6_init_56 : decode cX6_init 56 = .ok (.putfield 30, 3) := by decide +kernel
theorem dX6_init_59 : decode cX6_init 59 = .ok (.return_, 1) := by decide +kernel
theorem dX6_copyFrom_0 : decode cX6_copyFrom 0 = .ok (.aload_n 0, 1) := by decide +kernel
theorem dX6_copyFrom_1 : decode cX6_copyFrom 1 = .ok (.getfield 14, 3) := by decide +kernel
theorem dX6_copyFrom_4 : decode cX6_copyFrom 4 = .ok (.aload_n 1, 1) := by decide +kernel
theorem dX6_copyFrom_5 : decode cX6_copyFrom 5 = .ok (.getfield 14, 3) := by decide +kernel
theorem dX6_copyFrom_8 : decode cX6_copyFrom 8 = .ok (.invokevirtual 34, 3) := by decide +kernel
theorem dX6_copyFrom_11 : decode cX6_copyFrom 11 = .ok (.iconst 0, 1) := by decide +kernel
theorem dX6_copyFrom_12 : decode cX6_copyFrom 12 = .ok (.istore_n 2, 1) := by decide +kernel
theorem dX6_copyFrom_13 : decode cX6_copyFrom 13 = .ok (.iload_n 2, 1) := by decide +kernel
theorem dX6_copyFrom_14 : decode cX6_copyFrom 14 = .ok (.bipush 16, 2) := by decide +kernel
theorem dX6_copyFrom_16 : decode cX6_copyFrom 16 = .ok (.if_icmp .ge 33, 3) := by decide +kernel
theorem dX6_copyFrom_19 : decode cX6_copyFrom 19 = .ok (.aload_n 0, 1) := by decide +kernel
theorem dX6_copyFrom_20 : decode cX6_copyFrom 20 = .ok (.getfield 26, 3) := by decide +kernel
theorem dX6_copyFrom_23 : decode cX6_copyFrom 23 = .ok (.iload_n 2, 1) := by decide +kernel
theorem dX6_copyFrom_24 : decode cX6_copyFrom 24 = .ok (.aload_n 1, 1) := by decide +kernel
theorem dX6_copyFrom_25 : decode cX6_copyFrom 25 = .ok (.getfield 26, 3) := by decide +kernel
theorem dX6_copyFrom_28 : decode cX6_copyFrom 28 = .ok (.iload_n 2, 1) := by decide +kernel
theorem dX6_copyFrom_29 : decode cX6_copyFrom 29 = .ok (.laload, 1) := by decide +kernel
theorem dX6_copyFrom_30 : decode cX6_copyFrom 30 = .ok (.lastore, 1) := by decide +kernel
theorem dX6_copyFrom_31 : decode cX6_copyFrom 31 = .ok (.aload_n 0, 1) := by decide +kernel
theorem dX6_copyFrom_32 : decode cX6_copyFrom 32 = .ok (.getfield 30, 3) := by decide +kernel
theorem dX6_copyFrom_35 : decode cX6_copyFrom 35 = .ok (.iload_n 2, 1) := by decide +kernel
theorem dX6_copyFrom_36 : decode cX6_copyFrom 36 = .ok (.aload_n 1, 1) := by decide +kernel
theorem dX6_copyFrom_37 : decode cX6_copyFrom 37 = .ok (.getfield 30, 3) := by decide +kernel
theorem dX6_copyFrom_40 : decode cX6_copyFrom 40 = .ok (.iload_n 2, 1) := by decide +kernel
theorem dX6_copyFrom_41 : decode cX6_copyFrom 41 = .ok (.baload, 1) := by decide +kernel
theorem dX6_copyFrom_42 : decode cX6_copyFrom 42 = .ok (.bastore, 1) := by decide +kernel
theorem dX6_copyFrom_43 : decode cX6_copyFrom 43 = .ok (.iinc 2 1, 3) := by decide +kernel
theorem dX6_copyFrom_46 : decode cX6_copyFrom 46 = .ok (.goto (-33), 3) := by decide +kernel
theorem dX6_copyFrom_49 : decode cX6_copyFrom 49 = .ok (.return_, 1) := by decide +kernel
theorem dX6_has_0 : decode cX6_has 0 = .ok (.aload_n 0, 1) := by decide +kernel
theorem dX6_has_1 : decode cX6_has 1 = .ok (.getfield 38, 3) := by decide +kernel
theorem dX6_has_4 : decode cX6_has 4 = .ok (.ifCond .lt 16, 3) := by decide +kernel
theorem dX6_has_7 : decode cX6_has 7 = .ok (.aload_n 0, 1) := by decide +kernel
theorem dX6_has_8 : decode cX6_has 8 = .ok (.getfield 38, 3) := by decide +kernel
theorem dX6_has_11 : decode cX6_has 11 = .ok (.bipush 16, 2) := by decide +kernel
theorem dX6_has_13 : decode cX6_has 13 = .ok (.if_icmp .ge 7, 3) := by decide +kernel
theorem dX6_has_16 : decode cX6_has 16 = .ok (.iconst 1, 1) := by decide +kernel
theorem dX6_has_17 : decode cX6_has 17 = .ok (.goto 4, 3) := by decide +kernel
theorem dX6_has_20 : decode cX6_has 20 = .ok (.iconst 0, 1) := by decide +kernel
theorem dX6_has_21 : decode cX6_has 21 = .ok (.ireturn, 1) := by decide +kernel
theorem dX6_doesAct_0 : decode cX6_doesAct 0 = .ok (.aload_n 1, 1) := by decide +kernel
theorem dX6_doesAct_1 : decode cX6_doesAct 1 = .ok (.invokestatic 44, 3) := by decide +kernel
theorem dX6_doesAct_4 : decode cX6_doesAct 4 = .ok (.ifCond .eq 19, 3) := by decide +kernel
theorem dX6_doesAct_7 : decode cX6_doesAct 7 = .ok (.aload_n 0, 1) := by decide +kernel
theorem dX6_doesAct_8 : decode cX6_doesAct 8 = .ok (.getfield 30, 3) := by decide +kernel
theorem dX6_doesAct_11 : decode cX6_doesAct 11 = .ok (.aload_n 1, 1) := by decide +kernel
theorem dX6_doesAct_12 : decode cX6_doesAct 12 = .ok (.getfield 38, 3) := by decide +kernel
theorem dX6_doesAct_15 : decode cX6_doesAct 15 = .ok (.baload, 1) := by decide +kernel
theorem dX6_doesAct_16 : decode cX6_doesAct 16 = .ok (.ifCond .eq 7, 3) := by decide +kernel
theorem dX6_doesAct_19 : decode cX6_doesAct 19 = .ok (.iconst 1, 1) := by decide +kernel
theorem dX6_doesAct_20 : decode cX6_doesAct 20 = .ok (.goto 4, 3) := by decide +kernel
theorem dX6_doesAct_23 : decode cX6_doesAct 23 = .ok (.iconst 0, 1) := by decide +kernel
theorem dX6_doesAct_24 : decode cX6_doesAct 24 = .ok (.ireturn, 1) := by decide +kernel
theorem dX6_setActs_0 : decode cX6_setActs 0 = .ok (.aload_n 1, 1) := by decide +kernel
theorem dX6_setActs_1 : decode cX6_setActs 1 = .ok (.invokestatic 44, 3) := by decide +kernel
theorem dX6_setActs_4 : decode cX6_setActs 4 = .ok (.ifCond .eq 13, 3) := by decide +kernel
theorem dX6_setActs_7 : decode cX6_setActs 7 = .ok (.aload_n 0, 1) := by decide +kernel
theorem dX6_setActs_8 : decode cX6_setActs 8 = .ok (.getfield 30, 3) := by decide +kernel
theorem dX6_setActs_11 : decode cX6_setActs 11 = .ok (.aload_n 1, 1) := by decide +kernel
theorem dX6_setActs_12 : decode cX6_setActs 12 = .ok (.getfield 38, 3) := by decide +kernel
theorem dX6_setActs_15 : decode cX6_setActs 15 = .ok (.iload_n 2, 1) := by decide +kernel
theorem dX6_setActs_16 : decode cX6_setActs 16 = .ok (.bastore, 1) := by decide +kernel
theorem dX6_setActs_17 : decode cX6_setActs 17 = .ok (.return_, 1) := by decide +kernel
theorem dX6_begin_0 : decode cX6_begin 0 = .ok (.aload_n 1, 1) := by decide +kernel
theorem dX6_begin_1 : decode cX6_begin 1 = .ok (.invokestatic 44, 3) := by decide +kernel
theorem dX6_begin_4 : decode cX6_begin 4 = .ok (.ifCond .eq 41, 3) := by decide +kernel
theorem dX6_begin_7 : decode cX6_begin 7 = .ok (.aload_n 0, 1) := by decide +kernel
theorem dX6_begin_8 : decode cX6_begin 8 = .ok (.getfield 30, 3) := by decide +kernel
theorem dX6_begin_11 : decode cX6_begin 11 = .ok (.aload_n 1, 1) := by decide +kernel
theorem dX6_begin_12 : decode cX6_begin 12 = .ok (.getfield 38, 3) := by decide +kernel
theorem dX6_begin_15 : decode cX6_begin 15 = .ok (.aload_n 1, 1) := by decide +kernel
theorem dX6_begin_16 : decode cX6_begin 16 = .ok (.invokevirtual 48, 3) := by decide +kernel
theorem dX6_begin_19 : decode cX6_begin 19 = .ok (.bastore, 1) := by decide +kernel
theorem dX6_begin_20 : decode cX6_begin 20 = .ok (.aload_n 0, 1) := by decide +kernel
theorem dX6_begin_21 : decode cX6_begin 21 = .ok (.getfield 26, 3) := by decide +kernel
theorem dX6_begin_24 : decode cX6_begin 24 = .ok (.aload_n 1, 1) := by decide +kernel
theorem dX6_begin_25 : decode cX6_begin 25 = .ok (.getfield 38, 3) := by decide +kernel
theorem dX6_begin_28 : decode cX6_begin 28 = .ok (.aload_n 0, 1) := by decide +kernel
theorem dX6_begin_29 : decode cX6_begin 29 = .ok (.getfield 14, 3) := by decide +kernel
theorem dX6_begin_32 : decode cX6_begin 32 = .ok (.aload_n 1, 1) := by decide +kernel
theorem dX6_begin_33 : decode cX6_begin 33 = .ok (.getfield 52, 3) := by decide +kernel
theorem dX6_begin_36 : decode cX6_begin 36 = .ok (.aload_n 1, 1) := by decide +kernel
theorem dX6_begin_37 : decode cX6_begin 37 = .ok (.getfield 55, 3) := by decide +kernel
theorem dX6_begin_40 : decode cX6_begin 40 = .ok (.i2l, 1) := by decide +kernel
theorem dX6_begin_41 : decode cX6_begin 41 = .ok (.invokevirtual 58, 3) := by decide +kernel
theorem dX6_begin_44 : decode cX6_begin 44 = .ok (.lastore, 1) := by decide +kernel
theorem dX6_begin_45 : decode cX6_begin 45 = .ok (.return_, 1) := by decide +kernel
theorem dX6_turnInput_0 : decode cX6_turnInput 0 = .ok (.aload_n 0, 1) := by decide +kernel
theorem dX6_turnInput_1 : decode cX6_turnInput 1 = .ok (.getfield 20, 3) := by decide +kernel
theorem dX6_turnInput_4 : decode cX6_turnInput 4 = .ok (.aload_n 0, 1) := by decide +kernel
theorem dX6_turnInput_5 : decode cX6_turnInput 5 = .ok (.getfield 14, 3) := by decide +kernel
theorem dX6_turnInput_8 : decode cX6_turnInput 8 = .ok (.invokevirtual 34, 3) := by decide +kernel
theorem dX6_turnInput_11 : decode cX6_turnInput 11 = .ok (.aload_n 0, 1) := by decide +kernel
theorem dX6_turnInput_12 : decode cX6_turnInput 12 = .ok (.getfield 23, 3) := by decide +kernel
theorem dX6_turnInput_15 : decode cX6_turnInput 15 = .ok (.invokevirtual 62, 3) := by decide +kernel
theorem dX6_turnInput_18 : decode cX6_turnInput 18 = .ok (.aload_n 0, 1) := by decide +kernel
theorem dX6_turnInput_19 : decode cX6_turnInput 19 = .ok (.getfield 23, 3) := by decide +kernel
theorem dX6_turnInput_22 : decode cX6_turnInput 22 = .ok (.iload_n 1, 1) := by decide +kernel
theorem dX6_turnInput_23 : decode cX6_turnInput 23 = .ok (.iload_n 2, 1) := by decide +kernel
theorem dX6_turnInput_24 : decode cX6_turnInput 24 = .ok (.i2l, 1) := by decide +kernel
theorem dX6_turnInput_25 : decode cX6_turnInput 25 = .ok (.ldc2_w 65, 3) := by decide +kernel
theorem dX6_turnInput_28 : decode cX6_turnInput 28 = .ok (.invokevirtual 67, 3) := by decide +kernel
theorem dX6_turnInput_31 : decode cX6_turnInput 31 = .ok (.aload_n 0, 1) := by decide +kernel
theorem dX6_turnInput_32 : decode cX6_turnInput 32 = .ok (.getfield 14, 3) := by decide +kernel
theorem dX6_turnInput_35 : decode cX6_turnInput 35 = .ok (.iload_n 1, 1) := by decide +kernel
theorem dX6_turnInput_36 : decode cX6_turnInput 36 = .ok (.iload_n 2, 1) := by decide +kernel
theorem dX6_turnInput_37 : decode cX6_turnInput 37 = .ok (.i2l, 1) := by decide +kernel
theorem dX6_turnInput_38 : decode cX6_turnInput 38 = .ok (.ldc2_w 65, 3) := by decide +kernel
theorem dX6_turnInput_41 : decode cX6_turnInput 41 = .ok (.invokevirtual 71, 3) := by decide +kernel
theorem dX6_turnInput_44 : decode cX6_turnInput 44 = .ok (.return_, 1) := by decide +kernel
theorem dX6_follow_0 : decode cX6_follow 0 = .ok (.aload_n 0, 1) := by decide +kernel
theorem dX6_follow_1 : decode cX6_follow 1 = .ok (.aload_n 1, 1) := by decide +kernel
theorem dX6_follow_2 : decode cX6_follow 2 = .ok (.invokevirtual 74, 3) := by decide +kernel
theorem dX6_follow_5 : decode cX6_follow 5 = .ok (.ifCond .eq 31, 3) := by decide +kernel
theorem dX6_follow_8 : decode cX6_follow 8 = .ok (.aload_n 0, 1) := by decide +kernel
theorem dX6_follow_9 : decode cX6_follow 9 = .ok (.getfield 23, 3) := by decide +kernel
theorem dX6_follow_12 : decode cX6_follow 12 = .ok (.aload_n 1, 1) := by decide +kernel
theorem dX6_follow_13 : decode cX6_follow 13 = .ok (.getfield 52, 3) := by decide +kernel
theorem dX6_follow_16 : decode cX6_follow 16 = .ok (.invokevirtual 76, 3) := by decide +kernel
theorem dX6_follow_19 : decode cX6_follow 19 = .ok (.ifCond .ne 18, 3) := by decide +kernel
theorem dX6_follow_22 : decode cX6_follow 22 = .ok (.aload_n 0, 1) := by decide +kernel
theorem dX6_follow_23 : decode cX6_follow 23 = .ok (.getfield 23, 3) := by decide +kernel
theorem dX6_follow_26 : decode cX6_follow 26 = .ok (.aload_n 1, 1) := by decide +kernel
theorem dX6_follow_27 : decode cX6_follow 27 = .ok (.getfield 80, 3) := by decide +kernel
theorem dX6_follow_30 : decode cX6_follow 30 = .ok (.invokevirtual 76, 3) := by decide +kernel
theorem dX6_follow_33 : decode cX6_follow 33 = .ok (.ifCond .ne 4, 3) := by decide +kernel
theorem dX6_follow_36 : decode cX6_follow 36 = .ok (.return_, 1) := by decide +kernel
theorem dX6_follow_37 : decode cX6_follow 37 = .ok (.aload_n 1, 1) := by decide +kernel
theorem dX6_follow_38 : decode cX6_follow 38 = .ok (.getfield 83, 3) := by decide +kernel
theorem dX6_follow_41 : decode cX6_follow 41 = .ok (.bipush 118, 2) := by decide +kernel
theorem dX6_follow_43 : decode cX6_follow 43 = .ok (.if_icmp .ne 47, 3) := by decide +kernel
theorem dX6_follow_46 : decode cX6_follow 46 = .ok (.aload_n 0, 1) := by decide +kernel
theorem dX6_follow_47 : decode cX6_follow 47 = .ok (.getfield 23, 3) := by decide +kernel
theorem dX6_follow_50 : decode cX6_follow 50 = .ok (.aload_n 1, 1) := by decide +kernel
theorem dX6_follow_51 : decode cX6_follow 51 = .ok (.getfield 87, 3) := by decide +kernel
theorem dX6_follow_54 : decode cX6_follow 54 = .ok (.aload_n 0, 1) := by decide +kernel
theorem dX6_follow_55 : decode cX6_follow 55 = .ok (.getfield 14, 3) := by decide +kernel
theorem dX6_follow_58 : decode cX6_follow 58 = .ok (.aload_n 1, 1) := by decide +kernel
theorem dX6_follow_59 : decode cX6_follow 59 = .ok (.getfield 52, 3) := by decide +kernel
theorem dX6_follow_62 : decode cX6_follow 62 = .ok (.lconst 1, 1) := by decide +kernel
theorem dX6_follow_63 : decode cX6_follow 63 = .ok (.invokevirtual 58, 3) := by decide +kernel
theorem dX6_follow_66 : decode cX6_follow 66 = .ok (.aload_n 0, 1) := by decide +kernel
theorem dX6_follow_67 : decode cX6_follow 67 = .ok (.getfield 20, 3) := by decide +kernel
theorem dX6_follow_70 : decode cX6_follow 70 = .ok (.aload_n 1, 1) := by decide +kernel
theorem dX6_follow_71 : decode cX6_follow 71 = .ok (.getfield 52, 3) := by decide +kernel
theorem dX6_follow_74 : decode cX6_follow 74 = .ok (.lconst 1, 1) := by decide +kernel
theorem dX6_follow_75 : decode cX6_follow 75 = .ok (.invokevirtual 58, 3) := by decide +kernel
theorem dX6_follow_78 : decode cX6_follow 78 = .ok (.lsub, 1) := by decide +kernel
theorem dX6_follow_79 : decode cX6_follow 79 = .ok (.aload_n 1, 1) := by decide +kernel
theorem dX6_follow_80 : decode cX6_follow 80 = .ok (.getfield 55, 3) := by decide +kernel
theorem dX6_follow_83 : decode cX6_follow 83 = .ok (.i2l, 1) := by decide +kernel
theorem dX6_follow_84 : decode cX6_follow 84 = .ok (.invokevirtual 67, 3) := by decide +kernel
theorem dX6_follow_87 : decode cX6_follow 87 = .ok (.goto 32, 3) := by decide +kernel
theorem dX6_follow_90 : decode cX6_follow 90 = .ok (.aload_n 1, 1) := by decide +kernel
theorem dX6_follow_91 : decode cX6_follow 91 = .ok (.getfield 83, 3) := by decide +kernel
theorem dX6_follow_94 : decode cX6_follow 94 = .ok (.bipush 114, 2) := by decide +kernel
theorem dX6_follow_96 : decode cX6_follow 96 = .ok (.if_icmp .ne 11, 3) := by decide +kernel
theorem dX6_follow_99 : decode cX6_follow 99 = .ok (.aload_n 0, 1) := by decide +kernel
theorem dX6_follow_100 : decode cX6_follow 100 = .ok (.aload_n 1, 1) := by decide +kernel
theorem dX6_follow_101 : decode cX6_follow 101 = .ok (.invokevirtual 90, 3) := by decide +kernel
theorem dX6_follow_104 : decode cX6_follow 104 = .ok (.goto 15, 3) := by decide +kernel
theorem dX6_follow_107 : decode cX6_follow 107 = .ok (.aload_n 1, 1) := by decide +kernel
theorem dX6_follow_108 : decode cX6_follow 108 = .ok (.aload_n 0, 1) := by decide +kernel
theorem dX6_follow_109 : decode cX6_follow 109 = .ok (.getfield 23, 3) := by decide +kernel
theorem dX6_follow_112 : decode cX6_follow 112 = .ok (.aload_n 1, 1) := by decide +kernel
theorem dX6_follow_113 : decode cX6_follow 113 = .ok (.invokevirtual 94, 3) := by decide +kernel
theorem dX6_follow_116 : decode cX6_follow 116 = .ok (.invokevirtual 98, 3) := by decide +kernel
theorem dX6_follow_119 : decode cX6_follow 119 = .ok (.aload_n 0, 1) := by decide +kernel
theorem dX6_follow_120 : decode cX6_follow 120 = .ok (.getfield 14, 3) := by decide +kernel
theorem dX6_follow_123 : decode cX6_follow 123 = .ok (.aload_n 1, 1) := by decide +kernel
theorem dX6_follow_124 : decode cX6_follow 124 = .ok (.getfield 87, 3) := by decide +kernel
theorem dX6_follow_127 : decode cX6_follow 127 = .ok (.aload_n 0, 1) := by decide +kernel
theorem dX6_follow_128 : decode cX6_follow 128 = .ok (.getfield 23, 3) := by decide +kernel
theorem dX6_follow_131 : decode cX6_follow 131 = .ok (.aload_n 1, 1) := by decide +kernel
theorem dX6_follow_132 : decode cX6_follow 132 = .ok (.getfield 87, 3) := by decide +kernel
theorem dX6_follow_135 : decode cX6_follow 135 = .ok (.invokevirtual 102, 3) := by decide +kernel
theorem dX6_follow_138 : decode cX6_follow 138 = .ok (.aload_n 0, 1) := by decide +kernel
theorem dX6_follow_139 : decode cX6_follow 139 = .ok (.getfield 23, 3) := by decide +kernel
theorem dX6_follow_142 : decode cX6_follow 142 = .ok (.aload_n 1, 1) := by decide +kernel
theorem dX6_follow_143 : decode cX6_follow 143 = .ok (.getfield 87, 3) := by decide +kernel
theorem dX6_follow_146 : decode cX6_follow 146 = .ok (.invokevirtual 106, 3) := by decide +kernel
theorem dX6_follow_149 : decode cX6_follow 149 = .ok (.invokevirtual 71, 3) := by decide +kernel
theorem dX6_follow_152 : decode cX6_follow 152 = .ok (.return_, 1) := by decide +kernel
theorem dX6_followRatchet_0 : decode cX6_followRatchet 0 = .ok (.aload_n 0, 1) := by decide +kernel
theorem dX6_followRatchet_1 : decode cX6_followRatchet 1 = .ok (.getfield 14, 3) := by decide +kernel
theorem dX6_followRatchet_4 : decode cX6_followRatchet 4 = .ok (.aload_n 1, 1) := by decide +kernel
theorem dX6_followRatchet_5 : decode cX6_followRatchet 5 = .ok (.getfield 52, 3) := by decide +kernel
theorem dX6_followRatchet_8 : decode cX6_followRatchet 8 = .ok (.aload_n 1, 1) := by decide +kernel
theorem dX6_followRatchet_9 : decode cX6_followRatchet 9 = .ok (.getfield 55, 3) := by decide +kernel
theorem dX6_followRatchet_12 : decode cX6_followRatchet 12 = .ok (.i2l, 1) := by decide +kernel
theorem dX6_followRatchet_13 : decode cX6_followRatchet 13 = .ok (.invokevirtual 58, 3) := by decide +kernel
theorem dX6_followRatchet_16 : decode cX6_followRatchet 16 = .ok (.lstore_n 2, 1) := by decide +kernel
theorem dX6_followRatchet_17 : decode cX6_followRatchet 17 = .ok (.aload_n 1, 1) := by decide +kernel
theorem dX6_followRatchet_18 : decode cX6_followRatchet 18 = .ok (.invokestatic 44, 3) := by decide +kernel
theorem dX6_followRatchet_21 : decode cX6_followRatchet 21 = .ok (.ifCond .eq 54, 3) := by decide +kernel
theorem dX6_followRatchet_24 : decode cX6_followRatchet 24 = .ok (.lload_n 2, 1) := by decide +kernel
theorem dX6_followRatchet_25 : decode cX6_followRatchet 25 = .ok (.aload_n 0, 1) := by decide +kernel
theorem dX6_followRatchet_26 : decode cX6_followRatchet 26 = .ok (.getfield 26, 3) := by decide +kernel
theorem dX6_followRatchet_29 : decode cX6_followRatchet 29 = .ok (.aload_n 1, 1) := by decide +kernel
theorem dX6_followRatchet_30 : decode cX6_followRatchet 30 = .ok (.getfield 38, 3) := by decide +kernel
theorem dX6_followRatchet_33 : decode cX6_followRatchet 33 = .ok (.laload, 1) := by decide +kernel
theorem dX6_followRatchet_34 : decode cX6_followRatchet 34 = .ok (.lcmp, 1) := by decide +kernel
theorem dX6_followRatchet_35 : decode cX6_followRatchet 35 = .ok (.ifCond .le 40, 3) := by decide +kernel
theorem dX6_followRatchet_38 : decode cX6_followRatchet 38 = .ok (.aload_n 0, 1) := by decide +kernel
theorem dX6_followRatchet_39 : decode cX6_followRatchet 39 = .ok (.getfield 23, 3) := by decide +kernel
theorem dX6_followRatchet_42 : decode cX6_followRatchet 42 = .ok (.aload_n 1, 1) := by decide +kernel
theorem dX6_followRatchet_43 : decode cX6_followRatchet 43 = .ok (.getfield 87, 3) := by decide +kernel
theorem dX6_followRatchet_46 : decode cX6_followRatchet 46 = .ok (.lload_n 2, 1) := by decide +kernel
theorem dX6_followRatchet_47 : decode cX6_followRatchet 47 = .ok (.aload_n 0, 1) := by decide +kernel
theorem dX6_followRatchet_48 : decode cX6_followRatchet 48 = .ok (.getfield 26, 3) := by decide +kernel
theorem dX6_followRatchet_51 : decode cX6_followRatchet 51 = .ok (.aload_n 1, 1) := by decide +kernel
theorem dX6_followRatchet_52 : decode cX6_followRatchet 52 = .ok (.getfield 38, 3) := by decide +kernel
theorem dX6_followRatchet_55 : decode cX6_followRatchet 55 = .ok (.laload, 1) := by decide +kernel
theorem dX6_followRatchet_56 : decode cX6_followRatchet 56 = .ok (.lsub, 1) := by decide +kernel
theorem dX6_followRatchet_57 : decode cX6_followRatchet 57 = .ok (.aload_n 1, 1) := by decide +kernel
theorem dX6_followRatchet_58 : decode cX6_followRatchet 58 = .ok (.getfield 55, 3) := by decide +kernel
theorem dX6_followRatchet_61 : decode cX6_followRatchet 61 = .ok (.i2l, 1) := by decide +kernel
theorem dX6_followRatchet_62 : decode cX6_followRatchet 62 = .ok (.invokevirtual 67, 3) := by decide +kernel
theorem dX6_followRatchet_65 : decode cX6_followRatchet 65 = .ok (.aload_n 0, 1) := by decide +kernel
theorem dX6_followRatchet_66 : decode cX6_followRatchet 66 = .ok (.getfield 26, 3) := by decide +kernel
theorem dX6_followRatchet_69 : decode cX6_followRatchet 69 = .ok (.aload_n 1, 1) := by decide +kernel
theorem dX6_followRatchet_70 : decode cX6_followRatchet 70 = .ok (.getfield 38, 3) := by decide +kernel
theorem dX6_followRatchet_73 : decode cX6_followRatchet 73 = .ok (.lload_n 2, 1) := by decide +kernel
theorem dX6_followRatchet_74 : decode cX6_followRatchet 74 = .ok (.lastore, 1) := by decide +kernel
theorem dX6_followRatchet_75 : decode cX6_followRatchet 75 = .ok (.return_, 1) := by decide +kernel
theorem dX7_init_0 : decode cX7_init 0 = .ok (.aload_n 0, 1) := by decide +kernel
theorem dX7_init_1 : decode cX7_init 1 = .ok (.invokespecial 1, 3) := by decide +kernel
theorem dX7_init_4 : decode cX7_init 4 = .ok (.aload_n 0, 1) := by decide +kernel
theorem dX7_init_5 : decode cX7_init 5 = .ok (.new 7, 3) := by decide +kernel
theorem dX7_init_8 : decode cX7_init 8 = .ok (.dup, 1) := by decide +kernel
theorem dX7_init_9 : decode cX7_init 9 = .ok (.invokespecial 9, 3) := by decide +kernel
theorem dX7_init_12 : decode cX7_init 12 = .ok (.putfield 10, 3) := by decide +kernel
theorem dX7_init_15 : decode cX7_init 15 = .ok (.aload_n 0, 1) := by decide +kernel
theorem dX7_init_16 : decode cX7_init 16 = .ok (.new 7, 3) := by decide +kernel
theorem dX7_init_19 : decode cX7_init 19 = .ok (.dup, 1) := by decide +kernel
theorem dX7_init_20 : decode cX7_init 20 = .ok (.invokespecial 9, 3) := by decide +kernel
theorem dX7_init_23 : decode cX7_init 23 = .ok (.putfield 16, 3) := by decide +kernel
theorem dX7_init_26 : decode cX7_init 26 = .ok (.aload_n 0, 1) := by decide +kernel
theorem dX7_init_27 : decode cX7_init 27 = .ok (.new 7, 3) := by decide +kernel
theorem dX7_init_30 : decode cX7_init 30 = .ok (.dup, 1) := by decide +kernel
theorem dX7_init_31 : decode cX7_init 31 = .ok (.invokespecial 9, 3) := by decide +kernel
theorem dX7_init_34 : decode cX7_init 34 = .ok (.putfield 19, 3) := by decide +kernel
theorem dX7_init_37 : decode cX7_init 37 = .ok (.aload_n 0, 1) := by decide +kernel
theorem dX7_init_38 : decode cX7_init 38 = .ok (.new 7, 3) := by decide +kernel
theorem dX7_init_41 : decode cX7_init 41 = .ok (.dup, 1) := by decide +kernel
theorem dX7_init_42 : decode cX7_init 42 = .ok (.invokespecial 9, 3) := by decide +kernel
theorem dX7_init_45 : decode cX7_init 45 = .ok (.putfield 22, 3) := by decide +kernel
theorem dX7_init_48 : decode cX7_init 48 = .ok (.aload_n 0, 1) := by decide +kernel
theorem dX7_init_49 : decode cX7_init 49 = .ok (.bipush 14, 2) := by decide +kernel
theorem dX7_init_51 : decode cX7_init 51 = .ok (.newarray .int, 2) := by decide +kernel
theorem dX7_init_53 : decode cX7_init 53 = .ok (.putfield 25, 3) := by decide +kernel
theorem dX7_init_56 : decode cX7_init 56 = .ok (.aload_n 0, 1) := by decide +kernel
theorem dX7_init_57 : decode cX7_init 57 = .ok (.bipush 14, 2) := by decide +kernel
theorem dX7_init_59 : decode cX7_init 59 = .ok (.newarray .int, 2) := by decide +kernel
theorem dX7_init_61 : decode cX7_init 61 = .ok (.putfield 29, 3) := by decide +kernel
theorem dX7_init_64 : decode cX7_init 64 = .ok (.aload_n 0, 1) := by decide +kernel
theorem dX7_init_65 : decode cX7_init 65 = .ok (.bipush 14, 2) := by decide +kernel
theorem dX7_init_67 : decode cX7_init 67 = .ok (.newarray .boolean, 2) := by decide +kernel
theorem dX7_init_69 : decode cX7_init 69 = .ok (.putfield 32, 3) := by decide +kernel
theorem dX7_init_72 : decode cX7_init 72 = .ok (.aload_n 0, 1) := by decide +kernel
theorem dX7_init_73 : decode cX7_init 73 = .ok (.bipush 14, 2) := by decide +kernel
theorem dX7_init_75 : decode cX7_init 75 = .ok (.newarray .boolean, 2) := by decide +kernel
theorem dX7_init_77 : decode cX7_init 77 = .ok (.putfield 36, 3) := by decide +kernel
theorem dX7_init_80 : decode cX7_init 80 = .ok (.aload_n 0, 1) := by decide +kernel
theorem dX7_init_81 : decode cX7_init 81 = .ok (.new 39, 3) := by decide +kernel
theorem dX7_init_84 : decode cX7_init 84 = .ok (.dup, 1) := by decide +kernel
theorem dX7_init_85 : decode cX7_init 85 = .ok (.bipush 14, 2) := by decide +kernel
theorem dX7_init_87 : decode cX7_init 87 = .ok (.invokespecial 41, 3) := by decide +kernel
theorem dX7_init_90 : decode cX7_init 90 = .ok (.putfield 44, 3) := by decide +kernel
theorem dX7_init_93 : decode cX7_init 93 = .ok (.aload_n 0, 1) := by decide +kernel
theorem dX7_init_94 : decode cX7_init 94 = .ok (.new 39, 3) := by decide +kernel
theorem dX7_init_97 : decode cX7_init 97 = .ok (.dup, 1) := by decide +kernel
theorem dX7_init_98 : decode cX7_init 98 = .ok (.bipush 16, 2) := by decide +kernel
theorem dX7_init_100 : decode cX7_init 100 = .ok (.invokespecial 41, 3) := by decide +kernel
theorem dX7_init_103 : decode cX7_init 103 = .ok (.putfield 48, 3) := by decide +kernel
theorem dX7_init_106 : decode cX7_init 106 = .ok (.aload_n 0, 1) := by decide +kernel
theorem dX7_init_107 : decode cX7_init 107 = .ok (.new 51, 3) := by decide +kernel
theorem dX7_init_110 : decode cX7_init 110 = .ok (.dup, 1) := by decide +kernel
theorem dX7_init_111 : decode cX7_init 111 = .ok (.invokespecial 53, 3) := by decide +kernel
theorem dX7_init_114 : decode cX7_init 114 = .ok (.putfield 54, 3) := by decide +kernel
theorem dX7_init_117 : decode cX7_init 117 = .ok (.aload_n 0, 1) := by decide +kernel
theorem dX7_init_118 : decode cX7_init 118 = .ok (.new 51, 3) := by decide +kernel
theorem dX7_init_121 : decode cX7_init 121 = .ok (.dup, 1) := by decide +kernel
theorem dX7_init_122 : decode cX7_init 122 = .ok (.invokespecial 53, 3) := by decide +kernel
theorem dX7_init_125 : decode cX7_init 125 = .ok (.putfield 58, 3) := by decide +kernel
theorem dX7_init_128 : decode cX7_init 128 = .ok (.aload_n 0, 1) := by decide +kernel
theorem dX7_init_129 : decode cX7_init 129 = .ok (.new 51, 3) := by decide +kernel
theorem dX7_init_132 : decode cX7_init 132 = .ok (.dup, 1) := by decide +kernel
theorem dX7_init_133 : decode cX7_init 133 = .ok (.invokespecial 53, 3) := by decide +kernel
theorem dX7_init_136 : decode cX7_init 136 = .ok (.putfield 61, 3) := by decide +kernel
theorem dX7_init_139 : decode cX7_init 139 = .ok (.aload_n 0, 1) := by decide +kernel
theorem dX7_init_140 : decode cX7_init 140 = .ok (.iconst (-1), 1) := by decide +kernel
theorem dX7_init_141 : decode cX7_init 141 = .ok (.putfield 64, 3) := by decide +kernel
theorem dX7_init_144 : decode cX7_init 144 = .ok (.aload_n 0, 1) := by decide +kernel
theorem dX7_init_145 : decode cX7_init 145 = .ok (.getfield 25, 3) := by decide +kernel
theorem dX7_init_148 : decode cX7_init 148 = .ok (.iconst (-1), 1) := by decide +kernel
theorem dX7_init_149 : decode cX7_init 149 = .ok (.invokestatic 68, 3) := by decide +kernel
theorem dX7_init_152 : decode cX7_init 152 = .ok (.return_, 1) := by decide +kernel
theorem dX7_shaft_0 : decode cX7_shaft 0 = .ok (.aload_n 0, 1) := by decide +kernel
theorem dX7_shaft_1 : decode cX7_shaft 1 = .ok (.getfield 74, 3) := by decide +kernel
theorem dX7_shaft_4 : decode cX7_shaft 4 = .ok (.bipush 14, 2) := by decide +kernel
theorem dX7_shaft_6 : decode cX7_shaft 6 = .ok (.if_icmp .lt 13, 3) := by decide +kernel
theorem dX7_shaft_9 : decode cX7_shaft 9 = .ok (.new 77, 3) := by decide +kernel
theorem dX7_shaft_12 : decode cX7_shaft 12 = .ok (.dup, 1) := by decide +kernel
theorem dX7_shaft_13 : decode cX7_shaft 13 = .ok (.ldc 79, 2) := by decide +kernel
theorem dX7_shaft_15 : decode cX7_shaft 15 = .ok (.invokespecial 81, 3) := by decide +kernel
theorem dX7_shaft_18 : decode cX7_shaft 18 = .ok (.athrow, 1) := by decide +kernel
theorem dX7_shaft_19 : decode cX7_shaft 19 = .ok (.aload_n 0, 1) := by decide +kernel
theorem dX7_shaft_20 : decode cX7_shaft 20 = .ok (.dup, 1) := by decide +kernel
theorem dX7_shaft_21 : decode cX7_shaft 21 = .ok (.getfield 74, 3) := by decide +kernel
theorem dX7_shaft_24 : decode cX7_shaft 24 = .ok (.iconst 1, 1) := by decide +kernel
theorem dX7_shaft_25 : decode cX7_shaft 25 = .ok (.iadd, 1) := by decide +kernel
theorem dX7_shaft_26 : decode cX7_shaft 26 = .ok (.putfield 74, 3) := by decide +kernel
theorem dX7_shaft_29 : decode cX7_shaft 29 = .ok (.aload_n 0, 1) := by decide +kernel
theorem dX7_shaft_30 : decode cX7_shaft 30 = .ok (.getfield 74, 3) := by decide +kernel
theorem dX7_shaft_33 : decode cX7_shaft 33 = .ok (.iconst 1, 1) := by decide +kernel
theorem dX7_shaft_34 : decode cX7_shaft 34 = .ok (.isub, 1) := by decide +kernel
theorem dX7_shaft_35 : decode cX7_shaft 35 = .ok (.ireturn, 1) := by decide +kernel
theorem dX7_link_0 : decode cX7_link 0 = .ok (.aload_n 0, 1) := by decide +kernel
theorem dX7_link_1 : decode cX7_link 1 = .ok (.iload_n 2, 1) := by decide +kernel
theorem dX7_link_2 : decode cX7_link 2 = .ok (.invokevirtual 84, 3) := by decide +kernel
theorem dX7_link_5 : decode cX7_link 5 = .ok (.aload_n 0, 1) := by decide +kernel
theorem dX7_link_6 : decode cX7_link 6 = .ok (.iload_n 3, 1) := by decide +kernel
theorem dX7_link_7 : decode cX7_link 7 = .ok (.invokevirtual 84, 3) := by decide +kernel
theorem dX7_link_10 : decode cX7_link 10 = .ok (.iload_n 1, 1) := by decide +kernel
theorem dX7_link_11 : decode cX7_link 11 = .ok (.iload 4, 2) := by decide +kernel
theorem dX7_link_13 : decode cX7_link 13 = .ok (.iload 5, 2) := by decide +kernel
theorem dX7_link_15 : decode cX7_link 15 = .ok (.invokestatic 87, 3) := by decide +kernel
theorem dX7_link_18 : decode cX7_link 18 = .ok (.ifCond .ne 13, 3) := by decide +kernel
theorem dX7_link_21 : decode cX7_link 21 = .ok (.new 91, 3) := by decide +kernel
theorem dX7_link_24 : decode cX7_link 24 = .ok (.dup, 1) := by decide +kernel
theorem dX7_link_25 : decode cX7_link 25 = .ok (.ldc 93, 2) := by decide +kernel
theorem dX7_link_27 : decode cX7_link 27 = .ok (.invokespecial 95, 3) := by decide +kernel
theorem dX7_link_30 : decode cX7_link 30 = .ok (.athrow, 1) := by decide +kernel
theorem dX7_link_31 : decode cX7_link 31 = .ok (.iload_n 2, 1) := by decide +kernel
theorem dX7_link_32 : decode cX7_link 32 = .ok (.iload_n 3, 1) := by decide +kernel
theorem dX7_link_33 : decode cX7_link 33 = .ok (.if_icmp .ne 13, 3) := by decide +kernel
theorem dX7_link_36 : decode cX7_link 36 = .ok (.new 96, 3) := by decide +kernel
theorem dX7_link_39 : decode cX7_link 39 = .ok (.dup, 1) := by decide +kernel
theorem dX7_link_40 : decode cX7_link 40 = .ok (.ldc 98, 2) := by decide +kernel
theorem dX7_link_42 : decode cX7_link 42 = .ok (.invokespecial 100, 3) := by decide +kernel
theorem dX7_link_45 : decode cX7_link 45 = .ok (.athrow, 1) := by decide +kernel
theorem dX7_link_46 : decode cX7_link 46 = .ok (.aload_n 0, 1) := by decide +kernel
theorem dX7_link_47 : decode cX7_link 47 = .ok (.new 101, 3) := by decide +kernel
theorem dX7_link_50 : decode cX7_link 50 = .ok (.dup, 1) := by decide +kernel
theorem dX7_link_51 : decode cX7_link 51 = .ok (.aload_n 0, 1) := by decide +kernel
theorem dX7_link_52 : decode cX7_link 52 = .ok (.getfield 10, 3) := by decide +kernel
theorem dX7_link_55 : decode cX7_link 55 = .ok (.invokevirtual 103, 3) := by decide +kernel
theorem dX7_link_58 : decode cX7_link 58 = .ok (.iload_n 1, 1) := by decide +kernel
theorem dX7_link_59 : decode cX7_link 59 = .ok (.iload_n 2, 1) := by decide +kernel
theorem dX7_link_60 : decode cX7_link 60 = .ok (.iconst (-1), 1) := by decide +kernel
theorem dX7_link_61 : decode cX7_link 61 = .ok (.iload_n 3, 1) := by decide +kernel
theorem dX7_link_62 : decode cX7_link 62 = .ok (.iload 4, 2) := by decide +kernel
theorem dX7_link_64 : decode cX7_link 64 = .ok (.iload 5, 2) := by decide +kernel
theorem dX7_link_66 : decode cX7_link 66 = .ok (.invokespecial 107, 3) := by decide +kernel
theorem dX7_link_69 : decode cX7_link 69 = .ok (.invokevirtual 110, 3) := by decide +kernel
theorem dX7_link_72 : decode cX7_link 72 = .ok (.ireturn, 1) := by decide +kernel
theorem dX7_planets_0 : decode cX7_planets 0 = .ok (.aload_n 0, 1) := by decide +kernel
theorem dX7_planets_1 : decode cX7_planets 1 = .ok (.iload_n 1, 1) := by decide +kernel
theorem dX7_planets_2 : decode cX7_planets 2 = .ok (.invokevirtual 84, 3) := by decide +kernel
theorem dX7_planets_5 : decode cX7_planets 5 = .ok (.aload_n 0, 1) := by decide +kernel
theorem dX7_planets_6 : decode cX7_planets 6 = .ok (.iload_n 2, 1) := by decide +kernel
theorem dX7_planets_7 : decode cX7_planets 7 = .ok (.invokevirtual 84, 3) := by decide +kernel
theorem dX7_planets_10 : decode cX7_planets 10 = .ok (.aload_n 0, 1) := by decide +kernel
theorem dX7_planets_11 : decode cX7_planets 11 = .ok (.iload_n 3, 1) := by decide +kernel
theorem dX7_planets_12 : decode cX7_planets 12 = .ok (.invokevirtual 84, 3) := by decide +kernel
theorem dX7_planets_15 : decode cX7_planets 15 = .ok (.iload 4, 2) := by decide +kernel
theorem dX7_planets_17 : decode cX7_planets 17 = .ok (.bipush 6, 2) := by decide +kernel
theorem dX7_planets_19 : decode cX7_planets 19 = .ok (.bipush 30, 2) := by decide +kernel
theorem dX7_planets_21 : decode cX7_planets 21 = .ok (.invokestatic 114, 3) := by decide +kernel
theorem dX7_planets_24 : decode cX7_planets 24 = .ok (.iload 5, 2) := by decide +kernel
theorem dX7_planets_26 : decode cX7_planets 26 = .ok (.bipush 6, 2) := by decide +kernel
theorem dX7_planets_28 : decode cX7_planets 28 = .ok (.bipush 30, 2) := by decide +kernel
theorem dX7_planets_30 : decode cX7_planets 30 = .ok (.invokestatic 114, 3) := by decide +kernel
theorem dX7_planets_33 : decode cX7_planets 33 = .ok (.iload_n 1, 1) := by decide +kernel
theorem dX7_planets_34 : decode cX7_planets 34 = .ok (.iload_n 2, 1) := by decide +kernel
theorem dX7_planets_35 : decode cX7_planets 35 = .ok (.if_icmp .eq 13, 3) := by decide +kernel
theorem dX7_planets_38 : decode cX7_planets 38 = .ok (.iload_n 1, 1) := by decide +kernel
theorem dX7_planets_39 : decode cX7_planets 39 = .ok (.iload_n 3, 1) := by decide +kernel
theorem dX7_planets_40 : decode cX7_planets 40 = .ok (.if_icmp .eq 8, 3) := by decide +kernel
theorem dX7_planets_43 : decode cX7_planets 43 = .ok (.iload_n 2, 1) := by decide +kernel
theorem dX7_planets_44 : decode cX7_planets 44 = .ok (.iload_n 3, 1) := by decide +kernel
theorem dX7_planets_45 : decode cX7_planets 45 = .ok (.if_icmp .ne 13, 3) := by decide +kernel
theorem dX7_planets_48 : decode cX7_planets 48 = .ok (.new 96, 3) := by decide +kernel
theorem dX7_planets_51 : decode cX7_planets 51 = .ok (.dup, 1) := by decide +kernel
theorem dX7_planets_52 : decode cX7_planets 52 = .ok (.ldc 118, 2) := by decide +kernel
theorem dX7_planets_54 : decode cX7_planets 54 = .ok (.invokespecial 100, 3) := by decide +kernel
theorem dX7_planets_57 : decode cX7_planets 57 = .ok (.athrow, 1) := by decide +kernel
theorem dX7_planets_58 : decode cX7_planets 58 = .ok (.aload_n 0, 1) := by decide +kernel
theorem dX7_planets_59 : decode cX7_planets 59 = .ok (.new 101, 3) := by decide +kernel
theorem dX7_planets_62 : decode cX7_planets 62 = .ok (.dup, 1) := by decide +kernel
theorem dX7_planets_63 : decode cX7_planets 63 = .ok (.aload_n 0, 1) := by decide +kernel
theorem dX7_planets_64 : decode cX7_planets 64 = .ok (.getfield 10, 3) := by decide +kernel
theorem dX7_planets_67 : decode cX7_planets 67 = .ok (.invokevirtual 103, 3) := by decide +kernel
theorem dX7_planets_70 : decode cX7_planets 70 = .ok (.bipush 112, 2) := by decide +kernel
theorem dX7_planets_72 : decode cX7_planets 72 = .ok (.iload_n 1, 1) := by decide +kernel
theorem dX7_planets_73 : decode cX7_planets 73 = .ok (.iload_n 2, 1) := by decide +kernel
theorem dX7_planets_74 : decode cX7_planets 74 = .ok (.iload_n 3, 1) := by decide +kernel
theorem dX7_planets_75 : decode cX7_planets 75 = .ok (.iload 4, 2) := by decide +kernel
theorem dX7_planets_77 : decode cX7_planets 77 = .ok (.iload 5, 2) := by decide +kernel
theorem dX7_planets_79 : decode cX7_planets 79 = .ok (.invokespecial 107, 3) := by decide +kernel
theorem dX7_planets_82 : decode cX7_planets 82 = .ok (.invokevirtual 110, 3) := by decide +kernel
theorem dX7_planets_85 : decode cX7_planets 85 = .ok (.ireturn, 1) := by decide +kernel
theorem dX7_turn_0 : decode cX7_turn 0 = .ok (.aload_n 0, 1) := by decide +kernel
theorem dX7_turn_1 : decode cX7_turn 1 = .ok (.iload_n 1, 1) := by decide +kernel
theorem dX7_turn_2 : decode cX7_turn 2 = .ok (.invokevirtual 84, 3) := by decide +kernel
theorem dX7_turn_5 : decode cX7_turn 5 = .ok (.iload_n 2, 1) := by decide +kernel
theorem dX7_turn_6 : decode cX7_turn 6 = .ok (.bipush (-48), 2) := by decide +kernel
theorem dX7_turn_8 : decode cX7_turn 8 = .ok (.bipush 48, 2) := by decide +kernel
theorem dX7_turn_10 : decode cX7_turn 10 = .ok (.invokestatic 114, 3) := by decide +kernel
theorem dX7_turn_13 : decode cX7_turn 13 = .ok (.aload_n 0, 1) := by decide +kernel
theorem dX7_turn_14 : decode cX7_turn 14 = .ok (.getfield 25, 3) := by decide +kernel
theorem dX7_turn_17 : decode cX7_turn 17 = .ok (.iload_n 1, 1) := by decide +kernel
theorem dX7_turn_18 : decode cX7_turn 18 = .ok (.iaload, 1) := by decide +kernel
theorem dX7_turn_19 : decode cX7_turn 19 = .ok (.iconst (-1), 1) := by decide +kernel
theorem dX7_turn_20 : decode cX7_turn 20 = .ok (.if_icmp .eq 13, 3) := by decide +kernel
theorem dX7_turn_23 : decode cX7_turn 23 = .ok (.new 96, 3) := by decide +kernel
theorem dX7_turn_26 : decode cX7_turn 26 = .ok (.dup, 1) := by decide +kernel
theorem dX7_turn_27 : decode cX7_turn 27 = .ok (.ldc 148, 2) := by decide +kernel
theorem dX7_turn_29 : decode cX7_turn 29 = .ok (.invokespecial 100, 3) := by decide +kernel
theorem dX7_turn_32 : decode cX7_turn 32 = .ok (.athrow, 1) := by decide +kernel
theorem dX7_turn_33 : decode cX7_turn 33 = .ok (.aload_n 0, 1) := by decide +kernel
theorem dX7_turn_34 : decode cX7_turn 34 = .ok (.getfield 58, 3) := by decide +kernel
theorem dX7_turn_37 : decode cX7_turn 37 = .ok (.aload_n 0, 1) := by decide +kernel
theorem dX7_turn_38 : decode cX7_turn 38 = .ok (.getfield 54, 3) := by decide +kernel
theorem dX7_turn_41 : decode cX7_turn 41 = .ok (.invokevirtual 150, 3) := by decide +kernel
theorem dX7_turn_44 : decode cX7_turn 44 = .ok (.aload_n 0, 1) := by decide +kernel
theorem dX7_turn_45 : decode cX7_turn 45 = .ok (.iload_n 1, 1) := by decide +kernel
theorem dX7_turn_46 : decode cX7_turn 46 = .ok (.putfield 64, 3) := by decide +kernel
theorem dX7_turn_49 : decode cX7_turn 49 = .ok (.aload_n 0, 1) := by decide +kernel
theorem dX7_turn_50 : decode cX7_turn 50 = .ok (.iload_n 2, 1) := by decide +kernel
theorem dX7_turn_51 : decode cX7_turn 51 = .ok (.putfield 154, 3) := by decide +kernel
theorem dX7_turn_54 : decode cX7_turn 54 = .ok (.iconst 0, 1) := by decide +kernel
theorem dX7_turn_55 : decode cX7_turn 55 = .ok (.istore_n 3, 1) := by decide +kernel
theorem dX7_turn_56 : decode cX7_turn 56 = .ok (.iload_n 3, 1) := by decide +kernel
theorem dX7_turn_57 : decode cX7_turn 57 = .ok (.iload_n 2, 1) := by decide +kernel
theorem dX7_turn_58 : decode cX7_turn 58 = .ok (.invokestatic 157, 3) := by decide +kernel
theorem dX7_turn_61 : decode cX7_turn 61 = .ok (.if_icmp .ge 35, 3) := by decide +kernel
theorem dX7_turn_64 : decode cX7_turn 64 = .ok (.aload_n 0, 1) := by decide +kernel
theorem dX7_turn_65 : decode cX7_turn 65 = .ok (.aload_n 0, 1) := by decide +kernel
theorem dX7_turn_66 : decode cX7_turn 66 = .ok (.getfield 54, 3) := by decide +kernel
theorem dX7_turn_69 : decode cX7_turn 69 = .ok (.iload_n 1, 1) := by decide +kernel
theorem dX7_turn_70 : decode cX7_turn 70 = .ok (.iload_n 2, 1) := by decide +kernel
theorem dX7_turn_71 : decode cX7_turn 71 = .ok (.ifCond .ge 7, 3) := by decide +kernel
theorem dX7_turn_74 : decode cX7_turn 74 = .ok (.iconst (-1), 1) := by decide +kernel
theorem dX7_turn_75 : decode cX7_turn 75 = .ok (.goto 4, 3) := by decide +kernel
theorem dX7_turn_78 : decode cX7_turn 78 = .ok (.iconst 1, 1) := by decide +kernel
theorem dX7_turn_79 : decode cX7_turn 79 = .ok (.invokevirtual 163, 3) := by decide +kernel
theorem dX7_turn_82 : decode cX7_turn 82 = .ok (.aload_n 0, 1) := by decide +kernel
theorem dX7_turn_83 : decode cX7_turn 83 = .ok (.invokevirtual 167, 3) := by decide +kernel
theorem dX7_turn_86 : decode cX7_turn 86 = .ok (.aload_n 0, 1) := by decide +kernel
theorem dX7_turn_87 : decode cX7_turn 87 = .ok (.invokevirtual 170, 3) := by decide +kernel
theorem dX7_turn_90 : decode cX7_turn 90 = .ok (.iinc 3 1, 3) := by decide +kernel
theorem dX7_turn_93 : decode cX7_turn 93 = .ok (.goto (-37), 3) := by decide +kernel
theorem dX7_turn_96 : decode cX7_turn 96 = .ok (.aload_n 0, 1) := by decide +kernel
theorem dX7_turn_97 : decode cX7_turn 97 = .ok (.invokevirtual 173, 3) := by decide +kernel
theorem dX7_turn_100 : decode cX7_turn 100 = .ok (.aload_n 0, 1) := by decide +kernel
theorem dX7_turn_101 : decode cX7_turn 101 = .ok (.invokevirtual 176, 3) := by decide +kernel
theorem dX7_turn_104 : decode cX7_turn 104 = .ok (.ireturn, 1) := by decide +kernel
theorem dX7_placeOver_0 : decode cX7_placeOver 0 = .ok (.aload_n 0, 1) := by decide +kernel
theorem dX7_placeOver_1 : decode cX7_placeOver 1 = .ok (.iload_n 1, 1) := by decide +kernel
theorem dX7_placeOver_2 : decode cX7_placeOver 2 = .ok (.invokevirtual 84, 3) := by decide +kernel
theorem dX7_placeOver_5 : decode cX7_placeOver 5 = .ok (.aload_n 0, 1) := by decide +kernel
theorem dX7_placeOver_6 : decode cX7_placeOver 6 = .ok (.getfield 54, 3) := by decide +kernel
theorem dX7_placeOver_9 : decode cX7_placeOver 9 = .ok (.getfield 179, 3) := by decide +kernel
theorem dX7_placeOver_12 : decode cX7_placeOver 12 = .ok (.iload_n 1, 1) := by decide +kernel
theorem dX7_placeOver_13 : decode cX7_placeOver 13 = .ok (.invokevirtual 182, 3) := by decide +kernel
theorem dX7_placeOver_16 : decode cX7_placeOver 16 = .ok (.lreturn, 1) := by decide +kernel
theorem dX7_placeUnder_0 : decode cX7_placeUnder 0 = .ok (.aload_n 0, 1) := by decide +kernel
theorem dX7_placeUnder_1 : decode cX7_placeUnder 1 = .ok (.iload_n 1, 1) := by decide +kernel
theorem dX7_placeUnder_2 : decode cX7_placeUnder 2 = .ok (.invokevirtual 84, 3) := by decide +kernel
theorem dX7_placeUnder_5 : decode cX7_placeUnder 5 = .ok (.aload_n 0, 1) := by decide +kernel
theorem dX7_placeUnder_6 : decode cX7_placeUnder 6 = .ok (.getfield 54, 3) := by decide +kernel
theorem dX7_placeUnder_9 : decode cX7_placeUnder 9 = .ok (.getfield 179, 3) := by decide +kernel
theorem dX7_placeUnder_12 : decode cX7_placeUnder 12 = .ok (.iload_n 1, 1) := by decide +kernel
theorem dX7_placeUnder_13 : decode cX7_placeUnder 13 = .ok (.invokevirtual 186, 3) := by decide +kernel
theorem dX7_placeUnder_16 : decode cX7_placeUnder 16 = .ok (.lreturn, 1) := by decide +kernel
theorem dX7_driver_0 : decode cX7_driver 0 = .ok (.aload_n 0, 1) := by decide +kernel
theorem dX7_driver_1 : decode cX7_driver 1 = .ok (.iload_n 1, 1) := by decide +kernel
theorem dX7_driver_2 : decode cX7_driver 2 = .ok (.invokevirtual 84, 3) := by decide +kernel
theorem dX7_driver_5 : decode cX7_driver 5 = .ok (.aload_n 0, 1) := by decide +kernel
theorem dX7_driver_6 : decode cX7_driver 6 = .ok (.getfield 25, 3) := by decide +kernel
theorem dX7_driver_9 : decode cX7_driver 9 = .ok (.iload_n 1, 1) := by decide +kernel
theorem dX7_driver_10 : decode cX7_driver 10 = .ok (.iaload, 1) := by decide +kernel
theorem dX7_driver_11 : decode cX7_driver 11 = .ok (.iconst (-1), 1) := by decide +kernel
theorem dX7_driver_12 : decode cX7_driver 12 = .ok (.if_icmp .ne 13, 3) := by decide +kernel
theorem dX7_driver_15 : decode cX7_driver 15 = .ok (.new 193, 3) := by decide +kernel
theorem dX7_driver_18 : decode cX7_driver 18 = .ok (.dup, 1) := by decide +kernel
theorem dX7_driver_19 : decode cX7_driver 19 = .ok (.ldc 195, 2) := by decide +kernel
theorem dX7_driver_21 : decode cX7_driver 21 = .ok (.invokespecial 197, 3) := by decide +kernel
theorem dX7_driver_24 : decode cX7_driver 24 = .ok (.athrow, 1) := by decide +kernel
theorem dX7_driver_25 : decode cX7_driver 25 = .ok (.aload_n 0, 1) := by decide +kernel
theorem dX7_driver_26 : decode cX7_driver 26 = .ok (.getfield 25, 3) := by decide +kernel
theorem dX7_driver_29 : decode cX7_driver 29 = .ok (.iload_n 1, 1) := by decide +kernel
theorem dX7_driver_30 : decode cX7_driver 30 = .ok (.iaload, 1) := by decide +kernel
theorem dX7_driver_31 : decode cX7_driver 31 = .ok (.ireturn, 1) := by decide +kernel
theorem dX7_freedom_0 : decode cX7_freedom 0 = .ok (.aload_n 0, 1) := by decide +kernel
theorem dX7_freedom_1 : decode cX7_freedom 1 = .ok (.getfield 74, 3) := by decide +kernel
theorem dX7_freedom_4 : decode cX7_freedom 4 = .ok (.aload_n 0, 1) := by decide +kernel
theorem dX7_freedom_5 : decode cX7_freedom 5 = .ok (.invokevirtual 198, 3) := by decide +kernel
theorem dX7_freedom_8 : decode cX7_freedom 8 = .ok (.isub, 1) := by decide +kernel
theorem dX7_freedom_9 : decode cX7_freedom 9 = .ok (.ireturn, 1) := by decide +kernel
theorem dX7_wornOver_0 : decode cX7_wornOver 0 = .ok (.aload_n 0, 1) := by decide +kernel
theorem dX7_wornOver_1 : decode cX7_wornOver 1 = .ok (.iload_n 1, 1) := by decide +kernel
theorem dX7_wornOver_2 : decode cX7_wornOver 2 = .ok (.invokevirtual 201, 3) := by decide +kernel
theorem dX7_wornOver_5 : decode cX7_wornOver 5 = .ok (.aload_n 0, 1) := by decide +kernel
theorem dX7_wornOver_6 : decode cX7_wornOver 6 = .ok (.getfield 48, 3) := by decide +kernel
theorem dX7_wornOver_9 : decode cX7_wornOver 9 = .ok (.iload_n 1, 1) := by decide +kernel
theorem dX7_wornOver_10 : decode cX7_wornOver 10 = .ok (.invokevirtual 182, 3) := by decide +kernel
theorem dX7_wornOver_13 : decode cX7_wornOver 13 = .ok (.lreturn, 1) := by decide +kernel
theorem dX7_wornUnder_0 : decode cX7_wornUnder 0 = .ok (.aload_n 0, 1) := by decide +kernel
theorem dX7_wornUnder_1 : decode cX7_wornUnder 1 = .ok (.iload_n 1, 1) := by decide +kernel
theorem dX7_wornUnder_2 : decode cX7_wornUnder 2 = .ok (.invokevirtual 201, 3) := by decide +kernel
theorem dX7_wornUnder_5 : decode cX7_wornUnder 5 = .ok (.aload_n 0, 1) := by decide +kernel
theorem dX7_wornUnder_6 : decode cX7_wornUnder 6 = .ok (.getfield 48, 3) := by decide +kernel
theorem dX7_wornUnder_9 : decode cX7_wornUnder 9 = .ok (.iload_n 1, 1) := by decide +kernel
theorem dX7_wornUnder_10 : decode cX7_wornUnder 10 = .ok (.invokevirtual 186, 3) := by decide +kernel
theorem dX7_wornUnder_13 : decode cX7_wornUnder 13 = .ok (.lreturn, 1) := by decide +kernel
theorem dX7_isBroken_0 : decode cX7_isBroken 0 = .ok (.aload_n 0, 1) := by decide +kernel
theorem dX7_isBroken_1 : decode cX7_isBroken 1 = .ok (.iload_n 1, 1) := by decide +kernel
theorem dX7_isBroken_2 : decode cX7_isBroken 2 = .ok (.invokevirtual 120, 3) := by decide +kernel
theorem dX7_isBroken_5 : decode cX7_isBroken 5 = .ok (.getfield 204, 3) := by decide +kernel
theorem dX7_isBroken_8 : decode cX7_isBroken 8 = .ok (.ireturn, 1) := by decide +kernel
theorem dX7_drivenShare_0 : decode cX7_drivenShare 0 = .ok (.aload_n 0, 1) := by decide +kernel
theorem dX7_drivenShare_1 : decode cX7_drivenShare 1 = .ok (.getfield 74, 3) := by decide +kernel
theorem dX7_drivenShare_4 : decode cX7_drivenShare 4 = .ok (.ifCond .ne 14, 3) := by decide +kernel
theorem dX7_drivenShare_7 : decode cX7_drivenShare 7 = .ok (.new 341, 3) := by decide +kernel
theorem dX7_drivenShare_10 : decode cX7_drivenShare 10 = .ok (.dup, 1) := by decide +kernel
theorem dX7_drivenShare_11 : decode cX7_drivenShare 11 = .ok (.ldc_w 343, 3) := by decide +kernel
theorem dX7_drivenShare_14 : decode cX7_drivenShare 14 = .ok (.invokespecial 345, 3) := by decide +kernel
theorem dX7_drivenShare_17 : decode cX7_drivenShare 17 = .ok (.athrow, 1) := by decide +kernel
theorem dX7_drivenShare_18 : decode cX7_drivenShare 18 = .ok (.aload_n 0, 1) := by decide +kernel
theorem dX7_drivenShare_19 : decode cX7_drivenShare 19 = .ok (.invokevirtual 198, 3) := by decide +kernel
theorem dX7_drivenShare_22 : decode cX7_drivenShare 22 = .ok (.i2f, 1) := by decide +kernel
theorem dX7_drivenShare_23 : decode cX7_drivenShare 23 = .ok (.aload_n 0, 1) := by decide +kernel
theorem dX7_drivenShare_24 : decode cX7_drivenShare 24 = .ok (.getfield 74, 3) := by decide +kernel
theorem dX7_drivenShare_27 : decode cX7_drivenShare 27 = .ok (.i2f, 1) := by decide +kernel
theorem dX7_drivenShare_28 : decode cX7_drivenShare 28 = .ok (.fdiv, 1) := by decide +kernel
theorem dX7_drivenShare_29 : decode cX7_drivenShare 29 = .ok (.freturn, 1) := by decide +kernel
theorem dX7_isSound_0 : decode cX7_isSound 0 = .ok (.aload_n 0, 1) := by decide +kernel
theorem dX7_isSound_1 : decode cX7_isSound 1 = .ok (.invokevirtual 351, 3) := by decide +kernel
theorem dX7_isSound_4 : decode cX7_isSound 4 = .ok (.ifCond .eq 29, 3) := by decide +kernel
theorem dX7_isSound_7 : decode cX7_isSound 7 = .ok (.aload_n 0, 1) := by decide +kernel
theorem dX7_isSound_8 : decode cX7_isSound 8 = .ok (.invokevirtual 354, 3) := by decide +kernel
theorem dX7_isSound_11 : decode cX7_isSound 11 = .ok (.ifCond .eq 22, 3) := by decide +kernel
theorem dX7_isSound_14 : decode cX7_isSound 14 = .ok (.aload_n 0, 1) := by decide +kernel
theorem dX7_isSound_15 : decode cX7_isSound 15 = .ok (.aconst_null, 1) := by decide +kernel
theorem dX7_isSound_16 : decode cX7_isSound 16 = .ok (.invokevirtual 357, 3) := by decide +kernel
theorem dX7_isSound_19 : decode cX7_isSound 19 = .ok (.ifCond .eq 14, 3) := by decide +kernel
theorem dX7_isSound_22 : decode cX7_isSound 22 = .ok (.aload_n 0, 1) := by decide +kernel
theorem dX7_isSound_23 : decode cX7_isSound 23 = .ok (.invokevirtual 361, 3) := by decide +kernel
theorem dX7_isSound_26 : decode cX7_isSound 26 = .ok (.ifCond .eq 7, 3) := by decide +kernel
theorem dX7_isSound_29 : decode cX7_isSound 29 = .ok (.iconst 1, 1) := by decide +kernel
theorem dX7_isSound_30 : decode cX7_isSound 30 = .ok (.goto 4, 3) := by decide +kernel
theorem dX7_isSound_33 : decode cX7_isSound 33 = .ok (.iconst 0, 1) := by decide +kernel
theorem dX7_isSound_34 : decode cX7_isSound 34 = .ok (.ireturn, 1) := by decide +kernel
theorem dX7_checkShaft_0 : decode cX7_checkShaft 0 = .ok (.iload_n 1, 1) := by decide +kernel
theorem dX7_checkShaft_1 : decode cX7_checkShaft 1 = .ok (.ifCond .lt 11, 3) := by decide +kernel
theorem dX7_checkShaft_4 : decode cX7_checkShaft 4 = .ok (.iload_n 1, 1) := by decide +kernel
theorem dX7_checkShaft_5 : decode cX7_checkShaft 5 = .ok (.aload_n 0, 1) := by decide +kernel
theorem dX7_checkShaft_6 : decode cX7_checkShaft 6 = .ok (.getfield 74, 3) := by decide +kernel
theorem dX7_checkShaft_9 : decode cX7_checkShaft 9 = .ok (.if_icmp .lt 14, 3) := by decide +kernel
