theorem dX8_height_96 : decode cX8_height 96 = .ok (.iload_n 1, 1) := by decide +kernel
theorem dX8_height_97 : decode cX8_height 97 = .ok (.iload 6, 2) := by decide +kernel
theorem dX8_height_99 : decode cX8_height 99 = .ok (.invokevirtual 271, 3) := by decide +kernel
theorem dX8_height_102 : decode cX8_height 102 = .ok (.i2l, 1) := by decide +kernel
theorem dX8_height_103 : decode cX8_height 103 = .ok (.lstore 9, 2) := by decide +kernel
theorem dX8_height_105 : decode cX8_height 105 = .ok (.aload_n 0, 1) := by decide +kernel
theorem dX8_height_106 : decode cX8_height 106 = .ok (.getfield 90, 3) := by decide +kernel
theorem dX8_height_109 : decode cX8_height 109 = .ok (.iload_n 1, 1) := by decide +kernel
theorem dX8_height_110 : decode cX8_height 110 = .ok (.aaload, 1) := by decide +kernel
theorem dX8_height_111 : decode cX8_height 111 = .ok (.iload 6, 2) := by decide +kernel
theorem dX8_height_113 : decode cX8_height 113 = .ok (.iaload, 1) := by decide +kernel
theorem dX8_height_114 : decode cX8_height 114 = .ok (.i2l, 1) := by decide +kernel
theorem dX8_height_115 : decode cX8_height 115 = .ok (.lload 9, 2) := by decide +kernel
theorem dX8_height_117 : decode cX8_height 117 = .ok (.lsub, 1) := by decide +kernel
theorem dX8_height_118 : decode cX8_height 118 = .ok (.lstore 11, 2) := by decide +kernel
theorem dX8_height_120 : decode cX8_height 120 = .ok (.aload_n 0, 1) := by decide +kernel
theorem dX8_height_121 : decode cX8_height 121 = .ok (.getfield 95, 3) := by decide +kernel
theorem dX8_height_124 : decode cX8_height 124 = .ok (.iload_n 1, 1) := by decide +kernel
theorem dX8_height_125 : decode cX8_height 125 = .ok (.aaload, 1) := by decide +kernel
theorem dX8_height_126 : decode cX8_height 126 = .ok (.iload 6, 2) := by decide +kernel
theorem dX8_height_128 : decode cX8_height 128 = .ok (.caload, 1) := by decide +kernel
theorem dX8_height_129 : decode cX8_height 129 = .ok (.bipush 117, 2) := by decide +kernel
theorem dX8_height_131 : decode cX8_height 131 = .ok (.if_icmp .ne 20, 3) := by decide +kernel
theorem dX8_height_134 : decode cX8_height 134 = .ok (.aload_n 0, 1) := by decide +kernel
theorem dX8_height_135 : decode cX8_height 135 = .ok (.lload 9, 2) := by decide +kernel
theorem dX8_height_137 : decode cX8_height 137 = .ok (.lconst 1, 1) := by decide +kernel
theorem dX8_height_138 : decode cX8_height 138 = .ok (.lload 11, 2) := by decide +kernel
theorem dX8_height_140 : decode cX8_height 140 = .ok (.lload 4, 2) := by decide +kernel
theorem dX8_height_142 : decode cX8_height 142 = .ok (.lmul, 1) := by decide +kernel
theorem dX8_height_143 : decode cX8_height 143 = .ok (.lload 7, 2) := by decide +kernel
theorem dX8_height_145 : decode cX8_height 145 = .ok (.invokevirtual 202, 3) := by decide +kernel
theorem dX8_height_148 : decode cX8_height 148 = .ok (.goto 77, 3) := by decide +kernel
theorem dX8_height_151 : decode cX8_height 151 = .ok (.ldc2_w 274, 3) := by decide +kernel
theorem dX8_height_154 : decode cX8_height 154 = .ok (.lload 4, 2) := by decide +kernel
theorem dX8_height_156 : decode cX8_height 156 = .ok (.lmul, 1) := by decide +kernel
theorem dX8_height_157 : decode cX8_height 157 = .ok (.lload 7, 2) := by decide +kernel
theorem dX8_height_159 : decode cX8_height 159 = .ok (.lcmp, 1) := by decide +kernel
theorem dX8_height_160 : decode cX8_height 160 = .ok (.ifCond .gt 30, 3) := by decide +kernel
theorem dX8_height_163 : decode cX8_height 163 = .ok (.aload_n 0, 1) := by decide +kernel
theorem dX8_height_164 : decode cX8_height 164 = .ok (.lload 9, 2) := by decide +kernel
theorem dX8_height_166 : decode cX8_height 166 = .ok (.lconst 1, 1) := by decide +kernel
theorem dX8_height_167 : decode cX8_height 167 = .ok (.lload 11, 2) := by decide +kernel
theorem dX8_height_169 : decode cX8_height 169 = .ok (.ldc2_w 274, 3) := by decide +kernel
theorem dX8_height_172 : decode cX8_height 172 = .ok (.lmul, 1) := by decide +kernel
theorem dX8_height_173 : decode cX8_height 173 = .ok (.lload 4, 2) := by decide +kernel
theorem dX8_height_175 : decode cX8_height 175 = .ok (.lmul, 1) := by decide +kernel
theorem dX8_height_176 : decode cX8_height 176 = .ok (.lload 4, 2) := by decide +kernel
theorem dX8_height_178 : decode cX8_height 178 = .ok (.lmul, 1) := by decide +kernel
theorem dX8_height_179 : decode cX8_height 179 = .ok (.lload 7, 2) := by decide +kernel
theorem dX8_height_181 : decode cX8_height 181 = .ok (.lload 7, 2) := by decide +kernel
theorem dX8_height_183 : decode cX8_height 183 = .ok (.lmul, 1) := by decide +kernel
theorem dX8_height_184 : decode cX8_height 184 = .ok (.invokevirtual 202, 3) := by decide +kernel
theorem dX8_height_187 : decode cX8_height 187 = .ok (.goto 38, 3) := by decide +kernel
theorem dX8_height_190 : decode cX8_height 190 = .ok (.lload 7, 2) := by decide +kernel
theorem dX8_height_192 : decode cX8_height 192 = .ok (.lload 4, 2) := by decide +kernel
theorem dX8_height_194 : decode cX8_height 194 = .ok (.lsub, 1) := by decide +kernel
theorem dX8_height_195 : decode cX8_height 195 = .ok (.lstore 13, 2) := by decide +kernel
theorem dX8_height_197 : decode cX8_height 197 = .ok (.aload_n 0, 1) := by decide +kernel
theorem dX8_height_198 : decode cX8_height 198 = .ok (.lload 9, 2) := by decide +kernel
theorem dX8_height_200 : decode cX8_height 200 = .ok (.lload 11, 2) := by decide +kernel
theorem dX8_height_202 : decode cX8_height 202 = .ok (.ladd, 1) := by decide +kernel
theorem dX8_height_203 : decode cX8_height 203 = .ok (.lconst 1, 1) := by decide +kernel
theorem dX8_height_204 : decode cX8_height 204 = .ok (.lload 11, 2) := by decide +kernel
theorem dX8_height_206 : decode cX8_height 206 = .ok (.lneg, 1) := by decide +kernel
theorem dX8_height_207 : decode cX8_height 207 = .ok (.ldc2_w 274, 3) := by decide +kernel
theorem dX8_height_210 : decode cX8_height 210 = .ok (.lmul, 1) := by decide +kernel
theorem dX8_height_211 : decode cX8_height 211 = .ok (.lload 13, 2) := by decide +kernel
theorem dX8_height_213 : decode cX8_height 213 = .ok (.lmul, 1) := by decide +kernel
theorem dX8_height_214 : decode cX8_height 214 = .ok (.lload 13, 2) := by decide +kernel
theorem dX8_height_216 : decode cX8_height 216 = .ok (.lmul, 1) := by decide +kernel
theorem dX8_height_217 : decode cX8_height 217 = .ok (.lload 7, 2) := by decide +kernel
theorem dX8_height_219 : decode cX8_height 219 = .ok (.lload 7, 2) := by decide +kernel
theorem dX8_height_221 : decode cX8_height 221 = .ok (.lmul, 1) := by decide +kernel
theorem dX8_height_222 : decode cX8_height 222 = .ok (.invokevirtual 202, 3) := by decide +kernel
theorem dX8_height_225 : decode cX8_height 225 = .ok (.iload_n 2, 1) := by decide +kernel
theorem dX8_height_226 : decode cX8_height 226 = .ok (.ifCond .eq 10, 3) := by decide +kernel
theorem dX8_height_229 : decode cX8_height 229 = .ok (.aload_n 0, 1) := by decide +kernel
theorem dX8_height_230 : decode cX8_height 230 = .ok (.getfield 140, 3) := by decide +kernel
theorem dX8_height_233 : decode cX8_height 233 = .ok (.goto 7, 3) := by decide +kernel
theorem dX8_height_236 : decode cX8_height 236 = .ok (.aload_n 0, 1) := by decide +kernel
theorem dX8_height_237 : decode cX8_height 237 = .ok (.getfield 112, 3) := by decide +kernel
theorem dX8_height_240 : decode cX8_height 240 = .ok (.lreturn, 1) := by decide +kernel
theorem dX8_heightOver_0 : decode cX8_heightOver 0 = .ok (.aload_n 0, 1) := by decide +kernel
theorem dX8_heightOver_1 : decode cX8_heightOver 1 = .ok (.iload_n 1, 1) := by decide +kernel
theorem dX8_heightOver_2 : decode cX8_heightOver 2 = .ok (.iconst 1, 1) := by decide +kernel
theorem dX8_heightOver_3 : decode cX8_heightOver 3 = .ok (.invokevirtual 276, 3) := by decide +kernel
theorem dX8_heightOver_6 : decode cX8_heightOver 6 = .ok (.lreturn, 1) := by decide +kernel
theorem dX8_heightUnder_0 : decode cX8_heightUnder 0 = .ok (.aload_n 0, 1) := by decide +kernel
theorem dX8_heightUnder_1 : decode cX8_heightUnder 1 = .ok (.iload_n 1, 1) := by decide +kernel
theorem dX8_heightUnder_2 : decode cX8_heightUnder 2 = .ok (.iconst 0, 1) := by decide +kernel
theorem dX8_heightUnder_3 : decode cX8_heightUnder 3 = .ok (.invokevirtual 276, 3) := by decide +kernel
theorem dX8_heightUnder_6 : decode cX8_heightUnder 6 = .ok (.lreturn, 1) := by decide +kernel
theorem dX8_steep_0 : decode cX8_steep 0 = .ok (.aload_n 0, 1) := by decide +kernel
theorem dX8_steep_1 : decode cX8_steep 1 = .ok (.iload_n 1, 1) := by decide +kernel
theorem dX8_steep_2 : decode cX8_steep 2 = .ok (.invokevirtual 268, 3) := by decide +kernel
theorem dX8_steep_5 : decode cX8_steep 5 = .ok (.ifCond .eq 5, 3) := by decide +kernel
theorem dX8_steep_8 : decode cX8_steep 8 = .ok (.lconst 0, 1) := by decide +kernel
theorem dX8_steep_9 : decode cX8_steep 9 = .ok (.lreturn, 1) := by decide +kernel
theorem dX8_steep_10 : decode cX8_steep 10 = .ok (.lconst 0, 1) := by decide +kernel
theorem dX8_steep_11 : decode cX8_steep 11 = .ok (.lstore_n 3, 1) := by decide +kernel
theorem dX8_steep_12 : decode cX8_steep 12 = .ok (.lconst 1, 1) := by decide +kernel
theorem dX8_steep_13 : decode cX8_steep 13 = .ok (.lstore 5, 2) := by decide +kernel
theorem dX8_steep_15 : decode cX8_steep 15 = .ok (.iconst 0, 1) := by decide +kernel
theorem dX8_steep_16 : decode cX8_steep 16 = .ok (.istore 7, 2) := by decide +kernel
theorem dX8_steep_18 : decode cX8_steep 18 = .ok (.iload 7, 2) := by decide +kernel
theorem dX8_steep_20 : decode cX8_steep 20 = .ok (.aload_n 0, 1) := by decide +kernel
theorem dX8_steep_21 : decode cX8_steep 21 = .ok (.getfield 82, 3) := by decide +kernel
theorem dX8_steep_24 : decode cX8_steep 24 = .ok (.iload_n 1, 1) := by decide +kernel
theorem dX8_steep_25 : decode cX8_steep 25 = .ok (.iaload, 1) := by decide +kernel
theorem dX8_steep_26 : decode cX8_steep 26 = .ok (.if_icmp .ge 112, 3) := by decide +kernel
theorem dX8_steep_29 : decode cX8_steep 29 = .ok (.aload_n 0, 1) := by decide +kernel
theorem dX8_steep_30 : decode cX8_steep 30 = .ok (.getfield 90, 3) := by decide +kernel
theorem dX8_steep_33 : decode cX8_steep 33 = .ok (.iload_n 1, 1) := by decide +kernel
theorem dX8_steep_34 : decode cX8_steep 34 = .ok (.aaload, 1) := by decide +kernel
theorem dX8_steep_35 : decode cX8_steep 35 = .ok (.iload 7, 2) := by decide +kernel
theorem dX8_steep_37 : decode cX8_steep 37 = .ok (.iaload, 1) := by decide +kernel
theorem dX8_steep_38 : decode cX8_steep 38 = .ok (.aload_n 0, 1) := by decide +kernel
theorem dX8_steep_39 : decode cX8_steep 39 = .ok (.iload_n 1, 1) := by decide +kernel
theorem dX8_steep_40 : decode cX8_steep 40 = .ok (.iload 7, 2) := by decide +kernel
theorem dX8_steep_42 : decode cX8_steep 42 = .ok (.invokevirtual 271, 3) := by decide +kernel
theorem dX8_steep_45 : decode cX8_steep 45 = .ok (.isub, 1) := by decide +kernel
theorem dX8_steep_46 : decode cX8_steep 46 = .ok (.invokestatic 229, 3) := by decide +kernel
theorem dX8_steep_49 : decode cX8_steep 49 = .ok (.i2l, 1) := by decide +kernel
theorem dX8_steep_50 : decode cX8_steep 50 = .ok (.aload_n 0, 1) := by decide +kernel
theorem dX8_steep_51 : decode cX8_steep 51 = .ok (.getfield 95, 3) := by decide +kernel
theorem dX8_steep_54 : decode cX8_steep 54 = .ok (.iload_n 1, 1) := by decide +kernel
theorem dX8_steep_55 : decode cX8_steep 55 = .ok (.aaload, 1) := by decide +kernel
theorem dX8_steep_56 : decode cX8_steep 56 = .ok (.iload 7, 2) := by decide +kernel
theorem dX8_steep_58 : decode cX8_steep 58 = .ok (.caload, 1) := by decide +kernel
theorem dX8_steep_59 : decode cX8_steep 59 = .ok (.bipush 112, 2) := by decide +kernel
theorem dX8_steep_61 : decode cX8_steep 61 = .ok (.if_icmp .ne 9, 3) := by decide +kernel
theorem dX8_steep_64 : decode cX8_steep 64 = .ok (.ldc2_w 274, 3) := by decide +kernel
theorem dX8_steep_67 : decode cX8_steep 67 = .ok (.goto 4, 3) := by decide +kernel
theorem dX8_steep_70 : decode cX8_steep 70 = .ok (.lconst 1, 1) := by decide +kernel
theorem dX8_steep_71 : decode cX8_steep 71 = .ok (.lmul, 1) := by decide +kernel
theorem dX8_steep_72 : decode cX8_steep 72 = .ok (.lstore 8, 2) := by decide +kernel
theorem dX8_steep_74 : decode cX8_steep 74 = .ok (.aload_n 0, 1) := by decide +kernel
theorem dX8_steep_75 : decode cX8_steep 75 = .ok (.getfield 87, 3) := by decide +kernel
theorem dX8_steep_78 : decode cX8_steep 78 = .ok (.iload_n 1, 1) := by decide +kernel
theorem dX8_steep_79 : decode cX8_steep 79 = .ok (.aaload, 1) := by decide +kernel
theorem dX8_steep_80 : decode cX8_steep 80 = .ok (.iload 7, 2) := by decide +kernel
theorem dX8_steep_82 : decode cX8_steep 82 = .ok (.iaload, 1) := by decide +kernel
theorem dX8_steep_83 : decode cX8_steep 83 = .ok (.i2l, 1) := by decide +kernel
theorem dX8_steep_84 : decode cX8_steep 84 = .ok (.lstore 10, 2) := by decide +kernel
theorem dX8_steep_86 : decode cX8_steep 86 = .ok (.lload 8, 2) := by decide +kernel
theorem dX8_steep_88 : decode cX8_steep 88 = .ok (.lload 5, 2) := by decide +kernel
theorem dX8_steep_90 : decode cX8_steep 90 = .ok (.lmul, 1) := by decide +kernel
theorem dX8_steep_91 : decode cX8_steep 91 = .ok (.lload_n 3, 1) := by decide +kernel
theorem dX8_steep_92 : decode cX8_steep 92 = .ok (.lload 10, 2) := by decide +kernel
theorem dX8_steep_94 : decode cX8_steep 94 = .ok (.lmul, 1) := by decide +kernel
theorem dX8_steep_95 : decode cX8_steep 95 = .ok (.lcmp, 1) := by decide +kernel
theorem dX8_steep_96 : decode cX8_steep 96 = .ok (.ifCond .le 7, 3) := by decide +kernel
theorem dX8_steep_99 : decode cX8_steep 99 = .ok (.iconst 1, 1) := by decide +kernel
theorem dX8_steep_100 : decode cX8_steep 100 = .ok (.goto 4, 3) := by decide +kernel
theorem dX8_steep_103 : decode cX8_steep 103 = .ok (.iconst 0, 1) := by decide +kernel
theorem dX8_steep_104 : decode cX8_steep 104 = .ok (.istore 12, 2) := by decide +kernel
theorem dX8_steep_106 : decode cX8_steep 106 = .ok (.iload 12, 2) := by decide +kernel
theorem dX8_steep_108 : decode cX8_steep 108 = .ok (.ifCond .eq 8, 3) := by decide +kernel
theorem dX8_steep_111 : decode cX8_steep 111 = .ok (.lload 8, 2) := by decide +kernel
theorem dX8_steep_113 : decode cX8_steep 113 = .ok (.goto 4, 3) := by decide +kernel
theorem dX8_steep_116 : decode cX8_steep 116 = .ok (.lload_n 3, 1) := by decide +kernel
theorem dX8_steep_117 : decode cX8_steep 117 = .ok (.lstore_n 3, 1) := by decide +kernel
theorem dX8_steep_118 : decode cX8_steep 118 = .ok (.iload 12, 2) := by decide +kernel
theorem dX8_steep_120 : decode cX8_steep 120 = .ok (.ifCond .eq 8, 3) := by decide +kernel
theorem dX8_steep_123 : decode cX8_steep 123 = .ok (.lload 10, 2) := by decide +kernel
theorem dX8_steep_125 : decode cX8_steep 125 = .ok (.goto 5, 3) := by decide +kernel
theorem dX8_steep_128 : decode cX8_steep 128 = .ok (.lload 5, 2) := by decide +kernel
theorem dX8_steep_130 : decode cX8_steep 130 = .ok (.lstore 5, 2) := by decide +kernel
theorem dX8_steep_132 : decode cX8_steep 132 = .ok (.iinc 7 1, 3) := by decide +kernel
theorem dX8_steep_135 : decode cX8_steep 135 = .ok (.goto (-117), 3) := by decide +kernel
theorem dX8_steep_138 : decode cX8_steep 138 = .ok (.aload_n 0, 1) := by decide +kernel
theorem dX8_steep_139 : decode cX8_steep 139 = .ok (.lload_n 3, 1) := by decide +kernel
theorem dX8_steep_140 : decode cX8_steep 140 = .ok (.lload 5, 2) := by decide +kernel
theorem dX8_steep_142 : decode cX8_steep 142 = .ok (.invokevirtual 143, 3) := by decide +kernel
theorem dX8_steep_145 : decode cX8_steep 145 = .ok (.iload_n 2, 1) := by decide +kernel
theorem dX8_steep_146 : decode cX8_steep 146 = .ok (.ifCond .eq 10, 3) := by decide +kernel
theorem dX8_steep_149 : decode cX8_steep 149 = .ok (.aload_n 0, 1) := by decide +kernel
theorem dX8_steep_150 : decode cX8_steep 150 = .ok (.getfield 140, 3) := by decide +kernel
theorem dX8_steep_153 : decode cX8_steep 153 = .ok (.goto 7, 3) := by decide +kernel
theorem dX8_steep_156 : decode cX8_steep 156 = .ok (.aload_n 0, 1) := by decide +kernel
theorem dX8_steep_157 : decode cX8_steep 157 = .ok (.getfield 112, 3) := by decide +kernel
theorem dX8_steep_160 : decode cX8_steep 160 = .ok (.lreturn, 1) := by decide +kernel
theorem dX8_steepOver_0 : decode cX8_steepOver 0 = .ok (.aload_n 0, 1) := by decide +kernel
theorem dX8_steepOver_1 : decode cX8_steepOver 1 = .ok (.iload_n 1, 1) := by decide +kernel
theorem dX8_steepOver_2 : decode cX8_steepOver 2 = .ok (.iconst 1, 1) := by decide +kernel
theorem dX8_steepOver_3 : decode cX8_steepOver 3 = .ok (.invokevirtual 279, 3) := by decide +kernel
theorem dX8_steepOver_6 : decode cX8_steepOver 6 = .ok (.lreturn, 1) := by decide +kernel
theorem dX8_steepUnder_0 : decode cX8_steepUnder 0 = .ok (.aload_n 0, 1) := by decide +kernel
theorem dX8_steepUnder_1 : decode cX8_steepUnder 1 = .ok (.iload_n 1, 1) := by decide +kernel
theorem dX8_steepUnder_2 : decode cX8_steepUnder 2 = .ok (.iconst 0, 1) := by decide +kernel
theorem dX8_steepUnder_3 : decode cX8_steepUnder 3 = .ok (.invokevirtual 279, 3) := by decide +kernel
theorem dX8_steepUnder_6 : decode cX8_steepUnder 6 = .ok (.lreturn, 1) := by decide +kernel
theorem dX8_wish_0 : decode cX8_wish 0 = .ok (.aload_n 0, 1) := by decide +kernel
theorem dX8_wish_1 : decode cX8_wish 1 = .ok (.aload_n 0, 1) := by decide +kernel
theorem dX8_wish_2 : decode cX8_wish 2 = .ok (.iload_n 1, 1) := by decide +kernel
theorem dX8_wish_3 : decode cX8_wish 3 = .ok (.invokevirtual 258, 3) := by decide +kernel
theorem dX8_wish_6 : decode cX8_wish 6 = .ok (.iconst 1, 1) := by decide +kernel
theorem dX8_wish_7 : decode cX8_wish 7 = .ok (.invokevirtual 150, 3) := by decide +kernel
theorem dX8_wish_10 : decode cX8_wish 10 = .ok (.ifCond .ne 36, 3) := by decide +kernel
theorem dX8_wish_13 : decode cX8_wish 13 = .ok (.aload_n 0, 1) := by decide +kernel
theorem dX8_wish_14 : decode cX8_wish 14 = .ok (.iload_n 2, 1) := by decide +kernel
theorem dX8_wish_15 : decode cX8_wish 15 = .ok (.iconst 0, 1) := by decide +kernel
theorem dX8_wish_16 : decode cX8_wish 16 = .ok (.bipush 23, 2) := by decide +kernel
theorem dX8_wish_18 : decode cX8_wish 18 = .ok (.invokestatic 123, 3) := by decide +kernel
theorem dX8_wish_21 : decode cX8_wish 21 = .ok (.ifCond .eq 13, 3) := by decide +kernel
theorem dX8_wish_24 : decode cX8_wish 24 = .ok (.iload_n 3, 1) := by decide +kernel
theorem dX8_wish_25 : decode cX8_wish 25 = .ok (.iconst (-1), 1) := by decide +kernel
theorem dX8_wish_26 : decode cX8_wish 26 = .ok (.bipush 99, 2) := by decide +kernel
theorem dX8_wish_28 : decode cX8_wish 28 = .ok (.invokestatic 123, 3) := by decide +kernel
theorem dX8_wish_31 : decode cX8_wish 31 = .ok (.ifCond .ne 7, 3) := by decide +kernel
theorem dX8_wish_34 : decode cX8_wish 34 = .ok (.iconst 1, 1) := by decide +kernel
theorem dX8_wish_35 : decode cX8_wish 35 = .ok (.goto 4, 3) := by decide +kernel
theorem dX8_wish_38 : decode cX8_wish 38 = .ok (.iconst 0, 1) := by decide +kernel
theorem dX8_wish_39 : decode cX8_wish 39 = .ok (.iconst 2, 1) := by decide +kernel
theorem dX8_wish_40 : decode cX8_wish 40 = .ok (.invokevirtual 150, 3) := by decide +kernel
theorem dX8_wish_43 : decode cX8_wish 43 = .ok (.ifCond .eq 5, 3) := by decide +kernel
theorem dX8_wish_46 : decode cX8_wish 46 = .ok (.iconst 0, 1) := by decide +kernel
theorem dX8_wish_47 : decode cX8_wish 47 = .ok (.ireturn, 1) := by decide +kernel
theorem dX8_wish_48 : decode cX8_wish 48 = .ok (.aload_n 0, 1) := by decide +kernel
theorem dX8_wish_49 : decode cX8_wish 49 = .ok (.getfield 98, 3) := by decide +kernel
theorem dX8_wish_52 : decode cX8_wish 52 = .ok (.iload_n 1, 1) := by decide +kernel
theorem dX8_wish_53 : decode cX8_wish 53 = .ok (.aaload, 1) := by decide +kernel
theorem dX8_wish_54 : decode cX8_wish 54 = .ok (.iload_n 2, 1) := by decide +kernel
theorem dX8_wish_55 : decode cX8_wish 55 = .ok (.iload_n 3, 1) := by decide +kernel
theorem dX8_wish_56 : decode cX8_wish 56 = .ok (.iastore, 1) := by decide +kernel
theorem dX8_wish_57 : decode cX8_wish 57 = .ok (.iconst 0, 1) := by decide +kernel
theorem dX8_wish_58 : decode cX8_wish 58 = .ok (.istore 4, 2) := by decide +kernel
theorem dX8_wish_60 : decode cX8_wish 60 = .ok (.aload_n 0, 1) := by decide +kernel
theorem dX8_wish_61 : decode cX8_wish 61 = .ok (.getfield 98, 3) := by decide +kernel
theorem dX8_wish_64 : decode cX8_wish 64 = .ok (.iload_n 1, 1) := by decide +kernel
theorem dX8_wish_65 : decode cX8_wish 65 = .ok (.aaload, 1) := by decide +kernel
theorem dX8_wish_66 : decode cX8_wish 66 = .ok (.astore 5, 2) := by decide +kernel
theorem dX8_wish_68 : decode cX8_wish 68 = .ok (.aload 5, 2) := by decide +kernel
theorem dX8_wish_70 : decode cX8_wish 70 = .ok (.arraylength, 1) := by decide +kernel
theorem dX8_wish_71 : decode cX8_wish 71 = .ok (.istore 6, 2) := by decide +kernel
theorem dX8_wish_73 : decode cX8_wish 73 = .ok (.iconst 0, 1) := by decide +kernel
theorem dX8_wish_74 : decode cX8_wish 74 = .ok (.istore 7, 2) := by decide +kernel
theorem dX8_wish_76 : decode cX8_wish 76 = .ok (.iload 7, 2) := by decide +kernel
theorem dX8_wish_78 : decode cX8_wish 78 = .ok (.iload 6, 2) := by decide +kernel
theorem dX8_wish_80 : decode cX8_wish 80 = .ok (.if_icmp .ge 32, 3) := by decide +kernel
theorem dX8_wish_83 : decode cX8_wish 83 = .ok (.aload 5, 2) := by decide +kernel
theorem dX8_wish_85 : decode cX8_wish 85 = .ok (.iload 7, 2) := by decide +kernel
theorem dX8_wish_87 : decode cX8_wish 87 = .ok (.iaload, 1) := by decide +kernel
theorem dX8_wish_88 : decode cX8_wish 88 = .ok (.istore 8, 2) := by decide +kernel
theorem dX8_wish_90 : decode cX8_wish 90 = .ok (.iload 4, 2) := by decide +kernel
theorem dX8_wish_92 : decode cX8_wish 92 = .ok (.iload 8, 2) := by decide +kernel
theorem dX8_wish_94 : decode cX8_wish 94 = .ok (.iconst (-1), 1) := by decide +kernel
theorem dX8_wish_95 : decode cX8_wish 95 = .ok (.if_icmp .ne 7, 3) := by decide +kernel
theorem dX8_wish_98 : decode cX8_wish 98 = .ok (.iconst 0, 1) := by decide +kernel
theorem dX8_wish_99 : decode cX8_wish 99 = .ok (.goto 4, 3) := by decide +kernel
theorem dX8_wish_102 : decode cX8_wish 102 = .ok (.iconst 1, 1) := by decide +kernel
theorem dX8_wish_103 : decode cX8_wish 103 = .ok (.iadd, 1) := by decide +kernel
theorem dX8_wish_104 : decode cX8_wish 104 = .ok (.istore 4, 2) := by decide +kernel
theorem dX8_wish_106 : decode cX8_wish 106 = .ok (.iinc 7 1, 3) := by decide +kernel
theorem dX8_wish_109 : decode cX8_wish 109 = .ok (.goto (-33), 3) := by decide +kernel
theorem dX8_wish_112 : decode cX8_wish 112 = .ok (.iload 4, 2) := by decide +kernel
theorem dX8_wish_114 : decode cX8_wish 114 = .ok (.ireturn, 1) := by decide +kernel
theorem dX8_make_0 : decode cX8_make 0 = .ok (.aload_n 0, 1) := by decide +kernel
theorem dX8_make_1 : decode cX8_make 1 = .ok (.aload_n 0, 1) := by decide +kernel
theorem dX8_make_2 : decode cX8_make 2 = .ok (.iload_n 1, 1) := by decide +kernel
theorem dX8_make_3 : decode cX8_make 3 = .ok (.invokevirtual 258, 3) := by decide +kernel
theorem dX8_make_6 : decode cX8_make 6 = .ok (.iconst 1, 1) := by decide +kernel
theorem dX8_make_7 : decode cX8_make 7 = .ok (.invokevirtual 150, 3) := by decide +kernel
theorem dX8_make_10 : decode cX8_make 10 = .ok (.ifCond .ne 58, 3) := by decide +kernel
theorem dX8_make_13 : decode cX8_make 13 = .ok (.aload_n 0, 1) := by decide +kernel
theorem dX8_make_14 : decode cX8_make 14 = .ok (.iload_n 2, 1) := by decide +kernel
theorem dX8_make_15 : decode cX8_make 15 = .ok (.invokestatic 254, 3) := by decide +kernel
theorem dX8_make_18 : decode cX8_make 18 = .ok (.ifCond .eq 13, 3) := by decide +kernel
theorem dX8_make_21 : decode cX8_make 21 = .ok (.iload_n 3, 1) := by decide +kernel
theorem dX8_make_22 : decode cX8_make 22 = .ok (.iconst 1, 1) := by decide +kernel
theorem dX8_make_23 : decode cX8_make 23 = .ok (.bipush 99, 2) := by decide +kernel
theorem dX8_make_25 : decode cX8_make 25 = .ok (.invokestatic 123, 3) := by decide +kernel
theorem dX8_make_28 : decode cX8_make 28 = .ok (.ifCond .ne 7, 3) := by decide +kernel
theorem dX8_make_31 : decode cX8_make 31 = .ok (.iconst 1, 1) := by decide +kernel
theorem dX8_make_32 : decode cX8_make 32 = .ok (.goto 4, 3) := by decide +kernel
theorem dX8_make_35 : decode cX8_make 35 = .ok (.iconst 0, 1) := by decide +kernel
theorem dX8_make_36 : decode cX8_make 36 = .ok (.iconst 2, 1) := by decide +kernel
theorem dX8_make_37 : decode cX8_make 37 = .ok (.invokevirtual 150, 3) := by decide +kernel
theorem dX8_make_40 : decode cX8_make 40 = .ok (.ifCond .ne 28, 3) := by decide +kernel
theorem dX8_make_43 : decode cX8_make 43 = .ok (.aload_n 0, 1) := by decide +kernel
theorem dX8_make_44 : decode cX8_make 44 = .ok (.aload_n 0, 1) := by decide +kernel
theorem dX8_make_45 : decode cX8_make 45 = .ok (.getfield 98, 3) := by decide +kernel
theorem dX8_make_48 : decode cX8_make 48 = .ok (.iload_n 1, 1) := by decide +kernel
theorem dX8_make_49 : decode cX8_make 49 = .ok (.aaload, 1) := by decide +kernel
theorem dX8_make_50 : decode cX8_make 50 = .ok (.iconst 0, 1) := by decide +kernel
theorem dX8_make_51 : decode cX8_make 51 = .ok (.iaload, 1) := by decide +kernel
theorem dX8_make_52 : decode cX8_make 52 = .ok (.iconst (-1), 1) := by decide +kernel
theorem dX8_make_53 : decode cX8_make 53 = .ok (.if_icmp .ne 7, 3) := by decide +kernel
theorem dX8_make_56 : decode cX8_make 56 = .ok (.iconst 1, 1) := by decide +kernel
theorem dX8_make_57 : decode cX8_make 57 = .ok (.goto 4, 3) := by decide +kernel
theorem dX8_make_60 : decode cX8_make 60 = .ok (.iconst 0, 1) := by decide +kernel
theorem dX8_make_61 : decode cX8_make 61 = .ok (.iconst 3, 1) := by decide +kernel
theorem dX8_make_62 : decode cX8_make 62 = .ok (.invokevirtual 150, 3) := by decide +kernel
theorem dX8_make_65 : decode cX8_make 65 = .ok (.ifCond .eq 5, 3) := by decide +kernel
theorem dX8_make_68 : decode cX8_make 68 = .ok (.iconst 0, 1) := by decide +kernel
theorem dX8_make_69 : decode cX8_make 69 = .ok (.ireturn, 1) := by decide +kernel
theorem dX8_make_70 : decode cX8_make 70 = .ok (.iconst 1, 1) := by decide +kernel
theorem dX8_make_71 : decode cX8_make 71 = .ok (.istore 4, 2) := by decide +kernel
theorem dX8_make_73 : decode cX8_make 73 = .ok (.iconst 0, 1) := by decide +kernel
theorem dX8_make_74 : decode cX8_make 74 = .ok (.istore 5, 2) := by decide +kernel
theorem dX8_make_76 : decode cX8_make 76 = .ok (.iconst 1, 1) := by decide +kernel
theorem dX8_make_77 : decode cX8_make 77 = .ok (.istore 6, 2) := by decide +kernel
theorem dX8_make_79 : decode cX8_make 79 = .ok (.iload 6, 2) := by decide +kernel
theorem dX8_make_81 : decode cX8_make 81 = .ok (.bipush 24, 2) := by decide +kernel
theorem dX8_make_83 : decode cX8_make 83 = .ok (.if_icmp .gt 106, 3) := by decide +kernel
theorem dX8_make_86 : decode cX8_make 86 = .ok (.iload 6, 2) := by decide +kernel
theorem dX8_make_88 : decode cX8_make 88 = .ok (.bipush 24, 2) := by decide +kernel
theorem dX8_make_90 : decode cX8_make 90 = .ok (.if_icmp .ne 14, 3) := by decide +kernel
theorem dX8_make_93 : decode cX8_make 93 = .ok (.aload_n 0, 1) := by decide +kernel
theorem dX8_make_94 : decode cX8_make 94 = .ok (.getfield 98, 3) := by decide +kernel
theorem dX8_make_97 : decode cX8_make 97 = .ok (.iload_n 1, 1) := by decide +kernel
theorem dX8_make_98 : decode cX8_make 98 = .ok (.aaload, 1) := by decide +kernel
theorem dX8_make_99 : decode cX8_make 99 = .ok (.iconst 0, 1) := by decide +kernel
theorem dX8_make_100 : decode cX8_make 100 = .ok (.iaload, 1) := by decide +kernel
theorem dX8_make_101 : decode cX8_make 101 = .ok (.goto 12, 3) := by decide +kernel
theorem dX8_make_104 : decode cX8_make 104 = .ok (.aload_n 0, 1) := by decide +kernel
theorem dX8_make_105 : decode cX8_make 105 = .ok (.getfield 98, 3) := by decide +kernel
theorem dX8_make_108 : decode cX8_make 108 = .ok (.iload_n 1, 1) := by decide +kernel
theorem dX8_make_109 : decode cX8_make 109 = .ok (.aaload, 1) := by decide +kernel
theorem dX8_make_110 : decode cX8_make 110 = .ok (.iload 6, 2) := by decide +kernel
theorem dX8_make_112 : decode cX8_make 112 = .ok (.iaload, 1) := by decide +kernel
theorem dX8_make_113 : decode cX8_make 113 = .ok (.istore 7, 2) := by decide +kernel
theorem dX8_make_115 : decode cX8_make 115 = .ok (.iload 7, 2) := by decide +kernel
theorem dX8_make_117 : decode cX8_make 117 = .ok (.iconst (-1), 1) := by decide +kernel
theorem dX8_make_118 : decode cX8_make 118 = .ok (.if_icmp .eq 65, 3) := by decide +kernel
theorem dX8_make_121 : decode cX8_make 121 = .ok (.iload 4, 2) := by decide +kernel
theorem dX8_make_123 : decode cX8_make 123 = .ok (.iload 7, 2) := by decide +kernel
theorem dX8_make_125 : decode cX8_make 125 = .ok (.aload_n 0, 1) := by decide +kernel
theorem dX8_make_126 : decode cX8_make 126 = .ok (.getfield 98, 3) := by decide +kernel
theorem dX8_make_129 : decode cX8_make 129 = .ok (.iload_n 1, 1) := by decide +kernel
theorem dX8_make_130 : decode cX8_make 130 = .ok (.aaload, 1) := by decide +kernel
theorem dX8_make_131 : decode cX8_make 131 = .ok (.iload 5, 2) := by decide +kernel
theorem dX8_make_133 : decode cX8_make 133 = .ok (.iaload, 1) := by decide +kernel
theorem dX8_make_134 : decode cX8_make 134 = .ok (.isub, 1) := by decide +kernel
theorem dX8_make_135 : decode cX8_make 135 = .ok (.invokestatic 229, 3) := by decide +kernel
theorem dX8_make_138 : decode cX8_make 138 = .ok (.iload_n 2, 1) := by decide +kernel
theorem dX8_make_139 : decode cX8_make 139 = .ok (.bipush 112, 2) := by decide +kernel
theorem dX8_make_141 : decode cX8_make 141 = .ok (.if_icmp .ne 7, 3) := by decide +kernel
theorem dX8_make_144 : decode cX8_make 144 = .ok (.iconst 2, 1) := by decide +kernel
theorem dX8_make_145 : decode cX8_make 145 = .ok (.goto 4, 3) := by decide +kernel
theorem dX8_make_148 : decode cX8_make 148 = .ok (.iconst 1, 1) := by decide +kernel
theorem dX8_make_149 : decode cX8_make 149 = .ok (.imul, 1) := by decide +kernel
theorem dX8_make_150 : decode cX8_make 150 = .ok (.iload_n 3, 1) := by decide +kernel
theorem dX8_make_151 : decode cX8_make 151 = .ok (.iload 6, 2) := by decide +kernel
theorem dX8_make_153 : decode cX8_make 153 = .ok (.iload 5, 2) := by decide +kernel
theorem dX8_make_155 : decode cX8_make 155 = .ok (.isub, 1) := by decide +kernel
theorem dX8_make_156 : decode cX8_make 156 = .ok (.imul, 1) := by decide +kernel
theorem dX8_make_157 : decode cX8_make 157 = .ok (.if_icmp .gt 7, 3) := by decide +kernel
theorem dX8_make_160 : decode cX8_make 160 = .ok (.iconst 1, 1) := by decide +kernel
theorem dX8_make_161 : decode cX8_make 161 = .ok (.goto 4, 3) := by decide +kernel
theorem dX8_make_164 : decode cX8_make 164 = .ok (.iconst 0, 1) := by decide +kernel
theorem dX8_make_165 : decode cX8_make 165 = .ok (.iand, 1) := by decide +kernel
theorem dX8_make_166 : decode cX8_make 166 = .ok (.istore 4, 2) := by decide +kernel
theorem dX8_make_168 : decode cX8_make 168 = .ok (.iload 6, 2) := by decide +kernel
theorem dX8_make_170 : decode cX8_make 170 = .ok (.bipush 24, 2) := by decide +kernel
theorem dX8_make_172 : decode cX8_make 172 = .ok (.if_icmp .ne 7, 3) := by decide +kernel
theorem dX8_make_175 : decode cX8_make 175 = .ok (.iconst 0, 1) := by decide +kernel
theorem dX8_make_176 : decode cX8_make 176 = .ok (.goto 5, 3) := by decide +kernel
theorem dX8_make_179 : decode cX8_make 179 = .ok (.iload 6, 2) := by decide +kernel
theorem dX8_make_181 : decode cX8_make 181 = .ok (.istore 5, 2) := by decide +kernel
theorem dX8_make_183 : decode cX8_make 183 = .ok (.iinc 6 1, 3) := by decide +kernel
theorem dX8_make_186 : decode cX8_make 186 = .ok (.goto (-107), 3) := by decide +kernel
theorem dX8_make_189 : decode cX8_make 189 = .ok (.aload_n 0, 1) := by decide +kernel
theorem dX8_make_190 : decode cX8_make 190 = .ok (.iload 4, 2) := by decide +kernel
theorem dX8_make_192 : decode cX8_make 192 = .ok (.ifCond .ne 7, 3) := by decide +kernel
theorem dX8_make_195 : decode cX8_make 195 = .ok (.iconst 1, 1) := by decide +kernel
theorem dX8_make_196 : decode cX8_make 196 = .ok (.goto 4, 3) := by decide +kernel
theorem dX8_make_199 : decode cX8_make 199 = .ok (.iconst 0, 1) := by decide +kernel
theorem dX8_make_200 : decode cX8_make 200 = .ok (.iconst 4, 1) := by decide +kernel
theorem dX8_make_201 : decode cX8_make 201 = .ok (.invokevirtual 150, 3) := by decide +kernel
theorem dX8_make_204 : decode cX8_make 204 = .ok (.ifCond .eq 5, 3) := by decide +kernel
theorem dX8_make_207 : decode cX8_make 207 = .ok (.iconst 0, 1) := by decide +kernel
theorem dX8_make_208 : decode cX8_make 208 = .ok (.ireturn, 1) := by decide +kernel
theorem dX8_make_209 : decode cX8_make 209 = .ok (.aload_n 0, 1) := by decide +kernel
theorem dX8_make_210 : decode cX8_make 210 = .ok (.getfield 82, 3) := by decide +kernel
theorem dX8_make_213 : decode cX8_make 213 = .ok (.iload_n 1, 1) := by decide +kernel
theorem dX8_make_214 : decode cX8_make 214 = .ok (.iconst 0, 1) := by decide +kernel
theorem dX8_make_215 : decode cX8_make 215 = .ok (.iastore, 1) := by decide +kernel
theorem dX8_make_216 : decode cX8_make 216 = .ok (.iconst 0, 1) := by decide +kernel
theorem dX8_make_217 : decode cX8_make 217 = .ok (.istore 5, 2) := by decide +kernel
theorem dX8_make_219 : decode cX8_make 219 = .ok (.iconst 1, 1) := by decide +kernel
theorem dX8_make_220 : decode cX8_make 220 = .ok (.istore 6, 2) := by decide +kernel
theorem dX8_make_222 : decode cX8_make 222 = .ok (.iload 6, 2) := by decide +kernel
theorem dX8_make_224 : decode cX8_make 224 = .ok (.bipush 24, 2) := by decide +kernel
theorem dX8_make_226 : decode cX8_make 226 = .ok (.if_icmp .gt 61, 3) := by decide +kernel
theorem dX8_make_229 : decode cX8_make 229 = .ok (.iload 6, 2) := by decide +kernel
theorem dX8_make_231 : decode cX8_make 231 = .ok (.bipush 24, 2) := by decide +kernel
theorem dX8_make_233 : decode cX8_make 233 = .ok (.if_icmp .ne 14, 3) := by decide +kernel
theorem dX8_make_236 : decode cX8_make 236 = .ok (.aload_n 0, 1) := by decide +kernel
theorem dX8_make_237 : decode cX8_make 237 = .ok (.getfield 98, 3) := by decide +kernel
theorem dX8_make_240 : decode cX8_make 240 = .ok (.iload_n 1, 1) := by decide +kernel
theorem dX8_make_241 : decode cX8_make 241 = .ok (.aaload, 1) := by decide +kernel
theorem dX8_make_242 : decode cX8_make 242 = .ok (.iconst 0, 1) := by decide +kernel
theorem dX8_make_243 : decode cX8_make 243 = .ok (.iaload, 1) := by decide +kernel
theorem dX8_make_244 : decode cX8_make 244 = .ok (.goto 12, 3) := by decide +kernel
theorem dX8_make_247 : decode cX8_make 247 = .ok (.aload_n 0, 1) := by decide +kernel
theorem dX8_make_248 : decode cX8_make 248 = .ok (.getfield 98, 3) := by decide +kernel
theorem dX8_make_251 : decode cX8_make 251 = .ok (.iload_n 1, 1) := by decide +kernel
theorem dX8_make_252 : decode cX8_make 252 = .ok (.aaload, 1) := by decide +kernel
theorem dX8_make_253 : decode cX8_make 253 = .ok (.iload 6, 2) := by decide +kernel
theorem dX8_make_255 : decode cX8_make 255 = .ok (.iaload, 1) := by decide +kernel
theorem dX8_make_256 : decode cX8_make 256 = .ok (.istore 7, 2) := by decide +kernel
theorem dX8_make_258 : decode cX8_make 258 = .ok (.iload 7, 2) := by decide +kernel
theorem dX8_make_260 : decode cX8_make 260 = .ok (.iconst (-1), 1) := by decide +kernel
theorem dX8_make_261 : decode cX8_make 261 = .ok (.if_icmp .eq 20, 3) := by decide +kernel
theorem dX8_make_264 : decode cX8_make 264 = .ok (.aload_n 0, 1) := by decide +kernel
theorem dX8_make_265 : decode cX8_make 265 = .ok (.iload_n 1, 1) := by decide +kernel
theorem dX8_make_266 : decode cX8_make 266 = .ok (.iload 6, 2) := by decide +kernel
theorem dX8_make_268 : decode cX8_make 268 = .ok (.iload 5, 2) := by decide +kernel
theorem dX8_make_270 : decode cX8_make 270 = .ok (.isub, 1) := by decide +kernel
theorem dX8_make_271 : decode cX8_make 271 = .ok (.iload 7, 2) := by decide +kernel
theorem dX8_make_273 : decode cX8_make 273 = .ok (.iload_n 2, 1) := by decide +kernel
theorem dX8_make_274 : decode cX8_make 274 = .ok (.invokevirtual 264, 3) := by decide +kernel
theorem dX8_make_277 : decode cX8_make 277 = .ok (.iload 6, 2) := by decide +kernel
theorem dX8_make_279 : decode cX8_make 279 = .ok (.istore 5, 2) := by decide +kernel
theorem dX8_make_281 : decode cX8_make 281 = .ok (.iinc 6 1, 3) := by decide +kernel
theorem dX8_make_284 : decode cX8_make 284 = .ok (.goto (-62), 3) := by decide +kernel
theorem dX8_make_287 : decode cX8_make 287 = .ok (.aload_n 0, 1) := by decide +kernel
theorem dX8_make_288 : decode cX8_make 288 = .ok (.getfield 82, 3) := by decide +kernel
theorem dX8_make_291 : decode cX8_make 291 = .ok (.iload_n 1, 1) := by decide +kernel
theorem dX8_make_292 : decode cX8_make 292 = .ok (.iaload, 1) := by decide +kernel
theorem dX8_make_293 : decode cX8_make 293 = .ok (.ireturn, 1) := by decide +kernel
theorem dX8_drum_0 : decode cX8_drum 0 = .ok (.aload_n 0, 1) := by decide +kernel
theorem dX8_drum_1 : decode cX8_drum 1 = .ok (.aload_n 0, 1) := by decide +kernel
theorem dX8_drum_2 : decode cX8_drum 2 = .ok (.iload_n 1, 1) := by decide +kernel
theorem dX8_drum_3 : decode cX8_drum 3 = .ok (.invokevirtual 176, 3) := by decide +kernel
theorem dX8_drum_6 : decode cX8_drum 6 = .ok (.iconst 1, 1) := by decide +kernel
theorem dX8_drum_7 : decode cX8_drum 7 = .ok (.invokevirtual 150, 3) := by decide +kernel
theorem dX8_drum_10 : decode cX8_drum 10 = .ok (.ifCond .ne 24, 3) := by decide +kernel
theorem dX8_drum_13 : decode cX8_drum 13 = .ok (.aload_n 0, 1) := by decide +kernel
theorem dX8_drum_14 : decode cX8_drum 14 = .ok (.aload_n 0, 1) := by decide +kernel
theorem dX8_drum_15 : decode cX8_drum 15 = .ok (.getfield 223, 3) := by decide +kernel
theorem dX8_drum_18 : decode cX8_drum 18 = .ok (.iconst 4, 1) := by decide +kernel
theorem dX8_drum_19 : decode cX8_drum 19 = .ok (.if_icmp .ne 7, 3) := by decide +kernel
theorem dX8_drum_22 : decode cX8_drum 22 = .ok (.iconst 1, 1) := by decide +kernel
theorem dX8_drum_23 : decode cX8_drum 23 = .ok (.goto 4, 3) := by decide +kernel
theorem dX8_drum_26 : decode cX8_drum 26 = .ok (.iconst 0, 1) := by decide +kernel
theorem dX8_drum_27 : decode cX8_drum 27 = .ok (.iconst 2, 1) := by decide +kernel
theorem dX8_drum_28 : decode cX8_drum 28 = .ok (.invokevirtual 150, 3) := by decide +kernel
theorem dX8_drum_31 : decode cX8_drum 31 = .ok (.ifCond .eq 5, 3) := by decide +kernel
theorem dX8_drum_34 : decode cX8_drum 34 = .ok (.iconst 0, 1) := by decide +kernel
theorem dX8_drum_35 : decode cX8_drum 35 = .ok (.ireturn, 1) := by decide +kernel
theorem dX8_drum_36 : decode cX8_drum 36 = .ok (.aload_n 0, 1) := by decide +kernel
theorem dX8_drum_37 : decode cX8_drum 37 = .ok (.getfield 101, 3) := by decide +kernel
theorem dX8_drum_40 : decode cX8_drum 40 = .ok (.aload_n 0, 1) := by decide +kernel
theorem dX8_drum_41 : decode cX8_drum 41 = .ok (.getfield 223, 3) := by decide +kernel
theorem dX8_drum_44 : decode cX8_drum 44 = .ok (.iload_n 1, 1) := by decide +kernel
theorem dX8_drum_45 : decode cX8_drum 45 = .ok (.iastore, 1) := by decide +kernel
theorem dX8_drum_46 : decode cX8_drum 46 = .ok (.aload_n 0, 1) := by decide +kernel
theorem dX8_drum_47 : decode cX8_drum 47 = .ok (.dup, 1) := by decide +kernel
theorem dX8_drum_48 : decode cX8_drum 48 = .ok (.getfield 223, 3) := by decide +kernel
theorem dX8_drum_51 : decode cX8_drum 51 = .ok (.iconst 1, 1) := by decide +kernel
theorem dX8_drum_52 : decode cX8_drum 52 = .ok (.iadd, 1) := by decide +kernel
theorem dX8_drum_53 : decode cX8_drum 53 = .ok (.putfield 223, 3) := by decide +kernel
theorem dX8_drum_56 : decode cX8_drum 56 = .ok (.aload_n 0, 1) := by decide +kernel
theorem dX8_drum_57 : decode cX8_drum 57 = .ok (.getfield 223, 3) := by decide +kernel
theorem dX8_drum_60 : decode cX8_drum 60 = .ok (.iconst 1, 1) := by decide +kernel
theorem dX8_drum_61 : decode cX8_drum 61 = .ok (.isub, 1) := by decide +kernel
theorem dX8_drum_62 : decode cX8_drum 62 = .ok (.ireturn, 1) := by decide +kernel
theorem dX8_isNoDrum_0 : decode cX8_isNoDrum 0 = .ok (.iload_n 1, 1) := by decide +kernel
theorem dX8_isNoDrum_1 : decode cX8_isNoDrum 1 = .ok (.iconst 0, 1) := by decide +kernel
theorem dX8_isNoDrum_2 : decode cX8_isNoDrum 2 = .ok (.aload_n 0, 1) := by decide +kernel
theorem dX8_isNoDrum_3 : decode cX8_isNoDrum 3 = .ok (.getfield 223, 3) := by decide +kernel
theorem dX8_isNoDrum_6 : decode cX8_isNoDrum 6 = .ok (.iconst 1, 1) := by decide +kernel
theorem dX8_isNoDrum_7 : decode cX8_isNoDrum 7 = .ok (.isub, 1) := by decide +kernel
theorem dX8_isNoDrum_8 : decode cX8_isNoDrum 8 = .ok (.invokestatic 123, 3) := by decide +kernel
theorem dX8_isNoDrum_11 : decode cX8_isNoDrum 11 = .ok (.ifCond .ne 7, 3) := by decide +kernel
theorem dX8_isNoDrum_14 : decode cX8_isNoDrum 14 = .ok (.iconst 1, 1) := by decide +kernel
theorem dX8_isNoDrum_15 : decode cX8_isNoDrum 15 = .ok (.goto 4, 3) := by decide +kernel
theorem dX8_isNoDrum_18 : decode cX8_isNoDrum 18 = .ok (.iconst 0, 1) := by decide +kernel
theorem dX8_isNoDrum_19 : decode cX8_isNoDrum 19 = .ok (.ireturn, 1) := by decide +kernel
theorem dX8_pin_0 : decode cX8_pin 0 = .ok (.aload_n 0, 1) := by decide +kernel
theorem dX8_pin_1 : decode cX8_pin 1 = .ok (.aload_n 0, 1) := by decide +kernel
theorem dX8_pin_2 : decode cX8_pin 2 = .ok (.iload_n 1, 1) := by decide +kernel
theorem dX8_pin_3 : decode cX8_pin 3 = .ok (.invokevirtual 282, 3) := by decide +kernel
theorem dX8_pin_6 : decode cX8_pin 6 = .ok (.iconst 1, 1) := by decide +kernel
theorem dX8_pin_7 : decode cX8_pin 7 = .ok (.invokevirtual 150, 3) := by decide +kernel
theorem dX8_pin_10 : decode cX8_pin 10 = .ok (.ifCond .ne 36, 3) := by decide +kernel
theorem dX8_pin_13 : decode cX8_pin 13 = .ok (.aload_n 0, 1) := by decide +kernel
theorem dX8_pin_14 : decode cX8_pin 14 = .ok (.iload_n 2, 1) := by decide +kernel
theorem dX8_pin_15 : decode cX8_pin 15 = .ok (.iconst 0, 1) := by decide +kernel
theorem dX8_pin_16 : decode cX8_pin 16 = .ok (.bipush 23, 2) := by decide +kernel
theorem dX8_pin_18 : decode cX8_pin 18 = .ok (.invokestatic 123, 3) := by decide +kernel
theorem dX8_pin_21 : decode cX8_pin 21 = .ok (.ifCond .eq 13, 3) := by decide +kernel
theorem dX8_pin_24 : decode cX8_pin 24 = .ok (.iload_n 3, 1) := by decide +kernel
theorem dX8_pin_25 : decode cX8_pin 25 = .ok (.iconst 0, 1) := by decide +kernel
theorem dX8_pin_26 : decode cX8_pin 26 = .ok (.bipush 7, 2) := by decide +kernel
theorem dX8_pin_28 : decode cX8_pin 28 = .ok (.invokestatic 123, 3) := by decide +kernel
theorem dX8_pin_31 : decode cX8_pin 31 = .ok (.ifCond .ne 7, 3) := by decide +kernel
theorem dX8_pin_34 : decode cX8_pin 34 = .ok (.iconst 1, 1) := by decide +kernel
theorem dX8_pin_35 : decode cX8_pin 35 = .ok (.goto 4, 3) := by decide +kernel
theorem dX8_pin_38 : decode cX8_pin 38 = .ok (.iconst 0, 1) := by decide +kernel
theorem dX8_pin_39 : decode cX8_pin 39 = .ok (.iconst 2, 1) := by decide +kernel
theorem dX8_pin_40 : decode cX8_pin 40 = .ok (.invokevirtual 150, 3) := by decide +kernel
theorem dX8_pin_43 : decode cX8_pin 43 = .ok (.ifCond .eq 5, 3) := by decide +kernel
theorem dX8_pin_46 : decode cX8_pin 46 = .ok (.iconst 0, 1) := by decide +kernel
theorem dX8_pin_47 : decode cX8_pin 47 = .ok (.ireturn, 1) := by decide +kernel
theorem dX8_pin_48 : decode cX8_pin 48 = .ok (.aload_n 0, 1) := by decide +kernel
theorem dX8_pin_49 : decode cX8_pin 49 = .ok (.getfield 106, 3) := by decide +kernel
theorem dX8_pin_52 : decode cX8_pin 52 = .ok (.iload_n 1, 1) := by decide +kernel
theorem dX8_pin_53 : decode cX8_pin 53 = .ok (.aaload, 1) := by decide +kernel
theorem dX8_pin_54 : decode cX8_pin 54 = .ok (.iload_n 2, 1) := by decide +kernel
theorem dX8_pin_55 : decode cX8_pin 55 = .ok (.aaload, 1) := by decide +kernel
theorem dX8_pin_56 : decode cX8_pin 56 = .ok (.iload_n 3, 1) := by decide +kernel
theorem dX8_pin_57 : decode cX8_pin 57 = .ok (.baload, 1) := by decide +kernel
theorem dX8_pin_58 : decode cX8_pin 58 = .ok (.istore 5, 2) := by decide +kernel
theorem dX8_pin_60 : decode cX8_pin 60 = .ok (.aload_n 0, 1) := by decide +kernel
theorem dX8_pin_61 : decode cX8_pin 61 = .ok (.getfield 106, 3) := by decide +kernel
theorem dX8_pin_64 : decode cX8_pin 64 = .ok (.iload_n 1, 1) := by decide +kernel
theorem dX8_pin_65 : decode cX8_pin 65 = .ok (.aaload, 1) := by decide +kernel
theorem dX8_pin_66 : decode cX8_pin 66 = .ok (.iload_n 2, 1) := by decide +kernel
theorem dX8_pin_67 : decode cX8_pin 67 = .ok (.aaload, 1) := by decide +kernel
theorem dX8_pin_68 : decode cX8_pin 68 = .ok (.iload_n 3, 1) := by decide +kernel
theorem dX8_pin_69 : decode cX8_pin 69 = .ok (.iload 4, 2) := by decide +kernel
theorem dX8_pin_71 : decode cX8_pin 71 = .ok (.bastore, 1) := by decide +kernel
theorem dX8_pin_72 : decode cX8_pin 72 = .ok (.iload 5, 2) := by decide +kernel
theorem dX8_pin_74 : decode cX8_pin 74 = .ok (.ireturn, 1) := by decide +kernel
theorem dX8_struck_0 : decode cX8_struck 0 = .ok (.aload_n 0, 1) := by decide +kernel
theorem dX8_struck_1 : decode cX8_struck 1 = .ok (.aload_n 0, 1) := by decide +kernel
theorem dX8_struck_2 : decode cX8_struck 2 = .ok (.iload_n 1, 1) := by decide +kernel
theorem dX8_struck_3 : decode cX8_struck 3 = .ok (.invokevirtual 282, 3) := by decide +kernel
theorem dX8_struck_6 : decode cX8_struck 6 = .ok (.iconst 1, 1) := by decide +kernel
theorem dX8_struck_7 : decode cX8_struck 7 = .ok (.invokevirtual 150, 3) := by decide +kernel
theorem dX8_struck_10 : decode cX8_struck 10 = .ok (.ifCond .ne 26, 3) := by decide +kernel
theorem dX8_struck_13 : decode cX8_struck 13 = .ok (.aload_n 0, 1) := by decide +kernel
theorem dX8_struck_14 : decode cX8_struck 14 = .ok (.iload_n 2, 1) := by decide +kernel
theorem dX8_struck_15 : decode cX8_struck 15 = .ok (.iconst 0, 1) := by decide +kernel
theorem dX8_struck_16 : decode cX8_struck 16 = .ok (.bipush 7, 2) := by decide +kernel
theorem dX8_struck_18 : decode cX8_struck 18 = .ok (.invokestatic 123, 3) := by decide +kernel
theorem dX8_struck_21 : decode cX8_struck 21 = .ok (.ifCond .ne 7, 3) := by decide +kernel
theorem dX8_struck_24 : decode cX8_struck 24 = .ok (.iconst 1, 1) := by decide +kernel
theorem dX8_struck_25 : decode cX8_struck 25 = .ok (.goto 4, 3) := by decide +kernel
theorem dX8_struck_28 : decode cX8_struck 28 = .ok (.iconst 0, 1) := by decide +kernel
theorem dX8_struck_29 : decode cX8_struck 29 = .ok (.iconst 2, 1) := by decide +kernel
theorem dX8_struck_30 : decode cX8_struck 30 = .ok (.invokevirtual 150, 3) := by decide +kernel
theorem dX8_struck_33 : decode cX8_struck 33 = .ok (.ifCond .eq 7, 3) := by decide +kernel
theorem dX8_struck_36 : decode cX8_struck 36 = .ok (.iconst 0, 1) := by decide +kernel
theorem dX8_struck_37 : decode cX8_struck 37 = .ok (.goto 11, 3) := by decide +kernel
theorem dX8_struck_40 : decode cX8_struck 40 = .ok (.aload_n 0, 1) := by decide +kernel
theorem dX8_struck_41 : decode cX8_struck 41 = .ok (.getfield 109, 3) := by decide +kernel
theorem dX8_struck_44 : decode cX8_struck 44 = .ok (.iload_n 1, 1) := by decide +kernel
theorem dX8_struck_45 : decode cX8_struck 45 = .ok (.aaload, 1) := by decide +kernel
theorem dX8_struck_46 : decode cX8_struck 46 = .ok (.iload_n 2, 1) := by decide +kernel
theorem dX8_struck_47 : decode cX8_struck 47 = .ok (.iaload, 1) := by decide +kernel
theorem dX8_struck_48 : decode cX8_struck 48 = .ok (.ireturn, 1) := by decide +kernel
theorem dX8_areNoBars_0 : decode cX8_areNoBars 0 = .ok (.aload_n 0, 1) := by decide +kernel
theorem dX8_areNoBars_1 : decode cX8_areNoBars 1 = .ok (.iload_n 1, 1) := by decide +kernel
theorem dX8_areNoBars_2 : decode cX8_areNoBars 2 = .ok (.iconst 1, 1) := by decide +kernel
theorem dX8_areNoBars_3 : decode cX8_areNoBars 3 = .ok (.sipush 999, 3) := by decide +kernel
theorem dX8_areNoBars_6 : decode cX8_areNoBars 6 = .ok (.invokestatic 123, 3) := by decide +kernel
theorem dX8_areNoBars_9 : decode cX8_areNoBars 9 = .ok (.ifCond .eq 37, 3) := by decide +kernel
theorem dX8_areNoBars_12 : decode cX8_areNoBars 12 = .ok (.iload_n 2, 1) := by decide +kernel
theorem dX8_areNoBars_13 : decode cX8_areNoBars 13 = .ok (.iconst 1, 1) := by decide +kernel
theorem dX8_areNoBars_14 : decode cX8_areNoBars 14 = .ok (.sipush 999, 3) := by decide +kernel
theorem dX8_areNoBars_17 : decode cX8_areNoBars 17 = .ok (.invokestatic 123, 3) := by decide +kernel
theorem dX8_areNoBars_20 : decode cX8_areNoBars 20 = .ok (.ifCond .eq 26, 3) := by decide +kernel
theorem dX8_areNoBars_23 : decode cX8_areNoBars 23 = .ok (.iload_n 3, 1) := by decide +kernel
theorem dX8_areNoBars_24 : decode cX8_areNoBars 24 = .ok (.iconst 1, 1) := by decide +kernel
theorem dX8_areNoBars_25 : decode cX8_areNoBars 25 = .ok (.sipush 999, 3) := by decide +kernel
theorem dX8_areNoBars_28 : decode cX8_areNoBars 28 = .ok (.invokestatic 123, 3) := by decide +kernel
theorem dX8_areNoBars_31 : decode cX8_areNoBars 31 = .ok (.ifCond .eq 15, 3) := by decide +kernel
theorem dX8_areNoBars_34 : decode cX8_areNoBars 34 = .ok (.iload 4, 2) := by decide +kernel
theorem dX8_areNoBars_36 : decode cX8_areNoBars 36 = .ok (.iconst 1, 1) := by decide +kernel
theorem dX8_areNoBars_37 : decode cX8_areNoBars 37 = .ok (.sipush 999, 3) := by decide +kernel
theorem dX8_areNoBars_40 : decode cX8_areNoBars 40 = .ok (.invokestatic 123, 3) := by decide +kernel
theorem dX8_areNoBars_43 : decode cX8_areNoBars 43 = .ok (.ifCond .ne 7, 3) := by decide +kernel
theorem dX8_areNoBars_46 : decode cX8_areNoBars 46 = .ok (.iconst 1, 1) := by decide +kernel
theorem dX8_areNoBars_47 : decode cX8_areNoBars 47 = .ok (.goto 4, 3) := by decide +kernel
theorem dX8_areNoBars_50 : decode cX8_areNoBars 50 = .ok (.iconst 0, 1) := by decide +kernel
theorem dX8_areNoBars_51 : decode cX8_areNoBars 51 = .ok (.iconst 1, 1) := by decide +kernel
theorem dX8_areNoBars_52 : decode cX8_areNoBars 52 = .ok (.invokevirtual 150, 3) := by decide +kernel
theorem dX8_areNoBars_55 : decode cX8_areNoBars 55 = .ok (.ireturn, 1) := by decide +kernel
theorem dX8_bars_0 : decode cX8_bars 0 = .ok (.aload_n 0, 1) := by decide +kernel
theorem dX8_bars_1 : decode cX8_bars 1 = .ok (.iload_n 1, 1) := by decide +kernel
theorem dX8_bars_2 : decode cX8_bars 2 = .ok (.iload_n 2, 1) := by decide +kernel
theorem dX8_bars_3 : decode cX8_bars 3 = .ok (.iload_n 3, 1) := by decide +kernel
theorem dX8_bars_4 : decode cX8_bars 4 = .ok (.iload 4, 2) := by decide +kernel
theorem dX8_bars_6 : decode cX8_bars 6 = .ok (.invokevirtual 285, 3) := by decide +kernel
theorem dX8_bars_9 : decode cX8_bars 9 = .ok (.ifCond .eq 6, 3) := by decide +kernel
theorem dX8_bars_12 : decode cX8_bars 12 = .ok (.bipush 32, 2) := by decide +kernel
theorem dX8_bars_14 : decode cX8_bars 14 = .ok (.ireturn, 1) := by decide +kernel
theorem dX8_bars_15 : decode cX8_bars 15 = .ok (.iload_n 1, 1) := by decide +kernel
theorem dX8_bars_16 : decode cX8_bars 16 = .ok (.iload_n 2, 1) := by decide +kernel
theorem dX8_bars_17 : decode cX8_bars 17 = .ok (.iadd, 1) := by decide +kernel
theorem dX8_bars_18 : decode cX8_bars 18 = .ok (.iload_n 3, 1) := by decide +kernel
theorem dX8_bars_19 : decode cX8_bars 19 = .ok (.iadd, 1) := by decide +kernel
theorem dX8_bars_20 : decode cX8_bars 20 = .ok (.iload 4, 2) := by decide +kernel
theorem dX8_bars_22 : decode cX8_bars 22 = .ok (.iadd, 1) := by decide +kernel
theorem dX8_bars_23 : decode cX8_bars 23 = .ok (.istore 5, 2) := by decide +kernel
theorem dX8_bars_25 : decode cX8_bars 25 = .ok (.iload_n 1, 1) := by decide +kernel
theorem dX8_bars_26 : decode cX8_bars 26 = .ok (.iload_n 2, 1) := by decide +kernel
theorem dX8_bars_27 : decode cX8_bars 27 = .ok (.invokestatic 162, 3) := by decide +kernel
theorem dX8_bars_30 : decode cX8_bars 30 = .ok (.iload_n 3, 1) := by decide +kernel
theorem dX8_bars_31 : decode cX8_bars 31 = .ok (.iload 4, 2) := by decide +kernel
theorem dX8_bars_33 : decode cX8_bars 33 = .ok (.invokestatic 162, 3) := by decide +kernel
theorem dX8_bars_36 : decode cX8_bars 36 = .ok (.invokestatic 162, 3) := by decide +kernel
theorem dX8_bars_39 : decode cX8_bars 39 = .ok (.istore 6, 2) := by decide +kernel
theorem dX8_bars_41 : decode cX8_bars 41 = .ok (.iload_n 1, 1) := by decide +kernel
theorem dX8_bars_42 : decode cX8_bars 42 = .ok (.iload_n 2, 1) := by decide +kernel
theorem dX8_bars_43 : decode cX8_bars 43 = .ok (.invokestatic 289, 3) := by decide +kernel
theorem dX8_bars_46 : decode cX8_bars 46 = .ok (.iload_n 3, 1) := by decide +kernel
theorem dX8_bars_47 : decode cX8_bars 47 = .ok (.iload 4, 2) := by decide +kernel
theorem dX8_bars_49 : decode cX8_bars 49 = .ok (.invokestatic 289, 3) := by decide +kernel
theorem dX8_bars_52 : decode cX8_bars 52 = .ok (.invokestatic 289, 3) := by decide +kernel
theorem dX8_bars_55 : decode cX8_bars 55 = .ok (.istore 7, 2) := by decide +kernel
theorem dX8_bars_57 : decode cX8_bars 57 = .ok (.iconst 2, 1) := by decide +kernel
theorem dX8_bars_58 : decode cX8_bars 58 = .ok (.iload 6, 2) := by decide +kernel
theorem dX8_bars_60 : decode cX8_bars 60 = .ok (.imul, 1) := by decide +kernel
theorem dX8_bars_61 : decode cX8_bars 61 = .ok (.iload 5, 2) := by decide +kernel
theorem dX8_bars_63 : decode cX8_bars 63 = .ok (.if_icmp .lt 6, 3) := by decide +kernel
theorem dX8_bars_66 : decode cX8_bars 66 = .ok (.bipush 120, 2) := by decide +kernel
theorem dX8_bars_68 : decode cX8_bars 68 = .ok (.ireturn, 1) := by decide +kernel
theorem dX8_bars_69 : decode cX8_bars 69 = .ok (.iconst 2, 1) := by decide +kernel
theorem dX8_bars_70 : decode cX8_bars 70 = .ok (.iload 6, 2) := by decide +kernel
theorem dX8_bars_72 : decode cX8_bars 72 = .ok (.iload 7, 2) := by decide +kernel
theorem dX8_bars_74 : decode cX8_bars 74 = .ok (.iadd, 1) := by decide +kernel
theorem dX8_bars_75 : decode cX8_bars 75 = .ok (.imul, 1) := by decide +kernel
theorem dX8_bars_76 : decode cX8_bars 76 = .ok (.istore 8, 2) := by decide +kernel
theorem dX8_bars_78 : decode cX8_bars 78 = .ok (.iload 8, 2) := by decide +kernel
theorem dX8_bars_80 : decode cX8_bars 80 = .ok (.iload 5, 2) := by decide +kernel
theorem dX8_bars_82 : decode cX8_bars 82 = .ok (.if_icmp .lt 18, 3) := by decide +kernel
theorem dX8_bars_85 : decode cX8_bars 85 = .ok (.iload 8, 2) := by decide +kernel
theorem dX8_bars_87 : decode cX8_bars 87 = .ok (.iload 5, 2) := by decide +kernel
theorem dX8_bars_89 : decode cX8_bars 89 = .ok (.if_icmp .ne 8, 3) := by decide +kernel
theorem dX8_bars_92 : decode cX8_bars 92 = .ok (.bipush 101, 2) := by decide +kernel
theorem dX8_bars_94 : decode cX8_bars 94 = .ok (.goto 5, 3) := by decide +kernel
theorem dX8_bars_97 : decode cX8_bars 97 = .ok (.bipush 116, 2) := by decide +kernel
theorem dX8_bars_99 : decode cX8_bars 99 = .ok (.ireturn, 1) := by decide +kernel
theorem dX8_bars_100 : decode cX8_bars 100 = .ok (.iload_n 1, 1) := by decide +kernel
theorem dX8_bars_101 : decode cX8_bars 101 = .ok (.iload 7, 2) := by decide +kernel
theorem dX8_bars_103 : decode cX8_bars 103 = .ok (.if_icmp .ne 8, 3) := by decide +kernel
theorem dX8_bars_106 : decode cX8_bars 106 = .ok (.bipush 99, 2) := by decide +kernel
theorem dX8_bars_108 : decode cX8_bars 108 = .ok (.goto 28, 3) := by decide +kernel
theorem dX8_bars_111 : decode cX8_bars 111 = .ok (.iload_n 3, 1) := by decide +kernel
theorem dX8_bars_112 : decode cX8_bars 112 = .ok (.iload 7, 2) := by decide +kernel
theorem dX8_bars_114 : decode cX8_bars 114 = .ok (.if_icmp .ne 8, 3) := by decide +kernel
theorem dX8_bars_117 : decode cX8_bars 117 = .ok (.bipush 114, 2) := by decide +kernel
theorem dX8_bars_119 : decode cX8_bars 119 = .ok (.goto 17, 3) := by decide +kernel
theorem dX8_bars_122 : decode cX8_bars 122 = .ok (.iload 4, 2) := by decide +kernel
theorem dX8_bars_124 : decode cX8_bars 124 = .ok (.iload 7, 2) := by decide +kernel
theorem dX8_bars_126 : decode cX8_bars 126 = .ok (.if_icmp .ne 8, 3) := by decide +kernel
theorem dX8_bars_129 : decode cX8_bars 129 = .ok (.bipush 100, 2) := by decide +kernel
theorem dX8_bars_131 : decode cX8_bars 131 = .ok (.goto 5, 3) := by decide +kernel
theorem dX8_bars_134 : decode cX8_bars 134 = .ok (.bipush 111, 2) := by decide +kernel
theorem dX8_bars_136 : decode cX8_bars 136 = .ok (.ireturn, 1) := by decide +kernel
theorem dX8_cosine_0 : decode cX8_cosine 0 = .ok (.aload_n 0, 1) := by decide +kernel
theorem dX8_cosine_1 : decode cX8_cosine 1 = .ok (.iload_n 3, 1) := by decide +kernel
theorem dX8_cosine_2 : decode cX8_cosine 2 = .ok (.ifCond .le 20, 3) := by decide +kernel
theorem dX8_cosine_5 : decode cX8_cosine 5 = .ok (.iload_n 3, 1) := by decide +kernel
theorem dX8_cosine_6 : decode cX8_cosine 6 = .ok (.iload_n 1, 1) := by decide +kernel
theorem dX8_cosine_7 : decode cX8_cosine 7 = .ok (.iload_n 2, 1) := by decide +kernel
theorem dX8_cosine_8 : decode cX8_cosine 8 = .ok (.iadd, 1) := by decide +kernel
theorem dX8_cosine_9 : decode cX8_cosine 9 = .ok (.if_icmp .ge 13, 3) := by decide +kernel
theorem dX8_cosine_12 : decode cX8_cosine 12 = .ok (.iload_n 3, 1) := by decide +kernel
theorem dX8_cosine_13 : decode cX8_cosine 13 = .ok (.iload_n 1, 1) := by decide +kernel
theorem dX8_cosine_14 : decode cX8_cosine 14 = .ok (.iload_n 2, 1) := by decide +kernel
theorem dX8_cosine_15 : decode cX8_cosine 15 = .ok (.isub, 1) := by decide +kernel
theorem dX8_cosine_16 : decode cX8_cosine 16 = .ok (.invokestatic 229, 3) := by decide +kernel
theorem dX8_cosine_19 : decode cX8_cosine 19 = .ok (.if_icmp .gt 7, 3) := by decide +kernel
theorem dX8_cosine_22 : decode cX8_cosine 22 = .ok (.iconst 1, 1) := by decide +kernel
theorem dX8_cosine_23 : decode cX8_cosine 23 = .ok (.goto 4, 3) := by decide +kernel
theorem dX8_cosine_26 : decode cX8_cosine 26 = .ok (.iconst 0, 1) := by decide +kernel
theorem dX8_cosine_27 : decode cX8_cosine 27 = .ok (.iconst 2, 1) := by decide +kernel
theorem dX8_cosine_28 : decode cX8_cosine 28 = .ok (.invokevirtual 150, 3) := by decide +kernel
theorem dX8_cosine_31 : decode cX8_cosine 31 = .ok (.ifCond .eq 5, 3) := by decide +kernel
theorem dX8_cosine_34 : decode cX8_cosine 34 = .ok (.lconst 0, 1) := by decide +kernel
theorem dX8_cosine_35 : decode cX8_cosine 35 = .ok (.lreturn, 1) := by decide +kernel
theorem dX8_cosine_36 : decode cX8_cosine 36 = .ok (.aload_n 0, 1) := by decide +kernel
theorem dX8_cosine_37 : decode cX8_cosine 37 = .ok (.iload_n 1, 1) := by decide +kernel
theorem dX8_cosine_38 : decode cX8_cosine 38 = .ok (.i2l, 1) := by decide +kernel
theorem dX8_cosine_39 : decode cX8_cosine 39 = .ok (.iload_n 1, 1) := by decide +kernel
theorem dX8_cosine_40 : decode cX8_cosine 40 = .ok (.i2l, 1) := by decide +kernel
theorem dX8_cosine_41 : decode cX8_cosine 41 = .ok (.lmul, 1) := by decide +kernel
theorem dX8_cosine_42 : decode cX8_cosine 42 = .ok (.iload_n 2, 1) := by decide +kernel
theorem dX8_cosine_43 : decode cX8_cosine 43 = .ok (.i2l, 1) := by decide +kernel
theorem dX8_cosine_44 : decode cX8_cosine 44 = .ok (.iload_n 2, 1) := by decide +kernel
theorem dX8_cosine_45 : decode cX8_cosine 45 = .ok (.i2l, 1) := by decide +kernel
theorem dX8_cosine_46 : decode cX8_cosine 46 = .ok (.lmul, 1) := by decide +kernel
theorem dX8_cosine_47 : decode cX8_cosine 47 = .ok (.ladd, 1) := by decide +kernel
theorem dX8_cosine_48 : decode cX8_cosine 48 = .ok (.iload_n 3, 1) := by decide +kernel
theorem dX8_cosine_49 : decode cX8_cosine 49 = .ok (.i2l, 1) := by decide +kernel
theorem dX8_cosine_50 : decode cX8_cosine 50 = .ok (.iload_n 3, 1) := by decide +kernel
theorem dX8_cosine_51 : decode cX8_cosine 51 = .ok (.i2l, 1) := by decide +kernel
theorem dX8_cosine_52 : decode cX8_cosine 52 = .ok (.lmul, 1) := by decide +kernel
theorem dX8_cosine_53 : decode cX8_cosine 53 = .ok (.lsub, 1) := by decide +kernel
theorem dX8_cosine_54 : decode cX8_cosine 54 = .ok (.ldc2_w 274, 3) := by decide +kernel
theorem dX8_cosine_57 : decode cX8_cosine 57 = .ok (.iload_n 1, 1) := by decide +kernel
theorem dX8_cosine_58 : decode cX8_cosine 58 = .ok (.i2l, 1) := by decide +kernel
theorem dX8_cosine_59 : decode cX8_cosine 59 = .ok (.lmul, 1) := by decide +kernel
theorem dX8_cosine_60 : decode cX8_cosine 60 = .ok (.iload_n 2, 1) := by decide +kernel
theorem dX8_cosine_61 : decode cX8_cosine 61 = .ok (.i2l, 1) := by decide +kernel
theorem dX8_cosine_62 : decode cX8_cosine 62 = .ok (.lmul, 1) := by decide +kernel
theorem dX8_cosine_63 : decode cX8_cosine 63 = .ok (.invokevirtual 143, 3) := by decide +kernel
theorem dX8_cosine_66 : decode cX8_cosine 66 = .ok (.iload 4, 2) := by decide +kernel
theorem dX8_cosine_68 : decode cX8_cosine 68 = .ok (.ifCond .eq 10, 3) := by decide +kernel
theorem dX8_cosine_71 : decode cX8_cosine 71 = .ok (.aload_n 0, 1) := by decide +kernel
theorem dX8_cosine_72 : decode cX8_cosine 72 = .ok (.getfield 140, 3) := by decide +kernel
theorem dX8_cosine_75 : decode cX8_cosine 75 = .ok (.goto 7, 3) := by decide +kernel
theorem dX8_cosine_78 : decode cX8_cosine 78 = .ok (.aload_n 0, 1) := by decide +kernel
theorem dX8_cosine_79 : decode cX8_cosine 79 = .ok (.getfield 112, 3) := by decide +kernel
theorem dX8_cosine_82 : decode cX8_cosine 82 = .ok (.lreturn, 1) := by decide +kernel
theorem dX8_limit_0 : decode cX8_limit 0 = .ok (.aload_n 0, 1) := by decide +kernel
theorem dX8_limit_1 : decode cX8_limit 1 = .ok (.iload_n 1, 1) := by decide +kernel
theorem dX8_limit_2 : decode cX8_limit 2 = .ok (.iload_n 2, 1) := by decide +kernel
theorem dX8_limit_3 : decode cX8_limit 3 = .ok (.iload_n 3, 1) := by decide +kernel
theorem dX8_limit_4 : decode cX8_limit 4 = .ok (.iload 4, 2) := by decide +kernel
theorem dX8_limit_6 : decode cX8_limit 6 = .ok (.invokevirtual 285, 3) := by decide +kernel
theorem dX8_limit_9 : decode cX8_limit 9 = .ok (.ifCond .eq 5, 3) := by decide +kernel
theorem dX8_limit_12 : decode cX8_limit 12 = .ok (.lconst 0, 1) := by decide +kernel
theorem dX8_limit_13 : decode cX8_limit 13 = .ok (.lreturn, 1) := by decide +kernel
theorem dX8_limit_14 : decode cX8_limit 14 = .ok (.aload_n 0, 1) := by decide +kernel
theorem dX8_limit_15 : decode cX8_limit 15 = .ok (.iload_n 3, 1) := by decide +kernel
theorem dX8_limit_16 : decode cX8_limit 16 = .ok (.iload 4, 2) := by decide +kernel
theorem dX8_limit_18 : decode cX8_limit 18 = .ok (.iload 5, 2) := by decide +kernel
theorem dX8_limit_20 : decode cX8_limit 20 = .ok (.ifCond .eq 9, 3) := by decide +kernel
theorem dX8_limit_23 : decode cX8_limit 23 = .ok (.iload_n 1, 1) := by decide +kernel
theorem dX8_limit_24 : decode cX8_limit 24 = .ok (.iload_n 2, 1) := by decide +kernel
theorem dX8_limit_25 : decode cX8_limit 25 = .ok (.iadd, 1) := by decide +kernel
theorem dX8_limit_26 : decode cX8_limit 26 = .ok (.goto 9, 3) := by decide +kernel
theorem dX8_limit_29 : decode cX8_limit 29 = .ok (.iload_n 1, 1) := by decide +kernel
theorem dX8_limit_30 : decode cX8_limit 30 = .ok (.iload_n 2, 1) := by decide +kernel
theorem dX8_limit_31 : decode cX8_limit 31 = .ok (.isub, 1) := by decide +kernel
theorem dX8_limit_32 : decode cX8_limit 32 = .ok (.invokestatic 229, 3) := by decide +kernel
theorem dX8_limit_35 : decode cX8_limit 35 = .ok (.iload 6, 2) := by decide +kernel
theorem dX8_limit_37 : decode cX8_limit 37 = .ok (.invokevirtual 291, 3) := by decide +kernel
theorem dX8_limit_40 : decode cX8_limit 40 = .ok (.lreturn, 1) := by decide +kernel
theorem dX8_limitOver_0 : decode cX8_limitOver 0 = .ok (.aload_n 0, 1) := by decide +kernel
theorem dX8_limitOver_1 : decode cX8_limitOver 1 = .ok (.iload_n 1, 1) := by decide +kernel
theorem dX8_limitOver_2 : decode cX8_limitOver 2 = .ok (.iload_n 2, 1) := by decide +kernel
theorem dX8_limitOver_3 : decode cX8_limitOver 3 = .ok (.iload_n 3, 1) := by decide +kernel
theorem dX8_limitOver_4 : decode cX8_limitOver 4 = .ok (.iload 4, 2) := by decide +kernel
theorem dX8_limitOver_6 : decode cX8_limitOver 6 = .ok (.iload 5, 2) := by decide +kernel
theorem dX8_limitOver_8 : decode cX8_limitOver 8 = .ok (.iconst 1, 1) := by decide +kernel
theorem dX8_limitOver_9 : decode cX8_limitOver 9 = .ok (.invokevirtual 295, 3) := by decide +kernel
theorem dX8_limitOver_12 : decode cX8_limitOver 12 = .ok (.lreturn, 1) := by decide +kernel
theorem dX8_limitUnder_0 : decode cX8_limitUnder 0 = .ok (.aload_n 0, 1) := by decide +kernel
theorem dX8_limitUnder_1 : decode cX8_limitUnder 1 = .ok (.iload_n 1, 1) := by decide +kernel
theorem dX8_limitUnder_2 : decode cX8_limitUnder 2 = .ok (.iload_n 2, 1) := by decide +kernel
theorem dX8_limitUnder_3 : decode cX8_limitUnder 3 = .ok (.iload_n 3, 1) := by decide +kernel
theorem dX8_limitUnder_4 : decode cX8_limitUnder 4 = .ok (.iload 4, 2) := by decide +kernel
theorem dX8_limitUnder_6 : decode cX8_limitUnder 6 = .ok (.iload 5, 2) := by decide +kernel
theorem dX8_limitUnder_8 : decode cX8_limitUnder 8 = .ok (.iconst 0, 1) := by decide +kernel
theorem dX8_limitUnder_9 : decode cX8_limitUnder 9 = .ok (.invokevirtual 295, 3) := by decide +kernel
theorem dX8_limitUnder_12 : decode cX8_limitUnder 12 = .ok (.lreturn, 1) := by decide +kernel
theorem dX8_angle_0 : decode cX8_angle 0 = .ok (.aload_n 0, 1) := by decide +kernel
theorem dX8_angle_1 : decode cX8_angle 1 = .ok (.iload_n 1, 1) := by decide +kernel
theorem dX8_angle_2 : decode cX8_angle 2 = .ok (.iload_n 2, 1) := by decide +kernel
theorem dX8_angle_3 : decode cX8_angle 3 = .ok (.iload_n 3, 1) := by decide +kernel
theorem dX8_angle_4 : decode cX8_angle 4 = .ok (.iload 4, 2) := by decide +kernel
theorem dX8_angle_6 : decode cX8_angle 6 = .ok (.invokevirtual 285, 3) := by decide +kernel
theorem dX8_angle_9 : decode cX8_angle 9 = .ok (.ifCond .eq 5, 3) := by decide +kernel
theorem dX8_angle_12 : decode cX8_angle 12 = .ok (.lconst 0, 1) := by decide +kernel
theorem dX8_angle_13 : decode cX8_angle 13 = .ok (.lreturn, 1) := by decide +kernel
theorem dX8_angle_14 : decode cX8_angle 14 = .ok (.aload_n 0, 1) := by decide +kernel
theorem dX8_angle_15 : decode cX8_angle 15 = .ok (.iload_n 2, 1) := by decide +kernel
theorem dX8_angle_16 : decode cX8_angle 16 = .ok (.iload_n 3, 1) := by decide +kernel
theorem dX8_angle_17 : decode cX8_angle 17 = .ok (.iload 5, 2) := by decide +kernel
theorem dX8_angle_19 : decode cX8_angle 19 = .ok (.ifCond .eq 10, 3) := by decide +kernel
theorem dX8_angle_22 : decode cX8_angle 22 = .ok (.iload_n 1, 1) := by decide +kernel
theorem dX8_angle_23 : decode cX8_angle 23 = .ok (.iload 4, 2) := by decide +kernel
theorem dX8_angle_25 : decode cX8_angle 25 = .ok (.iadd, 1) := by decide +kernel
theorem dX8_angle_26 : decode cX8_angle 26 = .ok (.goto 10, 3) := by decide +kernel
theorem dX8_angle_29 : decode cX8_angle 29 = .ok (.iload_n 1, 1) := by decide +kernel
theorem dX8_angle_30 : decode cX8_angle 30 = .ok (.iload 4, 2) := by decide +kernel
theorem dX8_angle_32 : decode cX8_angle 32 = .ok (.isub, 1) := by decide +kernel
theorem dX8_angle_33 : decode cX8_angle 33 = .ok (.invokestatic 229, 3) := by decide +kernel
theorem dX8_angle_36 : decode cX8_angle 36 = .ok (.iload 6, 2) := by decide +kernel
theorem dX8_angle_38 : decode cX8_angle 38 = .ok (.invokevirtual 291, 3) := by decide +kernel
theorem dX8_angle_41 : decode cX8_angle 41 = .ok (.lreturn, 1) := by decide +kernel
theorem dX8_angleOver_0 : decode cX8_angleOver 0 = .ok (.aload_n 0, 1) := by decide +kernel
theorem dX8_angleOver_1 : decode cX8_angleOver 1 = .ok (.iload_n 1, 1) := by decide +kernel
theorem dX8_angleOver_2 : decode cX8_angleOver 2 = .ok (.iload_n 2, 1) := by decide +kernel
theorem dX8_angleOver_3 : decode cX8_angleOver 3 = .ok (.iload_n 3, 1) := by decide +kernel
theorem dX8_angleOver_4 : decode cX8_angleOver 4 = .ok (.iload 4, 2) := by decide +kernel
theorem dX8_angleOver_6 : decode cX8_angleOver 6 = .ok (.iload 5, 2) := by decide +kernel
theorem dX8_angleOver_8 : decode cX8_angleOver 8 = .ok (.iconst 1, 1) := by decide +kernel
theorem dX8_angleOver_9 : decode cX8_angleOver 9 = .ok (.invokevirtual 299, 3) := by decide +kernel
theorem dX8_angleOver_12 : decode cX8_angleOver 12 = .ok (.lreturn, 1) := by decide +kernel
theorem dX8_angleUnder_0 : decode cX8_angleUnder 0 = .ok (.aload_n 0, 1) := by decide +kernel
theorem dX8_angleUnder_1 : decode cX8_angleUnder 1 = .ok (.iload_n 1, 1) := by decide +kernel
theorem dX8_angleUnder_2 : decode cX8_angleUnder 2 = .ok (.iload_n 2, 1) := by decide +kernel
theorem dX8_angleUnder_3 : decode cX8_angleUnder 3 = .ok (.iload_n 3, 1) := by decide +kernel
theorem dX8_angleUnder_4 : decode cX8_angleUnder 4 = .ok (.iload 4, 2) := by decide +kernel
theorem dX8_angleUnder_6 : decode cX8_angleUnder 6 = .ok (.iload 5, 2) := by decide +kernel
theorem dX8_angleUnder_8 : decode cX8_angleUnder 8 = .ok (.iconst 0, 1) := by decide +kernel
theorem dX8_angleUnder_9 : decode cX8_angleUnder 9 = .ok (.invokevirtual 299, 3) := by decide +kernel
theorem dX8_angleUnder_12 : decode cX8_angleUnder 12 = .ok (.lreturn, 1) := by decide +kernel
theorem dX8_isNoRatio_0 : decode cX8_isNoRatio 0 = .ok (.aload_n 0, 1) := by decide +kernel
theorem dX8_isNoRatio_1 : decode cX8_isNoRatio 1 = .ok (.iload_n 1, 1) := by decide +kernel
theorem dX8_isNoRatio_2 : decode cX8_isNoRatio 2 = .ok (.iconst 1, 1) := by decide +kernel
theorem dX8_isNoRatio_3 : decode cX8_isNoRatio 3 = .ok (.sipush 9999, 3) := by decide +kernel
theorem dX8_isNoRatio_6 : decode cX8_isNoRatio 6 = .ok (.invokestatic 123, 3) := by decide +kernel
theorem dX8_isNoRatio_9 : decode cX8_isNoRatio 9 = .ok (.ifCond .eq 14, 3) := by decide +kernel
theorem dX8_isNoRatio_12 : decode cX8_isNoRatio 12 = .ok (.iload_n 2, 1) := by decide +kernel
theorem dX8_isNoRatio_13 : decode cX8_isNoRatio 13 = .ok (.iconst 1, 1) := by decide +kernel
theorem dX8_isNoRatio_14 : decode cX8_isNoRatio 14 = .ok (.sipush 9999, 3) := by decide +kernel
theorem dX8_isNoRatio_17 : decode cX8_isNoRatio 17 = .ok (.invokestatic 123, 3) := by decide +kernel
theorem dX8_isNoRatio_20 : decode cX8_isNoRatio 20 = .ok (.ifCond .ne 7, 3) := by decide +kernel
theorem dX8_isNoRatio_23 : decode cX8_isNoRatio 23 = .ok (.iconst 1, 1) := by decide +kernel
theorem dX8_isNoRatio_24 : decode cX8_isNoRatio 24 = .ok (.goto 4, 3) := by decide +kernel
theorem dX8_isNoRatio_27 : decode cX8_isNoRatio 27 = .ok (.iconst 0, 1) := by decide +kernel
theorem dX8_isNoRatio_28 : decode cX8_isNoRatio 28 = .ok (.iconst 1, 1) := by decide +kernel
theorem dX8_isNoRatio_29 : decode cX8_isNoRatio 29 = .ok (.invokevirtual 150, 3) := by decide +kernel
theorem dX8_isNoRatio_32 : decode cX8_isNoRatio 32 = .ok (.ireturn, 1) := by decide +kernel
theorem dX8_teeth_0 : decode cX8_teeth 0 = .ok (.aload_n 0, 1) := by decide +kernel
theorem dX8_teeth_1 : decode cX8_teeth 1 = .ok (.iload_n 1, 1) := by decide +kernel
theorem dX8_teeth_2 : decode cX8_teeth 2 = .ok (.iload_n 2, 1) := by decide +kernel
theorem dX8_teeth_3 : decode cX8_teeth 3 = .ok (.invokevirtual 302, 3) := by decide +kernel
theorem dX8_teeth_6 : decode cX8_teeth 6 = .ok (.ifCond .eq 5, 3) := by decide +kernel
theorem dX8_teeth_9 : decode cX8_teeth 9 = .ok (.iconst 0, 1) := by decide +kernel
theorem dX8_teeth_10 : decode cX8_teeth 10 = .ok (.ireturn, 1) := by decide +kernel
theorem dX8_teeth_11 : decode cX8_teeth 11 = .ok (.iconst 0, 1) := by decide +kernel
theorem dX8_teeth_12 : decode cX8_teeth 12 = .ok (.istore 4, 2) := by decide +kernel
theorem dX8_teeth_14 : decode cX8_teeth 14 = .ok (.iconst 0, 1) := by decide +kernel
theorem dX8_teeth_15 : decode cX8_teeth 15 = .ok (.istore 5, 2) := by decide +kernel
theorem dX8_teeth_17 : decode cX8_teeth 17 = .ok (.bipush 12, 2) := by decide +kernel
theorem dX8_teeth_19 : decode cX8_teeth 19 = .ok (.istore 6, 2) := by decide +kernel
theorem dX8_teeth_21 : decode cX8_teeth 21 = .ok (.iload 6, 2) := by decide +kernel
theorem dX8_teeth_23 : decode cX8_teeth 23 = .ok (.bipush 60, 2) := by decide +kernel
theorem dX8_teeth_25 : decode cX8_teeth 25 = .ok (.if_icmp .gt 110, 3) := by decide +kernel
theorem dX8_teeth_28 : decode cX8_teeth 28 = .ok (.bipush 6, 2) := by decide +kernel
theorem dX8_teeth_30 : decode cX8_teeth 30 = .ok (.istore 7, 2) := by decide +kernel
theorem dX8_teeth_32 : decode cX8_teeth 32 = .ok (.iload 7, 2) := by decide +kernel
theorem dX8_teeth_34 : decode cX8_teeth 34 = .ok (.bipush 30, 2) := by decide +kernel
theorem dX8_teeth_36 : decode cX8_teeth 36 = .ok (.if_icmp .gt 93, 3) := by decide +kernel
theorem dX8_teeth_39 : decode cX8_teeth 39 = .ok (.iload 6, 2) := by decide +kernel
theorem dX8_teeth_41 : decode cX8_teeth 41 = .ok (.iload 7, 2) := by decide +kernel
theorem dX8_teeth_43 : decode cX8_teeth 43 = .ok (.isub, 1) := by decide +kernel
theorem dX8_teeth_44 : decode cX8_teeth 44 = .ok (.istore 8, 2) := by decide +kernel
theorem dX8_teeth_46 : decode cX8_teeth 46 = .ok (.iload 8, 2) := by decide +kernel
theorem dX8_teeth_48 : decode cX8_teeth 48 = .ok (.bipush 6, 2) := by decide +kernel
theorem dX8_teeth_50 : decode cX8_teeth 50 = .ok (.bipush 30, 2) := by decide +kernel
theorem dX8_teeth_52 : decode cX8_teeth 52 = .ok (.invokestatic 123, 3) := by decide +kernel
theorem dX8_teeth_55 : decode cX8_teeth 55 = .ok (.ifCond .eq 68, 3) := by decide +kernel
theorem dX8_teeth_58 : decode cX8_teeth 58 = .ok (.iload 7, 2) := by decide +kernel
theorem dX8_teeth_60 : decode cX8_teeth 60 = .ok (.i2l, 1) := by decide +kernel
theorem dX8_teeth_61 : decode cX8_teeth 61 = .ok (.iload_n 2, 1) := by decide +kernel
theorem dX8_teeth_62 : decode cX8_teeth 62 = .ok (.i2l, 1) := by decide +kernel
theorem dX8_teeth_63 : decode cX8_teeth 63 = .ok (.lmul, 1) := by decide +kernel
theorem dX8_teeth_64 : decode cX8_teeth 64 = .ok (.iload 8, 2) := by decide +kernel
theorem dX8_teeth_66 : decode cX8_teeth 66 = .ok (.i2l, 1) := by decide +kernel
theorem dX8_teeth_67 : decode cX8_teeth 67 = .ok (.iload_n 1, 1) := by decide +kernel
theorem dX8_teeth_68 : decode cX8_teeth 68 = .ok (.i2l, 1) := by decide +kernel
theorem dX8_teeth_69 : decode cX8_teeth 69 = .ok (.lmul, 1) := by decide +kernel
theorem dX8_teeth_70 : decode cX8_teeth 70 = .ok (.lsub, 1) := by decide +kernel
theorem dX8_teeth_71 : decode cX8_teeth 71 = .ok (.invokestatic 130, 3) := by decide +kernel
theorem dX8_teeth_74 : decode cX8_teeth 74 = .ok (.lstore 9, 2) := by decide +kernel
theorem dX8_teeth_76 : decode cX8_teeth 76 = .ok (.iload 4, 2) := by decide +kernel
theorem dX8_teeth_78 : decode cX8_teeth 78 = .ok (.i2l, 1) := by decide +kernel
theorem dX8_teeth_79 : decode cX8_teeth 79 = .ok (.iload_n 2, 1) := by decide +kernel
theorem dX8_teeth_80 : decode cX8_teeth 80 = .ok (.i2l, 1) := by decide +kernel
theorem dX8_teeth_81 : decode cX8_teeth 81 = .ok (.lmul, 1) := by decide +kernel
theorem dX8_teeth_82 : decode cX8_teeth 82 = .ok (.iload 5, 2) := by decide +kernel
theorem dX8_teeth_84 : decode cX8_teeth 84 = .ok (.i2l, 1) := by decide +kernel
theorem dX8_teeth_85 : decode cX8_teeth 85 = .ok (.iload_n 1, 1) := by decide +kernel
theorem dX8_teeth_86 : decode cX8_teeth 86 = .ok (.i2l, 1) := by decide +kernel
theorem dX8_teeth_87 : decode cX8_teeth 87 = .ok (.lmul, 1) := by decide +kernel
theorem dX8_teeth_88 : decode cX8_teeth 88 = .ok (.lsub, 1) := by decide +kernel
theorem dX8_teeth_89 : decode cX8_teeth 89 = .ok (.invokestatic 130, 3) := by decide +kernel
theorem dX8_teeth_92 : decode cX8_teeth 92 = .ok (.lstore 11, 2) := by decide +kernel
theorem dX8_teeth_94 : decode cX8_teeth 94 = .ok (.iload 4, 2) := by decide +kernel
theorem dX8_teeth_96 : decode cX8_teeth 96 = .ok (.ifCond .eq 19, 3) := by decide +kernel
theorem dX8_teeth_99 : decode cX8_teeth 99 = .ok (.lload 9, 2) := by decide +kernel
theorem dX8_teeth_101 : decode cX8_teeth 101 = .ok (.iload 5, 2) := by decide +kernel
theorem dX8_teeth_103 : decode cX8_teeth 103 = .ok (.i2l, 1) := by decide +kernel
theorem dX8_teeth_104 : decode cX8_teeth 104 = .ok (.lmul, 1) := by decide +kernel
theorem dX8_teeth_105 : decode cX8_teeth 105 = .ok (.lload 11, 2) := by decide +kernel
theorem dX8_teeth_107 : decode cX8_teeth 107 = .ok (.iload 8, 2) := by decide +kernel
theorem dX8_teeth_109 : decode cX8_teeth 109 = .ok (.i2l, 1) := by decide +kernel
theorem dX8_teeth_110 : decode cX8_teeth 110 = .ok (.lmul, 1) := by decide +kernel
theorem dX8_teeth_111 : decode cX8_teeth 111 = .ok (.lcmp, 1) := by decide +kernel
theorem dX8_teeth_112 : decode cX8_teeth 112 = .ok (.ifCond .ge 11, 3) := by decide +kernel
theorem dX8_teeth_115 : decode cX8_teeth 115 = .ok (.iload 7, 2) := by decide +kernel
theorem dX8_teeth_117 : decode cX8_teeth 117 = .ok (.istore 4, 2) := by decide +kernel
theorem dX8_teeth_119 : decode cX8_teeth 119 = .ok (.iload 8, 2) := by decide +kernel
theorem dX8_teeth_121 : decode cX8_teeth 121 = .ok (.istore 5, 2) := by decide +kernel
theorem dX8_teeth_123 : decode cX8_teeth 123 = .ok (.iinc 7 1, 3) := by decide +kernel
theorem dX8_teeth_126 : decode cX8_teeth 126 = .ok (.goto (-94), 3) := by decide +kernel
theorem dX8_teeth_129 : decode cX8_teeth 129 = .ok (.iinc 6 1, 3) := by decide +kernel
theorem dX8_teeth_132 : decode cX8_teeth 132 = .ok (.goto (-111), 3) := by decide +kernel
theorem dX8_teeth_135 : decode cX8_teeth 135 = .ok (.iload_n 3, 1) := by decide +kernel
theorem dX8_teeth_136 : decode cX8_teeth 136 = .ok (.ifCond .eq 8, 3) := by decide +kernel
theorem dX8_teeth_139 : decode cX8_teeth 139 = .ok (.iload 4, 2) := by decide +kernel
theorem dX8_teeth_141 : decode cX8_teeth 141 = .ok (.goto 5, 3) := by decide +kernel
theorem dX8_teeth_144 : decode cX8_teeth 144 = .ok (.iload 5, 2) := by decide +kernel
theorem dX8_teeth_146 : decode cX8_teeth 146 = .ok (.ireturn, 1) := by decide +kernel
theorem dX8_pairs_0 : decode cX8_pairs 0 = .ok (.aload_n 0, 1) := by decide +kernel
theorem dX8_pairs_1 : decode cX8_pairs 1 = .ok (.iload_n 1, 1) := by decide +kernel
theorem dX8_pairs_2 : decode cX8_pairs 2 = .ok (.iload_n 2, 1) := by decide +kernel
theorem dX8_pairs_3 : decode cX8_pairs 3 = .ok (.invokevirtual 302, 3) := by decide +kernel
theorem dX8_pairs_6 : decode cX8_pairs 6 = .ok (.ifCond .eq 5, 3) := by decide +kernel
theorem dX8_pairs_9 : decode cX8_pairs 9 = .ok (.iconst 0, 1) := by decide +kernel
theorem dX8_pairs_10 : decode cX8_pairs 10 = .ok (.ireturn, 1) := by decide +kernel
theorem dX8_pairs_11 : decode cX8_pairs 11 = .ok (.iconst 0, 1) := by decide +kernel
theorem dX8_pairs_12 : decode cX8_pairs 12 = .ok (.istore_n 3, 1) := by decide +kernel
theorem dX8_pairs_13 : decode cX8_pairs 13 = .ok (.bipush 6, 2) := by decide +kernel
theorem dX8_pairs_15 : decode cX8_pairs 15 = .ok (.istore 4, 2) := by decide +kernel
theorem dX8_pairs_17 : decode cX8_pairs 17 = .ok (.iload 4, 2) := by decide +kernel
theorem dX8_pairs_19 : decode cX8_pairs 19 = .ok (.bipush 30, 2) := by decide +kernel
theorem dX8_pairs_21 : decode cX8_pairs 21 = .ok (.if_icmp .gt 45, 3) := by decide +kernel
theorem dX8_pairs_24 : decode cX8_pairs 24 = .ok (.bipush 6, 2) := by decide +kernel
theorem dX8_pairs_26 : decode cX8_pairs 26 = .ok (.istore 5, 2) := by decide +kernel
theorem dX8_pairs_28 : decode cX8_pairs 28 = .ok (.iload 5, 2) := by decide +kernel
theorem dX8_pairs_30 : decode cX8_pairs 30 = .ok (.bipush 30, 2) := by decide +kernel
theorem dX8_pairs_32 : decode cX8_pairs 32 = .ok (.if_icmp .gt 28, 3) := by decide +kernel
theorem dX8_pairs_35 : decode cX8_pairs 35 = .ok (.iload_n 3, 1) := by decide +kernel
theorem dX8_pairs_36 : decode cX8_pairs 36 = .ok (.iload 4, 2) := by decide +kernel
theorem dX8_pairs_38 : decode cX8_pairs 38 = .ok (.iload_n 2, 1) := by decide +kernel
theorem dX8_pairs_39 : decode cX8_pairs 39 = .ok (.imul, 1) := by decide +kernel
theorem dX8_pairs_40 : decode cX8_pairs 40 = .ok (.iload 5, 2) := by decide +kernel
theorem dX8_pairs_42 : decode cX8_pairs 42 = .ok (.iload_n 1, 1) := by decide +kernel
theorem dX8_pairs_43 : decode cX8_pairs 43 = .ok (.imul, 1) := by decide +kernel
theorem dX8_pairs_44 : decode cX8_pairs 44 = .ok (.if_icmp .ne 7, 3) := by decide +kernel
theorem dX8_pairs_47 : decode cX8_pairs 47 = .ok (.iconst 1, 1) := by decide +kernel
theorem dX8_pairs_48 : decode cX8_pairs 48 = .ok (.goto 4, 3) := by decide +kernel
theorem dX8_pairs_51 : decode cX8_pairs 51 = .ok (.iconst 0, 1) := by decide +kernel
theorem dX8_pairs_52 : decode cX8_pairs 52 = .ok (.iadd, 1) := by decide +kernel
theorem dX8_pairs_53 : decode cX8_pairs 53 = .ok (.istore_n 3, 1) := by decide +kernel
theorem dX8_pairs_54 : decode cX8_pairs 54 = .ok (.iinc 5 1, 3) := by decide +kernel
theorem dX8_pairs_57 : decode cX8_pairs 57 = .ok (.goto (-29), 3) := by decide +kernel
theorem dX8_pairs_60 : decode cX8_pairs 60 = .ok (.iinc 4 1, 3) := by decide +kernel
theorem dX8_pairs_63 : decode cX8_pairs 63 = .ok (.goto (-46), 3) := by decide +kernel
theorem dX8_pairs_66 : decode cX8_pairs 66 = .ok (.iload_n 3, 1) := by decide +kernel
theorem dX8_pairs_67 : decode cX8_pairs 67 = .ok (.ireturn, 1) := by decide +kernel
theorem dX8_checksum_0 : decode cX8_checksum 0 = .ok (.aload_n 0, 1) := by decide +kernel
theorem dX8_checksum_1 : decode cX8_checksum 1 = .ok (.iconst 0, 1) := by decide +kernel
theorem dX8_checksum_2 : decode cX8_checksum 2 = .ok (.putfield 116, 3) := by decide +kernel
theorem dX8_checksum_5 : decode cX8_checksum 5 = .ok (.ldc2_w 305, 3) := by decide +kernel
theorem dX8_checksum_8 : decode cX8_checksum 8 = .ok (.lstore_n 1, 1) := by decide +kernel
theorem dX8_checksum_9 : decode cX8_checksum 9 = .ok (.iconst 0, 1) := by decide +kernel
theorem dX8_checksum_10 : decode cX8_checksum 10 = .ok (.istore_n 3, 1) := by decide +kernel
theorem dX8_checksum_11 : decode cX8_checksum 11 = .ok (.iload_n 3, 1) := by decide +kernel
theorem dX8_checksum_12 : decode cX8_checksum 12 = .ok (.aload_n 0, 1) := by decide +kernel
theorem dX8_checksum_13 : decode cX8_checksum 13 = .ok (.getfield 120, 3) := by decide +kernel
theorem dX8_checksum_16 : decode cX8_checksum 16 = .ok (.if_icmp .ge 35, 3) := by decide +kernel
theorem dX8_checksum_19 : decode cX8_checksum 19 = .ok (.ldc2_w 307, 3) := by decide +kernel
theorem dX8_checksum_22 : decode cX8_checksum 22 = .ok (.lload_n 1, 1) := by decide +kernel
theorem dX8_checksum_23 : decode cX8_checksum 23 = .ok (.lmul, 1) := by decide +kernel
theorem dX8_checksum_24 : decode cX8_checksum 24 = .ok (.aload_n 0, 1) := by decide +kernel
theorem dX8_checksum_25 : decode cX8_checksum 25 = .ok (.getfield 9, 3) := by decide +kernel
theorem dX8_checksum_28 : decode cX8_checksum 28 = .ok (.iload_n 3, 1) := by decide +kernel
theorem dX8_checksum_29 : decode cX8_checksum 29 = .ok (.laload, 1) := by decide +kernel
theorem dX8_checksum_30 : decode cX8_checksum 30 = .ok (.ladd, 1) := by decide +kernel
theorem dX8_checksum_31 : decode cX8_checksum 31 = .ok (.lstore_n 1, 1) := by decide +kernel
theorem dX8_checksum_32 : decode cX8_checksum 32 = .ok (.ldc2_w 307, 3) := by decide +kernel
theorem dX8_checksum_35 : decode cX8_checksum 35 = .ok (.lload_n 1, 1) := by decide +kernel
theorem dX8_checksum_36 : decode cX8_checksum 36 = .ok (.lmul, 1) := by decide +kernel
theorem dX8_checksum_37 : decode cX8_checksum 37 = .ok (.aload_n 0, 1) := by decide +kernel
theorem dX8_checksum_38 : decode cX8_checksum 38 = .ok (.getfield 13, 3) := by decide +kernel
theorem dX8_checksum_41 : decode cX8_checksum 41 = .ok (.iload_n 3, 1) := by decide +kernel
theorem dX8_checksum_42 : decode cX8_checksum 42 = .ok (.laload, 1) := by decide +kernel
theorem dX8_checksum_43 : decode cX8_checksum 43 = .ok (.ladd, 1) := by decide +kernel
theorem dX8_checksum_44 : decode cX8_checksum 44 = .ok (.lstore_n 1, 1) := by decide +kernel
theorem dX8_checksum_45 : decode cX8_checksum 45 = .ok (.iinc 3 1, 3) := by decide +kernel
theorem dX8_checksum_48 : decode cX8_checksum 48 = .ok (.goto (-37), 3) := by decide +kernel
theorem dX8_checksum_51 : decode cX8_checksum 51 = .ok (.iconst 0, 1) := by decide +kernel
theorem dX8_checksum_52 : decode cX8_checksum 52 = .ok (.istore_n 3, 1) := by decide +kernel
theorem dX8_checksum_53 : decode cX8_checksum 53 = .ok (.iload_n 3, 1) := by decide +kernel
theorem dX8_checksum_54 : decode cX8_checksum 54 = .ok (.aload_n 0, 1) := by decide +kernel
theorem dX8_checksum_55 : decode cX8_checksum 55 = .ok (.getfield 223, 3) := by decide +kernel
theorem dX8_checksum_58 : decode cX8_checksum 58 = .ok (.if_icmp .ge 55, 3) := by decide +kernel
theorem dX8_checksum_61 : decode cX8_checksum 61 = .ok (.aload_n 0, 1) := by decide +kernel
theorem dX8_checksum_62 : decode cX8_checksum 62 = .ok (.getfield 109, 3) := by decide +kernel
theorem dX8_checksum_65 : decode cX8_checksum 65 = .ok (.iload_n 3, 1) := by decide +kernel
theorem dX8_checksum_66 : decode cX8_checksum 66 = .ok (.aaload, 1) := by decide +kernel
theorem dX8_checksum_67 : decode cX8_checksum 67 = .ok (.astore 4, 2) := by decide +kernel
theorem dX8_checksum_69 : decode cX8_checksum 69 = .ok (.aload 4, 2) := by decide +kernel
theorem dX8_checksum_71 : decode cX8_checksum 71 = .ok (.arraylength, 1) := by decide +kernel
theorem dX8_checksum_72 : decode cX8_checksum 72 = .ok (.istore 5, 2) := by decide +kernel
theorem dX8_checksum_74 : decode cX8_checksum 74 = .ok (.iconst 0, 1) := by decide +kernel
theorem dX8_checksum_75 : decode cX8_checksum 75 = .ok (.istore 6, 2) := by decide +kernel
theorem dX8_checksum_77 : decode cX8_checksum 77 = .ok (.iload 6, 2) := by decide +kernel
theorem dX8_checksum_79 : decode cX8_checksum 79 = .ok (.iload 5, 2) := by decide +kernel
theorem dX8_checksum_81 : decode cX8_checksum 81 = .ok (.if_icmp .ge 26, 3) := by decide +kernel
theorem dX8_checksum_84 : decode cX8_checksum 84 = .ok (.aload 4, 2) := by decide +kernel
theorem dX8_checksum_86 : decode cX8_checksum 86 = .ok (.iload 6, 2) := by decide +kernel
theorem dX8_checksum_88 : decode cX8_checksum 88 = .ok (.iaload, 1) := by decide +kernel
theorem dX8_checksum_89 : decode cX8_checksum 89 = .ok (.istore 7, 2) := by decide +kernel
theorem dX8_checksum_91 : decode cX8_checksum 91 = .ok (.ldc2_w 307, 3) := by decide +kernel
theorem dX8_checksum_94 : decode cX8_checksum 94 = .ok (.lload_n 1, 1) := by decide +kernel
theorem dX8_checksum_95 : decode cX8_checksum 95 = .ok (.lmul, 1) := by decide +kernel
theorem dX8_checksum_96 : decode cX8_checksum 96 = .ok (.iload 7, 2) := by decide +kernel
theorem dX8_checksum_98 : decode cX8_checksum 98 = .ok (.i2l, 1) := by decide +kernel
theorem dX8_checksum_99 : decode cX8_checksum 99 = .ok (.ladd, 1) := by decide +kernel
theorem dX8_checksum_100 : decode cX8_checksum 100 = .ok (.lstore_n 1, 1) := by decide +kernel
theorem dX8_checksum_101 : decode cX8_checksum 101 = .ok (.iinc 6 1, 3) := by decide +kernel
theorem dX8_checksum_104 : decode cX8_checksum 104 = .ok (.goto (-27), 3) := by decide +kernel
theorem dX8_checksum_107 : decode cX8_checksum 107 = .ok (.iinc 3 1, 3) := by decide +kernel
theorem dX8_checksum_110 : decode cX8_checksum 110 = .ok (.goto (-57), 3) := by decide +kernel
theorem dX8_checksum_113 : decode cX8_checksum 113 = .ok (.lload_n 1, 1) := by decide +kernel
theorem dX8_checksum_114 : decode cX8_checksum 114 = .ok (.lreturn, 1) := by decide +kernel
theorem dX8_drivenShare_0 : decode cX8_drivenShare 0 = .ok (.aload_n 0, 1) := by decide +kernel
theorem dX8_drivenShare_1 : decode cX8_drivenShare 1 = .ok (.aload_n 0, 1) := by decide +kernel
theorem dX8_drivenShare_2 : decode cX8_drivenShare 2 = .ok (.getfield 120, 3) := by decide +kernel
theorem dX8_drivenShare_5 : decode cX8_drivenShare 5 = .ok (.ifCond .ne 7, 3) := by decide +kernel
theorem dX8_drivenShare_8 : decode cX8_drivenShare 8 = .ok (.iconst 1, 1) := by decide +kernel
theorem dX8_drivenShare_9 : decode cX8_drivenShare 9 = .ok (.goto 4, 3) := by decide +kernel
theorem dX8_drivenShare_12 : decode cX8_drivenShare 12 = .ok (.iconst 0, 1) := by decide +kernel
theorem dX8_drivenShare_13 : decode cX8_drivenShare 13 = .ok (.iconst 1, 1) := by decide +kernel
theorem dX8_drivenShare_14 : decode cX8_drivenShare 14 = .ok (.invokevirtual 150, 3) := by decide +kernel
theorem dX8_drivenShare_17 : decode cX8_drivenShare 17 = .ok (.ifCond .eq 7, 3) := by decide +kernel
theorem dX8_drivenShare_20 : decode cX8_drivenShare 20 = .ok (.fconst 0, 1) := by decide +kernel
theorem dX8_drivenShare_21 : decode cX8_drivenShare 21 = .ok (.goto 19, 3) := by decide +kernel
theorem dX8_drivenShare_24 : decode cX8_drivenShare 24 = .ok (.aload_n 0, 1) := by decide +kernel
theorem dX8_drivenShare_25 : decode cX8_drivenShare 25 = .ok (.getfield 120, 3) := by decide +kernel
theorem dX8_drivenShare_28 : decode cX8_drivenShare 28 = .ok (.aload_n 0, 1) := by decide +kernel
theorem dX8_drivenShare_29 : decode cX8_drivenShare 29 = .ok (.invokevirtual 309, 3) := by decide +kernel
theorem dX8_drivenShare_32 : decode cX8_drivenShare 32 = .ok (.isub, 1) := by decide +kernel
theorem dX8_drivenShare_33 : decode cX8_drivenShare 33 = .ok (.i2f, 1) := by decide +kernel
theorem dX8_drivenShare_34 : decode cX8_drivenShare 34 = .ok (.aload_n 0, 1) := by decide +kernel
theorem dX8_drivenShare_35 : decode cX8_drivenShare 35 = .ok (.getfield 120, 3) := by decide +kernel
theorem dX8_drivenShare_38 : decode cX8_drivenShare 38 = .ok (.i2f, 1) := by decide +kernel
theorem dX8_drivenShare_39 : decode cX8_drivenShare 39 = .ok (.fdiv, 1) := by decide +kernel
theorem dX8_drivenShare_40 : decode cX8_drivenShare 40 = .ok (.freturn, 1) := by decide +kernel
theorem dX8_freedomNow_0 : decode cX8_freedomNow 0 = .ok (.iconst 0, 1) := by decide +kernel
theorem dX8_freedomNow_1 : decode cX8_freedomNow 1 = .ok (.istore_n 1, 1) := by decide +kernel
theorem dX8_freedomNow_2 : decode cX8_freedomNow 2 = .ok (.iconst 0, 1) := by decide +kernel
theorem dX8_freedomNow_3 : decode cX8_freedomNow 3 = .ok (.istore_n 2, 1) := by decide +kernel
theorem dX8_freedomNow_4 : decode cX8_freedomNow 4 = .ok (.iload_n 2, 1) := by decide +kernel
theorem dX8_freedomNow_5 : decode cX8_freedomNow 5 = .ok (.aload_n 0, 1) := by decide +kernel
theorem dX8_freedomNow_6 : decode cX8_freedomNow 6 = .ok (.getfield 120, 3) := by decide +kernel
theorem dX8_freedomNow_9 : decode cX8_freedomNow 9 = .ok (.if_icmp .ge 27, 3) := by decide +kernel
theorem dX8_freedomNow_12 : decode cX8_freedomNow 12 = .ok (.iload_n 1, 1) := by decide +kernel
theorem dX8_freedomNow_13 : decode cX8_freedomNow 13 = .ok (.aload_n 0, 1) := by decide +kernel
theorem dX8_freedomNow_14 : decode cX8_freedomNow 14 = .ok (.getfield 32, 3) := by decide +kernel
theorem dX8_freedomNow_17 : decode cX8_freedomNow 17 = .ok (.iload_n 2, 1) := by decide +kernel
theorem dX8_freedomNow_18 : decode cX8_freedomNow 18 = .ok (.iaload, 1) := by decide +kernel
theorem dX8_freedomNow_19 : decode cX8_freedomNow 19 = .ok (.iconst (-1), 1) := by decide +kernel
theorem dX8_freedomNow_20 : decode cX8_freedomNow 20 = .ok (.if_icmp .ne 7, 3) := by decide +kernel
theorem dX8_freedomNow_23 : decode cX8_freedomNow 23 = .ok (.iconst 1, 1) := by decide +kernel
theorem dX8_freedomNow_24 : decode cX8_freedomNow 24 = .ok (.goto 4, 3) := by decide +kernel
theorem dX8_freedomNow_27 : decode cX8_freedomNow 27 = .ok (.iconst 0, 1) := by decide +kernel
theorem dX8_freedomNow_28 : decode cX8_freedomNow 28 = .ok (.iadd, 1) := by decide +kernel
theorem dX8_freedomNow_29 : decode cX8_freedomNow 29 = .ok (.istore_n 1, 1) := by decide +kernel
theorem dX8_freedomNow_30 : decode cX8_freedomNow 30 = .ok (.iinc 2 1, 3) := by decide +kernel
theorem dX8_freedomNow_33 : decode cX8_freedomNow 33 = .ok (.goto (-29), 3) := by decide +kernel
theorem dX8_freedomNow_36 : decode cX8_freedomNow 36 = .ok (.iload_n 1, 1) := by decide +kernel
theorem dX8_freedomNow_37 : decode cX8_freedomNow 37 = .ok (.ireturn, 1) := by decide +kernel
theorem dX8_meanWorn_0 : decode cX8_meanWorn 0 = .ok (.aload_n 0, 1) := by decide +kernel
theorem dX8_meanWorn_1 : decode cX8_meanWorn 1 = .ok (.aload_n 0, 1) := by decide +kernel
theorem dX8_meanWorn_2 : decode cX8_meanWorn 2 = .ok (.getfield 127, 3) := by decide +kernel
theorem dX8_meanWorn_5 : decode cX8_meanWorn 5 = .ok (.ifCond .ne 7, 3) := by decide +kernel
theorem dX8_meanWorn_8 : decode cX8_meanWorn 8 = .ok (.iconst 1, 1) := by decide +kernel
theorem dX8_meanWorn_9 : decode cX8_meanWorn 9 = .ok (.goto 4, 3) := by decide +kernel
theorem dX8_meanWorn_12 : decode cX8_meanWorn 12 = .ok (.iconst 0, 1) := by decide +kernel
theorem dX8_meanWorn_13 : decode cX8_meanWorn 13 = .ok (.iconst 1, 1) := by decide +kernel
theorem dX8_meanWorn_14 : decode cX8_meanWorn 14 = .ok (.invokevirtual 150, 3) := by decide +kernel
theorem dX8_meanWorn_17 : decode cX8_meanWorn 17 = .ok (.ifCond .eq 5, 3) := by decide +kernel
theorem dX8_meanWorn_20 : decode cX8_meanWorn 20 = .ok (.dconst 0, 1) := by decide +kernel
theorem dX8_meanWorn_21 : decode cX8_meanWorn 21 = .ok (.dreturn, 1) := by decide +kernel
theorem dX8_meanWorn_22 : decode cX8_meanWorn 22 = .ok (.dconst 0, 1) := by decide +kernel
theorem dX8_meanWorn_23 : decode cX8_meanWorn 23 = .ok (.dstore_n 1, 1) := by decide +kernel
theorem dX8_meanWorn_24 : decode cX8_meanWorn 24 = .ok (.iconst 0, 1) := by decide +kernel
theorem dX8_meanWorn_25 : decode cX8_meanWorn 25 = .ok (.istore_n 3, 1) := by decide +kernel
theorem dX8_meanWorn_26 : decode cX8_meanWorn 26 = .ok (.iload_n 3, 1) := by decide +kernel
theorem dX8_meanWorn_27 : decode cX8_meanWorn 27 = .ok (.aload_n 0, 1) := by decide +kernel
theorem dX8_meanWorn_28 : decode cX8_meanWorn 28 = .ok (.getfield 127, 3) := by decide +kernel
theorem dX8_meanWorn_31 : decode cX8_meanWorn 31 = .ok (.if_icmp .ge 27, 3) := by decide +kernel
theorem dX8_meanWorn_34 : decode cX8_meanWorn 34 = .ok (.dload_n 1, 1) := by decide +kernel
theorem dX8_meanWorn_35 : decode cX8_meanWorn 35 = .ok (.aload_n 0, 1) := by decide +kernel
theorem dX8_meanWorn_36 : decode cX8_meanWorn 36 = .ok (.getfield 70, 3) := by decide +kernel
theorem dX8_meanWorn_39 : decode cX8_meanWorn 39 = .ok (.iload_n 3, 1) := by decide +kernel
theorem dX8_meanWorn_40 : decode cX8_meanWorn 40 = .ok (.laload, 1) := by decide +kernel
theorem dX8_meanWorn_41 : decode cX8_meanWorn 41 = .ok (.l2d, 1) := by decide +kernel
theorem dX8_meanWorn_42 : decode cX8_meanWorn 42 = .ok (.aload_n 0, 1) := by decide +kernel
theorem dX8_meanWorn_43 : decode cX8_meanWorn 43 = .ok (.getfield 73, 3) := by decide +kernel
theorem dX8_meanWorn_46 : decode cX8_meanWorn 46 = .ok (.iload_n 3, 1) := by decide +kernel
theorem dX8_meanWorn_47 : decode cX8_meanWorn 47 = .ok (.laload, 1) := by decide +kernel
theorem dX8_meanWorn_48 : decode cX8_meanWorn 48 = .ok (.l2d, 1) := by decide +kernel
theorem dX8_meanWorn_49 : decode cX8_meanWorn 49 = .ok (.ddiv, 1) := by decide +kernel
theorem dX8_meanWorn_50 : decode cX8_meanWorn 50 = .ok (.dadd, 1) := by decide +kernel
theorem dX8_meanWorn_51 : decode cX8_meanWorn 51 = .ok (.dstore_n 1, 1) := by decide +kernel
theorem dX8_meanWorn_52 : decode cX8_meanWorn 52 = .ok (.iinc 3 1, 3) := by decide +kernel
theorem dX8_meanWorn_55 : decode cX8_meanWorn 55 = .ok (.goto (-29), 3) := by decide +kernel
theorem dX8_meanWorn_58 : decode cX8_meanWorn 58 = .ok (.dload_n 1, 1) := by decide +kernel
theorem dX8_meanWorn_59 : decode cX8_meanWorn 59 = .ok (.aload_n 0, 1) := by decide +kernel
theorem dX8_meanWorn_60 : decode cX8_meanWorn 60 = .ok (.getfield 127, 3) := by decide +kernel
theorem dX8_meanWorn_63 : decode cX8_meanWorn 63 = .ok (.i2d, 1) := by decide +kernel
theorem dX8_meanWorn_64 : decode cX8_meanWorn 64 = .ok (.ddiv, 1) := by decide +kernel
theorem dX8_meanWorn_65 : decode cX8_meanWorn 65 = .ok (.dreturn, 1) := by decide +kernel
theorem dX8_isSound_0 : decode cX8_isSound 0 = .ok (.aload_n 0, 1) := by decide +kernel
theorem dX8_isSound_1 : decode cX8_isSound 1 = .ok (.iconst 0, 1) := by decide +kernel
theorem dX8_isSound_2 : decode cX8_isSound 2 = .ok (.putfield 116, 3) := by decide +kernel
theorem dX8_isSound_5 : decode cX8_isSound 5 = .ok (.iconst 1, 1) := by decide +kernel
theorem dX8_isSound_6 : decode cX8_isSound 6 = .ok (.ireturn, 1) := by decide +kernel
