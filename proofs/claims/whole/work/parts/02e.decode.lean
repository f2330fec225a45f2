theorem dX8_init_0 : decode cX8_init 0 = .ok (.aload_n 0, 1) := by decide +kernel
theorem dX8_init_1 : decode cX8_init 1 = .ok (.invokespecial 1, 3) := by decide +kernel
theorem dX8_init_4 : decode cX8_init 4 = .ok (.aload_n 0, 1) := by decide +kernel
theorem dX8_init_5 : decode cX8_init 5 = .ok (.bipush 14, 2) := by decide +kernel
theorem dX8_init_7 : decode cX8_init 7 = .ok (.newarray .long, 2) := by decide +kernel
theorem dX8_init_9 : decode cX8_init 9 = .ok (.putfield 9, 3) := by decide +kernel
theorem dX8_init_12 : decode cX8_init 12 = .ok (.aload_n 0, 1) := by decide +kernel
theorem dX8_init_13 : decode cX8_init 13 = .ok (.bipush 14, 2) := by decide +kernel
theorem dX8_init_15 : decode cX8_init 15 = .ok (.newarray .long, 2) := by decide +kernel
theorem dX8_init_17 : decode cX8_init 17 = .ok (.putfield 13, 3) := by decide +kernel
theorem dX8_init_20 : decode cX8_init 20 = .ok (.aload_n 0, 1) := by decide +kernel
theorem dX8_init_21 : decode cX8_init 21 = .ok (.bipush 14, 2) := by decide +kernel
theorem dX8_init_23 : decode cX8_init 23 = .ok (.newarray .long, 2) := by decide +kernel
theorem dX8_init_25 : decode cX8_init 25 = .ok (.putfield 16, 3) := by decide +kernel
theorem dX8_init_28 : decode cX8_init 28 = .ok (.aload_n 0, 1) := by decide +kernel
theorem dX8_init_29 : decode cX8_init 29 = .ok (.bipush 14, 2) := by decide +kernel
theorem dX8_init_31 : decode cX8_init 31 = .ok (.newarray .long, 2) := by decide +kernel
theorem dX8_init_33 : decode cX8_init 33 = .ok (.putfield 19, 3) := by decide +kernel
theorem dX8_init_36 : decode cX8_init 36 = .ok (.aload_n 0, 1) := by decide +kernel
theorem dX8_init_37 : decode cX8_init 37 = .ok (.bipush 14, 2) := by decide +kernel
theorem dX8_init_39 : decode cX8_init 39 = .ok (.newarray .long, 2) := by decide +kernel
theorem dX8_init_41 : decode cX8_init 41 = .ok (.putfield 22, 3) := by decide +kernel
theorem dX8_init_44 : decode cX8_init 44 = .ok (.aload_n 0, 1) := by decide +kernel
theorem dX8_init_45 : decode cX8_init 45 = .ok (.bipush 14, 2) := by decide +kernel
theorem dX8_init_47 : decode cX8_init 47 = .ok (.newarray .long, 2) := by decide +kernel
theorem dX8_init_49 : decode cX8_init 49 = .ok (.putfield 25, 3) := by decide +kernel
theorem dX8_init_52 : decode cX8_init 52 = .ok (.aload_n 0, 1) := by decide +kernel
theorem dX8_init_53 : decode cX8_init 53 = .ok (.bipush 14, 2) := by decide +kernel
theorem dX8_init_55 : decode cX8_init 55 = .ok (.newarray .boolean, 2) := by decide +kernel
theorem dX8_init_57 : decode cX8_init 57 = .ok (.putfield 28, 3) := by decide +kernel
theorem dX8_init_60 : decode cX8_init 60 = .ok (.aload_n 0, 1) := by decide +kernel
theorem dX8_init_61 : decode cX8_init 61 = .ok (.bipush 14, 2) := by decide +kernel
theorem dX8_init_63 : decode cX8_init 63 = .ok (.newarray .int, 2) := by decide +kernel
theorem dX8_init_65 : decode cX8_init 65 = .ok (.putfield 32, 3) := by decide +kernel
theorem dX8_init_68 : decode cX8_init 68 = .ok (.aload_n 0, 1) := by decide +kernel
theorem dX8_init_69 : decode cX8_init 69 = .ok (.bipush 14, 2) := by decide +kernel
theorem dX8_init_71 : decode cX8_init 71 = .ok (.newarray .int, 2) := by decide +kernel
theorem dX8_init_73 : decode cX8_init 73 = .ok (.putfield 36, 3) := by decide +kernel
theorem dX8_init_76 : decode cX8_init 76 = .ok (.aload_n 0, 1) := by decide +kernel
theorem dX8_init_77 : decode cX8_init 77 = .ok (.bipush 16, 2) := by decide +kernel
theorem dX8_init_79 : decode cX8_init 79 = .ok (.newarray .char, 2) := by decide +kernel
theorem dX8_init_81 : decode cX8_init 81 = .ok (.putfield 39, 3) := by decide +kernel
theorem dX8_init_84 : decode cX8_init 84 = .ok (.aload_n 0, 1) := by decide +kernel
theorem dX8_init_85 : decode cX8_init 85 = .ok (.bipush 16, 2) := by decide +kernel
theorem dX8_init_87 : decode cX8_init 87 = .ok (.newarray .int, 2) := by decide +kernel
theorem dX8_init_89 : decode cX8_init 89 = .ok (.putfield 43, 3) := by decide +kernel
theorem dX8_init_92 : decode cX8_init 92 = .ok (.aload_n 0, 1) := by decide +kernel
theorem dX8_init_93 : decode cX8_init 93 = .ok (.bipush 16, 2) := by decide +kernel
theorem dX8_init_95 : decode cX8_init 95 = .ok (.newarray .int, 2) := by decide +kernel
theorem dX8_init_97 : decode cX8_init 97 = .ok (.putfield 46, 3) := by decide +kernel
theorem dX8_init_100 : decode cX8_init 100 = .ok (.aload_n 0, 1) := by decide +kernel
theorem dX8_init_101 : decode cX8_init 101 = .ok (.bipush 16, 2) := by decide +kernel
theorem dX8_init_103 : decode cX8_init 103 = .ok (.newarray .int, 2) := by decide +kernel
theorem dX8_init_105 : decode cX8_init 105 = .ok (.putfield 49, 3) := by decide +kernel
theorem dX8_init_108 : decode cX8_init 108 = .ok (.aload_n 0, 1) := by decide +kernel
theorem dX8_init_109 : decode cX8_init 109 = .ok (.bipush 16, 2) := by decide +kernel
theorem dX8_init_111 : decode cX8_init 111 = .ok (.newarray .int, 2) := by decide +kernel
theorem dX8_init_113 : decode cX8_init 113 = .ok (.putfield 52, 3) := by decide +kernel
theorem dX8_init_116 : decode cX8_init 116 = .ok (.aload_n 0, 1) := by decide +kernel
theorem dX8_init_117 : decode cX8_init 117 = .ok (.bipush 16, 2) := by decide +kernel
theorem dX8_init_119 : decode cX8_init 119 = .ok (.newarray .int, 2) := by decide +kernel
theorem dX8_init_121 : decode cX8_init 121 = .ok (.putfield 55, 3) := by decide +kernel
theorem dX8_init_124 : decode cX8_init 124 = .ok (.aload_n 0, 1) := by decide +kernel
theorem dX8_init_125 : decode cX8_init 125 = .ok (.bipush 16, 2) := by decide +kernel
theorem dX8_init_127 : decode cX8_init 127 = .ok (.newarray .boolean, 2) := by decide +kernel
theorem dX8_init_129 : decode cX8_init 129 = .ok (.putfield 58, 3) := by decide +kernel
theorem dX8_init_132 : decode cX8_init 132 = .ok (.aload_n 0, 1) := by decide +kernel
theorem dX8_init_133 : decode cX8_init 133 = .ok (.bipush 16, 2) := by decide +kernel
theorem dX8_init_135 : decode cX8_init 135 = .ok (.newarray .boolean, 2) := by decide +kernel
theorem dX8_init_137 : decode cX8_init 137 = .ok (.putfield 61, 3) := by decide +kernel
theorem dX8_init_140 : decode cX8_init 140 = .ok (.aload_n 0, 1) := by decide +kernel
theorem dX8_init_141 : decode cX8_init 141 = .ok (.bipush 16, 2) := by decide +kernel
theorem dX8_init_143 : decode cX8_init 143 = .ok (.newarray .int, 2) := by decide +kernel
theorem dX8_init_145 : decode cX8_init 145 = .ok (.putfield 64, 3) := by decide +kernel
theorem dX8_init_148 : decode cX8_init 148 = .ok (.aload_n 0, 1) := by decide +kernel
theorem dX8_init_149 : decode cX8_init 149 = .ok (.bipush 16, 2) := by decide +kernel
theorem dX8_init_151 : decode cX8_init 151 = .ok (.newarray .int, 2) := by decide +kernel
theorem dX8_init_153 : decode cX8_init 153 = .ok (.putfield 67, 3) := by decide +kernel
theorem dX8_init_156 : decode cX8_init 156 = .ok (.aload_n 0, 1) := by decide +kernel
theorem dX8_init_157 : decode cX8_init 157 = .ok (.bipush 16, 2) := by decide +kernel
theorem dX8_init_159 : decode cX8_init 159 = .ok (.newarray .long, 2) := by decide +kernel
theorem dX8_init_161 : decode cX8_init 161 = .ok (.putfield 70, 3) := by decide +kernel
theorem dX8_init_164 : decode cX8_init 164 = .ok (.aload_n 0, 1) := by decide +kernel
theorem dX8_init_165 : decode cX8_init 165 = .ok (.bipush 16, 2) := by decide +kernel
theorem dX8_init_167 : decode cX8_init 167 = .ok (.newarray .long, 2) := by decide +kernel
theorem dX8_init_169 : decode cX8_init 169 = .ok (.putfield 73, 3) := by decide +kernel
theorem dX8_init_172 : decode cX8_init 172 = .ok (.aload_n 0, 1) := by decide +kernel
theorem dX8_init_173 : decode cX8_init 173 = .ok (.bipush 16, 2) := by decide +kernel
theorem dX8_init_175 : decode cX8_init 175 = .ok (.newarray .long, 2) := by decide +kernel
theorem dX8_init_177 : decode cX8_init 177 = .ok (.putfield 76, 3) := by decide +kernel
theorem dX8_init_180 : decode cX8_init 180 = .ok (.aload_n 0, 1) := by decide +kernel
theorem dX8_init_181 : decode cX8_init 181 = .ok (.bipush 8, 2) := by decide +kernel
theorem dX8_init_183 : decode cX8_init 183 = .ok (.newarray .int, 2) := by decide +kernel
theorem dX8_init_185 : decode cX8_init 185 = .ok (.putfield 79, 3) := by decide +kernel
theorem dX8_init_188 : decode cX8_init 188 = .ok (.aload_n 0, 1) := by decide +kernel
theorem dX8_init_189 : decode cX8_init 189 = .ok (.bipush 8, 2) := by decide +kernel
theorem dX8_init_191 : decode cX8_init 191 = .ok (.newarray .int, 2) := by decide +kernel
theorem dX8_init_193 : decode cX8_init 193 = .ok (.putfield 82, 3) := by decide +kernel
theorem dX8_init_196 : decode cX8_init 196 = .ok (.aload_n 0, 1) := by decide +kernel
theorem dX8_init_197 : decode cX8_init 197 = .ok (.bipush 8, 2) := by decide +kernel
theorem dX8_init_199 : decode cX8_init 199 = .ok (.bipush 24, 2) := by decide +kernel
theorem dX8_init_201 : decode cX8_init 201 = .ok (.multianewarray 85 2, 4) := by decide +kernel
theorem dX8_init_205 : decode cX8_init 205 = .ok (.putfield 87, 3) := by decide +kernel
theorem dX8_init_208 : decode cX8_init 208 = .ok (.aload_n 0, 1) := by decide +kernel
theorem dX8_init_209 : decode cX8_init 209 = .ok (.bipush 8, 2) := by decide +kernel
theorem dX8_init_211 : decode cX8_init 211 = .ok (.bipush 24, 2) := by decide +kernel
theorem dX8_init_213 : decode cX8_init 213 = .ok (.multianewarray 85 2, 4) := by decide +kernel
theorem dX8_init_217 : decode cX8_init 217 = .ok (.putfield 90, 3) := by decide +kernel
theorem dX8_init_220 : decode cX8_init 220 = .ok (.aload_n 0, 1) := by decide +kernel
theorem dX8_init_221 : decode cX8_init 221 = .ok (.bipush 8, 2) := by decide +kernel
theorem dX8_init_223 : decode cX8_init 223 = .ok (.bipush 24, 2) := by decide +kernel
theorem dX8_init_225 : decode cX8_init 225 = .ok (.multianewarray 93 2, 4) := by decide +kernel
theorem dX8_init_229 : decode cX8_init 229 = .ok (.putfield 95, 3) := by decide +kernel
theorem dX8_init_232 : decode cX8_init 232 = .ok (.aload_n 0, 1) := by decide +kernel
theorem dX8_init_233 : decode cX8_init 233 = .ok (.bipush 8, 2) := by decide +kernel
theorem dX8_init_235 : decode cX8_init 235 = .ok (.bipush 24, 2) := by decide +kernel
theorem dX8_init_237 : decode cX8_init 237 = .ok (.multianewarray 85 2, 4) := by decide +kernel
theorem dX8_init_241 : decode cX8_init 241 = .ok (.putfield 98, 3) := by decide +kernel
theorem dX8_init_244 : decode cX8_init 244 = .ok (.aload_n 0, 1) := by decide +kernel
theorem dX8_init_245 : decode cX8_init 245 = .ok (.iconst 4, 1) := by decide +kernel
theorem dX8_init_246 : decode cX8_init 246 = .ok (.newarray .int, 2) := by decide +kernel
theorem dX8_init_248 : decode cX8_init 248 = .ok (.putfield 101, 3) := by decide +kernel
theorem dX8_init_251 : decode cX8_init 251 = .ok (.aload_n 0, 1) := by decide +kernel
theorem dX8_init_252 : decode cX8_init 252 = .ok (.iconst 4, 1) := by decide +kernel
theorem dX8_init_253 : decode cX8_init 253 = .ok (.bipush 24, 2) := by decide +kernel
theorem dX8_init_255 : decode cX8_init 255 = .ok (.bipush 8, 2) := by decide +kernel
theorem dX8_init_257 : decode cX8_init 257 = .ok (.multianewarray 104 3, 4) := by decide +kernel
theorem dX8_init_261 : decode cX8_init 261 = .ok (.putfield 106, 3) := by decide +kernel
theorem dX8_init_264 : decode cX8_init 264 = .ok (.aload_n 0, 1) := by decide +kernel
theorem dX8_init_265 : decode cX8_init 265 = .ok (.iconst 4, 1) := by decide +kernel
theorem dX8_init_266 : decode cX8_init 266 = .ok (.bipush 8, 2) := by decide +kernel
theorem dX8_init_268 : decode cX8_init 268 = .ok (.multianewarray 85 2, 4) := by decide +kernel
theorem dX8_init_272 : decode cX8_init 272 = .ok (.putfield 109, 3) := by decide +kernel
theorem dX8_init_275 : decode cX8_init 275 = .ok (.aload_n 0, 1) := by decide +kernel
theorem dX8_init_276 : decode cX8_init 276 = .ok (.lconst 1, 1) := by decide +kernel
theorem dX8_init_277 : decode cX8_init 277 = .ok (.putfield 112, 3) := by decide +kernel
theorem dX8_init_280 : decode cX8_init 280 = .ok (.return_, 1) := by decide +kernel
theorem dX8_thrown_0 : decode cX8_thrown 0 = .ok (.aload_n 0, 1) := by decide +kernel
theorem dX8_thrown_1 : decode cX8_thrown 1 = .ok (.getfield 116, 3) := by decide +kernel
theorem dX8_thrown_4 : decode cX8_thrown 4 = .ok (.ireturn, 1) := by decide +kernel
theorem dX8_isThrown_0 : decode cX8_isThrown 0 = .ok (.aload_n 0, 1) := by decide +kernel
theorem dX8_isThrown_1 : decode cX8_isThrown 1 = .ok (.iload_n 1, 1) := by decide +kernel
theorem dX8_isThrown_2 : decode cX8_isThrown 2 = .ok (.ifCond .eq 7, 3) := by decide +kernel
theorem dX8_isThrown_5 : decode cX8_isThrown 5 = .ok (.iload_n 2, 1) := by decide +kernel
theorem dX8_isThrown_6 : decode cX8_isThrown 6 = .ok (.goto 4, 3) := by decide +kernel
theorem dX8_isThrown_9 : decode cX8_isThrown 9 = .ok (.iconst 0, 1) := by decide +kernel
theorem dX8_isThrown_10 : decode cX8_isThrown 10 = .ok (.putfield 116, 3) := by decide +kernel
theorem dX8_isThrown_13 : decode cX8_isThrown 13 = .ok (.iload_n 1, 1) := by decide +kernel
theorem dX8_isThrown_14 : decode cX8_isThrown 14 = .ok (.ireturn, 1) := by decide +kernel
theorem dX8_isIn_0 : decode cX8_isIn 0 = .ok (.iload_n 0, 1) := by decide +kernel
theorem dX8_isIn_1 : decode cX8_isIn 1 = .ok (.iload_n 1, 1) := by decide +kernel
theorem dX8_isIn_2 : decode cX8_isIn 2 = .ok (.if_icmp .lt 12, 3) := by decide +kernel
theorem dX8_isIn_5 : decode cX8_isIn 5 = .ok (.iload_n 0, 1) := by decide +kernel
theorem dX8_isIn_6 : decode cX8_isIn 6 = .ok (.iload_n 2, 1) := by decide +kernel
theorem dX8_isIn_7 : decode cX8_isIn 7 = .ok (.if_icmp .gt 7, 3) := by decide +kernel
theorem dX8_isIn_10 : decode cX8_isIn 10 = .ok (.iconst 1, 1) := by decide +kernel
theorem dX8_isIn_11 : decode cX8_isIn 11 = .ok (.goto 4, 3) := by decide +kernel
theorem dX8_isIn_14 : decode cX8_isIn 14 = .ok (.iconst 0, 1) := by decide +kernel
theorem dX8_isIn_15 : decode cX8_isIn 15 = .ok (.ireturn, 1) := by decide +kernel
theorem dX8_isNoShaft_0 : decode cX8_isNoShaft 0 = .ok (.iload_n 1, 1) := by decide +kernel
theorem dX8_isNoShaft_1 : decode cX8_isNoShaft 1 = .ok (.iconst 0, 1) := by decide +kernel
theorem dX8_isNoShaft_2 : decode cX8_isNoShaft 2 = .ok (.aload_n 0, 1) := by decide +kernel
theorem dX8_isNoShaft_3 : decode cX8_isNoShaft 3 = .ok (.getfield 120, 3) := by decide +kernel
theorem dX8_isNoShaft_6 : decode cX8_isNoShaft 6 = .ok (.iconst 1, 1) := by decide +kernel
theorem dX8_isNoShaft_7 : decode cX8_isNoShaft 7 = .ok (.isub, 1) := by decide +kernel
theorem dX8_isNoShaft_8 : decode cX8_isNoShaft 8 = .ok (.invokestatic 123, 3) := by decide +kernel
theorem dX8_isNoShaft_11 : decode cX8_isNoShaft 11 = .ok (.ifCond .ne 7, 3) := by decide +kernel
theorem dX8_isNoShaft_14 : decode cX8_isNoShaft 14 = .ok (.iconst 1, 1) := by decide +kernel
theorem dX8_isNoShaft_15 : decode cX8_isNoShaft 15 = .ok (.goto 4, 3) := by decide +kernel
theorem dX8_isNoShaft_18 : decode cX8_isNoShaft 18 = .ok (.iconst 0, 1) := by decide +kernel
theorem dX8_isNoShaft_19 : decode cX8_isNoShaft 19 = .ok (.ireturn, 1) := by decide +kernel
theorem dX8_isNoLink_0 : decode cX8_isNoLink 0 = .ok (.iload_n 1, 1) := by decide +kernel
theorem dX8_isNoLink_1 : decode cX8_isNoLink 1 = .ok (.iconst 0, 1) := by decide +kernel
theorem dX8_isNoLink_2 : decode cX8_isNoLink 2 = .ok (.aload_n 0, 1) := by decide +kernel
theorem dX8_isNoLink_3 : decode cX8_isNoLink 3 = .ok (.getfield 127, 3) := by decide +kernel
theorem dX8_isNoLink_6 : decode cX8_isNoLink 6 = .ok (.iconst 1, 1) := by decide +kernel
theorem dX8_isNoLink_7 : decode cX8_isNoLink 7 = .ok (.isub, 1) := by decide +kernel
theorem dX8_isNoLink_8 : decode cX8_isNoLink 8 = .ok (.invokestatic 123, 3) := by decide +kernel
theorem dX8_isNoLink_11 : decode cX8_isNoLink 11 = .ok (.ifCond .ne 7, 3) := by decide +kernel
theorem dX8_isNoLink_14 : decode cX8_isNoLink 14 = .ok (.iconst 1, 1) := by decide +kernel
theorem dX8_isNoLink_15 : decode cX8_isNoLink 15 = .ok (.goto 4, 3) := by decide +kernel
theorem dX8_isNoLink_18 : decode cX8_isNoLink 18 = .ok (.iconst 0, 1) := by decide +kernel
theorem dX8_isNoLink_19 : decode cX8_isNoLink 19 = .ok (.ireturn, 1) := by decide +kernel
theorem dX8_common_0 : decode cX8_common 0 = .ok (.lload_n 0, 1) := by decide +kernel
theorem dX8_common_1 : decode cX8_common 1 = .ok (.invokestatic 130, 3) := by decide +kernel
theorem dX8_common_4 : decode cX8_common 4 = .ok (.lstore 4, 2) := by decide +kernel
theorem dX8_common_6 : decode cX8_common 6 = .ok (.lload_n 2, 1) := by decide +kernel
theorem dX8_common_7 : decode cX8_common 7 = .ok (.invokestatic 130, 3) := by decide +kernel
theorem dX8_common_10 : decode cX8_common 10 = .ok (.lstore 6, 2) := by decide +kernel
theorem dX8_common_12 : decode cX8_common 12 = .ok (.lload 6, 2) := by decide +kernel
theorem dX8_common_14 : decode cX8_common 14 = .ok (.lconst 0, 1) := by decide +kernel
theorem dX8_common_15 : decode cX8_common 15 = .ok (.lcmp, 1) := by decide +kernel
theorem dX8_common_16 : decode cX8_common 16 = .ok (.ifCond .eq 21, 3) := by decide +kernel
theorem dX8_common_19 : decode cX8_common 19 = .ok (.lload 4, 2) := by decide +kernel
theorem dX8_common_21 : decode cX8_common 21 = .ok (.lload 6, 2) := by decide +kernel
theorem dX8_common_23 : decode cX8_common 23 = .ok (.lrem, 1) := by decide +kernel
theorem dX8_common_24 : decode cX8_common 24 = .ok (.lstore 8, 2) := by decide +kernel
theorem dX8_common_26 : decode cX8_common 26 = .ok (.lload 6, 2) := by decide +kernel
theorem dX8_common_28 : decode cX8_common 28 = .ok (.lstore 4, 2) := by decide +kernel
theorem dX8_common_30 : decode cX8_common 30 = .ok (.lload 8, 2) := by decide +kernel
theorem dX8_common_32 : decode cX8_common 32 = .ok (.lstore 6, 2) := by decide +kernel
theorem dX8_common_34 : decode cX8_common 34 = .ok (.goto (-22), 3) := by decide +kernel
theorem dX8_common_37 : decode cX8_common 37 = .ok (.lload 4, 2) := by decide +kernel
theorem dX8_common_39 : decode cX8_common 39 = .ok (.lreturn, 1) := by decide +kernel
theorem dX8_result_0 : decode cX8_result 0 = .ok (.lload_n 1, 1) := by decide +kernel
theorem dX8_result_1 : decode cX8_result 1 = .ok (.lload_n 3, 1) := by decide +kernel
theorem dX8_result_2 : decode cX8_result 2 = .ok (.invokestatic 136, 3) := by decide +kernel
theorem dX8_result_5 : decode cX8_result 5 = .ok (.lstore 5, 2) := by decide +kernel
theorem dX8_result_7 : decode cX8_result 7 = .ok (.aload_n 0, 1) := by decide +kernel
theorem dX8_result_8 : decode cX8_result 8 = .ok (.lload_n 1, 1) := by decide +kernel
theorem dX8_result_9 : decode cX8_result 9 = .ok (.lload 5, 2) := by decide +kernel
theorem dX8_result_11 : decode cX8_result 11 = .ok (.ldiv, 1) := by decide +kernel
theorem dX8_result_12 : decode cX8_result 12 = .ok (.putfield 140, 3) := by decide +kernel
theorem dX8_result_15 : decode cX8_result 15 = .ok (.aload_n 0, 1) := by decide +kernel
theorem dX8_result_16 : decode cX8_result 16 = .ok (.lload_n 3, 1) := by decide +kernel
theorem dX8_result_17 : decode cX8_result 17 = .ok (.lload 5, 2) := by decide +kernel
theorem dX8_result_19 : decode cX8_result 19 = .ok (.ldiv, 1) := by decide +kernel
theorem dX8_result_20 : decode cX8_result 20 = .ok (.putfield 112, 3) := by decide +kernel
theorem dX8_result_23 : decode cX8_result 23 = .ok (.aload_n 0, 1) := by decide +kernel
theorem dX8_result_24 : decode cX8_result 24 = .ok (.getfield 112, 3) := by decide +kernel
theorem dX8_result_27 : decode cX8_result 27 = .ok (.lconst 0, 1) := by decide +kernel
theorem dX8_result_28 : decode cX8_result 28 = .ok (.lcmp, 1) := by decide +kernel
theorem dX8_result_29 : decode cX8_result 29 = .ok (.ifCond .ge 21, 3) := by decide +kernel
theorem dX8_result_32 : decode cX8_result 32 = .ok (.aload_n 0, 1) := by decide +kernel
theorem dX8_result_33 : decode cX8_result 33 = .ok (.aload_n 0, 1) := by decide +kernel
theorem dX8_result_34 : decode cX8_result 34 = .ok (.getfield 140, 3) := by decide +kernel
theorem dX8_result_37 : decode cX8_result 37 = .ok (.lneg, 1) := by decide +kernel
theorem dX8_result_38 : decode cX8_result 38 = .ok (.putfield 140, 3) := by decide +kernel
theorem dX8_result_41 : decode cX8_result 41 = .ok (.aload_n 0, 1) := by decide +kernel
theorem dX8_result_42 : decode cX8_result 42 = .ok (.aload_n 0, 1) := by decide +kernel
theorem dX8_result_43 : decode cX8_result 43 = .ok (.getfield 112, 3) := by decide +kernel
theorem dX8_result_46 : decode cX8_result 46 = .ok (.lneg, 1) := by decide +kernel
theorem dX8_result_47 : decode cX8_result 47 = .ok (.putfield 112, 3) := by decide +kernel
theorem dX8_result_50 : decode cX8_result 50 = .ok (.return_, 1) := by decide +kernel
theorem dX8_sum_0 : decode cX8_sum 0 = .ok (.lload_n 3, 1) := by decide +kernel
theorem dX8_sum_1 : decode cX8_sum 1 = .ok (.lload 7, 2) := by decide +kernel
theorem dX8_sum_3 : decode cX8_sum 3 = .ok (.invokestatic 136, 3) := by decide +kernel
theorem dX8_sum_6 : decode cX8_sum 6 = .ok (.lstore 9, 2) := by decide +kernel
theorem dX8_sum_8 : decode cX8_sum 8 = .ok (.aload_n 0, 1) := by decide +kernel
theorem dX8_sum_9 : decode cX8_sum 9 = .ok (.lload_n 1, 1) := by decide +kernel
theorem dX8_sum_10 : decode cX8_sum 10 = .ok (.lload 7, 2) := by decide +kernel
theorem dX8_sum_12 : decode cX8_sum 12 = .ok (.lload 9, 2) := by decide +kernel
theorem dX8_sum_14 : decode cX8_sum 14 = .ok (.ldiv, 1) := by decide +kernel
theorem dX8_sum_15 : decode cX8_sum 15 = .ok (.lmul, 1) := by decide +kernel
theorem dX8_sum_16 : decode cX8_sum 16 = .ok (.lload 5, 2) := by decide +kernel
theorem dX8_sum_18 : decode cX8_sum 18 = .ok (.lload_n 3, 1) := by decide +kernel
theorem dX8_sum_19 : decode cX8_sum 19 = .ok (.lload 9, 2) := by decide +kernel
theorem dX8_sum_21 : decode cX8_sum 21 = .ok (.ldiv, 1) := by decide +kernel
theorem dX8_sum_22 : decode cX8_sum 22 = .ok (.lmul, 1) := by decide +kernel
theorem dX8_sum_23 : decode cX8_sum 23 = .ok (.ladd, 1) := by decide +kernel
theorem dX8_sum_24 : decode cX8_sum 24 = .ok (.lload_n 3, 1) := by decide +kernel
theorem dX8_sum_25 : decode cX8_sum 25 = .ok (.lload 9, 2) := by decide +kernel
theorem dX8_sum_27 : decode cX8_sum 27 = .ok (.ldiv, 1) := by decide +kernel
theorem dX8_sum_28 : decode cX8_sum 28 = .ok (.lload 7, 2) := by decide +kernel
theorem dX8_sum_30 : decode cX8_sum 30 = .ok (.lmul, 1) := by decide +kernel
theorem dX8_sum_31 : decode cX8_sum 31 = .ok (.invokevirtual 143, 3) := by decide +kernel
theorem dX8_sum_34 : decode cX8_sum 34 = .ok (.return_, 1) := by decide +kernel
theorem dX8_product_0 : decode cX8_product 0 = .ok (.lload_n 1, 1) := by decide +kernel
theorem dX8_product_1 : decode cX8_product 1 = .ok (.lload 7, 2) := by decide +kernel
theorem dX8_product_3 : decode cX8_product 3 = .ok (.invokestatic 136, 3) := by decide +kernel
theorem dX8_product_6 : decode cX8_product 6 = .ok (.lstore 9, 2) := by decide +kernel
theorem dX8_product_8 : decode cX8_product 8 = .ok (.lload 5, 2) := by decide +kernel
theorem dX8_product_10 : decode cX8_product 10 = .ok (.lload_n 3, 1) := by decide +kernel
theorem dX8_product_11 : decode cX8_product 11 = .ok (.invokestatic 136, 3) := by decide +kernel
theorem dX8_product_14 : decode cX8_product 14 = .ok (.lstore 11, 2) := by decide +kernel
theorem dX8_product_16 : decode cX8_product 16 = .ok (.aload_n 0, 1) := by decide +kernel
theorem dX8_product_17 : decode cX8_product 17 = .ok (.lload_n 1, 1) := by decide +kernel
theorem dX8_product_18 : decode cX8_product 18 = .ok (.lload 9, 2) := by decide +kernel
theorem dX8_product_20 : decode cX8_product 20 = .ok (.ldiv, 1) := by decide +kernel
theorem dX8_product_21 : decode cX8_product 21 = .ok (.lload 5, 2) := by decide +kernel
theorem dX8_product_23 : decode cX8_product 23 = .ok (.lload 11, 2) := by decide +kernel
theorem dX8_product_25 : decode cX8_product 25 = .ok (.ldiv, 1) := by decide +kernel
theorem dX8_product_26 : decode cX8_product 26 = .ok (.lmul, 1) := by decide +kernel
theorem dX8_product_27 : decode cX8_product 27 = .ok (.lload_n 3, 1) := by decide +kernel
theorem dX8_product_28 : decode cX8_product 28 = .ok (.lload 11, 2) := by decide +kernel
theorem dX8_product_30 : decode cX8_product 30 = .ok (.ldiv, 1) := by decide +kernel
theorem dX8_product_31 : decode cX8_product 31 = .ok (.lload 7, 2) := by decide +kernel
theorem dX8_product_33 : decode cX8_product 33 = .ok (.lload 9, 2) := by decide +kernel
theorem dX8_product_35 : decode cX8_product 35 = .ok (.ldiv, 1) := by decide +kernel
theorem dX8_product_36 : decode cX8_product 36 = .ok (.lmul, 1) := by decide +kernel
theorem dX8_product_37 : decode cX8_product 37 = .ok (.invokevirtual 143, 3) := by decide +kernel
theorem dX8_product_40 : decode cX8_product 40 = .ok (.return_, 1) := by decide +kernel
theorem dX8_floor_0 : decode cX8_floor 0 = .ok (.lload_n 0, 1) := by decide +kernel
theorem dX8_floor_1 : decode cX8_floor 1 = .ok (.lload_n 2, 1) := by decide +kernel
theorem dX8_floor_2 : decode cX8_floor 2 = .ok (.lmul, 1) := by decide +kernel
theorem dX8_floor_3 : decode cX8_floor 3 = .ok (.lload 4, 2) := by decide +kernel
theorem dX8_floor_5 : decode cX8_floor 5 = .ok (.invokestatic 147, 3) := by decide +kernel
theorem dX8_floor_8 : decode cX8_floor 8 = .ok (.lreturn, 1) := by decide +kernel
theorem dX8_shaft_0 : decode cX8_shaft 0 = .ok (.aload_n 0, 1) := by decide +kernel
theorem dX8_shaft_1 : decode cX8_shaft 1 = .ok (.aload_n 0, 1) := by decide +kernel
theorem dX8_shaft_2 : decode cX8_shaft 2 = .ok (.getfield 120, 3) := by decide +kernel
theorem dX8_shaft_5 : decode cX8_shaft 5 = .ok (.bipush 14, 2) := by decide +kernel
theorem dX8_shaft_7 : decode cX8_shaft 7 = .ok (.if_icmp .ne 7, 3) := by decide +kernel
theorem dX8_shaft_10 : decode cX8_shaft 10 = .ok (.iconst 1, 1) := by decide +kernel
theorem dX8_shaft_11 : decode cX8_shaft 11 = .ok (.goto 4, 3) := by decide +kernel
theorem dX8_shaft_14 : decode cX8_shaft 14 = .ok (.iconst 0, 1) := by decide +kernel
theorem dX8_shaft_15 : decode cX8_shaft 15 = .ok (.iconst 1, 1) := by decide +kernel
theorem dX8_shaft_16 : decode cX8_shaft 16 = .ok (.invokevirtual 150, 3) := by decide +kernel
theorem dX8_shaft_19 : decode cX8_shaft 19 = .ok (.ifCond .eq 5, 3) := by decide +kernel
theorem dX8_shaft_22 : decode cX8_shaft 22 = .ok (.iconst 0, 1) := by decide +kernel
theorem dX8_shaft_23 : decode cX8_shaft 23 = .ok (.ireturn, 1) := by decide +kernel
theorem dX8_shaft_24 : decode cX8_shaft 24 = .ok (.aload_n 0, 1) := by decide +kernel
theorem dX8_shaft_25 : decode cX8_shaft 25 = .ok (.getfield 9, 3) := by decide +kernel
theorem dX8_shaft_28 : decode cX8_shaft 28 = .ok (.aload_n 0, 1) := by decide +kernel
theorem dX8_shaft_29 : decode cX8_shaft 29 = .ok (.getfield 120, 3) := by decide +kernel
theorem dX8_shaft_32 : decode cX8_shaft 32 = .ok (.lconst 0, 1) := by decide +kernel
theorem dX8_shaft_33 : decode cX8_shaft 33 = .ok (.lastore, 1) := by decide +kernel
theorem dX8_shaft_34 : decode cX8_shaft 34 = .ok (.aload_n 0, 1) := by decide +kernel
theorem dX8_shaft_35 : decode cX8_shaft 35 = .ok (.getfield 13, 3) := by decide +kernel
theorem dX8_shaft_38 : decode cX8_shaft 38 = .ok (.aload_n 0, 1) := by decide +kernel
theorem dX8_shaft_39 : decode cX8_shaft 39 = .ok (.getfield 120, 3) := by decide +kernel
theorem dX8_shaft_42 : decode cX8_shaft 42 = .ok (.lconst 1, 1) := by decide +kernel
theorem dX8_shaft_43 : decode cX8_shaft 43 = .ok (.lastore, 1) := by decide +kernel
theorem dX8_shaft_44 : decode cX8_shaft 44 = .ok (.aload_n 0, 1) := by decide +kernel
theorem dX8_shaft_45 : decode cX8_shaft 45 = .ok (.getfield 32, 3) := by decide +kernel
theorem dX8_shaft_48 : decode cX8_shaft 48 = .ok (.aload_n 0, 1) := by decide +kernel
theorem dX8_shaft_49 : decode cX8_shaft 49 = .ok (.getfield 120, 3) := by decide +kernel
theorem dX8_shaft_52 : decode cX8_shaft 52 = .ok (.iconst (-1), 1) := by decide +kernel
theorem dX8_shaft_53 : decode cX8_shaft 53 = .ok (.iastore, 1) := by decide +kernel
theorem dX8_shaft_54 : decode cX8_shaft 54 = .ok (.aload_n 0, 1) := by decide +kernel
theorem dX8_shaft_55 : decode cX8_shaft 55 = .ok (.dup, 1) := by decide +kernel
theorem dX8_shaft_56 : decode cX8_shaft 56 = .ok (.getfield 120, 3) := by decide +kernel
theorem dX8_shaft_59 : decode cX8_shaft 59 = .ok (.iconst 1, 1) := by decide +kernel
theorem dX8_shaft_60 : decode cX8_shaft 60 = .ok (.iadd, 1) := by decide +kernel
theorem dX8_shaft_61 : decode cX8_shaft 61 = .ok (.putfield 120, 3) := by decide +kernel
theorem dX8_shaft_64 : decode cX8_shaft 64 = .ok (.aload_n 0, 1) := by decide +kernel
theorem dX8_shaft_65 : decode cX8_shaft 65 = .ok (.getfield 120, 3) := by decide +kernel
theorem dX8_shaft_68 : decode cX8_shaft 68 = .ok (.iconst 1, 1) := by decide +kernel
theorem dX8_shaft_69 : decode cX8_shaft 69 = .ok (.isub, 1) := by decide +kernel
theorem dX8_shaft_70 : decode cX8_shaft 70 = .ok (.ireturn, 1) := by decide +kernel
theorem dX8_leads_0 : decode cX8_leads 0 = .ok (.iload_n 1, 1) := by decide +kernel
theorem dX8_leads_1 : decode cX8_leads 1 = .ok (.iload_n 2, 1) := by decide +kernel
theorem dX8_leads_2 : decode cX8_leads 2 = .ok (.if_icmp .ne 5, 3) := by decide +kernel
theorem dX8_leads_5 : decode cX8_leads 5 = .ok (.iconst 1, 1) := by decide +kernel
theorem dX8_leads_6 : decode cX8_leads 6 = .ok (.ireturn, 1) := by decide +kernel
theorem dX8_leads_7 : decode cX8_leads 7 = .ok (.iconst 0, 1) := by decide +kernel
theorem dX8_leads_8 : decode cX8_leads 8 = .ok (.istore_n 3, 1) := by decide +kernel
theorem dX8_leads_9 : decode cX8_leads 9 = .ok (.iconst 0, 1) := by decide +kernel
theorem dX8_leads_10 : decode cX8_leads 10 = .ok (.istore 4, 2) := by decide +kernel
theorem dX8_leads_12 : decode cX8_leads 12 = .ok (.iload 4, 2) := by decide +kernel
theorem dX8_leads_14 : decode cX8_leads 14 = .ok (.aload_n 0, 1) := by decide +kernel
theorem dX8_leads_15 : decode cX8_leads 15 = .ok (.getfield 127, 3) := by decide +kernel
theorem dX8_leads_18 : decode cX8_leads 18 = .ok (.if_icmp .ge 56, 3) := by decide +kernel
theorem dX8_leads_21 : decode cX8_leads 21 = .ok (.iload_n 3, 1) := by decide +kernel
theorem dX8_leads_22 : decode cX8_leads 22 = .ok (.ifCond .ne 52, 3) := by decide +kernel
theorem dX8_leads_25 : decode cX8_leads 25 = .ok (.aload_n 0, 1) := by decide +kernel
theorem dX8_leads_26 : decode cX8_leads 26 = .ok (.getfield 43, 3) := by decide +kernel
theorem dX8_leads_29 : decode cX8_leads 29 = .ok (.iload 4, 2) := by decide +kernel
theorem dX8_leads_31 : decode cX8_leads 31 = .ok (.iaload, 1) := by decide +kernel
theorem dX8_leads_32 : decode cX8_leads 32 = .ok (.iload_n 1, 1) := by decide +kernel
theorem dX8_leads_33 : decode cX8_leads 33 = .ok (.if_icmp .eq 14, 3) := by decide +kernel
theorem dX8_leads_36 : decode cX8_leads 36 = .ok (.aload_n 0, 1) := by decide +kernel
theorem dX8_leads_37 : decode cX8_leads 37 = .ok (.getfield 46, 3) := by decide +kernel
theorem dX8_leads_40 : decode cX8_leads 40 = .ok (.iload 4, 2) := by decide +kernel
theorem dX8_leads_42 : decode cX8_leads 42 = .ok (.iaload, 1) := by decide +kernel
theorem dX8_leads_43 : decode cX8_leads 43 = .ok (.iload_n 1, 1) := by decide +kernel
theorem dX8_leads_44 : decode cX8_leads 44 = .ok (.if_icmp .ne 22, 3) := by decide +kernel
theorem dX8_leads_47 : decode cX8_leads 47 = .ok (.aload_n 0, 1) := by decide +kernel
theorem dX8_leads_48 : decode cX8_leads 48 = .ok (.aload_n 0, 1) := by decide +kernel
theorem dX8_leads_49 : decode cX8_leads 49 = .ok (.getfield 49, 3) := by decide +kernel
theorem dX8_leads_52 : decode cX8_leads 52 = .ok (.iload 4, 2) := by decide +kernel
theorem dX8_leads_54 : decode cX8_leads 54 = .ok (.iaload, 1) := by decide +kernel
theorem dX8_leads_55 : decode cX8_leads 55 = .ok (.iload_n 2, 1) := by decide +kernel
theorem dX8_leads_56 : decode cX8_leads 56 = .ok (.invokevirtual 154, 3) := by decide +kernel
theorem dX8_leads_59 : decode cX8_leads 59 = .ok (.ifCond .eq 7, 3) := by decide +kernel
theorem dX8_leads_62 : decode cX8_leads 62 = .ok (.iconst 1, 1) := by decide +kernel
theorem dX8_leads_63 : decode cX8_leads 63 = .ok (.goto 4, 3) := by decide +kernel
theorem dX8_leads_66 : decode cX8_leads 66 = .ok (.iconst 0, 1) := by decide +kernel
theorem dX8_leads_67 : decode cX8_leads 67 = .ok (.istore_n 3, 1) := by decide +kernel
theorem dX8_leads_68 : decode cX8_leads 68 = .ok (.iinc 4 1, 3) := by decide +kernel
theorem dX8_leads_71 : decode cX8_leads 71 = .ok (.goto (-59), 3) := by decide +kernel
theorem dX8_leads_74 : decode cX8_leads 74 = .ok (.iload_n 3, 1) := by decide +kernel
theorem dX8_leads_75 : decode cX8_leads 75 = .ok (.ireturn, 1) := by decide +kernel
theorem dX8_depthOf_0 : decode cX8_depthOf 0 = .ok (.aload_n 0, 1) := by decide +kernel
theorem dX8_depthOf_1 : decode cX8_depthOf 1 = .ok (.getfield 32, 3) := by decide +kernel
theorem dX8_depthOf_4 : decode cX8_depthOf 4 = .ok (.iload_n 1, 1) := by decide +kernel
theorem dX8_depthOf_5 : decode cX8_depthOf 5 = .ok (.iaload, 1) := by decide +kernel
theorem dX8_depthOf_6 : decode cX8_depthOf 6 = .ok (.istore_n 2, 1) := by decide +kernel
theorem dX8_depthOf_7 : decode cX8_depthOf 7 = .ok (.iload_n 2, 1) := by decide +kernel
theorem dX8_depthOf_8 : decode cX8_depthOf 8 = .ok (.iconst (-1), 1) := by decide +kernel
theorem dX8_depthOf_9 : decode cX8_depthOf 9 = .ok (.if_icmp .ne 5, 3) := by decide +kernel
theorem dX8_depthOf_12 : decode cX8_depthOf 12 = .ok (.iconst 0, 1) := by decide +kernel
theorem dX8_depthOf_13 : decode cX8_depthOf 13 = .ok (.ireturn, 1) := by decide +kernel
theorem dX8_depthOf_14 : decode cX8_depthOf 14 = .ok (.aload_n 0, 1) := by decide +kernel
theorem dX8_depthOf_15 : decode cX8_depthOf 15 = .ok (.aload_n 0, 1) := by decide +kernel
theorem dX8_depthOf_16 : decode cX8_depthOf 16 = .ok (.getfield 43, 3) := by decide +kernel
theorem dX8_depthOf_19 : decode cX8_depthOf 19 = .ok (.iload_n 2, 1) := by decide +kernel
theorem dX8_depthOf_20 : decode cX8_depthOf 20 = .ok (.iaload, 1) := by decide +kernel
theorem dX8_depthOf_21 : decode cX8_depthOf 21 = .ok (.invokevirtual 158, 3) := by decide +kernel
theorem dX8_depthOf_24 : decode cX8_depthOf 24 = .ok (.istore_n 3, 1) := by decide +kernel
theorem dX8_depthOf_25 : decode cX8_depthOf 25 = .ok (.iconst 1, 1) := by decide +kernel
theorem dX8_depthOf_26 : decode cX8_depthOf 26 = .ok (.aload_n 0, 1) := by decide +kernel
theorem dX8_depthOf_27 : decode cX8_depthOf 27 = .ok (.getfield 46, 3) := by decide +kernel
theorem dX8_depthOf_30 : decode cX8_depthOf 30 = .ok (.iload_n 2, 1) := by decide +kernel
theorem dX8_depthOf_31 : decode cX8_depthOf 31 = .ok (.iaload, 1) := by decide +kernel
theorem dX8_depthOf_32 : decode cX8_depthOf 32 = .ok (.iconst (-1), 1) := by decide +kernel
theorem dX8_depthOf_33 : decode cX8_depthOf 33 = .ok (.if_icmp .ne 7, 3) := by decide +kernel
theorem dX8_depthOf_36 : decode cX8_depthOf 36 = .ok (.iload_n 3, 1) := by decide +kernel
theorem dX8_depthOf_37 : decode cX8_depthOf 37 = .ok (.goto 17, 3) := by decide +kernel
theorem dX8_depthOf_40 : decode cX8_depthOf 40 = .ok (.iload_n 3, 1) := by decide +kernel
theorem dX8_depthOf_41 : decode cX8_depthOf 41 = .ok (.aload_n 0, 1) := by decide +kernel
theorem dX8_depthOf_42 : decode cX8_depthOf 42 = .ok (.aload_n 0, 1) := by decide +kernel
theorem dX8_depthOf_43 : decode cX8_depthOf 43 = .ok (.getfield 46, 3) := by decide +kernel
theorem dX8_depthOf_46 : decode cX8_depthOf 46 = .ok (.iload_n 2, 1) := by decide +kernel
theorem dX8_depthOf_47 : decode cX8_depthOf 47 = .ok (.iaload, 1) := by decide +kernel
theorem dX8_depthOf_48 : decode cX8_depthOf 48 = .ok (.invokevirtual 158, 3) := by decide +kernel
theorem dX8_depthOf_51 : decode cX8_depthOf 51 = .ok (.invokestatic 162, 3) := by decide +kernel
theorem dX8_depthOf_54 : decode cX8_depthOf 54 = .ok (.iadd, 1) := by decide +kernel
theorem dX8_depthOf_55 : decode cX8_depthOf 55 = .ok (.ireturn, 1) := by decide +kernel
theorem dX8_isAdded_0 : decode cX8_isAdded 0 = .ok (.iload_n 2, 1) := by decide +kernel
theorem dX8_isAdded_1 : decode cX8_isAdded 1 = .ok (.iload 4, 2) := by decide +kernel
theorem dX8_isAdded_3 : decode cX8_isAdded 3 = .ok (.if_icmp .eq 14, 3) := by decide +kernel
theorem dX8_isAdded_6 : decode cX8_isAdded 6 = .ok (.iload_n 3, 1) := by decide +kernel
theorem dX8_isAdded_7 : decode cX8_isAdded 7 = .ok (.iload 4, 2) := by decide +kernel
theorem dX8_isAdded_9 : decode cX8_isAdded 9 = .ok (.if_icmp .eq 8, 3) := by decide +kernel
theorem dX8_isAdded_12 : decode cX8_isAdded 12 = .ok (.iload_n 3, 1) := by decide +kernel
theorem dX8_isAdded_13 : decode cX8_isAdded 13 = .ok (.iload_n 2, 1) := by decide +kernel
theorem dX8_isAdded_14 : decode cX8_isAdded 14 = .ok (.if_icmp .ne 7, 3) := by decide +kernel
theorem dX8_isAdded_17 : decode cX8_isAdded 17 = .ok (.iconst 1, 1) := by decide +kernel
theorem dX8_isAdded_18 : decode cX8_isAdded 18 = .ok (.goto 4, 3) := by decide +kernel
theorem dX8_isAdded_21 : decode cX8_isAdded 21 = .ok (.iconst 0, 1) := by decide +kernel
theorem dX8_isAdded_22 : decode cX8_isAdded 22 = .ok (.istore 7, 2) := by decide +kernel
theorem dX8_isAdded_24 : decode cX8_isAdded 24 = .ok (.iload 7, 2) := by decide +kernel
theorem dX8_isAdded_26 : decode cX8_isAdded 26 = .ok (.ifCond .ne 39, 3) := by decide +kernel
theorem dX8_isAdded_29 : decode cX8_isAdded 29 = .ok (.aload_n 0, 1) := by decide +kernel
theorem dX8_isAdded_30 : decode cX8_isAdded 30 = .ok (.getfield 32, 3) := by decide +kernel
theorem dX8_isAdded_33 : decode cX8_isAdded 33 = .ok (.iload 4, 2) := by decide +kernel
theorem dX8_isAdded_35 : decode cX8_isAdded 35 = .ok (.iaload, 1) := by decide +kernel
theorem dX8_isAdded_36 : decode cX8_isAdded 36 = .ok (.iconst (-1), 1) := by decide +kernel
theorem dX8_isAdded_37 : decode cX8_isAdded 37 = .ok (.if_icmp .ne 28, 3) := by decide +kernel
theorem dX8_isAdded_40 : decode cX8_isAdded 40 = .ok (.aload_n 0, 1) := by decide +kernel
theorem dX8_isAdded_41 : decode cX8_isAdded 41 = .ok (.iload 4, 2) := by decide +kernel
theorem dX8_isAdded_43 : decode cX8_isAdded 43 = .ok (.iload_n 2, 1) := by decide +kernel
theorem dX8_isAdded_44 : decode cX8_isAdded 44 = .ok (.invokevirtual 154, 3) := by decide +kernel
theorem dX8_isAdded_47 : decode cX8_isAdded 47 = .ok (.ifCond .ne 18, 3) := by decide +kernel
theorem dX8_isAdded_50 : decode cX8_isAdded 50 = .ok (.iload_n 3, 1) := by decide +kernel
theorem dX8_isAdded_51 : decode cX8_isAdded 51 = .ok (.iconst (-1), 1) := by decide +kernel
theorem dX8_isAdded_52 : decode cX8_isAdded 52 = .ok (.if_icmp .eq 15, 3) := by decide +kernel
theorem dX8_isAdded_55 : decode cX8_isAdded 55 = .ok (.aload_n 0, 1) := by decide +kernel
theorem dX8_isAdded_56 : decode cX8_isAdded 56 = .ok (.iload 4, 2) := by decide +kernel
theorem dX8_isAdded_58 : decode cX8_isAdded 58 = .ok (.iload_n 3, 1) := by decide +kernel
theorem dX8_isAdded_59 : decode cX8_isAdded 59 = .ok (.invokevirtual 154, 3) := by decide +kernel
theorem dX8_isAdded_62 : decode cX8_isAdded 62 = .ok (.ifCond .eq 5, 3) := by decide +kernel
theorem dX8_isAdded_65 : decode cX8_isAdded 65 = .ok (.iconst 0, 1) := by decide +kernel
theorem dX8_isAdded_66 : decode cX8_isAdded 66 = .ok (.ireturn, 1) := by decide +kernel
theorem dX8_isAdded_67 : decode cX8_isAdded 67 = .ok (.aload_n 0, 1) := by decide +kernel
theorem dX8_isAdded_68 : decode cX8_isAdded 68 = .ok (.getfield 127, 3) := by decide +kernel
theorem dX8_isAdded_71 : decode cX8_isAdded 71 = .ok (.bipush 16, 2) := by decide +kernel
theorem dX8_isAdded_73 : decode cX8_isAdded 73 = .ok (.if_icmp .ne 12, 3) := by decide +kernel
theorem dX8_isAdded_76 : decode cX8_isAdded 76 = .ok (.aload_n 0, 1) := by decide +kernel
theorem dX8_isAdded_77 : decode cX8_isAdded 77 = .ok (.iload_n 2, 1) := by decide +kernel
theorem dX8_isAdded_78 : decode cX8_isAdded 78 = .ok (.iload_n 3, 1) := by decide +kernel
theorem dX8_isAdded_79 : decode cX8_isAdded 79 = .ok (.iload 4, 2) := by decide +kernel
theorem dX8_isAdded_81 : decode cX8_isAdded 81 = .ok (.invokevirtual 166, 3) := by decide +kernel
theorem dX8_isAdded_84 : decode cX8_isAdded 84 = .ok (.ireturn, 1) := by decide +kernel
theorem dX8_isAdded_85 : decode cX8_isAdded 85 = .ok (.aload_n 0, 1) := by decide +kernel
theorem dX8_isAdded_86 : decode cX8_isAdded 86 = .ok (.getfield 39, 3) := by decide +kernel
theorem dX8_isAdded_89 : decode cX8_isAdded 89 = .ok (.aload_n 0, 1) := by decide +kernel
theorem dX8_isAdded_90 : decode cX8_isAdded 90 = .ok (.getfield 127, 3) := by decide +kernel
theorem dX8_isAdded_93 : decode cX8_isAdded 93 = .ok (.iload_n 1, 1) := by decide +kernel
theorem dX8_isAdded_94 : decode cX8_isAdded 94 = .ok (.castore, 1) := by decide +kernel
theorem dX8_isAdded_95 : decode cX8_isAdded 95 = .ok (.aload_n 0, 1) := by decide +kernel
theorem dX8_isAdded_96 : decode cX8_isAdded 96 = .ok (.getfield 43, 3) := by decide +kernel
theorem dX8_isAdded_99 : decode cX8_isAdded 99 = .ok (.aload_n 0, 1) := by decide +kernel
theorem dX8_isAdded_100 : decode cX8_isAdded 100 = .ok (.getfield 127, 3) := by decide +kernel
theorem dX8_isAdded_103 : decode cX8_isAdded 103 = .ok (.iload_n 2, 1) := by decide +kernel
theorem dX8_isAdded_104 : decode cX8_isAdded 104 = .ok (.iastore, 1) := by decide +kernel
theorem dX8_isAdded_105 : decode cX8_isAdded 105 = .ok (.aload_n 0, 1) := by decide +kernel
theorem dX8_isAdded_106 : decode cX8_isAdded 106 = .ok (.getfield 46, 3) := by decide +kernel
theorem dX8_isAdded_109 : decode cX8_isAdded 109 = .ok (.aload_n 0, 1) := by decide +kernel
theorem dX8_isAdded_110 : decode cX8_isAdded 110 = .ok (.getfield 127, 3) := by decide +kernel
theorem dX8_isAdded_113 : decode cX8_isAdded 113 = .ok (.iload_n 3, 1) := by decide +kernel
theorem dX8_isAdded_114 : decode cX8_isAdded 114 = .ok (.iastore, 1) := by decide +kernel
theorem dX8_isAdded_115 : decode cX8_isAdded 115 = .ok (.aload_n 0, 1) := by decide +kernel
theorem dX8_isAdded_116 : decode cX8_isAdded 116 = .ok (.getfield 49, 3) := by decide +kernel
theorem dX8_isAdded_119 : decode cX8_isAdded 119 = .ok (.aload_n 0, 1) := by decide +kernel
theorem dX8_isAdded_120 : decode cX8_isAdded 120 = .ok (.getfield 127, 3) := by decide +kernel
theorem dX8_isAdded_123 : decode cX8_isAdded 123 = .ok (.iload 4, 2) := by decide +kernel
theorem dX8_isAdded_125 : decode cX8_isAdded 125 = .ok (.iastore, 1) := by decide +kernel
theorem dX8_isAdded_126 : decode cX8_isAdded 126 = .ok (.aload_n 0, 1) := by decide +kernel
theorem dX8_isAdded_127 : decode cX8_isAdded 127 = .ok (.getfield 52, 3) := by decide +kernel
theorem dX8_isAdded_130 : decode cX8_isAdded 130 = .ok (.aload_n 0, 1) := by decide +kernel
theorem dX8_isAdded_131 : decode cX8_isAdded 131 = .ok (.getfield 127, 3) := by decide +kernel
theorem dX8_isAdded_134 : decode cX8_isAdded 134 = .ok (.iload 5, 2) := by decide +kernel
theorem dX8_isAdded_136 : decode cX8_isAdded 136 = .ok (.iastore, 1) := by decide +kernel
theorem dX8_isAdded_137 : decode cX8_isAdded 137 = .ok (.aload_n 0, 1) := by decide +kernel
theorem dX8_isAdded_138 : decode cX8_isAdded 138 = .ok (.getfield 55, 3) := by decide +kernel
theorem dX8_isAdded_141 : decode cX8_isAdded 141 = .ok (.aload_n 0, 1) := by decide +kernel
theorem dX8_isAdded_142 : decode cX8_isAdded 142 = .ok (.getfield 127, 3) := by decide +kernel
theorem dX8_isAdded_145 : decode cX8_isAdded 145 = .ok (.iload 6, 2) := by decide +kernel
theorem dX8_isAdded_147 : decode cX8_isAdded 147 = .ok (.iastore, 1) := by decide +kernel
theorem dX8_isAdded_148 : decode cX8_isAdded 148 = .ok (.aload_n 0, 1) := by decide +kernel
theorem dX8_isAdded_149 : decode cX8_isAdded 149 = .ok (.getfield 32, 3) := by decide +kernel
theorem dX8_isAdded_152 : decode cX8_isAdded 152 = .ok (.iload 4, 2) := by decide +kernel
theorem dX8_isAdded_154 : decode cX8_isAdded 154 = .ok (.aload_n 0, 1) := by decide +kernel
theorem dX8_isAdded_155 : decode cX8_isAdded 155 = .ok (.getfield 127, 3) := by decide +kernel
theorem dX8_isAdded_158 : decode cX8_isAdded 158 = .ok (.iastore, 1) := by decide +kernel
theorem dX8_isAdded_159 : decode cX8_isAdded 159 = .ok (.aload_n 0, 1) := by decide +kernel
theorem dX8_isAdded_160 : decode cX8_isAdded 160 = .ok (.dup, 1) := by decide +kernel
theorem dX8_isAdded_161 : decode cX8_isAdded 161 = .ok (.getfield 127, 3) := by decide +kernel
theorem dX8_isAdded_164 : decode cX8_isAdded 164 = .ok (.iconst 1, 1) := by decide +kernel
theorem dX8_isAdded_165 : decode cX8_isAdded 165 = .ok (.iadd, 1) := by decide +kernel
theorem dX8_isAdded_166 : decode cX8_isAdded 166 = .ok (.putfield 127, 3) := by decide +kernel
theorem dX8_isAdded_169 : decode cX8_isAdded 169 = .ok (.iconst 1, 1) := by decide +kernel
theorem dX8_isAdded_170 : decode cX8_isAdded 170 = .ok (.istore 8, 2) := by decide +kernel
theorem dX8_isAdded_172 : decode cX8_isAdded 172 = .ok (.iconst 0, 1) := by decide +kernel
theorem dX8_isAdded_173 : decode cX8_isAdded 173 = .ok (.istore 9, 2) := by decide +kernel
theorem dX8_isAdded_175 : decode cX8_isAdded 175 = .ok (.iload 9, 2) := by decide +kernel
theorem dX8_isAdded_177 : decode cX8_isAdded 177 = .ok (.aload_n 0, 1) := by decide +kernel
theorem dX8_isAdded_178 : decode cX8_isAdded 178 = .ok (.getfield 120, 3) := by decide +kernel
theorem dX8_isAdded_181 : decode cX8_isAdded 181 = .ok (.if_icmp .ge 29, 3) := by decide +kernel
theorem dX8_isAdded_184 : decode cX8_isAdded 184 = .ok (.iload 8, 2) := by decide +kernel
theorem dX8_isAdded_186 : decode cX8_isAdded 186 = .ok (.aload_n 0, 1) := by decide +kernel
theorem dX8_isAdded_187 : decode cX8_isAdded 187 = .ok (.iload 9, 2) := by decide +kernel
theorem dX8_isAdded_189 : decode cX8_isAdded 189 = .ok (.invokevirtual 158, 3) := by decide +kernel
theorem dX8_isAdded_192 : decode cX8_isAdded 192 = .ok (.iconst 3, 1) := by decide +kernel
theorem dX8_isAdded_193 : decode cX8_isAdded 193 = .ok (.if_icmp .gt 7, 3) := by decide +kernel
theorem dX8_isAdded_196 : decode cX8_isAdded 196 = .ok (.iconst 1, 1) := by decide +kernel
theorem dX8_isAdded_197 : decode cX8_isAdded 197 = .ok (.goto 4, 3) := by decide +kernel
theorem dX8_isAdded_200 : decode cX8_isAdded 200 = .ok (.iconst 0, 1) := by decide +kernel
theorem dX8_isAdded_201 : decode cX8_isAdded 201 = .ok (.iand, 1) := by decide +kernel
theorem dX8_isAdded_202 : decode cX8_isAdded 202 = .ok (.istore 8, 2) := by decide +kernel
theorem dX8_isAdded_204 : decode cX8_isAdded 204 = .ok (.iinc 9 1, 3) := by decide +kernel
theorem dX8_isAdded_207 : decode cX8_isAdded 207 = .ok (.goto (-32), 3) := by decide +kernel
theorem dX8_isAdded_210 : decode cX8_isAdded 210 = .ok (.iload 8, 2) := by decide +kernel
theorem dX8_isAdded_212 : decode cX8_isAdded 212 = .ok (.ifCond .ne 21, 3) := by decide +kernel
theorem dX8_isAdded_215 : decode cX8_isAdded 215 = .ok (.aload_n 0, 1) := by decide +kernel
theorem dX8_isAdded_216 : decode cX8_isAdded 216 = .ok (.dup, 1) := by decide +kernel
theorem dX8_isAdded_217 : decode cX8_isAdded 217 = .ok (.getfield 127, 3) := by decide +kernel
theorem dX8_isAdded_220 : decode cX8_isAdded 220 = .ok (.iconst 1, 1) := by decide +kernel
theorem dX8_isAdded_221 : decode cX8_isAdded 221 = .ok (.isub, 1) := by decide +kernel
theorem dX8_isAdded_222 : decode cX8_isAdded 222 = .ok (.putfield 127, 3) := by decide +kernel
theorem dX8_isAdded_225 : decode cX8_isAdded 225 = .ok (.aload_n 0, 1) := by decide +kernel
theorem dX8_isAdded_226 : decode cX8_isAdded 226 = .ok (.getfield 32, 3) := by decide +kernel
theorem dX8_isAdded_229 : decode cX8_isAdded 229 = .ok (.iload 4, 2) := by decide +kernel
theorem dX8_isAdded_231 : decode cX8_isAdded 231 = .ok (.iconst (-1), 1) := by decide +kernel
theorem dX8_isAdded_232 : decode cX8_isAdded 232 = .ok (.iastore, 1) := by decide +kernel
theorem dX8_isAdded_233 : decode cX8_isAdded 233 = .ok (.iload 8, 2) := by decide +kernel
theorem dX8_isAdded_235 : decode cX8_isAdded 235 = .ok (.ireturn, 1) := by decide +kernel
theorem dX8_heightOf_0 : decode cX8_heightOf 0 = .ok (.iconst 0, 1) := by decide +kernel
theorem dX8_heightOf_1 : decode cX8_heightOf 1 = .ok (.istore_n 2, 1) := by decide +kernel
theorem dX8_heightOf_2 : decode cX8_heightOf 2 = .ok (.iconst 0, 1) := by decide +kernel
theorem dX8_heightOf_3 : decode cX8_heightOf 3 = .ok (.istore_n 3, 1) := by decide +kernel
theorem dX8_heightOf_4 : decode cX8_heightOf 4 = .ok (.iload_n 3, 1) := by decide +kernel
theorem dX8_heightOf_5 : decode cX8_heightOf 5 = .ok (.aload_n 0, 1) := by decide +kernel
theorem dX8_heightOf_6 : decode cX8_heightOf 6 = .ok (.getfield 127, 3) := by decide +kernel
theorem dX8_heightOf_9 : decode cX8_heightOf 9 = .ok (.if_icmp .ge 50, 3) := by decide +kernel
theorem dX8_heightOf_12 : decode cX8_heightOf 12 = .ok (.aload_n 0, 1) := by decide +kernel
theorem dX8_heightOf_13 : decode cX8_heightOf 13 = .ok (.getfield 43, 3) := by decide +kernel
theorem dX8_heightOf_16 : decode cX8_heightOf 16 = .ok (.iload_n 3, 1) := by decide +kernel
theorem dX8_heightOf_17 : decode cX8_heightOf 17 = .ok (.iaload, 1) := by decide +kernel
theorem dX8_heightOf_18 : decode cX8_heightOf 18 = .ok (.iload_n 1, 1) := by decide +kernel
theorem dX8_heightOf_19 : decode cX8_heightOf 19 = .ok (.if_icmp .eq 13, 3) := by decide +kernel
theorem dX8_heightOf_22 : decode cX8_heightOf 22 = .ok (.aload_n 0, 1) := by decide +kernel
theorem dX8_heightOf_23 : decode cX8_heightOf 23 = .ok (.getfield 46, 3) := by decide +kernel
theorem dX8_heightOf_26 : decode cX8_heightOf 26 = .ok (.iload_n 3, 1) := by decide +kernel
theorem dX8_heightOf_27 : decode cX8_heightOf 27 = .ok (.iaload, 1) := by decide +kernel
theorem dX8_heightOf_28 : decode cX8_heightOf 28 = .ok (.iload_n 1, 1) := by decide +kernel
theorem dX8_heightOf_29 : decode cX8_heightOf 29 = .ok (.if_icmp .ne 22, 3) := by decide +kernel
theorem dX8_heightOf_32 : decode cX8_heightOf 32 = .ok (.iload_n 2, 1) := by decide +kernel
theorem dX8_heightOf_33 : decode cX8_heightOf 33 = .ok (.iconst 1, 1) := by decide +kernel
theorem dX8_heightOf_34 : decode cX8_heightOf 34 = .ok (.aload_n 0, 1) := by decide +kernel
theorem dX8_heightOf_35 : decode cX8_heightOf 35 = .ok (.aload_n 0, 1) := by decide +kernel
theorem dX8_heightOf_36 : decode cX8_heightOf 36 = .ok (.getfield 49, 3) := by decide +kernel
theorem dX8_heightOf_39 : decode cX8_heightOf 39 = .ok (.iload_n 3, 1) := by decide +kernel
theorem dX8_heightOf_40 : decode cX8_heightOf 40 = .ok (.iaload, 1) := by decide +kernel
theorem dX8_heightOf_41 : decode cX8_heightOf 41 = .ok (.invokevirtual 169, 3) := by decide +kernel
theorem dX8_heightOf_44 : decode cX8_heightOf 44 = .ok (.iadd, 1) := by decide +kernel
theorem dX8_heightOf_45 : decode cX8_heightOf 45 = .ok (.invokestatic 162, 3) := by decide +kernel
theorem dX8_heightOf_48 : decode cX8_heightOf 48 = .ok (.goto 4, 3) := by decide +kernel
theorem dX8_heightOf_51 : decode cX8_heightOf 51 = .ok (.iload_n 2, 1) := by decide +kernel
theorem dX8_heightOf_52 : decode cX8_heightOf 52 = .ok (.istore_n 2, 1) := by decide +kernel
theorem dX8_heightOf_53 : decode cX8_heightOf 53 = .ok (.iinc 3 1, 3) := by decide +kernel
theorem dX8_heightOf_56 : decode cX8_heightOf 56 = .ok (.goto (-52), 3) := by decide +kernel
theorem dX8_heightOf_59 : decode cX8_heightOf 59 = .ok (.iload_n 2, 1) := by decide +kernel
theorem dX8_heightOf_60 : decode cX8_heightOf 60 = .ok (.ireturn, 1) := by decide +kernel
theorem dX8_isShallow_0 : decode cX8_isShallow 0 = .ok (.iload_n 2, 1) := by decide +kernel
theorem dX8_isShallow_1 : decode cX8_isShallow 1 = .ok (.iconst (-1), 1) := by decide +kernel
theorem dX8_isShallow_2 : decode cX8_isShallow 2 = .ok (.if_icmp .ne 11, 3) := by decide +kernel
theorem dX8_isShallow_5 : decode cX8_isShallow 5 = .ok (.aload_n 0, 1) := by decide +kernel
theorem dX8_isShallow_6 : decode cX8_isShallow 6 = .ok (.iload_n 1, 1) := by decide +kernel
theorem dX8_isShallow_7 : decode cX8_isShallow 7 = .ok (.invokevirtual 158, 3) := by decide +kernel
theorem dX8_isShallow_10 : decode cX8_isShallow 10 = .ok (.goto 16, 3) := by decide +kernel
theorem dX8_isShallow_13 : decode cX8_isShallow 13 = .ok (.aload_n 0, 1) := by decide +kernel
theorem dX8_isShallow_14 : decode cX8_isShallow 14 = .ok (.iload_n 1, 1) := by decide +kernel
theorem dX8_isShallow_15 : decode cX8_isShallow 15 = .ok (.invokevirtual 158, 3) := by decide +kernel
theorem dX8_isShallow_18 : decode cX8_isShallow 18 = .ok (.aload_n 0, 1) := by decide +kernel
theorem dX8_isShallow_19 : decode cX8_isShallow 19 = .ok (.iload_n 2, 1) := by decide +kernel
theorem dX8_isShallow_20 : decode cX8_isShallow 20 = .ok (.invokevirtual 158, 3) := by decide +kernel
theorem dX8_isShallow_23 : decode cX8_isShallow 23 = .ok (.invokestatic 162, 3) := by decide +kernel
theorem dX8_isShallow_26 : decode cX8_isShallow 26 = .ok (.istore 4, 2) := by decide +kernel
theorem dX8_isShallow_28 : decode cX8_isShallow 28 = .ok (.iload 4, 2) := by decide +kernel
theorem dX8_isShallow_30 : decode cX8_isShallow 30 = .ok (.iconst 1, 1) := by decide +kernel
theorem dX8_isShallow_31 : decode cX8_isShallow 31 = .ok (.iadd, 1) := by decide +kernel
theorem dX8_isShallow_32 : decode cX8_isShallow 32 = .ok (.aload_n 0, 1) := by decide +kernel
theorem dX8_isShallow_33 : decode cX8_isShallow 33 = .ok (.iload_n 3, 1) := by decide +kernel
theorem dX8_isShallow_34 : decode cX8_isShallow 34 = .ok (.invokevirtual 169, 3) := by decide +kernel
theorem dX8_isShallow_37 : decode cX8_isShallow 37 = .ok (.iadd, 1) := by decide +kernel
theorem dX8_isShallow_38 : decode cX8_isShallow 38 = .ok (.iconst 3, 1) := by decide +kernel
theorem dX8_isShallow_39 : decode cX8_isShallow 39 = .ok (.if_icmp .gt 7, 3) := by decide +kernel
theorem dX8_isShallow_42 : decode cX8_isShallow 42 = .ok (.iconst 1, 1) := by decide +kernel
theorem dX8_isShallow_43 : decode cX8_isShallow 43 = .ok (.goto 4, 3) := by decide +kernel
theorem dX8_isShallow_46 : decode cX8_isShallow 46 = .ok (.iconst 0, 1) := by decide +kernel
theorem dX8_isShallow_47 : decode cX8_isShallow 47 = .ok (.ireturn, 1) := by decide +kernel
theorem dX8_made_0 : decode cX8_made 0 = .ok (.aload_n 0, 1) := by decide +kernel
theorem dX8_made_1 : decode cX8_made 1 = .ok (.getfield 127, 3) := by decide +kernel
theorem dX8_made_4 : decode cX8_made 4 = .ok (.iconst 1, 1) := by decide +kernel
theorem dX8_made_5 : decode cX8_made 5 = .ok (.isub, 1) := by decide +kernel
theorem dX8_made_6 : decode cX8_made 6 = .ok (.istore_n 1, 1) := by decide +kernel
theorem dX8_made_7 : decode cX8_made 7 = .ok (.aload_n 0, 1) := by decide +kernel
theorem dX8_made_8 : decode cX8_made 8 = .ok (.getfield 58, 3) := by decide +kernel
theorem dX8_made_11 : decode cX8_made 11 = .ok (.iload_n 1, 1) := by decide +kernel
theorem dX8_made_12 : decode cX8_made 12 = .ok (.iconst 0, 1) := by decide +kernel
theorem dX8_made_13 : decode cX8_made 13 = .ok (.bastore, 1) := by decide +kernel
theorem dX8_made_14 : decode cX8_made 14 = .ok (.aload_n 0, 1) := by decide +kernel
theorem dX8_made_15 : decode cX8_made 15 = .ok (.getfield 61, 3) := by decide +kernel
theorem dX8_made_18 : decode cX8_made 18 = .ok (.iload_n 1, 1) := by decide +kernel
theorem dX8_made_19 : decode cX8_made 19 = .ok (.iconst 0, 1) := by decide +kernel
theorem dX8_made_20 : decode cX8_made 20 = .ok (.bastore, 1) := by decide +kernel
theorem dX8_made_21 : decode cX8_made 21 = .ok (.aload_n 0, 1) := by decide +kernel
theorem dX8_made_22 : decode cX8_made 22 = .ok (.getfield 64, 3) := by decide +kernel
theorem dX8_made_25 : decode cX8_made 25 = .ok (.iload_n 1, 1) := by decide +kernel
theorem dX8_made_26 : decode cX8_made 26 = .ok (.iconst 0, 1) := by decide +kernel
theorem dX8_made_27 : decode cX8_made 27 = .ok (.iastore, 1) := by decide +kernel
theorem dX8_made_28 : decode cX8_made 28 = .ok (.aload_n 0, 1) := by decide +kernel
theorem dX8_made_29 : decode cX8_made 29 = .ok (.getfield 67, 3) := by decide +kernel
theorem dX8_made_32 : decode cX8_made 32 = .ok (.iload_n 1, 1) := by decide +kernel
theorem dX8_made_33 : decode cX8_made 33 = .ok (.iconst 0, 1) := by decide +kernel
theorem dX8_made_34 : decode cX8_made 34 = .ok (.iastore, 1) := by decide +kernel
theorem dX8_made_35 : decode cX8_made 35 = .ok (.aload_n 0, 1) := by decide +kernel
theorem dX8_made_36 : decode cX8_made 36 = .ok (.getfield 70, 3) := by decide +kernel
theorem dX8_made_39 : decode cX8_made 39 = .ok (.iload_n 1, 1) := by decide +kernel
theorem dX8_made_40 : decode cX8_made 40 = .ok (.lconst 0, 1) := by decide +kernel
theorem dX8_made_41 : decode cX8_made 41 = .ok (.lastore, 1) := by decide +kernel
theorem dX8_made_42 : decode cX8_made 42 = .ok (.aload_n 0, 1) := by decide +kernel
theorem dX8_made_43 : decode cX8_made 43 = .ok (.getfield 73, 3) := by decide +kernel
theorem dX8_made_46 : decode cX8_made 46 = .ok (.iload_n 1, 1) := by decide +kernel
theorem dX8_made_47 : decode cX8_made 47 = .ok (.lconst 1, 1) := by decide +kernel
theorem dX8_made_48 : decode cX8_made 48 = .ok (.lastore, 1) := by decide +kernel
theorem dX8_made_49 : decode cX8_made 49 = .ok (.aload_n 0, 1) := by decide +kernel
theorem dX8_made_50 : decode cX8_made 50 = .ok (.getfield 76, 3) := by decide +kernel
theorem dX8_made_53 : decode cX8_made 53 = .ok (.iload_n 1, 1) := by decide +kernel
theorem dX8_made_54 : decode cX8_made 54 = .ok (.aload_n 0, 1) := by decide +kernel
theorem dX8_made_55 : decode cX8_made 55 = .ok (.getfield 52, 3) := by decide +kernel
theorem dX8_made_58 : decode cX8_made 58 = .ok (.iload_n 1, 1) := by decide +kernel
theorem dX8_made_59 : decode cX8_made 59 = .ok (.iaload, 1) := by decide +kernel
theorem dX8_made_60 : decode cX8_made 60 = .ok (.i2l, 1) := by decide +kernel
theorem dX8_made_61 : decode cX8_made 61 = .ok (.aload_n 0, 1) := by decide +kernel
theorem dX8_made_62 : decode cX8_made 62 = .ok (.getfield 9, 3) := by decide +kernel
theorem dX8_made_65 : decode cX8_made 65 = .ok (.aload_n 0, 1) := by decide +kernel
theorem dX8_made_66 : decode cX8_made 66 = .ok (.getfield 43, 3) := by decide +kernel
theorem dX8_made_69 : decode cX8_made 69 = .ok (.iload_n 1, 1) := by decide +kernel
theorem dX8_made_70 : decode cX8_made 70 = .ok (.iaload, 1) := by decide +kernel
theorem dX8_made_71 : decode cX8_made 71 = .ok (.laload, 1) := by decide +kernel
theorem dX8_made_72 : decode cX8_made 72 = .ok (.aload_n 0, 1) := by decide +kernel
theorem dX8_made_73 : decode cX8_made 73 = .ok (.getfield 13, 3) := by decide +kernel
theorem dX8_made_76 : decode cX8_made 76 = .ok (.aload_n 0, 1) := by decide +kernel
theorem dX8_made_77 : decode cX8_made 77 = .ok (.getfield 43, 3) := by decide +kernel
theorem dX8_made_80 : decode cX8_made 80 = .ok (.iload_n 1, 1) := by decide +kernel
theorem dX8_made_81 : decode cX8_made 81 = .ok (.iaload, 1) := by decide +kernel
theorem dX8_made_82 : decode cX8_made 82 = .ok (.laload, 1) := by decide +kernel
theorem dX8_made_83 : decode cX8_made 83 = .ok (.invokestatic 172, 3) := by decide +kernel
theorem dX8_made_86 : decode cX8_made 86 = .ok (.lastore, 1) := by decide +kernel
theorem dX8_made_87 : decode cX8_made 87 = .ok (.iload_n 1, 1) := by decide +kernel
theorem dX8_made_88 : decode cX8_made 88 = .ok (.ireturn, 1) := by decide +kernel
theorem dX8_isKind_0 : decode cX8_isKind 0 = .ok (.iload_n 0, 1) := by decide +kernel
theorem dX8_isKind_1 : decode cX8_isKind 1 = .ok (.lookupswitch 111 #[(103, 43), (105, 43), (114, 91), (118, 71)], 43) := by decide +kernel
theorem dX8_isKind_44 : decode cX8_isKind 44 = .ok (.iload_n 1, 1) := by decide +kernel
theorem dX8_isKind_45 : decode cX8_isKind 45 = .ok (.bipush 6, 2) := by decide +kernel
theorem dX8_isKind_47 : decode cX8_isKind 47 = .ok (.bipush 30, 2) := by decide +kernel
theorem dX8_isKind_49 : decode cX8_isKind 49 = .ok (.invokestatic 123, 3) := by decide +kernel
theorem dX8_isKind_52 : decode cX8_isKind 52 = .ok (.ifCond .eq 18, 3) := by decide +kernel
theorem dX8_isKind_55 : decode cX8_isKind 55 = .ok (.iload_n 2, 1) := by decide +kernel
theorem dX8_isKind_56 : decode cX8_isKind 56 = .ok (.bipush 6, 2) := by decide +kernel
theorem dX8_isKind_58 : decode cX8_isKind 58 = .ok (.bipush 30, 2) := by decide +kernel
theorem dX8_isKind_60 : decode cX8_isKind 60 = .ok (.invokestatic 123, 3) := by decide +kernel
theorem dX8_isKind_63 : decode cX8_isKind 63 = .ok (.ifCond .eq 7, 3) := by decide +kernel
theorem dX8_isKind_66 : decode cX8_isKind 66 = .ok (.iconst 1, 1) := by decide +kernel
theorem dX8_isKind_67 : decode cX8_isKind 67 = .ok (.goto 4, 3) := by decide +kernel
theorem dX8_isKind_70 : decode cX8_isKind 70 = .ok (.iconst 0, 1) := by decide +kernel
theorem dX8_isKind_71 : decode cX8_isKind 71 = .ok (.ireturn, 1) := by decide +kernel
theorem dX8_isKind_72 : decode cX8_isKind 72 = .ok (.iload_n 1, 1) := by decide +kernel
theorem dX8_isKind_73 : decode cX8_isKind 73 = .ok (.iconst 3, 1) := by decide +kernel
theorem dX8_isKind_74 : decode cX8_isKind 74 = .ok (.bipush 12, 2) := by decide +kernel
theorem dX8_isKind_76 : decode cX8_isKind 76 = .ok (.invokestatic 123, 3) := by decide +kernel
theorem dX8_isKind_79 : decode cX8_isKind 79 = .ok (.ifCond .eq 11, 3) := by decide +kernel
theorem dX8_isKind_82 : decode cX8_isKind 82 = .ok (.iload_n 2, 1) := by decide +kernel
theorem dX8_isKind_83 : decode cX8_isKind 83 = .ok (.ifCond .ne 7, 3) := by decide +kernel
theorem dX8_isKind_86 : decode cX8_isKind 86 = .ok (.iconst 1, 1) := by decide +kernel
theorem dX8_isKind_87 : decode cX8_isKind 87 = .ok (.goto 4, 3) := by decide +kernel
theorem dX8_isKind_90 : decode cX8_isKind 90 = .ok (.iconst 0, 1) := by decide +kernel
theorem dX8_isKind_91 : decode cX8_isKind 91 = .ok (.ireturn, 1) := by decide +kernel
theorem dX8_isKind_92 : decode cX8_isKind 92 = .ok (.iload_n 1, 1) := by decide +kernel
theorem dX8_isKind_93 : decode cX8_isKind 93 = .ok (.iconst 3, 1) := by decide +kernel
theorem dX8_isKind_94 : decode cX8_isKind 94 = .ok (.bipush 24, 2) := by decide +kernel
theorem dX8_isKind_96 : decode cX8_isKind 96 = .ok (.invokestatic 123, 3) := by decide +kernel
theorem dX8_isKind_99 : decode cX8_isKind 99 = .ok (.ifCond .eq 11, 3) := by decide +kernel
theorem dX8_isKind_102 : decode cX8_isKind 102 = .ok (.iload_n 2, 1) := by decide +kernel
theorem dX8_isKind_103 : decode cX8_isKind 103 = .ok (.ifCond .ne 7, 3) := by decide +kernel
theorem dX8_isKind_106 : decode cX8_isKind 106 = .ok (.iconst 1, 1) := by decide +kernel
theorem dX8_isKind_107 : decode cX8_isKind 107 = .ok (.goto 4, 3) := by decide +kernel
theorem dX8_isKind_110 : decode cX8_isKind 110 = .ok (.iconst 0, 1) := by decide +kernel
theorem dX8_isKind_111 : decode cX8_isKind 111 = .ok (.ireturn, 1) := by decide +kernel
theorem dX8_isKind_112 : decode cX8_isKind 112 = .ok (.iload_n 0, 1) := by decide +kernel
theorem dX8_isKind_113 : decode cX8_isKind 113 = .ok (.bipush 107, 2) := by decide +kernel
theorem dX8_isKind_115 : decode cX8_isKind 115 = .ok (.if_icmp .ne 15, 3) := by decide +kernel
theorem dX8_isKind_118 : decode cX8_isKind 118 = .ok (.iload_n 1, 1) := by decide +kernel
theorem dX8_isKind_119 : decode cX8_isKind 119 = .ok (.ifCond .ne 11, 3) := by decide +kernel
theorem dX8_isKind_122 : decode cX8_isKind 122 = .ok (.iload_n 2, 1) := by decide +kernel
theorem dX8_isKind_123 : decode cX8_isKind 123 = .ok (.ifCond .ne 7, 3) := by decide +kernel
theorem dX8_isKind_126 : decode cX8_isKind 126 = .ok (.iconst 1, 1) := by decide +kernel
theorem dX8_isKind_127 : decode cX8_isKind 127 = .ok (.goto 4, 3) := by decide +kernel
theorem dX8_isKind_130 : decode cX8_isKind 130 = .ok (.iconst 0, 1) := by decide +kernel
theorem dX8_isKind_131 : decode cX8_isKind 131 = .ok (.ireturn, 1) := by decide +kernel
theorem dX8_link_0 : decode cX8_link 0 = .ok (.aload_n 0, 1) := by decide +kernel
theorem dX8_link_1 : decode cX8_link 1 = .ok (.aload_n 0, 1) := by decide +kernel
theorem dX8_link_2 : decode cX8_link 2 = .ok (.iload_n 2, 1) := by decide +kernel
theorem dX8_link_3 : decode cX8_link 3 = .ok (.invokevirtual 176, 3) := by decide +kernel
theorem dX8_link_6 : decode cX8_link 6 = .ok (.ifCond .ne 11, 3) := by decide +kernel
theorem dX8_link_9 : decode cX8_link 9 = .ok (.aload_n 0, 1) := by decide +kernel
theorem dX8_link_10 : decode cX8_link 10 = .ok (.iload_n 3, 1) := by decide +kernel
theorem dX8_link_11 : decode cX8_link 11 = .ok (.invokevirtual 176, 3) := by decide +kernel
theorem dX8_link_14 : decode cX8_link 14 = .ok (.ifCond .eq 7, 3) := by decide +kernel
theorem dX8_link_17 : decode cX8_link 17 = .ok (.iconst 1, 1) := by decide +kernel
theorem dX8_link_18 : decode cX8_link 18 = .ok (.goto 4, 3) := by decide +kernel
theorem dX8_link_21 : decode cX8_link 21 = .ok (.iconst 0, 1) := by decide +kernel
theorem dX8_link_22 : decode cX8_link 22 = .ok (.iconst 1, 1) := by decide +kernel
theorem dX8_link_23 : decode cX8_link 23 = .ok (.invokevirtual 150, 3) := by decide +kernel
theorem dX8_link_26 : decode cX8_link 26 = .ok (.ifCond .ne 27, 3) := by decide +kernel
theorem dX8_link_29 : decode cX8_link 29 = .ok (.aload_n 0, 1) := by decide +kernel
theorem dX8_link_30 : decode cX8_link 30 = .ok (.iload_n 1, 1) := by decide +kernel
theorem dX8_link_31 : decode cX8_link 31 = .ok (.iload 4, 2) := by decide +kernel
theorem dX8_link_33 : decode cX8_link 33 = .ok (.iload 5, 2) := by decide +kernel
theorem dX8_link_35 : decode cX8_link 35 = .ok (.invokestatic 180, 3) := by decide +kernel
theorem dX8_link_38 : decode cX8_link 38 = .ok (.ifCond .ne 7, 3) := by decide +kernel
theorem dX8_link_41 : decode cX8_link 41 = .ok (.iconst 1, 1) := by decide +kernel
theorem dX8_link_42 : decode cX8_link 42 = .ok (.goto 4, 3) := by decide +kernel
theorem dX8_link_45 : decode cX8_link 45 = .ok (.iconst 0, 1) := by decide +kernel
theorem dX8_link_46 : decode cX8_link 46 = .ok (.iconst 2, 1) := by decide +kernel
theorem dX8_link_47 : decode cX8_link 47 = .ok (.invokevirtual 150, 3) := by decide +kernel
theorem dX8_link_50 : decode cX8_link 50 = .ok (.ifCond .eq 5, 3) := by decide +kernel
theorem dX8_link_53 : decode cX8_link 53 = .ok (.iconst 0, 1) := by decide +kernel
theorem dX8_link_54 : decode cX8_link 54 = .ok (.ireturn, 1) := by decide +kernel
theorem dX8_link_55 : decode cX8_link 55 = .ok (.aload_n 0, 1) := by decide +kernel
theorem dX8_link_56 : decode cX8_link 56 = .ok (.getfield 127, 3) := by decide +kernel
theorem dX8_link_59 : decode cX8_link 59 = .ok (.bipush 16, 2) := by decide +kernel
theorem dX8_link_61 : decode cX8_link 61 = .ok (.if_icmp .ne 7, 3) := by decide +kernel
theorem dX8_link_64 : decode cX8_link 64 = .ok (.iconst 1, 1) := by decide +kernel
theorem dX8_link_65 : decode cX8_link 65 = .ok (.goto 4, 3) := by decide +kernel
theorem dX8_link_68 : decode cX8_link 68 = .ok (.iconst 0, 1) := by decide +kernel
theorem dX8_link_69 : decode cX8_link 69 = .ok (.istore 6, 2) := by decide +kernel
theorem dX8_link_71 : decode cX8_link 71 = .ok (.aload_n 0, 1) := by decide +kernel
theorem dX8_link_72 : decode cX8_link 72 = .ok (.aload_n 0, 1) := by decide +kernel
theorem dX8_link_73 : decode cX8_link 73 = .ok (.iload_n 1, 1) := by decide +kernel
theorem dX8_link_74 : decode cX8_link 74 = .ok (.iload_n 2, 1) := by decide +kernel
theorem dX8_link_75 : decode cX8_link 75 = .ok (.iconst (-1), 1) := by decide +kernel
theorem dX8_link_76 : decode cX8_link 76 = .ok (.iload_n 3, 1) := by decide +kernel
theorem dX8_link_77 : decode cX8_link 77 = .ok (.iload 4, 2) := by decide +kernel
theorem dX8_link_79 : decode cX8_link 79 = .ok (.iload 5, 2) := by decide +kernel
theorem dX8_link_81 : decode cX8_link 81 = .ok (.invokevirtual 184, 3) := by decide +kernel
theorem dX8_link_84 : decode cX8_link 84 = .ok (.ifCond .ne 7, 3) := by decide +kernel
theorem dX8_link_87 : decode cX8_link 87 = .ok (.iconst 1, 1) := by decide +kernel
theorem dX8_link_88 : decode cX8_link 88 = .ok (.goto 4, 3) := by decide +kernel
theorem dX8_link_91 : decode cX8_link 91 = .ok (.iconst 0, 1) := by decide +kernel
theorem dX8_link_92 : decode cX8_link 92 = .ok (.iconst 3, 1) := by decide +kernel
theorem dX8_link_93 : decode cX8_link 93 = .ok (.invokevirtual 150, 3) := by decide +kernel
theorem dX8_link_96 : decode cX8_link 96 = .ok (.ifCond .ne 13, 3) := by decide +kernel
theorem dX8_link_99 : decode cX8_link 99 = .ok (.aload_n 0, 1) := by decide +kernel
theorem dX8_link_100 : decode cX8_link 100 = .ok (.iload 6, 2) := by decide +kernel
theorem dX8_link_102 : decode cX8_link 102 = .ok (.iconst 4, 1) := by decide +kernel
theorem dX8_link_103 : decode cX8_link 103 = .ok (.invokevirtual 150, 3) := by decide +kernel
theorem dX8_link_106 : decode cX8_link 106 = .ok (.ifCond .eq 5, 3) := by decide +kernel
theorem dX8_link_109 : decode cX8_link 109 = .ok (.iconst 0, 1) := by decide +kernel
theorem dX8_link_110 : decode cX8_link 110 = .ok (.ireturn, 1) := by decide +kernel
theorem dX8_link_111 : decode cX8_link 111 = .ok (.aload_n 0, 1) := by decide +kernel
theorem dX8_link_112 : decode cX8_link 112 = .ok (.invokevirtual 188, 3) := by decide +kernel
theorem dX8_link_115 : decode cX8_link 115 = .ok (.ireturn, 1) := by decide +kernel
theorem dX8_planets_0 : decode cX8_planets 0 = .ok (.aload_n 0, 1) := by decide +kernel
theorem dX8_planets_1 : decode cX8_planets 1 = .ok (.aload_n 0, 1) := by decide +kernel
theorem dX8_planets_2 : decode cX8_planets 2 = .ok (.iload_n 1, 1) := by decide +kernel
theorem dX8_planets_3 : decode cX8_planets 3 = .ok (.invokevirtual 176, 3) := by decide +kernel
theorem dX8_planets_6 : decode cX8_planets 6 = .ok (.ifCond .ne 19, 3) := by decide +kernel
theorem dX8_planets_9 : decode cX8_planets 9 = .ok (.aload_n 0, 1) := by decide +kernel
theorem dX8_planets_10 : decode cX8_planets 10 = .ok (.iload_n 2, 1) := by decide +kernel
theorem dX8_planets_11 : decode cX8_planets 11 = .ok (.invokevirtual 176, 3) := by decide +kernel
theorem dX8_planets_14 : decode cX8_planets 14 = .ok (.ifCond .ne 11, 3) := by decide +kernel
theorem dX8_planets_17 : decode cX8_planets 17 = .ok (.aload_n 0, 1) := by decide +kernel
theorem dX8_planets_18 : decode cX8_planets 18 = .ok (.iload_n 3, 1) := by decide +kernel
theorem dX8_planets_19 : decode cX8_planets 19 = .ok (.invokevirtual 176, 3) := by decide +kernel
theorem dX8_planets_22 : decode cX8_planets 22 = .ok (.ifCond .eq 7, 3) := by decide +kernel
theorem dX8_planets_25 : decode cX8_planets 25 = .ok (.iconst 1, 1) := by decide +kernel
theorem dX8_planets_26 : decode cX8_planets 26 = .ok (.goto 4, 3) := by decide +kernel
theorem dX8_planets_29 : decode cX8_planets 29 = .ok (.iconst 0, 1) := by decide +kernel
theorem dX8_planets_30 : decode cX8_planets 30 = .ok (.iconst 1, 1) := by decide +kernel
theorem dX8_planets_31 : decode cX8_planets 31 = .ok (.invokevirtual 150, 3) := by decide +kernel
theorem dX8_planets_34 : decode cX8_planets 34 = .ok (.ifCond .ne 40, 3) := by decide +kernel
theorem dX8_planets_37 : decode cX8_planets 37 = .ok (.aload_n 0, 1) := by decide +kernel
theorem dX8_planets_38 : decode cX8_planets 38 = .ok (.iload 4, 2) := by decide +kernel
theorem dX8_planets_40 : decode cX8_planets 40 = .ok (.bipush 6, 2) := by decide +kernel
theorem dX8_planets_42 : decode cX8_planets 42 = .ok (.bipush 30, 2) := by decide +kernel
theorem dX8_planets_44 : decode cX8_planets 44 = .ok (.invokestatic 123, 3) := by decide +kernel
theorem dX8_planets_47 : decode cX8_planets 47 = .ok (.ifCond .eq 15, 3) := by decide +kernel
theorem dX8_planets_50 : decode cX8_planets 50 = .ok (.iload 5, 2) := by decide +kernel
theorem dX8_planets_52 : decode cX8_planets 52 = .ok (.bipush 6, 2) := by decide +kernel
theorem dX8_planets_54 : decode cX8_planets 54 = .ok (.bipush 30, 2) := by decide +kernel
theorem dX8_planets_56 : decode cX8_planets 56 = .ok (.invokestatic 123, 3) := by decide +kernel
theorem dX8_planets_59 : decode cX8_planets 59 = .ok (.ifCond .ne 7, 3) := by decide +kernel
theorem dX8_planets_62 : decode cX8_planets 62 = .ok (.iconst 1, 1) := by decide +kernel
theorem dX8_planets_63 : decode cX8_planets 63 = .ok (.goto 4, 3) := by decide +kernel
theorem dX8_planets_66 : decode cX8_planets 66 = .ok (.iconst 0, 1) := by decide +kernel
theorem dX8_planets_67 : decode cX8_planets 67 = .ok (.iconst 2, 1) := by decide +kernel
theorem dX8_planets_68 : decode cX8_planets 68 = .ok (.invokevirtual 150, 3) := by decide +kernel
theorem dX8_planets_71 : decode cX8_planets 71 = .ok (.ifCond .eq 5, 3) := by decide +kernel
theorem dX8_planets_74 : decode cX8_planets 74 = .ok (.iconst 0, 1) := by decide +kernel
theorem dX8_planets_75 : decode cX8_planets 75 = .ok (.ireturn, 1) := by decide +kernel
theorem dX8_planets_76 : decode cX8_planets 76 = .ok (.aload_n 0, 1) := by decide +kernel
theorem dX8_planets_77 : decode cX8_planets 77 = .ok (.getfield 127, 3) := by decide +kernel
theorem dX8_planets_80 : decode cX8_planets 80 = .ok (.bipush 16, 2) := by decide +kernel
theorem dX8_planets_82 : decode cX8_planets 82 = .ok (.if_icmp .ne 7, 3) := by decide +kernel
theorem dX8_planets_85 : decode cX8_planets 85 = .ok (.iconst 1, 1) := by decide +kernel
theorem dX8_planets_86 : decode cX8_planets 86 = .ok (.goto 4, 3) := by decide +kernel
theorem dX8_planets_89 : decode cX8_planets 89 = .ok (.iconst 0, 1) := by decide +kernel
theorem dX8_planets_90 : decode cX8_planets 90 = .ok (.istore 6, 2) := by decide +kernel
theorem dX8_planets_92 : decode cX8_planets 92 = .ok (.aload_n 0, 1) := by decide +kernel
theorem dX8_planets_93 : decode cX8_planets 93 = .ok (.aload_n 0, 1) := by decide +kernel
theorem dX8_planets_94 : decode cX8_planets 94 = .ok (.bipush 112, 2) := by decide +kernel
theorem dX8_planets_96 : decode cX8_planets 96 = .ok (.iload_n 1, 1) := by decide +kernel
theorem dX8_planets_97 : decode cX8_planets 97 = .ok (.iload_n 2, 1) := by decide +kernel
theorem dX8_planets_98 : decode cX8_planets 98 = .ok (.iload_n 3, 1) := by decide +kernel
theorem dX8_planets_99 : decode cX8_planets 99 = .ok (.iload 4, 2) := by decide +kernel
theorem dX8_planets_101 : decode cX8_planets 101 = .ok (.iload 5, 2) := by decide +kernel
theorem dX8_planets_103 : decode cX8_planets 103 = .ok (.invokevirtual 184, 3) := by decide +kernel
theorem dX8_planets_106 : decode cX8_planets 106 = .ok (.ifCond .ne 7, 3) := by decide +kernel
theorem dX8_planets_109 : decode cX8_planets 109 = .ok (.iconst 1, 1) := by decide +kernel
theorem dX8_planets_110 : decode cX8_planets 110 = .ok (.goto 4, 3) := by decide +kernel
theorem dX8_planets_113 : decode cX8_planets 113 = .ok (.iconst 0, 1) := by decide +kernel
theorem dX8_planets_114 : decode cX8_planets 114 = .ok (.iconst 3, 1) := by decide +kernel
theorem dX8_planets_115 : decode cX8_planets 115 = .ok (.invokevirtual 150, 3) := by decide +kernel
theorem dX8_planets_118 : decode cX8_planets 118 = .ok (.ifCond .ne 13, 3) := by decide +kernel
theorem dX8_planets_121 : decode cX8_planets 121 = .ok (.aload_n 0, 1) := by decide +kernel
theorem dX8_planets_122 : decode cX8_planets 122 = .ok (.iload 6, 2) := by decide +kernel
theorem dX8_planets_124 : decode cX8_planets 124 = .ok (.iconst 4, 1) := by decide +kernel
theorem dX8_planets_125 : decode cX8_planets 125 = .ok (.invokevirtual 150, 3) := by decide +kernel
theorem dX8_planets_128 : decode cX8_planets 128 = .ok (.ifCond .eq 5, 3) := by decide +kernel
theorem dX8_planets_131 : decode cX8_planets 131 = .ok (.iconst 0, 1) := by decide +kernel
theorem dX8_planets_132 : decode cX8_planets 132 = .ok (.ireturn, 1) := by decide +kernel
theorem dX8_planets_133 : decode cX8_planets 133 = .ok (.aload_n 0, 1) := by decide +kernel
theorem dX8_planets_134 : decode cX8_planets 134 = .ok (.invokevirtual 188, 3) := by decide +kernel
theorem dX8_planets_137 : decode cX8_planets 137 = .ok (.ireturn, 1) := by decide +kernel
theorem dX8_engage_0 : decode cX8_engage 0 = .ok (.aload_n 0, 1) := by decide +kernel
theorem dX8_engage_1 : decode cX8_engage 1 = .ok (.aload_n 0, 1) := by decide +kernel
theorem dX8_engage_2 : decode cX8_engage 2 = .ok (.iload_n 1, 1) := by decide +kernel
theorem dX8_engage_3 : decode cX8_engage 3 = .ok (.invokevirtual 192, 3) := by decide +kernel
theorem dX8_engage_6 : decode cX8_engage 6 = .ok (.iconst 1, 1) := by decide +kernel
theorem dX8_engage_7 : decode cX8_engage 7 = .ok (.invokevirtual 150, 3) := by decide +kernel
theorem dX8_engage_10 : decode cX8_engage 10 = .ok (.ifCond .ne 27, 3) := by decide +kernel
theorem dX8_engage_13 : decode cX8_engage 13 = .ok (.aload_n 0, 1) := by decide +kernel
theorem dX8_engage_14 : decode cX8_engage 14 = .ok (.aload_n 0, 1) := by decide +kernel
theorem dX8_engage_15 : decode cX8_engage 15 = .ok (.getfield 39, 3) := by decide +kernel
theorem dX8_engage_18 : decode cX8_engage 18 = .ok (.iload_n 1, 1) := by decide +kernel
theorem dX8_engage_19 : decode cX8_engage 19 = .ok (.caload, 1) := by decide +kernel
theorem dX8_engage_20 : decode cX8_engage 20 = .ok (.bipush 107, 2) := by decide +kernel
theorem dX8_engage_22 : decode cX8_engage 22 = .ok (.if_icmp .eq 7, 3) := by decide +kernel
theorem dX8_engage_25 : decode cX8_engage 25 = .ok (.iconst 1, 1) := by decide +kernel
theorem dX8_engage_26 : decode cX8_engage 26 = .ok (.goto 4, 3) := by decide +kernel
theorem dX8_engage_29 : decode cX8_engage 29 = .ok (.iconst 0, 1) := by decide +kernel
theorem dX8_engage_30 : decode cX8_engage 30 = .ok (.iconst 2, 1) := by decide +kernel
theorem dX8_engage_31 : decode cX8_engage 31 = .ok (.invokevirtual 150, 3) := by decide +kernel
theorem dX8_engage_34 : decode cX8_engage 34 = .ok (.ifCond .eq 5, 3) := by decide +kernel
theorem dX8_engage_37 : decode cX8_engage 37 = .ok (.iconst 0, 1) := by decide +kernel
theorem dX8_engage_38 : decode cX8_engage 38 = .ok (.ireturn, 1) := by decide +kernel
theorem dX8_engage_39 : decode cX8_engage 39 = .ok (.aload_n 0, 1) := by decide +kernel
theorem dX8_engage_40 : decode cX8_engage 40 = .ok (.getfield 58, 3) := by decide +kernel
theorem dX8_engage_43 : decode cX8_engage 43 = .ok (.iload_n 1, 1) := by decide +kernel
theorem dX8_engage_44 : decode cX8_engage 44 = .ok (.baload, 1) := by decide +kernel
theorem dX8_engage_45 : decode cX8_engage 45 = .ok (.ifCond .ne 7, 3) := by decide +kernel
theorem dX8_engage_48 : decode cX8_engage 48 = .ok (.iconst 1, 1) := by decide +kernel
theorem dX8_engage_49 : decode cX8_engage 49 = .ok (.goto 4, 3) := by decide +kernel
theorem dX8_engage_52 : decode cX8_engage 52 = .ok (.iconst 0, 1) := by decide +kernel
theorem dX8_engage_53 : decode cX8_engage 53 = .ok (.istore_n 3, 1) := by decide +kernel
theorem dX8_engage_54 : decode cX8_engage 54 = .ok (.aload_n 0, 1) := by decide +kernel
theorem dX8_engage_55 : decode cX8_engage 55 = .ok (.getfield 58, 3) := by decide +kernel
theorem dX8_engage_58 : decode cX8_engage 58 = .ok (.iload_n 1, 1) := by decide +kernel
theorem dX8_engage_59 : decode cX8_engage 59 = .ok (.iload_n 2, 1) := by decide +kernel
theorem dX8_engage_60 : decode cX8_engage 60 = .ok (.ifCond .ne 7, 3) := by decide +kernel
theorem dX8_engage_63 : decode cX8_engage 63 = .ok (.iconst 1, 1) := by decide +kernel
theorem dX8_engage_64 : decode cX8_engage 64 = .ok (.goto 4, 3) := by decide +kernel
theorem dX8_engage_67 : decode cX8_engage 67 = .ok (.iconst 0, 1) := by decide +kernel
theorem dX8_engage_68 : decode cX8_engage 68 = .ok (.bastore, 1) := by decide +kernel
theorem dX8_engage_69 : decode cX8_engage 69 = .ok (.iload_n 3, 1) := by decide +kernel
theorem dX8_engage_70 : decode cX8_engage 70 = .ok (.ireturn, 1) := by decide +kernel
theorem dX8_life_0 : decode cX8_life 0 = .ok (.aload_n 0, 1) := by decide +kernel
theorem dX8_life_1 : decode cX8_life 1 = .ok (.aload_n 0, 1) := by decide +kernel
theorem dX8_life_2 : decode cX8_life 2 = .ok (.iload_n 1, 1) := by decide +kernel
theorem dX8_life_3 : decode cX8_life 3 = .ok (.invokevirtual 192, 3) := by decide +kernel
theorem dX8_life_6 : decode cX8_life 6 = .ok (.iconst 1, 1) := by decide +kernel
theorem dX8_life_7 : decode cX8_life 7 = .ok (.invokevirtual 150, 3) := by decide +kernel
theorem dX8_life_10 : decode cX8_life 10 = .ok (.ifCond .ne 27, 3) := by decide +kernel
theorem dX8_life_13 : decode cX8_life 13 = .ok (.aload_n 0, 1) := by decide +kernel
theorem dX8_life_14 : decode cX8_life 14 = .ok (.iload_n 2, 1) := by decide +kernel
theorem dX8_life_15 : decode cX8_life 15 = .ok (.iconst 0, 1) := by decide +kernel
theorem dX8_life_16 : decode cX8_life 16 = .ok (.sipush 999, 3) := by decide +kernel
theorem dX8_life_19 : decode cX8_life 19 = .ok (.invokestatic 123, 3) := by decide +kernel
theorem dX8_life_22 : decode cX8_life 22 = .ok (.ifCond .ne 7, 3) := by decide +kernel
theorem dX8_life_25 : decode cX8_life 25 = .ok (.iconst 1, 1) := by decide +kernel
theorem dX8_life_26 : decode cX8_life 26 = .ok (.goto 4, 3) := by decide +kernel
theorem dX8_life_29 : decode cX8_life 29 = .ok (.iconst 0, 1) := by decide +kernel
theorem dX8_life_30 : decode cX8_life 30 = .ok (.iconst 2, 1) := by decide +kernel
theorem dX8_life_31 : decode cX8_life 31 = .ok (.invokevirtual 150, 3) := by decide +kernel
theorem dX8_life_34 : decode cX8_life 34 = .ok (.ifCond .eq 5, 3) := by decide +kernel
theorem dX8_life_37 : decode cX8_life 37 = .ok (.iconst 0, 1) := by decide +kernel
theorem dX8_life_38 : decode cX8_life 38 = .ok (.ireturn, 1) := by decide +kernel
theorem dX8_life_39 : decode cX8_life 39 = .ok (.aload_n 0, 1) := by decide +kernel
theorem dX8_life_40 : decode cX8_life 40 = .ok (.getfield 64, 3) := by decide +kernel
theorem dX8_life_43 : decode cX8_life 43 = .ok (.iload_n 1, 1) := by decide +kernel
theorem dX8_life_44 : decode cX8_life 44 = .ok (.iaload, 1) := by decide +kernel
theorem dX8_life_45 : decode cX8_life 45 = .ok (.istore_n 3, 1) := by decide +kernel
theorem dX8_life_46 : decode cX8_life 46 = .ok (.aload_n 0, 1) := by decide +kernel
theorem dX8_life_47 : decode cX8_life 47 = .ok (.getfield 64, 3) := by decide +kernel
theorem dX8_life_50 : decode cX8_life 50 = .ok (.iload_n 1, 1) := by decide +kernel
theorem dX8_life_51 : decode cX8_life 51 = .ok (.iload_n 2, 1) := by decide +kernel
theorem dX8_life_52 : decode cX8_life 52 = .ok (.iastore, 1) := by decide +kernel
theorem dX8_life_53 : decode cX8_life 53 = .ok (.iload_n 3, 1) := by decide +kernel
theorem dX8_life_54 : decode cX8_life 54 = .ok (.ireturn, 1) := by decide +kernel
theorem dX8_slack_0 : decode cX8_slack 0 = .ok (.aload_n 0, 1) := by decide +kernel
theorem dX8_slack_1 : decode cX8_slack 1 = .ok (.aload_n 0, 1) := by decide +kernel
theorem dX8_slack_2 : decode cX8_slack 2 = .ok (.iload_n 1, 1) := by decide +kernel
theorem dX8_slack_3 : decode cX8_slack 3 = .ok (.invokevirtual 192, 3) := by decide +kernel
theorem dX8_slack_6 : decode cX8_slack 6 = .ok (.iconst 1, 1) := by decide +kernel
theorem dX8_slack_7 : decode cX8_slack 7 = .ok (.invokevirtual 150, 3) := by decide +kernel
theorem dX8_slack_10 : decode cX8_slack 10 = .ok (.ifCond .ne 26, 3) := by decide +kernel
theorem dX8_slack_13 : decode cX8_slack 13 = .ok (.aload_n 0, 1) := by decide +kernel
theorem dX8_slack_14 : decode cX8_slack 14 = .ok (.iload_n 2, 1) := by decide +kernel
theorem dX8_slack_15 : decode cX8_slack 15 = .ok (.iconst 0, 1) := by decide +kernel
theorem dX8_slack_16 : decode cX8_slack 16 = .ok (.bipush 99, 2) := by decide +kernel
theorem dX8_slack_18 : decode cX8_slack 18 = .ok (.invokestatic 123, 3) := by decide +kernel
theorem dX8_slack_21 : decode cX8_slack 21 = .ok (.ifCond .ne 7, 3) := by decide +kernel
theorem dX8_slack_24 : decode cX8_slack 24 = .ok (.iconst 1, 1) := by decide +kernel
theorem dX8_slack_25 : decode cX8_slack 25 = .ok (.goto 4, 3) := by decide +kernel
theorem dX8_slack_28 : decode cX8_slack 28 = .ok (.iconst 0, 1) := by decide +kernel
theorem dX8_slack_29 : decode cX8_slack 29 = .ok (.iconst 2, 1) := by decide +kernel
theorem dX8_slack_30 : decode cX8_slack 30 = .ok (.invokevirtual 150, 3) := by decide +kernel
theorem dX8_slack_33 : decode cX8_slack 33 = .ok (.ifCond .eq 5, 3) := by decide +kernel
theorem dX8_slack_36 : decode cX8_slack 36 = .ok (.iconst 0, 1) := by decide +kernel
theorem dX8_slack_37 : decode cX8_slack 37 = .ok (.ireturn, 1) := by decide +kernel
theorem dX8_slack_38 : decode cX8_slack 38 = .ok (.aload_n 0, 1) := by decide +kernel
theorem dX8_slack_39 : decode cX8_slack 39 = .ok (.getfield 67, 3) := by decide +kernel
theorem dX8_slack_42 : decode cX8_slack 42 = .ok (.iload_n 1, 1) := by decide +kernel
theorem dX8_slack_43 : decode cX8_slack 43 = .ok (.iaload, 1) := by decide +kernel
theorem dX8_slack_44 : decode cX8_slack 44 = .ok (.istore_n 3, 1) := by decide +kernel
theorem dX8_slack_45 : decode cX8_slack 45 = .ok (.aload_n 0, 1) := by decide +kernel
theorem dX8_slack_46 : decode cX8_slack 46 = .ok (.getfield 67, 3) := by decide +kernel
theorem dX8_slack_49 : decode cX8_slack 49 = .ok (.iload_n 1, 1) := by decide +kernel
theorem dX8_slack_50 : decode cX8_slack 50 = .ok (.iload_n 2, 1) := by decide +kernel
theorem dX8_slack_51 : decode cX8_slack 51 = .ok (.iastore, 1) := by decide +kernel
theorem dX8_slack_52 : decode cX8_slack 52 = .ok (.iload_n 3, 1) := by decide +kernel
theorem dX8_slack_53 : decode cX8_slack 53 = .ok (.ireturn, 1) := by decide +kernel
theorem dX8_isBehind_0 : decode cX8_isBehind 0 = .ok (.iload_n 1, 1) := by decide +kernel
theorem dX8_isBehind_1 : decode cX8_isBehind 1 = .ok (.iload_n 2, 1) := by decide +kernel
theorem dX8_isBehind_2 : decode cX8_isBehind 2 = .ok (.if_icmp .ne 5, 3) := by decide +kernel
theorem dX8_isBehind_5 : decode cX8_isBehind 5 = .ok (.iconst 1, 1) := by decide +kernel
theorem dX8_isBehind_6 : decode cX8_isBehind 6 = .ok (.ireturn, 1) := by decide +kernel
theorem dX8_isBehind_7 : decode cX8_isBehind 7 = .ok (.aload_n 0, 1) := by decide +kernel
theorem dX8_isBehind_8 : decode cX8_isBehind 8 = .ok (.getfield 32, 3) := by decide +kernel
theorem dX8_isBehind_11 : decode cX8_isBehind 11 = .ok (.iload_n 1, 1) := by decide +kernel
theorem dX8_isBehind_12 : decode cX8_isBehind 12 = .ok (.iaload, 1) := by decide +kernel
theorem dX8_isBehind_13 : decode cX8_isBehind 13 = .ok (.istore_n 3, 1) := by decide +kernel
theorem dX8_isBehind_14 : decode cX8_isBehind 14 = .ok (.iload_n 3, 1) := by decide +kernel
theorem dX8_isBehind_15 : decode cX8_isBehind 15 = .ok (.iconst (-1), 1) := by decide +kernel
theorem dX8_isBehind_16 : decode cX8_isBehind 16 = .ok (.if_icmp .eq 45, 3) := by decide +kernel
theorem dX8_isBehind_19 : decode cX8_isBehind 19 = .ok (.aload_n 0, 1) := by decide +kernel
theorem dX8_isBehind_20 : decode cX8_isBehind 20 = .ok (.aload_n 0, 1) := by decide +kernel
theorem dX8_isBehind_21 : decode cX8_isBehind 21 = .ok (.getfield 43, 3) := by decide +kernel
theorem dX8_isBehind_24 : decode cX8_isBehind 24 = .ok (.iload_n 3, 1) := by decide +kernel
theorem dX8_isBehind_25 : decode cX8_isBehind 25 = .ok (.iaload, 1) := by decide +kernel
theorem dX8_isBehind_26 : decode cX8_isBehind 26 = .ok (.iload_n 2, 1) := by decide +kernel
theorem dX8_isBehind_27 : decode cX8_isBehind 27 = .ok (.invokevirtual 195, 3) := by decide +kernel
theorem dX8_isBehind_30 : decode cX8_isBehind 30 = .ok (.ifCond .ne 27, 3) := by decide +kernel
theorem dX8_isBehind_33 : decode cX8_isBehind 33 = .ok (.aload_n 0, 1) := by decide +kernel
theorem dX8_isBehind_34 : decode cX8_isBehind 34 = .ok (.getfield 46, 3) := by decide +kernel
theorem dX8_isBehind_37 : decode cX8_isBehind 37 = .ok (.iload_n 3, 1) := by decide +kernel
theorem dX8_isBehind_38 : decode cX8_isBehind 38 = .ok (.iaload, 1) := by decide +kernel
theorem dX8_isBehind_39 : decode cX8_isBehind 39 = .ok (.iconst (-1), 1) := by decide +kernel
theorem dX8_isBehind_40 : decode cX8_isBehind 40 = .ok (.if_icmp .eq 21, 3) := by decide +kernel
theorem dX8_isBehind_43 : decode cX8_isBehind 43 = .ok (.aload_n 0, 1) := by decide +kernel
theorem dX8_isBehind_44 : decode cX8_isBehind 44 = .ok (.aload_n 0, 1) := by decide +kernel
theorem dX8_isBehind_45 : decode cX8_isBehind 45 = .ok (.getfield 46, 3) := by decide +kernel
theorem dX8_isBehind_48 : decode cX8_isBehind 48 = .ok (.iload_n 3, 1) := by decide +kernel
theorem dX8_isBehind_49 : decode cX8_isBehind 49 = .ok (.iaload, 1) := by decide +kernel
theorem dX8_isBehind_50 : decode cX8_isBehind 50 = .ok (.iload_n 2, 1) := by decide +kernel
theorem dX8_isBehind_51 : decode cX8_isBehind 51 = .ok (.invokevirtual 195, 3) := by decide +kernel
theorem dX8_isBehind_54 : decode cX8_isBehind 54 = .ok (.ifCond .eq 7, 3) := by decide +kernel
theorem dX8_isBehind_57 : decode cX8_isBehind 57 = .ok (.iconst 1, 1) := by decide +kernel
theorem dX8_isBehind_58 : decode cX8_isBehind 58 = .ok (.goto 4, 3) := by decide +kernel
theorem dX8_isBehind_61 : decode cX8_isBehind 61 = .ok (.iconst 0, 1) := by decide +kernel
theorem dX8_isBehind_62 : decode cX8_isBehind 62 = .ok (.ireturn, 1) := by decide +kernel
theorem dX8_follow_0 : decode cX8_follow 0 = .ok (.aload_n 0, 1) := by decide +kernel
theorem dX8_follow_1 : decode cX8_follow 1 = .ok (.getfield 32, 3) := by decide +kernel
theorem dX8_follow_4 : decode cX8_follow 4 = .ok (.iload_n 1, 1) := by decide +kernel
theorem dX8_follow_5 : decode cX8_follow 5 = .ok (.iaload, 1) := by decide +kernel
theorem dX8_follow_6 : decode cX8_follow 6 = .ok (.istore_n 2, 1) := by decide +kernel
theorem dX8_follow_7 : decode cX8_follow 7 = .ok (.aload_n 0, 1) := by decide +kernel
theorem dX8_follow_8 : decode cX8_follow 8 = .ok (.getfield 43, 3) := by decide +kernel
theorem dX8_follow_11 : decode cX8_follow 11 = .ok (.iload_n 2, 1) := by decide +kernel
theorem dX8_follow_12 : decode cX8_follow 12 = .ok (.iaload, 1) := by decide +kernel
theorem dX8_follow_13 : decode cX8_follow 13 = .ok (.istore_n 3, 1) := by decide +kernel
theorem dX8_follow_14 : decode cX8_follow 14 = .ok (.aload_n 0, 1) := by decide +kernel
theorem dX8_follow_15 : decode cX8_follow 15 = .ok (.lconst 0, 1) := by decide +kernel
theorem dX8_follow_16 : decode cX8_follow 16 = .ok (.putfield 140, 3) := by decide +kernel
theorem dX8_follow_19 : decode cX8_follow 19 = .ok (.aload_n 0, 1) := by decide +kernel
theorem dX8_follow_20 : decode cX8_follow 20 = .ok (.lconst 1, 1) := by decide +kernel
theorem dX8_follow_21 : decode cX8_follow 21 = .ok (.putfield 112, 3) := by decide +kernel
theorem dX8_follow_24 : decode cX8_follow 24 = .ok (.aload_n 0, 1) := by decide +kernel
theorem dX8_follow_25 : decode cX8_follow 25 = .ok (.getfield 61, 3) := by decide +kernel
theorem dX8_follow_28 : decode cX8_follow 28 = .ok (.iload_n 2, 1) := by decide +kernel
theorem dX8_follow_29 : decode cX8_follow 29 = .ok (.baload, 1) := by decide +kernel
theorem dX8_follow_30 : decode cX8_follow 30 = .ok (.ifCond .ne 12, 3) := by decide +kernel
theorem dX8_follow_33 : decode cX8_follow 33 = .ok (.aload_n 0, 1) := by decide +kernel
theorem dX8_follow_34 : decode cX8_follow 34 = .ok (.getfield 58, 3) := by decide +kernel
theorem dX8_follow_37 : decode cX8_follow 37 = .ok (.iload_n 2, 1) := by decide +kernel
theorem dX8_follow_38 : decode cX8_follow 38 = .ok (.baload, 1) := by decide +kernel
theorem dX8_follow_39 : decode cX8_follow 39 = .ok (.ifCond .eq 4, 3) := by decide +kernel
theorem dX8_follow_42 : decode cX8_follow 42 = .ok (.return_, 1) := by decide +kernel
theorem dX8_follow_43 : decode cX8_follow 43 = .ok (.aload_n 0, 1) := by decide +kernel
theorem dX8_follow_44 : decode cX8_follow 44 = .ok (.getfield 52, 3) := by decide +kernel
theorem dX8_follow_47 : decode cX8_follow 47 = .ok (.iload_n 2, 1) := by decide +kernel
theorem dX8_follow_48 : decode cX8_follow 48 = .ok (.iaload, 1) := by decide +kernel
theorem dX8_follow_49 : decode cX8_follow 49 = .ok (.i2l, 1) := by decide +kernel
theorem dX8_follow_50 : decode cX8_follow 50 = .ok (.lstore 4, 2) := by decide +kernel
theorem dX8_follow_52 : decode cX8_follow 52 = .ok (.aload_n 0, 1) := by decide +kernel
theorem dX8_follow_53 : decode cX8_follow 53 = .ok (.getfield 55, 3) := by decide +kernel
theorem dX8_follow_56 : decode cX8_follow 56 = .ok (.iload_n 2, 1) := by decide +kernel
theorem dX8_follow_57 : decode cX8_follow 57 = .ok (.iaload, 1) := by decide +kernel
theorem dX8_follow_58 : decode cX8_follow 58 = .ok (.i2l, 1) := by decide +kernel
theorem dX8_follow_59 : decode cX8_follow 59 = .ok (.lstore 6, 2) := by decide +kernel
theorem dX8_follow_61 : decode cX8_follow 61 = .ok (.aload_n 0, 1) := by decide +kernel
theorem dX8_follow_62 : decode cX8_follow 62 = .ok (.getfield 39, 3) := by decide +kernel
theorem dX8_follow_65 : decode cX8_follow 65 = .ok (.iload_n 2, 1) := by decide +kernel
theorem dX8_follow_66 : decode cX8_follow 66 = .ok (.caload, 1) := by decide +kernel
theorem dX8_follow_67 : decode cX8_follow 67 = .ok (.lookupswitch 263 #[(103, 49), (105, 73), (107, 96), (114, 181), (118, 115)], 49) := by decide +kernel
theorem dX8_follow_116 : decode cX8_follow 116 = .ok (.aload_n 0, 1) := by decide +kernel
theorem dX8_follow_117 : decode cX8_follow 117 = .ok (.aload_n 0, 1) := by decide +kernel
theorem dX8_follow_118 : decode cX8_follow 118 = .ok (.getfield 16, 3) := by decide +kernel
theorem dX8_follow_121 : decode cX8_follow 121 = .ok (.iload_n 3, 1) := by decide +kernel
theorem dX8_follow_122 : decode cX8_follow 122 = .ok (.laload, 1) := by decide +kernel
theorem dX8_follow_123 : decode cX8_follow 123 = .ok (.lneg, 1) := by decide +kernel
theorem dX8_follow_124 : decode cX8_follow 124 = .ok (.aload_n 0, 1) := by decide +kernel
theorem dX8_follow_125 : decode cX8_follow 125 = .ok (.getfield 19, 3) := by decide +kernel
theorem dX8_follow_128 : decode cX8_follow 128 = .ok (.iload_n 3, 1) := by decide +kernel
theorem dX8_follow_129 : decode cX8_follow 129 = .ok (.laload, 1) := by decide +kernel
theorem dX8_follow_130 : decode cX8_follow 130 = .ok (.lload 4, 2) := by decide +kernel
theorem dX8_follow_132 : decode cX8_follow 132 = .ok (.lload 6, 2) := by decide +kernel
theorem dX8_follow_134 : decode cX8_follow 134 = .ok (.invokevirtual 198, 3) := by decide +kernel
theorem dX8_follow_137 : decode cX8_follow 137 = .ok (.goto 277, 3) := by decide +kernel
theorem dX8_follow_140 : decode cX8_follow 140 = .ok (.aload_n 0, 1) := by decide +kernel
theorem dX8_follow_141 : decode cX8_follow 141 = .ok (.aload_n 0, 1) := by decide +kernel
theorem dX8_follow_142 : decode cX8_follow 142 = .ok (.getfield 16, 3) := by decide +kernel
theorem dX8_follow_145 : decode cX8_follow 145 = .ok (.iload_n 3, 1) := by decide +kernel
theorem dX8_follow_146 : decode cX8_follow 146 = .ok (.laload, 1) := by decide +kernel
theorem dX8_follow_147 : decode cX8_follow 147 = .ok (.aload_n 0, 1) := by decide +kernel
theorem dX8_follow_148 : decode cX8_follow 148 = .ok (.getfield 19, 3) := by decide +kernel
theorem dX8_follow_151 : decode cX8_follow 151 = .ok (.iload_n 3, 1) := by decide +kernel
theorem dX8_follow_152 : decode cX8_follow 152 = .ok (.laload, 1) := by decide +kernel
theorem dX8_follow_153 : decode cX8_follow 153 = .ok (.lload 4, 2) := by decide +kernel
theorem dX8_follow_155 : decode cX8_follow 155 = .ok (.lload 6, 2) := by decide +kernel
theorem dX8_follow_157 : decode cX8_follow 157 = .ok (.invokevirtual 198, 3) := by decide +kernel
theorem dX8_follow_160 : decode cX8_follow 160 = .ok (.goto 254, 3) := by decide +kernel
theorem dX8_follow_163 : decode cX8_follow 163 = .ok (.aload_n 0, 1) := by decide +kernel
theorem dX8_follow_164 : decode cX8_follow 164 = .ok (.aload_n 0, 1) := by decide +kernel
theorem dX8_follow_165 : decode cX8_follow 165 = .ok (.getfield 16, 3) := by decide +kernel
theorem dX8_follow_168 : decode cX8_follow 168 = .ok (.iload_n 3, 1) := by decide +kernel
theorem dX8_follow_169 : decode cX8_follow 169 = .ok (.laload, 1) := by decide +kernel
theorem dX8_follow_170 : decode cX8_follow 170 = .ok (.aload_n 0, 1) := by decide +kernel
theorem dX8_follow_171 : decode cX8_follow 171 = .ok (.getfield 19, 3) := by decide +kernel
theorem dX8_follow_174 : decode cX8_follow 174 = .ok (.iload_n 3, 1) := by decide +kernel
theorem dX8_follow_175 : decode cX8_follow 175 = .ok (.laload, 1) := by decide +kernel
theorem dX8_follow_176 : decode cX8_follow 176 = .ok (.invokevirtual 143, 3) := by decide +kernel
theorem dX8_follow_179 : decode cX8_follow 179 = .ok (.goto 235, 3) := by decide +kernel
theorem dX8_follow_182 : decode cX8_follow 182 = .ok (.aload_n 0, 1) := by decide +kernel
theorem dX8_follow_183 : decode cX8_follow 183 = .ok (.aload_n 0, 1) := by decide +kernel
theorem dX8_follow_184 : decode cX8_follow 184 = .ok (.getfield 9, 3) := by decide +kernel
theorem dX8_follow_187 : decode cX8_follow 187 = .ok (.iload_n 3, 1) := by decide +kernel
theorem dX8_follow_188 : decode cX8_follow 188 = .ok (.laload, 1) := by decide +kernel
theorem dX8_follow_189 : decode cX8_follow 189 = .ok (.aload_n 0, 1) := by decide +kernel
theorem dX8_follow_190 : decode cX8_follow 190 = .ok (.getfield 13, 3) := by decide +kernel
theorem dX8_follow_193 : decode cX8_follow 193 = .ok (.iload_n 3, 1) := by decide +kernel
theorem dX8_follow_194 : decode cX8_follow 194 = .ok (.laload, 1) := by decide +kernel
theorem dX8_follow_195 : decode cX8_follow 195 = .ok (.aload_n 0, 1) := by decide +kernel
theorem dX8_follow_196 : decode cX8_follow 196 = .ok (.getfield 16, 3) := by decide +kernel
theorem dX8_follow_199 : decode cX8_follow 199 = .ok (.iload_n 3, 1) := by decide +kernel
theorem dX8_follow_200 : decode cX8_follow 200 = .ok (.laload, 1) := by decide +kernel
theorem dX8_follow_201 : decode cX8_follow 201 = .ok (.aload_n 0, 1) := by decide +kernel
theorem dX8_follow_202 : decode cX8_follow 202 = .ok (.getfield 19, 3) := by decide +kernel
theorem dX8_follow_205 : decode cX8_follow 205 = .ok (.iload_n 3, 1) := by decide +kernel
theorem dX8_follow_206 : decode cX8_follow 206 = .ok (.laload, 1) := by decide +kernel
theorem dX8_follow_207 : decode cX8_follow 207 = .ok (.invokevirtual 202, 3) := by decide +kernel
theorem dX8_follow_210 : decode cX8_follow 210 = .ok (.aload_n 0, 1) := by decide +kernel
theorem dX8_follow_211 : decode cX8_follow 211 = .ok (.lconst 1, 1) := by decide +kernel
theorem dX8_follow_212 : decode cX8_follow 212 = .ok (.aload_n 0, 1) := by decide +kernel
theorem dX8_follow_213 : decode cX8_follow 213 = .ok (.getfield 140, 3) := by decide +kernel
theorem dX8_follow_216 : decode cX8_follow 216 = .ok (.aload_n 0, 1) := by decide +kernel
theorem dX8_follow_217 : decode cX8_follow 217 = .ok (.getfield 112, 3) := by decide +kernel
theorem dX8_follow_220 : decode cX8_follow 220 = .ok (.invokestatic 172, 3) := by decide +kernel
theorem dX8_follow_223 : decode cX8_follow 223 = .ok (.lconst 1, 1) := by decide +kernel
theorem dX8_follow_224 : decode cX8_follow 224 = .ok (.aload_n 0, 1) := by decide +kernel
theorem dX8_follow_225 : decode cX8_follow 225 = .ok (.getfield 9, 3) := by decide +kernel
theorem dX8_follow_228 : decode cX8_follow 228 = .ok (.iload_n 3, 1) := by decide +kernel
theorem dX8_follow_229 : decode cX8_follow 229 = .ok (.laload, 1) := by decide +kernel
theorem dX8_follow_230 : decode cX8_follow 230 = .ok (.aload_n 0, 1) := by decide +kernel
theorem dX8_follow_231 : decode cX8_follow 231 = .ok (.getfield 13, 3) := by decide +kernel
theorem dX8_follow_234 : decode cX8_follow 234 = .ok (.iload_n 3, 1) := by decide +kernel
theorem dX8_follow_235 : decode cX8_follow 235 = .ok (.laload, 1) := by decide +kernel
theorem dX8_follow_236 : decode cX8_follow 236 = .ok (.invokestatic 172, 3) := by decide +kernel
theorem dX8_follow_239 : decode cX8_follow 239 = .ok (.lsub, 1) := by decide +kernel
theorem dX8_follow_240 : decode cX8_follow 240 = .ok (.lload 4, 2) := by decide +kernel
theorem dX8_follow_242 : decode cX8_follow 242 = .ok (.invokevirtual 143, 3) := by decide +kernel
theorem dX8_follow_245 : decode cX8_follow 245 = .ok (.goto 169, 3) := by decide +kernel
theorem dX8_follow_248 : decode cX8_follow 248 = .ok (.aload_n 0, 1) := by decide +kernel
theorem dX8_follow_249 : decode cX8_follow 249 = .ok (.aload_n 0, 1) := by decide +kernel
theorem dX8_follow_250 : decode cX8_follow 250 = .ok (.getfield 9, 3) := by decide +kernel
theorem dX8_follow_253 : decode cX8_follow 253 = .ok (.iload_n 3, 1) := by decide +kernel
theorem dX8_follow_254 : decode cX8_follow 254 = .ok (.laload, 1) := by decide +kernel
theorem dX8_follow_255 : decode cX8_follow 255 = .ok (.aload_n 0, 1) := by decide +kernel
theorem dX8_follow_256 : decode cX8_follow 256 = .ok (.getfield 13, 3) := by decide +kernel
theorem dX8_follow_259 : decode cX8_follow 259 = .ok (.iload_n 3, 1) := by decide +kernel
theorem dX8_follow_260 : decode cX8_follow 260 = .ok (.laload, 1) := by decide +kernel
theorem dX8_follow_261 : decode cX8_follow 261 = .ok (.aload_n 0, 1) := by decide +kernel
theorem dX8_follow_262 : decode cX8_follow 262 = .ok (.getfield 16, 3) := by decide +kernel
theorem dX8_follow_265 : decode cX8_follow 265 = .ok (.iload_n 3, 1) := by decide +kernel
theorem dX8_follow_266 : decode cX8_follow 266 = .ok (.laload, 1) := by decide +kernel
theorem dX8_follow_267 : decode cX8_follow 267 = .ok (.aload_n 0, 1) := by decide +kernel
theorem dX8_follow_268 : decode cX8_follow 268 = .ok (.getfield 19, 3) := by decide +kernel
theorem dX8_follow_271 : decode cX8_follow 271 = .ok (.iload_n 3, 1) := by decide +kernel
theorem dX8_follow_272 : decode cX8_follow 272 = .ok (.laload, 1) := by decide +kernel
theorem dX8_follow_273 : decode cX8_follow 273 = .ok (.invokevirtual 202, 3) := by decide +kernel
theorem dX8_follow_276 : decode cX8_follow 276 = .ok (.lload 4, 2) := by decide +kernel
theorem dX8_follow_278 : decode cX8_follow 278 = .ok (.aload_n 0, 1) := by decide +kernel
theorem dX8_follow_279 : decode cX8_follow 279 = .ok (.getfield 140, 3) := by decide +kernel
theorem dX8_follow_282 : decode cX8_follow 282 = .ok (.aload_n 0, 1) := by decide +kernel
theorem dX8_follow_283 : decode cX8_follow 283 = .ok (.getfield 112, 3) := by decide +kernel
theorem dX8_follow_286 : decode cX8_follow 286 = .ok (.invokestatic 172, 3) := by decide +kernel
theorem dX8_follow_289 : decode cX8_follow 289 = .ok (.lstore 12, 2) := by decide +kernel
theorem dX8_follow_291 : decode cX8_follow 291 = .ok (.aload_n 0, 1) := by decide +kernel
theorem dX8_follow_292 : decode cX8_follow 292 = .ok (.lconst 0, 1) := by decide +kernel
theorem dX8_follow_293 : decode cX8_follow 293 = .ok (.lload 12, 2) := by decide +kernel
theorem dX8_follow_295 : decode cX8_follow 295 = .ok (.aload_n 0, 1) := by decide +kernel
theorem dX8_follow_296 : decode cX8_follow 296 = .ok (.getfield 76, 3) := by decide +kernel
theorem dX8_follow_299 : decode cX8_follow 299 = .ok (.iload_n 2, 1) := by decide +kernel
theorem dX8_follow_300 : decode cX8_follow 300 = .ok (.laload, 1) := by decide +kernel
theorem dX8_follow_301 : decode cX8_follow 301 = .ok (.lsub, 1) := by decide +kernel
theorem dX8_follow_302 : decode cX8_follow 302 = .ok (.invokestatic 205, 3) := by decide +kernel
theorem dX8_follow_305 : decode cX8_follow 305 = .ok (.lload 4, 2) := by decide +kernel
theorem dX8_follow_307 : decode cX8_follow 307 = .ok (.invokevirtual 143, 3) := by decide +kernel
theorem dX8_follow_310 : decode cX8_follow 310 = .ok (.aload_n 0, 1) := by decide +kernel
theorem dX8_follow_311 : decode cX8_follow 311 = .ok (.getfield 76, 3) := by decide +kernel
theorem dX8_follow_314 : decode cX8_follow 314 = .ok (.iload_n 2, 1) := by decide +kernel
theorem dX8_follow_315 : decode cX8_follow 315 = .ok (.aload_n 0, 1) := by decide +kernel
theorem dX8_follow_316 : decode cX8_follow 316 = .ok (.getfield 76, 3) := by decide +kernel
theorem dX8_follow_319 : decode cX8_follow 319 = .ok (.iload_n 2, 1) := by decide +kernel
theorem dX8_follow_320 : decode cX8_follow 320 = .ok (.laload, 1) := by decide +kernel
theorem dX8_follow_321 : decode cX8_follow 321 = .ok (.lload 12, 2) := by decide +kernel
theorem dX8_follow_323 : decode cX8_follow 323 = .ok (.invokestatic 205, 3) := by decide +kernel
theorem dX8_follow_326 : decode cX8_follow 326 = .ok (.lastore, 1) := by decide +kernel
theorem dX8_follow_327 : decode cX8_follow 327 = .ok (.goto 87, 3) := by decide +kernel
theorem dX8_follow_330 : decode cX8_follow 330 = .ok (.aload_n 0, 1) := by decide +kernel
theorem dX8_follow_331 : decode cX8_follow 331 = .ok (.aload_n 0, 1) := by decide +kernel
theorem dX8_follow_332 : decode cX8_follow 332 = .ok (.getfield 16, 3) := by decide +kernel
theorem dX8_follow_335 : decode cX8_follow 335 = .ok (.iload_n 3, 1) := by decide +kernel
theorem dX8_follow_336 : decode cX8_follow 336 = .ok (.laload, 1) := by decide +kernel
theorem dX8_follow_337 : decode cX8_follow 337 = .ok (.aload_n 0, 1) := by decide +kernel
theorem dX8_follow_338 : decode cX8_follow 338 = .ok (.getfield 19, 3) := by decide +kernel
theorem dX8_follow_341 : decode cX8_follow 341 = .ok (.iload_n 3, 1) := by decide +kernel
theorem dX8_follow_342 : decode cX8_follow 342 = .ok (.laload, 1) := by decide +kernel
theorem dX8_follow_343 : decode cX8_follow 343 = .ok (.lload 4, 2) := by decide +kernel
theorem dX8_follow_345 : decode cX8_follow 345 = .ok (.lload 4, 2) := by decide +kernel
theorem dX8_follow_347 : decode cX8_follow 347 = .ok (.lload 6, 2) := by decide +kernel
theorem dX8_follow_349 : decode cX8_follow 349 = .ok (.ladd, 1) := by decide +kernel
theorem dX8_follow_350 : decode cX8_follow 350 = .ok (.invokevirtual 198, 3) := by decide +kernel
theorem dX8_follow_353 : decode cX8_follow 353 = .ok (.aload_n 0, 1) := by decide +kernel
theorem dX8_follow_354 : decode cX8_follow 354 = .ok (.getfield 140, 3) := by decide +kernel
theorem dX8_follow_357 : decode cX8_follow 357 = .ok (.lstore 8, 2) := by decide +kernel
theorem dX8_follow_359 : decode cX8_follow 359 = .ok (.aload_n 0, 1) := by decide +kernel
theorem dX8_follow_360 : decode cX8_follow 360 = .ok (.getfield 112, 3) := by decide +kernel
theorem dX8_follow_363 : decode cX8_follow 363 = .ok (.lstore 10, 2) := by decide +kernel
theorem dX8_follow_365 : decode cX8_follow 365 = .ok (.aload_n 0, 1) := by decide +kernel
theorem dX8_follow_366 : decode cX8_follow 366 = .ok (.aload_n 0, 1) := by decide +kernel
theorem dX8_follow_367 : decode cX8_follow 367 = .ok (.getfield 16, 3) := by decide +kernel
theorem dX8_follow_370 : decode cX8_follow 370 = .ok (.aload_n 0, 1) := by decide +kernel
theorem dX8_follow_371 : decode cX8_follow 371 = .ok (.getfield 46, 3) := by decide +kernel
theorem dX8_follow_374 : decode cX8_follow 374 = .ok (.iload_n 2, 1) := by decide +kernel
theorem dX8_follow_375 : decode cX8_follow 375 = .ok (.iaload, 1) := by decide +kernel
theorem dX8_follow_376 : decode cX8_follow 376 = .ok (.laload, 1) := by decide +kernel
theorem dX8_follow_377 : decode cX8_follow 377 = .ok (.aload_n 0, 1) := by decide +kernel
theorem dX8_follow_378 : decode cX8_follow 378 = .ok (.getfield 19, 3) := by decide +kernel
theorem dX8_follow_381 : decode cX8_follow 381 = .ok (.aload_n 0, 1) := by decide +kernel
theorem dX8_follow_382 : decode cX8_follow 382 = .ok (.getfield 46, 3) := by decide +kernel
theorem dX8_follow_385 : decode cX8_follow 385 = .ok (.iload_n 2, 1) := by decide +kernel
theorem dX8_follow_386 : decode cX8_follow 386 = .ok (.iaload, 1) := by decide +kernel
theorem dX8_follow_387 : decode cX8_follow 387 = .ok (.laload, 1) := by decide +kernel
theorem dX8_follow_388 : decode cX8_follow 388 = .ok (.lload 6, 2) := by decide +kernel
theorem dX8_follow_390 : decode cX8_follow 390 = .ok (.lload 4, 2) := by decide +kernel
theorem dX8_follow_392 : decode cX8_follow 392 = .ok (.lload 6, 2) := by decide +kernel
theorem dX8_follow_394 : decode cX8_follow 394 = .ok (.ladd, 1) := by decide +kernel
theorem dX8_follow_395 : decode cX8_follow 395 = .ok (.invokevirtual 198, 3) := by decide +kernel
theorem dX8_follow_398 : decode cX8_follow 398 = .ok (.aload_n 0, 1) := by decide +kernel
theorem dX8_follow_399 : decode cX8_follow 399 = .ok (.lload 8, 2) := by decide +kernel
theorem dX8_follow_401 : decode cX8_follow 401 = .ok (.lload 10, 2) := by decide +kernel
theorem dX8_follow_403 : decode cX8_follow 403 = .ok (.aload_n 0, 1) := by decide +kernel
theorem dX8_follow_404 : decode cX8_follow 404 = .ok (.getfield 140, 3) := by decide +kernel
theorem dX8_follow_407 : decode cX8_follow 407 = .ok (.aload_n 0, 1) := by decide +kernel
theorem dX8_follow_408 : decode cX8_follow 408 = .ok (.getfield 112, 3) := by decide +kernel
theorem dX8_follow_411 : decode cX8_follow 411 = .ok (.invokevirtual 202, 3) := by decide +kernel
theorem dX8_follow_414 : decode cX8_follow 414 = .ok (.return_, 1) := by decide +kernel
theorem dX8_wears_0 : decode cX8_wears 0 = .ok (.aload_n 0, 1) := by decide +kernel
theorem dX8_wears_1 : decode cX8_wears 1 = .ok (.aload_n 0, 1) := by decide +kernel
theorem dX8_wears_2 : decode cX8_wears 2 = .ok (.getfield 70, 3) := by decide +kernel
theorem dX8_wears_5 : decode cX8_wears 5 = .ok (.iload_n 1, 1) := by decide +kernel
theorem dX8_wears_6 : decode cX8_wears 6 = .ok (.laload, 1) := by decide +kernel
theorem dX8_wears_7 : decode cX8_wears 7 = .ok (.aload_n 0, 1) := by decide +kernel
theorem dX8_wears_8 : decode cX8_wears 8 = .ok (.getfield 73, 3) := by decide +kernel
theorem dX8_wears_11 : decode cX8_wears 11 = .ok (.iload_n 1, 1) := by decide +kernel
theorem dX8_wears_12 : decode cX8_wears 12 = .ok (.laload, 1) := by decide +kernel
theorem dX8_wears_13 : decode cX8_wears 13 = .ok (.aload_n 0, 1) := by decide +kernel
theorem dX8_wears_14 : decode cX8_wears 14 = .ok (.getfield 16, 3) := by decide +kernel
theorem dX8_wears_17 : decode cX8_wears 17 = .ok (.iload_n 2, 1) := by decide +kernel
theorem dX8_wears_18 : decode cX8_wears 18 = .ok (.laload, 1) := by decide +kernel
theorem dX8_wears_19 : decode cX8_wears 19 = .ok (.invokestatic 130, 3) := by decide +kernel
theorem dX8_wears_22 : decode cX8_wears 22 = .ok (.aload_n 0, 1) := by decide +kernel
theorem dX8_wears_23 : decode cX8_wears 23 = .ok (.getfield 19, 3) := by decide +kernel
theorem dX8_wears_26 : decode cX8_wears 26 = .ok (.iload_n 2, 1) := by decide +kernel
theorem dX8_wears_27 : decode cX8_wears 27 = .ok (.laload, 1) := by decide +kernel
theorem dX8_wears_28 : decode cX8_wears 28 = .ok (.invokevirtual 202, 3) := by decide +kernel
theorem dX8_wears_31 : decode cX8_wears 31 = .ok (.aload_n 0, 1) := by decide +kernel
theorem dX8_wears_32 : decode cX8_wears 32 = .ok (.getfield 70, 3) := by decide +kernel
theorem dX8_wears_35 : decode cX8_wears 35 = .ok (.iload_n 1, 1) := by decide +kernel
theorem dX8_wears_36 : decode cX8_wears 36 = .ok (.aload_n 0, 1) := by decide +kernel
theorem dX8_wears_37 : decode cX8_wears 37 = .ok (.getfield 140, 3) := by decide +kernel
theorem dX8_wears_40 : decode cX8_wears 40 = .ok (.lastore, 1) := by decide +kernel
theorem dX8_wears_41 : decode cX8_wears 41 = .ok (.aload_n 0, 1) := by decide +kernel
theorem dX8_wears_42 : decode cX8_wears 42 = .ok (.getfield 73, 3) := by decide +kernel
theorem dX8_wears_45 : decode cX8_wears 45 = .ok (.iload_n 1, 1) := by decide +kernel
theorem dX8_wears_46 : decode cX8_wears 46 = .ok (.aload_n 0, 1) := by decide +kernel
theorem dX8_wears_47 : decode cX8_wears 47 = .ok (.getfield 112, 3) := by decide +kernel
theorem dX8_wears_50 : decode cX8_wears 50 = .ok (.lastore, 1) := by decide +kernel
theorem dX8_wears_51 : decode cX8_wears 51 = .ok (.return_, 1) := by decide +kernel
theorem dX8_strikes_0 : decode cX8_strikes 0 = .ok (.aload_n 0, 1) := by decide +kernel
theorem dX8_strikes_1 : decode cX8_strikes 1 = .ok (.getfield 101, 3) := by decide +kernel
theorem dX8_strikes_4 : decode cX8_strikes 4 = .ok (.iload_n 1, 1) := by decide +kernel
theorem dX8_strikes_5 : decode cX8_strikes 5 = .ok (.iaload, 1) := by decide +kernel
theorem dX8_strikes_6 : decode cX8_strikes 6 = .ok (.istore_n 2, 1) := by decide +kernel
theorem dX8_strikes_7 : decode cX8_strikes 7 = .ok (.ldc2_w 207, 3) := by decide +kernel
theorem dX8_strikes_10 : decode cX8_strikes 10 = .ok (.aload_n 0, 1) := by decide +kernel
theorem dX8_strikes_11 : decode cX8_strikes 11 = .ok (.getfield 9, 3) := by decide +kernel
theorem dX8_strikes_14 : decode cX8_strikes 14 = .ok (.iload_n 2, 1) := by decide +kernel
theorem dX8_strikes_15 : decode cX8_strikes 15 = .ok (.laload, 1) := by decide +kernel
theorem dX8_strikes_16 : decode cX8_strikes 16 = .ok (.aload_n 0, 1) := by decide +kernel
theorem dX8_strikes_17 : decode cX8_strikes 17 = .ok (.getfield 13, 3) := by decide +kernel
theorem dX8_strikes_20 : decode cX8_strikes 20 = .ok (.iload_n 2, 1) := by decide +kernel
theorem dX8_strikes_21 : decode cX8_strikes 21 = .ok (.laload, 1) := by decide +kernel
theorem dX8_strikes_22 : decode cX8_strikes 22 = .ok (.invokestatic 172, 3) := by decide +kernel
theorem dX8_strikes_25 : decode cX8_strikes 25 = .ok (.lstore_n 3, 1) := by decide +kernel
theorem dX8_strikes_26 : decode cX8_strikes 26 = .ok (.aload_n 0, 1) := by decide +kernel
theorem dX8_strikes_27 : decode cX8_strikes 27 = .ok (.aload_n 0, 1) := by decide +kernel
theorem dX8_strikes_28 : decode cX8_strikes 28 = .ok (.getfield 9, 3) := by decide +kernel
theorem dX8_strikes_31 : decode cX8_strikes 31 = .ok (.iload_n 2, 1) := by decide +kernel
theorem dX8_strikes_32 : decode cX8_strikes 32 = .ok (.laload, 1) := by decide +kernel
theorem dX8_strikes_33 : decode cX8_strikes 33 = .ok (.aload_n 0, 1) := by decide +kernel
theorem dX8_strikes_34 : decode cX8_strikes 34 = .ok (.getfield 13, 3) := by decide +kernel
theorem dX8_strikes_37 : decode cX8_strikes 37 = .ok (.iload_n 2, 1) := by decide +kernel
theorem dX8_strikes_38 : decode cX8_strikes 38 = .ok (.laload, 1) := by decide +kernel
theorem dX8_strikes_39 : decode cX8_strikes 39 = .ok (.aload_n 0, 1) := by decide +kernel
theorem dX8_strikes_40 : decode cX8_strikes 40 = .ok (.getfield 16, 3) := by decide +kernel
theorem dX8_strikes_43 : decode cX8_strikes 43 = .ok (.iload_n 2, 1) := by decide +kernel
theorem dX8_strikes_44 : decode cX8_strikes 44 = .ok (.laload, 1) := by decide +kernel
theorem dX8_strikes_45 : decode cX8_strikes 45 = .ok (.aload_n 0, 1) := by decide +kernel
theorem dX8_strikes_46 : decode cX8_strikes 46 = .ok (.getfield 19, 3) := by decide +kernel
theorem dX8_strikes_49 : decode cX8_strikes 49 = .ok (.iload_n 2, 1) := by decide +kernel
theorem dX8_strikes_50 : decode cX8_strikes 50 = .ok (.laload, 1) := by decide +kernel
theorem dX8_strikes_51 : decode cX8_strikes 51 = .ok (.invokevirtual 202, 3) := by decide +kernel
theorem dX8_strikes_54 : decode cX8_strikes 54 = .ok (.ldc2_w 207, 3) := by decide +kernel
theorem dX8_strikes_57 : decode cX8_strikes 57 = .ok (.aload_n 0, 1) := by decide +kernel
theorem dX8_strikes_58 : decode cX8_strikes 58 = .ok (.getfield 140, 3) := by decide +kernel
theorem dX8_strikes_61 : decode cX8_strikes 61 = .ok (.aload_n 0, 1) := by decide +kernel
theorem dX8_strikes_62 : decode cX8_strikes 62 = .ok (.getfield 112, 3) := by decide +kernel
theorem dX8_strikes_65 : decode cX8_strikes 65 = .ok (.invokestatic 172, 3) := by decide +kernel
theorem dX8_strikes_68 : decode cX8_strikes 68 = .ok (.lstore 5, 2) := by decide +kernel
theorem dX8_strikes_70 : decode cX8_strikes 70 = .ok (.lload_n 3, 1) := by decide +kernel
theorem dX8_strikes_71 : decode cX8_strikes 71 = .ok (.lload 5, 2) := by decide +kernel
theorem dX8_strikes_73 : decode cX8_strikes 73 = .ok (.invokestatic 209, 3) := by decide +kernel
theorem dX8_strikes_76 : decode cX8_strikes 76 = .ok (.lconst 1, 1) := by decide +kernel
theorem dX8_strikes_77 : decode cX8_strikes 77 = .ok (.ladd, 1) := by decide +kernel
theorem dX8_strikes_78 : decode cX8_strikes 78 = .ok (.lstore 7, 2) := by decide +kernel
theorem dX8_strikes_80 : decode cX8_strikes 80 = .ok (.lload_n 3, 1) := by decide +kernel
theorem dX8_strikes_81 : decode cX8_strikes 81 = .ok (.lload 5, 2) := by decide +kernel
theorem dX8_strikes_83 : decode cX8_strikes 83 = .ok (.invokestatic 205, 3) := by decide +kernel
theorem dX8_strikes_86 : decode cX8_strikes 86 = .ok (.lstore 9, 2) := by decide +kernel
theorem dX8_strikes_88 : decode cX8_strikes 88 = .ok (.lload 7, 2) := by decide +kernel
theorem dX8_strikes_90 : decode cX8_strikes 90 = .ok (.lstore 11, 2) := by decide +kernel
theorem dX8_strikes_92 : decode cX8_strikes 92 = .ok (.lload 11, 2) := by decide +kernel
theorem dX8_strikes_94 : decode cX8_strikes 94 = .ok (.lload 9, 2) := by decide +kernel
