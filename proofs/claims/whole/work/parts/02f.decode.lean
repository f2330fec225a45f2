theorem dX8_strikes_96 : decode cX8_strikes 96 = .ok (.lcmp, 1) := by decide +kernel
theorem dX8_strikes_97 : decode cX8_strikes 97 = .ok (.ifCond .gt 71, 3) := by decide +kernel
theorem dX8_strikes_100 : decode cX8_strikes 100 = .ok (.lload 11, 2) := by decide +kernel
theorem dX8_strikes_102 : decode cX8_strikes 102 = .ok (.ldc2_w 207, 3) := by decide +kernel
theorem dX8_strikes_105 : decode cX8_strikes 105 = .ok (.invokestatic 212, 3) := by decide +kernel
theorem dX8_strikes_108 : decode cX8_strikes 108 = .ok (.l2i, 1) := by decide +kernel
theorem dX8_strikes_109 : decode cX8_strikes 109 = .ok (.istore 13, 2) := by decide +kernel
theorem dX8_strikes_111 : decode cX8_strikes 111 = .ok (.iconst 0, 1) := by decide +kernel
theorem dX8_strikes_112 : decode cX8_strikes 112 = .ok (.istore 14, 2) := by decide +kernel
theorem dX8_strikes_114 : decode cX8_strikes 114 = .ok (.iload 14, 2) := by decide +kernel
theorem dX8_strikes_116 : decode cX8_strikes 116 = .ok (.bipush 8, 2) := by decide +kernel
theorem dX8_strikes_118 : decode cX8_strikes 118 = .ok (.if_icmp .ge 41, 3) := by decide +kernel
theorem dX8_strikes_121 : decode cX8_strikes 121 = .ok (.aload_n 0, 1) := by decide +kernel
theorem dX8_strikes_122 : decode cX8_strikes 122 = .ok (.getfield 109, 3) := by decide +kernel
theorem dX8_strikes_125 : decode cX8_strikes 125 = .ok (.iload_n 1, 1) := by decide +kernel
theorem dX8_strikes_126 : decode cX8_strikes 126 = .ok (.aaload, 1) := by decide +kernel
theorem dX8_strikes_127 : decode cX8_strikes 127 = .ok (.iload 14, 2) := by decide +kernel
theorem dX8_strikes_129 : decode cX8_strikes 129 = .ok (.dup2, 1) := by decide +kernel
theorem dX8_strikes_130 : decode cX8_strikes 130 = .ok (.iaload, 1) := by decide +kernel
theorem dX8_strikes_131 : decode cX8_strikes 131 = .ok (.aload_n 0, 1) := by decide +kernel
theorem dX8_strikes_132 : decode cX8_strikes 132 = .ok (.getfield 106, 3) := by decide +kernel
theorem dX8_strikes_135 : decode cX8_strikes 135 = .ok (.iload_n 1, 1) := by decide +kernel
theorem dX8_strikes_136 : decode cX8_strikes 136 = .ok (.aaload, 1) := by decide +kernel
theorem dX8_strikes_137 : decode cX8_strikes 137 = .ok (.iload 13, 2) := by decide +kernel
theorem dX8_strikes_139 : decode cX8_strikes 139 = .ok (.aaload, 1) := by decide +kernel
theorem dX8_strikes_140 : decode cX8_strikes 140 = .ok (.iload 14, 2) := by decide +kernel
theorem dX8_strikes_142 : decode cX8_strikes 142 = .ok (.baload, 1) := by decide +kernel
theorem dX8_strikes_143 : decode cX8_strikes 143 = .ok (.ifCond .eq 7, 3) := by decide +kernel
theorem dX8_strikes_146 : decode cX8_strikes 146 = .ok (.iconst 1, 1) := by decide +kernel
theorem dX8_strikes_147 : decode cX8_strikes 147 = .ok (.goto 4, 3) := by decide +kernel
theorem dX8_strikes_150 : decode cX8_strikes 150 = .ok (.iconst 0, 1) := by decide +kernel
theorem dX8_strikes_151 : decode cX8_strikes 151 = .ok (.iadd, 1) := by decide +kernel
theorem dX8_strikes_152 : decode cX8_strikes 152 = .ok (.iastore, 1) := by decide +kernel
theorem dX8_strikes_153 : decode cX8_strikes 153 = .ok (.iinc 14 1, 3) := by decide +kernel
theorem dX8_strikes_156 : decode cX8_strikes 156 = .ok (.goto (-42), 3) := by decide +kernel
theorem dX8_strikes_159 : decode cX8_strikes 159 = .ok (.lload 11, 2) := by decide +kernel
theorem dX8_strikes_161 : decode cX8_strikes 161 = .ok (.lconst 1, 1) := by decide +kernel
theorem dX8_strikes_162 : decode cX8_strikes 162 = .ok (.ladd, 1) := by decide +kernel
theorem dX8_strikes_163 : decode cX8_strikes 163 = .ok (.lstore 11, 2) := by decide +kernel
theorem dX8_strikes_165 : decode cX8_strikes 165 = .ok (.goto (-73), 3) := by decide +kernel
theorem dX8_strikes_168 : decode cX8_strikes 168 = .ok (.return_, 1) := by decide +kernel
theorem dX8_step_0 : decode cX8_step 0 = .ok (.iconst 0, 1) := by decide +kernel
theorem dX8_step_1 : decode cX8_step 1 = .ok (.istore_n 3, 1) := by decide +kernel
theorem dX8_step_2 : decode cX8_step 2 = .ok (.iload_n 3, 1) := by decide +kernel
theorem dX8_step_3 : decode cX8_step 3 = .ok (.aload_n 0, 1) := by decide +kernel
theorem dX8_step_4 : decode cX8_step 4 = .ok (.getfield 120, 3) := by decide +kernel
theorem dX8_step_7 : decode cX8_step 7 = .ok (.if_icmp .ge 23, 3) := by decide +kernel
theorem dX8_step_10 : decode cX8_step 10 = .ok (.aload_n 0, 1) := by decide +kernel
theorem dX8_step_11 : decode cX8_step 11 = .ok (.getfield 16, 3) := by decide +kernel
theorem dX8_step_14 : decode cX8_step 14 = .ok (.iload_n 3, 1) := by decide +kernel
theorem dX8_step_15 : decode cX8_step 15 = .ok (.lconst 0, 1) := by decide +kernel
theorem dX8_step_16 : decode cX8_step 16 = .ok (.lastore, 1) := by decide +kernel
theorem dX8_step_17 : decode cX8_step 17 = .ok (.aload_n 0, 1) := by decide +kernel
theorem dX8_step_18 : decode cX8_step 18 = .ok (.getfield 19, 3) := by decide +kernel
theorem dX8_step_21 : decode cX8_step 21 = .ok (.iload_n 3, 1) := by decide +kernel
theorem dX8_step_22 : decode cX8_step 22 = .ok (.lconst 1, 1) := by decide +kernel
theorem dX8_step_23 : decode cX8_step 23 = .ok (.lastore, 1) := by decide +kernel
theorem dX8_step_24 : decode cX8_step 24 = .ok (.iinc 3 1, 3) := by decide +kernel
theorem dX8_step_27 : decode cX8_step 27 = .ok (.goto (-25), 3) := by decide +kernel
theorem dX8_step_30 : decode cX8_step 30 = .ok (.aload_n 0, 1) := by decide +kernel
theorem dX8_step_31 : decode cX8_step 31 = .ok (.iload_n 2, 1) := by decide +kernel
theorem dX8_step_32 : decode cX8_step 32 = .ok (.i2l, 1) := by decide +kernel
theorem dX8_step_33 : decode cX8_step 33 = .ok (.ldc2_w 207, 3) := by decide +kernel
theorem dX8_step_36 : decode cX8_step 36 = .ok (.invokevirtual 143, 3) := by decide +kernel
theorem dX8_step_39 : decode cX8_step 39 = .ok (.aload_n 0, 1) := by decide +kernel
theorem dX8_step_40 : decode cX8_step 40 = .ok (.getfield 16, 3) := by decide +kernel
theorem dX8_step_43 : decode cX8_step 43 = .ok (.iload_n 1, 1) := by decide +kernel
theorem dX8_step_44 : decode cX8_step 44 = .ok (.aload_n 0, 1) := by decide +kernel
theorem dX8_step_45 : decode cX8_step 45 = .ok (.getfield 140, 3) := by decide +kernel
theorem dX8_step_48 : decode cX8_step 48 = .ok (.lastore, 1) := by decide +kernel
theorem dX8_step_49 : decode cX8_step 49 = .ok (.aload_n 0, 1) := by decide +kernel
theorem dX8_step_50 : decode cX8_step 50 = .ok (.getfield 19, 3) := by decide +kernel
theorem dX8_step_53 : decode cX8_step 53 = .ok (.iload_n 1, 1) := by decide +kernel
theorem dX8_step_54 : decode cX8_step 54 = .ok (.aload_n 0, 1) := by decide +kernel
theorem dX8_step_55 : decode cX8_step 55 = .ok (.getfield 112, 3) := by decide +kernel
theorem dX8_step_58 : decode cX8_step 58 = .ok (.lastore, 1) := by decide +kernel
theorem dX8_step_59 : decode cX8_step 59 = .ok (.iconst 1, 1) := by decide +kernel
theorem dX8_step_60 : decode cX8_step 60 = .ok (.istore_n 3, 1) := by decide +kernel
theorem dX8_step_61 : decode cX8_step 61 = .ok (.iload_n 3, 1) := by decide +kernel
theorem dX8_step_62 : decode cX8_step 62 = .ok (.iconst 3, 1) := by decide +kernel
theorem dX8_step_63 : decode cX8_step 63 = .ok (.if_icmp .gt 76, 3) := by decide +kernel
theorem dX8_step_66 : decode cX8_step 66 = .ok (.iconst 0, 1) := by decide +kernel
theorem dX8_step_67 : decode cX8_step 67 = .ok (.istore 4, 2) := by decide +kernel
theorem dX8_step_69 : decode cX8_step 69 = .ok (.iload 4, 2) := by decide +kernel
theorem dX8_step_71 : decode cX8_step 71 = .ok (.aload_n 0, 1) := by decide +kernel
theorem dX8_step_72 : decode cX8_step 72 = .ok (.getfield 120, 3) := by decide +kernel
theorem dX8_step_75 : decode cX8_step 75 = .ok (.if_icmp .ge 58, 3) := by decide +kernel
theorem dX8_step_78 : decode cX8_step 78 = .ok (.aload_n 0, 1) := by decide +kernel
theorem dX8_step_79 : decode cX8_step 79 = .ok (.getfield 28, 3) := by decide +kernel
theorem dX8_step_82 : decode cX8_step 82 = .ok (.iload 4, 2) := by decide +kernel
theorem dX8_step_84 : decode cX8_step 84 = .ok (.baload, 1) := by decide +kernel
theorem dX8_step_85 : decode cX8_step 85 = .ok (.ifCond .eq 42, 3) := by decide +kernel
theorem dX8_step_88 : decode cX8_step 88 = .ok (.aload_n 0, 1) := by decide +kernel
theorem dX8_step_89 : decode cX8_step 89 = .ok (.getfield 36, 3) := by decide +kernel
theorem dX8_step_92 : decode cX8_step 92 = .ok (.iload 4, 2) := by decide +kernel
theorem dX8_step_94 : decode cX8_step 94 = .ok (.iaload, 1) := by decide +kernel
theorem dX8_step_95 : decode cX8_step 95 = .ok (.iload_n 3, 1) := by decide +kernel
theorem dX8_step_96 : decode cX8_step 96 = .ok (.if_icmp .ne 31, 3) := by decide +kernel
theorem dX8_step_99 : decode cX8_step 99 = .ok (.aload_n 0, 1) := by decide +kernel
theorem dX8_step_100 : decode cX8_step 100 = .ok (.iload 4, 2) := by decide +kernel
theorem dX8_step_102 : decode cX8_step 102 = .ok (.invokevirtual 215, 3) := by decide +kernel
theorem dX8_step_105 : decode cX8_step 105 = .ok (.aload_n 0, 1) := by decide +kernel
theorem dX8_step_106 : decode cX8_step 106 = .ok (.getfield 16, 3) := by decide +kernel
theorem dX8_step_109 : decode cX8_step 109 = .ok (.iload 4, 2) := by decide +kernel
theorem dX8_step_111 : decode cX8_step 111 = .ok (.aload_n 0, 1) := by decide +kernel
theorem dX8_step_112 : decode cX8_step 112 = .ok (.getfield 140, 3) := by decide +kernel
theorem dX8_step_115 : decode cX8_step 115 = .ok (.lastore, 1) := by decide +kernel
theorem dX8_step_116 : decode cX8_step 116 = .ok (.aload_n 0, 1) := by decide +kernel
theorem dX8_step_117 : decode cX8_step 117 = .ok (.getfield 19, 3) := by decide +kernel
theorem dX8_step_120 : decode cX8_step 120 = .ok (.iload 4, 2) := by decide +kernel
theorem dX8_step_122 : decode cX8_step 122 = .ok (.aload_n 0, 1) := by decide +kernel
theorem dX8_step_123 : decode cX8_step 123 = .ok (.getfield 112, 3) := by decide +kernel
theorem dX8_step_126 : decode cX8_step 126 = .ok (.lastore, 1) := by decide +kernel
theorem dX8_step_127 : decode cX8_step 127 = .ok (.iinc 4 1, 3) := by decide +kernel
theorem dX8_step_130 : decode cX8_step 130 = .ok (.goto (-61), 3) := by decide +kernel
theorem dX8_step_133 : decode cX8_step 133 = .ok (.iinc 3 1, 3) := by decide +kernel
theorem dX8_step_136 : decode cX8_step 136 = .ok (.goto (-75), 3) := by decide +kernel
theorem dX8_step_139 : decode cX8_step 139 = .ok (.iconst 0, 1) := by decide +kernel
theorem dX8_step_140 : decode cX8_step 140 = .ok (.istore_n 3, 1) := by decide +kernel
theorem dX8_step_141 : decode cX8_step 141 = .ok (.iload_n 3, 1) := by decide +kernel
theorem dX8_step_142 : decode cX8_step 142 = .ok (.aload_n 0, 1) := by decide +kernel
theorem dX8_step_143 : decode cX8_step 143 = .ok (.getfield 127, 3) := by decide +kernel
theorem dX8_step_146 : decode cX8_step 146 = .ok (.if_icmp .ge 59, 3) := by decide +kernel
theorem dX8_step_149 : decode cX8_step 149 = .ok (.aload_n 0, 1) := by decide +kernel
theorem dX8_step_150 : decode cX8_step 150 = .ok (.getfield 61, 3) := by decide +kernel
theorem dX8_step_153 : decode cX8_step 153 = .ok (.iload_n 3, 1) := by decide +kernel
theorem dX8_step_154 : decode cX8_step 154 = .ok (.baload, 1) := by decide +kernel
theorem dX8_step_155 : decode cX8_step 155 = .ok (.ifCond .ne 44, 3) := by decide +kernel
theorem dX8_step_158 : decode cX8_step 158 = .ok (.aload_n 0, 1) := by decide +kernel
theorem dX8_step_159 : decode cX8_step 159 = .ok (.getfield 58, 3) := by decide +kernel
theorem dX8_step_162 : decode cX8_step 162 = .ok (.iload_n 3, 1) := by decide +kernel
theorem dX8_step_163 : decode cX8_step 163 = .ok (.baload, 1) := by decide +kernel
theorem dX8_step_164 : decode cX8_step 164 = .ok (.ifCond .ne 35, 3) := by decide +kernel
theorem dX8_step_167 : decode cX8_step 167 = .ok (.aload_n 0, 1) := by decide +kernel
theorem dX8_step_168 : decode cX8_step 168 = .ok (.iload_n 3, 1) := by decide +kernel
theorem dX8_step_169 : decode cX8_step 169 = .ok (.aload_n 0, 1) := by decide +kernel
theorem dX8_step_170 : decode cX8_step 170 = .ok (.getfield 43, 3) := by decide +kernel
theorem dX8_step_173 : decode cX8_step 173 = .ok (.iload_n 3, 1) := by decide +kernel
theorem dX8_step_174 : decode cX8_step 174 = .ok (.iaload, 1) := by decide +kernel
theorem dX8_step_175 : decode cX8_step 175 = .ok (.invokevirtual 219, 3) := by decide +kernel
theorem dX8_step_178 : decode cX8_step 178 = .ok (.aload_n 0, 1) := by decide +kernel
theorem dX8_step_179 : decode cX8_step 179 = .ok (.getfield 46, 3) := by decide +kernel
theorem dX8_step_182 : decode cX8_step 182 = .ok (.iload_n 3, 1) := by decide +kernel
theorem dX8_step_183 : decode cX8_step 183 = .ok (.iaload, 1) := by decide +kernel
theorem dX8_step_184 : decode cX8_step 184 = .ok (.iconst (-1), 1) := by decide +kernel
theorem dX8_step_185 : decode cX8_step 185 = .ok (.if_icmp .eq 14, 3) := by decide +kernel
theorem dX8_step_188 : decode cX8_step 188 = .ok (.aload_n 0, 1) := by decide +kernel
theorem dX8_step_189 : decode cX8_step 189 = .ok (.iload_n 3, 1) := by decide +kernel
theorem dX8_step_190 : decode cX8_step 190 = .ok (.aload_n 0, 1) := by decide +kernel
theorem dX8_step_191 : decode cX8_step 191 = .ok (.getfield 46, 3) := by decide +kernel
theorem dX8_step_194 : decode cX8_step 194 = .ok (.iload_n 3, 1) := by decide +kernel
theorem dX8_step_195 : decode cX8_step 195 = .ok (.iaload, 1) := by decide +kernel
theorem dX8_step_196 : decode cX8_step 196 = .ok (.invokevirtual 219, 3) := by decide +kernel
theorem dX8_step_199 : decode cX8_step 199 = .ok (.iinc 3 1, 3) := by decide +kernel
theorem dX8_step_202 : decode cX8_step 202 = .ok (.goto (-61), 3) := by decide +kernel
theorem dX8_step_205 : decode cX8_step 205 = .ok (.iconst 0, 1) := by decide +kernel
theorem dX8_step_206 : decode cX8_step 206 = .ok (.istore_n 3, 1) := by decide +kernel
theorem dX8_step_207 : decode cX8_step 207 = .ok (.iload_n 3, 1) := by decide +kernel
theorem dX8_step_208 : decode cX8_step 208 = .ok (.aload_n 0, 1) := by decide +kernel
theorem dX8_step_209 : decode cX8_step 209 = .ok (.getfield 223, 3) := by decide +kernel
theorem dX8_step_212 : decode cX8_step 212 = .ok (.if_icmp .ge 14, 3) := by decide +kernel
theorem dX8_step_215 : decode cX8_step 215 = .ok (.aload_n 0, 1) := by decide +kernel
theorem dX8_step_216 : decode cX8_step 216 = .ok (.iload_n 3, 1) := by decide +kernel
theorem dX8_step_217 : decode cX8_step 217 = .ok (.invokevirtual 226, 3) := by decide +kernel
theorem dX8_step_220 : decode cX8_step 220 = .ok (.iinc 3 1, 3) := by decide +kernel
theorem dX8_step_223 : decode cX8_step 223 = .ok (.goto (-16), 3) := by decide +kernel
theorem dX8_step_226 : decode cX8_step 226 = .ok (.iconst 0, 1) := by decide +kernel
theorem dX8_step_227 : decode cX8_step 227 = .ok (.istore_n 3, 1) := by decide +kernel
theorem dX8_step_228 : decode cX8_step 228 = .ok (.iload_n 3, 1) := by decide +kernel
theorem dX8_step_229 : decode cX8_step 229 = .ok (.aload_n 0, 1) := by decide +kernel
theorem dX8_step_230 : decode cX8_step 230 = .ok (.getfield 120, 3) := by decide +kernel
theorem dX8_step_233 : decode cX8_step 233 = .ok (.if_icmp .ge 57, 3) := by decide +kernel
theorem dX8_step_236 : decode cX8_step 236 = .ok (.aload_n 0, 1) := by decide +kernel
theorem dX8_step_237 : decode cX8_step 237 = .ok (.aload_n 0, 1) := by decide +kernel
theorem dX8_step_238 : decode cX8_step 238 = .ok (.getfield 9, 3) := by decide +kernel
theorem dX8_step_241 : decode cX8_step 241 = .ok (.iload_n 3, 1) := by decide +kernel
theorem dX8_step_242 : decode cX8_step 242 = .ok (.laload, 1) := by decide +kernel
theorem dX8_step_243 : decode cX8_step 243 = .ok (.aload_n 0, 1) := by decide +kernel
theorem dX8_step_244 : decode cX8_step 244 = .ok (.getfield 13, 3) := by decide +kernel
theorem dX8_step_247 : decode cX8_step 247 = .ok (.iload_n 3, 1) := by decide +kernel
theorem dX8_step_248 : decode cX8_step 248 = .ok (.laload, 1) := by decide +kernel
theorem dX8_step_249 : decode cX8_step 249 = .ok (.aload_n 0, 1) := by decide +kernel
theorem dX8_step_250 : decode cX8_step 250 = .ok (.getfield 16, 3) := by decide +kernel
theorem dX8_step_253 : decode cX8_step 253 = .ok (.iload_n 3, 1) := by decide +kernel
theorem dX8_step_254 : decode cX8_step 254 = .ok (.laload, 1) := by decide +kernel
theorem dX8_step_255 : decode cX8_step 255 = .ok (.aload_n 0, 1) := by decide +kernel
theorem dX8_step_256 : decode cX8_step 256 = .ok (.getfield 19, 3) := by decide +kernel
theorem dX8_step_259 : decode cX8_step 259 = .ok (.iload_n 3, 1) := by decide +kernel
theorem dX8_step_260 : decode cX8_step 260 = .ok (.laload, 1) := by decide +kernel
theorem dX8_step_261 : decode cX8_step 261 = .ok (.invokevirtual 202, 3) := by decide +kernel
theorem dX8_step_264 : decode cX8_step 264 = .ok (.aload_n 0, 1) := by decide +kernel
theorem dX8_step_265 : decode cX8_step 265 = .ok (.getfield 9, 3) := by decide +kernel
theorem dX8_step_268 : decode cX8_step 268 = .ok (.iload_n 3, 1) := by decide +kernel
theorem dX8_step_269 : decode cX8_step 269 = .ok (.aload_n 0, 1) := by decide +kernel
theorem dX8_step_270 : decode cX8_step 270 = .ok (.getfield 140, 3) := by decide +kernel
theorem dX8_step_273 : decode cX8_step 273 = .ok (.lastore, 1) := by decide +kernel
theorem dX8_step_274 : decode cX8_step 274 = .ok (.aload_n 0, 1) := by decide +kernel
theorem dX8_step_275 : decode cX8_step 275 = .ok (.getfield 13, 3) := by decide +kernel
theorem dX8_step_278 : decode cX8_step 278 = .ok (.iload_n 3, 1) := by decide +kernel
theorem dX8_step_279 : decode cX8_step 279 = .ok (.aload_n 0, 1) := by decide +kernel
theorem dX8_step_280 : decode cX8_step 280 = .ok (.getfield 112, 3) := by decide +kernel
theorem dX8_step_283 : decode cX8_step 283 = .ok (.lastore, 1) := by decide +kernel
theorem dX8_step_284 : decode cX8_step 284 = .ok (.iinc 3 1, 3) := by decide +kernel
theorem dX8_step_287 : decode cX8_step 287 = .ok (.goto (-59), 3) := by decide +kernel
theorem dX8_step_290 : decode cX8_step 290 = .ok (.return_, 1) := by decide +kernel
theorem dX8_turn_0 : decode cX8_turn 0 = .ok (.aload_n 0, 1) := by decide +kernel
theorem dX8_turn_1 : decode cX8_turn 1 = .ok (.aload_n 0, 1) := by decide +kernel
theorem dX8_turn_2 : decode cX8_turn 2 = .ok (.iload_n 1, 1) := by decide +kernel
theorem dX8_turn_3 : decode cX8_turn 3 = .ok (.invokevirtual 176, 3) := by decide +kernel
theorem dX8_turn_6 : decode cX8_turn 6 = .ok (.iconst 1, 1) := by decide +kernel
theorem dX8_turn_7 : decode cX8_turn 7 = .ok (.invokevirtual 150, 3) := by decide +kernel
theorem dX8_turn_10 : decode cX8_turn 10 = .ok (.ifCond .ne 50, 3) := by decide +kernel
theorem dX8_turn_13 : decode cX8_turn 13 = .ok (.aload_n 0, 1) := by decide +kernel
theorem dX8_turn_14 : decode cX8_turn 14 = .ok (.iload_n 2, 1) := by decide +kernel
theorem dX8_turn_15 : decode cX8_turn 15 = .ok (.bipush (-48), 2) := by decide +kernel
theorem dX8_turn_17 : decode cX8_turn 17 = .ok (.bipush 48, 2) := by decide +kernel
theorem dX8_turn_19 : decode cX8_turn 19 = .ok (.invokestatic 123, 3) := by decide +kernel
theorem dX8_turn_22 : decode cX8_turn 22 = .ok (.ifCond .ne 7, 3) := by decide +kernel
theorem dX8_turn_25 : decode cX8_turn 25 = .ok (.iconst 1, 1) := by decide +kernel
theorem dX8_turn_26 : decode cX8_turn 26 = .ok (.goto 4, 3) := by decide +kernel
theorem dX8_turn_29 : decode cX8_turn 29 = .ok (.iconst 0, 1) := by decide +kernel
theorem dX8_turn_30 : decode cX8_turn 30 = .ok (.iconst 2, 1) := by decide +kernel
theorem dX8_turn_31 : decode cX8_turn 31 = .ok (.invokevirtual 150, 3) := by decide +kernel
theorem dX8_turn_34 : decode cX8_turn 34 = .ok (.ifCond .ne 26, 3) := by decide +kernel
theorem dX8_turn_37 : decode cX8_turn 37 = .ok (.aload_n 0, 1) := by decide +kernel
theorem dX8_turn_38 : decode cX8_turn 38 = .ok (.aload_n 0, 1) := by decide +kernel
theorem dX8_turn_39 : decode cX8_turn 39 = .ok (.getfield 32, 3) := by decide +kernel
theorem dX8_turn_42 : decode cX8_turn 42 = .ok (.iload_n 1, 1) := by decide +kernel
theorem dX8_turn_43 : decode cX8_turn 43 = .ok (.iaload, 1) := by decide +kernel
theorem dX8_turn_44 : decode cX8_turn 44 = .ok (.iconst (-1), 1) := by decide +kernel
theorem dX8_turn_45 : decode cX8_turn 45 = .ok (.if_icmp .eq 7, 3) := by decide +kernel
theorem dX8_turn_48 : decode cX8_turn 48 = .ok (.iconst 1, 1) := by decide +kernel
theorem dX8_turn_49 : decode cX8_turn 49 = .ok (.goto 4, 3) := by decide +kernel
theorem dX8_turn_52 : decode cX8_turn 52 = .ok (.iconst 0, 1) := by decide +kernel
theorem dX8_turn_53 : decode cX8_turn 53 = .ok (.iconst 3, 1) := by decide +kernel
theorem dX8_turn_54 : decode cX8_turn 54 = .ok (.invokevirtual 150, 3) := by decide +kernel
theorem dX8_turn_57 : decode cX8_turn 57 = .ok (.ifCond .eq 5, 3) := by decide +kernel
theorem dX8_turn_60 : decode cX8_turn 60 = .ok (.iconst 0, 1) := by decide +kernel
theorem dX8_turn_61 : decode cX8_turn 61 = .ok (.ireturn, 1) := by decide +kernel
theorem dX8_turn_62 : decode cX8_turn 62 = .ok (.iconst 0, 1) := by decide +kernel
theorem dX8_turn_63 : decode cX8_turn 63 = .ok (.istore_n 3, 1) := by decide +kernel
theorem dX8_turn_64 : decode cX8_turn 64 = .ok (.iload_n 3, 1) := by decide +kernel
theorem dX8_turn_65 : decode cX8_turn 65 = .ok (.aload_n 0, 1) := by decide +kernel
theorem dX8_turn_66 : decode cX8_turn 66 = .ok (.getfield 120, 3) := by decide +kernel
theorem dX8_turn_69 : decode cX8_turn 69 = .ok (.if_icmp .ge 69, 3) := by decide +kernel
theorem dX8_turn_72 : decode cX8_turn 72 = .ok (.aload_n 0, 1) := by decide +kernel
theorem dX8_turn_73 : decode cX8_turn 73 = .ok (.getfield 22, 3) := by decide +kernel
theorem dX8_turn_76 : decode cX8_turn 76 = .ok (.iload_n 3, 1) := by decide +kernel
theorem dX8_turn_77 : decode cX8_turn 77 = .ok (.aload_n 0, 1) := by decide +kernel
theorem dX8_turn_78 : decode cX8_turn 78 = .ok (.getfield 9, 3) := by decide +kernel
theorem dX8_turn_81 : decode cX8_turn 81 = .ok (.iload_n 3, 1) := by decide +kernel
theorem dX8_turn_82 : decode cX8_turn 82 = .ok (.laload, 1) := by decide +kernel
theorem dX8_turn_83 : decode cX8_turn 83 = .ok (.lastore, 1) := by decide +kernel
theorem dX8_turn_84 : decode cX8_turn 84 = .ok (.aload_n 0, 1) := by decide +kernel
theorem dX8_turn_85 : decode cX8_turn 85 = .ok (.getfield 25, 3) := by decide +kernel
theorem dX8_turn_88 : decode cX8_turn 88 = .ok (.iload_n 3, 1) := by decide +kernel
theorem dX8_turn_89 : decode cX8_turn 89 = .ok (.aload_n 0, 1) := by decide +kernel
theorem dX8_turn_90 : decode cX8_turn 90 = .ok (.getfield 13, 3) := by decide +kernel
theorem dX8_turn_93 : decode cX8_turn 93 = .ok (.iload_n 3, 1) := by decide +kernel
theorem dX8_turn_94 : decode cX8_turn 94 = .ok (.laload, 1) := by decide +kernel
theorem dX8_turn_95 : decode cX8_turn 95 = .ok (.lastore, 1) := by decide +kernel
theorem dX8_turn_96 : decode cX8_turn 96 = .ok (.aload_n 0, 1) := by decide +kernel
theorem dX8_turn_97 : decode cX8_turn 97 = .ok (.getfield 36, 3) := by decide +kernel
theorem dX8_turn_100 : decode cX8_turn 100 = .ok (.iload_n 3, 1) := by decide +kernel
theorem dX8_turn_101 : decode cX8_turn 101 = .ok (.aload_n 0, 1) := by decide +kernel
theorem dX8_turn_102 : decode cX8_turn 102 = .ok (.iload_n 3, 1) := by decide +kernel
theorem dX8_turn_103 : decode cX8_turn 103 = .ok (.invokevirtual 158, 3) := by decide +kernel
theorem dX8_turn_106 : decode cX8_turn 106 = .ok (.iastore, 1) := by decide +kernel
theorem dX8_turn_107 : decode cX8_turn 107 = .ok (.aload_n 0, 1) := by decide +kernel
theorem dX8_turn_108 : decode cX8_turn 108 = .ok (.getfield 28, 3) := by decide +kernel
theorem dX8_turn_111 : decode cX8_turn 111 = .ok (.iload_n 3, 1) := by decide +kernel
theorem dX8_turn_112 : decode cX8_turn 112 = .ok (.iload_n 3, 1) := by decide +kernel
theorem dX8_turn_113 : decode cX8_turn 113 = .ok (.iload_n 1, 1) := by decide +kernel
theorem dX8_turn_114 : decode cX8_turn 114 = .ok (.if_icmp .eq 16, 3) := by decide +kernel
theorem dX8_turn_117 : decode cX8_turn 117 = .ok (.aload_n 0, 1) := by decide +kernel
theorem dX8_turn_118 : decode cX8_turn 118 = .ok (.iload_n 3, 1) := by decide +kernel
theorem dX8_turn_119 : decode cX8_turn 119 = .ok (.iload_n 1, 1) := by decide +kernel
theorem dX8_turn_120 : decode cX8_turn 120 = .ok (.invokevirtual 195, 3) := by decide +kernel
theorem dX8_turn_123 : decode cX8_turn 123 = .ok (.ifCond .eq 7, 3) := by decide +kernel
theorem dX8_turn_126 : decode cX8_turn 126 = .ok (.iconst 1, 1) := by decide +kernel
theorem dX8_turn_127 : decode cX8_turn 127 = .ok (.goto 4, 3) := by decide +kernel
theorem dX8_turn_130 : decode cX8_turn 130 = .ok (.iconst 0, 1) := by decide +kernel
theorem dX8_turn_131 : decode cX8_turn 131 = .ok (.bastore, 1) := by decide +kernel
theorem dX8_turn_132 : decode cX8_turn 132 = .ok (.iinc 3 1, 3) := by decide +kernel
theorem dX8_turn_135 : decode cX8_turn 135 = .ok (.goto (-71), 3) := by decide +kernel
theorem dX8_turn_138 : decode cX8_turn 138 = .ok (.iconst 0, 1) := by decide +kernel
theorem dX8_turn_139 : decode cX8_turn 139 = .ok (.istore_n 3, 1) := by decide +kernel
theorem dX8_turn_140 : decode cX8_turn 140 = .ok (.iload_n 3, 1) := by decide +kernel
theorem dX8_turn_141 : decode cX8_turn 141 = .ok (.iload_n 2, 1) := by decide +kernel
theorem dX8_turn_142 : decode cX8_turn 142 = .ok (.invokestatic 229, 3) := by decide +kernel
theorem dX8_turn_145 : decode cX8_turn 145 = .ok (.if_icmp .ge 23, 3) := by decide +kernel
theorem dX8_turn_148 : decode cX8_turn 148 = .ok (.aload_n 0, 1) := by decide +kernel
theorem dX8_turn_149 : decode cX8_turn 149 = .ok (.iload_n 1, 1) := by decide +kernel
theorem dX8_turn_150 : decode cX8_turn 150 = .ok (.iload_n 2, 1) := by decide +kernel
theorem dX8_turn_151 : decode cX8_turn 151 = .ok (.ifCond .ge 7, 3) := by decide +kernel
theorem dX8_turn_154 : decode cX8_turn 154 = .ok (.iconst (-1), 1) := by decide +kernel
theorem dX8_turn_155 : decode cX8_turn 155 = .ok (.goto 4, 3) := by decide +kernel
theorem dX8_turn_158 : decode cX8_turn 158 = .ok (.iconst 1, 1) := by decide +kernel
theorem dX8_turn_159 : decode cX8_turn 159 = .ok (.invokevirtual 231, 3) := by decide +kernel
theorem dX8_turn_162 : decode cX8_turn 162 = .ok (.iinc 3 1, 3) := by decide +kernel
theorem dX8_turn_165 : decode cX8_turn 165 = .ok (.goto (-25), 3) := by decide +kernel
theorem dX8_turn_168 : decode cX8_turn 168 = .ok (.iconst 0, 1) := by decide +kernel
theorem dX8_turn_169 : decode cX8_turn 169 = .ok (.istore_n 3, 1) := by decide +kernel
theorem dX8_turn_170 : decode cX8_turn 170 = .ok (.iload_n 3, 1) := by decide +kernel
theorem dX8_turn_171 : decode cX8_turn 171 = .ok (.aload_n 0, 1) := by decide +kernel
theorem dX8_turn_172 : decode cX8_turn 172 = .ok (.getfield 127, 3) := by decide +kernel
theorem dX8_turn_175 : decode cX8_turn 175 = .ok (.if_icmp .ge 56, 3) := by decide +kernel
theorem dX8_turn_178 : decode cX8_turn 178 = .ok (.aload_n 0, 1) := by decide +kernel
theorem dX8_turn_179 : decode cX8_turn 179 = .ok (.getfield 61, 3) := by decide +kernel
theorem dX8_turn_182 : decode cX8_turn 182 = .ok (.iload_n 3, 1) := by decide +kernel
theorem dX8_turn_183 : decode cX8_turn 183 = .ok (.dup2, 1) := by decide +kernel
theorem dX8_turn_184 : decode cX8_turn 184 = .ok (.baload, 1) := by decide +kernel
theorem dX8_turn_185 : decode cX8_turn 185 = .ok (.aload_n 0, 1) := by decide +kernel
theorem dX8_turn_186 : decode cX8_turn 186 = .ok (.getfield 64, 3) := by decide +kernel
theorem dX8_turn_189 : decode cX8_turn 189 = .ok (.iload_n 3, 1) := by decide +kernel
theorem dX8_turn_190 : decode cX8_turn 190 = .ok (.iaload, 1) := by decide +kernel
theorem dX8_turn_191 : decode cX8_turn 191 = .ok (.ifCond .le 31, 3) := by decide +kernel
theorem dX8_turn_194 : decode cX8_turn 194 = .ok (.aload_n 0, 1) := by decide +kernel
theorem dX8_turn_195 : decode cX8_turn 195 = .ok (.getfield 70, 3) := by decide +kernel
theorem dX8_turn_198 : decode cX8_turn 198 = .ok (.iload_n 3, 1) := by decide +kernel
theorem dX8_turn_199 : decode cX8_turn 199 = .ok (.laload, 1) := by decide +kernel
theorem dX8_turn_200 : decode cX8_turn 200 = .ok (.aload_n 0, 1) := by decide +kernel
theorem dX8_turn_201 : decode cX8_turn 201 = .ok (.getfield 64, 3) := by decide +kernel
theorem dX8_turn_204 : decode cX8_turn 204 = .ok (.iload_n 3, 1) := by decide +kernel
theorem dX8_turn_205 : decode cX8_turn 205 = .ok (.iaload, 1) := by decide +kernel
theorem dX8_turn_206 : decode cX8_turn 206 = .ok (.i2l, 1) := by decide +kernel
theorem dX8_turn_207 : decode cX8_turn 207 = .ok (.aload_n 0, 1) := by decide +kernel
theorem dX8_turn_208 : decode cX8_turn 208 = .ok (.getfield 73, 3) := by decide +kernel
theorem dX8_turn_211 : decode cX8_turn 211 = .ok (.iload_n 3, 1) := by decide +kernel
theorem dX8_turn_212 : decode cX8_turn 212 = .ok (.laload, 1) := by decide +kernel
theorem dX8_turn_213 : decode cX8_turn 213 = .ok (.lmul, 1) := by decide +kernel
theorem dX8_turn_214 : decode cX8_turn 214 = .ok (.lcmp, 1) := by decide +kernel
theorem dX8_turn_215 : decode cX8_turn 215 = .ok (.ifCond .le 7, 3) := by decide +kernel
theorem dX8_turn_218 : decode cX8_turn 218 = .ok (.iconst 1, 1) := by decide +kernel
theorem dX8_turn_219 : decode cX8_turn 219 = .ok (.goto 4, 3) := by decide +kernel
theorem dX8_turn_222 : decode cX8_turn 222 = .ok (.iconst 0, 1) := by decide +kernel
theorem dX8_turn_223 : decode cX8_turn 223 = .ok (.ior, 1) := by decide +kernel
theorem dX8_turn_224 : decode cX8_turn 224 = .ok (.bastore, 1) := by decide +kernel
theorem dX8_turn_225 : decode cX8_turn 225 = .ok (.iinc 3 1, 3) := by decide +kernel
theorem dX8_turn_228 : decode cX8_turn 228 = .ok (.goto (-58), 3) := by decide +kernel
theorem dX8_turn_231 : decode cX8_turn 231 = .ok (.iconst 0, 1) := by decide +kernel
theorem dX8_turn_232 : decode cX8_turn 232 = .ok (.istore_n 3, 1) := by decide +kernel
theorem dX8_turn_233 : decode cX8_turn 233 = .ok (.iconst 0, 1) := by decide +kernel
theorem dX8_turn_234 : decode cX8_turn 234 = .ok (.istore 4, 2) := by decide +kernel
theorem dX8_turn_236 : decode cX8_turn 236 = .ok (.iload 4, 2) := by decide +kernel
theorem dX8_turn_238 : decode cX8_turn 238 = .ok (.aload_n 0, 1) := by decide +kernel
theorem dX8_turn_239 : decode cX8_turn 239 = .ok (.getfield 120, 3) := by decide +kernel
theorem dX8_turn_242 : decode cX8_turn 242 = .ok (.if_icmp .ge 53, 3) := by decide +kernel
theorem dX8_turn_245 : decode cX8_turn 245 = .ok (.iload_n 3, 1) := by decide +kernel
theorem dX8_turn_246 : decode cX8_turn 246 = .ok (.aload_n 0, 1) := by decide +kernel
theorem dX8_turn_247 : decode cX8_turn 247 = .ok (.getfield 9, 3) := by decide +kernel
theorem dX8_turn_250 : decode cX8_turn 250 = .ok (.iload 4, 2) := by decide +kernel
theorem dX8_turn_252 : decode cX8_turn 252 = .ok (.laload, 1) := by decide +kernel
theorem dX8_turn_253 : decode cX8_turn 253 = .ok (.aload_n 0, 1) := by decide +kernel
theorem dX8_turn_254 : decode cX8_turn 254 = .ok (.getfield 22, 3) := by decide +kernel
theorem dX8_turn_257 : decode cX8_turn 257 = .ok (.iload 4, 2) := by decide +kernel
theorem dX8_turn_259 : decode cX8_turn 259 = .ok (.laload, 1) := by decide +kernel
theorem dX8_turn_260 : decode cX8_turn 260 = .ok (.lcmp, 1) := by decide +kernel
theorem dX8_turn_261 : decode cX8_turn 261 = .ok (.ifCond .ne 25, 3) := by decide +kernel
theorem dX8_turn_264 : decode cX8_turn 264 = .ok (.aload_n 0, 1) := by decide +kernel
theorem dX8_turn_265 : decode cX8_turn 265 = .ok (.getfield 13, 3) := by decide +kernel
theorem dX8_turn_268 : decode cX8_turn 268 = .ok (.iload 4, 2) := by decide +kernel
theorem dX8_turn_270 : decode cX8_turn 270 = .ok (.laload, 1) := by decide +kernel
theorem dX8_turn_271 : decode cX8_turn 271 = .ok (.aload_n 0, 1) := by decide +kernel
theorem dX8_turn_272 : decode cX8_turn 272 = .ok (.getfield 25, 3) := by decide +kernel
theorem dX8_turn_275 : decode cX8_turn 275 = .ok (.iload 4, 2) := by decide +kernel
theorem dX8_turn_277 : decode cX8_turn 277 = .ok (.laload, 1) := by decide +kernel
theorem dX8_turn_278 : decode cX8_turn 278 = .ok (.lcmp, 1) := by decide +kernel
theorem dX8_turn_279 : decode cX8_turn 279 = .ok (.ifCond .ne 7, 3) := by decide +kernel
theorem dX8_turn_282 : decode cX8_turn 282 = .ok (.iconst 0, 1) := by decide +kernel
theorem dX8_turn_283 : decode cX8_turn 283 = .ok (.goto 4, 3) := by decide +kernel
theorem dX8_turn_286 : decode cX8_turn 286 = .ok (.iconst 1, 1) := by decide +kernel
theorem dX8_turn_287 : decode cX8_turn 287 = .ok (.iadd, 1) := by decide +kernel
theorem dX8_turn_288 : decode cX8_turn 288 = .ok (.istore_n 3, 1) := by decide +kernel
theorem dX8_turn_289 : decode cX8_turn 289 = .ok (.iinc 4 1, 3) := by decide +kernel
theorem dX8_turn_292 : decode cX8_turn 292 = .ok (.goto (-56), 3) := by decide +kernel
theorem dX8_turn_295 : decode cX8_turn 295 = .ok (.iload_n 3, 1) := by decide +kernel
theorem dX8_turn_296 : decode cX8_turn 296 = .ok (.ireturn, 1) := by decide +kernel
theorem dX8_placeOver_0 : decode cX8_placeOver 0 = .ok (.aload_n 0, 1) := by decide +kernel
theorem dX8_placeOver_1 : decode cX8_placeOver 1 = .ok (.aload_n 0, 1) := by decide +kernel
theorem dX8_placeOver_2 : decode cX8_placeOver 2 = .ok (.iload_n 1, 1) := by decide +kernel
theorem dX8_placeOver_3 : decode cX8_placeOver 3 = .ok (.invokevirtual 176, 3) := by decide +kernel
theorem dX8_placeOver_6 : decode cX8_placeOver 6 = .ok (.iconst 1, 1) := by decide +kernel
theorem dX8_placeOver_7 : decode cX8_placeOver 7 = .ok (.invokevirtual 150, 3) := by decide +kernel
theorem dX8_placeOver_10 : decode cX8_placeOver 10 = .ok (.ifCond .eq 7, 3) := by decide +kernel
theorem dX8_placeOver_13 : decode cX8_placeOver 13 = .ok (.lconst 0, 1) := by decide +kernel
theorem dX8_placeOver_14 : decode cX8_placeOver 14 = .ok (.goto 9, 3) := by decide +kernel
theorem dX8_placeOver_17 : decode cX8_placeOver 17 = .ok (.aload_n 0, 1) := by decide +kernel
theorem dX8_placeOver_18 : decode cX8_placeOver 18 = .ok (.getfield 9, 3) := by decide +kernel
theorem dX8_placeOver_21 : decode cX8_placeOver 21 = .ok (.iload_n 1, 1) := by decide +kernel
theorem dX8_placeOver_22 : decode cX8_placeOver 22 = .ok (.laload, 1) := by decide +kernel
theorem dX8_placeOver_23 : decode cX8_placeOver 23 = .ok (.lreturn, 1) := by decide +kernel
theorem dX8_placeUnder_0 : decode cX8_placeUnder 0 = .ok (.aload_n 0, 1) := by decide +kernel
theorem dX8_placeUnder_1 : decode cX8_placeUnder 1 = .ok (.aload_n 0, 1) := by decide +kernel
theorem dX8_placeUnder_2 : decode cX8_placeUnder 2 = .ok (.iload_n 1, 1) := by decide +kernel
theorem dX8_placeUnder_3 : decode cX8_placeUnder 3 = .ok (.invokevirtual 176, 3) := by decide +kernel
theorem dX8_placeUnder_6 : decode cX8_placeUnder 6 = .ok (.iconst 1, 1) := by decide +kernel
theorem dX8_placeUnder_7 : decode cX8_placeUnder 7 = .ok (.invokevirtual 150, 3) := by decide +kernel
theorem dX8_placeUnder_10 : decode cX8_placeUnder 10 = .ok (.ifCond .eq 7, 3) := by decide +kernel
theorem dX8_placeUnder_13 : decode cX8_placeUnder 13 = .ok (.lconst 0, 1) := by decide +kernel
theorem dX8_placeUnder_14 : decode cX8_placeUnder 14 = .ok (.goto 9, 3) := by decide +kernel
theorem dX8_placeUnder_17 : decode cX8_placeUnder 17 = .ok (.aload_n 0, 1) := by decide +kernel
theorem dX8_placeUnder_18 : decode cX8_placeUnder 18 = .ok (.getfield 13, 3) := by decide +kernel
theorem dX8_placeUnder_21 : decode cX8_placeUnder 21 = .ok (.iload_n 1, 1) := by decide +kernel
theorem dX8_placeUnder_22 : decode cX8_placeUnder 22 = .ok (.laload, 1) := by decide +kernel
theorem dX8_placeUnder_23 : decode cX8_placeUnder 23 = .ok (.lreturn, 1) := by decide +kernel
theorem dX8_isUneven_0 : decode cX8_isUneven 0 = .ok (.aload_n 0, 1) := by decide +kernel
theorem dX8_isUneven_1 : decode cX8_isUneven 1 = .ok (.getfield 32, 3) := by decide +kernel
theorem dX8_isUneven_4 : decode cX8_isUneven 4 = .ok (.iload_n 1, 1) := by decide +kernel
theorem dX8_isUneven_5 : decode cX8_isUneven 5 = .ok (.iaload, 1) := by decide +kernel
theorem dX8_isUneven_6 : decode cX8_isUneven 6 = .ok (.istore_n 3, 1) := by decide +kernel
theorem dX8_isUneven_7 : decode cX8_isUneven 7 = .ok (.iload_n 1, 1) := by decide +kernel
theorem dX8_isUneven_8 : decode cX8_isUneven 8 = .ok (.iload_n 2, 1) := by decide +kernel
theorem dX8_isUneven_9 : decode cX8_isUneven 9 = .ok (.if_icmp .eq 17, 3) := by decide +kernel
theorem dX8_isUneven_12 : decode cX8_isUneven 12 = .ok (.iload_n 3, 1) := by decide +kernel
theorem dX8_isUneven_13 : decode cX8_isUneven 13 = .ok (.iconst (-1), 1) := by decide +kernel
theorem dX8_isUneven_14 : decode cX8_isUneven 14 = .ok (.if_icmp .eq 12, 3) := by decide +kernel
theorem dX8_isUneven_17 : decode cX8_isUneven 17 = .ok (.aload_n 0, 1) := by decide +kernel
theorem dX8_isUneven_18 : decode cX8_isUneven 18 = .ok (.iload_n 1, 1) := by decide +kernel
theorem dX8_isUneven_19 : decode cX8_isUneven 19 = .ok (.iload_n 2, 1) := by decide +kernel
theorem dX8_isUneven_20 : decode cX8_isUneven 20 = .ok (.invokevirtual 195, 3) := by decide +kernel
theorem dX8_isUneven_23 : decode cX8_isUneven 23 = .ok (.ifCond .ne 5, 3) := by decide +kernel
theorem dX8_isUneven_26 : decode cX8_isUneven 26 = .ok (.iconst 0, 1) := by decide +kernel
theorem dX8_isUneven_27 : decode cX8_isUneven 27 = .ok (.ireturn, 1) := by decide +kernel
theorem dX8_isUneven_28 : decode cX8_isUneven 28 = .ok (.aload_n 0, 1) := by decide +kernel
theorem dX8_isUneven_29 : decode cX8_isUneven 29 = .ok (.getfield 39, 3) := by decide +kernel
theorem dX8_isUneven_32 : decode cX8_isUneven 32 = .ok (.iload_n 3, 1) := by decide +kernel
theorem dX8_isUneven_33 : decode cX8_isUneven 33 = .ok (.caload, 1) := by decide +kernel
theorem dX8_isUneven_34 : decode cX8_isUneven 34 = .ok (.bipush 118, 2) := by decide +kernel
theorem dX8_isUneven_36 : decode cX8_isUneven 36 = .ok (.if_icmp .eq 14, 3) := by decide +kernel
theorem dX8_isUneven_39 : decode cX8_isUneven 39 = .ok (.aload_n 0, 1) := by decide +kernel
theorem dX8_isUneven_40 : decode cX8_isUneven 40 = .ok (.getfield 39, 3) := by decide +kernel
theorem dX8_isUneven_43 : decode cX8_isUneven 43 = .ok (.iload_n 3, 1) := by decide +kernel
theorem dX8_isUneven_44 : decode cX8_isUneven 44 = .ok (.caload, 1) := by decide +kernel
theorem dX8_isUneven_45 : decode cX8_isUneven 45 = .ok (.bipush 114, 2) := by decide +kernel
theorem dX8_isUneven_47 : decode cX8_isUneven 47 = .ok (.if_icmp .ne 16, 3) := by decide +kernel
theorem dX8_isUneven_50 : decode cX8_isUneven 50 = .ok (.aload_n 0, 1) := by decide +kernel
theorem dX8_isUneven_51 : decode cX8_isUneven 51 = .ok (.getfield 61, 3) := by decide +kernel
theorem dX8_isUneven_54 : decode cX8_isUneven 54 = .ok (.iload_n 3, 1) := by decide +kernel
theorem dX8_isUneven_55 : decode cX8_isUneven 55 = .ok (.baload, 1) := by decide +kernel
theorem dX8_isUneven_56 : decode cX8_isUneven 56 = .ok (.ifCond .ne 7, 3) := by decide +kernel
theorem dX8_isUneven_59 : decode cX8_isUneven 59 = .ok (.iconst 1, 1) := by decide +kernel
theorem dX8_isUneven_60 : decode cX8_isUneven 60 = .ok (.goto 4, 3) := by decide +kernel
theorem dX8_isUneven_63 : decode cX8_isUneven 63 = .ok (.iconst 0, 1) := by decide +kernel
theorem dX8_isUneven_64 : decode cX8_isUneven 64 = .ok (.istore 4, 2) := by decide +kernel
theorem dX8_isUneven_66 : decode cX8_isUneven 66 = .ok (.iload 4, 2) := by decide +kernel
theorem dX8_isUneven_68 : decode cX8_isUneven 68 = .ok (.ifCond .ne 41, 3) := by decide +kernel
theorem dX8_isUneven_71 : decode cX8_isUneven 71 = .ok (.aload_n 0, 1) := by decide +kernel
theorem dX8_isUneven_72 : decode cX8_isUneven 72 = .ok (.aload_n 0, 1) := by decide +kernel
theorem dX8_isUneven_73 : decode cX8_isUneven 73 = .ok (.getfield 43, 3) := by decide +kernel
theorem dX8_isUneven_76 : decode cX8_isUneven 76 = .ok (.iload_n 3, 1) := by decide +kernel
theorem dX8_isUneven_77 : decode cX8_isUneven 77 = .ok (.iaload, 1) := by decide +kernel
theorem dX8_isUneven_78 : decode cX8_isUneven 78 = .ok (.iload_n 2, 1) := by decide +kernel
theorem dX8_isUneven_79 : decode cX8_isUneven 79 = .ok (.invokevirtual 234, 3) := by decide +kernel
theorem dX8_isUneven_82 : decode cX8_isUneven 82 = .ok (.ifCond .ne 27, 3) := by decide +kernel
theorem dX8_isUneven_85 : decode cX8_isUneven 85 = .ok (.aload_n 0, 1) := by decide +kernel
theorem dX8_isUneven_86 : decode cX8_isUneven 86 = .ok (.getfield 46, 3) := by decide +kernel
theorem dX8_isUneven_89 : decode cX8_isUneven 89 = .ok (.iload_n 3, 1) := by decide +kernel
theorem dX8_isUneven_90 : decode cX8_isUneven 90 = .ok (.iaload, 1) := by decide +kernel
theorem dX8_isUneven_91 : decode cX8_isUneven 91 = .ok (.iconst (-1), 1) := by decide +kernel
theorem dX8_isUneven_92 : decode cX8_isUneven 92 = .ok (.if_icmp .eq 21, 3) := by decide +kernel
theorem dX8_isUneven_95 : decode cX8_isUneven 95 = .ok (.aload_n 0, 1) := by decide +kernel
theorem dX8_isUneven_96 : decode cX8_isUneven 96 = .ok (.aload_n 0, 1) := by decide +kernel
theorem dX8_isUneven_97 : decode cX8_isUneven 97 = .ok (.getfield 46, 3) := by decide +kernel
theorem dX8_isUneven_100 : decode cX8_isUneven 100 = .ok (.iload_n 3, 1) := by decide +kernel
theorem dX8_isUneven_101 : decode cX8_isUneven 101 = .ok (.iaload, 1) := by decide +kernel
theorem dX8_isUneven_102 : decode cX8_isUneven 102 = .ok (.iload_n 2, 1) := by decide +kernel
theorem dX8_isUneven_103 : decode cX8_isUneven 103 = .ok (.invokevirtual 234, 3) := by decide +kernel
theorem dX8_isUneven_106 : decode cX8_isUneven 106 = .ok (.ifCond .eq 7, 3) := by decide +kernel
theorem dX8_isUneven_109 : decode cX8_isUneven 109 = .ok (.iconst 1, 1) := by decide +kernel
theorem dX8_isUneven_110 : decode cX8_isUneven 110 = .ok (.goto 4, 3) := by decide +kernel
theorem dX8_isUneven_113 : decode cX8_isUneven 113 = .ok (.iconst 0, 1) := by decide +kernel
theorem dX8_isUneven_114 : decode cX8_isUneven 114 = .ok (.ireturn, 1) := by decide +kernel
theorem dX8_turns_0 : decode cX8_turns 0 = .ok (.aload_n 0, 1) := by decide +kernel
theorem dX8_turns_1 : decode cX8_turns 1 = .ok (.getfield 32, 3) := by decide +kernel
theorem dX8_turns_4 : decode cX8_turns 4 = .ok (.iload_n 1, 1) := by decide +kernel
theorem dX8_turns_5 : decode cX8_turns 5 = .ok (.iaload, 1) := by decide +kernel
theorem dX8_turns_6 : decode cX8_turns 6 = .ok (.istore_n 3, 1) := by decide +kernel
theorem dX8_turns_7 : decode cX8_turns 7 = .ok (.iload_n 1, 1) := by decide +kernel
theorem dX8_turns_8 : decode cX8_turns 8 = .ok (.iload_n 2, 1) := by decide +kernel
theorem dX8_turns_9 : decode cX8_turns 9 = .ok (.if_icmp .eq 26, 3) := by decide +kernel
theorem dX8_turns_12 : decode cX8_turns 12 = .ok (.iload_n 3, 1) := by decide +kernel
theorem dX8_turns_13 : decode cX8_turns 13 = .ok (.iconst (-1), 1) := by decide +kernel
theorem dX8_turns_14 : decode cX8_turns 14 = .ok (.if_icmp .eq 21, 3) := by decide +kernel
theorem dX8_turns_17 : decode cX8_turns 17 = .ok (.aload_n 0, 1) := by decide +kernel
theorem dX8_turns_18 : decode cX8_turns 18 = .ok (.getfield 61, 3) := by decide +kernel
theorem dX8_turns_21 : decode cX8_turns 21 = .ok (.iload_n 3, 1) := by decide +kernel
theorem dX8_turns_22 : decode cX8_turns 22 = .ok (.baload, 1) := by decide +kernel
theorem dX8_turns_23 : decode cX8_turns 23 = .ok (.ifCond .ne 12, 3) := by decide +kernel
theorem dX8_turns_26 : decode cX8_turns 26 = .ok (.aload_n 0, 1) := by decide +kernel
theorem dX8_turns_27 : decode cX8_turns 27 = .ok (.getfield 58, 3) := by decide +kernel
theorem dX8_turns_30 : decode cX8_turns 30 = .ok (.iload_n 3, 1) := by decide +kernel
theorem dX8_turns_31 : decode cX8_turns 31 = .ok (.baload, 1) := by decide +kernel
theorem dX8_turns_32 : decode cX8_turns 32 = .ok (.ifCond .eq 19, 3) := by decide +kernel
theorem dX8_turns_35 : decode cX8_turns 35 = .ok (.aload_n 0, 1) := by decide +kernel
theorem dX8_turns_36 : decode cX8_turns 36 = .ok (.iload_n 1, 1) := by decide +kernel
theorem dX8_turns_37 : decode cX8_turns 37 = .ok (.iload_n 2, 1) := by decide +kernel
theorem dX8_turns_38 : decode cX8_turns 38 = .ok (.if_icmp .ne 7, 3) := by decide +kernel
theorem dX8_turns_41 : decode cX8_turns 41 = .ok (.lconst 1, 1) := by decide +kernel
theorem dX8_turns_42 : decode cX8_turns 42 = .ok (.goto 4, 3) := by decide +kernel
theorem dX8_turns_45 : decode cX8_turns 45 = .ok (.lconst 0, 1) := by decide +kernel
theorem dX8_turns_46 : decode cX8_turns 46 = .ok (.lconst 1, 1) := by decide +kernel
theorem dX8_turns_47 : decode cX8_turns 47 = .ok (.invokevirtual 143, 3) := by decide +kernel
theorem dX8_turns_50 : decode cX8_turns 50 = .ok (.return_, 1) := by decide +kernel
theorem dX8_turns_51 : decode cX8_turns 51 = .ok (.aload_n 0, 1) := by decide +kernel
theorem dX8_turns_52 : decode cX8_turns 52 = .ok (.getfield 52, 3) := by decide +kernel
theorem dX8_turns_55 : decode cX8_turns 55 = .ok (.iload_n 3, 1) := by decide +kernel
theorem dX8_turns_56 : decode cX8_turns 56 = .ok (.iaload, 1) := by decide +kernel
theorem dX8_turns_57 : decode cX8_turns 57 = .ok (.i2l, 1) := by decide +kernel
theorem dX8_turns_58 : decode cX8_turns 58 = .ok (.lstore 4, 2) := by decide +kernel
theorem dX8_turns_60 : decode cX8_turns 60 = .ok (.aload_n 0, 1) := by decide +kernel
theorem dX8_turns_61 : decode cX8_turns 61 = .ok (.getfield 55, 3) := by decide +kernel
theorem dX8_turns_64 : decode cX8_turns 64 = .ok (.iload_n 3, 1) := by decide +kernel
theorem dX8_turns_65 : decode cX8_turns 65 = .ok (.iaload, 1) := by decide +kernel
theorem dX8_turns_66 : decode cX8_turns 66 = .ok (.i2l, 1) := by decide +kernel
theorem dX8_turns_67 : decode cX8_turns 67 = .ok (.lstore 6, 2) := by decide +kernel
theorem dX8_turns_69 : decode cX8_turns 69 = .ok (.aload_n 0, 1) := by decide +kernel
theorem dX8_turns_70 : decode cX8_turns 70 = .ok (.aload_n 0, 1) := by decide +kernel
theorem dX8_turns_71 : decode cX8_turns 71 = .ok (.getfield 43, 3) := by decide +kernel
theorem dX8_turns_74 : decode cX8_turns 74 = .ok (.iload_n 3, 1) := by decide +kernel
theorem dX8_turns_75 : decode cX8_turns 75 = .ok (.iaload, 1) := by decide +kernel
theorem dX8_turns_76 : decode cX8_turns 76 = .ok (.iload_n 2, 1) := by decide +kernel
theorem dX8_turns_77 : decode cX8_turns 77 = .ok (.invokevirtual 237, 3) := by decide +kernel
theorem dX8_turns_80 : decode cX8_turns 80 = .ok (.aload_n 0, 1) := by decide +kernel
theorem dX8_turns_81 : decode cX8_turns 81 = .ok (.getfield 39, 3) := by decide +kernel
theorem dX8_turns_84 : decode cX8_turns 84 = .ok (.iload_n 3, 1) := by decide +kernel
theorem dX8_turns_85 : decode cX8_turns 85 = .ok (.caload, 1) := by decide +kernel
theorem dX8_turns_86 : decode cX8_turns 86 = .ok (.bipush 112, 2) := by decide +kernel
theorem dX8_turns_88 : decode cX8_turns 88 = .ok (.if_icmp .ne 83, 3) := by decide +kernel
theorem dX8_turns_91 : decode cX8_turns 91 = .ok (.aload_n 0, 1) := by decide +kernel
theorem dX8_turns_92 : decode cX8_turns 92 = .ok (.aload_n 0, 1) := by decide +kernel
theorem dX8_turns_93 : decode cX8_turns 93 = .ok (.getfield 140, 3) := by decide +kernel
theorem dX8_turns_96 : decode cX8_turns 96 = .ok (.aload_n 0, 1) := by decide +kernel
theorem dX8_turns_97 : decode cX8_turns 97 = .ok (.getfield 112, 3) := by decide +kernel
theorem dX8_turns_100 : decode cX8_turns 100 = .ok (.lload 4, 2) := by decide +kernel
theorem dX8_turns_102 : decode cX8_turns 102 = .ok (.lload 4, 2) := by decide +kernel
theorem dX8_turns_104 : decode cX8_turns 104 = .ok (.lload 6, 2) := by decide +kernel
theorem dX8_turns_106 : decode cX8_turns 106 = .ok (.ladd, 1) := by decide +kernel
theorem dX8_turns_107 : decode cX8_turns 107 = .ok (.invokevirtual 198, 3) := by decide +kernel
theorem dX8_turns_110 : decode cX8_turns 110 = .ok (.aload_n 0, 1) := by decide +kernel
theorem dX8_turns_111 : decode cX8_turns 111 = .ok (.getfield 140, 3) := by decide +kernel
theorem dX8_turns_114 : decode cX8_turns 114 = .ok (.lstore 8, 2) := by decide +kernel
theorem dX8_turns_116 : decode cX8_turns 116 = .ok (.aload_n 0, 1) := by decide +kernel
theorem dX8_turns_117 : decode cX8_turns 117 = .ok (.getfield 112, 3) := by decide +kernel
theorem dX8_turns_120 : decode cX8_turns 120 = .ok (.lstore 10, 2) := by decide +kernel
theorem dX8_turns_122 : decode cX8_turns 122 = .ok (.aload_n 0, 1) := by decide +kernel
theorem dX8_turns_123 : decode cX8_turns 123 = .ok (.aload_n 0, 1) := by decide +kernel
theorem dX8_turns_124 : decode cX8_turns 124 = .ok (.getfield 46, 3) := by decide +kernel
theorem dX8_turns_127 : decode cX8_turns 127 = .ok (.iload_n 3, 1) := by decide +kernel
theorem dX8_turns_128 : decode cX8_turns 128 = .ok (.iaload, 1) := by decide +kernel
theorem dX8_turns_129 : decode cX8_turns 129 = .ok (.iload_n 2, 1) := by decide +kernel
theorem dX8_turns_130 : decode cX8_turns 130 = .ok (.invokevirtual 237, 3) := by decide +kernel
theorem dX8_turns_133 : decode cX8_turns 133 = .ok (.aload_n 0, 1) := by decide +kernel
theorem dX8_turns_134 : decode cX8_turns 134 = .ok (.aload_n 0, 1) := by decide +kernel
theorem dX8_turns_135 : decode cX8_turns 135 = .ok (.getfield 140, 3) := by decide +kernel
theorem dX8_turns_138 : decode cX8_turns 138 = .ok (.aload_n 0, 1) := by decide +kernel
theorem dX8_turns_139 : decode cX8_turns 139 = .ok (.getfield 112, 3) := by decide +kernel
theorem dX8_turns_142 : decode cX8_turns 142 = .ok (.lload 6, 2) := by decide +kernel
theorem dX8_turns_144 : decode cX8_turns 144 = .ok (.lload 4, 2) := by decide +kernel
theorem dX8_turns_146 : decode cX8_turns 146 = .ok (.lload 6, 2) := by decide +kernel
theorem dX8_turns_148 : decode cX8_turns 148 = .ok (.ladd, 1) := by decide +kernel
theorem dX8_turns_149 : decode cX8_turns 149 = .ok (.invokevirtual 198, 3) := by decide +kernel
theorem dX8_turns_152 : decode cX8_turns 152 = .ok (.aload_n 0, 1) := by decide +kernel
theorem dX8_turns_153 : decode cX8_turns 153 = .ok (.lload 8, 2) := by decide +kernel
theorem dX8_turns_155 : decode cX8_turns 155 = .ok (.lload 10, 2) := by decide +kernel
theorem dX8_turns_157 : decode cX8_turns 157 = .ok (.aload_n 0, 1) := by decide +kernel
theorem dX8_turns_158 : decode cX8_turns 158 = .ok (.getfield 140, 3) := by decide +kernel
theorem dX8_turns_161 : decode cX8_turns 161 = .ok (.aload_n 0, 1) := by decide +kernel
theorem dX8_turns_162 : decode cX8_turns 162 = .ok (.getfield 112, 3) := by decide +kernel
theorem dX8_turns_165 : decode cX8_turns 165 = .ok (.invokevirtual 202, 3) := by decide +kernel
theorem dX8_turns_168 : decode cX8_turns 168 = .ok (.goto 60, 3) := by decide +kernel
theorem dX8_turns_171 : decode cX8_turns 171 = .ok (.aload_n 0, 1) := by decide +kernel
theorem dX8_turns_172 : decode cX8_turns 172 = .ok (.getfield 39, 3) := by decide +kernel
theorem dX8_turns_175 : decode cX8_turns 175 = .ok (.iload_n 3, 1) := by decide +kernel
theorem dX8_turns_176 : decode cX8_turns 176 = .ok (.caload, 1) := by decide +kernel
theorem dX8_turns_177 : decode cX8_turns 177 = .ok (.bipush 103, 2) := by decide +kernel
theorem dX8_turns_179 : decode cX8_turns 179 = .ok (.if_icmp .eq 14, 3) := by decide +kernel
theorem dX8_turns_182 : decode cX8_turns 182 = .ok (.aload_n 0, 1) := by decide +kernel
theorem dX8_turns_183 : decode cX8_turns 183 = .ok (.getfield 39, 3) := by decide +kernel
theorem dX8_turns_186 : decode cX8_turns 186 = .ok (.iload_n 3, 1) := by decide +kernel
theorem dX8_turns_187 : decode cX8_turns 187 = .ok (.caload, 1) := by decide +kernel
theorem dX8_turns_188 : decode cX8_turns 188 = .ok (.bipush 105, 2) := by decide +kernel
theorem dX8_turns_190 : decode cX8_turns 190 = .ok (.if_icmp .ne 38, 3) := by decide +kernel
theorem dX8_turns_193 : decode cX8_turns 193 = .ok (.aload_n 0, 1) := by decide +kernel
theorem dX8_turns_194 : decode cX8_turns 194 = .ok (.aload_n 0, 1) := by decide +kernel
theorem dX8_turns_195 : decode cX8_turns 195 = .ok (.getfield 39, 3) := by decide +kernel
theorem dX8_turns_198 : decode cX8_turns 198 = .ok (.iload_n 3, 1) := by decide +kernel
theorem dX8_turns_199 : decode cX8_turns 199 = .ok (.caload, 1) := by decide +kernel
theorem dX8_turns_200 : decode cX8_turns 200 = .ok (.bipush 103, 2) := by decide +kernel
theorem dX8_turns_202 : decode cX8_turns 202 = .ok (.if_icmp .ne 11, 3) := by decide +kernel
theorem dX8_turns_205 : decode cX8_turns 205 = .ok (.aload_n 0, 1) := by decide +kernel
theorem dX8_turns_206 : decode cX8_turns 206 = .ok (.getfield 140, 3) := by decide +kernel
theorem dX8_turns_209 : decode cX8_turns 209 = .ok (.lneg, 1) := by decide +kernel
theorem dX8_turns_210 : decode cX8_turns 210 = .ok (.goto 7, 3) := by decide +kernel
theorem dX8_turns_213 : decode cX8_turns 213 = .ok (.aload_n 0, 1) := by decide +kernel
theorem dX8_turns_214 : decode cX8_turns 214 = .ok (.getfield 140, 3) := by decide +kernel
theorem dX8_turns_217 : decode cX8_turns 217 = .ok (.aload_n 0, 1) := by decide +kernel
theorem dX8_turns_218 : decode cX8_turns 218 = .ok (.getfield 112, 3) := by decide +kernel
theorem dX8_turns_221 : decode cX8_turns 221 = .ok (.lload 4, 2) := by decide +kernel
theorem dX8_turns_223 : decode cX8_turns 223 = .ok (.lload 6, 2) := by decide +kernel
theorem dX8_turns_225 : decode cX8_turns 225 = .ok (.invokevirtual 198, 3) := by decide +kernel
theorem dX8_turns_228 : decode cX8_turns 228 = .ok (.return_, 1) := by decide +kernel
theorem dX8_ratio_0 : decode cX8_ratio 0 = .ok (.aload_n 0, 1) := by decide +kernel
theorem dX8_ratio_1 : decode cX8_ratio 1 = .ok (.aload_n 0, 1) := by decide +kernel
theorem dX8_ratio_2 : decode cX8_ratio 2 = .ok (.iload_n 1, 1) := by decide +kernel
theorem dX8_ratio_3 : decode cX8_ratio 3 = .ok (.invokevirtual 176, 3) := by decide +kernel
theorem dX8_ratio_6 : decode cX8_ratio 6 = .ok (.ifCond .ne 11, 3) := by decide +kernel
theorem dX8_ratio_9 : decode cX8_ratio 9 = .ok (.aload_n 0, 1) := by decide +kernel
theorem dX8_ratio_10 : decode cX8_ratio 10 = .ok (.iload_n 2, 1) := by decide +kernel
theorem dX8_ratio_11 : decode cX8_ratio 11 = .ok (.invokevirtual 176, 3) := by decide +kernel
theorem dX8_ratio_14 : decode cX8_ratio 14 = .ok (.ifCond .eq 7, 3) := by decide +kernel
theorem dX8_ratio_17 : decode cX8_ratio 17 = .ok (.iconst 1, 1) := by decide +kernel
theorem dX8_ratio_18 : decode cX8_ratio 18 = .ok (.goto 4, 3) := by decide +kernel
theorem dX8_ratio_21 : decode cX8_ratio 21 = .ok (.iconst 0, 1) := by decide +kernel
theorem dX8_ratio_22 : decode cX8_ratio 22 = .ok (.iconst 1, 1) := by decide +kernel
theorem dX8_ratio_23 : decode cX8_ratio 23 = .ok (.invokevirtual 150, 3) := by decide +kernel
theorem dX8_ratio_26 : decode cX8_ratio 26 = .ok (.ifCond .ne 35, 3) := by decide +kernel
theorem dX8_ratio_29 : decode cX8_ratio 29 = .ok (.aload_n 0, 1) := by decide +kernel
theorem dX8_ratio_30 : decode cX8_ratio 30 = .ok (.aload_n 0, 1) := by decide +kernel
theorem dX8_ratio_31 : decode cX8_ratio 31 = .ok (.getfield 32, 3) := by decide +kernel
theorem dX8_ratio_34 : decode cX8_ratio 34 = .ok (.iload_n 2, 1) := by decide +kernel
theorem dX8_ratio_35 : decode cX8_ratio 35 = .ok (.iaload, 1) := by decide +kernel
theorem dX8_ratio_36 : decode cX8_ratio 36 = .ok (.iconst (-1), 1) := by decide +kernel
theorem dX8_ratio_37 : decode cX8_ratio 37 = .ok (.if_icmp .ne 12, 3) := by decide +kernel
theorem dX8_ratio_40 : decode cX8_ratio 40 = .ok (.aload_n 0, 1) := by decide +kernel
theorem dX8_ratio_41 : decode cX8_ratio 41 = .ok (.iload_n 1, 1) := by decide +kernel
theorem dX8_ratio_42 : decode cX8_ratio 42 = .ok (.iload_n 2, 1) := by decide +kernel
theorem dX8_ratio_43 : decode cX8_ratio 43 = .ok (.invokevirtual 234, 3) := by decide +kernel
theorem dX8_ratio_46 : decode cX8_ratio 46 = .ok (.ifCond .eq 7, 3) := by decide +kernel
theorem dX8_ratio_49 : decode cX8_ratio 49 = .ok (.iconst 1, 1) := by decide +kernel
theorem dX8_ratio_50 : decode cX8_ratio 50 = .ok (.goto 4, 3) := by decide +kernel
theorem dX8_ratio_53 : decode cX8_ratio 53 = .ok (.iconst 0, 1) := by decide +kernel
theorem dX8_ratio_54 : decode cX8_ratio 54 = .ok (.iconst 2, 1) := by decide +kernel
theorem dX8_ratio_55 : decode cX8_ratio 55 = .ok (.invokevirtual 150, 3) := by decide +kernel
theorem dX8_ratio_58 : decode cX8_ratio 58 = .ok (.ifCond .eq 5, 3) := by decide +kernel
theorem dX8_ratio_61 : decode cX8_ratio 61 = .ok (.lconst 0, 1) := by decide +kernel
theorem dX8_ratio_62 : decode cX8_ratio 62 = .ok (.lreturn, 1) := by decide +kernel
theorem dX8_ratio_63 : decode cX8_ratio 63 = .ok (.aload_n 0, 1) := by decide +kernel
theorem dX8_ratio_64 : decode cX8_ratio 64 = .ok (.iload_n 1, 1) := by decide +kernel
theorem dX8_ratio_65 : decode cX8_ratio 65 = .ok (.iload_n 2, 1) := by decide +kernel
theorem dX8_ratio_66 : decode cX8_ratio 66 = .ok (.invokevirtual 195, 3) := by decide +kernel
theorem dX8_ratio_69 : decode cX8_ratio 69 = .ok (.ifCond .eq 12, 3) := by decide +kernel
theorem dX8_ratio_72 : decode cX8_ratio 72 = .ok (.aload_n 0, 1) := by decide +kernel
theorem dX8_ratio_73 : decode cX8_ratio 73 = .ok (.iload_n 1, 1) := by decide +kernel
theorem dX8_ratio_74 : decode cX8_ratio 74 = .ok (.iload_n 2, 1) := by decide +kernel
theorem dX8_ratio_75 : decode cX8_ratio 75 = .ok (.invokevirtual 237, 3) := by decide +kernel
theorem dX8_ratio_78 : decode cX8_ratio 78 = .ok (.goto 9, 3) := by decide +kernel
theorem dX8_ratio_81 : decode cX8_ratio 81 = .ok (.aload_n 0, 1) := by decide +kernel
theorem dX8_ratio_82 : decode cX8_ratio 82 = .ok (.lconst 0, 1) := by decide +kernel
theorem dX8_ratio_83 : decode cX8_ratio 83 = .ok (.lconst 1, 1) := by decide +kernel
theorem dX8_ratio_84 : decode cX8_ratio 84 = .ok (.invokevirtual 143, 3) := by decide +kernel
theorem dX8_ratio_87 : decode cX8_ratio 87 = .ok (.iload_n 3, 1) := by decide +kernel
theorem dX8_ratio_88 : decode cX8_ratio 88 = .ok (.ifCond .eq 10, 3) := by decide +kernel
theorem dX8_ratio_91 : decode cX8_ratio 91 = .ok (.aload_n 0, 1) := by decide +kernel
theorem dX8_ratio_92 : decode cX8_ratio 92 = .ok (.getfield 140, 3) := by decide +kernel
theorem dX8_ratio_95 : decode cX8_ratio 95 = .ok (.goto 7, 3) := by decide +kernel
theorem dX8_ratio_98 : decode cX8_ratio 98 = .ok (.aload_n 0, 1) := by decide +kernel
theorem dX8_ratio_99 : decode cX8_ratio 99 = .ok (.getfield 112, 3) := by decide +kernel
theorem dX8_ratio_102 : decode cX8_ratio 102 = .ok (.lreturn, 1) := by decide +kernel
theorem dX8_ratioOver_0 : decode cX8_ratioOver 0 = .ok (.aload_n 0, 1) := by decide +kernel
theorem dX8_ratioOver_1 : decode cX8_ratioOver 1 = .ok (.iload_n 1, 1) := by decide +kernel
theorem dX8_ratioOver_2 : decode cX8_ratioOver 2 = .ok (.iload_n 2, 1) := by decide +kernel
theorem dX8_ratioOver_3 : decode cX8_ratioOver 3 = .ok (.iconst 1, 1) := by decide +kernel
theorem dX8_ratioOver_4 : decode cX8_ratioOver 4 = .ok (.invokevirtual 240, 3) := by decide +kernel
theorem dX8_ratioOver_7 : decode cX8_ratioOver 7 = .ok (.lreturn, 1) := by decide +kernel
theorem dX8_ratioUnder_0 : decode cX8_ratioUnder 0 = .ok (.aload_n 0, 1) := by decide +kernel
theorem dX8_ratioUnder_1 : decode cX8_ratioUnder 1 = .ok (.iload_n 1, 1) := by decide +kernel
theorem dX8_ratioUnder_2 : decode cX8_ratioUnder 2 = .ok (.iload_n 2, 1) := by decide +kernel
theorem dX8_ratioUnder_3 : decode cX8_ratioUnder 3 = .ok (.iconst 0, 1) := by decide +kernel
theorem dX8_ratioUnder_4 : decode cX8_ratioUnder 4 = .ok (.invokevirtual 240, 3) := by decide +kernel
theorem dX8_ratioUnder_7 : decode cX8_ratioUnder 7 = .ok (.lreturn, 1) := by decide +kernel
theorem dX8_driver_0 : decode cX8_driver 0 = .ok (.aload_n 0, 1) := by decide +kernel
theorem dX8_driver_1 : decode cX8_driver 1 = .ok (.aload_n 0, 1) := by decide +kernel
theorem dX8_driver_2 : decode cX8_driver 2 = .ok (.iload_n 1, 1) := by decide +kernel
theorem dX8_driver_3 : decode cX8_driver 3 = .ok (.invokevirtual 176, 3) := by decide +kernel
theorem dX8_driver_6 : decode cX8_driver 6 = .ok (.iconst 1, 1) := by decide +kernel
theorem dX8_driver_7 : decode cX8_driver 7 = .ok (.invokevirtual 150, 3) := by decide +kernel
theorem dX8_driver_10 : decode cX8_driver 10 = .ok (.ifCond .ne 26, 3) := by decide +kernel
theorem dX8_driver_13 : decode cX8_driver 13 = .ok (.aload_n 0, 1) := by decide +kernel
theorem dX8_driver_14 : decode cX8_driver 14 = .ok (.aload_n 0, 1) := by decide +kernel
theorem dX8_driver_15 : decode cX8_driver 15 = .ok (.getfield 32, 3) := by decide +kernel
theorem dX8_driver_18 : decode cX8_driver 18 = .ok (.iload_n 1, 1) := by decide +kernel
theorem dX8_driver_19 : decode cX8_driver 19 = .ok (.iaload, 1) := by decide +kernel
theorem dX8_driver_20 : decode cX8_driver 20 = .ok (.iconst (-1), 1) := by decide +kernel
theorem dX8_driver_21 : decode cX8_driver 21 = .ok (.if_icmp .ne 7, 3) := by decide +kernel
theorem dX8_driver_24 : decode cX8_driver 24 = .ok (.iconst 1, 1) := by decide +kernel
theorem dX8_driver_25 : decode cX8_driver 25 = .ok (.goto 4, 3) := by decide +kernel
theorem dX8_driver_28 : decode cX8_driver 28 = .ok (.iconst 0, 1) := by decide +kernel
theorem dX8_driver_29 : decode cX8_driver 29 = .ok (.iconst 2, 1) := by decide +kernel
theorem dX8_driver_30 : decode cX8_driver 30 = .ok (.invokevirtual 150, 3) := by decide +kernel
theorem dX8_driver_33 : decode cX8_driver 33 = .ok (.ifCond .eq 7, 3) := by decide +kernel
theorem dX8_driver_36 : decode cX8_driver 36 = .ok (.iconst 0, 1) := by decide +kernel
theorem dX8_driver_37 : decode cX8_driver 37 = .ok (.goto 9, 3) := by decide +kernel
theorem dX8_driver_40 : decode cX8_driver 40 = .ok (.aload_n 0, 1) := by decide +kernel
theorem dX8_driver_41 : decode cX8_driver 41 = .ok (.getfield 32, 3) := by decide +kernel
theorem dX8_driver_44 : decode cX8_driver 44 = .ok (.iload_n 1, 1) := by decide +kernel
theorem dX8_driver_45 : decode cX8_driver 45 = .ok (.iaload, 1) := by decide +kernel
theorem dX8_driver_46 : decode cX8_driver 46 = .ok (.ireturn, 1) := by decide +kernel
theorem dX8_freedom_0 : decode cX8_freedom 0 = .ok (.aload_n 0, 1) := by decide +kernel
theorem dX8_freedom_1 : decode cX8_freedom 1 = .ok (.iconst 0, 1) := by decide +kernel
theorem dX8_freedom_2 : decode cX8_freedom 2 = .ok (.putfield 116, 3) := by decide +kernel
theorem dX8_freedom_5 : decode cX8_freedom 5 = .ok (.iconst 0, 1) := by decide +kernel
theorem dX8_freedom_6 : decode cX8_freedom 6 = .ok (.istore_n 1, 1) := by decide +kernel
theorem dX8_freedom_7 : decode cX8_freedom 7 = .ok (.iconst 0, 1) := by decide +kernel
theorem dX8_freedom_8 : decode cX8_freedom 8 = .ok (.istore_n 2, 1) := by decide +kernel
theorem dX8_freedom_9 : decode cX8_freedom 9 = .ok (.iload_n 2, 1) := by decide +kernel
theorem dX8_freedom_10 : decode cX8_freedom 10 = .ok (.aload_n 0, 1) := by decide +kernel
theorem dX8_freedom_11 : decode cX8_freedom 11 = .ok (.getfield 120, 3) := by decide +kernel
theorem dX8_freedom_14 : decode cX8_freedom 14 = .ok (.if_icmp .ge 27, 3) := by decide +kernel
theorem dX8_freedom_17 : decode cX8_freedom 17 = .ok (.iload_n 1, 1) := by decide +kernel
theorem dX8_freedom_18 : decode cX8_freedom 18 = .ok (.aload_n 0, 1) := by decide +kernel
theorem dX8_freedom_19 : decode cX8_freedom 19 = .ok (.getfield 32, 3) := by decide +kernel
theorem dX8_freedom_22 : decode cX8_freedom 22 = .ok (.iload_n 2, 1) := by decide +kernel
theorem dX8_freedom_23 : decode cX8_freedom 23 = .ok (.iaload, 1) := by decide +kernel
theorem dX8_freedom_24 : decode cX8_freedom 24 = .ok (.iconst (-1), 1) := by decide +kernel
theorem dX8_freedom_25 : decode cX8_freedom 25 = .ok (.if_icmp .ne 7, 3) := by decide +kernel
theorem dX8_freedom_28 : decode cX8_freedom 28 = .ok (.iconst 1, 1) := by decide +kernel
theorem dX8_freedom_29 : decode cX8_freedom 29 = .ok (.goto 4, 3) := by decide +kernel
theorem dX8_freedom_32 : decode cX8_freedom 32 = .ok (.iconst 0, 1) := by decide +kernel
theorem dX8_freedom_33 : decode cX8_freedom 33 = .ok (.iadd, 1) := by decide +kernel
theorem dX8_freedom_34 : decode cX8_freedom 34 = .ok (.istore_n 1, 1) := by decide +kernel
theorem dX8_freedom_35 : decode cX8_freedom 35 = .ok (.iinc 2 1, 3) := by decide +kernel
theorem dX8_freedom_38 : decode cX8_freedom 38 = .ok (.goto (-29), 3) := by decide +kernel
theorem dX8_freedom_41 : decode cX8_freedom 41 = .ok (.iload_n 1, 1) := by decide +kernel
theorem dX8_freedom_42 : decode cX8_freedom 42 = .ok (.ireturn, 1) := by decide +kernel
theorem dX8_wornOver_0 : decode cX8_wornOver 0 = .ok (.aload_n 0, 1) := by decide +kernel
theorem dX8_wornOver_1 : decode cX8_wornOver 1 = .ok (.aload_n 0, 1) := by decide +kernel
theorem dX8_wornOver_2 : decode cX8_wornOver 2 = .ok (.iload_n 1, 1) := by decide +kernel
theorem dX8_wornOver_3 : decode cX8_wornOver 3 = .ok (.invokevirtual 192, 3) := by decide +kernel
theorem dX8_wornOver_6 : decode cX8_wornOver 6 = .ok (.iconst 1, 1) := by decide +kernel
theorem dX8_wornOver_7 : decode cX8_wornOver 7 = .ok (.invokevirtual 150, 3) := by decide +kernel
theorem dX8_wornOver_10 : decode cX8_wornOver 10 = .ok (.ifCond .eq 7, 3) := by decide +kernel
theorem dX8_wornOver_13 : decode cX8_wornOver 13 = .ok (.lconst 0, 1) := by decide +kernel
theorem dX8_wornOver_14 : decode cX8_wornOver 14 = .ok (.goto 9, 3) := by decide +kernel
theorem dX8_wornOver_17 : decode cX8_wornOver 17 = .ok (.aload_n 0, 1) := by decide +kernel
theorem dX8_wornOver_18 : decode cX8_wornOver 18 = .ok (.getfield 70, 3) := by decide +kernel
theorem dX8_wornOver_21 : decode cX8_wornOver 21 = .ok (.iload_n 1, 1) := by decide +kernel
theorem dX8_wornOver_22 : decode cX8_wornOver 22 = .ok (.laload, 1) := by decide +kernel
theorem dX8_wornOver_23 : decode cX8_wornOver 23 = .ok (.lreturn, 1) := by decide +kernel
theorem dX8_wornUnder_0 : decode cX8_wornUnder 0 = .ok (.aload_n 0, 1) := by decide +kernel
theorem dX8_wornUnder_1 : decode cX8_wornUnder 1 = .ok (.aload_n 0, 1) := by decide +kernel
theorem dX8_wornUnder_2 : decode cX8_wornUnder 2 = .ok (.iload_n 1, 1) := by decide +kernel
theorem dX8_wornUnder_3 : decode cX8_wornUnder 3 = .ok (.invokevirtual 192, 3) := by decide +kernel
theorem dX8_wornUnder_6 : decode cX8_wornUnder 6 = .ok (.iconst 1, 1) := by decide +kernel
theorem dX8_wornUnder_7 : decode cX8_wornUnder 7 = .ok (.invokevirtual 150, 3) := by decide +kernel
theorem dX8_wornUnder_10 : decode cX8_wornUnder 10 = .ok (.ifCond .eq 7, 3) := by decide +kernel
theorem dX8_wornUnder_13 : decode cX8_wornUnder 13 = .ok (.lconst 0, 1) := by decide +kernel
theorem dX8_wornUnder_14 : decode cX8_wornUnder 14 = .ok (.goto 9, 3) := by decide +kernel
theorem dX8_wornUnder_17 : decode cX8_wornUnder 17 = .ok (.aload_n 0, 1) := by decide +kernel
theorem dX8_wornUnder_18 : decode cX8_wornUnder 18 = .ok (.getfield 73, 3) := by decide +kernel
theorem dX8_wornUnder_21 : decode cX8_wornUnder 21 = .ok (.iload_n 1, 1) := by decide +kernel
theorem dX8_wornUnder_22 : decode cX8_wornUnder 22 = .ok (.laload, 1) := by decide +kernel
theorem dX8_wornUnder_23 : decode cX8_wornUnder 23 = .ok (.lreturn, 1) := by decide +kernel
theorem dX8_isBroken_0 : decode cX8_isBroken 0 = .ok (.aload_n 0, 1) := by decide +kernel
theorem dX8_isBroken_1 : decode cX8_isBroken 1 = .ok (.aload_n 0, 1) := by decide +kernel
theorem dX8_isBroken_2 : decode cX8_isBroken 2 = .ok (.iload_n 1, 1) := by decide +kernel
theorem dX8_isBroken_3 : decode cX8_isBroken 3 = .ok (.invokevirtual 192, 3) := by decide +kernel
theorem dX8_isBroken_6 : decode cX8_isBroken 6 = .ok (.iconst 1, 1) := by decide +kernel
theorem dX8_isBroken_7 : decode cX8_isBroken 7 = .ok (.invokevirtual 150, 3) := by decide +kernel
theorem dX8_isBroken_10 : decode cX8_isBroken 10 = .ok (.ifCond .ne 16, 3) := by decide +kernel
theorem dX8_isBroken_13 : decode cX8_isBroken 13 = .ok (.aload_n 0, 1) := by decide +kernel
theorem dX8_isBroken_14 : decode cX8_isBroken 14 = .ok (.getfield 61, 3) := by decide +kernel
theorem dX8_isBroken_17 : decode cX8_isBroken 17 = .ok (.iload_n 1, 1) := by decide +kernel
theorem dX8_isBroken_18 : decode cX8_isBroken 18 = .ok (.baload, 1) := by decide +kernel
theorem dX8_isBroken_19 : decode cX8_isBroken 19 = .ok (.ifCond .eq 7, 3) := by decide +kernel
theorem dX8_isBroken_22 : decode cX8_isBroken 22 = .ok (.iconst 1, 1) := by decide +kernel
theorem dX8_isBroken_23 : decode cX8_isBroken 23 = .ok (.goto 4, 3) := by decide +kernel
theorem dX8_isBroken_26 : decode cX8_isBroken 26 = .ok (.iconst 0, 1) := by decide +kernel
theorem dX8_isBroken_27 : decode cX8_isBroken 27 = .ok (.ireturn, 1) := by decide +kernel
theorem dX8_repair_0 : decode cX8_repair 0 = .ok (.aload_n 0, 1) := by decide +kernel
theorem dX8_repair_1 : decode cX8_repair 1 = .ok (.aload_n 0, 1) := by decide +kernel
theorem dX8_repair_2 : decode cX8_repair 2 = .ok (.iload_n 1, 1) := by decide +kernel
theorem dX8_repair_3 : decode cX8_repair 3 = .ok (.invokevirtual 192, 3) := by decide +kernel
theorem dX8_repair_6 : decode cX8_repair 6 = .ok (.iconst 1, 1) := by decide +kernel
theorem dX8_repair_7 : decode cX8_repair 7 = .ok (.invokevirtual 150, 3) := by decide +kernel
theorem dX8_repair_10 : decode cX8_repair 10 = .ok (.ifCond .ne 25, 3) := by decide +kernel
theorem dX8_repair_13 : decode cX8_repair 13 = .ok (.aload_n 0, 1) := by decide +kernel
theorem dX8_repair_14 : decode cX8_repair 14 = .ok (.aload_n 0, 1) := by decide +kernel
theorem dX8_repair_15 : decode cX8_repair 15 = .ok (.getfield 61, 3) := by decide +kernel
theorem dX8_repair_18 : decode cX8_repair 18 = .ok (.iload_n 1, 1) := by decide +kernel
theorem dX8_repair_19 : decode cX8_repair 19 = .ok (.baload, 1) := by decide +kernel
theorem dX8_repair_20 : decode cX8_repair 20 = .ok (.ifCond .ne 7, 3) := by decide +kernel
theorem dX8_repair_23 : decode cX8_repair 23 = .ok (.iconst 1, 1) := by decide +kernel
theorem dX8_repair_24 : decode cX8_repair 24 = .ok (.goto 4, 3) := by decide +kernel
theorem dX8_repair_27 : decode cX8_repair 27 = .ok (.iconst 0, 1) := by decide +kernel
theorem dX8_repair_28 : decode cX8_repair 28 = .ok (.iconst 2, 1) := by decide +kernel
theorem dX8_repair_29 : decode cX8_repair 29 = .ok (.invokevirtual 150, 3) := by decide +kernel
theorem dX8_repair_32 : decode cX8_repair 32 = .ok (.ifCond .eq 5, 3) := by decide +kernel
theorem dX8_repair_35 : decode cX8_repair 35 = .ok (.iconst 0, 1) := by decide +kernel
theorem dX8_repair_36 : decode cX8_repair 36 = .ok (.ireturn, 1) := by decide +kernel
theorem dX8_repair_37 : decode cX8_repair 37 = .ok (.aload_n 0, 1) := by decide +kernel
theorem dX8_repair_38 : decode cX8_repair 38 = .ok (.getfield 61, 3) := by decide +kernel
theorem dX8_repair_41 : decode cX8_repair 41 = .ok (.iload_n 1, 1) := by decide +kernel
theorem dX8_repair_42 : decode cX8_repair 42 = .ok (.iconst 0, 1) := by decide +kernel
theorem dX8_repair_43 : decode cX8_repair 43 = .ok (.bastore, 1) := by decide +kernel
theorem dX8_repair_44 : decode cX8_repair 44 = .ok (.aload_n 0, 1) := by decide +kernel
theorem dX8_repair_45 : decode cX8_repair 45 = .ok (.getfield 70, 3) := by decide +kernel
theorem dX8_repair_48 : decode cX8_repair 48 = .ok (.iload_n 1, 1) := by decide +kernel
theorem dX8_repair_49 : decode cX8_repair 49 = .ok (.lconst 0, 1) := by decide +kernel
theorem dX8_repair_50 : decode cX8_repair 50 = .ok (.lastore, 1) := by decide +kernel
theorem dX8_repair_51 : decode cX8_repair 51 = .ok (.aload_n 0, 1) := by decide +kernel
theorem dX8_repair_52 : decode cX8_repair 52 = .ok (.getfield 73, 3) := by decide +kernel
theorem dX8_repair_55 : decode cX8_repair 55 = .ok (.iload_n 1, 1) := by decide +kernel
theorem dX8_repair_56 : decode cX8_repair 56 = .ok (.lconst 1, 1) := by decide +kernel
theorem dX8_repair_57 : decode cX8_repair 57 = .ok (.lastore, 1) := by decide +kernel
theorem dX8_repair_58 : decode cX8_repair 58 = .ok (.aload_n 0, 1) := by decide +kernel
theorem dX8_repair_59 : decode cX8_repair 59 = .ok (.getfield 76, 3) := by decide +kernel
theorem dX8_repair_62 : decode cX8_repair 62 = .ok (.iload_n 1, 1) := by decide +kernel
theorem dX8_repair_63 : decode cX8_repair 63 = .ok (.aload_n 0, 1) := by decide +kernel
theorem dX8_repair_64 : decode cX8_repair 64 = .ok (.getfield 52, 3) := by decide +kernel
theorem dX8_repair_67 : decode cX8_repair 67 = .ok (.iload_n 1, 1) := by decide +kernel
theorem dX8_repair_68 : decode cX8_repair 68 = .ok (.iaload, 1) := by decide +kernel
theorem dX8_repair_69 : decode cX8_repair 69 = .ok (.i2l, 1) := by decide +kernel
theorem dX8_repair_70 : decode cX8_repair 70 = .ok (.aload_n 0, 1) := by decide +kernel
theorem dX8_repair_71 : decode cX8_repair 71 = .ok (.getfield 9, 3) := by decide +kernel
theorem dX8_repair_74 : decode cX8_repair 74 = .ok (.aload_n 0, 1) := by decide +kernel
theorem dX8_repair_75 : decode cX8_repair 75 = .ok (.getfield 43, 3) := by decide +kernel
theorem dX8_repair_78 : decode cX8_repair 78 = .ok (.iload_n 1, 1) := by decide +kernel
theorem dX8_repair_79 : decode cX8_repair 79 = .ok (.iaload, 1) := by decide +kernel
theorem dX8_repair_80 : decode cX8_repair 80 = .ok (.laload, 1) := by decide +kernel
theorem dX8_repair_81 : decode cX8_repair 81 = .ok (.aload_n 0, 1) := by decide +kernel
theorem dX8_repair_82 : decode cX8_repair 82 = .ok (.getfield 13, 3) := by decide +kernel
theorem dX8_repair_85 : decode cX8_repair 85 = .ok (.aload_n 0, 1) := by decide +kernel
theorem dX8_repair_86 : decode cX8_repair 86 = .ok (.getfield 43, 3) := by decide +kernel
theorem dX8_repair_89 : decode cX8_repair 89 = .ok (.iload_n 1, 1) := by decide +kernel
theorem dX8_repair_90 : decode cX8_repair 90 = .ok (.iaload, 1) := by decide +kernel
theorem dX8_repair_91 : decode cX8_repair 91 = .ok (.laload, 1) := by decide +kernel
theorem dX8_repair_92 : decode cX8_repair 92 = .ok (.invokestatic 172, 3) := by decide +kernel
theorem dX8_repair_95 : decode cX8_repair 95 = .ok (.lastore, 1) := by decide +kernel
theorem dX8_repair_96 : decode cX8_repair 96 = .ok (.iconst 0, 1) := by decide +kernel
theorem dX8_repair_97 : decode cX8_repair 97 = .ok (.istore_n 2, 1) := by decide +kernel
theorem dX8_repair_98 : decode cX8_repair 98 = .ok (.iconst 0, 1) := by decide +kernel
theorem dX8_repair_99 : decode cX8_repair 99 = .ok (.istore_n 3, 1) := by decide +kernel
theorem dX8_repair_100 : decode cX8_repair 100 = .ok (.iload_n 3, 1) := by decide +kernel
theorem dX8_repair_101 : decode cX8_repair 101 = .ok (.aload_n 0, 1) := by decide +kernel
theorem dX8_repair_102 : decode cX8_repair 102 = .ok (.getfield 127, 3) := by decide +kernel
theorem dX8_repair_105 : decode cX8_repair 105 = .ok (.if_icmp .ge 26, 3) := by decide +kernel
theorem dX8_repair_108 : decode cX8_repair 108 = .ok (.iload_n 2, 1) := by decide +kernel
theorem dX8_repair_109 : decode cX8_repair 109 = .ok (.aload_n 0, 1) := by decide +kernel
theorem dX8_repair_110 : decode cX8_repair 110 = .ok (.getfield 61, 3) := by decide +kernel
theorem dX8_repair_113 : decode cX8_repair 113 = .ok (.iload_n 3, 1) := by decide +kernel
theorem dX8_repair_114 : decode cX8_repair 114 = .ok (.baload, 1) := by decide +kernel
theorem dX8_repair_115 : decode cX8_repair 115 = .ok (.ifCond .eq 7, 3) := by decide +kernel
theorem dX8_repair_118 : decode cX8_repair 118 = .ok (.iconst 1, 1) := by decide +kernel
theorem dX8_repair_119 : decode cX8_repair 119 = .ok (.goto 4, 3) := by decide +kernel
theorem dX8_repair_122 : decode cX8_repair 122 = .ok (.iconst 0, 1) := by decide +kernel
theorem dX8_repair_123 : decode cX8_repair 123 = .ok (.iadd, 1) := by decide +kernel
theorem dX8_repair_124 : decode cX8_repair 124 = .ok (.istore_n 2, 1) := by decide +kernel
theorem dX8_repair_125 : decode cX8_repair 125 = .ok (.iinc 3 1, 3) := by decide +kernel
theorem dX8_repair_128 : decode cX8_repair 128 = .ok (.goto (-28), 3) := by decide +kernel
theorem dX8_repair_131 : decode cX8_repair 131 = .ok (.iload_n 2, 1) := by decide +kernel
theorem dX8_repair_132 : decode cX8_repair 132 = .ok (.ireturn, 1) := by decide +kernel
theorem dX8_slackAt_0 : decode cX8_slackAt 0 = .ok (.aload_n 0, 1) := by decide +kernel
theorem dX8_slackAt_1 : decode cX8_slackAt 1 = .ok (.getfield 32, 3) := by decide +kernel
theorem dX8_slackAt_4 : decode cX8_slackAt 4 = .ok (.iload_n 1, 1) := by decide +kernel
theorem dX8_slackAt_5 : decode cX8_slackAt 5 = .ok (.iaload, 1) := by decide +kernel
theorem dX8_slackAt_6 : decode cX8_slackAt 6 = .ok (.istore_n 2, 1) := by decide +kernel
theorem dX8_slackAt_7 : decode cX8_slackAt 7 = .ok (.iload_n 2, 1) := by decide +kernel
theorem dX8_slackAt_8 : decode cX8_slackAt 8 = .ok (.iconst (-1), 1) := by decide +kernel
theorem dX8_slackAt_9 : decode cX8_slackAt 9 = .ok (.if_icmp .ne 10, 3) := by decide +kernel
theorem dX8_slackAt_12 : decode cX8_slackAt 12 = .ok (.aload_n 0, 1) := by decide +kernel
theorem dX8_slackAt_13 : decode cX8_slackAt 13 = .ok (.lconst 0, 1) := by decide +kernel
theorem dX8_slackAt_14 : decode cX8_slackAt 14 = .ok (.lconst 1, 1) := by decide +kernel
theorem dX8_slackAt_15 : decode cX8_slackAt 15 = .ok (.invokevirtual 143, 3) := by decide +kernel
theorem dX8_slackAt_18 : decode cX8_slackAt 18 = .ok (.return_, 1) := by decide +kernel
theorem dX8_slackAt_19 : decode cX8_slackAt 19 = .ok (.aload_n 0, 1) := by decide +kernel
theorem dX8_slackAt_20 : decode cX8_slackAt 20 = .ok (.getfield 52, 3) := by decide +kernel
theorem dX8_slackAt_23 : decode cX8_slackAt 23 = .ok (.iload_n 2, 1) := by decide +kernel
theorem dX8_slackAt_24 : decode cX8_slackAt 24 = .ok (.iaload, 1) := by decide +kernel
theorem dX8_slackAt_25 : decode cX8_slackAt 25 = .ok (.i2l, 1) := by decide +kernel
theorem dX8_slackAt_26 : decode cX8_slackAt 26 = .ok (.lstore_n 3, 1) := by decide +kernel
theorem dX8_slackAt_27 : decode cX8_slackAt 27 = .ok (.aload_n 0, 1) := by decide +kernel
theorem dX8_slackAt_28 : decode cX8_slackAt 28 = .ok (.getfield 55, 3) := by decide +kernel
theorem dX8_slackAt_31 : decode cX8_slackAt 31 = .ok (.iload_n 2, 1) := by decide +kernel
theorem dX8_slackAt_32 : decode cX8_slackAt 32 = .ok (.iaload, 1) := by decide +kernel
theorem dX8_slackAt_33 : decode cX8_slackAt 33 = .ok (.i2l, 1) := by decide +kernel
theorem dX8_slackAt_34 : decode cX8_slackAt 34 = .ok (.lstore 5, 2) := by decide +kernel
theorem dX8_slackAt_36 : decode cX8_slackAt 36 = .ok (.aload_n 0, 1) := by decide +kernel
theorem dX8_slackAt_37 : decode cX8_slackAt 37 = .ok (.aload_n 0, 1) := by decide +kernel
theorem dX8_slackAt_38 : decode cX8_slackAt 38 = .ok (.getfield 43, 3) := by decide +kernel
theorem dX8_slackAt_41 : decode cX8_slackAt 41 = .ok (.iload_n 2, 1) := by decide +kernel
theorem dX8_slackAt_42 : decode cX8_slackAt 42 = .ok (.iaload, 1) := by decide +kernel
theorem dX8_slackAt_43 : decode cX8_slackAt 43 = .ok (.invokevirtual 244, 3) := by decide +kernel
theorem dX8_slackAt_46 : decode cX8_slackAt 46 = .ok (.aload_n 0, 1) := by decide +kernel
theorem dX8_slackAt_47 : decode cX8_slackAt 47 = .ok (.getfield 39, 3) := by decide +kernel
theorem dX8_slackAt_50 : decode cX8_slackAt 50 = .ok (.iload_n 2, 1) := by decide +kernel
theorem dX8_slackAt_51 : decode cX8_slackAt 51 = .ok (.caload, 1) := by decide +kernel
theorem dX8_slackAt_52 : decode cX8_slackAt 52 = .ok (.lookupswitch 155 #[(103, 44), (105, 44), (112, 79), (118, 62)], 44) := by decide +kernel
theorem dX8_slackAt_96 : decode cX8_slackAt 96 = .ok (.aload_n 0, 1) := by decide +kernel
theorem dX8_slackAt_97 : decode cX8_slackAt 97 = .ok (.aload_n 0, 1) := by decide +kernel
theorem dX8_slackAt_98 : decode cX8_slackAt 98 = .ok (.getfield 140, 3) := by decide +kernel
theorem dX8_slackAt_101 : decode cX8_slackAt 101 = .ok (.aload_n 0, 1) := by decide +kernel
theorem dX8_slackAt_102 : decode cX8_slackAt 102 = .ok (.getfield 112, 3) := by decide +kernel
theorem dX8_slackAt_105 : decode cX8_slackAt 105 = .ok (.lload_n 3, 1) := by decide +kernel
theorem dX8_slackAt_106 : decode cX8_slackAt 106 = .ok (.lload 5, 2) := by decide +kernel
theorem dX8_slackAt_108 : decode cX8_slackAt 108 = .ok (.invokevirtual 198, 3) := by decide +kernel
theorem dX8_slackAt_111 : decode cX8_slackAt 111 = .ok (.goto 96, 3) := by decide +kernel
theorem dX8_slackAt_114 : decode cX8_slackAt 114 = .ok (.aload_n 0, 1) := by decide +kernel
theorem dX8_slackAt_115 : decode cX8_slackAt 115 = .ok (.aload_n 0, 1) := by decide +kernel
theorem dX8_slackAt_116 : decode cX8_slackAt 116 = .ok (.getfield 140, 3) := by decide +kernel
theorem dX8_slackAt_119 : decode cX8_slackAt 119 = .ok (.aload_n 0, 1) := by decide +kernel
theorem dX8_slackAt_120 : decode cX8_slackAt 120 = .ok (.getfield 112, 3) := by decide +kernel
theorem dX8_slackAt_123 : decode cX8_slackAt 123 = .ok (.lconst 1, 1) := by decide +kernel
theorem dX8_slackAt_124 : decode cX8_slackAt 124 = .ok (.lload_n 3, 1) := by decide +kernel
theorem dX8_slackAt_125 : decode cX8_slackAt 125 = .ok (.invokevirtual 198, 3) := by decide +kernel
theorem dX8_slackAt_128 : decode cX8_slackAt 128 = .ok (.goto 79, 3) := by decide +kernel
theorem dX8_slackAt_131 : decode cX8_slackAt 131 = .ok (.aload_n 0, 1) := by decide +kernel
theorem dX8_slackAt_132 : decode cX8_slackAt 132 = .ok (.aload_n 0, 1) := by decide +kernel
theorem dX8_slackAt_133 : decode cX8_slackAt 133 = .ok (.getfield 140, 3) := by decide +kernel
theorem dX8_slackAt_136 : decode cX8_slackAt 136 = .ok (.aload_n 0, 1) := by decide +kernel
theorem dX8_slackAt_137 : decode cX8_slackAt 137 = .ok (.getfield 112, 3) := by decide +kernel
theorem dX8_slackAt_140 : decode cX8_slackAt 140 = .ok (.lload_n 3, 1) := by decide +kernel
theorem dX8_slackAt_141 : decode cX8_slackAt 141 = .ok (.lload_n 3, 1) := by decide +kernel
theorem dX8_slackAt_142 : decode cX8_slackAt 142 = .ok (.lload 5, 2) := by decide +kernel
theorem dX8_slackAt_144 : decode cX8_slackAt 144 = .ok (.ladd, 1) := by decide +kernel
theorem dX8_slackAt_145 : decode cX8_slackAt 145 = .ok (.invokevirtual 198, 3) := by decide +kernel
theorem dX8_slackAt_148 : decode cX8_slackAt 148 = .ok (.aload_n 0, 1) := by decide +kernel
theorem dX8_slackAt_149 : decode cX8_slackAt 149 = .ok (.getfield 140, 3) := by decide +kernel
theorem dX8_slackAt_152 : decode cX8_slackAt 152 = .ok (.lstore 7, 2) := by decide +kernel
theorem dX8_slackAt_154 : decode cX8_slackAt 154 = .ok (.aload_n 0, 1) := by decide +kernel
theorem dX8_slackAt_155 : decode cX8_slackAt 155 = .ok (.getfield 112, 3) := by decide +kernel
theorem dX8_slackAt_158 : decode cX8_slackAt 158 = .ok (.lstore 9, 2) := by decide +kernel
theorem dX8_slackAt_160 : decode cX8_slackAt 160 = .ok (.aload_n 0, 1) := by decide +kernel
theorem dX8_slackAt_161 : decode cX8_slackAt 161 = .ok (.aload_n 0, 1) := by decide +kernel
theorem dX8_slackAt_162 : decode cX8_slackAt 162 = .ok (.getfield 46, 3) := by decide +kernel
theorem dX8_slackAt_165 : decode cX8_slackAt 165 = .ok (.iload_n 2, 1) := by decide +kernel
theorem dX8_slackAt_166 : decode cX8_slackAt 166 = .ok (.iaload, 1) := by decide +kernel
theorem dX8_slackAt_167 : decode cX8_slackAt 167 = .ok (.invokevirtual 244, 3) := by decide +kernel
theorem dX8_slackAt_170 : decode cX8_slackAt 170 = .ok (.aload_n 0, 1) := by decide +kernel
theorem dX8_slackAt_171 : decode cX8_slackAt 171 = .ok (.aload_n 0, 1) := by decide +kernel
theorem dX8_slackAt_172 : decode cX8_slackAt 172 = .ok (.getfield 140, 3) := by decide +kernel
theorem dX8_slackAt_175 : decode cX8_slackAt 175 = .ok (.aload_n 0, 1) := by decide +kernel
theorem dX8_slackAt_176 : decode cX8_slackAt 176 = .ok (.getfield 112, 3) := by decide +kernel
theorem dX8_slackAt_179 : decode cX8_slackAt 179 = .ok (.lload 5, 2) := by decide +kernel
theorem dX8_slackAt_181 : decode cX8_slackAt 181 = .ok (.lload_n 3, 1) := by decide +kernel
theorem dX8_slackAt_182 : decode cX8_slackAt 182 = .ok (.lload 5, 2) := by decide +kernel
theorem dX8_slackAt_184 : decode cX8_slackAt 184 = .ok (.ladd, 1) := by decide +kernel
theorem dX8_slackAt_185 : decode cX8_slackAt 185 = .ok (.invokevirtual 198, 3) := by decide +kernel
theorem dX8_slackAt_188 : decode cX8_slackAt 188 = .ok (.aload_n 0, 1) := by decide +kernel
theorem dX8_slackAt_189 : decode cX8_slackAt 189 = .ok (.lload 7, 2) := by decide +kernel
theorem dX8_slackAt_191 : decode cX8_slackAt 191 = .ok (.lload 9, 2) := by decide +kernel
theorem dX8_slackAt_193 : decode cX8_slackAt 193 = .ok (.aload_n 0, 1) := by decide +kernel
theorem dX8_slackAt_194 : decode cX8_slackAt 194 = .ok (.getfield 140, 3) := by decide +kernel
theorem dX8_slackAt_197 : decode cX8_slackAt 197 = .ok (.aload_n 0, 1) := by decide +kernel
theorem dX8_slackAt_198 : decode cX8_slackAt 198 = .ok (.getfield 112, 3) := by decide +kernel
theorem dX8_slackAt_201 : decode cX8_slackAt 201 = .ok (.invokevirtual 202, 3) := by decide +kernel
theorem dX8_slackAt_204 : decode cX8_slackAt 204 = .ok (.goto 3, 3) := by decide +kernel
theorem dX8_slackAt_207 : decode cX8_slackAt 207 = .ok (.aload_n 0, 1) := by decide +kernel
theorem dX8_slackAt_208 : decode cX8_slackAt 208 = .ok (.aload_n 0, 1) := by decide +kernel
theorem dX8_slackAt_209 : decode cX8_slackAt 209 = .ok (.getfield 140, 3) := by decide +kernel
theorem dX8_slackAt_212 : decode cX8_slackAt 212 = .ok (.aload_n 0, 1) := by decide +kernel
theorem dX8_slackAt_213 : decode cX8_slackAt 213 = .ok (.getfield 112, 3) := by decide +kernel
theorem dX8_slackAt_216 : decode cX8_slackAt 216 = .ok (.aload_n 0, 1) := by decide +kernel
theorem dX8_slackAt_217 : decode cX8_slackAt 217 = .ok (.getfield 67, 3) := by decide +kernel
theorem dX8_slackAt_220 : decode cX8_slackAt 220 = .ok (.iload_n 2, 1) := by decide +kernel
theorem dX8_slackAt_221 : decode cX8_slackAt 221 = .ok (.iaload, 1) := by decide +kernel
theorem dX8_slackAt_222 : decode cX8_slackAt 222 = .ok (.i2l, 1) := by decide +kernel
theorem dX8_slackAt_223 : decode cX8_slackAt 223 = .ok (.lconst 1, 1) := by decide +kernel
theorem dX8_slackAt_224 : decode cX8_slackAt 224 = .ok (.invokevirtual 202, 3) := by decide +kernel
theorem dX8_slackAt_227 : decode cX8_slackAt 227 = .ok (.return_, 1) := by decide +kernel
theorem dX8_slackOf_0 : decode cX8_slackOf 0 = .ok (.aload_n 0, 1) := by decide +kernel
theorem dX8_slackOf_1 : decode cX8_slackOf 1 = .ok (.aload_n 0, 1) := by decide +kernel
theorem dX8_slackOf_2 : decode cX8_slackOf 2 = .ok (.iload_n 1, 1) := by decide +kernel
theorem dX8_slackOf_3 : decode cX8_slackOf 3 = .ok (.invokevirtual 176, 3) := by decide +kernel
theorem dX8_slackOf_6 : decode cX8_slackOf 6 = .ok (.iconst 1, 1) := by decide +kernel
theorem dX8_slackOf_7 : decode cX8_slackOf 7 = .ok (.invokevirtual 150, 3) := by decide +kernel
theorem dX8_slackOf_10 : decode cX8_slackOf 10 = .ok (.ifCond .eq 5, 3) := by decide +kernel
theorem dX8_slackOf_13 : decode cX8_slackOf 13 = .ok (.lconst 0, 1) := by decide +kernel
theorem dX8_slackOf_14 : decode cX8_slackOf 14 = .ok (.lreturn, 1) := by decide +kernel
theorem dX8_slackOf_15 : decode cX8_slackOf 15 = .ok (.aload_n 0, 1) := by decide +kernel
theorem dX8_slackOf_16 : decode cX8_slackOf 16 = .ok (.iload_n 1, 1) := by decide +kernel
theorem dX8_slackOf_17 : decode cX8_slackOf 17 = .ok (.invokevirtual 244, 3) := by decide +kernel
theorem dX8_slackOf_20 : decode cX8_slackOf 20 = .ok (.iload_n 2, 1) := by decide +kernel
theorem dX8_slackOf_21 : decode cX8_slackOf 21 = .ok (.ifCond .eq 10, 3) := by decide +kernel
theorem dX8_slackOf_24 : decode cX8_slackOf 24 = .ok (.aload_n 0, 1) := by decide +kernel
theorem dX8_slackOf_25 : decode cX8_slackOf 25 = .ok (.getfield 140, 3) := by decide +kernel
theorem dX8_slackOf_28 : decode cX8_slackOf 28 = .ok (.goto 7, 3) := by decide +kernel
theorem dX8_slackOf_31 : decode cX8_slackOf 31 = .ok (.aload_n 0, 1) := by decide +kernel
theorem dX8_slackOf_32 : decode cX8_slackOf 32 = .ok (.getfield 112, 3) := by decide +kernel
theorem dX8_slackOf_35 : decode cX8_slackOf 35 = .ok (.lreturn, 1) := by decide +kernel
theorem dX8_slackOfOver_0 : decode cX8_slackOfOver 0 = .ok (.aload_n 0, 1) := by decide +kernel
theorem dX8_slackOfOver_1 : decode cX8_slackOfOver 1 = .ok (.iload_n 1, 1) := by decide +kernel
theorem dX8_slackOfOver_2 : decode cX8_slackOfOver 2 = .ok (.iconst 1, 1) := by decide +kernel
theorem dX8_slackOfOver_3 : decode cX8_slackOfOver 3 = .ok (.invokevirtual 247, 3) := by decide +kernel
theorem dX8_slackOfOver_6 : decode cX8_slackOfOver 6 = .ok (.lreturn, 1) := by decide +kernel
theorem dX8_slackOfUnder_0 : decode cX8_slackOfUnder 0 = .ok (.aload_n 0, 1) := by decide +kernel
theorem dX8_slackOfUnder_1 : decode cX8_slackOfUnder 1 = .ok (.iload_n 1, 1) := by decide +kernel
theorem dX8_slackOfUnder_2 : decode cX8_slackOfUnder 2 = .ok (.iconst 0, 1) := by decide +kernel
theorem dX8_slackOfUnder_3 : decode cX8_slackOfUnder 3 = .ok (.invokevirtual 247, 3) := by decide +kernel
theorem dX8_slackOfUnder_6 : decode cX8_slackOfUnder 6 = .ok (.lreturn, 1) := by decide +kernel
theorem dX8_isNoCam_0 : decode cX8_isNoCam 0 = .ok (.iload_n 1, 1) := by decide +kernel
theorem dX8_isNoCam_1 : decode cX8_isNoCam 1 = .ok (.iconst 0, 1) := by decide +kernel
theorem dX8_isNoCam_2 : decode cX8_isNoCam 2 = .ok (.aload_n 0, 1) := by decide +kernel
theorem dX8_isNoCam_3 : decode cX8_isNoCam 3 = .ok (.getfield 251, 3) := by decide +kernel
theorem dX8_isNoCam_6 : decode cX8_isNoCam 6 = .ok (.iconst 1, 1) := by decide +kernel
theorem dX8_isNoCam_7 : decode cX8_isNoCam 7 = .ok (.isub, 1) := by decide +kernel
theorem dX8_isNoCam_8 : decode cX8_isNoCam 8 = .ok (.invokestatic 123, 3) := by decide +kernel
theorem dX8_isNoCam_11 : decode cX8_isNoCam 11 = .ok (.ifCond .ne 7, 3) := by decide +kernel
theorem dX8_isNoCam_14 : decode cX8_isNoCam 14 = .ok (.iconst 1, 1) := by decide +kernel
theorem dX8_isNoCam_15 : decode cX8_isNoCam 15 = .ok (.goto 4, 3) := by decide +kernel
theorem dX8_isNoCam_18 : decode cX8_isNoCam 18 = .ok (.iconst 0, 1) := by decide +kernel
theorem dX8_isNoCam_19 : decode cX8_isNoCam 19 = .ok (.ireturn, 1) := by decide +kernel
theorem dX8_cam_0 : decode cX8_cam 0 = .ok (.aload_n 0, 1) := by decide +kernel
theorem dX8_cam_1 : decode cX8_cam 1 = .ok (.aload_n 0, 1) := by decide +kernel
theorem dX8_cam_2 : decode cX8_cam 2 = .ok (.iload_n 1, 1) := by decide +kernel
theorem dX8_cam_3 : decode cX8_cam 3 = .ok (.invokevirtual 176, 3) := by decide +kernel
theorem dX8_cam_6 : decode cX8_cam 6 = .ok (.iconst 1, 1) := by decide +kernel
theorem dX8_cam_7 : decode cX8_cam 7 = .ok (.invokevirtual 150, 3) := by decide +kernel
theorem dX8_cam_10 : decode cX8_cam 10 = .ok (.ifCond .ne 25, 3) := by decide +kernel
theorem dX8_cam_13 : decode cX8_cam 13 = .ok (.aload_n 0, 1) := by decide +kernel
theorem dX8_cam_14 : decode cX8_cam 14 = .ok (.aload_n 0, 1) := by decide +kernel
theorem dX8_cam_15 : decode cX8_cam 15 = .ok (.getfield 251, 3) := by decide +kernel
theorem dX8_cam_18 : decode cX8_cam 18 = .ok (.bipush 8, 2) := by decide +kernel
theorem dX8_cam_20 : decode cX8_cam 20 = .ok (.if_icmp .ne 7, 3) := by decide +kernel
theorem dX8_cam_23 : decode cX8_cam 23 = .ok (.iconst 1, 1) := by decide +kernel
theorem dX8_cam_24 : decode cX8_cam 24 = .ok (.goto 4, 3) := by decide +kernel
theorem dX8_cam_27 : decode cX8_cam 27 = .ok (.iconst 0, 1) := by decide +kernel
theorem dX8_cam_28 : decode cX8_cam 28 = .ok (.iconst 2, 1) := by decide +kernel
theorem dX8_cam_29 : decode cX8_cam 29 = .ok (.invokevirtual 150, 3) := by decide +kernel
theorem dX8_cam_32 : decode cX8_cam 32 = .ok (.ifCond .eq 5, 3) := by decide +kernel
theorem dX8_cam_35 : decode cX8_cam 35 = .ok (.iconst 0, 1) := by decide +kernel
theorem dX8_cam_36 : decode cX8_cam 36 = .ok (.ireturn, 1) := by decide +kernel
theorem dX8_cam_37 : decode cX8_cam 37 = .ok (.aload_n 0, 1) := by decide +kernel
theorem dX8_cam_38 : decode cX8_cam 38 = .ok (.getfield 79, 3) := by decide +kernel
theorem dX8_cam_41 : decode cX8_cam 41 = .ok (.aload_n 0, 1) := by decide +kernel
theorem dX8_cam_42 : decode cX8_cam 42 = .ok (.getfield 251, 3) := by decide +kernel
theorem dX8_cam_45 : decode cX8_cam 45 = .ok (.iload_n 1, 1) := by decide +kernel
theorem dX8_cam_46 : decode cX8_cam 46 = .ok (.iastore, 1) := by decide +kernel
theorem dX8_cam_47 : decode cX8_cam 47 = .ok (.iconst 0, 1) := by decide +kernel
theorem dX8_cam_48 : decode cX8_cam 48 = .ok (.istore_n 2, 1) := by decide +kernel
theorem dX8_cam_49 : decode cX8_cam 49 = .ok (.iload_n 2, 1) := by decide +kernel
theorem dX8_cam_50 : decode cX8_cam 50 = .ok (.bipush 24, 2) := by decide +kernel
theorem dX8_cam_52 : decode cX8_cam 52 = .ok (.if_icmp .ge 21, 3) := by decide +kernel
theorem dX8_cam_55 : decode cX8_cam 55 = .ok (.aload_n 0, 1) := by decide +kernel
theorem dX8_cam_56 : decode cX8_cam 56 = .ok (.getfield 98, 3) := by decide +kernel
theorem dX8_cam_59 : decode cX8_cam 59 = .ok (.aload_n 0, 1) := by decide +kernel
theorem dX8_cam_60 : decode cX8_cam 60 = .ok (.getfield 251, 3) := by decide +kernel
theorem dX8_cam_63 : decode cX8_cam 63 = .ok (.aaload, 1) := by decide +kernel
theorem dX8_cam_64 : decode cX8_cam 64 = .ok (.iload_n 2, 1) := by decide +kernel
theorem dX8_cam_65 : decode cX8_cam 65 = .ok (.iconst (-1), 1) := by decide +kernel
theorem dX8_cam_66 : decode cX8_cam 66 = .ok (.iastore, 1) := by decide +kernel
theorem dX8_cam_67 : decode cX8_cam 67 = .ok (.iinc 2 1, 3) := by decide +kernel
theorem dX8_cam_70 : decode cX8_cam 70 = .ok (.goto (-21), 3) := by decide +kernel
theorem dX8_cam_73 : decode cX8_cam 73 = .ok (.aload_n 0, 1) := by decide +kernel
theorem dX8_cam_74 : decode cX8_cam 74 = .ok (.dup, 1) := by decide +kernel
theorem dX8_cam_75 : decode cX8_cam 75 = .ok (.getfield 251, 3) := by decide +kernel
theorem dX8_cam_78 : decode cX8_cam 78 = .ok (.iconst 1, 1) := by decide +kernel
theorem dX8_cam_79 : decode cX8_cam 79 = .ok (.iadd, 1) := by decide +kernel
theorem dX8_cam_80 : decode cX8_cam 80 = .ok (.putfield 251, 3) := by decide +kernel
theorem dX8_cam_83 : decode cX8_cam 83 = .ok (.aload_n 0, 1) := by decide +kernel
theorem dX8_cam_84 : decode cX8_cam 84 = .ok (.getfield 251, 3) := by decide +kernel
theorem dX8_cam_87 : decode cX8_cam 87 = .ok (.iconst 1, 1) := by decide +kernel
theorem dX8_cam_88 : decode cX8_cam 88 = .ok (.isub, 1) := by decide +kernel
theorem dX8_cam_89 : decode cX8_cam 89 = .ok (.ireturn, 1) := by decide +kernel
theorem dX8_partsOf_0 : decode cX8_partsOf 0 = .ok (.iconst 0, 1) := by decide +kernel
theorem dX8_partsOf_1 : decode cX8_partsOf 1 = .ok (.istore_n 2, 1) := by decide +kernel
theorem dX8_partsOf_2 : decode cX8_partsOf 2 = .ok (.iconst 0, 1) := by decide +kernel
theorem dX8_partsOf_3 : decode cX8_partsOf 3 = .ok (.istore_n 3, 1) := by decide +kernel
theorem dX8_partsOf_4 : decode cX8_partsOf 4 = .ok (.iload_n 3, 1) := by decide +kernel
theorem dX8_partsOf_5 : decode cX8_partsOf 5 = .ok (.aload_n 0, 1) := by decide +kernel
theorem dX8_partsOf_6 : decode cX8_partsOf 6 = .ok (.getfield 82, 3) := by decide +kernel
theorem dX8_partsOf_9 : decode cX8_partsOf 9 = .ok (.iload_n 1, 1) := by decide +kernel
theorem dX8_partsOf_10 : decode cX8_partsOf 10 = .ok (.iaload, 1) := by decide +kernel
theorem dX8_partsOf_11 : decode cX8_partsOf 11 = .ok (.if_icmp .ge 20, 3) := by decide +kernel
theorem dX8_partsOf_14 : decode cX8_partsOf 14 = .ok (.iload_n 2, 1) := by decide +kernel
theorem dX8_partsOf_15 : decode cX8_partsOf 15 = .ok (.aload_n 0, 1) := by decide +kernel
theorem dX8_partsOf_16 : decode cX8_partsOf 16 = .ok (.getfield 87, 3) := by decide +kernel
theorem dX8_partsOf_19 : decode cX8_partsOf 19 = .ok (.iload_n 1, 1) := by decide +kernel
theorem dX8_partsOf_20 : decode cX8_partsOf 20 = .ok (.aaload, 1) := by decide +kernel
theorem dX8_partsOf_21 : decode cX8_partsOf 21 = .ok (.iload_n 3, 1) := by decide +kernel
theorem dX8_partsOf_22 : decode cX8_partsOf 22 = .ok (.iaload, 1) := by decide +kernel
theorem dX8_partsOf_23 : decode cX8_partsOf 23 = .ok (.iadd, 1) := by decide +kernel
theorem dX8_partsOf_24 : decode cX8_partsOf 24 = .ok (.istore_n 2, 1) := by decide +kernel
theorem dX8_partsOf_25 : decode cX8_partsOf 25 = .ok (.iinc 3 1, 3) := by decide +kernel
theorem dX8_partsOf_28 : decode cX8_partsOf 28 = .ok (.goto (-24), 3) := by decide +kernel
theorem dX8_partsOf_31 : decode cX8_partsOf 31 = .ok (.iload_n 2, 1) := by decide +kernel
theorem dX8_partsOf_32 : decode cX8_partsOf 32 = .ok (.ireturn, 1) := by decide +kernel
theorem dX8_adds_0 : decode cX8_adds 0 = .ok (.aload_n 0, 1) := by decide +kernel
theorem dX8_adds_1 : decode cX8_adds 1 = .ok (.getfield 82, 3) := by decide +kernel
theorem dX8_adds_4 : decode cX8_adds 4 = .ok (.iload_n 1, 1) := by decide +kernel
theorem dX8_adds_5 : decode cX8_adds 5 = .ok (.iaload, 1) := by decide +kernel
theorem dX8_adds_6 : decode cX8_adds 6 = .ok (.istore 5, 2) := by decide +kernel
theorem dX8_adds_8 : decode cX8_adds 8 = .ok (.aload_n 0, 1) := by decide +kernel
theorem dX8_adds_9 : decode cX8_adds 9 = .ok (.getfield 87, 3) := by decide +kernel
theorem dX8_adds_12 : decode cX8_adds 12 = .ok (.iload_n 1, 1) := by decide +kernel
theorem dX8_adds_13 : decode cX8_adds 13 = .ok (.aaload, 1) := by decide +kernel
theorem dX8_adds_14 : decode cX8_adds 14 = .ok (.iload 5, 2) := by decide +kernel
theorem dX8_adds_16 : decode cX8_adds 16 = .ok (.iload_n 2, 1) := by decide +kernel
theorem dX8_adds_17 : decode cX8_adds 17 = .ok (.iastore, 1) := by decide +kernel
theorem dX8_adds_18 : decode cX8_adds 18 = .ok (.aload_n 0, 1) := by decide +kernel
theorem dX8_adds_19 : decode cX8_adds 19 = .ok (.getfield 90, 3) := by decide +kernel
theorem dX8_adds_22 : decode cX8_adds 22 = .ok (.iload_n 1, 1) := by decide +kernel
theorem dX8_adds_23 : decode cX8_adds 23 = .ok (.aaload, 1) := by decide +kernel
theorem dX8_adds_24 : decode cX8_adds 24 = .ok (.iload 5, 2) := by decide +kernel
theorem dX8_adds_26 : decode cX8_adds 26 = .ok (.iload_n 3, 1) := by decide +kernel
theorem dX8_adds_27 : decode cX8_adds 27 = .ok (.iastore, 1) := by decide +kernel
theorem dX8_adds_28 : decode cX8_adds 28 = .ok (.aload_n 0, 1) := by decide +kernel
theorem dX8_adds_29 : decode cX8_adds 29 = .ok (.getfield 95, 3) := by decide +kernel
theorem dX8_adds_32 : decode cX8_adds 32 = .ok (.iload_n 1, 1) := by decide +kernel
theorem dX8_adds_33 : decode cX8_adds 33 = .ok (.aaload, 1) := by decide +kernel
theorem dX8_adds_34 : decode cX8_adds 34 = .ok (.iload 5, 2) := by decide +kernel
theorem dX8_adds_36 : decode cX8_adds 36 = .ok (.iload 4, 2) := by decide +kernel
theorem dX8_adds_38 : decode cX8_adds 38 = .ok (.castore, 1) := by decide +kernel
theorem dX8_adds_39 : decode cX8_adds 39 = .ok (.aload_n 0, 1) := by decide +kernel
theorem dX8_adds_40 : decode cX8_adds 40 = .ok (.getfield 82, 3) := by decide +kernel
theorem dX8_adds_43 : decode cX8_adds 43 = .ok (.iload_n 1, 1) := by decide +kernel
theorem dX8_adds_44 : decode cX8_adds 44 = .ok (.dup2, 1) := by decide +kernel
theorem dX8_adds_45 : decode cX8_adds 45 = .ok (.iaload, 1) := by decide +kernel
theorem dX8_adds_46 : decode cX8_adds 46 = .ok (.iconst 1, 1) := by decide +kernel
theorem dX8_adds_47 : decode cX8_adds 47 = .ok (.iadd, 1) := by decide +kernel
theorem dX8_adds_48 : decode cX8_adds 48 = .ok (.iastore, 1) := by decide +kernel
theorem dX8_adds_49 : decode cX8_adds 49 = .ok (.return_, 1) := by decide +kernel
theorem dX8_isLaw_0 : decode cX8_isLaw 0 = .ok (.iload_n 0, 1) := by decide +kernel
theorem dX8_isLaw_1 : decode cX8_isLaw 1 = .ok (.bipush 117, 2) := by decide +kernel
theorem dX8_isLaw_3 : decode cX8_isLaw 3 = .ok (.if_icmp .eq 9, 3) := by decide +kernel
theorem dX8_isLaw_6 : decode cX8_isLaw 6 = .ok (.iload_n 0, 1) := by decide +kernel
theorem dX8_isLaw_7 : decode cX8_isLaw 7 = .ok (.bipush 112, 2) := by decide +kernel
theorem dX8_isLaw_9 : decode cX8_isLaw 9 = .ok (.if_icmp .ne 7, 3) := by decide +kernel
theorem dX8_isLaw_12 : decode cX8_isLaw 12 = .ok (.iconst 1, 1) := by decide +kernel
theorem dX8_isLaw_13 : decode cX8_isLaw 13 = .ok (.goto 4, 3) := by decide +kernel
theorem dX8_isLaw_16 : decode cX8_isLaw 16 = .ok (.iconst 0, 1) := by decide +kernel
theorem dX8_isLaw_17 : decode cX8_isLaw 17 = .ok (.ireturn, 1) := by decide +kernel
theorem dX8_segment_0 : decode cX8_segment 0 = .ok (.iload_n 2, 1) := by decide +kernel
theorem dX8_segment_1 : decode cX8_segment 1 = .ok (.iconst 1, 1) := by decide +kernel
theorem dX8_segment_2 : decode cX8_segment 2 = .ok (.bipush 24, 2) := by decide +kernel
theorem dX8_segment_4 : decode cX8_segment 4 = .ok (.invokestatic 123, 3) := by decide +kernel
theorem dX8_segment_7 : decode cX8_segment 7 = .ok (.ifCond .eq 25, 3) := by decide +kernel
theorem dX8_segment_10 : decode cX8_segment 10 = .ok (.iload_n 3, 1) := by decide +kernel
theorem dX8_segment_11 : decode cX8_segment 11 = .ok (.iconst 0, 1) := by decide +kernel
theorem dX8_segment_12 : decode cX8_segment 12 = .ok (.bipush 99, 2) := by decide +kernel
theorem dX8_segment_14 : decode cX8_segment 14 = .ok (.invokestatic 123, 3) := by decide +kernel
theorem dX8_segment_17 : decode cX8_segment 17 = .ok (.ifCond .eq 15, 3) := by decide +kernel
theorem dX8_segment_20 : decode cX8_segment 20 = .ok (.iload 4, 2) := by decide +kernel
theorem dX8_segment_22 : decode cX8_segment 22 = .ok (.invokestatic 254, 3) := by decide +kernel
theorem dX8_segment_25 : decode cX8_segment 25 = .ok (.ifCond .eq 7, 3) := by decide +kernel
theorem dX8_segment_28 : decode cX8_segment 28 = .ok (.iconst 1, 1) := by decide +kernel
theorem dX8_segment_29 : decode cX8_segment 29 = .ok (.goto 4, 3) := by decide +kernel
theorem dX8_segment_32 : decode cX8_segment 32 = .ok (.iconst 0, 1) := by decide +kernel
theorem dX8_segment_33 : decode cX8_segment 33 = .ok (.istore 5, 2) := by decide +kernel
theorem dX8_segment_35 : decode cX8_segment 35 = .ok (.aload_n 0, 1) := by decide +kernel
theorem dX8_segment_36 : decode cX8_segment 36 = .ok (.aload_n 0, 1) := by decide +kernel
theorem dX8_segment_37 : decode cX8_segment 37 = .ok (.iload_n 1, 1) := by decide +kernel
theorem dX8_segment_38 : decode cX8_segment 38 = .ok (.invokevirtual 258, 3) := by decide +kernel
theorem dX8_segment_41 : decode cX8_segment 41 = .ok (.iconst 1, 1) := by decide +kernel
theorem dX8_segment_42 : decode cX8_segment 42 = .ok (.invokevirtual 150, 3) := by decide +kernel
theorem dX8_segment_45 : decode cX8_segment 45 = .ok (.ifCond .ne 46, 3) := by decide +kernel
theorem dX8_segment_48 : decode cX8_segment 48 = .ok (.aload_n 0, 1) := by decide +kernel
theorem dX8_segment_49 : decode cX8_segment 49 = .ok (.iload 5, 2) := by decide +kernel
theorem dX8_segment_51 : decode cX8_segment 51 = .ok (.ifCond .ne 7, 3) := by decide +kernel
theorem dX8_segment_54 : decode cX8_segment 54 = .ok (.iconst 1, 1) := by decide +kernel
theorem dX8_segment_55 : decode cX8_segment 55 = .ok (.goto 4, 3) := by decide +kernel
theorem dX8_segment_58 : decode cX8_segment 58 = .ok (.iconst 0, 1) := by decide +kernel
theorem dX8_segment_59 : decode cX8_segment 59 = .ok (.iconst 2, 1) := by decide +kernel
theorem dX8_segment_60 : decode cX8_segment 60 = .ok (.invokevirtual 150, 3) := by decide +kernel
theorem dX8_segment_63 : decode cX8_segment 63 = .ok (.ifCond .ne 28, 3) := by decide +kernel
theorem dX8_segment_66 : decode cX8_segment 66 = .ok (.aload_n 0, 1) := by decide +kernel
theorem dX8_segment_67 : decode cX8_segment 67 = .ok (.aload_n 0, 1) := by decide +kernel
theorem dX8_segment_68 : decode cX8_segment 68 = .ok (.iload_n 1, 1) := by decide +kernel
theorem dX8_segment_69 : decode cX8_segment 69 = .ok (.invokevirtual 261, 3) := by decide +kernel
theorem dX8_segment_72 : decode cX8_segment 72 = .ok (.iload_n 2, 1) := by decide +kernel
theorem dX8_segment_73 : decode cX8_segment 73 = .ok (.iadd, 1) := by decide +kernel
theorem dX8_segment_74 : decode cX8_segment 74 = .ok (.bipush 24, 2) := by decide +kernel
theorem dX8_segment_76 : decode cX8_segment 76 = .ok (.if_icmp .le 7, 3) := by decide +kernel
theorem dX8_segment_79 : decode cX8_segment 79 = .ok (.iconst 1, 1) := by decide +kernel
theorem dX8_segment_80 : decode cX8_segment 80 = .ok (.goto 4, 3) := by decide +kernel
theorem dX8_segment_83 : decode cX8_segment 83 = .ok (.iconst 0, 1) := by decide +kernel
theorem dX8_segment_84 : decode cX8_segment 84 = .ok (.iconst 3, 1) := by decide +kernel
theorem dX8_segment_85 : decode cX8_segment 85 = .ok (.invokevirtual 150, 3) := by decide +kernel
theorem dX8_segment_88 : decode cX8_segment 88 = .ok (.ifCond .eq 5, 3) := by decide +kernel
theorem dX8_segment_91 : decode cX8_segment 91 = .ok (.iconst 0, 1) := by decide +kernel
theorem dX8_segment_92 : decode cX8_segment 92 = .ok (.ireturn, 1) := by decide +kernel
theorem dX8_segment_93 : decode cX8_segment 93 = .ok (.aload_n 0, 1) := by decide +kernel
theorem dX8_segment_94 : decode cX8_segment 94 = .ok (.iload_n 1, 1) := by decide +kernel
theorem dX8_segment_95 : decode cX8_segment 95 = .ok (.iload_n 2, 1) := by decide +kernel
theorem dX8_segment_96 : decode cX8_segment 96 = .ok (.iload_n 3, 1) := by decide +kernel
theorem dX8_segment_97 : decode cX8_segment 97 = .ok (.iload 4, 2) := by decide +kernel
theorem dX8_segment_99 : decode cX8_segment 99 = .ok (.invokevirtual 264, 3) := by decide +kernel
theorem dX8_segment_102 : decode cX8_segment 102 = .ok (.aload_n 0, 1) := by decide +kernel
theorem dX8_segment_103 : decode cX8_segment 103 = .ok (.iload_n 1, 1) := by decide +kernel
theorem dX8_segment_104 : decode cX8_segment 104 = .ok (.invokevirtual 261, 3) := by decide +kernel
theorem dX8_segment_107 : decode cX8_segment 107 = .ok (.ireturn, 1) := by decide +kernel
theorem dX8_clear_0 : decode cX8_clear 0 = .ok (.aload_n 0, 1) := by decide +kernel
theorem dX8_clear_1 : decode cX8_clear 1 = .ok (.aload_n 0, 1) := by decide +kernel
theorem dX8_clear_2 : decode cX8_clear 2 = .ok (.iload_n 1, 1) := by decide +kernel
theorem dX8_clear_3 : decode cX8_clear 3 = .ok (.invokevirtual 258, 3) := by decide +kernel
theorem dX8_clear_6 : decode cX8_clear 6 = .ok (.iconst 1, 1) := by decide +kernel
theorem dX8_clear_7 : decode cX8_clear 7 = .ok (.invokevirtual 150, 3) := by decide +kernel
theorem dX8_clear_10 : decode cX8_clear 10 = .ok (.ifCond .eq 5, 3) := by decide +kernel
theorem dX8_clear_13 : decode cX8_clear 13 = .ok (.iconst 0, 1) := by decide +kernel
theorem dX8_clear_14 : decode cX8_clear 14 = .ok (.ireturn, 1) := by decide +kernel
theorem dX8_clear_15 : decode cX8_clear 15 = .ok (.aload_n 0, 1) := by decide +kernel
theorem dX8_clear_16 : decode cX8_clear 16 = .ok (.getfield 82, 3) := by decide +kernel
theorem dX8_clear_19 : decode cX8_clear 19 = .ok (.iload_n 1, 1) := by decide +kernel
theorem dX8_clear_20 : decode cX8_clear 20 = .ok (.iaload, 1) := by decide +kernel
theorem dX8_clear_21 : decode cX8_clear 21 = .ok (.istore_n 2, 1) := by decide +kernel
theorem dX8_clear_22 : decode cX8_clear 22 = .ok (.aload_n 0, 1) := by decide +kernel
theorem dX8_clear_23 : decode cX8_clear 23 = .ok (.getfield 82, 3) := by decide +kernel
theorem dX8_clear_26 : decode cX8_clear 26 = .ok (.iload_n 1, 1) := by decide +kernel
theorem dX8_clear_27 : decode cX8_clear 27 = .ok (.iconst 0, 1) := by decide +kernel
theorem dX8_clear_28 : decode cX8_clear 28 = .ok (.iastore, 1) := by decide +kernel
theorem dX8_clear_29 : decode cX8_clear 29 = .ok (.iload_n 2, 1) := by decide +kernel
theorem dX8_clear_30 : decode cX8_clear 30 = .ok (.ireturn, 1) := by decide +kernel
theorem dX8_isNotWhole_0 : decode cX8_isNotWhole 0 = .ok (.aload_n 0, 1) := by decide +kernel
theorem dX8_isNotWhole_1 : decode cX8_isNotWhole 1 = .ok (.aload_n 0, 1) := by decide +kernel
theorem dX8_isNotWhole_2 : decode cX8_isNotWhole 2 = .ok (.iload_n 1, 1) := by decide +kernel
theorem dX8_isNotWhole_3 : decode cX8_isNotWhole 3 = .ok (.invokevirtual 258, 3) := by decide +kernel
theorem dX8_isNotWhole_6 : decode cX8_isNotWhole 6 = .ok (.iconst 1, 1) := by decide +kernel
theorem dX8_isNotWhole_7 : decode cX8_isNotWhole 7 = .ok (.invokevirtual 150, 3) := by decide +kernel
theorem dX8_isNotWhole_10 : decode cX8_isNotWhole 10 = .ok (.ifCond .ne 26, 3) := by decide +kernel
theorem dX8_isNotWhole_13 : decode cX8_isNotWhole 13 = .ok (.aload_n 0, 1) := by decide +kernel
theorem dX8_isNotWhole_14 : decode cX8_isNotWhole 14 = .ok (.aload_n 0, 1) := by decide +kernel
theorem dX8_isNotWhole_15 : decode cX8_isNotWhole 15 = .ok (.iload_n 1, 1) := by decide +kernel
theorem dX8_isNotWhole_16 : decode cX8_isNotWhole 16 = .ok (.invokevirtual 261, 3) := by decide +kernel
theorem dX8_isNotWhole_19 : decode cX8_isNotWhole 19 = .ok (.bipush 24, 2) := by decide +kernel
theorem dX8_isNotWhole_21 : decode cX8_isNotWhole 21 = .ok (.if_icmp .eq 7, 3) := by decide +kernel
theorem dX8_isNotWhole_24 : decode cX8_isNotWhole 24 = .ok (.iconst 1, 1) := by decide +kernel
theorem dX8_isNotWhole_25 : decode cX8_isNotWhole 25 = .ok (.goto 4, 3) := by decide +kernel
theorem dX8_isNotWhole_28 : decode cX8_isNotWhole 28 = .ok (.iconst 0, 1) := by decide +kernel
theorem dX8_isNotWhole_29 : decode cX8_isNotWhole 29 = .ok (.iconst 2, 1) := by decide +kernel
theorem dX8_isNotWhole_30 : decode cX8_isNotWhole 30 = .ok (.invokevirtual 150, 3) := by decide +kernel
theorem dX8_isNotWhole_33 : decode cX8_isNotWhole 33 = .ok (.ifCond .eq 7, 3) := by decide +kernel
theorem dX8_isNotWhole_36 : decode cX8_isNotWhole 36 = .ok (.iconst 1, 1) := by decide +kernel
theorem dX8_isNotWhole_37 : decode cX8_isNotWhole 37 = .ok (.goto 4, 3) := by decide +kernel
theorem dX8_isNotWhole_40 : decode cX8_isNotWhole 40 = .ok (.iconst 0, 1) := by decide +kernel
theorem dX8_isNotWhole_41 : decode cX8_isNotWhole 41 = .ok (.ireturn, 1) := by decide +kernel
theorem dX8_before_0 : decode cX8_before 0 = .ok (.aload_n 0, 1) := by decide +kernel
theorem dX8_before_1 : decode cX8_before 1 = .ok (.getfield 90, 3) := by decide +kernel
theorem dX8_before_4 : decode cX8_before 4 = .ok (.iload_n 1, 1) := by decide +kernel
theorem dX8_before_5 : decode cX8_before 5 = .ok (.aaload, 1) := by decide +kernel
theorem dX8_before_6 : decode cX8_before 6 = .ok (.iload_n 2, 1) := by decide +kernel
theorem dX8_before_7 : decode cX8_before 7 = .ok (.ifCond .ne 14, 3) := by decide +kernel
theorem dX8_before_10 : decode cX8_before 10 = .ok (.aload_n 0, 1) := by decide +kernel
theorem dX8_before_11 : decode cX8_before 11 = .ok (.getfield 82, 3) := by decide +kernel
theorem dX8_before_14 : decode cX8_before 14 = .ok (.iload_n 1, 1) := by decide +kernel
theorem dX8_before_15 : decode cX8_before 15 = .ok (.iaload, 1) := by decide +kernel
theorem dX8_before_16 : decode cX8_before 16 = .ok (.iconst 1, 1) := by decide +kernel
theorem dX8_before_17 : decode cX8_before 17 = .ok (.isub, 1) := by decide +kernel
theorem dX8_before_18 : decode cX8_before 18 = .ok (.goto 6, 3) := by decide +kernel
theorem dX8_before_21 : decode cX8_before 21 = .ok (.iload_n 2, 1) := by decide +kernel
theorem dX8_before_22 : decode cX8_before 22 = .ok (.iconst 1, 1) := by decide +kernel
theorem dX8_before_23 : decode cX8_before 23 = .ok (.isub, 1) := by decide +kernel
theorem dX8_before_24 : decode cX8_before 24 = .ok (.iaload, 1) := by decide +kernel
theorem dX8_before_25 : decode cX8_before 25 = .ok (.ireturn, 1) := by decide +kernel
theorem dX8_height_0 : decode cX8_height 0 = .ok (.aload_n 0, 1) := by decide +kernel
theorem dX8_height_1 : decode cX8_height 1 = .ok (.iload_n 1, 1) := by decide +kernel
theorem dX8_height_2 : decode cX8_height 2 = .ok (.invokevirtual 268, 3) := by decide +kernel
theorem dX8_height_5 : decode cX8_height 5 = .ok (.ifCond .eq 5, 3) := by decide +kernel
theorem dX8_height_8 : decode cX8_height 8 = .ok (.lconst 0, 1) := by decide +kernel
theorem dX8_height_9 : decode cX8_height 9 = .ok (.lreturn, 1) := by decide +kernel
theorem dX8_height_10 : decode cX8_height 10 = .ok (.aload_n 0, 1) := by decide +kernel
theorem dX8_height_11 : decode cX8_height 11 = .ok (.getfield 79, 3) := by decide +kernel
theorem dX8_height_14 : decode cX8_height 14 = .ok (.iload_n 1, 1) := by decide +kernel
theorem dX8_height_15 : decode cX8_height 15 = .ok (.iaload, 1) := by decide +kernel
theorem dX8_height_16 : decode cX8_height 16 = .ok (.istore_n 3, 1) := by decide +kernel
theorem dX8_height_17 : decode cX8_height 17 = .ok (.ldc2_w 207, 3) := by decide +kernel
theorem dX8_height_20 : decode cX8_height 20 = .ok (.aload_n 0, 1) := by decide +kernel
theorem dX8_height_21 : decode cX8_height 21 = .ok (.getfield 9, 3) := by decide +kernel
theorem dX8_height_24 : decode cX8_height 24 = .ok (.iload_n 3, 1) := by decide +kernel
theorem dX8_height_25 : decode cX8_height 25 = .ok (.laload, 1) := by decide +kernel
theorem dX8_height_26 : decode cX8_height 26 = .ok (.aload_n 0, 1) := by decide +kernel
theorem dX8_height_27 : decode cX8_height 27 = .ok (.getfield 13, 3) := by decide +kernel
theorem dX8_height_30 : decode cX8_height 30 = .ok (.iload_n 3, 1) := by decide +kernel
theorem dX8_height_31 : decode cX8_height 31 = .ok (.laload, 1) := by decide +kernel
theorem dX8_height_32 : decode cX8_height 32 = .ok (.invokestatic 172, 3) := by decide +kernel
theorem dX8_height_35 : decode cX8_height 35 = .ok (.ldc2_w 207, 3) := by decide +kernel
theorem dX8_height_38 : decode cX8_height 38 = .ok (.invokestatic 212, 3) := by decide +kernel
theorem dX8_height_41 : decode cX8_height 41 = .ok (.lstore 4, 2) := by decide +kernel
theorem dX8_height_43 : decode cX8_height 43 = .ok (.iconst 0, 1) := by decide +kernel
theorem dX8_height_44 : decode cX8_height 44 = .ok (.istore 6, 2) := by decide +kernel
theorem dX8_height_46 : decode cX8_height 46 = .ok (.lload 4, 2) := by decide +kernel
theorem dX8_height_48 : decode cX8_height 48 = .ok (.aload_n 0, 1) := by decide +kernel
theorem dX8_height_49 : decode cX8_height 49 = .ok (.getfield 87, 3) := by decide +kernel
theorem dX8_height_52 : decode cX8_height 52 = .ok (.iload_n 1, 1) := by decide +kernel
theorem dX8_height_53 : decode cX8_height 53 = .ok (.aaload, 1) := by decide +kernel
theorem dX8_height_54 : decode cX8_height 54 = .ok (.iload 6, 2) := by decide +kernel
theorem dX8_height_56 : decode cX8_height 56 = .ok (.iaload, 1) := by decide +kernel
theorem dX8_height_57 : decode cX8_height 57 = .ok (.i2l, 1) := by decide +kernel
theorem dX8_height_58 : decode cX8_height 58 = .ok (.lcmp, 1) := by decide +kernel
theorem dX8_height_59 : decode cX8_height 59 = .ok (.ifCond .lt 24, 3) := by decide +kernel
theorem dX8_height_62 : decode cX8_height 62 = .ok (.lload 4, 2) := by decide +kernel
theorem dX8_height_64 : decode cX8_height 64 = .ok (.aload_n 0, 1) := by decide +kernel
theorem dX8_height_65 : decode cX8_height 65 = .ok (.getfield 87, 3) := by decide +kernel
theorem dX8_height_68 : decode cX8_height 68 = .ok (.iload_n 1, 1) := by decide +kernel
theorem dX8_height_69 : decode cX8_height 69 = .ok (.aaload, 1) := by decide +kernel
theorem dX8_height_70 : decode cX8_height 70 = .ok (.iload 6, 2) := by decide +kernel
theorem dX8_height_72 : decode cX8_height 72 = .ok (.iaload, 1) := by decide +kernel
theorem dX8_height_73 : decode cX8_height 73 = .ok (.i2l, 1) := by decide +kernel
theorem dX8_height_74 : decode cX8_height 74 = .ok (.lsub, 1) := by decide +kernel
theorem dX8_height_75 : decode cX8_height 75 = .ok (.lstore 4, 2) := by decide +kernel
theorem dX8_height_77 : decode cX8_height 77 = .ok (.iinc 6 1, 3) := by decide +kernel
theorem dX8_height_80 : decode cX8_height 80 = .ok (.goto (-34), 3) := by decide +kernel
theorem dX8_height_83 : decode cX8_height 83 = .ok (.aload_n 0, 1) := by decide +kernel
theorem dX8_height_84 : decode cX8_height 84 = .ok (.getfield 87, 3) := by decide +kernel
theorem dX8_height_87 : decode cX8_height 87 = .ok (.iload_n 1, 1) := by decide +kernel
theorem dX8_height_88 : decode cX8_height 88 = .ok (.aaload, 1) := by decide +kernel
theorem dX8_height_89 : decode cX8_height 89 = .ok (.iload 6, 2) := by decide +kernel
theorem dX8_height_91 : decode cX8_height 91 = .ok (.iaload, 1) := by decide +kernel
theorem dX8_height_92 : decode cX8_height 92 = .ok (.i2l, 1) := by decide +kernel
theorem dX8_height_93 : decode cX8_height 93 = .ok (.lstore 7, 2) := by decide +kernel
theorem dX8_height_95 : decode cX8_height 95 = .ok (.aload_n 0, 1) := by decide +kernel
