theorem d_Model_reckoning_76 : decode prog_10_method_37_code 76 = .ok (.if_icmp .ne 23, 3) := by decide +kernel
theorem d_Model_reckoning_79 : decode prog_10_method_37_code 79 = .ok (.aload_n 0, 1) := by decide +kernel
theorem d_Model_reckoning_80 : decode prog_10_method_37_code 80 = .ok (.getfield 35, 3) := by decide +kernel
theorem d_Model_reckoning_83 : decode prog_10_method_37_code 83 = .ok (.iload 4, 2) := by decide +kernel
theorem d_Model_reckoning_85 : decode prog_10_method_37_code 85 = .ok (.iaload, 1) := by decide +kernel
theorem d_Model_reckoning_86 : decode prog_10_method_37_code 86 = .ok (.aload_n 0, 1) := by decide +kernel
theorem d_Model_reckoning_87 : decode prog_10_method_37_code 87 = .ok (.getfield 35, 3) := by decide +kernel
theorem d_Model_reckoning_90 : decode prog_10_method_37_code 90 = .ok (.iload_n 3, 1) := by decide +kernel
theorem d_Model_reckoning_91 : decode prog_10_method_37_code 91 = .ok (.iaload, 1) := by decide +kernel
theorem d_Model_reckoning_92 : decode prog_10_method_37_code 92 = .ok (.if_icmp .ne 7, 3) := by decide +kernel
theorem d_Model_reckoning_95 : decode prog_10_method_37_code 95 = .ok (.iconst 1, 1) := by decide +kernel
theorem d_Model_reckoning_96 : decode prog_10_method_37_code 96 = .ok (.goto 4, 3) := by decide +kernel
theorem d_Model_reckoning_99 : decode prog_10_method_37_code 99 = .ok (.iconst 0, 1) := by decide +kernel
theorem d_Model_reckoning_100 : decode prog_10_method_37_code 100 = .ok (.istore 5, 2) := by decide +kernel
theorem d_Model_reckoning_102 : decode prog_10_method_37_code 102 = .ok (.aload_n 0, 1) := by decide +kernel
theorem d_Model_reckoning_103 : decode prog_10_method_37_code 103 = .ok (.dup, 1) := by decide +kernel
theorem d_Model_reckoning_104 : decode prog_10_method_37_code 104 = .ok (.getfield 130, 3) := by decide +kernel
theorem d_Model_reckoning_107 : decode prog_10_method_37_code 107 = .ok (.iload_n 2, 1) := by decide +kernel
theorem d_Model_reckoning_108 : decode prog_10_method_37_code 108 = .ok (.isub, 1) := by decide +kernel
theorem d_Model_reckoning_109 : decode prog_10_method_37_code 109 = .ok (.putfield 130, 3) := by decide +kernel
theorem d_Model_reckoning_112 : decode prog_10_method_37_code 112 = .ok (.aload_n 0, 1) := by decide +kernel
theorem d_Model_reckoning_113 : decode prog_10_method_37_code 113 = .ok (.iload 5, 2) := by decide +kernel
theorem d_Model_reckoning_115 : decode prog_10_method_37_code 115 = .ok (.invokevirtual 194, 3) := by decide +kernel
theorem d_Model_reckoning_118 : decode prog_10_method_37_code 118 = .ok (.ireturn, 1) := by decide +kernel
theorem d_Model_reckoning_119 : decode prog_10_method_37_code 119 = .ok (.aload_n 0, 1) := by decide +kernel
theorem d_Model_reckoning_120 : decode prog_10_method_37_code 120 = .ok (.getfield 32, 3) := by decide +kernel
theorem d_Model_reckoning_123 : decode prog_10_method_37_code 123 = .ok (.iload 4, 2) := by decide +kernel
theorem d_Model_reckoning_125 : decode prog_10_method_37_code 125 = .ok (.iaload, 1) := by decide +kernel
theorem d_Model_reckoning_126 : decode prog_10_method_37_code 126 = .ok (.iconst 2, 1) := by decide +kernel
theorem d_Model_reckoning_127 : decode prog_10_method_37_code 127 = .ok (.if_icmp .ne 13, 3) := by decide +kernel
theorem d_Model_reckoning_130 : decode prog_10_method_37_code 130 = .ok (.aload_n 0, 1) := by decide +kernel
theorem d_Model_reckoning_131 : decode prog_10_method_37_code 131 = .ok (.getfield 32, 3) := by decide +kernel
theorem d_Model_reckoning_134 : decode prog_10_method_37_code 134 = .ok (.iload_n 3, 1) := by decide +kernel
theorem d_Model_reckoning_135 : decode prog_10_method_37_code 135 = .ok (.iaload, 1) := by decide +kernel
theorem d_Model_reckoning_136 : decode prog_10_method_37_code 136 = .ok (.iconst 2, 1) := by decide +kernel
theorem d_Model_reckoning_137 : decode prog_10_method_37_code 137 = .ok (.if_icmp .eq 5, 3) := by decide +kernel
theorem d_Model_reckoning_140 : decode prog_10_method_37_code 140 = .ok (.iconst 0, 1) := by decide +kernel
theorem d_Model_reckoning_141 : decode prog_10_method_37_code 141 = .ok (.ireturn, 1) := by decide +kernel
theorem d_Model_reckoning_142 : decode prog_10_method_37_code 142 = .ok (.aload_n 0, 1) := by decide +kernel
theorem d_Model_reckoning_143 : decode prog_10_method_37_code 143 = .ok (.getfield 35, 3) := by decide +kernel
theorem d_Model_reckoning_146 : decode prog_10_method_37_code 146 = .ok (.iload 4, 2) := by decide +kernel
theorem d_Model_reckoning_148 : decode prog_10_method_37_code 148 = .ok (.iaload, 1) := by decide +kernel
theorem d_Model_reckoning_149 : decode prog_10_method_37_code 149 = .ok (.istore 5, 2) := by decide +kernel
theorem d_Model_reckoning_151 : decode prog_10_method_37_code 151 = .ok (.aload_n 0, 1) := by decide +kernel
theorem d_Model_reckoning_152 : decode prog_10_method_37_code 152 = .ok (.getfield 35, 3) := by decide +kernel
theorem d_Model_reckoning_155 : decode prog_10_method_37_code 155 = .ok (.iload_n 3, 1) := by decide +kernel
theorem d_Model_reckoning_156 : decode prog_10_method_37_code 156 = .ok (.iaload, 1) := by decide +kernel
theorem d_Model_reckoning_157 : decode prog_10_method_37_code 157 = .ok (.istore 6, 2) := by decide +kernel
theorem d_Model_reckoning_159 : decode prog_10_method_37_code 159 = .ok (.iload_n 1, 1) := by decide +kernel
theorem d_Model_reckoning_160 : decode prog_10_method_37_code 160 = .ok (.bipush 15, 2) := by decide +kernel
theorem d_Model_reckoning_162 : decode prog_10_method_37_code 162 = .ok (.if_icmp .ne 30, 3) := by decide +kernel
theorem d_Model_reckoning_165 : decode prog_10_method_37_code 165 = .ok (.iload 6, 2) := by decide +kernel
theorem d_Model_reckoning_167 : decode prog_10_method_37_code 167 = .ok (.ifCond .ne 25, 3) := by decide +kernel
theorem d_Model_reckoning_170 : decode prog_10_method_37_code 170 = .ok (.aload_n 0, 1) := by decide +kernel
theorem d_Model_reckoning_171 : decode prog_10_method_37_code 171 = .ok (.iconst 0, 1) := by decide +kernel
theorem d_Model_reckoning_172 : decode prog_10_method_37_code 172 = .ok (.invokevirtual 107, 3) := by decide +kernel
theorem d_Model_reckoning_175 : decode prog_10_method_37_code 175 = .ok (.ifCond .eq 15, 3) := by decide +kernel
theorem d_Model_reckoning_178 : decode prog_10_method_37_code 178 = .ok (.aload_n 0, 1) := by decide +kernel
theorem d_Model_reckoning_179 : decode prog_10_method_37_code 179 = .ok (.iconst 0, 1) := by decide +kernel
theorem d_Model_reckoning_180 : decode prog_10_method_37_code 180 = .ok (.invokevirtual 198, 3) := by decide +kernel
theorem d_Model_reckoning_183 : decode prog_10_method_37_code 183 = .ok (.ifCond .eq 7, 3) := by decide +kernel
theorem d_Model_reckoning_186 : decode prog_10_method_37_code 186 = .ok (.iconst 1, 1) := by decide +kernel
theorem d_Model_reckoning_187 : decode prog_10_method_37_code 187 = .ok (.goto 4, 3) := by decide +kernel
theorem d_Model_reckoning_190 : decode prog_10_method_37_code 190 = .ok (.iconst 0, 1) := by decide +kernel
theorem d_Model_reckoning_191 : decode prog_10_method_37_code 191 = .ok (.ireturn, 1) := by decide +kernel
theorem d_Model_reckoning_192 : decode prog_10_method_37_code 192 = .ok (.aload_n 0, 1) := by decide +kernel
theorem d_Model_reckoning_193 : decode prog_10_method_37_code 193 = .ok (.dup, 1) := by decide +kernel
theorem d_Model_reckoning_194 : decode prog_10_method_37_code 194 = .ok (.getfield 130, 3) := by decide +kernel
theorem d_Model_reckoning_197 : decode prog_10_method_37_code 197 = .ok (.iconst 2, 1) := by decide +kernel
theorem d_Model_reckoning_198 : decode prog_10_method_37_code 198 = .ok (.isub, 1) := by decide +kernel
theorem d_Model_reckoning_199 : decode prog_10_method_37_code 199 = .ok (.putfield 130, 3) := by decide +kernel
theorem d_Model_reckoning_202 : decode prog_10_method_37_code 202 = .ok (.iload_n 1, 1) := by decide +kernel
theorem d_Model_reckoning_203 : decode prog_10_method_37_code 203 = .ok (.bipush 16, 2) := by decide +kernel
theorem d_Model_reckoning_205 : decode prog_10_method_37_code 205 = .ok (.if_icmp .ne 20, 3) := by decide +kernel
theorem d_Model_reckoning_208 : decode prog_10_method_37_code 208 = .ok (.aload_n 0, 1) := by decide +kernel
theorem d_Model_reckoning_209 : decode prog_10_method_37_code 209 = .ok (.iload 5, 2) := by decide +kernel
theorem d_Model_reckoning_211 : decode prog_10_method_37_code 211 = .ok (.iload 6, 2) := by decide +kernel
theorem d_Model_reckoning_213 : decode prog_10_method_37_code 213 = .ok (.if_icmp .ge 7, 3) := by decide +kernel
theorem d_Model_reckoning_216 : decode prog_10_method_37_code 216 = .ok (.iconst 1, 1) := by decide +kernel
theorem d_Model_reckoning_217 : decode prog_10_method_37_code 217 = .ok (.goto 4, 3) := by decide +kernel
theorem d_Model_reckoning_220 : decode prog_10_method_37_code 220 = .ok (.iconst 0, 1) := by decide +kernel
theorem d_Model_reckoning_221 : decode prog_10_method_37_code 221 = .ok (.invokevirtual 194, 3) := by decide +kernel
theorem d_Model_reckoning_224 : decode prog_10_method_37_code 224 = .ok (.ireturn, 1) := by decide +kernel
theorem d_Model_reckoning_225 : decode prog_10_method_37_code 225 = .ok (.aload_n 0, 1) := by decide +kernel
theorem d_Model_reckoning_226 : decode prog_10_method_37_code 226 = .ok (.iconst 2, 1) := by decide +kernel
theorem d_Model_reckoning_227 : decode prog_10_method_37_code 227 = .ok (.iload_n 1, 1) := by decide +kernel
theorem d_Model_reckoning_228 : decode prog_10_method_37_code 228 = .ok (.bipush 12, 2) := by decide +kernel
theorem d_Model_reckoning_230 : decode prog_10_method_37_code 230 = .ok (.if_icmp .ne 11, 3) := by decide +kernel
theorem d_Model_reckoning_233 : decode prog_10_method_37_code 233 = .ok (.iload 5, 2) := by decide +kernel
theorem d_Model_reckoning_235 : decode prog_10_method_37_code 235 = .ok (.iload 6, 2) := by decide +kernel
theorem d_Model_reckoning_237 : decode prog_10_method_37_code 237 = .ok (.iadd, 1) := by decide +kernel
theorem d_Model_reckoning_238 : decode prog_10_method_37_code 238 = .ok (.goto 36, 3) := by decide +kernel
theorem d_Model_reckoning_241 : decode prog_10_method_37_code 241 = .ok (.iload_n 1, 1) := by decide +kernel
theorem d_Model_reckoning_242 : decode prog_10_method_37_code 242 = .ok (.bipush 13, 2) := by decide +kernel
theorem d_Model_reckoning_244 : decode prog_10_method_37_code 244 = .ok (.if_icmp .ne 11, 3) := by decide +kernel
theorem d_Model_reckoning_247 : decode prog_10_method_37_code 247 = .ok (.iload 5, 2) := by decide +kernel
theorem d_Model_reckoning_249 : decode prog_10_method_37_code 249 = .ok (.iload 6, 2) := by decide +kernel
theorem d_Model_reckoning_251 : decode prog_10_method_37_code 251 = .ok (.isub, 1) := by decide +kernel
theorem d_Model_reckoning_252 : decode prog_10_method_37_code 252 = .ok (.goto 22, 3) := by decide +kernel
theorem d_Model_reckoning_255 : decode prog_10_method_37_code 255 = .ok (.iload_n 1, 1) := by decide +kernel
theorem d_Model_reckoning_256 : decode prog_10_method_37_code 256 = .ok (.bipush 14, 2) := by decide +kernel
theorem d_Model_reckoning_258 : decode prog_10_method_37_code 258 = .ok (.if_icmp .ne 11, 3) := by decide +kernel
theorem d_Model_reckoning_261 : decode prog_10_method_37_code 261 = .ok (.iload 5, 2) := by decide +kernel
theorem d_Model_reckoning_263 : decode prog_10_method_37_code 263 = .ok (.iload 6, 2) := by decide +kernel
theorem d_Model_reckoning_265 : decode prog_10_method_37_code 265 = .ok (.imul, 1) := by decide +kernel
theorem d_Model_reckoning_266 : decode prog_10_method_37_code 266 = .ok (.goto 8, 3) := by decide +kernel
theorem d_Model_reckoning_269 : decode prog_10_method_37_code 269 = .ok (.iload 5, 2) := by decide +kernel
theorem d_Model_reckoning_271 : decode prog_10_method_37_code 271 = .ok (.iload 6, 2) := by decide +kernel
theorem d_Model_reckoning_273 : decode prog_10_method_37_code 273 = .ok (.idiv, 1) := by decide +kernel
theorem d_Model_reckoning_274 : decode prog_10_method_37_code 274 = .ok (.invokevirtual 133, 3) := by decide +kernel
theorem d_Model_reckoning_277 : decode prog_10_method_37_code 277 = .ok (.iload_n 1, 1) := by decide +kernel
theorem d_Model_reckoning_278 : decode prog_10_method_37_code 278 = .ok (.bipush 15, 2) := by decide +kernel
theorem d_Model_reckoning_280 : decode prog_10_method_37_code 280 = .ok (.if_icmp .ne 25, 3) := by decide +kernel
theorem d_Model_reckoning_283 : decode prog_10_method_37_code 283 = .ok (.aload_n 0, 1) := by decide +kernel
theorem d_Model_reckoning_284 : decode prog_10_method_37_code 284 = .ok (.getfield 59, 3) := by decide +kernel
theorem d_Model_reckoning_287 : decode prog_10_method_37_code 287 = .ok (.aload_n 0, 1) := by decide +kernel
theorem d_Model_reckoning_288 : decode prog_10_method_37_code 288 = .ok (.getfield 127, 3) := by decide +kernel
theorem d_Model_reckoning_291 : decode prog_10_method_37_code 291 = .ok (.iconst 1, 1) := by decide +kernel
theorem d_Model_reckoning_292 : decode prog_10_method_37_code 292 = .ok (.isub, 1) := by decide +kernel
theorem d_Model_reckoning_293 : decode prog_10_method_37_code 293 = .ok (.aload_n 0, 1) := by decide +kernel
theorem d_Model_reckoning_294 : decode prog_10_method_37_code 294 = .ok (.getfield 62, 3) := by decide +kernel
theorem d_Model_reckoning_297 : decode prog_10_method_37_code 297 = .ok (.aload_n 0, 1) := by decide +kernel
theorem d_Model_reckoning_298 : decode prog_10_method_37_code 298 = .ok (.getfield 127, 3) := by decide +kernel
theorem d_Model_reckoning_301 : decode prog_10_method_37_code 301 = .ok (.iconst 1, 1) := by decide +kernel
theorem d_Model_reckoning_302 : decode prog_10_method_37_code 302 = .ok (.isub, 1) := by decide +kernel
theorem d_Model_reckoning_303 : decode prog_10_method_37_code 303 = .ok (.iaload, 1) := by decide +kernel
theorem d_Model_reckoning_304 : decode prog_10_method_37_code 304 = .ok (.iastore, 1) := by decide +kernel
theorem d_Model_reckoning_305 : decode prog_10_method_37_code 305 = .ok (.iconst 1, 1) := by decide +kernel
theorem d_Model_reckoning_306 : decode prog_10_method_37_code 306 = .ok (.ireturn, 1) := by decide +kernel
theorem d_Model_refuse_0 : decode prog_10_method_3_code 0 = .ok (.aload_n 0, 1) := by decide +kernel
theorem d_Model_refuse_1 : decode prog_10_method_3_code 1 = .ok (.iload_n 1, 1) := by decide +kernel
theorem d_Model_refuse_2 : decode prog_10_method_3_code 2 = .ok (.putfield 75, 3) := by decide +kernel
theorem d_Model_refuse_5 : decode prog_10_method_3_code 5 = .ok (.iconst 0, 1) := by decide +kernel
theorem d_Model_refuse_6 : decode prog_10_method_3_code 6 = .ok (.ireturn, 1) := by decide +kernel
theorem d_Model_run_0 : decode prog_10_method_26_code 0 = .ok (.aload_n 0, 1) := by decide +kernel
theorem d_Model_run_1 : decode prog_10_method_26_code 1 = .ok (.iconst 0, 1) := by decide +kernel
theorem d_Model_run_2 : decode prog_10_method_26_code 2 = .ok (.putfield 75, 3) := by decide +kernel
theorem d_Model_run_5 : decode prog_10_method_26_code 5 = .ok (.iconst 0, 1) := by decide +kernel
theorem d_Model_run_6 : decode prog_10_method_26_code 6 = .ok (.istore_n 2, 1) := by decide +kernel
theorem d_Model_run_7 : decode prog_10_method_26_code 7 = .ok (.iload_n 2, 1) := by decide +kernel
theorem d_Model_run_8 : decode prog_10_method_26_code 8 = .ok (.iload_n 1, 1) := by decide +kernel
theorem d_Model_run_9 : decode prog_10_method_26_code 9 = .ok (.if_icmp .ge 36, 3) := by decide +kernel
theorem d_Model_run_12 : decode prog_10_method_26_code 12 = .ok (.iload_n 2, 1) := by decide +kernel
theorem d_Model_run_13 : decode prog_10_method_26_code 13 = .ok (.sipush 3000, 3) := by decide +kernel
theorem d_Model_run_16 : decode prog_10_method_26_code 16 = .ok (.if_icmp .ge 29, 3) := by decide +kernel
theorem d_Model_run_19 : decode prog_10_method_26_code 19 = .ok (.aload_n 0, 1) := by decide +kernel
theorem d_Model_run_20 : decode prog_10_method_26_code 20 = .ok (.getfield 71, 3) := by decide +kernel
theorem d_Model_run_23 : decode prog_10_method_26_code 23 = .ok (.ifCond .ne 22, 3) := by decide +kernel
theorem d_Model_run_26 : decode prog_10_method_26_code 26 = .ok (.aload_n 0, 1) := by decide +kernel
theorem d_Model_run_27 : decode prog_10_method_26_code 27 = .ok (.invokevirtual 159, 3) := by decide +kernel
theorem d_Model_run_30 : decode prog_10_method_26_code 30 = .ok (.ifCond .ne 9, 3) := by decide +kernel
theorem d_Model_run_33 : decode prog_10_method_26_code 33 = .ok (.aload_n 0, 1) := by decide +kernel
theorem d_Model_run_34 : decode prog_10_method_26_code 34 = .ok (.iconst 3, 1) := by decide +kernel
theorem d_Model_run_35 : decode prog_10_method_26_code 35 = .ok (.invokevirtual 163, 3) := by decide +kernel
theorem d_Model_run_38 : decode prog_10_method_26_code 38 = .ok (.pop, 1) := by decide +kernel
theorem d_Model_run_39 : decode prog_10_method_26_code 39 = .ok (.iinc 2 1, 3) := by decide +kernel
theorem d_Model_run_42 : decode prog_10_method_26_code 42 = .ok (.goto (-35), 3) := by decide +kernel
theorem d_Model_run_45 : decode prog_10_method_26_code 45 = .ok (.aload_n 0, 1) := by decide +kernel
theorem d_Model_run_46 : decode prog_10_method_26_code 46 = .ok (.getfield 71, 3) := by decide +kernel
theorem d_Model_run_49 : decode prog_10_method_26_code 49 = .ok (.ireturn, 1) := by decide +kernel
theorem d_Model_said_0 : decode prog_10_method_53_code 0 = .ok (.iload_n 1, 1) := by decide +kernel
theorem d_Model_said_1 : decode prog_10_method_53_code 1 = .ok (.iconst (-1), 1) := by decide +kernel
theorem d_Model_said_2 : decode prog_10_method_53_code 2 = .ok (.aload_n 0, 1) := by decide +kernel
theorem d_Model_said_3 : decode prog_10_method_53_code 3 = .ok (.getfield 144, 3) := by decide +kernel
theorem d_Model_said_6 : decode prog_10_method_53_code 6 = .ok (.iconst 1, 1) := by decide +kernel
theorem d_Model_said_7 : decode prog_10_method_53_code 7 = .ok (.isub, 1) := by decide +kernel
theorem d_Model_said_8 : decode prog_10_method_53_code 8 = .ok (.invokestatic 78, 3) := by decide +kernel
theorem d_Model_said_11 : decode prog_10_method_53_code 11 = .ok (.ifCond .ne 33, 3) := by decide +kernel
theorem d_Model_said_14 : decode prog_10_method_53_code 14 = .ok (.iload_n 2, 1) := by decide +kernel
theorem d_Model_said_15 : decode prog_10_method_53_code 15 = .ok (.iconst 0, 1) := by decide +kernel
theorem d_Model_said_16 : decode prog_10_method_53_code 16 = .ok (.iconst 1, 1) := by decide +kernel
theorem d_Model_said_17 : decode prog_10_method_53_code 17 = .ok (.invokestatic 78, 3) := by decide +kernel
theorem d_Model_said_20 : decode prog_10_method_53_code 20 = .ok (.ifCond .ne 24, 3) := by decide +kernel
theorem d_Model_said_23 : decode prog_10_method_53_code 23 = .ok (.iload_n 1, 1) := by decide +kernel
theorem d_Model_said_24 : decode prog_10_method_53_code 24 = .ok (.iconst (-1), 1) := by decide +kernel
theorem d_Model_said_25 : decode prog_10_method_53_code 25 = .ok (.if_icmp .ne 25, 3) := by decide +kernel
theorem d_Model_said_28 : decode prog_10_method_53_code 28 = .ok (.aload_n 0, 1) := by decide +kernel
theorem d_Model_said_29 : decode prog_10_method_53_code 29 = .ok (.getfield 71, 3) := by decide +kernel
theorem d_Model_said_32 : decode prog_10_method_53_code 32 = .ok (.iconst 1, 1) := by decide +kernel
theorem d_Model_said_33 : decode prog_10_method_53_code 33 = .ok (.if_icmp .eq 17, 3) := by decide +kernel
theorem d_Model_said_36 : decode prog_10_method_53_code 36 = .ok (.aload_n 0, 1) := by decide +kernel
theorem d_Model_said_37 : decode prog_10_method_53_code 37 = .ok (.getfield 71, 3) := by decide +kernel
theorem d_Model_said_40 : decode prog_10_method_53_code 40 = .ok (.iconst 2, 1) := by decide +kernel
theorem d_Model_said_41 : decode prog_10_method_53_code 41 = .ok (.if_icmp .eq 9, 3) := by decide +kernel
theorem d_Model_said_44 : decode prog_10_method_53_code 44 = .ok (.aload_n 0, 1) := by decide +kernel
theorem d_Model_said_45 : decode prog_10_method_53_code 45 = .ok (.iconst 1, 1) := by decide +kernel
theorem d_Model_said_46 : decode prog_10_method_53_code 46 = .ok (.invokevirtual 238, 3) := by decide +kernel
theorem d_Model_said_49 : decode prog_10_method_53_code 49 = .ok (.ireturn, 1) := by decide +kernel
theorem d_Model_said_50 : decode prog_10_method_53_code 50 = .ok (.aload_n 0, 1) := by decide +kernel
theorem d_Model_said_51 : decode prog_10_method_53_code 51 = .ok (.iconst 0, 1) := by decide +kernel
theorem d_Model_said_52 : decode prog_10_method_53_code 52 = .ok (.putfield 75, 3) := by decide +kernel
theorem d_Model_said_55 : decode prog_10_method_53_code 55 = .ok (.iload_n 1, 1) := by decide +kernel
theorem d_Model_said_56 : decode prog_10_method_53_code 56 = .ok (.iconst (-1), 1) := by decide +kernel
theorem d_Model_said_57 : decode prog_10_method_53_code 57 = .ok (.if_icmp .ne 19, 3) := by decide +kernel
theorem d_Model_said_60 : decode prog_10_method_53_code 60 = .ok (.iload_n 2, 1) := by decide +kernel
theorem d_Model_said_61 : decode prog_10_method_53_code 61 = .ok (.ifCond .ne 10, 3) := by decide +kernel
theorem d_Model_said_64 : decode prog_10_method_53_code 64 = .ok (.aload_n 0, 1) := by decide +kernel
theorem d_Model_said_65 : decode prog_10_method_53_code 65 = .ok (.getfield 147, 3) := by decide +kernel
theorem d_Model_said_68 : decode prog_10_method_53_code 68 = .ok (.goto 7, 3) := by decide +kernel
theorem d_Model_said_71 : decode prog_10_method_53_code 71 = .ok (.aload_n 0, 1) := by decide +kernel
theorem d_Model_said_72 : decode prog_10_method_53_code 72 = .ok (.getfield 150, 3) := by decide +kernel
theorem d_Model_said_75 : decode prog_10_method_53_code 75 = .ok (.ireturn, 1) := by decide +kernel
theorem d_Model_said_76 : decode prog_10_method_53_code 76 = .ok (.iload_n 2, 1) := by decide +kernel
theorem d_Model_said_77 : decode prog_10_method_53_code 77 = .ok (.ifCond .ne 12, 3) := by decide +kernel
theorem d_Model_said_80 : decode prog_10_method_53_code 80 = .ok (.aload_n 0, 1) := by decide +kernel
theorem d_Model_said_81 : decode prog_10_method_53_code 81 = .ok (.getfield 65, 3) := by decide +kernel
theorem d_Model_said_84 : decode prog_10_method_53_code 84 = .ok (.iload_n 1, 1) := by decide +kernel
theorem d_Model_said_85 : decode prog_10_method_53_code 85 = .ok (.iaload, 1) := by decide +kernel
theorem d_Model_said_86 : decode prog_10_method_53_code 86 = .ok (.goto 9, 3) := by decide +kernel
theorem d_Model_said_89 : decode prog_10_method_53_code 89 = .ok (.aload_n 0, 1) := by decide +kernel
theorem d_Model_said_90 : decode prog_10_method_53_code 90 = .ok (.getfield 68, 3) := by decide +kernel
theorem d_Model_said_93 : decode prog_10_method_53_code 93 = .ok (.iload_n 1, 1) := by decide +kernel
theorem d_Model_said_94 : decode prog_10_method_53_code 94 = .ok (.iaload, 1) := by decide +kernel
theorem d_Model_said_95 : decode prog_10_method_53_code 95 = .ok (.ireturn, 1) := by decide +kernel
theorem d_Model_show_0 : decode prog_10_method_52_code 0 = .ok (.iload_n 1, 1) := by decide +kernel
theorem d_Model_show_1 : decode prog_10_method_52_code 1 = .ok (.iconst 0, 1) := by decide +kernel
theorem d_Model_show_2 : decode prog_10_method_52_code 2 = .ok (.iconst 5, 1) := by decide +kernel
theorem d_Model_show_3 : decode prog_10_method_52_code 3 = .ok (.invokestatic 78, 3) := by decide +kernel
theorem d_Model_show_6 : decode prog_10_method_52_code 6 = .ok (.ifCond .ne 20, 3) := by decide +kernel
theorem d_Model_show_9 : decode prog_10_method_52_code 9 = .ok (.aload_n 0, 1) := by decide +kernel
theorem d_Model_show_10 : decode prog_10_method_52_code 10 = .ok (.getfield 127, 3) := by decide +kernel
theorem d_Model_show_13 : decode prog_10_method_52_code 13 = .ok (.ifCond .ne 19, 3) := by decide +kernel
theorem d_Model_show_16 : decode prog_10_method_52_code 16 = .ok (.iload_n 1, 1) := by decide +kernel
theorem d_Model_show_17 : decode prog_10_method_52_code 17 = .ok (.iconst 1, 1) := by decide +kernel
theorem d_Model_show_18 : decode prog_10_method_52_code 18 = .ok (.if_icmp .eq 8, 3) := by decide +kernel
theorem d_Model_show_21 : decode prog_10_method_52_code 21 = .ok (.iload_n 1, 1) := by decide +kernel
theorem d_Model_show_22 : decode prog_10_method_52_code 22 = .ok (.iconst 2, 1) := by decide +kernel
theorem d_Model_show_23 : decode prog_10_method_52_code 23 = .ok (.if_icmp .ne 9, 3) := by decide +kernel
theorem d_Model_show_26 : decode prog_10_method_52_code 26 = .ok (.aload_n 0, 1) := by decide +kernel
theorem d_Model_show_27 : decode prog_10_method_52_code 27 = .ok (.iconst 1, 1) := by decide +kernel
theorem d_Model_show_28 : decode prog_10_method_52_code 28 = .ok (.invokevirtual 238, 3) := by decide +kernel
theorem d_Model_show_31 : decode prog_10_method_52_code 31 = .ok (.ireturn, 1) := by decide +kernel
theorem d_Model_show_32 : decode prog_10_method_52_code 32 = .ok (.aload_n 0, 1) := by decide +kernel
theorem d_Model_show_33 : decode prog_10_method_52_code 33 = .ok (.iconst 0, 1) := by decide +kernel
theorem d_Model_show_34 : decode prog_10_method_52_code 34 = .ok (.putfield 75, 3) := by decide +kernel
theorem d_Model_show_37 : decode prog_10_method_52_code 37 = .ok (.iconst 0, 1) := by decide +kernel
theorem d_Model_show_38 : decode prog_10_method_52_code 38 = .ok (.istore_n 2, 1) := by decide +kernel
theorem d_Model_show_39 : decode prog_10_method_52_code 39 = .ok (.iconst 0, 1) := by decide +kernel
theorem d_Model_show_40 : decode prog_10_method_52_code 40 = .ok (.istore_n 3, 1) := by decide +kernel
theorem d_Model_show_41 : decode prog_10_method_52_code 41 = .ok (.iload_n 3, 1) := by decide +kernel
theorem d_Model_show_42 : decode prog_10_method_52_code 42 = .ok (.bipush 32, 2) := by decide +kernel
theorem d_Model_show_44 : decode prog_10_method_52_code 44 = .ok (.if_icmp .ge 21, 3) := by decide +kernel
theorem d_Model_show_47 : decode prog_10_method_52_code 47 = .ok (.iload_n 2, 1) := by decide +kernel
theorem d_Model_show_48 : decode prog_10_method_52_code 48 = .ok (.aload_n 0, 1) := by decide +kernel
theorem d_Model_show_49 : decode prog_10_method_52_code 49 = .ok (.getfield 13, 3) := by decide +kernel
theorem d_Model_show_52 : decode prog_10_method_52_code 52 = .ok (.bipush 29, 2) := by decide +kernel
theorem d_Model_show_54 : decode prog_10_method_52_code 54 = .ok (.iload_n 3, 1) := by decide +kernel
theorem d_Model_show_55 : decode prog_10_method_52_code 55 = .ok (.imul, 1) := by decide +kernel
theorem d_Model_show_56 : decode prog_10_method_52_code 56 = .ok (.iaload, 1) := by decide +kernel
theorem d_Model_show_57 : decode prog_10_method_52_code 57 = .ok (.iadd, 1) := by decide +kernel
theorem d_Model_show_58 : decode prog_10_method_52_code 58 = .ok (.istore_n 2, 1) := by decide +kernel
theorem d_Model_show_59 : decode prog_10_method_52_code 59 = .ok (.iinc 3 1, 3) := by decide +kernel
theorem d_Model_show_62 : decode prog_10_method_52_code 62 = .ok (.goto (-21), 3) := by decide +kernel
theorem d_Model_show_65 : decode prog_10_method_52_code 65 = .ok (.iload_n 1, 1) := by decide +kernel
theorem d_Model_show_66 : decode prog_10_method_52_code 66 = .ok (.tableswitch 70 0 4 #[34, 39, 51, 63, 68], 34) := by decide +kernel
theorem d_Model_show_100 : decode prog_10_method_52_code 100 = .ok (.aload_n 0, 1) := by decide +kernel
theorem d_Model_show_101 : decode prog_10_method_52_code 101 = .ok (.getfield 127, 3) := by decide +kernel
theorem d_Model_show_104 : decode prog_10_method_52_code 104 = .ok (.ireturn, 1) := by decide +kernel
theorem d_Model_show_105 : decode prog_10_method_52_code 105 = .ok (.aload_n 0, 1) := by decide +kernel
theorem d_Model_show_106 : decode prog_10_method_52_code 106 = .ok (.getfield 59, 3) := by decide +kernel
theorem d_Model_show_109 : decode prog_10_method_52_code 109 = .ok (.aload_n 0, 1) := by decide +kernel
theorem d_Model_show_110 : decode prog_10_method_52_code 110 = .ok (.getfield 127, 3) := by decide +kernel
theorem d_Model_show_113 : decode prog_10_method_52_code 113 = .ok (.iconst 1, 1) := by decide +kernel
theorem d_Model_show_114 : decode prog_10_method_52_code 114 = .ok (.isub, 1) := by decide +kernel
theorem d_Model_show_115 : decode prog_10_method_52_code 115 = .ok (.iaload, 1) := by decide +kernel
theorem d_Model_show_116 : decode prog_10_method_52_code 116 = .ok (.ireturn, 1) := by decide +kernel
theorem d_Model_show_117 : decode prog_10_method_52_code 117 = .ok (.aload_n 0, 1) := by decide +kernel
theorem d_Model_show_118 : decode prog_10_method_52_code 118 = .ok (.getfield 53, 3) := by decide +kernel
theorem d_Model_show_121 : decode prog_10_method_52_code 121 = .ok (.aload_n 0, 1) := by decide +kernel
theorem d_Model_show_122 : decode prog_10_method_52_code 122 = .ok (.getfield 127, 3) := by decide +kernel
theorem d_Model_show_125 : decode prog_10_method_52_code 125 = .ok (.iconst 1, 1) := by decide +kernel
theorem d_Model_show_126 : decode prog_10_method_52_code 126 = .ok (.isub, 1) := by decide +kernel
theorem d_Model_show_127 : decode prog_10_method_52_code 127 = .ok (.iaload, 1) := by decide +kernel
theorem d_Model_show_128 : decode prog_10_method_52_code 128 = .ok (.ireturn, 1) := by decide +kernel
theorem d_Model_show_129 : decode prog_10_method_52_code 129 = .ok (.aload_n 0, 1) := by decide +kernel
theorem d_Model_show_130 : decode prog_10_method_52_code 130 = .ok (.getfield 153, 3) := by decide +kernel
theorem d_Model_show_133 : decode prog_10_method_52_code 133 = .ok (.ireturn, 1) := by decide +kernel
theorem d_Model_show_134 : decode prog_10_method_52_code 134 = .ok (.iload_n 2, 1) := by decide +kernel
theorem d_Model_show_135 : decode prog_10_method_52_code 135 = .ok (.ireturn, 1) := by decide +kernel
theorem d_Model_show_136 : decode prog_10_method_52_code 136 = .ok (.aload_n 0, 1) := by decide +kernel
theorem d_Model_show_137 : decode prog_10_method_52_code 137 = .ok (.getfield 144, 3) := by decide +kernel
theorem d_Model_show_140 : decode prog_10_method_52_code 140 = .ok (.ireturn, 1) := by decide +kernel
theorem d_Model_signed_0 : decode prog_10_method_36_code 0 = .ok (.aload_n 0, 1) := by decide +kernel
theorem d_Model_signed_1 : decode prog_10_method_36_code 1 = .ok (.iload_n 1, 1) := by decide +kernel
theorem d_Model_signed_2 : decode prog_10_method_36_code 2 = .ok (.invokevirtual 124, 3) := by decide +kernel
theorem d_Model_signed_5 : decode prog_10_method_36_code 5 = .ok (.bipush 127, 2) := by decide +kernel
theorem d_Model_signed_7 : decode prog_10_method_36_code 7 = .ok (.if_icmp .le 15, 3) := by decide +kernel
theorem d_Model_signed_10 : decode prog_10_method_36_code 10 = .ok (.aload_n 0, 1) := by decide +kernel
theorem d_Model_signed_11 : decode prog_10_method_36_code 11 = .ok (.iload_n 1, 1) := by decide +kernel
theorem d_Model_signed_12 : decode prog_10_method_36_code 12 = .ok (.invokevirtual 124, 3) := by decide +kernel
theorem d_Model_signed_15 : decode prog_10_method_36_code 15 = .ok (.sipush 256, 3) := by decide +kernel
theorem d_Model_signed_18 : decode prog_10_method_36_code 18 = .ok (.isub, 1) := by decide +kernel
theorem d_Model_signed_19 : decode prog_10_method_36_code 19 = .ok (.goto 8, 3) := by decide +kernel
theorem d_Model_signed_22 : decode prog_10_method_36_code 22 = .ok (.aload_n 0, 1) := by decide +kernel
theorem d_Model_signed_23 : decode prog_10_method_36_code 23 = .ok (.iload_n 1, 1) := by decide +kernel
theorem d_Model_signed_24 : decode prog_10_method_36_code 24 = .ok (.invokevirtual 124, 3) := by decide +kernel
theorem d_Model_signed_27 : decode prog_10_method_36_code 27 = .ok (.ireturn, 1) := by decide +kernel
theorem d_Model_sound_0 : decode prog_10_method_22_code 0 = .ok (.aload_n 0, 1) := by decide +kernel
theorem d_Model_sound_1 : decode prog_10_method_22_code 1 = .ok (.iload_n 1, 1) := by decide +kernel
theorem d_Model_sound_2 : decode prog_10_method_22_code 2 = .ok (.invokevirtual 124, 3) := by decide +kernel
theorem d_Model_sound_5 : decode prog_10_method_22_code 5 = .ok (.iload_n 2, 1) := by decide +kernel
theorem d_Model_sound_6 : decode prog_10_method_22_code 6 = .ok (.if_icmp .ne 49, 3) := by decide +kernel
theorem d_Model_sound_9 : decode prog_10_method_22_code 9 = .ok (.aload_n 0, 1) := by decide +kernel
theorem d_Model_sound_10 : decode prog_10_method_22_code 10 = .ok (.iload_n 1, 1) := by decide +kernel
theorem d_Model_sound_11 : decode prog_10_method_22_code 11 = .ok (.iconst 1, 1) := by decide +kernel
theorem d_Model_sound_12 : decode prog_10_method_22_code 12 = .ok (.iadd, 1) := by decide +kernel
theorem d_Model_sound_13 : decode prog_10_method_22_code 13 = .ok (.invokevirtual 124, 3) := by decide +kernel
theorem d_Model_sound_16 : decode prog_10_method_22_code 16 = .ok (.iconst 4, 1) := by decide +kernel
theorem d_Model_sound_17 : decode prog_10_method_22_code 17 = .ok (.if_icmp .ge 38, 3) := by decide +kernel
theorem d_Model_sound_20 : decode prog_10_method_22_code 20 = .ok (.aload_n 0, 1) := by decide +kernel
theorem d_Model_sound_21 : decode prog_10_method_22_code 21 = .ok (.iload_n 1, 1) := by decide +kernel
theorem d_Model_sound_22 : decode prog_10_method_22_code 22 = .ok (.iconst 2, 1) := by decide +kernel
theorem d_Model_sound_23 : decode prog_10_method_22_code 23 = .ok (.iadd, 1) := by decide +kernel
theorem d_Model_sound_24 : decode prog_10_method_22_code 24 = .ok (.invokevirtual 124, 3) := by decide +kernel
theorem d_Model_sound_27 : decode prog_10_method_22_code 27 = .ok (.iconst 4, 1) := by decide +kernel
theorem d_Model_sound_28 : decode prog_10_method_22_code 28 = .ok (.if_icmp .ge 27, 3) := by decide +kernel
theorem d_Model_sound_31 : decode prog_10_method_22_code 31 = .ok (.iload_n 1, 1) := by decide +kernel
theorem d_Model_sound_32 : decode prog_10_method_22_code 32 = .ok (.iconst 3, 1) := by decide +kernel
theorem d_Model_sound_33 : decode prog_10_method_22_code 33 = .ok (.iadd, 1) := by decide +kernel
theorem d_Model_sound_34 : decode prog_10_method_22_code 34 = .ok (.iconst 4, 1) := by decide +kernel
theorem d_Model_sound_35 : decode prog_10_method_22_code 35 = .ok (.aload_n 0, 1) := by decide +kernel
theorem d_Model_sound_36 : decode prog_10_method_22_code 36 = .ok (.iload_n 1, 1) := by decide +kernel
theorem d_Model_sound_37 : decode prog_10_method_22_code 37 = .ok (.iconst 2, 1) := by decide +kernel
theorem d_Model_sound_38 : decode prog_10_method_22_code 38 = .ok (.iadd, 1) := by decide +kernel
theorem d_Model_sound_39 : decode prog_10_method_22_code 39 = .ok (.invokevirtual 124, 3) := by decide +kernel
theorem d_Model_sound_42 : decode prog_10_method_22_code 42 = .ok (.imul, 1) := by decide +kernel
theorem d_Model_sound_43 : decode prog_10_method_22_code 43 = .ok (.iadd, 1) := by decide +kernel
theorem d_Model_sound_44 : decode prog_10_method_22_code 44 = .ok (.aload_n 0, 1) := by decide +kernel
theorem d_Model_sound_45 : decode prog_10_method_22_code 45 = .ok (.getfield 104, 3) := by decide +kernel
theorem d_Model_sound_48 : decode prog_10_method_22_code 48 = .ok (.if_icmp .gt 7, 3) := by decide +kernel
theorem d_Model_sound_51 : decode prog_10_method_22_code 51 = .ok (.iconst 1, 1) := by decide +kernel
theorem d_Model_sound_52 : decode prog_10_method_22_code 52 = .ok (.goto 4, 3) := by decide +kernel
theorem d_Model_sound_55 : decode prog_10_method_22_code 55 = .ok (.iconst 0, 1) := by decide +kernel
theorem d_Model_sound_56 : decode prog_10_method_22_code 56 = .ok (.ireturn, 1) := by decide +kernel
theorem d_Model_spread_0 : decode prog_10_method_49_code 0 = .ok (.iload_n 1, 1) := by decide +kernel
theorem d_Model_spread_1 : decode prog_10_method_49_code 1 = .ok (.istore_n 2, 1) := by decide +kernel
theorem d_Model_spread_2 : decode prog_10_method_49_code 2 = .ok (.iconst 0, 1) := by decide +kernel
theorem d_Model_spread_3 : decode prog_10_method_49_code 3 = .ok (.istore_n 3, 1) := by decide +kernel
theorem d_Model_spread_4 : decode prog_10_method_49_code 4 = .ok (.iload_n 3, 1) := by decide +kernel
theorem d_Model_spread_5 : decode prog_10_method_49_code 5 = .ok (.bipush 32, 2) := by decide +kernel
theorem d_Model_spread_7 : decode prog_10_method_49_code 7 = .ok (.if_icmp .ge 132, 3) := by decide +kernel
theorem d_Model_spread_10 : decode prog_10_method_49_code 10 = .ok (.iload_n 1, 1) := by decide +kernel
theorem d_Model_spread_11 : decode prog_10_method_49_code 11 = .ok (.iload_n 3, 1) := by decide +kernel
theorem d_Model_spread_12 : decode prog_10_method_49_code 12 = .ok (.ishr, 1) := by decide +kernel
theorem d_Model_spread_13 : decode prog_10_method_49_code 13 = .ok (.iconst 1, 1) := by decide +kernel
theorem d_Model_spread_14 : decode prog_10_method_49_code 14 = .ok (.iand, 1) := by decide +kernel
theorem d_Model_spread_15 : decode prog_10_method_49_code 15 = .ok (.iconst 1, 1) := by decide +kernel
theorem d_Model_spread_16 : decode prog_10_method_49_code 16 = .ok (.if_icmp .ne 7, 3) := by decide +kernel
theorem d_Model_spread_19 : decode prog_10_method_49_code 19 = .ok (.iconst 1, 1) := by decide +kernel
theorem d_Model_spread_20 : decode prog_10_method_49_code 20 = .ok (.goto 4, 3) := by decide +kernel
theorem d_Model_spread_23 : decode prog_10_method_49_code 23 = .ok (.iconst 0, 1) := by decide +kernel
theorem d_Model_spread_24 : decode prog_10_method_49_code 24 = .ok (.istore 4, 2) := by decide +kernel
theorem d_Model_spread_26 : decode prog_10_method_49_code 26 = .ok (.iconst 0, 1) := by decide +kernel
theorem d_Model_spread_27 : decode prog_10_method_49_code 27 = .ok (.istore 5, 2) := by decide +kernel
theorem d_Model_spread_29 : decode prog_10_method_49_code 29 = .ok (.iload 5, 2) := by decide +kernel
theorem d_Model_spread_31 : decode prog_10_method_49_code 31 = .ok (.aload_n 0, 1) := by decide +kernel
theorem d_Model_spread_32 : decode prog_10_method_49_code 32 = .ok (.iload_n 3, 1) := by decide +kernel
theorem d_Model_spread_33 : decode prog_10_method_49_code 33 = .ok (.invokevirtual 89, 3) := by decide +kernel
theorem d_Model_spread_36 : decode prog_10_method_49_code 36 = .ok (.if_icmp .ge 28, 3) := by decide +kernel
theorem d_Model_spread_39 : decode prog_10_method_49_code 39 = .ok (.iload 4, 2) := by decide +kernel
theorem d_Model_spread_41 : decode prog_10_method_49_code 41 = .ok (.ifCond .eq 23, 3) := by decide +kernel
theorem d_Model_spread_44 : decode prog_10_method_49_code 44 = .ok (.aload_n 0, 1) := by decide +kernel
theorem d_Model_spread_45 : decode prog_10_method_49_code 45 = .ok (.iload_n 2, 1) := by decide +kernel
theorem d_Model_spread_46 : decode prog_10_method_49_code 46 = .ok (.iconst 3, 1) := by decide +kernel
theorem d_Model_spread_47 : decode prog_10_method_49_code 47 = .ok (.aload_n 0, 1) := by decide +kernel
theorem d_Model_spread_48 : decode prog_10_method_49_code 48 = .ok (.iload_n 3, 1) := by decide +kernel
theorem d_Model_spread_49 : decode prog_10_method_49_code 49 = .ok (.iload 5, 2) := by decide +kernel
theorem d_Model_spread_51 : decode prog_10_method_49_code 51 = .ok (.invokevirtual 93, 3) := by decide +kernel
theorem d_Model_spread_54 : decode prog_10_method_49_code 54 = .ok (.invokevirtual 232, 3) := by decide +kernel
theorem d_Model_spread_57 : decode prog_10_method_49_code 57 = .ok (.istore_n 2, 1) := by decide +kernel
theorem d_Model_spread_58 : decode prog_10_method_49_code 58 = .ok (.iinc 5 1, 3) := by decide +kernel
theorem d_Model_spread_61 : decode prog_10_method_49_code 61 = .ok (.goto (-32), 3) := by decide +kernel
theorem d_Model_spread_64 : decode prog_10_method_49_code 64 = .ok (.iconst 0, 1) := by decide +kernel
theorem d_Model_spread_65 : decode prog_10_method_49_code 65 = .ok (.istore 5, 2) := by decide +kernel
theorem d_Model_spread_67 : decode prog_10_method_49_code 67 = .ok (.iload 5, 2) := by decide +kernel
theorem d_Model_spread_69 : decode prog_10_method_49_code 69 = .ok (.bipush 8, 2) := by decide +kernel
theorem d_Model_spread_71 : decode prog_10_method_49_code 71 = .ok (.if_icmp .ge 62, 3) := by decide +kernel
theorem d_Model_spread_74 : decode prog_10_method_49_code 74 = .ok (.iload 4, 2) := by decide +kernel
theorem d_Model_spread_76 : decode prog_10_method_49_code 76 = .ok (.ifCond .eq 57, 3) := by decide +kernel
theorem d_Model_spread_79 : decode prog_10_method_49_code 79 = .ok (.aload_n 0, 1) := by decide +kernel
theorem d_Model_spread_80 : decode prog_10_method_49_code 80 = .ok (.iload_n 3, 1) := by decide +kernel
theorem d_Model_spread_81 : decode prog_10_method_49_code 81 = .ok (.iload 5, 2) := by decide +kernel
theorem d_Model_spread_83 : decode prog_10_method_49_code 83 = .ok (.invokevirtual 100, 3) := by decide +kernel
theorem d_Model_spread_86 : decode prog_10_method_49_code 86 = .ok (.ifCond .eq 39, 3) := by decide +kernel
theorem d_Model_spread_89 : decode prog_10_method_49_code 89 = .ok (.aload_n 0, 1) := by decide +kernel
theorem d_Model_spread_90 : decode prog_10_method_49_code 90 = .ok (.iload_n 2, 1) := by decide +kernel
theorem d_Model_spread_91 : decode prog_10_method_49_code 91 = .ok (.aload_n 0, 1) := by decide +kernel
theorem d_Model_spread_92 : decode prog_10_method_49_code 92 = .ok (.getfield 13, 3) := by decide +kernel
theorem d_Model_spread_95 : decode prog_10_method_49_code 95 = .ok (.aload_n 0, 1) := by decide +kernel
theorem d_Model_spread_96 : decode prog_10_method_49_code 96 = .ok (.iload_n 3, 1) := by decide +kernel
theorem d_Model_spread_97 : decode prog_10_method_49_code 97 = .ok (.iload 5, 2) := by decide +kernel
theorem d_Model_spread_99 : decode prog_10_method_49_code 99 = .ok (.invokevirtual 82, 3) := by decide +kernel
theorem d_Model_spread_102 : decode prog_10_method_49_code 102 = .ok (.iconst 1, 1) := by decide +kernel
theorem d_Model_spread_103 : decode prog_10_method_49_code 103 = .ok (.iadd, 1) := by decide +kernel
theorem d_Model_spread_104 : decode prog_10_method_49_code 104 = .ok (.iaload, 1) := by decide +kernel
theorem d_Model_spread_105 : decode prog_10_method_49_code 105 = .ok (.aload_n 0, 1) := by decide +kernel
theorem d_Model_spread_106 : decode prog_10_method_49_code 106 = .ok (.getfield 13, 3) := by decide +kernel
theorem d_Model_spread_109 : decode prog_10_method_49_code 109 = .ok (.aload_n 0, 1) := by decide +kernel
theorem d_Model_spread_110 : decode prog_10_method_49_code 110 = .ok (.iload_n 3, 1) := by decide +kernel
theorem d_Model_spread_111 : decode prog_10_method_49_code 111 = .ok (.iload 5, 2) := by decide +kernel
theorem d_Model_spread_113 : decode prog_10_method_49_code 113 = .ok (.invokevirtual 82, 3) := by decide +kernel
theorem d_Model_spread_116 : decode prog_10_method_49_code 116 = .ok (.iconst 2, 1) := by decide +kernel
theorem d_Model_spread_117 : decode prog_10_method_49_code 117 = .ok (.iadd, 1) := by decide +kernel
theorem d_Model_spread_118 : decode prog_10_method_49_code 118 = .ok (.iaload, 1) := by decide +kernel
theorem d_Model_spread_119 : decode prog_10_method_49_code 119 = .ok (.invokevirtual 232, 3) := by decide +kernel
theorem d_Model_spread_122 : decode prog_10_method_49_code 122 = .ok (.goto 4, 3) := by decide +kernel
theorem d_Model_spread_125 : decode prog_10_method_49_code 125 = .ok (.iload_n 2, 1) := by decide +kernel
theorem d_Model_spread_126 : decode prog_10_method_49_code 126 = .ok (.istore_n 2, 1) := by decide +kernel
theorem d_Model_spread_127 : decode prog_10_method_49_code 127 = .ok (.iinc 5 1, 3) := by decide +kernel
theorem d_Model_spread_130 : decode prog_10_method_49_code 130 = .ok (.goto (-63), 3) := by decide +kernel
theorem d_Model_spread_133 : decode prog_10_method_49_code 133 = .ok (.iinc 3 1, 3) := by decide +kernel
theorem d_Model_spread_136 : decode prog_10_method_49_code 136 = .ok (.goto (-132), 3) := by decide +kernel
theorem d_Model_spread_139 : decode prog_10_method_49_code 139 = .ok (.iload_n 2, 1) := by decide +kernel
theorem d_Model_spread_140 : decode prog_10_method_49_code 140 = .ok (.ireturn, 1) := by decide +kernel
theorem d_Model_stack_0 : decode prog_10_method_51_code 0 = .ok (.iload_n 1, 1) := by decide +kernel
theorem d_Model_stack_1 : decode prog_10_method_51_code 1 = .ok (.iconst 0, 1) := by decide +kernel
theorem d_Model_stack_2 : decode prog_10_method_51_code 2 = .ok (.aload_n 0, 1) := by decide +kernel
theorem d_Model_stack_3 : decode prog_10_method_51_code 3 = .ok (.getfield 130, 3) := by decide +kernel
theorem d_Model_stack_6 : decode prog_10_method_51_code 6 = .ok (.iconst 1, 1) := by decide +kernel
theorem d_Model_stack_7 : decode prog_10_method_51_code 7 = .ok (.isub, 1) := by decide +kernel
theorem d_Model_stack_8 : decode prog_10_method_51_code 8 = .ok (.invokestatic 78, 3) := by decide +kernel
theorem d_Model_stack_11 : decode prog_10_method_51_code 11 = .ok (.ifCond .ne 12, 3) := by decide +kernel
theorem d_Model_stack_14 : decode prog_10_method_51_code 14 = .ok (.iload_n 2, 1) := by decide +kernel
theorem d_Model_stack_15 : decode prog_10_method_51_code 15 = .ok (.iconst 0, 1) := by decide +kernel
theorem d_Model_stack_16 : decode prog_10_method_51_code 16 = .ok (.iconst 1, 1) := by decide +kernel
theorem d_Model_stack_17 : decode prog_10_method_51_code 17 = .ok (.invokestatic 78, 3) := by decide +kernel
theorem d_Model_stack_20 : decode prog_10_method_51_code 20 = .ok (.ifCond .eq 9, 3) := by decide +kernel
theorem d_Model_stack_23 : decode prog_10_method_51_code 23 = .ok (.aload_n 0, 1) := by decide +kernel
theorem d_Model_stack_24 : decode prog_10_method_51_code 24 = .ok (.iconst 1, 1) := by decide +kernel
theorem d_Model_stack_25 : decode prog_10_method_51_code 25 = .ok (.invokevirtual 238, 3) := by decide +kernel
theorem d_Model_stack_28 : decode prog_10_method_51_code 28 = .ok (.ireturn, 1) := by decide +kernel
theorem d_Model_stack_29 : decode prog_10_method_51_code 29 = .ok (.aload_n 0, 1) := by decide +kernel
theorem d_Model_stack_30 : decode prog_10_method_51_code 30 = .ok (.iconst 0, 1) := by decide +kernel
theorem d_Model_stack_31 : decode prog_10_method_51_code 31 = .ok (.putfield 75, 3) := by decide +kernel
theorem d_Model_stack_34 : decode prog_10_method_51_code 34 = .ok (.iload_n 2, 1) := by decide +kernel
theorem d_Model_stack_35 : decode prog_10_method_51_code 35 = .ok (.ifCond .ne 12, 3) := by decide +kernel
theorem d_Model_stack_38 : decode prog_10_method_51_code 38 = .ok (.aload_n 0, 1) := by decide +kernel
theorem d_Model_stack_39 : decode prog_10_method_51_code 39 = .ok (.getfield 32, 3) := by decide +kernel
theorem d_Model_stack_42 : decode prog_10_method_51_code 42 = .ok (.iload_n 1, 1) := by decide +kernel
theorem d_Model_stack_43 : decode prog_10_method_51_code 43 = .ok (.iaload, 1) := by decide +kernel
theorem d_Model_stack_44 : decode prog_10_method_51_code 44 = .ok (.goto 9, 3) := by decide +kernel
theorem d_Model_stack_47 : decode prog_10_method_51_code 47 = .ok (.aload_n 0, 1) := by decide +kernel
theorem d_Model_stack_48 : decode prog_10_method_51_code 48 = .ok (.getfield 35, 3) := by decide +kernel
theorem d_Model_stack_51 : decode prog_10_method_51_code 51 = .ok (.iload_n 1, 1) := by decide +kernel
theorem d_Model_stack_52 : decode prog_10_method_51_code 52 = .ok (.iaload, 1) := by decide +kernel
theorem d_Model_stack_53 : decode prog_10_method_51_code 53 = .ok (.ireturn, 1) := by decide +kernel
theorem d_Model_stop_0 : decode prog_10_method_27_code 0 = .ok (.aload_n 0, 1) := by decide +kernel
theorem d_Model_stop_1 : decode prog_10_method_27_code 1 = .ok (.iconst 0, 1) := by decide +kernel
theorem d_Model_stop_2 : decode prog_10_method_27_code 2 = .ok (.putfield 75, 3) := by decide +kernel
theorem d_Model_stop_5 : decode prog_10_method_27_code 5 = .ok (.aload_n 0, 1) := by decide +kernel
theorem d_Model_stop_6 : decode prog_10_method_27_code 6 = .ok (.getfield 71, 3) := by decide +kernel
theorem d_Model_stop_9 : decode prog_10_method_27_code 9 = .ok (.ifCond .eq 5, 3) := by decide +kernel
theorem d_Model_stop_12 : decode prog_10_method_27_code 12 = .ok (.iconst 0, 1) := by decide +kernel
theorem d_Model_stop_13 : decode prog_10_method_27_code 13 = .ok (.ireturn, 1) := by decide +kernel
theorem d_Model_stop_14 : decode prog_10_method_27_code 14 = .ok (.aload_n 0, 1) := by decide +kernel
theorem d_Model_stop_15 : decode prog_10_method_27_code 15 = .ok (.iconst 4, 1) := by decide +kernel
theorem d_Model_stop_16 : decode prog_10_method_27_code 16 = .ok (.invokevirtual 163, 3) := by decide +kernel
theorem d_Model_stop_19 : decode prog_10_method_27_code 19 = .ok (.pop, 1) := by decide +kernel
theorem d_Model_stop_20 : decode prog_10_method_27_code 20 = .ok (.iconst 1, 1) := by decide +kernel
theorem d_Model_stop_21 : decode prog_10_method_27_code 21 = .ok (.ireturn, 1) := by decide +kernel
theorem d_Model_taken_0 : decode prog_10_method_30_code 0 = .ok (.aload_n 0, 1) := by decide +kernel
theorem d_Model_taken_1 : decode prog_10_method_30_code 1 = .ok (.getfield 130, 3) := by decide +kernel
theorem d_Model_taken_4 : decode prog_10_method_30_code 4 = .ok (.aload_n 0, 1) := by decide +kernel
theorem d_Model_taken_5 : decode prog_10_method_30_code 5 = .ok (.getfield 47, 3) := by decide +kernel
theorem d_Model_taken_8 : decode prog_10_method_30_code 8 = .ok (.aload_n 0, 1) := by decide +kernel
theorem d_Model_taken_9 : decode prog_10_method_30_code 9 = .ok (.getfield 127, 3) := by decide +kernel
theorem d_Model_taken_12 : decode prog_10_method_30_code 12 = .ok (.iconst 1, 1) := by decide +kernel
theorem d_Model_taken_13 : decode prog_10_method_30_code 13 = .ok (.isub, 1) := by decide +kernel
theorem d_Model_taken_14 : decode prog_10_method_30_code 14 = .ok (.iaload, 1) := by decide +kernel
theorem d_Model_taken_15 : decode prog_10_method_30_code 15 = .ok (.isub, 1) := by decide +kernel
theorem d_Model_taken_16 : decode prog_10_method_30_code 16 = .ok (.aload_n 0, 1) := by decide +kernel
theorem d_Model_taken_17 : decode prog_10_method_30_code 17 = .ok (.getfield 50, 3) := by decide +kernel
theorem d_Model_taken_20 : decode prog_10_method_30_code 20 = .ok (.aload_n 0, 1) := by decide +kernel
theorem d_Model_taken_21 : decode prog_10_method_30_code 21 = .ok (.getfield 127, 3) := by decide +kernel
theorem d_Model_taken_24 : decode prog_10_method_30_code 24 = .ok (.iconst 1, 1) := by decide +kernel
theorem d_Model_taken_25 : decode prog_10_method_30_code 25 = .ok (.isub, 1) := by decide +kernel
theorem d_Model_taken_26 : decode prog_10_method_30_code 26 = .ok (.iaload, 1) := by decide +kernel
theorem d_Model_taken_27 : decode prog_10_method_30_code 27 = .ok (.isub, 1) := by decide +kernel
theorem d_Model_taken_28 : decode prog_10_method_30_code 28 = .ok (.ireturn, 1) := by decide +kernel
theorem d_Model_thrown_0 : decode prog_10_method_2_code 0 = .ok (.aload_n 0, 1) := by decide +kernel
theorem d_Model_thrown_1 : decode prog_10_method_2_code 1 = .ok (.getfield 75, 3) := by decide +kernel
theorem d_Model_thrown_4 : decode prog_10_method_2_code 4 = .ok (.ireturn, 1) := by decide +kernel
theorem d_Model_toss_0 : decode prog_10_method_44_code 0 = .ok (.aload_n 0, 1) := by decide +kernel
theorem d_Model_toss_1 : decode prog_10_method_44_code 1 = .ok (.getfield 127, 3) := by decide +kernel
theorem d_Model_toss_4 : decode prog_10_method_44_code 4 = .ok (.iconst 1, 1) := by decide +kernel
theorem d_Model_toss_5 : decode prog_10_method_44_code 5 = .ok (.isub, 1) := by decide +kernel
theorem d_Model_toss_6 : decode prog_10_method_44_code 6 = .ok (.istore_n 2, 1) := by decide +kernel
theorem d_Model_toss_7 : decode prog_10_method_44_code 7 = .ok (.iload_n 2, 1) := by decide +kernel
theorem d_Model_toss_8 : decode prog_10_method_44_code 8 = .ok (.ifCond .lt 19, 3) := by decide +kernel
theorem d_Model_toss_11 : decode prog_10_method_44_code 11 = .ok (.aload_n 0, 1) := by decide +kernel
theorem d_Model_toss_12 : decode prog_10_method_44_code 12 = .ok (.iload_n 2, 1) := by decide +kernel
theorem d_Model_toss_13 : decode prog_10_method_44_code 13 = .ok (.iload_n 1, 1) := by decide +kernel
theorem d_Model_toss_14 : decode prog_10_method_44_code 14 = .ok (.invokevirtual 220, 3) := by decide +kernel
theorem d_Model_toss_17 : decode prog_10_method_44_code 17 = .ok (.iconst (-1), 1) := by decide +kernel
theorem d_Model_toss_18 : decode prog_10_method_44_code 18 = .ok (.if_icmp .ne 9, 3) := by decide +kernel
theorem d_Model_toss_21 : decode prog_10_method_44_code 21 = .ok (.iinc 2 (-1), 3) := by decide +kernel
theorem d_Model_toss_24 : decode prog_10_method_44_code 24 = .ok (.goto (-17), 3) := by decide +kernel
theorem d_Model_toss_27 : decode prog_10_method_44_code 27 = .ok (.iload_n 2, 1) := by decide +kernel
theorem d_Model_toss_28 : decode prog_10_method_44_code 28 = .ok (.ifCond .ge 31, 3) := by decide +kernel
theorem d_Model_toss_31 : decode prog_10_method_44_code 31 = .ok (.aload_n 0, 1) := by decide +kernel
theorem d_Model_toss_32 : decode prog_10_method_44_code 32 = .ok (.iconst 0, 1) := by decide +kernel
theorem d_Model_toss_33 : decode prog_10_method_44_code 33 = .ok (.putfield 127, 3) := by decide +kernel
theorem d_Model_toss_36 : decode prog_10_method_44_code 36 = .ok (.aload_n 0, 1) := by decide +kernel
theorem d_Model_toss_37 : decode prog_10_method_44_code 37 = .ok (.iconst 0, 1) := by decide +kernel
theorem d_Model_toss_38 : decode prog_10_method_44_code 38 = .ok (.putfield 130, 3) := by decide +kernel
theorem d_Model_toss_41 : decode prog_10_method_44_code 41 = .ok (.aload_n 0, 1) := by decide +kernel
theorem d_Model_toss_42 : decode prog_10_method_44_code 42 = .ok (.iconst 3, 1) := by decide +kernel
theorem d_Model_toss_43 : decode prog_10_method_44_code 43 = .ok (.putfield 147, 3) := by decide +kernel
theorem d_Model_toss_46 : decode prog_10_method_44_code 46 = .ok (.aload_n 0, 1) := by decide +kernel
theorem d_Model_toss_47 : decode prog_10_method_44_code 47 = .ok (.iload_n 1, 1) := by decide +kernel
theorem d_Model_toss_48 : decode prog_10_method_44_code 48 = .ok (.putfield 150, 3) := by decide +kernel
theorem d_Model_toss_51 : decode prog_10_method_44_code 51 = .ok (.aload_n 0, 1) := by decide +kernel
theorem d_Model_toss_52 : decode prog_10_method_44_code 52 = .ok (.iconst 2, 1) := by decide +kernel
theorem d_Model_toss_53 : decode prog_10_method_44_code 53 = .ok (.invokevirtual 163, 3) := by decide +kernel
theorem d_Model_toss_56 : decode prog_10_method_44_code 56 = .ok (.pop, 1) := by decide +kernel
theorem d_Model_toss_57 : decode prog_10_method_44_code 57 = .ok (.iconst 1, 1) := by decide +kernel
theorem d_Model_toss_58 : decode prog_10_method_44_code 58 = .ok (.ireturn, 1) := by decide +kernel
theorem d_Model_toss_59 : decode prog_10_method_44_code 59 = .ok (.aload_n 0, 1) := by decide +kernel
theorem d_Model_toss_60 : decode prog_10_method_44_code 60 = .ok (.getfield 47, 3) := by decide +kernel
theorem d_Model_toss_63 : decode prog_10_method_44_code 63 = .ok (.iload_n 2, 1) := by decide +kernel
theorem d_Model_toss_64 : decode prog_10_method_44_code 64 = .ok (.iaload, 1) := by decide +kernel
theorem d_Model_toss_65 : decode prog_10_method_44_code 65 = .ok (.aload_n 0, 1) := by decide +kernel
theorem d_Model_toss_66 : decode prog_10_method_44_code 66 = .ok (.getfield 50, 3) := by decide +kernel
theorem d_Model_toss_69 : decode prog_10_method_44_code 69 = .ok (.iload_n 2, 1) := by decide +kernel
theorem d_Model_toss_70 : decode prog_10_method_44_code 70 = .ok (.iaload, 1) := by decide +kernel
theorem d_Model_toss_71 : decode prog_10_method_44_code 71 = .ok (.iadd, 1) := by decide +kernel
theorem d_Model_toss_72 : decode prog_10_method_44_code 72 = .ok (.istore_n 3, 1) := by decide +kernel
theorem d_Model_toss_73 : decode prog_10_method_44_code 73 = .ok (.iload_n 3, 1) := by decide +kernel
theorem d_Model_toss_74 : decode prog_10_method_44_code 74 = .ok (.bipush 40, 2) := by decide +kernel
theorem d_Model_toss_76 : decode prog_10_method_44_code 76 = .ok (.if_icmp .ne 5, 3) := by decide +kernel
theorem d_Model_toss_81 : decode prog_10_method_44_code 81 = .ok (.aload_n 0, 1) := by decide +kernel
theorem d_Model_toss_82 : decode prog_10_method_44_code 82 = .ok (.getfield 59, 3) := by decide +kernel
theorem d_Model_toss_85 : decode prog_10_method_44_code 85 = .ok (.iload_n 2, 1) := by decide +kernel
theorem d_Model_toss_86 : decode prog_10_method_44_code 86 = .ok (.aload_n 0, 1) := by decide +kernel
theorem d_Model_toss_87 : decode prog_10_method_44_code 87 = .ok (.getfield 38, 3) := by decide +kernel
theorem d_Model_toss_90 : decode prog_10_method_44_code 90 = .ok (.iload_n 2, 1) := by decide +kernel
theorem d_Model_toss_91 : decode prog_10_method_44_code 91 = .ok (.iaload, 1) := by decide +kernel
theorem d_Model_toss_92 : decode prog_10_method_44_code 92 = .ok (.aload_n 0, 1) := by decide +kernel
theorem d_Model_toss_93 : decode prog_10_method_44_code 93 = .ok (.getfield 7, 3) := by decide +kernel
theorem d_Model_toss_96 : decode prog_10_method_44_code 96 = .ok (.aload_n 0, 1) := by decide +kernel
theorem d_Model_toss_97 : decode prog_10_method_44_code 97 = .ok (.iload_n 2, 1) := by decide +kernel
theorem d_Model_toss_98 : decode prog_10_method_44_code 98 = .ok (.iload_n 1, 1) := by decide +kernel
theorem d_Model_toss_99 : decode prog_10_method_44_code 99 = .ok (.invokevirtual 220, 3) := by decide +kernel
theorem d_Model_toss_102 : decode prog_10_method_44_code 102 = .ok (.iconst 3, 1) := by decide +kernel
theorem d_Model_toss_103 : decode prog_10_method_44_code 103 = .ok (.iadd, 1) := by decide +kernel
theorem d_Model_toss_104 : decode prog_10_method_44_code 104 = .ok (.iaload, 1) := by decide +kernel
theorem d_Model_toss_105 : decode prog_10_method_44_code 105 = .ok (.iadd, 1) := by decide +kernel
theorem d_Model_toss_106 : decode prog_10_method_44_code 106 = .ok (.iastore, 1) := by decide +kernel
theorem d_Model_toss_107 : decode prog_10_method_44_code 107 = .ok (.aload_n 0, 1) := by decide +kernel
theorem d_Model_toss_108 : decode prog_10_method_44_code 108 = .ok (.iload_n 2, 1) := by decide +kernel
theorem d_Model_toss_109 : decode prog_10_method_44_code 109 = .ok (.iconst 1, 1) := by decide +kernel
theorem d_Model_toss_110 : decode prog_10_method_44_code 110 = .ok (.iadd, 1) := by decide +kernel
theorem d_Model_toss_111 : decode prog_10_method_44_code 111 = .ok (.putfield 127, 3) := by decide +kernel
theorem d_Model_toss_114 : decode prog_10_method_44_code 114 = .ok (.aload_n 0, 1) := by decide +kernel
theorem d_Model_toss_115 : decode prog_10_method_44_code 115 = .ok (.iload_n 3, 1) := by decide +kernel
theorem d_Model_toss_116 : decode prog_10_method_44_code 116 = .ok (.putfield 130, 3) := by decide +kernel
theorem d_Model_toss_119 : decode prog_10_method_44_code 119 = .ok (.aload_n 0, 1) := by decide +kernel
theorem d_Model_toss_120 : decode prog_10_method_44_code 120 = .ok (.iconst 3, 1) := by decide +kernel
theorem d_Model_toss_121 : decode prog_10_method_44_code 121 = .ok (.iload_n 1, 1) := by decide +kernel
theorem d_Model_toss_122 : decode prog_10_method_44_code 122 = .ok (.invokevirtual 133, 3) := by decide +kernel
theorem d_Model_toss_125 : decode prog_10_method_44_code 125 = .ok (.iconst 1, 1) := by decide +kernel
theorem d_Model_toss_126 : decode prog_10_method_44_code 126 = .ok (.ireturn, 1) := by decide +kernel
theorem d_Model_truth_0 : decode prog_10_method_29_code 0 = .ok (.aload_n 0, 1) := by decide +kernel
theorem d_Model_truth_1 : decode prog_10_method_29_code 1 = .ok (.iload_n 1, 1) := by decide +kernel
theorem d_Model_truth_2 : decode prog_10_method_29_code 2 = .ok (.ifCond .eq 7, 3) := by decide +kernel
theorem d_Model_truth_5 : decode prog_10_method_29_code 5 = .ok (.iconst 1, 1) := by decide +kernel
theorem d_Model_truth_6 : decode prog_10_method_29_code 6 = .ok (.goto 4, 3) := by decide +kernel
theorem d_Model_truth_9 : decode prog_10_method_29_code 9 = .ok (.iconst 0, 1) := by decide +kernel
theorem d_Model_truth_10 : decode prog_10_method_29_code 10 = .ok (.iconst 0, 1) := by decide +kernel
theorem d_Model_truth_11 : decode prog_10_method_29_code 11 = .ok (.invokevirtual 133, 3) := by decide +kernel
theorem d_Model_truth_14 : decode prog_10_method_29_code 14 = .ok (.iconst 1, 1) := by decide +kernel
theorem d_Model_truth_15 : decode prog_10_method_29_code 15 = .ok (.ireturn, 1) := by decide +kernel
theorem d_Model_two_0 : decode prog_10_method_21_code 0 = .ok (.sipush 256, 3) := by decide +kernel
theorem d_Model_two_3 : decode prog_10_method_21_code 3 = .ok (.aload_n 0, 1) := by decide +kernel
theorem d_Model_two_4 : decode prog_10_method_21_code 4 = .ok (.iload_n 1, 1) := by decide +kernel
theorem d_Model_two_5 : decode prog_10_method_21_code 5 = .ok (.invokevirtual 124, 3) := by decide +kernel
theorem d_Model_two_8 : decode prog_10_method_21_code 8 = .ok (.imul, 1) := by decide +kernel
theorem d_Model_two_9 : decode prog_10_method_21_code 9 = .ok (.aload_n 0, 1) := by decide +kernel
theorem d_Model_two_10 : decode prog_10_method_21_code 10 = .ok (.iload_n 1, 1) := by decide +kernel
theorem d_Model_two_11 : decode prog_10_method_21_code 11 = .ok (.iconst 1, 1) := by decide +kernel
theorem d_Model_two_12 : decode prog_10_method_21_code 12 = .ok (.iadd, 1) := by decide +kernel
theorem d_Model_two_13 : decode prog_10_method_21_code 13 = .ok (.invokevirtual 124, 3) := by decide +kernel
theorem d_Model_two_16 : decode prog_10_method_21_code 16 = .ok (.iadd, 1) := by decide +kernel
theorem d_Model_two_17 : decode prog_10_method_21_code 17 = .ok (.ireturn, 1) := by decide +kernel
theorem d_Model_world_0 : decode prog_10_method_45_code 0 = .ok (.aload_n 0, 1) := by decide +kernel
theorem d_Model_world_1 : decode prog_10_method_45_code 1 = .ok (.getfield 130, 3) := by decide +kernel
theorem d_Model_world_4 : decode prog_10_method_45_code 4 = .ok (.iconst 1, 1) := by decide +kernel
theorem d_Model_world_5 : decode prog_10_method_45_code 5 = .ok (.isub, 1) := by decide +kernel
theorem d_Model_world_6 : decode prog_10_method_45_code 6 = .ok (.istore_n 3, 1) := by decide +kernel
theorem d_Model_world_7 : decode prog_10_method_45_code 7 = .ok (.iload_n 1, 1) := by decide +kernel
theorem d_Model_world_8 : decode prog_10_method_45_code 8 = .ok (.bipush 29, 2) := by decide +kernel
theorem d_Model_world_10 : decode prog_10_method_45_code 10 = .ok (.if_icmp .eq 9, 3) := by decide +kernel
theorem d_Model_world_13 : decode prog_10_method_45_code 13 = .ok (.iload_n 1, 1) := by decide +kernel
theorem d_Model_world_14 : decode prog_10_method_45_code 14 = .ok (.bipush 30, 2) := by decide +kernel
theorem d_Model_world_16 : decode prog_10_method_45_code 16 = .ok (.if_icmp .ne 7, 3) := by decide +kernel
theorem d_Model_world_19 : decode prog_10_method_45_code 19 = .ok (.iconst 1, 1) := by decide +kernel
theorem d_Model_world_20 : decode prog_10_method_45_code 20 = .ok (.goto 4, 3) := by decide +kernel
theorem d_Model_world_23 : decode prog_10_method_45_code 23 = .ok (.iconst 0, 1) := by decide +kernel
theorem d_Model_world_24 : decode prog_10_method_45_code 24 = .ok (.istore 4, 2) := by decide +kernel
theorem d_Model_world_26 : decode prog_10_method_45_code 26 = .ok (.iload_n 1, 1) := by decide +kernel
theorem d_Model_world_27 : decode prog_10_method_45_code 27 = .ok (.bipush 28, 2) := by decide +kernel
theorem d_Model_world_29 : decode prog_10_method_45_code 29 = .ok (.if_icmp .eq 15, 3) := by decide +kernel
theorem d_Model_world_32 : decode prog_10_method_45_code 32 = .ok (.iload_n 1, 1) := by decide +kernel
theorem d_Model_world_33 : decode prog_10_method_45_code 33 = .ok (.bipush 32, 2) := by decide +kernel
theorem d_Model_world_35 : decode prog_10_method_45_code 35 = .ok (.if_icmp .eq 9, 3) := by decide +kernel
theorem d_Model_world_38 : decode prog_10_method_45_code 38 = .ok (.iload_n 1, 1) := by decide +kernel
theorem d_Model_world_39 : decode prog_10_method_45_code 39 = .ok (.bipush 34, 2) := by decide +kernel
theorem d_Model_world_41 : decode prog_10_method_45_code 41 = .ok (.if_icmp .ne 7, 3) := by decide +kernel
theorem d_Model_world_44 : decode prog_10_method_45_code 44 = .ok (.iconst 1, 1) := by decide +kernel
theorem d_Model_world_45 : decode prog_10_method_45_code 45 = .ok (.goto 4, 3) := by decide +kernel
theorem d_Model_world_48 : decode prog_10_method_45_code 48 = .ok (.iconst 0, 1) := by decide +kernel
theorem d_Model_world_49 : decode prog_10_method_45_code 49 = .ok (.istore 5, 2) := by decide +kernel
theorem d_Model_world_51 : decode prog_10_method_45_code 51 = .ok (.iload 4, 2) := by decide +kernel
theorem d_Model_world_53 : decode prog_10_method_45_code 53 = .ok (.ifCond .eq 11, 3) := by decide +kernel
theorem d_Model_world_56 : decode prog_10_method_45_code 56 = .ok (.aload_n 0, 1) := by decide +kernel
theorem d_Model_world_57 : decode prog_10_method_45_code 57 = .ok (.invokevirtual 181, 3) := by decide +kernel
theorem d_Model_world_60 : decode prog_10_method_45_code 60 = .ok (.iconst 1, 1) := by decide +kernel
theorem d_Model_world_61 : decode prog_10_method_45_code 61 = .ok (.if_icmp .lt 65, 3) := by decide +kernel
theorem d_Model_world_64 : decode prog_10_method_45_code 64 = .ok (.iload 5, 2) := by decide +kernel
theorem d_Model_world_66 : decode prog_10_method_45_code 66 = .ok (.ifCond .eq 12, 3) := by decide +kernel
theorem d_Model_world_69 : decode prog_10_method_45_code 69 = .ok (.aload_n 0, 1) := by decide +kernel
theorem d_Model_world_70 : decode prog_10_method_45_code 70 = .ok (.getfield 130, 3) := by decide +kernel
theorem d_Model_world_73 : decode prog_10_method_45_code 73 = .ok (.bipush 40, 2) := by decide +kernel
theorem d_Model_world_75 : decode prog_10_method_45_code 75 = .ok (.if_icmp .eq 51, 3) := by decide +kernel
theorem d_Model_world_78 : decode prog_10_method_45_code 78 = .ok (.iload_n 1, 1) := by decide +kernel
theorem d_Model_world_79 : decode prog_10_method_45_code 79 = .ok (.bipush 30, 2) := by decide +kernel
theorem d_Model_world_81 : decode prog_10_method_45_code 81 = .ok (.if_icmp .ge 15, 3) := by decide +kernel
theorem d_Model_world_84 : decode prog_10_method_45_code 84 = .ok (.aload_n 0, 1) := by decide +kernel
theorem d_Model_world_85 : decode prog_10_method_45_code 85 = .ok (.aload_n 0, 1) := by decide +kernel
theorem d_Model_world_86 : decode prog_10_method_45_code 86 = .ok (.iload_n 2, 1) := by decide +kernel
theorem d_Model_world_87 : decode prog_10_method_45_code 87 = .ok (.invokevirtual 124, 3) := by decide +kernel
theorem d_Model_world_90 : decode prog_10_method_45_code 90 = .ok (.invokevirtual 107, 3) := by decide +kernel
theorem d_Model_world_93 : decode prog_10_method_45_code 93 = .ok (.ifCond .eq 33, 3) := by decide +kernel
theorem d_Model_world_96 : decode prog_10_method_45_code 96 = .ok (.iload_n 1, 1) := by decide +kernel
theorem d_Model_world_97 : decode prog_10_method_45_code 97 = .ok (.bipush 30, 2) := by decide +kernel
theorem d_Model_world_99 : decode prog_10_method_45_code 99 = .ok (.if_icmp .ne 12, 3) := by decide +kernel
theorem d_Model_world_102 : decode prog_10_method_45_code 102 = .ok (.aload_n 0, 1) := by decide +kernel
theorem d_Model_world_103 : decode prog_10_method_45_code 103 = .ok (.getfield 144, 3) := by decide +kernel
theorem d_Model_world_106 : decode prog_10_method_45_code 106 = .ok (.bipush 50, 2) := by decide +kernel
theorem d_Model_world_108 : decode prog_10_method_45_code 108 = .ok (.if_icmp .eq 18, 3) := by decide +kernel
theorem d_Model_world_111 : decode prog_10_method_45_code 111 = .ok (.iload_n 1, 1) := by decide +kernel
theorem d_Model_world_112 : decode prog_10_method_45_code 112 = .ok (.bipush 32, 2) := by decide +kernel
theorem d_Model_world_114 : decode prog_10_method_45_code 114 = .ok (.if_icmp .le 14, 3) := by decide +kernel
theorem d_Model_world_117 : decode prog_10_method_45_code 117 = .ok (.aload_n 0, 1) := by decide +kernel
theorem d_Model_world_118 : decode prog_10_method_45_code 118 = .ok (.iload_n 2, 1) := by decide +kernel
theorem d_Model_world_119 : decode prog_10_method_45_code 119 = .ok (.invokevirtual 124, 3) := by decide +kernel
theorem d_Model_world_122 : decode prog_10_method_45_code 122 = .ok (.iconst 1, 1) := by decide +kernel
theorem d_Model_world_123 : decode prog_10_method_45_code 123 = .ok (.if_icmp .le 5, 3) := by decide +kernel
theorem d_Model_world_126 : decode prog_10_method_45_code 126 = .ok (.iconst 0, 1) := by decide +kernel
theorem d_Model_world_127 : decode prog_10_method_45_code 127 = .ok (.ireturn, 1) := by decide +kernel
theorem d_Model_world_128 : decode prog_10_method_45_code 128 = .ok (.iload_n 1, 1) := by decide +kernel
theorem d_Model_world_129 : decode prog_10_method_45_code 129 = .ok (.tableswitch 258 28 33 #[39, 49, 99, 151, 156, 233], 39) := by decide +kernel
theorem d_Model_world_168 : decode prog_10_method_45_code 168 = .ok (.aload_n 0, 1) := by decide +kernel
theorem d_Model_world_169 : decode prog_10_method_45_code 169 = .ok (.aload_n 0, 1) := by decide +kernel
theorem d_Model_world_170 : decode prog_10_method_45_code 170 = .ok (.iload_n 2, 1) := by decide +kernel
theorem d_Model_world_171 : decode prog_10_method_45_code 171 = .ok (.invokevirtual 124, 3) := by decide +kernel
theorem d_Model_world_174 : decode prog_10_method_45_code 174 = .ok (.invokevirtual 223, 3) := by decide +kernel
theorem d_Model_world_177 : decode prog_10_method_45_code 177 = .ok (.ireturn, 1) := by decide +kernel
theorem d_Model_world_178 : decode prog_10_method_45_code 178 = .ok (.aload_n 0, 1) := by decide +kernel
theorem d_Model_world_179 : decode prog_10_method_45_code 179 = .ok (.iload_n 3, 1) := by decide +kernel
theorem d_Model_world_180 : decode prog_10_method_45_code 180 = .ok (.invokevirtual 201, 3) := by decide +kernel
theorem d_Model_world_183 : decode prog_10_method_45_code 183 = .ok (.ifCond .eq 25, 3) := by decide +kernel
theorem d_Model_world_186 : decode prog_10_method_45_code 186 = .ok (.aload_n 0, 1) := by decide +kernel
theorem d_Model_world_187 : decode prog_10_method_45_code 187 = .ok (.aload_n 0, 1) := by decide +kernel
theorem d_Model_world_188 : decode prog_10_method_45_code 188 = .ok (.getfield 35, 3) := by decide +kernel
theorem d_Model_world_191 : decode prog_10_method_45_code 191 = .ok (.iload_n 3, 1) := by decide +kernel
theorem d_Model_world_192 : decode prog_10_method_45_code 192 = .ok (.iaload, 1) := by decide +kernel
theorem d_Model_world_193 : decode prog_10_method_45_code 193 = .ok (.aload_n 0, 1) := by decide +kernel
theorem d_Model_world_194 : decode prog_10_method_45_code 194 = .ok (.iload_n 2, 1) := by decide +kernel
theorem d_Model_world_195 : decode prog_10_method_45_code 195 = .ok (.invokevirtual 124, 3) := by decide +kernel
theorem d_Model_world_198 : decode prog_10_method_45_code 198 = .ok (.invokevirtual 217, 3) := by decide +kernel
theorem d_Model_world_201 : decode prog_10_method_45_code 201 = .ok (.ifCond .eq 7, 3) := by decide +kernel
theorem d_Model_world_204 : decode prog_10_method_45_code 204 = .ok (.iconst 1, 1) := by decide +kernel
theorem d_Model_world_205 : decode prog_10_method_45_code 205 = .ok (.goto 4, 3) := by decide +kernel
theorem d_Model_world_208 : decode prog_10_method_45_code 208 = .ok (.iconst 0, 1) := by decide +kernel
theorem d_Model_world_209 : decode prog_10_method_45_code 209 = .ok (.istore 6, 2) := by decide +kernel
theorem d_Model_world_211 : decode prog_10_method_45_code 211 = .ok (.aload_n 0, 1) := by decide +kernel
theorem d_Model_world_212 : decode prog_10_method_45_code 212 = .ok (.dup, 1) := by decide +kernel
theorem d_Model_world_213 : decode prog_10_method_45_code 213 = .ok (.getfield 130, 3) := by decide +kernel
theorem d_Model_world_216 : decode prog_10_method_45_code 216 = .ok (.iconst 1, 1) := by decide +kernel
theorem d_Model_world_217 : decode prog_10_method_45_code 217 = .ok (.isub, 1) := by decide +kernel
theorem d_Model_world_218 : decode prog_10_method_45_code 218 = .ok (.putfield 130, 3) := by decide +kernel
theorem d_Model_world_221 : decode prog_10_method_45_code 221 = .ok (.aload_n 0, 1) := by decide +kernel
theorem d_Model_world_222 : decode prog_10_method_45_code 222 = .ok (.iload 6, 2) := by decide +kernel
theorem d_Model_world_224 : decode prog_10_method_45_code 224 = .ok (.invokevirtual 194, 3) := by decide +kernel
theorem d_Model_world_227 : decode prog_10_method_45_code 227 = .ok (.ireturn, 1) := by decide +kernel
theorem d_Model_world_228 : decode prog_10_method_45_code 228 = .ok (.aload_n 0, 1) := by decide +kernel
theorem d_Model_world_229 : decode prog_10_method_45_code 229 = .ok (.getfield 65, 3) := by decide +kernel
theorem d_Model_world_232 : decode prog_10_method_45_code 232 = .ok (.aload_n 0, 1) := by decide +kernel
theorem d_Model_world_233 : decode prog_10_method_45_code 233 = .ok (.getfield 144, 3) := by decide +kernel
theorem d_Model_world_236 : decode prog_10_method_45_code 236 = .ok (.aload_n 0, 1) := by decide +kernel
theorem d_Model_world_237 : decode prog_10_method_45_code 237 = .ok (.getfield 32, 3) := by decide +kernel
theorem d_Model_world_240 : decode prog_10_method_45_code 240 = .ok (.iload_n 3, 1) := by decide +kernel
theorem d_Model_world_241 : decode prog_10_method_45_code 241 = .ok (.iaload, 1) := by decide +kernel
theorem d_Model_world_242 : decode prog_10_method_45_code 242 = .ok (.iastore, 1) := by decide +kernel
theorem d_Model_world_243 : decode prog_10_method_45_code 243 = .ok (.aload_n 0, 1) := by decide +kernel
theorem d_Model_world_244 : decode prog_10_method_45_code 244 = .ok (.getfield 68, 3) := by decide +kernel
theorem d_Model_world_247 : decode prog_10_method_45_code 247 = .ok (.aload_n 0, 1) := by decide +kernel
