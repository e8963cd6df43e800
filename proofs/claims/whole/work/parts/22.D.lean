theorem d_D_run_0 : decode b_D_run 0 = .ok (.aload_n 0, 1) := by decide +kernel
theorem d_D_run_1 : decode b_D_run 1 = .ok (.iconst 0, 1) := by decide +kernel
theorem d_D_run_2 : decode b_D_run 2 = .ok (.putfield 49, 3) := by decide +kernel
theorem d_D_run_5 : decode b_D_run 5 = .ok (.iconst 0, 1) := by decide +kernel
theorem d_D_run_6 : decode b_D_run 6 = .ok (.istore_n 1, 1) := by decide +kernel
theorem d_D_run_7 : decode b_D_run 7 = .ok (.iload_n 1, 1) := by decide +kernel
theorem d_D_run_8 : decode b_D_run 8 = .ok (.bipush 10, 2) := by decide +kernel
theorem d_D_run_10 : decode b_D_run 10 = .ok (.if_icmp .ge 16, 3) := by decide +kernel
theorem d_D_run_13 : decode b_D_run 13 = .ok (.aload_n 0, 1) := by decide +kernel
theorem d_D_run_14 : decode b_D_run 14 = .ok (.getfield 42, 3) := by decide +kernel
theorem d_D_run_17 : decode b_D_run 17 = .ok (.iload_n 1, 1) := by decide +kernel
theorem d_D_run_18 : decode b_D_run 18 = .ok (.iconst 0, 1) := by decide +kernel
theorem d_D_run_19 : decode b_D_run 19 = .ok (.iastore, 1) := by decide +kernel
theorem d_D_run_20 : decode b_D_run 20 = .ok (.iinc 1 1, 3) := by decide +kernel
theorem d_D_run_23 : decode b_D_run 23 = .ok (.goto (-16), 3) := by decide +kernel
theorem d_D_run_26 : decode b_D_run 26 = .ok (.iconst 0, 1) := by decide +kernel
theorem d_D_run_27 : decode b_D_run 27 = .ok (.istore_n 1, 1) := by decide +kernel
theorem d_D_run_28 : decode b_D_run 28 = .ok (.iload_n 1, 1) := by decide +kernel
theorem d_D_run_29 : decode b_D_run 29 = .ok (.bipush 10, 2) := by decide +kernel
theorem d_D_run_31 : decode b_D_run 31 = .ok (.if_icmp .ge 16, 3) := by decide +kernel
theorem d_D_run_34 : decode b_D_run 34 = .ok (.aload_n 0, 1) := by decide +kernel
theorem d_D_run_35 : decode b_D_run 35 = .ok (.getfield 39, 3) := by decide +kernel
theorem d_D_run_38 : decode b_D_run 38 = .ok (.iload_n 1, 1) := by decide +kernel
theorem d_D_run_39 : decode b_D_run 39 = .ok (.iconst 0, 1) := by decide +kernel
theorem d_D_run_40 : decode b_D_run 40 = .ok (.iastore, 1) := by decide +kernel
theorem d_D_run_41 : decode b_D_run 41 = .ok (.iinc 1 1, 3) := by decide +kernel
theorem d_D_run_44 : decode b_D_run 44 = .ok (.goto (-16), 3) := by decide +kernel
theorem d_D_run_47 : decode b_D_run 47 = .ok (.aload_n 0, 1) := by decide +kernel
theorem d_D_run_48 : decode b_D_run 48 = .ok (.iconst (-1), 1) := by decide +kernel
theorem d_D_run_49 : decode b_D_run 49 = .ok (.invokevirtual 111, 3) := by decide +kernel
theorem d_D_run_52 : decode b_D_run 52 = .ok (.aload_n 0, 1) := by decide +kernel
theorem d_D_run_53 : decode b_D_run 53 = .ok (.getfield 45, 3) := by decide +kernel
theorem d_D_run_56 : decode b_D_run 56 = .ok (.iconst 0, 1) := by decide +kernel
theorem d_D_run_57 : decode b_D_run 57 = .ok (.laload, 1) := by decide +kernel
theorem d_D_run_58 : decode b_D_run 58 = .ok (.ldc2_w 109, 3) := by decide +kernel
theorem d_D_run_61 : decode b_D_run 61 = .ok (.ldiv, 1) := by decide +kernel
theorem d_D_run_62 : decode b_D_run 62 = .ok (.l2i, 1) := by decide +kernel
theorem d_D_run_63 : decode b_D_run 63 = .ok (.istore_n 1, 1) := by decide +kernel
theorem d_D_run_64 : decode b_D_run 64 = .ok (.iconst 0, 1) := by decide +kernel
theorem d_D_run_65 : decode b_D_run 65 = .ok (.istore_n 2, 1) := by decide +kernel
theorem d_D_run_66 : decode b_D_run 66 = .ok (.iload_n 2, 1) := by decide +kernel
theorem d_D_run_67 : decode b_D_run 67 = .ok (.aload_n 0, 1) := by decide +kernel
theorem d_D_run_68 : decode b_D_run 68 = .ok (.getfield 59, 3) := by decide +kernel
theorem d_D_run_71 : decode b_D_run 71 = .ok (.if_icmp .ge 33, 3) := by decide +kernel
theorem d_D_run_74 : decode b_D_run 74 = .ok (.aload_n 0, 1) := by decide +kernel
theorem d_D_run_75 : decode b_D_run 75 = .ok (.iload_n 2, 1) := by decide +kernel
theorem d_D_run_76 : decode b_D_run 76 = .ok (.invokevirtual 111, 3) := by decide +kernel
theorem d_D_run_79 : decode b_D_run 79 = .ok (.aload_n 0, 1) := by decide +kernel
theorem d_D_run_80 : decode b_D_run 80 = .ok (.getfield 42, 3) := by decide +kernel
theorem d_D_run_83 : decode b_D_run 83 = .ok (.iload_n 2, 1) := by decide +kernel
theorem d_D_run_84 : decode b_D_run 84 = .ok (.iload_n 1, 1) := by decide +kernel
theorem d_D_run_85 : decode b_D_run 85 = .ok (.aload_n 0, 1) := by decide +kernel
theorem d_D_run_86 : decode b_D_run 86 = .ok (.getfield 45, 3) := by decide +kernel
theorem d_D_run_89 : decode b_D_run 89 = .ok (.iconst 0, 1) := by decide +kernel
theorem d_D_run_90 : decode b_D_run 90 = .ok (.laload, 1) := by decide +kernel
theorem d_D_run_91 : decode b_D_run 91 = .ok (.ldc2_w 109, 3) := by decide +kernel
theorem d_D_run_94 : decode b_D_run 94 = .ok (.ldiv, 1) := by decide +kernel
theorem d_D_run_95 : decode b_D_run 95 = .ok (.l2i, 1) := by decide +kernel
theorem d_D_run_96 : decode b_D_run 96 = .ok (.isub, 1) := by decide +kernel
theorem d_D_run_97 : decode b_D_run 97 = .ok (.iastore, 1) := by decide +kernel
theorem d_D_run_98 : decode b_D_run 98 = .ok (.iinc 2 1, 3) := by decide +kernel
theorem d_D_run_101 : decode b_D_run 101 = .ok (.goto (-35), 3) := by decide +kernel
theorem d_D_run_104 : decode b_D_run 104 = .ok (.aload_n 0, 1) := by decide +kernel
theorem d_D_run_105 : decode b_D_run 105 = .ok (.iconst (-1), 1) := by decide +kernel
theorem d_D_run_106 : decode b_D_run 106 = .ok (.invokevirtual 111, 3) := by decide +kernel
theorem d_D_run_109 : decode b_D_run 109 = .ok (.aload_n 0, 1) := by decide +kernel
theorem d_D_run_110 : decode b_D_run 110 = .ok (.iload_n 1, 1) := by decide +kernel
theorem d_D_run_111 : decode b_D_run 111 = .ok (.putfield 115, 3) := by decide +kernel
theorem d_D_run_114 : decode b_D_run 114 = .ok (.aload_n 0, 1) := by decide +kernel
theorem d_D_run_115 : decode b_D_run 115 = .ok (.iconst 1, 1) := by decide +kernel
theorem d_D_run_116 : decode b_D_run 116 = .ok (.putfield 73, 3) := by decide +kernel
theorem d_D_run_119 : decode b_D_run 119 = .ok (.iconst 0, 1) := by decide +kernel
theorem d_D_run_120 : decode b_D_run 120 = .ok (.istore_n 2, 1) := by decide +kernel
theorem d_D_run_121 : decode b_D_run 121 = .ok (.iconst 0, 1) := by decide +kernel
theorem d_D_run_122 : decode b_D_run 122 = .ok (.istore_n 3, 1) := by decide +kernel
theorem d_D_run_123 : decode b_D_run 123 = .ok (.iconst 0, 1) := by decide +kernel
theorem d_D_run_124 : decode b_D_run 124 = .ok (.istore 4, 2) := by decide +kernel
theorem d_D_run_126 : decode b_D_run 126 = .ok (.iload 4, 2) := by decide +kernel
theorem d_D_run_128 : decode b_D_run 128 = .ok (.aload_n 0, 1) := by decide +kernel
theorem d_D_run_129 : decode b_D_run 129 = .ok (.getfield 52, 3) := by decide +kernel
theorem d_D_run_132 : decode b_D_run 132 = .ok (.if_icmp .ge 178, 3) := by decide +kernel
theorem d_D_run_135 : decode b_D_run 135 = .ok (.iconst (-1), 1) := by decide +kernel
theorem d_D_run_136 : decode b_D_run 136 = .ok (.istore 5, 2) := by decide +kernel
theorem d_D_run_138 : decode b_D_run 138 = .ok (.aload_n 0, 1) := by decide +kernel
theorem d_D_run_139 : decode b_D_run 139 = .ok (.getfield 59, 3) := by decide +kernel
theorem d_D_run_142 : decode b_D_run 142 = .ok (.iconst 1, 1) := by decide +kernel
theorem d_D_run_143 : decode b_D_run 143 = .ok (.isub, 1) := by decide +kernel
theorem d_D_run_144 : decode b_D_run 144 = .ok (.istore 6, 2) := by decide +kernel
theorem d_D_run_146 : decode b_D_run 146 = .ok (.iload 6, 2) := by decide +kernel
theorem d_D_run_148 : decode b_D_run 148 = .ok (.ifCond .lt 90, 3) := by decide +kernel
theorem d_D_run_151 : decode b_D_run 151 = .ok (.iload_n 2, 1) := by decide +kernel
theorem d_D_run_152 : decode b_D_run 152 = .ok (.iload 6, 2) := by decide +kernel
theorem d_D_run_154 : decode b_D_run 154 = .ok (.ishr, 1) := by decide +kernel
theorem d_D_run_155 : decode b_D_run 155 = .ok (.iconst 1, 1) := by decide +kernel
theorem d_D_run_156 : decode b_D_run 156 = .ok (.iand, 1) := by decide +kernel
theorem d_D_run_157 : decode b_D_run 157 = .ok (.iconst 1, 1) := by decide +kernel
theorem d_D_run_158 : decode b_D_run 158 = .ok (.if_icmp .eq 74, 3) := by decide +kernel
theorem d_D_run_161 : decode b_D_run 161 = .ok (.aload_n 0, 1) := by decide +kernel
theorem d_D_run_162 : decode b_D_run 162 = .ok (.iload 4, 2) := by decide +kernel
theorem d_D_run_164 : decode b_D_run 164 = .ok (.iload 6, 2) := by decide +kernel
theorem d_D_run_166 : decode b_D_run 166 = .ok (.invokevirtual 106, 3) := by decide +kernel
theorem d_D_run_169 : decode b_D_run 169 = .ok (.ifCond .ne 6, 3) := by decide +kernel
theorem d_D_run_172 : decode b_D_run 172 = .ok (.goto 60, 3) := by decide +kernel
theorem d_D_run_175 : decode b_D_run 175 = .ok (.aload_n 0, 1) := by decide +kernel
theorem d_D_run_176 : decode b_D_run 176 = .ok (.getfield 45, 3) := by decide +kernel
theorem d_D_run_179 : decode b_D_run 179 = .ok (.sipush 1024, 3) := by decide +kernel
theorem d_D_run_182 : decode b_D_run 182 = .ok (.iload 4, 2) := by decide +kernel
theorem d_D_run_184 : decode b_D_run 184 = .ok (.iconst 1, 1) := by decide +kernel
theorem d_D_run_185 : decode b_D_run 185 = .ok (.iadd, 1) := by decide +kernel
theorem d_D_run_186 : decode b_D_run 186 = .ok (.imul, 1) := by decide +kernel
theorem d_D_run_187 : decode b_D_run 187 = .ok (.iload_n 2, 1) := by decide +kernel
theorem d_D_run_188 : decode b_D_run 188 = .ok (.iconst 1, 1) := by decide +kernel
theorem d_D_run_189 : decode b_D_run 189 = .ok (.iload 6, 2) := by decide +kernel
theorem d_D_run_191 : decode b_D_run 191 = .ok (.ishl, 1) := by decide +kernel
theorem d_D_run_192 : decode b_D_run 192 = .ok (.ior, 1) := by decide +kernel
theorem d_D_run_193 : decode b_D_run 193 = .ok (.iadd, 1) := by decide +kernel
theorem d_D_run_194 : decode b_D_run 194 = .ok (.laload, 1) := by decide +kernel
theorem d_D_run_195 : decode b_D_run 195 = .ok (.ldc2_w 109, 3) := by decide +kernel
theorem d_D_run_198 : decode b_D_run 198 = .ok (.aload_n 0, 1) := by decide +kernel
theorem d_D_run_199 : decode b_D_run 199 = .ok (.iload 4, 2) := by decide +kernel
theorem d_D_run_201 : decode b_D_run 201 = .ok (.iload 6, 2) := by decide +kernel
theorem d_D_run_203 : decode b_D_run 203 = .ok (.invokevirtual 95, 3) := by decide +kernel
theorem d_D_run_206 : decode b_D_run 206 = .ok (.i2l, 1) := by decide +kernel
theorem d_D_run_207 : decode b_D_run 207 = .ok (.lmul, 1) := by decide +kernel
theorem d_D_run_208 : decode b_D_run 208 = .ok (.ladd, 1) := by decide +kernel
theorem d_D_run_209 : decode b_D_run 209 = .ok (.lconst 1, 1) := by decide +kernel
theorem d_D_run_210 : decode b_D_run 210 = .ok (.ladd, 1) := by decide +kernel
theorem d_D_run_211 : decode b_D_run 211 = .ok (.aload_n 0, 1) := by decide +kernel
theorem d_D_run_212 : decode b_D_run 212 = .ok (.getfield 45, 3) := by decide +kernel
theorem d_D_run_215 : decode b_D_run 215 = .ok (.sipush 1024, 3) := by decide +kernel
theorem d_D_run_218 : decode b_D_run 218 = .ok (.iload 4, 2) := by decide +kernel
theorem d_D_run_220 : decode b_D_run 220 = .ok (.imul, 1) := by decide +kernel
theorem d_D_run_221 : decode b_D_run 221 = .ok (.iload_n 2, 1) := by decide +kernel
theorem d_D_run_222 : decode b_D_run 222 = .ok (.iadd, 1) := by decide +kernel
theorem d_D_run_223 : decode b_D_run 223 = .ok (.laload, 1) := by decide +kernel
theorem d_D_run_224 : decode b_D_run 224 = .ok (.lcmp, 1) := by decide +kernel
theorem d_D_run_225 : decode b_D_run 225 = .ok (.ifCond .ne 7, 3) := by decide +kernel
theorem d_D_run_228 : decode b_D_run 228 = .ok (.iload 6, 2) := by decide +kernel
theorem d_D_run_230 : decode b_D_run 230 = .ok (.istore 5, 2) := by decide +kernel
theorem d_D_run_232 : decode b_D_run 232 = .ok (.iinc 6 (-1), 3) := by decide +kernel
theorem d_D_run_235 : decode b_D_run 235 = .ok (.goto (-89), 3) := by decide +kernel
theorem d_D_run_238 : decode b_D_run 238 = .ok (.iload 5, 2) := by decide +kernel
theorem d_D_run_240 : decode b_D_run 240 = .ok (.ifCond .ge 6, 3) := by decide +kernel
theorem d_D_run_243 : decode b_D_run 243 = .ok (.goto 61, 3) := by decide +kernel
theorem d_D_run_246 : decode b_D_run 246 = .ok (.aload_n 0, 1) := by decide +kernel
theorem d_D_run_247 : decode b_D_run 247 = .ok (.getfield 39, 3) := by decide +kernel
theorem d_D_run_250 : decode b_D_run 250 = .ok (.iload 4, 2) := by decide +kernel
theorem d_D_run_252 : decode b_D_run 252 = .ok (.aload_n 0, 1) := by decide +kernel
theorem d_D_run_253 : decode b_D_run 253 = .ok (.iload 4, 2) := by decide +kernel
theorem d_D_run_255 : decode b_D_run 255 = .ok (.iload 5, 2) := by decide +kernel
theorem d_D_run_257 : decode b_D_run 257 = .ok (.invokevirtual 95, 3) := by decide +kernel
theorem d_D_run_260 : decode b_D_run 260 = .ok (.aload_n 0, 1) := by decide +kernel
theorem d_D_run_261 : decode b_D_run 261 = .ok (.getfield 42, 3) := by decide +kernel
theorem d_D_run_264 : decode b_D_run 264 = .ok (.iload 5, 2) := by decide +kernel
theorem d_D_run_266 : decode b_D_run 266 = .ok (.iaload, 1) := by decide +kernel
theorem d_D_run_267 : decode b_D_run 267 = .ok (.isub, 1) := by decide +kernel
theorem d_D_run_268 : decode b_D_run 268 = .ok (.iastore, 1) := by decide +kernel
theorem d_D_run_269 : decode b_D_run 269 = .ok (.iload_n 2, 1) := by decide +kernel
theorem d_D_run_270 : decode b_D_run 270 = .ok (.iconst 1, 1) := by decide +kernel
theorem d_D_run_271 : decode b_D_run 271 = .ok (.iload 5, 2) := by decide +kernel
theorem d_D_run_273 : decode b_D_run 273 = .ok (.ishl, 1) := by decide +kernel
theorem d_D_run_274 : decode b_D_run 274 = .ok (.ior, 1) := by decide +kernel
theorem d_D_run_275 : decode b_D_run 275 = .ok (.istore_n 2, 1) := by decide +kernel
theorem d_D_run_276 : decode b_D_run 276 = .ok (.iinc 3 1, 3) := by decide +kernel
theorem d_D_run_279 : decode b_D_run 279 = .ok (.aload_n 0, 1) := by decide +kernel
theorem d_D_run_280 : decode b_D_run 280 = .ok (.getfield 26, 3) := by decide +kernel
theorem d_D_run_283 : decode b_D_run 283 = .ok (.iload 4, 2) := by decide +kernel
theorem d_D_run_285 : decode b_D_run 285 = .ok (.iconst 1, 1) := by decide +kernel
theorem d_D_run_286 : decode b_D_run 286 = .ok (.bastore, 1) := by decide +kernel
theorem d_D_run_287 : decode b_D_run 287 = .ok (.aload_n 0, 1) := by decide +kernel
theorem d_D_run_288 : decode b_D_run 288 = .ok (.getfield 30, 3) := by decide +kernel
theorem d_D_run_291 : decode b_D_run 291 = .ok (.iload 5, 2) := by decide +kernel
theorem d_D_run_293 : decode b_D_run 293 = .ok (.iload 4, 2) := by decide +kernel
theorem d_D_run_295 : decode b_D_run 295 = .ok (.iastore, 1) := by decide +kernel
theorem d_D_run_296 : decode b_D_run 296 = .ok (.aload_n 0, 1) := by decide +kernel
theorem d_D_run_297 : decode b_D_run 297 = .ok (.getfield 33, 3) := by decide +kernel
theorem d_D_run_300 : decode b_D_run 300 = .ok (.iload 4, 2) := by decide +kernel
theorem d_D_run_302 : decode b_D_run 302 = .ok (.iconst (-1), 1) := by decide +kernel
theorem d_D_run_303 : decode b_D_run 303 = .ok (.iastore, 1) := by decide +kernel
theorem d_D_run_304 : decode b_D_run 304 = .ok (.iinc 4 1, 3) := by decide +kernel
theorem d_D_run_307 : decode b_D_run 307 = .ok (.goto (-181), 3) := by decide +kernel
theorem d_D_run_310 : decode b_D_run 310 = .ok (.iload_n 3, 1) := by decide +kernel
theorem d_D_run_311 : decode b_D_run 311 = .ok (.ireturn, 1) := by decide +kernel
theorem d_D_sum_0 : decode b_D_sum 0 = .ok (.aload_n 0, 1) := by decide +kernel
theorem d_D_sum_1 : decode b_D_sum 1 = .ok (.iconst 0, 1) := by decide +kernel
theorem d_D_sum_2 : decode b_D_sum 2 = .ok (.putfield 49, 3) := by decide +kernel
theorem d_D_sum_5 : decode b_D_sum 5 = .ok (.aload_n 0, 1) := by decide +kernel
theorem d_D_sum_6 : decode b_D_sum 6 = .ok (.getfield 115, 3) := by decide +kernel
theorem d_D_sum_9 : decode b_D_sum 9 = .ok (.ireturn, 1) := by decide +kernel
theorem d_D_dual_0 : decode b_D_dual 0 = .ok (.iload_n 1, 1) := by decide +kernel
theorem d_D_dual_1 : decode b_D_dual 1 = .ok (.iconst 0, 1) := by decide +kernel
theorem d_D_dual_2 : decode b_D_dual 2 = .ok (.iconst 1, 1) := by decide +kernel
theorem d_D_dual_3 : decode b_D_dual 3 = .ok (.invokestatic 55, 3) := by decide +kernel
theorem d_D_dual_6 : decode b_D_dual 6 = .ok (.ifCond .eq 30, 3) := by decide +kernel
theorem d_D_dual_9 : decode b_D_dual 9 = .ok (.iload_n 1, 1) := by decide +kernel
theorem d_D_dual_10 : decode b_D_dual 10 = .ok (.ifCond .ne 14, 3) := by decide +kernel
theorem d_D_dual_13 : decode b_D_dual 13 = .ok (.aload_n 0, 1) := by decide +kernel
theorem d_D_dual_14 : decode b_D_dual 14 = .ok (.iload_n 2, 1) := by decide +kernel
theorem d_D_dual_15 : decode b_D_dual 15 = .ok (.invokevirtual 77, 3) := by decide +kernel
theorem d_D_dual_18 : decode b_D_dual 18 = .ok (.ifCond .eq 18, 3) := by decide +kernel
theorem d_D_dual_21 : decode b_D_dual 21 = .ok (.goto 11, 3) := by decide +kernel
theorem d_D_dual_24 : decode b_D_dual 24 = .ok (.aload_n 0, 1) := by decide +kernel
theorem d_D_dual_25 : decode b_D_dual 25 = .ok (.iload_n 2, 1) := by decide +kernel
theorem d_D_dual_26 : decode b_D_dual 26 = .ok (.invokevirtual 81, 3) := by decide +kernel
theorem d_D_dual_29 : decode b_D_dual 29 = .ok (.ifCond .eq 7, 3) := by decide +kernel
theorem d_D_dual_32 : decode b_D_dual 32 = .ok (.iconst 1, 1) := by decide +kernel
theorem d_D_dual_33 : decode b_D_dual 33 = .ok (.goto 4, 3) := by decide +kernel
theorem d_D_dual_36 : decode b_D_dual 36 = .ok (.iconst 0, 1) := by decide +kernel
theorem d_D_dual_37 : decode b_D_dual 37 = .ok (.istore_n 3, 1) := by decide +kernel
theorem d_D_dual_38 : decode b_D_dual 38 = .ok (.aload_n 0, 1) := by decide +kernel
theorem d_D_dual_39 : decode b_D_dual 39 = .ok (.iload_n 3, 1) := by decide +kernel
theorem d_D_dual_40 : decode b_D_dual 40 = .ok (.aload_n 0, 1) := by decide +kernel
theorem d_D_dual_41 : decode b_D_dual 41 = .ok (.getfield 73, 3) := by decide +kernel
theorem d_D_dual_44 : decode b_D_dual 44 = .ok (.iconst 1, 1) := by decide +kernel
theorem d_D_dual_45 : decode b_D_dual 45 = .ok (.iconst 1, 1) := by decide +kernel
theorem d_D_dual_46 : decode b_D_dual 46 = .ok (.invokevirtual 66, 3) := by decide +kernel
theorem d_D_dual_49 : decode b_D_dual 49 = .ok (.ifCond .ne 5, 3) := by decide +kernel
theorem d_D_dual_52 : decode b_D_dual 52 = .ok (.iconst 0, 1) := by decide +kernel
theorem d_D_dual_53 : decode b_D_dual 53 = .ok (.ireturn, 1) := by decide +kernel
theorem d_D_dual_54 : decode b_D_dual 54 = .ok (.iload_n 1, 1) := by decide +kernel
theorem d_D_dual_55 : decode b_D_dual 55 = .ok (.ifCond .ne 12, 3) := by decide +kernel
theorem d_D_dual_58 : decode b_D_dual 58 = .ok (.aload_n 0, 1) := by decide +kernel
theorem d_D_dual_59 : decode b_D_dual 59 = .ok (.getfield 39, 3) := by decide +kernel
theorem d_D_dual_62 : decode b_D_dual 62 = .ok (.iload_n 2, 1) := by decide +kernel
theorem d_D_dual_63 : decode b_D_dual 63 = .ok (.iaload, 1) := by decide +kernel
theorem d_D_dual_64 : decode b_D_dual 64 = .ok (.goto 9, 3) := by decide +kernel
theorem d_D_dual_67 : decode b_D_dual 67 = .ok (.aload_n 0, 1) := by decide +kernel
theorem d_D_dual_68 : decode b_D_dual 68 = .ok (.getfield 42, 3) := by decide +kernel
theorem d_D_dual_71 : decode b_D_dual 71 = .ok (.iload_n 2, 1) := by decide +kernel
theorem d_D_dual_72 : decode b_D_dual 72 = .ok (.iaload, 1) := by decide +kernel
theorem d_D_dual_73 : decode b_D_dual 73 = .ok (.ireturn, 1) := by decide +kernel
def w_D_run : List Cond := .code y_D_run b_D_run 7 (some .int) :: W0
theorem q_D_run : y_D_run.cls = R_D ∧ y_D_run.cls ≠ "java/lang/invoke/MethodHandle" ∧ y_D_run.cls ≠ "java/lang/invoke/VarHandle" ∧ (parseMethodDescriptor y_D_run.desc).map (fun d => d.parameters.length) = some 0 := by decide +kernel
def L_D_run_7 (N : Nat)  (K : Int32 → Int32 → (Nat → Int32) → (Nat → Int32) → (Nat → Int32) → Int32 → Int32 → (Nat → Int32) → (Nat → Int32) → (Nat → Int64) → Option (Int32 × Int32 × (Nat → Int32) × (Nat → Int32) × (Nat → Int32) × Int32 × Int32 × (Nat → Int32) × (Nat → Int32) × (Nat → Int64))) : Nat → Int32 → Int32 → (Nat → Int32) → (Nat → Int32) → (Nat → Int32) → Int32 → Int32 → (Nat → Int32) → (Nat → Int32) → (Nat → Int64) → Option (Int32 × Int32 × (Nat → Int32) × (Nat → Int32) × (Nat → Int32) × Int32 × Int32 × (Nat → Int32) × (Nat → Int32) × (Nat → Int64))
  | 0, _, _, _, _, _, _, _, _, _, _ => none
  | n + 1, y1a, d_throwna, d_useda, d_usedBya, d_reservedFora, d_rana, d_suma, d_pieceDuala, d_orderDuala, d_tablea =>
    (if 10 ≤ y1a then
    K y1a d_throwna d_useda d_usedBya d_reservedFora d_rana d_suma d_pieceDuala d_orderDuala d_tablea
   else
    (if y1a < 0 ∨ 10 ≤ y1a.toNatClampNeg then none else
    L_D_run_7 N  K n (y1a + 1) d_throwna d_useda d_usedBya d_reservedFora d_rana d_suma d_pieceDuala (upd d_orderDuala y1a.toNatClampNeg 0) d_tablea))
def L_D_run_28 (N : Nat)  (K : Int32 → Int32 → (Nat → Int32) → (Nat → Int32) → (Nat → Int32) → Int32 → Int32 → (Nat → Int32) → (Nat → Int32) → (Nat → Int64) → Option (Int32 × Int32 × (Nat → Int32) × (Nat → Int32) × (Nat → Int32) × Int32 × Int32 × (Nat → Int32) × (Nat → Int32) × (Nat → Int64))) : Nat → Int32 → Int32 → (Nat → Int32) → (Nat → Int32) → (Nat → Int32) → Int32 → Int32 → (Nat → Int32) → (Nat → Int32) → (Nat → Int64) → Option (Int32 × Int32 × (Nat → Int32) × (Nat → Int32) × (Nat → Int32) × Int32 × Int32 × (Nat → Int32) × (Nat → Int32) × (Nat → Int64))
  | 0, _, _, _, _, _, _, _, _, _, _ => none
  | n + 1, y1b, d_thrownb, d_usedb, d_usedByb, d_reservedForb, d_ranb, d_sumb, d_pieceDualb, d_orderDualb, d_tableb =>
    (if 10 ≤ y1b then
    K y1b d_thrownb d_usedb d_usedByb d_reservedForb d_ranb d_sumb d_pieceDualb d_orderDualb d_tableb
   else
    (if y1b < 0 ∨ 10 ≤ y1b.toNatClampNeg then none else
    L_D_run_28 N  K n (y1b + 1) d_thrownb d_usedb d_usedByb d_reservedForb d_ranb d_sumb (upd d_pieceDualb y1b.toNatClampNeg 0) d_orderDualb d_tableb))
def L_D_run_66 (N : Nat) (d_today : Int32) (d_cut : Int32) (d_aging : Int32) (d_pieces : Int32) (d_orders : Int32) (d_piece : Nat → Int32) (d_order : Nat → Int32) (d_came : Nat → Int32) (d_worth : Nat → Int32) (d_reservedTo : Nat → Int32) (K : Int32 → Int32 → Int32 → (Nat → Int32) → (Nat → Int32) → (Nat → Int32) → Int32 → Int32 → (Nat → Int32) → (Nat → Int32) → (Nat → Int64) → Option (Int32 × Int32 × (Nat → Int32) × (Nat → Int32) × (Nat → Int32) × Int32 × Int32 × (Nat → Int32) × (Nat → Int32) × (Nat → Int64))) : Nat → Int32 → Int32 → Int32 → (Nat → Int32) → (Nat → Int32) → (Nat → Int32) → Int32 → Int32 → (Nat → Int32) → (Nat → Int32) → (Nat → Int64) → Option (Int32 × Int32 × (Nat → Int32) × (Nat → Int32) × (Nat → Int32) × Int32 × Int32 × (Nat → Int32) × (Nat → Int32) × (Nat → Int64))
  | 0, _, _, _, _, _, _, _, _, _, _, _ => none
  | n + 1, y1c, y2c, d_thrownc, d_usedc, d_usedByc, d_reservedForc, d_ranc, d_sumc, d_pieceDualc, d_orderDualc, d_tablec =>
    (if d_orders ≤ y2c then
    K y1c y2c d_thrownc d_usedc d_usedByc d_reservedForc d_ranc d_sumc d_pieceDualc d_orderDualc d_tablec
   else
    ((m_D_fill N d_today d_cut d_aging d_pieces d_orders d_piece d_order d_came d_worth d_usedc d_usedByc d_reservedForc d_reservedTo d_tablec y2c).bind fun u4 =>
      (if y2c < 0 ∨ 10 ≤ y2c.toNatClampNeg then none else
      L_D_run_66 N d_today d_cut d_aging d_pieces d_orders d_piece d_order d_came d_worth d_reservedTo K n y1c (y2c + 1) d_thrownc d_usedc d_usedByc d_reservedForc d_ranc d_sumc d_pieceDualc (upd d_orderDualc y2c.toNatClampNeg (y1c - ((u4 (0 : Int32).toNatClampNeg) / 16).toInt32)) u4)))
def L_D_run_146 (N : Nat) (d_today : Int32) (d_cut : Int32) (d_aging : Int32) (d_pieces : Int32) (d_piece : Nat → Int32) (d_order : Nat → Int32) (d_came : Nat → Int32) (d_worth : Nat → Int32) (d_reservedTo : Nat → Int32) (K : Int32 → Int32 → Int32 → Int32 → Int32 → Int32 → Int32 → (Nat → Int32) → (Nat → Int32) → (Nat → Int32) → Int32 → Int32 → (Nat → Int32) → (Nat → Int32) → (Nat → Int64) → Option (Int32 × Int32 × (Nat → Int32) × (Nat → Int32) × (Nat → Int32) × Int32 × Int32 × (Nat → Int32) × (Nat → Int32) × (Nat → Int64))) : Nat → Int32 → Int32 → Int32 → Int32 → Int32 → Int32 → Int32 → (Nat → Int32) → (Nat → Int32) → (Nat → Int32) → Int32 → Int32 → (Nat → Int32) → (Nat → Int32) → (Nat → Int64) → Option (Int32 × Int32 × (Nat → Int32) × (Nat → Int32) × (Nat → Int32) × Int32 × Int32 × (Nat → Int32) × (Nat → Int32) × (Nat → Int64))
  | 0, _, _, _, _, _, _, _, _, _, _, _, _, _, _, _ => none
  | n + 1, y1e, y2e, y3e, y4e, y5e, y6e, d_throwne, d_usede, d_usedBye, d_reservedFore, d_rane, d_sume, d_pieceDuale, d_orderDuale, d_tablee =>
    (if y6e < 0 then
    K y1e y2e y3e y4e y5e y6e d_throwne d_usede d_usedBye d_reservedFore d_rane d_sume d_pieceDuale d_orderDuale d_tablee
   else
    (if ((y2e >>> (y6e &&& 31)) &&& 1) = 1 then
      L_D_run_146 N d_today d_cut d_aging d_pieces d_piece d_order d_came d_worth d_reservedTo K n y1e y2e y3e y4e y5e (y6e + (-1)) d_throwne d_usede d_usedBye d_reservedFore d_rane d_sume d_pieceDuale d_orderDuale d_tablee
     else
      ((m_D_can N d_today d_pieces d_piece d_order d_usede d_usedBye d_reservedFore d_reservedTo y4e y6e).bind fun r8 =>
        (if r8 = 0 then
          L_D_run_146 N d_today d_cut d_aging d_pieces d_piece d_order d_came d_worth d_reservedTo K n y1e y2e y3e y4e y5e (y6e + (-1)) d_throwne d_usede d_usedBye d_reservedFore d_rane d_sume d_pieceDuale d_orderDuale d_tablee
         else
          (if ((1024 * (y4e + 1)) + (y2e ||| ((1 : Int32) <<< (y6e &&& 31)))) < 0 ∨ 11264 ≤ ((1024 * (y4e + 1)) + (y2e ||| ((1 : Int32) <<< (y6e &&& 31)))).toNatClampNeg then none else
          ((m_D_netOf d_today d_cut d_aging d_piece d_order d_came d_worth y4e y6e).bind fun r9 =>
            (if ((1024 * y4e) + y2e) < 0 ∨ 11264 ≤ ((1024 * y4e) + y2e).toNatClampNeg then none else
            (if (lg_cmp (((d_tablee ((1024 * (y4e + 1)) + (y2e ||| ((1 : Int32) <<< (y6e &&& 31)))).toNatClampNeg) + (16 * r9.toInt64)) + 1) (d_tablee ((1024 * y4e) + y2e).toNatClampNeg)) = 0 then
              L_D_run_146 N d_today d_cut d_aging d_pieces d_piece d_order d_came d_worth d_reservedTo K n y1e y2e y3e y4e y6e (y6e + (-1)) d_throwne d_usede d_usedBye d_reservedFore d_rane d_sume d_pieceDuale d_orderDuale d_tablee
             else
              L_D_run_146 N d_today d_cut d_aging d_pieces d_piece d_order d_came d_worth d_reservedTo K n y1e y2e y3e y4e y5e (y6e + (-1)) d_throwne d_usede d_usedBye d_reservedFore d_rane d_sume d_pieceDuale d_orderDuale d_tablee))))))))
def L_D_run_126 (N : Nat) (d_today : Int32) (d_cut : Int32) (d_aging : Int32) (d_pieces : Int32) (d_orders : Int32) (d_piece : Nat → Int32) (d_order : Nat → Int32) (d_came : Nat → Int32) (d_worth : Nat → Int32) (d_reservedTo : Nat → Int32) (K : Int32 → Int32 → Int32 → Int32 → Int32 → (Nat → Int32) → (Nat → Int32) → (Nat → Int32) → Int32 → Int32 → (Nat → Int32) → (Nat → Int32) → (Nat → Int64) → Option (Int32 × Int32 × (Nat → Int32) × (Nat → Int32) × (Nat → Int32) × Int32 × Int32 × (Nat → Int32) × (Nat → Int32) × (Nat → Int64))) : Nat → Int32 → Int32 → Int32 → Int32 → Int32 → (Nat → Int32) → (Nat → Int32) → (Nat → Int32) → Int32 → Int32 → (Nat → Int32) → (Nat → Int32) → (Nat → Int64) → Option (Int32 × Int32 × (Nat → Int32) × (Nat → Int32) × (Nat → Int32) × Int32 × Int32 × (Nat → Int32) × (Nat → Int32) × (Nat → Int64))
  | 0, _, _, _, _, _, _, _, _, _, _, _, _, _ => none
  | n + 1, y1d, y2d, y3d, y4d, d_thrownd, d_usedd, d_usedByd, d_reservedFord, d_rand, d_sumd, d_pieceDuald, d_orderDuald, d_tabled =>
    (if d_pieces ≤ y4d then
    K y1d y2d y3d y4d d_thrownd d_usedd d_usedByd d_reservedFord d_rand d_sumd d_pieceDuald d_orderDuald d_tabled
   else
    L_D_run_146 N d_today d_cut d_aging d_pieces d_piece d_order d_came d_worth d_reservedTo (fun y1e y2e y3e y4e y5e y6e d_throwne d_usede d_usedBye d_reservedFore d_rane d_sume d_pieceDuale d_orderDuale d_tablee =>
      (if 0 ≤ y5e then
        ((m_D_netOf d_today d_cut d_aging d_piece d_order d_came d_worth y4e y5e).bind fun r12 =>
          (if y5e < 0 ∨ 10 ≤ y5e.toNatClampNeg then none else
          (if y4e < 0 ∨ 10 ≤ y4e.toNatClampNeg then none else
          (if y4e < 0 ∨ 10 ≤ y4e.toNatClampNeg then none else
          (if y5e < 0 ∨ 10 ≤ y5e.toNatClampNeg then none else
          (if y4e < 0 ∨ 10 ≤ y4e.toNatClampNeg then none else
          L_D_run_126 N d_today d_cut d_aging d_pieces d_orders d_piece d_order d_came d_worth d_reservedTo K n y1e (y2e ||| ((1 : Int32) <<< (y5e &&& 31))) (y3e + 1) (y4e + 1) d_throwne (upd d_usede y4e.toNatClampNeg (vp_nar .boolean 1)) (upd d_usedBye y5e.toNatClampNeg y4e) (upd d_reservedFore y4e.toNatClampNeg (-1)) d_rane d_sume (upd d_pieceDuale y4e.toNatClampNeg (r12 - (d_orderDuale y5e.toNatClampNeg))) d_orderDuale d_tablee))))))
       else
        L_D_run_126 N d_today d_cut d_aging d_pieces d_orders d_piece d_order d_came d_worth d_reservedTo K n y1e y2e y3e (y4e + 1) d_throwne d_usede d_usedBye d_reservedFore d_rane d_sume d_pieceDuale d_orderDuale d_tablee)) N y1d y2d y3d y4d (-1) (d_orders - 1) d_thrownd d_usedd d_usedByd d_reservedFord d_rand d_sumd d_pieceDuald d_orderDuald d_tabled)
def m_D_run (N : Nat) (d_today : Int32) (d_cut : Int32) (d_aging : Int32) (d_pieces : Int32) (d_orders : Int32) (d_piece : Nat → Int32) (d_order : Nat → Int32) (d_came : Nat → Int32) (d_worth : Nat → Int32) (d_used : Nat → Int32) (d_usedBy : Nat → Int32) (d_reservedFor : Nat → Int32) (d_reservedTo : Nat → Int32) (d_ran : Int32) (d_sum : Int32) (d_pieceDual : Nat → Int32) (d_orderDual : Nat → Int32) (d_table : Nat → Int64) : Option (Int32 × Int32 × (Nat → Int32) × (Nat → Int32) × (Nat → Int32) × Int32 × Int32 × (Nat → Int32) × (Nat → Int32) × (Nat → Int64)) :=
  L_D_run_7 N  (fun y1a d_throwna d_useda d_usedBya d_reservedFora d_rana d_suma d_pieceDuala d_orderDuala d_tablea =>
  L_D_run_28 N  (fun y1b d_thrownb d_usedb d_usedByb d_reservedForb d_ranb d_sumb d_pieceDualb d_orderDualb d_tableb =>
    ((m_D_fill N d_today d_cut d_aging d_pieces d_orders d_piece d_order d_came d_worth d_usedb d_usedByb d_reservedForb d_reservedTo d_tableb (-1)).bind fun u2 =>
      L_D_run_66 N d_today d_cut d_aging d_pieces d_orders d_piece d_order d_came d_worth d_reservedTo (fun y1c y2c d_thrownc d_usedc d_usedByc d_reservedForc d_ranc d_sumc d_pieceDualc d_orderDualc d_tablec =>
        ((m_D_fill N d_today d_cut d_aging d_pieces d_orders d_piece d_order d_came d_worth d_usedc d_usedByc d_reservedForc d_reservedTo d_tablec (-1)).bind fun u7 =>
          L_D_run_126 N d_today d_cut d_aging d_pieces d_orders d_piece d_order d_came d_worth d_reservedTo (fun y1d y2d y3d y4d d_thrownd d_usedd d_usedByd d_reservedFord d_rand d_sumd d_pieceDuald d_orderDuald d_tabled =>
            some (y3d, d_thrownd, d_usedd, d_usedByd, d_reservedFord, d_rand, d_sumd, d_pieceDuald, d_orderDuald, d_tabled)) N y1c 0 0 0 d_thrownc d_usedc d_usedByc d_reservedForc 1 y1c d_pieceDualc d_orderDualc u7)) N (((u2 (0 : Int32).toNatClampNeg) / 16).toInt32) 0 d_thrownb d_usedb d_usedByb d_reservedForb d_ranb d_sumb d_pieceDualb d_orderDualb u2)) N 0 d_throwna d_useda d_usedBya d_reservedFora d_rana d_suma d_pieceDuala d_orderDuala d_tablea) N 0 0 d_used d_usedBy d_reservedFor d_ran d_sum d_pieceDual d_orderDual d_table
set_option maxHeartbeats 4000000 in
set_option maxRecDepth 100000 in
theorem c_D_run (l : Launch) (dC : Nat → ClassId) (dI : Nat → Nat → Nat) (cI cZ cJ : ClassId) (dq dq8 dq9 dq10 dq11 dq12 dq13 dq14 dq15 dq18 dq19 dq20 : Nat) (sz : Nat) (d_thrown : Int32) (d_today : Int32) (d_cut : Int32) (d_aging : Int32) (d_saleFrom : Int32) (d_pieces : Int32) (d_orders : Int32) (d_piece : Nat → Int32) (d_order : Nat → Int32) (d_came : Nat → Int32) (d_worth : Nat → Int32) (d_used : Nat → Int32) (d_usedBy : Nat → Int32) (d_reservedFor : Nat → Int32) (d_reservedTo : Nat → Int32) (d_ran : Int32) (d_sum : Int32) (d_pieceDual : Nat → Int32) (d_orderDual : Nat → Int32) (d_table : Nat → Int64)  (N : Nat) (res : Int32 × Int32 × (Nat → Int32) × (Nat → Int32) × (Nat → Int32) × Int32 × Int32 × (Nat → Int32) × (Nat → Int32) × (Nat → Int64)) (hm : m_D_run N d_today d_cut d_aging d_pieces d_orders d_piece d_order d_came d_worth d_used d_usedBy d_reservedFor d_reservedTo d_ran d_sum d_pieceDual d_orderDual d_table = some res) : Met l y_D_run w_D_run ({ frames := 4, cells := 0, slots := 0, locals := 95 } : Room) (va_Pc [.ref dq] (fun U => U.heap.size = sz ∧ va_P (dC, dI) classes [(dq, .inr (5, [.int d_thrown, .int d_today, .int d_cut, .int d_aging, .int d_saleFrom, .int d_pieces, .int d_orders, .ref dq8, .ref dq9, .ref dq10, .ref dq11, .ref dq12, .ref dq13, .ref dq14, .ref dq15, .int d_ran, .int d_sum, .ref dq18, .ref dq19, .ref dq20])), (dq8, .inl (cI, 40, .inl d_piece)), (dq9, .inl (cI, 40, .inl d_order)), (dq10, .inl (cI, 10, .inl d_came)), (dq11, .inl (cI, 100, .inl d_worth)), (dq12, .inl (cZ, 10, .inl d_used)), (dq13, .inl (cI, 10, .inl d_usedBy)), (dq14, .inl (cI, 10, .inl d_reservedFor)), (dq15, .inl (cI, 10, .inl d_reservedTo)), (dq18, .inl (cI, 10, .inl d_pieceDual)), (dq19, .inl (cI, 10, .inl d_orderDual)), (dq20, .inl (cJ, 11264, .inr (.inl d_table)))] U.heap ∧ va_K (dC, dI) classes [(cI, .int), (cZ, .boolean), (cJ, .long)] U ∧ va_D (fun _ => True) [(dq, .inr (5, [.int d_thrown, .int d_today, .int d_cut, .int d_aging, .int d_saleFrom, .int d_pieces, .int d_orders, .ref dq8, .ref dq9, .ref dq10, .ref dq11, .ref dq12, .ref dq13, .ref dq14, .ref dq15, .int d_ran, .int d_sum, .ref dq18, .ref dq19, .ref dq20])), (dq8, .inl (cI, 40, .inl d_piece)), (dq9, .inl (cI, 40, .inl d_order)), (dq10, .inl (cI, 10, .inl d_came)), (dq11, .inl (cI, 100, .inl d_worth)), (dq12, .inl (cZ, 10, .inl d_used)), (dq13, .inl (cI, 10, .inl d_usedBy)), (dq14, .inl (cI, 10, .inl d_reservedFor)), (dq15, .inl (cI, 10, .inl d_reservedTo)), (dq18, .inl (cI, 10, .inl d_pieceDual)), (dq19, .inl (cI, 10, .inl d_orderDual)), (dq20, .inl (cJ, 11264, .inr (.inl d_table)))] ∧ nw U)) (va_Qi (fun (x : Int32) (_ : Unit) => res.1 = x) (fun _ t => va_P (dC, dI) classes [(dq, .inr (5, [.int res.2.1, .int d_today, .int d_cut, .int d_aging, .int d_saleFrom, .int d_pieces, .int d_orders, .ref dq8, .ref dq9, .ref dq10, .ref dq11, .ref dq12, .ref dq13, .ref dq14, .ref dq15, .int res.2.2.2.2.2.1, .int res.2.2.2.2.2.2.1, .ref dq18, .ref dq19, .ref dq20])), (dq8, .inl (cI, 40, .inl d_piece)), (dq9, .inl (cI, 40, .inl d_order)), (dq10, .inl (cI, 10, .inl d_came)), (dq11, .inl (cI, 100, .inl d_worth)), (dq12, .inl (cZ, 10, .inl res.2.2.1)), (dq13, .inl (cI, 10, .inl res.2.2.2.1)), (dq14, .inl (cI, 10, .inl res.2.2.2.2.1)), (dq15, .inl (cI, 10, .inl d_reservedTo)), (dq18, .inl (cI, 10, .inl res.2.2.2.2.2.2.2.1)), (dq19, .inl (cI, 10, .inl res.2.2.2.2.2.2.2.2.1)), (dq20, .inl (cJ, 11264, .inr (.inl res.2.2.2.2.2.2.2.2.2)))] t.heap ∧ va_K (dC, dI) classes [(cI, .int), (cZ, .boolean), (cJ, .long)] t ∧ va_D (va_A [(dq, .inr (5, [.int d_thrown, .int d_today, .int d_cut, .int d_aging, .int d_saleFrom, .int d_pieces, .int d_orders, .ref dq8, .ref dq9, .ref dq10, .ref dq11, .ref dq12, .ref dq13, .ref dq14, .ref dq15, .int d_ran, .int d_sum, .ref dq18, .ref dq19, .ref dq20])), (dq8, .inl (cI, 40, .inl d_piece)), (dq9, .inl (cI, 40, .inl d_order)), (dq10, .inl (cI, 10, .inl d_came)), (dq11, .inl (cI, 100, .inl d_worth)), (dq12, .inl (cZ, 10, .inl d_used)), (dq13, .inl (cI, 10, .inl d_usedBy)), (dq14, .inl (cI, 10, .inl d_reservedFor)), (dq15, .inl (cI, 10, .inl d_reservedTo)), (dq18, .inl (cI, 10, .inl d_pieceDual)), (dq19, .inl (cI, 10, .inl d_orderDual)), (dq20, .inl (cJ, 11264, .inr (.inl d_table)))] sz) [(dq, .inr (5, [.int res.2.1, .int d_today, .int d_cut, .int d_aging, .int d_saleFrom, .int d_pieces, .int d_orders, .ref dq8, .ref dq9, .ref dq10, .ref dq11, .ref dq12, .ref dq13, .ref dq14, .ref dq15, .int res.2.2.2.2.2.1, .int res.2.2.2.2.2.2.1, .ref dq18, .ref dq19, .ref dq20])), (dq8, .inl (cI, 40, .inl d_piece)), (dq9, .inl (cI, 40, .inl d_order)), (dq10, .inl (cI, 10, .inl d_came)), (dq11, .inl (cI, 100, .inl d_worth)), (dq12, .inl (cZ, 10, .inl res.2.2.1)), (dq13, .inl (cI, 10, .inl res.2.2.2.1)), (dq14, .inl (cI, 10, .inl res.2.2.2.2.1)), (dq15, .inl (cI, 10, .inl d_reservedTo)), (dq18, .inl (cI, 10, .inl res.2.2.2.2.2.2.2.1)), (dq19, .inl (cI, 10, .inl res.2.2.2.2.2.2.2.2.1)), (dq20, .inl (cJ, 11264, .inr (.inl res.2.2.2.2.2.2.2.2.2)))]) (va_A [(dq, .inr (5, [.int d_thrown, .int d_today, .int d_cut, .int d_aging, .int d_saleFrom, .int d_pieces, .int d_orders, .ref dq8, .ref dq9, .ref dq10, .ref dq11, .ref dq12, .ref dq13, .ref dq14, .ref dq15, .int d_ran, .int d_sum, .ref dq18, .ref dq19, .ref dq20])), (dq8, .inl (cI, 40, .inl d_piece)), (dq9, .inl (cI, 40, .inl d_order)), (dq10, .inl (cI, 10, .inl d_came)), (dq11, .inl (cI, 100, .inl d_worth)), (dq12, .inl (cZ, 10, .inl d_used)), (dq13, .inl (cI, 10, .inl d_usedBy)), (dq14, .inl (cI, 10, .inl d_reservedFor)), (dq15, .inl (cI, 10, .inl d_reservedTo)), (dq18, .inl (cI, 10, .inl d_pieceDual)), (dq19, .inl (cI, 10, .inl d_orderDual)), (dq20, .inl (cJ, 11264, .inr (.inl d_table)))] sz)) 0 0 (va_A [(dq, .inr (5, [.int d_thrown, .int d_today, .int d_cut, .int d_aging, .int d_saleFrom, .int d_pieces, .int d_orders, .ref dq8, .ref dq9, .ref dq10, .ref dq11, .ref dq12, .ref dq13, .ref dq14, .ref dq15, .int d_ran, .int d_sum, .ref dq18, .ref dq19, .ref dq20])), (dq8, .inl (cI, 40, .inl d_piece)), (dq9, .inl (cI, 40, .inl d_order)), (dq10, .inl (cI, 10, .inl d_came)), (dq11, .inl (cI, 100, .inl d_worth)), (dq12, .inl (cZ, 10, .inl d_used)), (dq13, .inl (cI, 10, .inl d_usedBy)), (dq14, .inl (cI, 10, .inl d_reservedFor)), (dq15, .inl (cI, 10, .inl d_reservedTo)), (dq18, .inl (cI, 10, .inl d_pieceDual)), (dq19, .inl (cI, 10, .inl d_orderDual)), (dq20, .inl (cJ, 11264, .inr (.inl d_table)))] sz) := by
  unfold m_D_run at hm
  refine Met.ofW (cc := b_D_run) (maxL := 7) (ret := (some .int)) (by decide) rfl ?_
  intro p e s m args below meth c s₁ B hml hv
  obtain ⟨rfl, hsz, hP, hK, hD0, hN⟩ := hv
  have hx := B.exec
  have hb := B.bytes
  have hr := B.returns
  have hts := atoms_spec (ws := w_D_run) B.pre
  have hown : s.vm.findClass R_D = some m.cls := findClass_of_methodNamed B.named
  have hlocks := B.notSynchronized
  subst hsz
  have hD := hD0.self (sz := s.heap.size)
  generalize hAe : va_A [(dq, .inr (5, [.int d_thrown, .int d_today, .int d_cut, .int d_aging, .int d_saleFrom, .int d_pieces, .int d_orders, .ref dq8, .ref dq9, .ref dq10, .ref dq11, .ref dq12, .ref dq13, .ref dq14, .ref dq15, .int d_ran, .int d_sum, .ref dq18, .ref dq19, .ref dq20])), (dq8, .inl (cI, 40, .inl d_piece)), (dq9, .inl (cI, 40, .inl d_order)), (dq10, .inl (cI, 10, .inl d_came)), (dq11, .inl (cI, 100, .inl d_worth)), (dq12, .inl (cZ, 10, .inl d_used)), (dq13, .inl (cI, 10, .inl d_usedBy)), (dq14, .inl (cI, 10, .inl d_reservedFor)), (dq15, .inl (cI, 10, .inl d_reservedTo)), (dq18, .inl (cI, 10, .inl d_pieceDual)), (dq19, .inl (cI, 10, .inl d_orderDual)), (dq20, .inl (cJ, 11264, .inr (.inl d_table)))] s.heap.size = A at hD ⊢
  have hA : ∀ q : Nat, s.heap.size ≤ q → A q := fun q h => by rw [← hAe]; exact Or.inr h
  have hS : va_S A s.heap s.heap [] := va_S.rf
  have hk0 := hts (.fieldLink R_D 49 "SurplusMatchModel" "thrown" "I") (List.mem_cons_of_mem _ (w0 593 rfl))
  have hk1 : ∀ w ∈ w_D, w ∈ w_D_run := fun w h => List.mem_cons_of_mem _ (i_D w h)
  have hk2 := hts (.fieldLink R_D 42 "SurplusMatchModel" "orderDual" "[I") (List.mem_cons_of_mem _ (w0 611 rfl))
  have hk3 := hts (.fieldLink R_D 39 "SurplusMatchModel" "pieceDual" "[I") (List.mem_cons_of_mem _ (w0 610 rfl))
  have hk4 := hts (.fieldLink R_D 45 "SurplusMatchModel" "table" "[J") (List.mem_cons_of_mem _ (w0 612 rfl))
  have hk5 := hts (.constantLong R_D 109 16) (List.mem_cons_of_mem _ (w0 722 rfl))
  have hk6 := hts (.fieldLink R_D 59 "SurplusMatchModel" "orders" "I") (List.mem_cons_of_mem _ (w0 599 rfl))
  have hk7 := hts (.fieldLink R_D 115 "SurplusMatchModel" "sum" "I") (List.mem_cons_of_mem _ (w0 609 rfl))
  have hk8 := hts (.fieldLink R_D 73 "SurplusMatchModel" "ran" "Z") (List.mem_cons_of_mem _ (w0 608 rfl))
  have hk9 := hts (.fieldLink R_D 52 "SurplusMatchModel" "pieces" "I") (List.mem_cons_of_mem _ (w0 598 rfl))
  have hk10 := hts (.fieldLink R_D 26 "SurplusMatchModel" "used" "[Z") (List.mem_cons_of_mem _ (w0 604 rfl))
  have hk11 := hts (.fieldLink R_D 30 "SurplusMatchModel" "usedBy" "[I") (List.mem_cons_of_mem _ (w0 605 rfl))
  have hk12 := hts (.fieldLink R_D 33 "SurplusMatchModel" "reservedFor" "[I") (List.mem_cons_of_mem _ (w0 606 rfl))
  have hl := lv_entry ([.ref dq]) (n := 7) (Nat.le_of_ble_eq_true rfl)
  rw [lg_entry_eq]
  generalize (lg_sl ([.ref dq]) ++ List.replicate (7 - (lg_sl ([.ref dq])).length) Slot.unset).toArray = ls at hl ⊢
  have hl : lv_has ls 7 [(0, .ref dq)] := hl
  refine lv_aload_n hx hb d_D_run_0 rfl (lv_at hl 0 rfl) ?_
  refine lv_iconst (v := 0) hx hb d_D_run_1 (by decide) ?_
  refine va_put (D := (dC, dI)) (ci := 5) (v := .int 0) (ty := .int) (C := R_D) (T := F_D) (N := 20) hx hb hts hk1 t_D t_D_ok n_D hown hK hP hD hS 0 rfl rfl 0 (by decide) hk0 (fun _ h9 => h9) rfl (by decide +kernel) rfl rfl (Nat.le_of_ble_eq_true rfl) d_D_run_2 (fun H locs hP hD hS => ?_)
  have hP : va_P (dC, dI) classes [(dq, .inr (5, [.int 0, .int d_today, .int d_cut, .int d_aging, .int d_saleFrom, .int d_pieces, .int d_orders, .ref dq8, .ref dq9, .ref dq10, .ref dq11, .ref dq12, .ref dq13, .ref dq14, .ref dq15, .int d_ran, .int d_sum, .ref dq18, .ref dq19, .ref dq20])), (dq8, .inl (cI, 40, .inl d_piece)), (dq9, .inl (cI, 40, .inl d_order)), (dq10, .inl (cI, 10, .inl d_came)), (dq11, .inl (cI, 100, .inl d_worth)), (dq12, .inl (cZ, 10, .inl d_used)), (dq13, .inl (cI, 10, .inl d_usedBy)), (dq14, .inl (cI, 10, .inl d_reservedFor)), (dq15, .inl (cI, 10, .inl d_reservedTo)), (dq18, .inl (cI, 10, .inl d_pieceDual)), (dq19, .inl (cI, 10, .inl d_orderDual)), (dq20, .inl (cJ, 11264, .inr (.inl d_table)))] H := hP
  have hD : va_D A [(dq, .inr (5, [.int 0, .int d_today, .int d_cut, .int d_aging, .int d_saleFrom, .int d_pieces, .int d_orders, .ref dq8, .ref dq9, .ref dq10, .ref dq11, .ref dq12, .ref dq13, .ref dq14, .ref dq15, .int d_ran, .int d_sum, .ref dq18, .ref dq19, .ref dq20])), (dq8, .inl (cI, 40, .inl d_piece)), (dq9, .inl (cI, 40, .inl d_order)), (dq10, .inl (cI, 10, .inl d_came)), (dq11, .inl (cI, 100, .inl d_worth)), (dq12, .inl (cZ, 10, .inl d_used)), (dq13, .inl (cI, 10, .inl d_usedBy)), (dq14, .inl (cI, 10, .inl d_reservedFor)), (dq15, .inl (cI, 10, .inl d_reservedTo)), (dq18, .inl (cI, 10, .inl d_pieceDual)), (dq19, .inl (cI, 10, .inl d_orderDual)), (dq20, .inl (cJ, 11264, .inr (.inl d_table)))] := hD
  refine lv_iconst (v := 0) hx hb d_D_run_5 (by decide) ?_
  refine lv_istore_n (lv' := [(1, .int 0), (0, .ref dq)]) hx hb d_D_run_6 rfl hl (by decide) rfl (fun ls hl => ?_)
  have key7 : ∀ (K : Int32 → Int32 → (Nat → Int32) → (Nat → Int32) → (Nat → Int32) → Int32 → Int32 → (Nat → Int32) → (Nat → Int32) → (Nat → Int64) → Option (Int32 × Int32 × (Nat → Int32) × (Nat → Int32) × (Nat → Int32) × Int32 × Int32 × (Nat → Int32) × (Nat → Int32) × (Nat → Int64))) (_ : ∀ (y1a : Int32) (d_throwna : Int32) (d_useda : Nat → Int32) (d_usedBya : Nat → Int32) (d_reservedFora : Nat → Int32) (d_rana : Int32) (d_suma : Int32) (d_pieceDuala : Nat → Int32) (d_orderDuala : Nat → Int32) (d_tablea : Nat → Int64) (H : Heap) (locs : List Loc) (ls : Array Slot), lv_has ls 7 [(0, .ref dq), (1, .int y1a)] → va_P (dC, dI) classes [(dq, .inr (5, [.int d_throwna, .int d_today, .int d_cut, .int d_aging, .int d_saleFrom, .int d_pieces, .int d_orders, .ref dq8, .ref dq9, .ref dq10, .ref dq11, .ref dq12, .ref dq13, .ref dq14, .ref dq15, .int d_rana, .int d_suma, .ref dq18, .ref dq19, .ref dq20])), (dq8, .inl (cI, 40, .inl d_piece)), (dq9, .inl (cI, 40, .inl d_order)), (dq10, .inl (cI, 10, .inl d_came)), (dq11, .inl (cI, 100, .inl d_worth)), (dq12, .inl (cZ, 10, .inl d_useda)), (dq13, .inl (cI, 10, .inl d_usedBya)), (dq14, .inl (cI, 10, .inl d_reservedFora)), (dq15, .inl (cI, 10, .inl d_reservedTo)), (dq18, .inl (cI, 10, .inl d_pieceDuala)), (dq19, .inl (cI, 10, .inl d_orderDuala)), (dq20, .inl (cJ, 11264, .inr (.inl d_tablea)))] H → va_D A [(dq, .inr (5, [.int d_throwna, .int d_today, .int d_cut, .int d_aging, .int d_saleFrom, .int d_pieces, .int d_orders, .ref dq8, .ref dq9, .ref dq10, .ref dq11, .ref dq12, .ref dq13, .ref dq14, .ref dq15, .int d_rana, .int d_suma, .ref dq18, .ref dq19, .ref dq20])), (dq8, .inl (cI, 40, .inl d_piece)), (dq9, .inl (cI, 40, .inl d_order)), (dq10, .inl (cI, 10, .inl d_came)), (dq11, .inl (cI, 100, .inl d_worth)), (dq12, .inl (cZ, 10, .inl d_useda)), (dq13, .inl (cI, 10, .inl d_usedBya)), (dq14, .inl (cI, 10, .inl d_reservedFora)), (dq15, .inl (cI, 10, .inl d_reservedTo)), (dq18, .inl (cI, 10, .inl d_pieceDuala)), (dq19, .inl (cI, 10, .inl d_orderDuala)), (dq20, .inl (cJ, 11264, .inr (.inl d_tablea)))] → va_S A s.heap H locs → K y1a d_throwna d_useda d_usedBya d_reservedFora d_rana d_suma d_pieceDuala d_orderDuala d_tablea = some res → W p l e (headSpec w_D_run ({ frames := 4, cells := 0, slots := 0, locals := 95 } : Room)).room s m ([.ref dq] : List Value).toArray below meth c H locs 0 0 (MQ below (va_Qi (fun (x : Int32) (_ : Unit) => res.1 = x) (fun _ t => va_P (dC, dI) classes [(dq, .inr (5, [.int res.2.1, .int d_today, .int d_cut, .int d_aging, .int d_saleFrom, .int d_pieces, .int d_orders, .ref dq8, .ref dq9, .ref dq10, .ref dq11, .ref dq12, .ref dq13, .ref dq14, .ref dq15, .int res.2.2.2.2.2.1, .int res.2.2.2.2.2.2.1, .ref dq18, .ref dq19, .ref dq20])), (dq8, .inl (cI, 40, .inl d_piece)), (dq9, .inl (cI, 40, .inl d_order)), (dq10, .inl (cI, 10, .inl d_came)), (dq11, .inl (cI, 100, .inl d_worth)), (dq12, .inl (cZ, 10, .inl res.2.2.1)), (dq13, .inl (cI, 10, .inl res.2.2.2.1)), (dq14, .inl (cI, 10, .inl res.2.2.2.2.1)), (dq15, .inl (cI, 10, .inl d_reservedTo)), (dq18, .inl (cI, 10, .inl res.2.2.2.2.2.2.2.1)), (dq19, .inl (cI, 10, .inl res.2.2.2.2.2.2.2.2.1)), (dq20, .inl (cJ, 11264, .inr (.inl res.2.2.2.2.2.2.2.2.2)))] t.heap ∧ va_K (dC, dI) classes [(cI, .int), (cZ, .boolean), (cJ, .long)] t ∧ va_D A [(dq, .inr (5, [.int res.2.1, .int d_today, .int d_cut, .int d_aging, .int d_saleFrom, .int d_pieces, .int d_orders, .ref dq8, .ref dq9, .ref dq10, .ref dq11, .ref dq12, .ref dq13, .ref dq14, .ref dq15, .int res.2.2.2.2.2.1, .int res.2.2.2.2.2.2.1, .ref dq18, .ref dq19, .ref dq20])), (dq8, .inl (cI, 40, .inl d_piece)), (dq9, .inl (cI, 40, .inl d_order)), (dq10, .inl (cI, 10, .inl d_came)), (dq11, .inl (cI, 100, .inl d_worth)), (dq12, .inl (cZ, 10, .inl res.2.2.1)), (dq13, .inl (cI, 10, .inl res.2.2.2.1)), (dq14, .inl (cI, 10, .inl res.2.2.2.2.1)), (dq15, .inl (cI, 10, .inl d_reservedTo)), (dq18, .inl (cI, 10, .inl res.2.2.2.2.2.2.2.1)), (dq19, .inl (cI, 10, .inl res.2.2.2.2.2.2.2.2.1)), (dq20, .inl (cJ, 11264, .inr (.inl res.2.2.2.2.2.2.2.2.2)))]) A) ([.ref dq] : List Value).toArray s 0 0 A) (F0 m 26 ls [])) (n : Nat) (y1a : Int32) (d_throwna : Int32) (d_useda : Nat → Int32) (d_usedBya : Nat → Int32) (d_reservedFora : Nat → Int32) (d_rana : Int32) (d_suma : Int32) (d_pieceDuala : Nat → Int32) (d_orderDuala : Nat → Int32) (d_tablea : Nat → Int64) (H : Heap) (locs : List Loc) (ls : Array Slot), lv_has ls 7 [(0, .ref dq), (1, .int y1a)] → va_P (dC, dI) classes [(dq, .inr (5, [.int d_throwna, .int d_today, .int d_cut, .int d_aging, .int d_saleFrom, .int d_pieces, .int d_orders, .ref dq8, .ref dq9, .ref dq10, .ref dq11, .ref dq12, .ref dq13, .ref dq14, .ref dq15, .int d_rana, .int d_suma, .ref dq18, .ref dq19, .ref dq20])), (dq8, .inl (cI, 40, .inl d_piece)), (dq9, .inl (cI, 40, .inl d_order)), (dq10, .inl (cI, 10, .inl d_came)), (dq11, .inl (cI, 100, .inl d_worth)), (dq12, .inl (cZ, 10, .inl d_useda)), (dq13, .inl (cI, 10, .inl d_usedBya)), (dq14, .inl (cI, 10, .inl d_reservedFora)), (dq15, .inl (cI, 10, .inl d_reservedTo)), (dq18, .inl (cI, 10, .inl d_pieceDuala)), (dq19, .inl (cI, 10, .inl d_orderDuala)), (dq20, .inl (cJ, 11264, .inr (.inl d_tablea)))] H → va_D A [(dq, .inr (5, [.int d_throwna, .int d_today, .int d_cut, .int d_aging, .int d_saleFrom, .int d_pieces, .int d_orders, .ref dq8, .ref dq9, .ref dq10, .ref dq11, .ref dq12, .ref dq13, .ref dq14, .ref dq15, .int d_rana, .int d_suma, .ref dq18, .ref dq19, .ref dq20])), (dq8, .inl (cI, 40, .inl d_piece)), (dq9, .inl (cI, 40, .inl d_order)), (dq10, .inl (cI, 10, .inl d_came)), (dq11, .inl (cI, 100, .inl d_worth)), (dq12, .inl (cZ, 10, .inl d_useda)), (dq13, .inl (cI, 10, .inl d_usedBya)), (dq14, .inl (cI, 10, .inl d_reservedFora)), (dq15, .inl (cI, 10, .inl d_reservedTo)), (dq18, .inl (cI, 10, .inl d_pieceDuala)), (dq19, .inl (cI, 10, .inl d_orderDuala)), (dq20, .inl (cJ, 11264, .inr (.inl d_tablea)))] → va_S A s.heap H locs → L_D_run_7 N  K n y1a d_throwna d_useda d_usedBya d_reservedFora d_rana d_suma d_pieceDuala d_orderDuala d_tablea = some res → W p l e (headSpec w_D_run ({ frames := 4, cells := 0, slots := 0, locals := 95 } : Room)).room s m ([.ref dq] : List Value).toArray below meth c H locs 0 0 (MQ below (va_Qi (fun (x : Int32) (_ : Unit) => res.1 = x) (fun _ t => va_P (dC, dI) classes [(dq, .inr (5, [.int res.2.1, .int d_today, .int d_cut, .int d_aging, .int d_saleFrom, .int d_pieces, .int d_orders, .ref dq8, .ref dq9, .ref dq10, .ref dq11, .ref dq12, .ref dq13, .ref dq14, .ref dq15, .int res.2.2.2.2.2.1, .int res.2.2.2.2.2.2.1, .ref dq18, .ref dq19, .ref dq20])), (dq8, .inl (cI, 40, .inl d_piece)), (dq9, .inl (cI, 40, .inl d_order)), (dq10, .inl (cI, 10, .inl d_came)), (dq11, .inl (cI, 100, .inl d_worth)), (dq12, .inl (cZ, 10, .inl res.2.2.1)), (dq13, .inl (cI, 10, .inl res.2.2.2.1)), (dq14, .inl (cI, 10, .inl res.2.2.2.2.1)), (dq15, .inl (cI, 10, .inl d_reservedTo)), (dq18, .inl (cI, 10, .inl res.2.2.2.2.2.2.2.1)), (dq19, .inl (cI, 10, .inl res.2.2.2.2.2.2.2.2.1)), (dq20, .inl (cJ, 11264, .inr (.inl res.2.2.2.2.2.2.2.2.2)))] t.heap ∧ va_K (dC, dI) classes [(cI, .int), (cZ, .boolean), (cJ, .long)] t ∧ va_D A [(dq, .inr (5, [.int res.2.1, .int d_today, .int d_cut, .int d_aging, .int d_saleFrom, .int d_pieces, .int d_orders, .ref dq8, .ref dq9, .ref dq10, .ref dq11, .ref dq12, .ref dq13, .ref dq14, .ref dq15, .int res.2.2.2.2.2.1, .int res.2.2.2.2.2.2.1, .ref dq18, .ref dq19, .ref dq20])), (dq8, .inl (cI, 40, .inl d_piece)), (dq9, .inl (cI, 40, .inl d_order)), (dq10, .inl (cI, 10, .inl d_came)), (dq11, .inl (cI, 100, .inl d_worth)), (dq12, .inl (cZ, 10, .inl res.2.2.1)), (dq13, .inl (cI, 10, .inl res.2.2.2.1)), (dq14, .inl (cI, 10, .inl res.2.2.2.2.1)), (dq15, .inl (cI, 10, .inl d_reservedTo)), (dq18, .inl (cI, 10, .inl res.2.2.2.2.2.2.2.1)), (dq19, .inl (cI, 10, .inl res.2.2.2.2.2.2.2.2.1)), (dq20, .inl (cJ, 11264, .inr (.inl res.2.2.2.2.2.2.2.2.2)))]) A) ([.ref dq] : List Value).toArray s 0 0 A) (F0 m 7 ls []) := by
    intro K hK7 n
    induction n with
    | zero => intro y1a d_throwna d_useda d_usedBya d_reservedFora d_rana d_suma d_pieceDuala d_orderDuala d_tablea H locs ls hl hP hD hS hm; exact absurd hm (by simp [L_D_run_7])
    | succ n ih7 =>
      intro y1a d_throwna d_useda d_usedBya d_reservedFora d_rana d_suma d_pieceDuala d_orderDuala d_tablea H locs ls hl hP hD hS hm
      rw [L_D_run_7] at hm
      refine lv_iload_n hx hb d_D_run_7 rfl (lv_at hl 1 rfl) ?_
      refine lv_bipush (v := 10) hx hb d_D_run_8 (by decide) ?_
      refine lv_icmp_ge (tgt := 26) hx hb d_D_run_10 (by decide) (fun c9 => ?_) (fun c9 => ?_)
      · replace hm := if_t c9 hm
        have hl : lv_has ls 7 [(0, .ref dq), (1, .int y1a)] := lv_sub hl [0, 1] rfl
        exact hK7 y1a d_throwna d_useda d_usedBya d_reservedFora d_rana d_suma d_pieceDuala d_orderDuala d_tablea _ _ ls hl hP hD hS hm
      · replace hm := if_f c9 hm
        refine lv_aload_n hx hb d_D_run_13 rfl (lv_at hl 0 rfl) ?_
        refine va_get (D := (dC, dI)) (ci := 5) (v := .ref dq19) (C := R_D) (T := F_D) (N := 20) hx hb hts hk1 hown hK hP 0 rfl rfl 18 (by decide) hk2 (fun _ h9 => h9) rfl d_D_run_14 ?_
        refine lv_iload_n hx hb d_D_run_17 rfl (lv_at hl 1 rfl) ?_
        refine lv_iconst (v := 0) hx hb d_D_run_18 (by decide) ?_
        obtain ⟨h9, hm⟩ := gd hm
        refine va_iast hx hb hK hP hD hS 10 0 rfl rfl h9 d_D_run_19 (fun H locs hP hD hS => ?_)
        have hP : va_P (dC, dI) classes [(dq, .inr (5, [.int d_throwna, .int d_today, .int d_cut, .int d_aging, .int d_saleFrom, .int d_pieces, .int d_orders, .ref dq8, .ref dq9, .ref dq10, .ref dq11, .ref dq12, .ref dq13, .ref dq14, .ref dq15, .int d_rana, .int d_suma, .ref dq18, .ref dq19, .ref dq20])), (dq8, .inl (cI, 40, .inl d_piece)), (dq9, .inl (cI, 40, .inl d_order)), (dq10, .inl (cI, 10, .inl d_came)), (dq11, .inl (cI, 100, .inl d_worth)), (dq12, .inl (cZ, 10, .inl d_useda)), (dq13, .inl (cI, 10, .inl d_usedBya)), (dq14, .inl (cI, 10, .inl d_reservedFora)), (dq15, .inl (cI, 10, .inl d_reservedTo)), (dq18, .inl (cI, 10, .inl d_pieceDuala)), (dq19, .inl (cI, 10, .inl (upd d_orderDuala y1a.toNatClampNeg 0))), (dq20, .inl (cJ, 11264, .inr (.inl d_tablea)))] H := hP
        have hD : va_D A [(dq, .inr (5, [.int d_throwna, .int d_today, .int d_cut, .int d_aging, .int d_saleFrom, .int d_pieces, .int d_orders, .ref dq8, .ref dq9, .ref dq10, .ref dq11, .ref dq12, .ref dq13, .ref dq14, .ref dq15, .int d_rana, .int d_suma, .ref dq18, .ref dq19, .ref dq20])), (dq8, .inl (cI, 40, .inl d_piece)), (dq9, .inl (cI, 40, .inl d_order)), (dq10, .inl (cI, 10, .inl d_came)), (dq11, .inl (cI, 100, .inl d_worth)), (dq12, .inl (cZ, 10, .inl d_useda)), (dq13, .inl (cI, 10, .inl d_usedBya)), (dq14, .inl (cI, 10, .inl d_reservedFora)), (dq15, .inl (cI, 10, .inl d_reservedTo)), (dq18, .inl (cI, 10, .inl d_pieceDuala)), (dq19, .inl (cI, 10, .inl (upd d_orderDuala y1a.toNatClampNeg 0))), (dq20, .inl (cJ, 11264, .inr (.inl d_tablea)))] := hD
        refine lv_iinc (v := (y1a + 1)) (lv' := [(1, .int (y1a + 1)), (0, .ref dq)]) hx hb d_D_run_20 hl (k := 1) rfl rfl (by decide) rfl (fun ls hl => ?_)
        refine lv_goto (tgt := 7) hx hb d_D_run_23 (by decide) ?_
        have hl : lv_has ls 7 [(0, .ref dq), (1, .int (y1a + 1))] := lv_sub hl [1, 0] rfl
        exact ih7 (y1a + 1) d_throwna d_useda d_usedBya d_reservedFora d_rana d_suma d_pieceDuala (upd d_orderDuala y1a.toNatClampNeg 0) d_tablea _ _ ls hl hP hD hS hm
  have hl : lv_has ls 7 [(0, .ref dq), (1, .int 0)] := lv_sub hl [1, 0] rfl
  refine key7 _ (fun y1a d_throwna d_useda d_usedBya d_reservedFora d_rana d_suma d_pieceDuala d_orderDuala d_tablea H locs ls hl hP hD hS hm => ?_) N 0 0 d_used d_usedBy d_reservedFor d_ran d_sum d_pieceDual d_orderDual d_table _ _ ls hl hP hD hS hm
  try dsimp only at hm
  refine lv_iconst (v := 0) hx hb d_D_run_26 (by decide) ?_
  refine lv_istore_n (lv' := [(1, .int 0), (0, .ref dq)]) hx hb d_D_run_27 rfl hl (by decide) rfl (fun ls hl => ?_)
  have key28 : ∀ (K : Int32 → Int32 → (Nat → Int32) → (Nat → Int32) → (Nat → Int32) → Int32 → Int32 → (Nat → Int32) → (Nat → Int32) → (Nat → Int64) → Option (Int32 × Int32 × (Nat → Int32) × (Nat → Int32) × (Nat → Int32) × Int32 × Int32 × (Nat → Int32) × (Nat → Int32) × (Nat → Int64))) (_ : ∀ (y1b : Int32) (d_thrownb : Int32) (d_usedb : Nat → Int32) (d_usedByb : Nat → Int32) (d_reservedForb : Nat → Int32) (d_ranb : Int32) (d_sumb : Int32) (d_pieceDualb : Nat → Int32) (d_orderDualb : Nat → Int32) (d_tableb : Nat → Int64) (H : Heap) (locs : List Loc) (ls : Array Slot), lv_has ls 7 [(0, .ref dq), (1, .int y1b)] → va_P (dC, dI) classes [(dq, .inr (5, [.int d_thrownb, .int d_today, .int d_cut, .int d_aging, .int d_saleFrom, .int d_pieces, .int d_orders, .ref dq8, .ref dq9, .ref dq10, .ref dq11, .ref dq12, .ref dq13, .ref dq14, .ref dq15, .int d_ranb, .int d_sumb, .ref dq18, .ref dq19, .ref dq20])), (dq8, .inl (cI, 40, .inl d_piece)), (dq9, .inl (cI, 40, .inl d_order)), (dq10, .inl (cI, 10, .inl d_came)), (dq11, .inl (cI, 100, .inl d_worth)), (dq12, .inl (cZ, 10, .inl d_usedb)), (dq13, .inl (cI, 10, .inl d_usedByb)), (dq14, .inl (cI, 10, .inl d_reservedForb)), (dq15, .inl (cI, 10, .inl d_reservedTo)), (dq18, .inl (cI, 10, .inl d_pieceDualb)), (dq19, .inl (cI, 10, .inl d_orderDualb)), (dq20, .inl (cJ, 11264, .inr (.inl d_tableb)))] H → va_D A [(dq, .inr (5, [.int d_thrownb, .int d_today, .int d_cut, .int d_aging, .int d_saleFrom, .int d_pieces, .int d_orders, .ref dq8, .ref dq9, .ref dq10, .ref dq11, .ref dq12, .ref dq13, .ref dq14, .ref dq15, .int d_ranb, .int d_sumb, .ref dq18, .ref dq19, .ref dq20])), (dq8, .inl (cI, 40, .inl d_piece)), (dq9, .inl (cI, 40, .inl d_order)), (dq10, .inl (cI, 10, .inl d_came)), (dq11, .inl (cI, 100, .inl d_worth)), (dq12, .inl (cZ, 10, .inl d_usedb)), (dq13, .inl (cI, 10, .inl d_usedByb)), (dq14, .inl (cI, 10, .inl d_reservedForb)), (dq15, .inl (cI, 10, .inl d_reservedTo)), (dq18, .inl (cI, 10, .inl d_pieceDualb)), (dq19, .inl (cI, 10, .inl d_orderDualb)), (dq20, .inl (cJ, 11264, .inr (.inl d_tableb)))] → va_S A s.heap H locs → K y1b d_thrownb d_usedb d_usedByb d_reservedForb d_ranb d_sumb d_pieceDualb d_orderDualb d_tableb = some res → W p l e (headSpec w_D_run ({ frames := 4, cells := 0, slots := 0, locals := 95 } : Room)).room s m ([.ref dq] : List Value).toArray below meth c H locs 0 0 (MQ below (va_Qi (fun (x : Int32) (_ : Unit) => res.1 = x) (fun _ t => va_P (dC, dI) classes [(dq, .inr (5, [.int res.2.1, .int d_today, .int d_cut, .int d_aging, .int d_saleFrom, .int d_pieces, .int d_orders, .ref dq8, .ref dq9, .ref dq10, .ref dq11, .ref dq12, .ref dq13, .ref dq14, .ref dq15, .int res.2.2.2.2.2.1, .int res.2.2.2.2.2.2.1, .ref dq18, .ref dq19, .ref dq20])), (dq8, .inl (cI, 40, .inl d_piece)), (dq9, .inl (cI, 40, .inl d_order)), (dq10, .inl (cI, 10, .inl d_came)), (dq11, .inl (cI, 100, .inl d_worth)), (dq12, .inl (cZ, 10, .inl res.2.2.1)), (dq13, .inl (cI, 10, .inl res.2.2.2.1)), (dq14, .inl (cI, 10, .inl res.2.2.2.2.1)), (dq15, .inl (cI, 10, .inl d_reservedTo)), (dq18, .inl (cI, 10, .inl res.2.2.2.2.2.2.2.1)), (dq19, .inl (cI, 10, .inl res.2.2.2.2.2.2.2.2.1)), (dq20, .inl (cJ, 11264, .inr (.inl res.2.2.2.2.2.2.2.2.2)))] t.heap ∧ va_K (dC, dI) classes [(cI, .int), (cZ, .boolean), (cJ, .long)] t ∧ va_D A [(dq, .inr (5, [.int res.2.1, .int d_today, .int d_cut, .int d_aging, .int d_saleFrom, .int d_pieces, .int d_orders, .ref dq8, .ref dq9, .ref dq10, .ref dq11, .ref dq12, .ref dq13, .ref dq14, .ref dq15, .int res.2.2.2.2.2.1, .int res.2.2.2.2.2.2.1, .ref dq18, .ref dq19, .ref dq20])), (dq8, .inl (cI, 40, .inl d_piece)), (dq9, .inl (cI, 40, .inl d_order)), (dq10, .inl (cI, 10, .inl d_came)), (dq11, .inl (cI, 100, .inl d_worth)), (dq12, .inl (cZ, 10, .inl res.2.2.1)), (dq13, .inl (cI, 10, .inl res.2.2.2.1)), (dq14, .inl (cI, 10, .inl res.2.2.2.2.1)), (dq15, .inl (cI, 10, .inl d_reservedTo)), (dq18, .inl (cI, 10, .inl res.2.2.2.2.2.2.2.1)), (dq19, .inl (cI, 10, .inl res.2.2.2.2.2.2.2.2.1)), (dq20, .inl (cJ, 11264, .inr (.inl res.2.2.2.2.2.2.2.2.2)))]) A) ([.ref dq] : List Value).toArray s 0 0 A) (F0 m 47 ls [])) (n : Nat) (y1b : Int32) (d_thrownb : Int32) (d_usedb : Nat → Int32) (d_usedByb : Nat → Int32) (d_reservedForb : Nat → Int32) (d_ranb : Int32) (d_sumb : Int32) (d_pieceDualb : Nat → Int32) (d_orderDualb : Nat → Int32) (d_tableb : Nat → Int64) (H : Heap) (locs : List Loc) (ls : Array Slot), lv_has ls 7 [(0, .ref dq), (1, .int y1b)] → va_P (dC, dI) classes [(dq, .inr (5, [.int d_thrownb, .int d_today, .int d_cut, .int d_aging, .int d_saleFrom, .int d_pieces, .int d_orders, .ref dq8, .ref dq9, .ref dq10, .ref dq11, .ref dq12, .ref dq13, .ref dq14, .ref dq15, .int d_ranb, .int d_sumb, .ref dq18, .ref dq19, .ref dq20])), (dq8, .inl (cI, 40, .inl d_piece)), (dq9, .inl (cI, 40, .inl d_order)), (dq10, .inl (cI, 10, .inl d_came)), (dq11, .inl (cI, 100, .inl d_worth)), (dq12, .inl (cZ, 10, .inl d_usedb)), (dq13, .inl (cI, 10, .inl d_usedByb)), (dq14, .inl (cI, 10, .inl d_reservedForb)), (dq15, .inl (cI, 10, .inl d_reservedTo)), (dq18, .inl (cI, 10, .inl d_pieceDualb)), (dq19, .inl (cI, 10, .inl d_orderDualb)), (dq20, .inl (cJ, 11264, .inr (.inl d_tableb)))] H → va_D A [(dq, .inr (5, [.int d_thrownb, .int d_today, .int d_cut, .int d_aging, .int d_saleFrom, .int d_pieces, .int d_orders, .ref dq8, .ref dq9, .ref dq10, .ref dq11, .ref dq12, .ref dq13, .ref dq14, .ref dq15, .int d_ranb, .int d_sumb, .ref dq18, .ref dq19, .ref dq20])), (dq8, .inl (cI, 40, .inl d_piece)), (dq9, .inl (cI, 40, .inl d_order)), (dq10, .inl (cI, 10, .inl d_came)), (dq11, .inl (cI, 100, .inl d_worth)), (dq12, .inl (cZ, 10, .inl d_usedb)), (dq13, .inl (cI, 10, .inl d_usedByb)), (dq14, .inl (cI, 10, .inl d_reservedForb)), (dq15, .inl (cI, 10, .inl d_reservedTo)), (dq18, .inl (cI, 10, .inl d_pieceDualb)), (dq19, .inl (cI, 10, .inl d_orderDualb)), (dq20, .inl (cJ, 11264, .inr (.inl d_tableb)))] → va_S A s.heap H locs → L_D_run_28 N  K n y1b d_thrownb d_usedb d_usedByb d_reservedForb d_ranb d_sumb d_pieceDualb d_orderDualb d_tableb = some res → W p l e (headSpec w_D_run ({ frames := 4, cells := 0, slots := 0, locals := 95 } : Room)).room s m ([.ref dq] : List Value).toArray below meth c H locs 0 0 (MQ below (va_Qi (fun (x : Int32) (_ : Unit) => res.1 = x) (fun _ t => va_P (dC, dI) classes [(dq, .inr (5, [.int res.2.1, .int d_today, .int d_cut, .int d_aging, .int d_saleFrom, .int d_pieces, .int d_orders, .ref dq8, .ref dq9, .ref dq10, .ref dq11, .ref dq12, .ref dq13, .ref dq14, .ref dq15, .int res.2.2.2.2.2.1, .int res.2.2.2.2.2.2.1, .ref dq18, .ref dq19, .ref dq20])), (dq8, .inl (cI, 40, .inl d_piece)), (dq9, .inl (cI, 40, .inl d_order)), (dq10, .inl (cI, 10, .inl d_came)), (dq11, .inl (cI, 100, .inl d_worth)), (dq12, .inl (cZ, 10, .inl res.2.2.1)), (dq13, .inl (cI, 10, .inl res.2.2.2.1)), (dq14, .inl (cI, 10, .inl res.2.2.2.2.1)), (dq15, .inl (cI, 10, .inl d_reservedTo)), (dq18, .inl (cI, 10, .inl res.2.2.2.2.2.2.2.1)), (dq19, .inl (cI, 10, .inl res.2.2.2.2.2.2.2.2.1)), (dq20, .inl (cJ, 11264, .inr (.inl res.2.2.2.2.2.2.2.2.2)))] t.heap ∧ va_K (dC, dI) classes [(cI, .int), (cZ, .boolean), (cJ, .long)] t ∧ va_D A [(dq, .inr (5, [.int res.2.1, .int d_today, .int d_cut, .int d_aging, .int d_saleFrom, .int d_pieces, .int d_orders, .ref dq8, .ref dq9, .ref dq10, .ref dq11, .ref dq12, .ref dq13, .ref dq14, .ref dq15, .int res.2.2.2.2.2.1, .int res.2.2.2.2.2.2.1, .ref dq18, .ref dq19, .ref dq20])), (dq8, .inl (cI, 40, .inl d_piece)), (dq9, .inl (cI, 40, .inl d_order)), (dq10, .inl (cI, 10, .inl d_came)), (dq11, .inl (cI, 100, .inl d_worth)), (dq12, .inl (cZ, 10, .inl res.2.2.1)), (dq13, .inl (cI, 10, .inl res.2.2.2.1)), (dq14, .inl (cI, 10, .inl res.2.2.2.2.1)), (dq15, .inl (cI, 10, .inl d_reservedTo)), (dq18, .inl (cI, 10, .inl res.2.2.2.2.2.2.2.1)), (dq19, .inl (cI, 10, .inl res.2.2.2.2.2.2.2.2.1)), (dq20, .inl (cJ, 11264, .inr (.inl res.2.2.2.2.2.2.2.2.2)))]) A) ([.ref dq] : List Value).toArray s 0 0 A) (F0 m 28 ls []) := by
    intro K hK28 n
    induction n with
    | zero => intro y1b d_thrownb d_usedb d_usedByb d_reservedForb d_ranb d_sumb d_pieceDualb d_orderDualb d_tableb H locs ls hl hP hD hS hm; exact absurd hm (by simp [L_D_run_28])
    | succ n ih28 =>
      intro y1b d_thrownb d_usedb d_usedByb d_reservedForb d_ranb d_sumb d_pieceDualb d_orderDualb d_tableb H locs ls hl hP hD hS hm
      rw [L_D_run_28] at hm
      refine lv_iload_n hx hb d_D_run_28 rfl (lv_at hl 1 rfl) ?_
      refine lv_bipush (v := 10) hx hb d_D_run_29 (by decide) ?_
      refine lv_icmp_ge (tgt := 47) hx hb d_D_run_31 (by decide) (fun c9 => ?_) (fun c9 => ?_)
      · replace hm := if_t c9 hm
        have hl : lv_has ls 7 [(0, .ref dq), (1, .int y1b)] := lv_sub hl [0, 1] rfl
        exact hK28 y1b d_thrownb d_usedb d_usedByb d_reservedForb d_ranb d_sumb d_pieceDualb d_orderDualb d_tableb _ _ ls hl hP hD hS hm
      · replace hm := if_f c9 hm
        refine lv_aload_n hx hb d_D_run_34 rfl (lv_at hl 0 rfl) ?_
        refine va_get (D := (dC, dI)) (ci := 5) (v := .ref dq18) (C := R_D) (T := F_D) (N := 20) hx hb hts hk1 hown hK hP 0 rfl rfl 17 (by decide) hk3 (fun _ h9 => h9) rfl d_D_run_35 ?_
        refine lv_iload_n hx hb d_D_run_38 rfl (lv_at hl 1 rfl) ?_
        refine lv_iconst (v := 0) hx hb d_D_run_39 (by decide) ?_
        obtain ⟨h9, hm⟩ := gd hm
        refine va_iast hx hb hK hP hD hS 9 0 rfl rfl h9 d_D_run_40 (fun H locs hP hD hS => ?_)
        have hP : va_P (dC, dI) classes [(dq, .inr (5, [.int d_thrownb, .int d_today, .int d_cut, .int d_aging, .int d_saleFrom, .int d_pieces, .int d_orders, .ref dq8, .ref dq9, .ref dq10, .ref dq11, .ref dq12, .ref dq13, .ref dq14, .ref dq15, .int d_ranb, .int d_sumb, .ref dq18, .ref dq19, .ref dq20])), (dq8, .inl (cI, 40, .inl d_piece)), (dq9, .inl (cI, 40, .inl d_order)), (dq10, .inl (cI, 10, .inl d_came)), (dq11, .inl (cI, 100, .inl d_worth)), (dq12, .inl (cZ, 10, .inl d_usedb)), (dq13, .inl (cI, 10, .inl d_usedByb)), (dq14, .inl (cI, 10, .inl d_reservedForb)), (dq15, .inl (cI, 10, .inl d_reservedTo)), (dq18, .inl (cI, 10, .inl (upd d_pieceDualb y1b.toNatClampNeg 0))), (dq19, .inl (cI, 10, .inl d_orderDualb)), (dq20, .inl (cJ, 11264, .inr (.inl d_tableb)))] H := hP
        have hD : va_D A [(dq, .inr (5, [.int d_thrownb, .int d_today, .int d_cut, .int d_aging, .int d_saleFrom, .int d_pieces, .int d_orders, .ref dq8, .ref dq9, .ref dq10, .ref dq11, .ref dq12, .ref dq13, .ref dq14, .ref dq15, .int d_ranb, .int d_sumb, .ref dq18, .ref dq19, .ref dq20])), (dq8, .inl (cI, 40, .inl d_piece)), (dq9, .inl (cI, 40, .inl d_order)), (dq10, .inl (cI, 10, .inl d_came)), (dq11, .inl (cI, 100, .inl d_worth)), (dq12, .inl (cZ, 10, .inl d_usedb)), (dq13, .inl (cI, 10, .inl d_usedByb)), (dq14, .inl (cI, 10, .inl d_reservedForb)), (dq15, .inl (cI, 10, .inl d_reservedTo)), (dq18, .inl (cI, 10, .inl (upd d_pieceDualb y1b.toNatClampNeg 0))), (dq19, .inl (cI, 10, .inl d_orderDualb)), (dq20, .inl (cJ, 11264, .inr (.inl d_tableb)))] := hD
        refine lv_iinc (v := (y1b + 1)) (lv' := [(1, .int (y1b + 1)), (0, .ref dq)]) hx hb d_D_run_41 hl (k := 1) rfl rfl (by decide) rfl (fun ls hl => ?_)
        refine lv_goto (tgt := 28) hx hb d_D_run_44 (by decide) ?_
        have hl : lv_has ls 7 [(0, .ref dq), (1, .int (y1b + 1))] := lv_sub hl [1, 0] rfl
        exact ih28 (y1b + 1) d_thrownb d_usedb d_usedByb d_reservedForb d_ranb d_sumb (upd d_pieceDualb y1b.toNatClampNeg 0) d_orderDualb d_tableb _ _ ls hl hP hD hS hm
  have hl : lv_has ls 7 [(0, .ref dq), (1, .int 0)] := lv_sub hl [1, 0] rfl
  refine key28 _ (fun y1b d_thrownb d_usedb d_usedByb d_reservedForb d_ranb d_sumb d_pieceDualb d_orderDualb d_tableb H locs ls hl hP hD hS hm => ?_) N 0 d_throwna d_useda d_usedBya d_reservedFora d_rana d_suma d_pieceDuala d_orderDuala d_tablea _ _ ls hl hP hD hS hm
  try dsimp only at hm
  refine lv_aload_n hx hb d_D_run_47 rfl (lv_at hl 0 rfl) ?_
  refine lv_iconst (v := (-1)) hx hb d_D_run_48 (by decide) ?_
  obtain ⟨u2, hc, hm⟩ := bd hm
  try dsimp only at hm
  have hPc := hP.sub (ws' := [(dq, .inr (5, [.int d_thrownb, .int d_today, .int d_cut, .int d_aging, .int d_saleFrom, .int d_pieces, .int d_orders, .ref dq8, .ref dq9, .ref dq10, .ref dq11, .ref dq12, .ref dq13, .ref dq14, .ref dq15, .int d_ranb, .int d_sumb, .ref dq18, .ref dq19, .ref dq20])), (dq8, .inl (cI, 40, .inl d_piece)), (dq9, .inl (cI, 40, .inl d_order)), (dq10, .inl (cI, 10, .inl d_came)), (dq11, .inl (cI, 100, .inl d_worth)), (dq12, .inl (cZ, 10, .inl d_usedb)), (dq13, .inl (cI, 10, .inl d_usedByb)), (dq14, .inl (cI, 10, .inl d_reservedForb)), (dq15, .inl (cI, 10, .inl d_reservedTo)), (dq18, .inl (cI, 10, .inl d_pieceDualb)), (dq19, .inl (cI, 10, .inl d_orderDualb)), (dq20, .inl (cJ, 11264, .inr (.inl d_tableb)))]) [0, 1, 2, 3, 4, 5, 6, 7, 8, 9, 10, 11] rfl
  have hDc := hD.sub (ws' := [(dq, .inr (5, [.int d_thrownb, .int d_today, .int d_cut, .int d_aging, .int d_saleFrom, .int d_pieces, .int d_orders, .ref dq8, .ref dq9, .ref dq10, .ref dq11, .ref dq12, .ref dq13, .ref dq14, .ref dq15, .int d_ranb, .int d_sumb, .ref dq18, .ref dq19, .ref dq20])), (dq8, .inl (cI, 40, .inl d_piece)), (dq9, .inl (cI, 40, .inl d_order)), (dq10, .inl (cI, 10, .inl d_came)), (dq11, .inl (cI, 100, .inl d_worth)), (dq12, .inl (cZ, 10, .inl d_usedb)), (dq13, .inl (cI, 10, .inl d_usedByb)), (dq14, .inl (cI, 10, .inl d_reservedForb)), (dq15, .inl (cI, 10, .inl d_reservedTo)), (dq18, .inl (cI, 10, .inl d_pieceDualb)), (dq19, .inl (cI, 10, .inl d_orderDualb)), (dq20, .inl (cJ, 11264, .inr (.inl d_tableb)))]) [0, 1, 2, 3, 4, 5, 6, 7, 8, 9, 10, 11] (by decide) rfl
  have hFc := va_free (wc := [(dq, .inr (5, [.int d_thrownb, .int d_today, .int d_cut, .int d_aging, .int d_saleFrom, .int d_pieces, .int d_orders, .ref dq8, .ref dq9, .ref dq10, .ref dq11, .ref dq12, .ref dq13, .ref dq14, .ref dq15, .int d_ranb, .int d_sumb, .ref dq18, .ref dq19, .ref dq20])), (dq8, .inl (cI, 40, .inl d_piece)), (dq9, .inl (cI, 40, .inl d_order)), (dq10, .inl (cI, 10, .inl d_came)), (dq11, .inl (cI, 100, .inl d_worth)), (dq12, .inl (cZ, 10, .inl d_usedb)), (dq13, .inl (cI, 10, .inl d_usedByb)), (dq14, .inl (cI, 10, .inl d_reservedForb)), (dq15, .inl (cI, 10, .inl d_reservedTo)), (dq18, .inl (cI, 10, .inl d_pieceDualb)), (dq19, .inl (cI, 10, .inl d_orderDualb)), (dq20, .inl (cJ, 11264, .inr (.inl d_tableb)))]) hD hS hA [0, 1, 2, 3, 4, 5, 6, 7, 8, 9, 10, 11] rfl
  refine va_callv (va_runV (As := [.int (-1)]) (rest := []) ⟨hx, hb, hml, hown, hts⟩ (c_D_fill l dC dI cI cZ cJ dq dq8 dq9 dq10 dq11 dq12 dq13 dq14 dq15 dq18 dq19 dq20 H.size d_thrownb d_today d_cut d_aging d_saleFrom d_pieces d_orders d_piece d_order d_came d_worth d_usedb d_usedByb d_reservedForb d_reservedTo d_ranb d_sumb d_pieceDualb d_orderDualb d_tableb (-1) N u2 hc) (cwV 1 hts (gV (w0 710 rfl) (w0 711 rfl) (w0 23 rfl) (w0 33 rfl) (w0 712 rfl)) rfl rfl rfl q_D_fill ⟨Nat.le_of_ble_eq_true rfl, Nat.le_of_ble_eq_true rfl⟩) (wr_preV hK hPc hDc hN 5 0 (R_D, F_D, 20) rfl rfl) rfl rfl hl.1 rfl (lv_room (Nat.le_of_ble_eq_true rfl)) d_D_run_49 ⟨Nat.le_of_ble_eq_true rfl, Nat.le_of_ble_eq_true rfl⟩) hS (fun q _ h => hFc q h) hFc (fun u t H1 locs ht hvm hw hB hz1 hk1 hS => ?_)
  obtain ⟨hP1, hK1, hD1⟩ := hB
  rw [ht] at hP1
  obtain ⟨hP, hD⟩ := va_join (wr := []) (w1 := [(dq, .inr (5, [.int d_thrownb, .int d_today, .int d_cut, .int d_aging, .int d_saleFrom, .int d_pieces, .int d_orders, .ref dq8, .ref dq9, .ref dq10, .ref dq11, .ref dq12, .ref dq13, .ref dq14, .ref dq15, .int d_ranb, .int d_sumb, .ref dq18, .ref dq19, .ref dq20])), (dq8, .inl (cI, 40, .inl d_piece)), (dq9, .inl (cI, 40, .inl d_order)), (dq10, .inl (cI, 10, .inl d_came)), (dq11, .inl (cI, 100, .inl d_worth)), (dq12, .inl (cZ, 10, .inl d_usedb)), (dq13, .inl (cI, 10, .inl d_usedByb)), (dq14, .inl (cI, 10, .inl d_reservedForb)), (dq15, .inl (cI, 10, .inl d_reservedTo)), (dq18, .inl (cI, 10, .inl d_pieceDualb)), (dq19, .inl (cI, 10, .inl d_orderDualb)), (dq20, .inl (cJ, 11264, .inr (.inl u2)))]) hP hD [0, 1, 2, 3, 4, 5, 6, 7, 8, 9, 10, 11] [] rfl rfl (by decide) (by decide) hk1 hFc hP1 hD1
  generalize H1 = H at hP hS ⊢
  have hP : va_P (dC, dI) classes [(dq, .inr (5, [.int d_thrownb, .int d_today, .int d_cut, .int d_aging, .int d_saleFrom, .int d_pieces, .int d_orders, .ref dq8, .ref dq9, .ref dq10, .ref dq11, .ref dq12, .ref dq13, .ref dq14, .ref dq15, .int d_ranb, .int d_sumb, .ref dq18, .ref dq19, .ref dq20])), (dq8, .inl (cI, 40, .inl d_piece)), (dq9, .inl (cI, 40, .inl d_order)), (dq10, .inl (cI, 10, .inl d_came)), (dq11, .inl (cI, 100, .inl d_worth)), (dq12, .inl (cZ, 10, .inl d_usedb)), (dq13, .inl (cI, 10, .inl d_usedByb)), (dq14, .inl (cI, 10, .inl d_reservedForb)), (dq15, .inl (cI, 10, .inl d_reservedTo)), (dq18, .inl (cI, 10, .inl d_pieceDualb)), (dq19, .inl (cI, 10, .inl d_orderDualb)), (dq20, .inl (cJ, 11264, .inr (.inl u2)))] H := hP
  have hD : va_D A [(dq, .inr (5, [.int d_thrownb, .int d_today, .int d_cut, .int d_aging, .int d_saleFrom, .int d_pieces, .int d_orders, .ref dq8, .ref dq9, .ref dq10, .ref dq11, .ref dq12, .ref dq13, .ref dq14, .ref dq15, .int d_ranb, .int d_sumb, .ref dq18, .ref dq19, .ref dq20])), (dq8, .inl (cI, 40, .inl d_piece)), (dq9, .inl (cI, 40, .inl d_order)), (dq10, .inl (cI, 10, .inl d_came)), (dq11, .inl (cI, 100, .inl d_worth)), (dq12, .inl (cZ, 10, .inl d_usedb)), (dq13, .inl (cI, 10, .inl d_usedByb)), (dq14, .inl (cI, 10, .inl d_reservedForb)), (dq15, .inl (cI, 10, .inl d_reservedTo)), (dq18, .inl (cI, 10, .inl d_pieceDualb)), (dq19, .inl (cI, 10, .inl d_orderDualb)), (dq20, .inl (cJ, 11264, .inr (.inl u2)))] := hD
  clear hP1 hD1 hPc hDc hFc hk1 hz1
  refine lv_aload_n hx hb d_D_run_52 rfl (lv_at hl 0 rfl) ?_
  refine va_get (D := (dC, dI)) (ci := 5) (v := .ref dq20) (C := R_D) (T := F_D) (N := 20) hx hb hts hk1 hown hK hP 0 rfl rfl 19 (by decide) hk4 (fun _ h9 => h9) rfl d_D_run_53 ?_
  refine lv_iconst (v := 0) hx hb d_D_run_56 (by decide) ?_
  have h9 : vp_in (0 : Int32) 11264 := by unfold vp_in; decide
  refine va_lald hx hb hK hP 11 2 rfl rfl h9 d_D_run_57 ?_
  refine lv_ldc2 (v := 16) hx hb hown hk5 d_D_run_58 ?_
  refine lv_ldiv hx hb d_D_run_61 (by decide) ?_
  refine lv_l2i (v := ((u2 (0 : Int32).toNatClampNeg) / 16).toInt32) hx hb d_D_run_62 rfl ?_
  refine lv_istore_n (lv' := [(1, .int (((u2 (0 : Int32).toNatClampNeg) / 16).toInt32)), (0, .ref dq)]) hx hb d_D_run_63 rfl hl (by decide) rfl (fun ls hl => ?_)
  refine lv_iconst (v := 0) hx hb d_D_run_64 (by decide) ?_
  refine lv_istore_n (lv' := [(2, .int 0), (1, .int (((u2 (0 : Int32).toNatClampNeg) / 16).toInt32)), (0, .ref dq)]) hx hb d_D_run_65 rfl hl (by decide) rfl (fun ls hl => ?_)
  have key66 : ∀ (K : Int32 → Int32 → Int32 → (Nat → Int32) → (Nat → Int32) → (Nat → Int32) → Int32 → Int32 → (Nat → Int32) → (Nat → Int32) → (Nat → Int64) → Option (Int32 × Int32 × (Nat → Int32) × (Nat → Int32) × (Nat → Int32) × Int32 × Int32 × (Nat → Int32) × (Nat → Int32) × (Nat → Int64))) (_ : ∀ (y1c : Int32) (y2c : Int32) (d_thrownc : Int32) (d_usedc : Nat → Int32) (d_usedByc : Nat → Int32) (d_reservedForc : Nat → Int32) (d_ranc : Int32) (d_sumc : Int32) (d_pieceDualc : Nat → Int32) (d_orderDualc : Nat → Int32) (d_tablec : Nat → Int64) (H : Heap) (locs : List Loc) (ls : Array Slot), lv_has ls 7 [(0, .ref dq), (1, .int y1c), (2, .int y2c)] → va_P (dC, dI) classes [(dq, .inr (5, [.int d_thrownc, .int d_today, .int d_cut, .int d_aging, .int d_saleFrom, .int d_pieces, .int d_orders, .ref dq8, .ref dq9, .ref dq10, .ref dq11, .ref dq12, .ref dq13, .ref dq14, .ref dq15, .int d_ranc, .int d_sumc, .ref dq18, .ref dq19, .ref dq20])), (dq8, .inl (cI, 40, .inl d_piece)), (dq9, .inl (cI, 40, .inl d_order)), (dq10, .inl (cI, 10, .inl d_came)), (dq11, .inl (cI, 100, .inl d_worth)), (dq12, .inl (cZ, 10, .inl d_usedc)), (dq13, .inl (cI, 10, .inl d_usedByc)), (dq14, .inl (cI, 10, .inl d_reservedForc)), (dq15, .inl (cI, 10, .inl d_reservedTo)), (dq18, .inl (cI, 10, .inl d_pieceDualc)), (dq19, .inl (cI, 10, .inl d_orderDualc)), (dq20, .inl (cJ, 11264, .inr (.inl d_tablec)))] H → va_D A [(dq, .inr (5, [.int d_thrownc, .int d_today, .int d_cut, .int d_aging, .int d_saleFrom, .int d_pieces, .int d_orders, .ref dq8, .ref dq9, .ref dq10, .ref dq11, .ref dq12, .ref dq13, .ref dq14, .ref dq15, .int d_ranc, .int d_sumc, .ref dq18, .ref dq19, .ref dq20])), (dq8, .inl (cI, 40, .inl d_piece)), (dq9, .inl (cI, 40, .inl d_order)), (dq10, .inl (cI, 10, .inl d_came)), (dq11, .inl (cI, 100, .inl d_worth)), (dq12, .inl (cZ, 10, .inl d_usedc)), (dq13, .inl (cI, 10, .inl d_usedByc)), (dq14, .inl (cI, 10, .inl d_reservedForc)), (dq15, .inl (cI, 10, .inl d_reservedTo)), (dq18, .inl (cI, 10, .inl d_pieceDualc)), (dq19, .inl (cI, 10, .inl d_orderDualc)), (dq20, .inl (cJ, 11264, .inr (.inl d_tablec)))] → va_S A s.heap H locs → K y1c y2c d_thrownc d_usedc d_usedByc d_reservedForc d_ranc d_sumc d_pieceDualc d_orderDualc d_tablec = some res → W p l e (headSpec w_D_run ({ frames := 4, cells := 0, slots := 0, locals := 95 } : Room)).room s m ([.ref dq] : List Value).toArray below meth c H locs 0 0 (MQ below (va_Qi (fun (x : Int32) (_ : Unit) => res.1 = x) (fun _ t => va_P (dC, dI) classes [(dq, .inr (5, [.int res.2.1, .int d_today, .int d_cut, .int d_aging, .int d_saleFrom, .int d_pieces, .int d_orders, .ref dq8, .ref dq9, .ref dq10, .ref dq11, .ref dq12, .ref dq13, .ref dq14, .ref dq15, .int res.2.2.2.2.2.1, .int res.2.2.2.2.2.2.1, .ref dq18, .ref dq19, .ref dq20])), (dq8, .inl (cI, 40, .inl d_piece)), (dq9, .inl (cI, 40, .inl d_order)), (dq10, .inl (cI, 10, .inl d_came)), (dq11, .inl (cI, 100, .inl d_worth)), (dq12, .inl (cZ, 10, .inl res.2.2.1)), (dq13, .inl (cI, 10, .inl res.2.2.2.1)), (dq14, .inl (cI, 10, .inl res.2.2.2.2.1)), (dq15, .inl (cI, 10, .inl d_reservedTo)), (dq18, .inl (cI, 10, .inl res.2.2.2.2.2.2.2.1)), (dq19, .inl (cI, 10, .inl res.2.2.2.2.2.2.2.2.1)), (dq20, .inl (cJ, 11264, .inr (.inl res.2.2.2.2.2.2.2.2.2)))] t.heap ∧ va_K (dC, dI) classes [(cI, .int), (cZ, .boolean), (cJ, .long)] t ∧ va_D A [(dq, .inr (5, [.int res.2.1, .int d_today, .int d_cut, .int d_aging, .int d_saleFrom, .int d_pieces, .int d_orders, .ref dq8, .ref dq9, .ref dq10, .ref dq11, .ref dq12, .ref dq13, .ref dq14, .ref dq15, .int res.2.2.2.2.2.1, .int res.2.2.2.2.2.2.1, .ref dq18, .ref dq19, .ref dq20])), (dq8, .inl (cI, 40, .inl d_piece)), (dq9, .inl (cI, 40, .inl d_order)), (dq10, .inl (cI, 10, .inl d_came)), (dq11, .inl (cI, 100, .inl d_worth)), (dq12, .inl (cZ, 10, .inl res.2.2.1)), (dq13, .inl (cI, 10, .inl res.2.2.2.1)), (dq14, .inl (cI, 10, .inl res.2.2.2.2.1)), (dq15, .inl (cI, 10, .inl d_reservedTo)), (dq18, .inl (cI, 10, .inl res.2.2.2.2.2.2.2.1)), (dq19, .inl (cI, 10, .inl res.2.2.2.2.2.2.2.2.1)), (dq20, .inl (cJ, 11264, .inr (.inl res.2.2.2.2.2.2.2.2.2)))]) A) ([.ref dq] : List Value).toArray s 0 0 A) (F0 m 104 ls [])) (n : Nat) (y1c : Int32) (y2c : Int32) (d_thrownc : Int32) (d_usedc : Nat → Int32) (d_usedByc : Nat → Int32) (d_reservedForc : Nat → Int32) (d_ranc : Int32) (d_sumc : Int32) (d_pieceDualc : Nat → Int32) (d_orderDualc : Nat → Int32) (d_tablec : Nat → Int64) (H : Heap) (locs : List Loc) (ls : Array Slot), lv_has ls 7 [(0, .ref dq), (1, .int y1c), (2, .int y2c)] → va_P (dC, dI) classes [(dq, .inr (5, [.int d_thrownc, .int d_today, .int d_cut, .int d_aging, .int d_saleFrom, .int d_pieces, .int d_orders, .ref dq8, .ref dq9, .ref dq10, .ref dq11, .ref dq12, .ref dq13, .ref dq14, .ref dq15, .int d_ranc, .int d_sumc, .ref dq18, .ref dq19, .ref dq20])), (dq8, .inl (cI, 40, .inl d_piece)), (dq9, .inl (cI, 40, .inl d_order)), (dq10, .inl (cI, 10, .inl d_came)), (dq11, .inl (cI, 100, .inl d_worth)), (dq12, .inl (cZ, 10, .inl d_usedc)), (dq13, .inl (cI, 10, .inl d_usedByc)), (dq14, .inl (cI, 10, .inl d_reservedForc)), (dq15, .inl (cI, 10, .inl d_reservedTo)), (dq18, .inl (cI, 10, .inl d_pieceDualc)), (dq19, .inl (cI, 10, .inl d_orderDualc)), (dq20, .inl (cJ, 11264, .inr (.inl d_tablec)))] H → va_D A [(dq, .inr (5, [.int d_thrownc, .int d_today, .int d_cut, .int d_aging, .int d_saleFrom, .int d_pieces, .int d_orders, .ref dq8, .ref dq9, .ref dq10, .ref dq11, .ref dq12, .ref dq13, .ref dq14, .ref dq15, .int d_ranc, .int d_sumc, .ref dq18, .ref dq19, .ref dq20])), (dq8, .inl (cI, 40, .inl d_piece)), (dq9, .inl (cI, 40, .inl d_order)), (dq10, .inl (cI, 10, .inl d_came)), (dq11, .inl (cI, 100, .inl d_worth)), (dq12, .inl (cZ, 10, .inl d_usedc)), (dq13, .inl (cI, 10, .inl d_usedByc)), (dq14, .inl (cI, 10, .inl d_reservedForc)), (dq15, .inl (cI, 10, .inl d_reservedTo)), (dq18, .inl (cI, 10, .inl d_pieceDualc)), (dq19, .inl (cI, 10, .inl d_orderDualc)), (dq20, .inl (cJ, 11264, .inr (.inl d_tablec)))] → va_S A s.heap H locs → L_D_run_66 N d_today d_cut d_aging d_pieces d_orders d_piece d_order d_came d_worth d_reservedTo K n y1c y2c d_thrownc d_usedc d_usedByc d_reservedForc d_ranc d_sumc d_pieceDualc d_orderDualc d_tablec = some res → W p l e (headSpec w_D_run ({ frames := 4, cells := 0, slots := 0, locals := 95 } : Room)).room s m ([.ref dq] : List Value).toArray below meth c H locs 0 0 (MQ below (va_Qi (fun (x : Int32) (_ : Unit) => res.1 = x) (fun _ t => va_P (dC, dI) classes [(dq, .inr (5, [.int res.2.1, .int d_today, .int d_cut, .int d_aging, .int d_saleFrom, .int d_pieces, .int d_orders, .ref dq8, .ref dq9, .ref dq10, .ref dq11, .ref dq12, .ref dq13, .ref dq14, .ref dq15, .int res.2.2.2.2.2.1, .int res.2.2.2.2.2.2.1, .ref dq18, .ref dq19, .ref dq20])), (dq8, .inl (cI, 40, .inl d_piece)), (dq9, .inl (cI, 40, .inl d_order)), (dq10, .inl (cI, 10, .inl d_came)), (dq11, .inl (cI, 100, .inl d_worth)), (dq12, .inl (cZ, 10, .inl res.2.2.1)), (dq13, .inl (cI, 10, .inl res.2.2.2.1)), (dq14, .inl (cI, 10, .inl res.2.2.2.2.1)), (dq15, .inl (cI, 10, .inl d_reservedTo)), (dq18, .inl (cI, 10, .inl res.2.2.2.2.2.2.2.1)), (dq19, .inl (cI, 10, .inl res.2.2.2.2.2.2.2.2.1)), (dq20, .inl (cJ, 11264, .inr (.inl res.2.2.2.2.2.2.2.2.2)))] t.heap ∧ va_K (dC, dI) classes [(cI, .int), (cZ, .boolean), (cJ, .long)] t ∧ va_D A [(dq, .inr (5, [.int res.2.1, .int d_today, .int d_cut, .int d_aging, .int d_saleFrom, .int d_pieces, .int d_orders, .ref dq8, .ref dq9, .ref dq10, .ref dq11, .ref dq12, .ref dq13, .ref dq14, .ref dq15, .int res.2.2.2.2.2.1, .int res.2.2.2.2.2.2.1, .ref dq18, .ref dq19, .ref dq20])), (dq8, .inl (cI, 40, .inl d_piece)), (dq9, .inl (cI, 40, .inl d_order)), (dq10, .inl (cI, 10, .inl d_came)), (dq11, .inl (cI, 100, .inl d_worth)), (dq12, .inl (cZ, 10, .inl res.2.2.1)), (dq13, .inl (cI, 10, .inl res.2.2.2.1)), (dq14, .inl (cI, 10, .inl res.2.2.2.2.1)), (dq15, .inl (cI, 10, .inl d_reservedTo)), (dq18, .inl (cI, 10, .inl res.2.2.2.2.2.2.2.1)), (dq19, .inl (cI, 10, .inl res.2.2.2.2.2.2.2.2.1)), (dq20, .inl (cJ, 11264, .inr (.inl res.2.2.2.2.2.2.2.2.2)))]) A) ([.ref dq] : List Value).toArray s 0 0 A) (F0 m 66 ls []) := by
    intro K hK66 n
    induction n with
    | zero => intro y1c y2c d_thrownc d_usedc d_usedByc d_reservedForc d_ranc d_sumc d_pieceDualc d_orderDualc d_tablec H locs ls hl hP hD hS hm; exact absurd hm (by simp [L_D_run_66])
    | succ n ih66 =>
      intro y1c y2c d_thrownc d_usedc d_usedByc d_reservedForc d_ranc d_sumc d_pieceDualc d_orderDualc d_tablec H locs ls hl hP hD hS hm
      rw [L_D_run_66] at hm
      refine lv_iload_n hx hb d_D_run_66 rfl (lv_at hl 2 rfl) ?_
      refine lv_aload_n hx hb d_D_run_67 rfl (lv_at hl 0 rfl) ?_
      refine va_get (D := (dC, dI)) (ci := 5) (v := .int d_orders) (C := R_D) (T := F_D) (N := 20) hx hb hts hk1 hown hK hP 0 rfl rfl 6 (by decide) hk6 (fun _ h9 => h9) rfl d_D_run_68 ?_
      refine lv_icmp_ge (tgt := 104) hx hb d_D_run_71 (by decide) (fun c9 => ?_) (fun c9 => ?_)
      · replace hm := if_t c9 hm
        have hl : lv_has ls 7 [(0, .ref dq), (1, .int y1c), (2, .int y2c)] := lv_sub hl [0, 1, 2] rfl
        exact hK66 y1c y2c d_thrownc d_usedc d_usedByc d_reservedForc d_ranc d_sumc d_pieceDualc d_orderDualc d_tablec _ _ ls hl hP hD hS hm
      · replace hm := if_f c9 hm
        refine lv_aload_n hx hb d_D_run_74 rfl (lv_at hl 0 rfl) ?_
        refine lv_iload_n hx hb d_D_run_75 rfl (lv_at hl 2 rfl) ?_
        obtain ⟨u4, hc, hm⟩ := bd hm
        try dsimp only at hm
        have hPc := hP.sub (ws' := [(dq, .inr (5, [.int d_thrownc, .int d_today, .int d_cut, .int d_aging, .int d_saleFrom, .int d_pieces, .int d_orders, .ref dq8, .ref dq9, .ref dq10, .ref dq11, .ref dq12, .ref dq13, .ref dq14, .ref dq15, .int d_ranc, .int d_sumc, .ref dq18, .ref dq19, .ref dq20])), (dq8, .inl (cI, 40, .inl d_piece)), (dq9, .inl (cI, 40, .inl d_order)), (dq10, .inl (cI, 10, .inl d_came)), (dq11, .inl (cI, 100, .inl d_worth)), (dq12, .inl (cZ, 10, .inl d_usedc)), (dq13, .inl (cI, 10, .inl d_usedByc)), (dq14, .inl (cI, 10, .inl d_reservedForc)), (dq15, .inl (cI, 10, .inl d_reservedTo)), (dq18, .inl (cI, 10, .inl d_pieceDualc)), (dq19, .inl (cI, 10, .inl d_orderDualc)), (dq20, .inl (cJ, 11264, .inr (.inl d_tablec)))]) [0, 1, 2, 3, 4, 5, 6, 7, 8, 9, 10, 11] rfl
        have hDc := hD.sub (ws' := [(dq, .inr (5, [.int d_thrownc, .int d_today, .int d_cut, .int d_aging, .int d_saleFrom, .int d_pieces, .int d_orders, .ref dq8, .ref dq9, .ref dq10, .ref dq11, .ref dq12, .ref dq13, .ref dq14, .ref dq15, .int d_ranc, .int d_sumc, .ref dq18, .ref dq19, .ref dq20])), (dq8, .inl (cI, 40, .inl d_piece)), (dq9, .inl (cI, 40, .inl d_order)), (dq10, .inl (cI, 10, .inl d_came)), (dq11, .inl (cI, 100, .inl d_worth)), (dq12, .inl (cZ, 10, .inl d_usedc)), (dq13, .inl (cI, 10, .inl d_usedByc)), (dq14, .inl (cI, 10, .inl d_reservedForc)), (dq15, .inl (cI, 10, .inl d_reservedTo)), (dq18, .inl (cI, 10, .inl d_pieceDualc)), (dq19, .inl (cI, 10, .inl d_orderDualc)), (dq20, .inl (cJ, 11264, .inr (.inl d_tablec)))]) [0, 1, 2, 3, 4, 5, 6, 7, 8, 9, 10, 11] (by decide) rfl
        have hFc := va_free (wc := [(dq, .inr (5, [.int d_thrownc, .int d_today, .int d_cut, .int d_aging, .int d_saleFrom, .int d_pieces, .int d_orders, .ref dq8, .ref dq9, .ref dq10, .ref dq11, .ref dq12, .ref dq13, .ref dq14, .ref dq15, .int d_ranc, .int d_sumc, .ref dq18, .ref dq19, .ref dq20])), (dq8, .inl (cI, 40, .inl d_piece)), (dq9, .inl (cI, 40, .inl d_order)), (dq10, .inl (cI, 10, .inl d_came)), (dq11, .inl (cI, 100, .inl d_worth)), (dq12, .inl (cZ, 10, .inl d_usedc)), (dq13, .inl (cI, 10, .inl d_usedByc)), (dq14, .inl (cI, 10, .inl d_reservedForc)), (dq15, .inl (cI, 10, .inl d_reservedTo)), (dq18, .inl (cI, 10, .inl d_pieceDualc)), (dq19, .inl (cI, 10, .inl d_orderDualc)), (dq20, .inl (cJ, 11264, .inr (.inl d_tablec)))]) hD hS hA [0, 1, 2, 3, 4, 5, 6, 7, 8, 9, 10, 11] rfl
        refine va_callv (va_runV (As := [.int y2c]) (rest := []) ⟨hx, hb, hml, hown, hts⟩ (c_D_fill l dC dI cI cZ cJ dq dq8 dq9 dq10 dq11 dq12 dq13 dq14 dq15 dq18 dq19 dq20 H.size d_thrownc d_today d_cut d_aging d_saleFrom d_pieces d_orders d_piece d_order d_came d_worth d_usedc d_usedByc d_reservedForc d_reservedTo d_ranc d_sumc d_pieceDualc d_orderDualc d_tablec y2c N u4 hc) (cwV 1 hts (gV (w0 710 rfl) (w0 711 rfl) (w0 23 rfl) (w0 33 rfl) (w0 712 rfl)) rfl rfl rfl q_D_fill ⟨Nat.le_of_ble_eq_true rfl, Nat.le_of_ble_eq_true rfl⟩) (wr_preV hK hPc hDc hN 5 0 (R_D, F_D, 20) rfl rfl) rfl rfl hl.1 rfl (lv_room (Nat.le_of_ble_eq_true rfl)) d_D_run_76 ⟨Nat.le_of_ble_eq_true rfl, Nat.le_of_ble_eq_true rfl⟩) hS (fun q _ h => hFc q h) hFc (fun u t H1 locs ht hvm hw hB hz1 hk1 hS => ?_)
        obtain ⟨hP1, hK1, hD1⟩ := hB
        rw [ht] at hP1
        obtain ⟨hP, hD⟩ := va_join (wr := []) (w1 := [(dq, .inr (5, [.int d_thrownc, .int d_today, .int d_cut, .int d_aging, .int d_saleFrom, .int d_pieces, .int d_orders, .ref dq8, .ref dq9, .ref dq10, .ref dq11, .ref dq12, .ref dq13, .ref dq14, .ref dq15, .int d_ranc, .int d_sumc, .ref dq18, .ref dq19, .ref dq20])), (dq8, .inl (cI, 40, .inl d_piece)), (dq9, .inl (cI, 40, .inl d_order)), (dq10, .inl (cI, 10, .inl d_came)), (dq11, .inl (cI, 100, .inl d_worth)), (dq12, .inl (cZ, 10, .inl d_usedc)), (dq13, .inl (cI, 10, .inl d_usedByc)), (dq14, .inl (cI, 10, .inl d_reservedForc)), (dq15, .inl (cI, 10, .inl d_reservedTo)), (dq18, .inl (cI, 10, .inl d_pieceDualc)), (dq19, .inl (cI, 10, .inl d_orderDualc)), (dq20, .inl (cJ, 11264, .inr (.inl u4)))]) hP hD [0, 1, 2, 3, 4, 5, 6, 7, 8, 9, 10, 11] [] rfl rfl (by decide) (by decide) hk1 hFc hP1 hD1
        generalize H1 = H at hP hS ⊢
        have hP : va_P (dC, dI) classes [(dq, .inr (5, [.int d_thrownc, .int d_today, .int d_cut, .int d_aging, .int d_saleFrom, .int d_pieces, .int d_orders, .ref dq8, .ref dq9, .ref dq10, .ref dq11, .ref dq12, .ref dq13, .ref dq14, .ref dq15, .int d_ranc, .int d_sumc, .ref dq18, .ref dq19, .ref dq20])), (dq8, .inl (cI, 40, .inl d_piece)), (dq9, .inl (cI, 40, .inl d_order)), (dq10, .inl (cI, 10, .inl d_came)), (dq11, .inl (cI, 100, .inl d_worth)), (dq12, .inl (cZ, 10, .inl d_usedc)), (dq13, .inl (cI, 10, .inl d_usedByc)), (dq14, .inl (cI, 10, .inl d_reservedForc)), (dq15, .inl (cI, 10, .inl d_reservedTo)), (dq18, .inl (cI, 10, .inl d_pieceDualc)), (dq19, .inl (cI, 10, .inl d_orderDualc)), (dq20, .inl (cJ, 11264, .inr (.inl u4)))] H := hP
        have hD : va_D A [(dq, .inr (5, [.int d_thrownc, .int d_today, .int d_cut, .int d_aging, .int d_saleFrom, .int d_pieces, .int d_orders, .ref dq8, .ref dq9, .ref dq10, .ref dq11, .ref dq12, .ref dq13, .ref dq14, .ref dq15, .int d_ranc, .int d_sumc, .ref dq18, .ref dq19, .ref dq20])), (dq8, .inl (cI, 40, .inl d_piece)), (dq9, .inl (cI, 40, .inl d_order)), (dq10, .inl (cI, 10, .inl d_came)), (dq11, .inl (cI, 100, .inl d_worth)), (dq12, .inl (cZ, 10, .inl d_usedc)), (dq13, .inl (cI, 10, .inl d_usedByc)), (dq14, .inl (cI, 10, .inl d_reservedForc)), (dq15, .inl (cI, 10, .inl d_reservedTo)), (dq18, .inl (cI, 10, .inl d_pieceDualc)), (dq19, .inl (cI, 10, .inl d_orderDualc)), (dq20, .inl (cJ, 11264, .inr (.inl u4)))] := hD
        clear hP1 hD1 hPc hDc hFc hk1 hz1
        refine lv_aload_n hx hb d_D_run_79 rfl (lv_at hl 0 rfl) ?_
        refine va_get (D := (dC, dI)) (ci := 5) (v := .ref dq19) (C := R_D) (T := F_D) (N := 20) hx hb hts hk1 hown hK hP 0 rfl rfl 18 (by decide) hk2 (fun _ h9 => h9) rfl d_D_run_80 ?_
        refine lv_iload_n hx hb d_D_run_83 rfl (lv_at hl 2 rfl) ?_
        refine lv_iload_n hx hb d_D_run_84 rfl (lv_at hl 1 rfl) ?_
        refine lv_aload_n hx hb d_D_run_85 rfl (lv_at hl 0 rfl) ?_
        refine va_get (D := (dC, dI)) (ci := 5) (v := .ref dq20) (C := R_D) (T := F_D) (N := 20) hx hb hts hk1 hown hK hP 0 rfl rfl 19 (by decide) hk4 (fun _ h9 => h9) rfl d_D_run_86 ?_
        refine lv_iconst (v := 0) hx hb d_D_run_89 (by decide) ?_
        have h9 : vp_in (0 : Int32) 11264 := by unfold vp_in; decide
        refine va_lald hx hb hK hP 11 2 rfl rfl h9 d_D_run_90 ?_
        refine lv_ldc2 (v := 16) hx hb hown hk5 d_D_run_91 ?_
        refine lv_ldiv hx hb d_D_run_94 (by decide) ?_
        refine lv_l2i (v := ((u4 (0 : Int32).toNatClampNeg) / 16).toInt32) hx hb d_D_run_95 rfl ?_
        refine lv_isub hx hb d_D_run_96 ?_
        obtain ⟨h9, hm⟩ := gd hm
        refine va_iast hx hb hK hP hD hS 10 0 rfl rfl h9 d_D_run_97 (fun H locs hP hD hS => ?_)
        have hP : va_P (dC, dI) classes [(dq, .inr (5, [.int d_thrownc, .int d_today, .int d_cut, .int d_aging, .int d_saleFrom, .int d_pieces, .int d_orders, .ref dq8, .ref dq9, .ref dq10, .ref dq11, .ref dq12, .ref dq13, .ref dq14, .ref dq15, .int d_ranc, .int d_sumc, .ref dq18, .ref dq19, .ref dq20])), (dq8, .inl (cI, 40, .inl d_piece)), (dq9, .inl (cI, 40, .inl d_order)), (dq10, .inl (cI, 10, .inl d_came)), (dq11, .inl (cI, 100, .inl d_worth)), (dq12, .inl (cZ, 10, .inl d_usedc)), (dq13, .inl (cI, 10, .inl d_usedByc)), (dq14, .inl (cI, 10, .inl d_reservedForc)), (dq15, .inl (cI, 10, .inl d_reservedTo)), (dq18, .inl (cI, 10, .inl d_pieceDualc)), (dq19, .inl (cI, 10, .inl (upd d_orderDualc y2c.toNatClampNeg (y1c - ((u4 (0 : Int32).toNatClampNeg) / 16).toInt32)))), (dq20, .inl (cJ, 11264, .inr (.inl u4)))] H := hP
        have hD : va_D A [(dq, .inr (5, [.int d_thrownc, .int d_today, .int d_cut, .int d_aging, .int d_saleFrom, .int d_pieces, .int d_orders, .ref dq8, .ref dq9, .ref dq10, .ref dq11, .ref dq12, .ref dq13, .ref dq14, .ref dq15, .int d_ranc, .int d_sumc, .ref dq18, .ref dq19, .ref dq20])), (dq8, .inl (cI, 40, .inl d_piece)), (dq9, .inl (cI, 40, .inl d_order)), (dq10, .inl (cI, 10, .inl d_came)), (dq11, .inl (cI, 100, .inl d_worth)), (dq12, .inl (cZ, 10, .inl d_usedc)), (dq13, .inl (cI, 10, .inl d_usedByc)), (dq14, .inl (cI, 10, .inl d_reservedForc)), (dq15, .inl (cI, 10, .inl d_reservedTo)), (dq18, .inl (cI, 10, .inl d_pieceDualc)), (dq19, .inl (cI, 10, .inl (upd d_orderDualc y2c.toNatClampNeg (y1c - ((u4 (0 : Int32).toNatClampNeg) / 16).toInt32)))), (dq20, .inl (cJ, 11264, .inr (.inl u4)))] := hD
        refine lv_iinc (v := (y2c + 1)) (lv' := [(2, .int (y2c + 1)), (0, .ref dq), (1, .int y1c)]) hx hb d_D_run_98 hl (k := 2) rfl rfl (by decide) rfl (fun ls hl => ?_)
        refine lv_goto (tgt := 66) hx hb d_D_run_101 (by decide) ?_
        have hl : lv_has ls 7 [(0, .ref dq), (1, .int y1c), (2, .int (y2c + 1))] := lv_sub hl [1, 2, 0] rfl
        exact ih66 y1c (y2c + 1) d_thrownc d_usedc d_usedByc d_reservedForc d_ranc d_sumc d_pieceDualc (upd d_orderDualc y2c.toNatClampNeg (y1c - ((u4 (0 : Int32).toNatClampNeg) / 16).toInt32)) u4 _ _ ls hl hP hD hS hm
  have hl : lv_has ls 7 [(0, .ref dq), (1, .int (((u2 (0 : Int32).toNatClampNeg) / 16).toInt32)), (2, .int 0)] := lv_sub hl [2, 1, 0] rfl
  refine key66 _ (fun y1c y2c d_thrownc d_usedc d_usedByc d_reservedForc d_ranc d_sumc d_pieceDualc d_orderDualc d_tablec H locs ls hl hP hD hS hm => ?_) N (((u2 (0 : Int32).toNatClampNeg) / 16).toInt32) 0 d_thrownb d_usedb d_usedByb d_reservedForb d_ranb d_sumb d_pieceDualb d_orderDualb u2 _ _ ls hl hP hD hS hm
  try dsimp only at hm
  refine lv_aload_n hx hb d_D_run_104 rfl (lv_at hl 0 rfl) ?_
  refine lv_iconst (v := (-1)) hx hb d_D_run_105 (by decide) ?_
  obtain ⟨u7, hc, hm⟩ := bd hm
  try dsimp only at hm
  have hPc := hP.sub (ws' := [(dq, .inr (5, [.int d_thrownc, .int d_today, .int d_cut, .int d_aging, .int d_saleFrom, .int d_pieces, .int d_orders, .ref dq8, .ref dq9, .ref dq10, .ref dq11, .ref dq12, .ref dq13, .ref dq14, .ref dq15, .int d_ranc, .int d_sumc, .ref dq18, .ref dq19, .ref dq20])), (dq8, .inl (cI, 40, .inl d_piece)), (dq9, .inl (cI, 40, .inl d_order)), (dq10, .inl (cI, 10, .inl d_came)), (dq11, .inl (cI, 100, .inl d_worth)), (dq12, .inl (cZ, 10, .inl d_usedc)), (dq13, .inl (cI, 10, .inl d_usedByc)), (dq14, .inl (cI, 10, .inl d_reservedForc)), (dq15, .inl (cI, 10, .inl d_reservedTo)), (dq18, .inl (cI, 10, .inl d_pieceDualc)), (dq19, .inl (cI, 10, .inl d_orderDualc)), (dq20, .inl (cJ, 11264, .inr (.inl d_tablec)))]) [0, 1, 2, 3, 4, 5, 6, 7, 8, 9, 10, 11] rfl
  have hDc := hD.sub (ws' := [(dq, .inr (5, [.int d_thrownc, .int d_today, .int d_cut, .int d_aging, .int d_saleFrom, .int d_pieces, .int d_orders, .ref dq8, .ref dq9, .ref dq10, .ref dq11, .ref dq12, .ref dq13, .ref dq14, .ref dq15, .int d_ranc, .int d_sumc, .ref dq18, .ref dq19, .ref dq20])), (dq8, .inl (cI, 40, .inl d_piece)), (dq9, .inl (cI, 40, .inl d_order)), (dq10, .inl (cI, 10, .inl d_came)), (dq11, .inl (cI, 100, .inl d_worth)), (dq12, .inl (cZ, 10, .inl d_usedc)), (dq13, .inl (cI, 10, .inl d_usedByc)), (dq14, .inl (cI, 10, .inl d_reservedForc)), (dq15, .inl (cI, 10, .inl d_reservedTo)), (dq18, .inl (cI, 10, .inl d_pieceDualc)), (dq19, .inl (cI, 10, .inl d_orderDualc)), (dq20, .inl (cJ, 11264, .inr (.inl d_tablec)))]) [0, 1, 2, 3, 4, 5, 6, 7, 8, 9, 10, 11] (by decide) rfl
  have hFc := va_free (wc := [(dq, .inr (5, [.int d_thrownc, .int d_today, .int d_cut, .int d_aging, .int d_saleFrom, .int d_pieces, .int d_orders, .ref dq8, .ref dq9, .ref dq10, .ref dq11, .ref dq12, .ref dq13, .ref dq14, .ref dq15, .int d_ranc, .int d_sumc, .ref dq18, .ref dq19, .ref dq20])), (dq8, .inl (cI, 40, .inl d_piece)), (dq9, .inl (cI, 40, .inl d_order)), (dq10, .inl (cI, 10, .inl d_came)), (dq11, .inl (cI, 100, .inl d_worth)), (dq12, .inl (cZ, 10, .inl d_usedc)), (dq13, .inl (cI, 10, .inl d_usedByc)), (dq14, .inl (cI, 10, .inl d_reservedForc)), (dq15, .inl (cI, 10, .inl d_reservedTo)), (dq18, .inl (cI, 10, .inl d_pieceDualc)), (dq19, .inl (cI, 10, .inl d_orderDualc)), (dq20, .inl (cJ, 11264, .inr (.inl d_tablec)))]) hD hS hA [0, 1, 2, 3, 4, 5, 6, 7, 8, 9, 10, 11] rfl
  refine va_callv (va_runV (As := [.int (-1)]) (rest := []) ⟨hx, hb, hml, hown, hts⟩ (c_D_fill l dC dI cI cZ cJ dq dq8 dq9 dq10 dq11 dq12 dq13 dq14 dq15 dq18 dq19 dq20 H.size d_thrownc d_today d_cut d_aging d_saleFrom d_pieces d_orders d_piece d_order d_came d_worth d_usedc d_usedByc d_reservedForc d_reservedTo d_ranc d_sumc d_pieceDualc d_orderDualc d_tablec (-1) N u7 hc) (cwV 1 hts (gV (w0 710 rfl) (w0 711 rfl) (w0 23 rfl) (w0 33 rfl) (w0 712 rfl)) rfl rfl rfl q_D_fill ⟨Nat.le_of_ble_eq_true rfl, Nat.le_of_ble_eq_true rfl⟩) (wr_preV hK hPc hDc hN 5 0 (R_D, F_D, 20) rfl rfl) rfl rfl hl.1 rfl (lv_room (Nat.le_of_ble_eq_true rfl)) d_D_run_106 ⟨Nat.le_of_ble_eq_true rfl, Nat.le_of_ble_eq_true rfl⟩) hS (fun q _ h => hFc q h) hFc (fun u t H1 locs ht hvm hw hB hz1 hk1 hS => ?_)
  obtain ⟨hP1, hK1, hD1⟩ := hB
  rw [ht] at hP1
  obtain ⟨hP, hD⟩ := va_join (wr := []) (w1 := [(dq, .inr (5, [.int d_thrownc, .int d_today, .int d_cut, .int d_aging, .int d_saleFrom, .int d_pieces, .int d_orders, .ref dq8, .ref dq9, .ref dq10, .ref dq11, .ref dq12, .ref dq13, .ref dq14, .ref dq15, .int d_ranc, .int d_sumc, .ref dq18, .ref dq19, .ref dq20])), (dq8, .inl (cI, 40, .inl d_piece)), (dq9, .inl (cI, 40, .inl d_order)), (dq10, .inl (cI, 10, .inl d_came)), (dq11, .inl (cI, 100, .inl d_worth)), (dq12, .inl (cZ, 10, .inl d_usedc)), (dq13, .inl (cI, 10, .inl d_usedByc)), (dq14, .inl (cI, 10, .inl d_reservedForc)), (dq15, .inl (cI, 10, .inl d_reservedTo)), (dq18, .inl (cI, 10, .inl d_pieceDualc)), (dq19, .inl (cI, 10, .inl d_orderDualc)), (dq20, .inl (cJ, 11264, .inr (.inl u7)))]) hP hD [0, 1, 2, 3, 4, 5, 6, 7, 8, 9, 10, 11] [] rfl rfl (by decide) (by decide) hk1 hFc hP1 hD1
  generalize H1 = H at hP hS ⊢
  have hP : va_P (dC, dI) classes [(dq, .inr (5, [.int d_thrownc, .int d_today, .int d_cut, .int d_aging, .int d_saleFrom, .int d_pieces, .int d_orders, .ref dq8, .ref dq9, .ref dq10, .ref dq11, .ref dq12, .ref dq13, .ref dq14, .ref dq15, .int d_ranc, .int d_sumc, .ref dq18, .ref dq19, .ref dq20])), (dq8, .inl (cI, 40, .inl d_piece)), (dq9, .inl (cI, 40, .inl d_order)), (dq10, .inl (cI, 10, .inl d_came)), (dq11, .inl (cI, 100, .inl d_worth)), (dq12, .inl (cZ, 10, .inl d_usedc)), (dq13, .inl (cI, 10, .inl d_usedByc)), (dq14, .inl (cI, 10, .inl d_reservedForc)), (dq15, .inl (cI, 10, .inl d_reservedTo)), (dq18, .inl (cI, 10, .inl d_pieceDualc)), (dq19, .inl (cI, 10, .inl d_orderDualc)), (dq20, .inl (cJ, 11264, .inr (.inl u7)))] H := hP
  have hD : va_D A [(dq, .inr (5, [.int d_thrownc, .int d_today, .int d_cut, .int d_aging, .int d_saleFrom, .int d_pieces, .int d_orders, .ref dq8, .ref dq9, .ref dq10, .ref dq11, .ref dq12, .ref dq13, .ref dq14, .ref dq15, .int d_ranc, .int d_sumc, .ref dq18, .ref dq19, .ref dq20])), (dq8, .inl (cI, 40, .inl d_piece)), (dq9, .inl (cI, 40, .inl d_order)), (dq10, .inl (cI, 10, .inl d_came)), (dq11, .inl (cI, 100, .inl d_worth)), (dq12, .inl (cZ, 10, .inl d_usedc)), (dq13, .inl (cI, 10, .inl d_usedByc)), (dq14, .inl (cI, 10, .inl d_reservedForc)), (dq15, .inl (cI, 10, .inl d_reservedTo)), (dq18, .inl (cI, 10, .inl d_pieceDualc)), (dq19, .inl (cI, 10, .inl d_orderDualc)), (dq20, .inl (cJ, 11264, .inr (.inl u7)))] := hD
  clear hP1 hD1 hPc hDc hFc hk1 hz1
  refine lv_aload_n hx hb d_D_run_109 rfl (lv_at hl 0 rfl) ?_
  refine lv_iload_n hx hb d_D_run_110 rfl (lv_at hl 1 rfl) ?_
  refine va_put (D := (dC, dI)) (ci := 5) (v := .int y1c) (ty := .int) (C := R_D) (T := F_D) (N := 20) hx hb hts hk1 t_D t_D_ok n_D hown hK hP hD hS 0 rfl rfl 16 (by decide) hk7 (fun _ h9 => h9) rfl (by decide +kernel) rfl rfl (Nat.le_of_ble_eq_true rfl) d_D_run_111 (fun H locs hP hD hS => ?_)
  have hP : va_P (dC, dI) classes [(dq, .inr (5, [.int d_thrownc, .int d_today, .int d_cut, .int d_aging, .int d_saleFrom, .int d_pieces, .int d_orders, .ref dq8, .ref dq9, .ref dq10, .ref dq11, .ref dq12, .ref dq13, .ref dq14, .ref dq15, .int d_ranc, .int y1c, .ref dq18, .ref dq19, .ref dq20])), (dq8, .inl (cI, 40, .inl d_piece)), (dq9, .inl (cI, 40, .inl d_order)), (dq10, .inl (cI, 10, .inl d_came)), (dq11, .inl (cI, 100, .inl d_worth)), (dq12, .inl (cZ, 10, .inl d_usedc)), (dq13, .inl (cI, 10, .inl d_usedByc)), (dq14, .inl (cI, 10, .inl d_reservedForc)), (dq15, .inl (cI, 10, .inl d_reservedTo)), (dq18, .inl (cI, 10, .inl d_pieceDualc)), (dq19, .inl (cI, 10, .inl d_orderDualc)), (dq20, .inl (cJ, 11264, .inr (.inl u7)))] H := hP
  have hD : va_D A [(dq, .inr (5, [.int d_thrownc, .int d_today, .int d_cut, .int d_aging, .int d_saleFrom, .int d_pieces, .int d_orders, .ref dq8, .ref dq9, .ref dq10, .ref dq11, .ref dq12, .ref dq13, .ref dq14, .ref dq15, .int d_ranc, .int y1c, .ref dq18, .ref dq19, .ref dq20])), (dq8, .inl (cI, 40, .inl d_piece)), (dq9, .inl (cI, 40, .inl d_order)), (dq10, .inl (cI, 10, .inl d_came)), (dq11, .inl (cI, 100, .inl d_worth)), (dq12, .inl (cZ, 10, .inl d_usedc)), (dq13, .inl (cI, 10, .inl d_usedByc)), (dq14, .inl (cI, 10, .inl d_reservedForc)), (dq15, .inl (cI, 10, .inl d_reservedTo)), (dq18, .inl (cI, 10, .inl d_pieceDualc)), (dq19, .inl (cI, 10, .inl d_orderDualc)), (dq20, .inl (cJ, 11264, .inr (.inl u7)))] := hD
  refine lv_aload_n hx hb d_D_run_114 rfl (lv_at hl 0 rfl) ?_
  refine lv_iconst (v := 1) hx hb d_D_run_115 (by decide) ?_
  refine va_put (D := (dC, dI)) (ci := 5) (v := .int 1) (ty := .boolean) (C := R_D) (T := F_D) (N := 20) hx hb hts hk1 t_D t_D_ok n_D hown hK hP hD hS 0 rfl rfl 15 (by decide) hk8 (fun _ h9 => h9) rfl (by decide +kernel) rfl rfl (Nat.le_of_ble_eq_true rfl) d_D_run_116 (fun H locs hP hD hS => ?_)
  have hP : va_P (dC, dI) classes [(dq, .inr (5, [.int d_thrownc, .int d_today, .int d_cut, .int d_aging, .int d_saleFrom, .int d_pieces, .int d_orders, .ref dq8, .ref dq9, .ref dq10, .ref dq11, .ref dq12, .ref dq13, .ref dq14, .ref dq15, .int 1, .int y1c, .ref dq18, .ref dq19, .ref dq20])), (dq8, .inl (cI, 40, .inl d_piece)), (dq9, .inl (cI, 40, .inl d_order)), (dq10, .inl (cI, 10, .inl d_came)), (dq11, .inl (cI, 100, .inl d_worth)), (dq12, .inl (cZ, 10, .inl d_usedc)), (dq13, .inl (cI, 10, .inl d_usedByc)), (dq14, .inl (cI, 10, .inl d_reservedForc)), (dq15, .inl (cI, 10, .inl d_reservedTo)), (dq18, .inl (cI, 10, .inl d_pieceDualc)), (dq19, .inl (cI, 10, .inl d_orderDualc)), (dq20, .inl (cJ, 11264, .inr (.inl u7)))] H := hP
  have hD : va_D A [(dq, .inr (5, [.int d_thrownc, .int d_today, .int d_cut, .int d_aging, .int d_saleFrom, .int d_pieces, .int d_orders, .ref dq8, .ref dq9, .ref dq10, .ref dq11, .ref dq12, .ref dq13, .ref dq14, .ref dq15, .int 1, .int y1c, .ref dq18, .ref dq19, .ref dq20])), (dq8, .inl (cI, 40, .inl d_piece)), (dq9, .inl (cI, 40, .inl d_order)), (dq10, .inl (cI, 10, .inl d_came)), (dq11, .inl (cI, 100, .inl d_worth)), (dq12, .inl (cZ, 10, .inl d_usedc)), (dq13, .inl (cI, 10, .inl d_usedByc)), (dq14, .inl (cI, 10, .inl d_reservedForc)), (dq15, .inl (cI, 10, .inl d_reservedTo)), (dq18, .inl (cI, 10, .inl d_pieceDualc)), (dq19, .inl (cI, 10, .inl d_orderDualc)), (dq20, .inl (cJ, 11264, .inr (.inl u7)))] := hD
  refine lv_iconst (v := 0) hx hb d_D_run_119 (by decide) ?_
  refine lv_istore_n (lv' := [(2, .int 0), (0, .ref dq), (1, .int y1c)]) hx hb d_D_run_120 rfl hl (by decide) rfl (fun ls hl => ?_)
  refine lv_iconst (v := 0) hx hb d_D_run_121 (by decide) ?_
  refine lv_istore_n (lv' := [(3, .int 0), (2, .int 0), (0, .ref dq), (1, .int y1c)]) hx hb d_D_run_122 rfl hl (by decide) rfl (fun ls hl => ?_)
  refine lv_iconst (v := 0) hx hb d_D_run_123 (by decide) ?_
  refine lv_istore (lv' := [(4, .int 0), (3, .int 0), (2, .int 0), (0, .ref dq), (1, .int y1c)]) hx hb d_D_run_124 hl (by decide) rfl (fun ls hl => ?_)
  have key126 : ∀ (K : Int32 → Int32 → Int32 → Int32 → Int32 → (Nat → Int32) → (Nat → Int32) → (Nat → Int32) → Int32 → Int32 → (Nat → Int32) → (Nat → Int32) → (Nat → Int64) → Option (Int32 × Int32 × (Nat → Int32) × (Nat → Int32) × (Nat → Int32) × Int32 × Int32 × (Nat → Int32) × (Nat → Int32) × (Nat → Int64))) (_ : ∀ (y1d : Int32) (y2d : Int32) (y3d : Int32) (y4d : Int32) (d_thrownd : Int32) (d_usedd : Nat → Int32) (d_usedByd : Nat → Int32) (d_reservedFord : Nat → Int32) (d_rand : Int32) (d_sumd : Int32) (d_pieceDuald : Nat → Int32) (d_orderDuald : Nat → Int32) (d_tabled : Nat → Int64) (H : Heap) (locs : List Loc) (ls : Array Slot), lv_has ls 7 [(0, .ref dq), (1, .int y1d), (2, .int y2d), (3, .int y3d), (4, .int y4d)] → va_P (dC, dI) classes [(dq, .inr (5, [.int d_thrownd, .int d_today, .int d_cut, .int d_aging, .int d_saleFrom, .int d_pieces, .int d_orders, .ref dq8, .ref dq9, .ref dq10, .ref dq11, .ref dq12, .ref dq13, .ref dq14, .ref dq15, .int d_rand, .int d_sumd, .ref dq18, .ref dq19, .ref dq20])), (dq8, .inl (cI, 40, .inl d_piece)), (dq9, .inl (cI, 40, .inl d_order)), (dq10, .inl (cI, 10, .inl d_came)), (dq11, .inl (cI, 100, .inl d_worth)), (dq12, .inl (cZ, 10, .inl d_usedd)), (dq13, .inl (cI, 10, .inl d_usedByd)), (dq14, .inl (cI, 10, .inl d_reservedFord)), (dq15, .inl (cI, 10, .inl d_reservedTo)), (dq18, .inl (cI, 10, .inl d_pieceDuald)), (dq19, .inl (cI, 10, .inl d_orderDuald)), (dq20, .inl (cJ, 11264, .inr (.inl d_tabled)))] H → va_D A [(dq, .inr (5, [.int d_thrownd, .int d_today, .int d_cut, .int d_aging, .int d_saleFrom, .int d_pieces, .int d_orders, .ref dq8, .ref dq9, .ref dq10, .ref dq11, .ref dq12, .ref dq13, .ref dq14, .ref dq15, .int d_rand, .int d_sumd, .ref dq18, .ref dq19, .ref dq20])), (dq8, .inl (cI, 40, .inl d_piece)), (dq9, .inl (cI, 40, .inl d_order)), (dq10, .inl (cI, 10, .inl d_came)), (dq11, .inl (cI, 100, .inl d_worth)), (dq12, .inl (cZ, 10, .inl d_usedd)), (dq13, .inl (cI, 10, .inl d_usedByd)), (dq14, .inl (cI, 10, .inl d_reservedFord)), (dq15, .inl (cI, 10, .inl d_reservedTo)), (dq18, .inl (cI, 10, .inl d_pieceDuald)), (dq19, .inl (cI, 10, .inl d_orderDuald)), (dq20, .inl (cJ, 11264, .inr (.inl d_tabled)))] → va_S A s.heap H locs → K y1d y2d y3d y4d d_thrownd d_usedd d_usedByd d_reservedFord d_rand d_sumd d_pieceDuald d_orderDuald d_tabled = some res → W p l e (headSpec w_D_run ({ frames := 4, cells := 0, slots := 0, locals := 95 } : Room)).room s m ([.ref dq] : List Value).toArray below meth c H locs 0 0 (MQ below (va_Qi (fun (x : Int32) (_ : Unit) => res.1 = x) (fun _ t => va_P (dC, dI) classes [(dq, .inr (5, [.int res.2.1, .int d_today, .int d_cut, .int d_aging, .int d_saleFrom, .int d_pieces, .int d_orders, .ref dq8, .ref dq9, .ref dq10, .ref dq11, .ref dq12, .ref dq13, .ref dq14, .ref dq15, .int res.2.2.2.2.2.1, .int res.2.2.2.2.2.2.1, .ref dq18, .ref dq19, .ref dq20])), (dq8, .inl (cI, 40, .inl d_piece)), (dq9, .inl (cI, 40, .inl d_order)), (dq10, .inl (cI, 10, .inl d_came)), (dq11, .inl (cI, 100, .inl d_worth)), (dq12, .inl (cZ, 10, .inl res.2.2.1)), (dq13, .inl (cI, 10, .inl res.2.2.2.1)), (dq14, .inl (cI, 10, .inl res.2.2.2.2.1)), (dq15, .inl (cI, 10, .inl d_reservedTo)), (dq18, .inl (cI, 10, .inl res.2.2.2.2.2.2.2.1)), (dq19, .inl (cI, 10, .inl res.2.2.2.2.2.2.2.2.1)), (dq20, .inl (cJ, 11264, .inr (.inl res.2.2.2.2.2.2.2.2.2)))] t.heap ∧ va_K (dC, dI) classes [(cI, .int), (cZ, .boolean), (cJ, .long)] t ∧ va_D A [(dq, .inr (5, [.int res.2.1, .int d_today, .int d_cut, .int d_aging, .int d_saleFrom, .int d_pieces, .int d_orders, .ref dq8, .ref dq9, .ref dq10, .ref dq11, .ref dq12, .ref dq13, .ref dq14, .ref dq15, .int res.2.2.2.2.2.1, .int res.2.2.2.2.2.2.1, .ref dq18, .ref dq19, .ref dq20])), (dq8, .inl (cI, 40, .inl d_piece)), (dq9, .inl (cI, 40, .inl d_order)), (dq10, .inl (cI, 10, .inl d_came)), (dq11, .inl (cI, 100, .inl d_worth)), (dq12, .inl (cZ, 10, .inl res.2.2.1)), (dq13, .inl (cI, 10, .inl res.2.2.2.1)), (dq14, .inl (cI, 10, .inl res.2.2.2.2.1)), (dq15, .inl (cI, 10, .inl d_reservedTo)), (dq18, .inl (cI, 10, .inl res.2.2.2.2.2.2.2.1)), (dq19, .inl (cI, 10, .inl res.2.2.2.2.2.2.2.2.1)), (dq20, .inl (cJ, 11264, .inr (.inl res.2.2.2.2.2.2.2.2.2)))]) A) ([.ref dq] : List Value).toArray s 0 0 A) (F0 m 310 ls [])) (n : Nat) (y1d : Int32) (y2d : Int32) (y3d : Int32) (y4d : Int32) (d_thrownd : Int32) (d_usedd : Nat → Int32) (d_usedByd : Nat → Int32) (d_reservedFord : Nat → Int32) (d_rand : Int32) (d_sumd : Int32) (d_pieceDuald : Nat → Int32) (d_orderDuald : Nat → Int32) (d_tabled : Nat → Int64) (H : Heap) (locs : List Loc) (ls : Array Slot), lv_has ls 7 [(0, .ref dq), (1, .int y1d), (2, .int y2d), (3, .int y3d), (4, .int y4d)] → va_P (dC, dI) classes [(dq, .inr (5, [.int d_thrownd, .int d_today, .int d_cut, .int d_aging, .int d_saleFrom, .int d_pieces, .int d_orders, .ref dq8, .ref dq9, .ref dq10, .ref dq11, .ref dq12, .ref dq13, .ref dq14, .ref dq15, .int d_rand, .int d_sumd, .ref dq18, .ref dq19, .ref dq20])), (dq8, .inl (cI, 40, .inl d_piece)), (dq9, .inl (cI, 40, .inl d_order)), (dq10, .inl (cI, 10, .inl d_came)), (dq11, .inl (cI, 100, .inl d_worth)), (dq12, .inl (cZ, 10, .inl d_usedd)), (dq13, .inl (cI, 10, .inl d_usedByd)), (dq14, .inl (cI, 10, .inl d_reservedFord)), (dq15, .inl (cI, 10, .inl d_reservedTo)), (dq18, .inl (cI, 10, .inl d_pieceDuald)), (dq19, .inl (cI, 10, .inl d_orderDuald)), (dq20, .inl (cJ, 11264, .inr (.inl d_tabled)))] H → va_D A [(dq, .inr (5, [.int d_thrownd, .int d_today, .int d_cut, .int d_aging, .int d_saleFrom, .int d_pieces, .int d_orders, .ref dq8, .ref dq9, .ref dq10, .ref dq11, .ref dq12, .ref dq13, .ref dq14, .ref dq15, .int d_rand, .int d_sumd, .ref dq18, .ref dq19, .ref dq20])), (dq8, .inl (cI, 40, .inl d_piece)), (dq9, .inl (cI, 40, .inl d_order)), (dq10, .inl (cI, 10, .inl d_came)), (dq11, .inl (cI, 100, .inl d_worth)), (dq12, .inl (cZ, 10, .inl d_usedd)), (dq13, .inl (cI, 10, .inl d_usedByd)), (dq14, .inl (cI, 10, .inl d_reservedFord)), (dq15, .inl (cI, 10, .inl d_reservedTo)), (dq18, .inl (cI, 10, .inl d_pieceDuald)), (dq19, .inl (cI, 10, .inl d_orderDuald)), (dq20, .inl (cJ, 11264, .inr (.inl d_tabled)))] → va_S A s.heap H locs → L_D_run_126 N d_today d_cut d_aging d_pieces d_orders d_piece d_order d_came d_worth d_reservedTo K n y1d y2d y3d y4d d_thrownd d_usedd d_usedByd d_reservedFord d_rand d_sumd d_pieceDuald d_orderDuald d_tabled = some res → W p l e (headSpec w_D_run ({ frames := 4, cells := 0, slots := 0, locals := 95 } : Room)).room s m ([.ref dq] : List Value).toArray below meth c H locs 0 0 (MQ below (va_Qi (fun (x : Int32) (_ : Unit) => res.1 = x) (fun _ t => va_P (dC, dI) classes [(dq, .inr (5, [.int res.2.1, .int d_today, .int d_cut, .int d_aging, .int d_saleFrom, .int d_pieces, .int d_orders, .ref dq8, .ref dq9, .ref dq10, .ref dq11, .ref dq12, .ref dq13, .ref dq14, .ref dq15, .int res.2.2.2.2.2.1, .int res.2.2.2.2.2.2.1, .ref dq18, .ref dq19, .ref dq20])), (dq8, .inl (cI, 40, .inl d_piece)), (dq9, .inl (cI, 40, .inl d_order)), (dq10, .inl (cI, 10, .inl d_came)), (dq11, .inl (cI, 100, .inl d_worth)), (dq12, .inl (cZ, 10, .inl res.2.2.1)), (dq13, .inl (cI, 10, .inl res.2.2.2.1)), (dq14, .inl (cI, 10, .inl res.2.2.2.2.1)), (dq15, .inl (cI, 10, .inl d_reservedTo)), (dq18, .inl (cI, 10, .inl res.2.2.2.2.2.2.2.1)), (dq19, .inl (cI, 10, .inl res.2.2.2.2.2.2.2.2.1)), (dq20, .inl (cJ, 11264, .inr (.inl res.2.2.2.2.2.2.2.2.2)))] t.heap ∧ va_K (dC, dI) classes [(cI, .int), (cZ, .boolean), (cJ, .long)] t ∧ va_D A [(dq, .inr (5, [.int res.2.1, .int d_today, .int d_cut, .int d_aging, .int d_saleFrom, .int d_pieces, .int d_orders, .ref dq8, .ref dq9, .ref dq10, .ref dq11, .ref dq12, .ref dq13, .ref dq14, .ref dq15, .int res.2.2.2.2.2.1, .int res.2.2.2.2.2.2.1, .ref dq18, .ref dq19, .ref dq20])), (dq8, .inl (cI, 40, .inl d_piece)), (dq9, .inl (cI, 40, .inl d_order)), (dq10, .inl (cI, 10, .inl d_came)), (dq11, .inl (cI, 100, .inl d_worth)), (dq12, .inl (cZ, 10, .inl res.2.2.1)), (dq13, .inl (cI, 10, .inl res.2.2.2.1)), (dq14, .inl (cI, 10, .inl res.2.2.2.2.1)), (dq15, .inl (cI, 10, .inl d_reservedTo)), (dq18, .inl (cI, 10, .inl res.2.2.2.2.2.2.2.1)), (dq19, .inl (cI, 10, .inl res.2.2.2.2.2.2.2.2.1)), (dq20, .inl (cJ, 11264, .inr (.inl res.2.2.2.2.2.2.2.2.2)))]) A) ([.ref dq] : List Value).toArray s 0 0 A) (F0 m 126 ls []) := by
    intro K hK126 n
    induction n with
    | zero => intro y1d y2d y3d y4d d_thrownd d_usedd d_usedByd d_reservedFord d_rand d_sumd d_pieceDuald d_orderDuald d_tabled H locs ls hl hP hD hS hm; exact absurd hm (by simp [L_D_run_126])
    | succ n ih126 =>
      intro y1d y2d y3d y4d d_thrownd d_usedd d_usedByd d_reservedFord d_rand d_sumd d_pieceDuald d_orderDuald d_tabled H locs ls hl hP hD hS hm
      rw [L_D_run_126] at hm
      refine lv_iload hx hb d_D_run_126 (lv_at hl 4 rfl) ?_
      refine lv_aload_n hx hb d_D_run_128 rfl (lv_at hl 0 rfl) ?_
      refine va_get (D := (dC, dI)) (ci := 5) (v := .int d_pieces) (C := R_D) (T := F_D) (N := 20) hx hb hts hk1 hown hK hP 0 rfl rfl 5 (by decide) hk9 (fun _ h9 => h9) rfl d_D_run_129 ?_
      refine lv_icmp_ge (tgt := 310) hx hb d_D_run_132 (by decide) (fun c9 => ?_) (fun c9 => ?_)
      · replace hm := if_t c9 hm
        have hl : lv_has ls 7 [(0, .ref dq), (1, .int y1d), (2, .int y2d), (3, .int y3d), (4, .int y4d)] := lv_sub hl [0, 1, 2, 3, 4] rfl
        exact hK126 y1d y2d y3d y4d d_thrownd d_usedd d_usedByd d_reservedFord d_rand d_sumd d_pieceDuald d_orderDuald d_tabled _ _ ls hl hP hD hS hm
      · replace hm := if_f c9 hm
        refine lv_iconst (v := (-1)) hx hb d_D_run_135 (by decide) ?_
        refine lv_istore (lv' := [(5, .int (-1)), (0, .ref dq), (1, .int y1d), (2, .int y2d), (3, .int y3d), (4, .int y4d)]) hx hb d_D_run_136 hl (by decide) rfl (fun ls hl => ?_)
        refine lv_aload_n hx hb d_D_run_138 rfl (lv_at hl 1 rfl) ?_
        refine va_get (D := (dC, dI)) (ci := 5) (v := .int d_orders) (C := R_D) (T := F_D) (N := 20) hx hb hts hk1 hown hK hP 0 rfl rfl 6 (by decide) hk6 (fun _ h9 => h9) rfl d_D_run_139 ?_
        refine lv_iconst (v := 1) hx hb d_D_run_142 (by decide) ?_
        refine lv_isub hx hb d_D_run_143 ?_
        refine lv_istore (lv' := [(6, .int (d_orders - 1)), (5, .int (-1)), (0, .ref dq), (1, .int y1d), (2, .int y2d), (3, .int y3d), (4, .int y4d)]) hx hb d_D_run_144 hl (by decide) rfl (fun ls hl => ?_)
        have key146 : ∀ (K : Int32 → Int32 → Int32 → Int32 → Int32 → Int32 → Int32 → (Nat → Int32) → (Nat → Int32) → (Nat → Int32) → Int32 → Int32 → (Nat → Int32) → (Nat → Int32) → (Nat → Int64) → Option (Int32 × Int32 × (Nat → Int32) × (Nat → Int32) × (Nat → Int32) × Int32 × Int32 × (Nat → Int32) × (Nat → Int32) × (Nat → Int64))) (_ : ∀ (y1e : Int32) (y2e : Int32) (y3e : Int32) (y4e : Int32) (y5e : Int32) (y6e : Int32) (d_throwne : Int32) (d_usede : Nat → Int32) (d_usedBye : Nat → Int32) (d_reservedFore : Nat → Int32) (d_rane : Int32) (d_sume : Int32) (d_pieceDuale : Nat → Int32) (d_orderDuale : Nat → Int32) (d_tablee : Nat → Int64) (H : Heap) (locs : List Loc) (ls : Array Slot), lv_has ls 7 [(0, .ref dq), (1, .int y1e), (2, .int y2e), (3, .int y3e), (4, .int y4e), (5, .int y5e), (6, .int y6e)] → va_P (dC, dI) classes [(dq, .inr (5, [.int d_throwne, .int d_today, .int d_cut, .int d_aging, .int d_saleFrom, .int d_pieces, .int d_orders, .ref dq8, .ref dq9, .ref dq10, .ref dq11, .ref dq12, .ref dq13, .ref dq14, .ref dq15, .int d_rane, .int d_sume, .ref dq18, .ref dq19, .ref dq20])), (dq8, .inl (cI, 40, .inl d_piece)), (dq9, .inl (cI, 40, .inl d_order)), (dq10, .inl (cI, 10, .inl d_came)), (dq11, .inl (cI, 100, .inl d_worth)), (dq12, .inl (cZ, 10, .inl d_usede)), (dq13, .inl (cI, 10, .inl d_usedBye)), (dq14, .inl (cI, 10, .inl d_reservedFore)), (dq15, .inl (cI, 10, .inl d_reservedTo)), (dq18, .inl (cI, 10, .inl d_pieceDuale)), (dq19, .inl (cI, 10, .inl d_orderDuale)), (dq20, .inl (cJ, 11264, .inr (.inl d_tablee)))] H → va_D A [(dq, .inr (5, [.int d_throwne, .int d_today, .int d_cut, .int d_aging, .int d_saleFrom, .int d_pieces, .int d_orders, .ref dq8, .ref dq9, .ref dq10, .ref dq11, .ref dq12, .ref dq13, .ref dq14, .ref dq15, .int d_rane, .int d_sume, .ref dq18, .ref dq19, .ref dq20])), (dq8, .inl (cI, 40, .inl d_piece)), (dq9, .inl (cI, 40, .inl d_order)), (dq10, .inl (cI, 10, .inl d_came)), (dq11, .inl (cI, 100, .inl d_worth)), (dq12, .inl (cZ, 10, .inl d_usede)), (dq13, .inl (cI, 10, .inl d_usedBye)), (dq14, .inl (cI, 10, .inl d_reservedFore)), (dq15, .inl (cI, 10, .inl d_reservedTo)), (dq18, .inl (cI, 10, .inl d_pieceDuale)), (dq19, .inl (cI, 10, .inl d_orderDuale)), (dq20, .inl (cJ, 11264, .inr (.inl d_tablee)))] → va_S A s.heap H locs → K y1e y2e y3e y4e y5e y6e d_throwne d_usede d_usedBye d_reservedFore d_rane d_sume d_pieceDuale d_orderDuale d_tablee = some res → W p l e (headSpec w_D_run ({ frames := 4, cells := 0, slots := 0, locals := 95 } : Room)).room s m ([.ref dq] : List Value).toArray below meth c H locs 0 0 (MQ below (va_Qi (fun (x : Int32) (_ : Unit) => res.1 = x) (fun _ t => va_P (dC, dI) classes [(dq, .inr (5, [.int res.2.1, .int d_today, .int d_cut, .int d_aging, .int d_saleFrom, .int d_pieces, .int d_orders, .ref dq8, .ref dq9, .ref dq10, .ref dq11, .ref dq12, .ref dq13, .ref dq14, .ref dq15, .int res.2.2.2.2.2.1, .int res.2.2.2.2.2.2.1, .ref dq18, .ref dq19, .ref dq20])), (dq8, .inl (cI, 40, .inl d_piece)), (dq9, .inl (cI, 40, .inl d_order)), (dq10, .inl (cI, 10, .inl d_came)), (dq11, .inl (cI, 100, .inl d_worth)), (dq12, .inl (cZ, 10, .inl res.2.2.1)), (dq13, .inl (cI, 10, .inl res.2.2.2.1)), (dq14, .inl (cI, 10, .inl res.2.2.2.2.1)), (dq15, .inl (cI, 10, .inl d_reservedTo)), (dq18, .inl (cI, 10, .inl res.2.2.2.2.2.2.2.1)), (dq19, .inl (cI, 10, .inl res.2.2.2.2.2.2.2.2.1)), (dq20, .inl (cJ, 11264, .inr (.inl res.2.2.2.2.2.2.2.2.2)))] t.heap ∧ va_K (dC, dI) classes [(cI, .int), (cZ, .boolean), (cJ, .long)] t ∧ va_D A [(dq, .inr (5, [.int res.2.1, .int d_today, .int d_cut, .int d_aging, .int d_saleFrom, .int d_pieces, .int d_orders, .ref dq8, .ref dq9, .ref dq10, .ref dq11, .ref dq12, .ref dq13, .ref dq14, .ref dq15, .int res.2.2.2.2.2.1, .int res.2.2.2.2.2.2.1, .ref dq18, .ref dq19, .ref dq20])), (dq8, .inl (cI, 40, .inl d_piece)), (dq9, .inl (cI, 40, .inl d_order)), (dq10, .inl (cI, 10, .inl d_came)), (dq11, .inl (cI, 100, .inl d_worth)), (dq12, .inl (cZ, 10, .inl res.2.2.1)), (dq13, .inl (cI, 10, .inl res.2.2.2.1)), (dq14, .inl (cI, 10, .inl res.2.2.2.2.1)), (dq15, .inl (cI, 10, .inl d_reservedTo)), (dq18, .inl (cI, 10, .inl res.2.2.2.2.2.2.2.1)), (dq19, .inl (cI, 10, .inl res.2.2.2.2.2.2.2.2.1)), (dq20, .inl (cJ, 11264, .inr (.inl res.2.2.2.2.2.2.2.2.2)))]) A) ([.ref dq] : List Value).toArray s 0 0 A) (F0 m 238 ls [])) (n : Nat) (y1e : Int32) (y2e : Int32) (y3e : Int32) (y4e : Int32) (y5e : Int32) (y6e : Int32) (d_throwne : Int32) (d_usede : Nat → Int32) (d_usedBye : Nat → Int32) (d_reservedFore : Nat → Int32) (d_rane : Int32) (d_sume : Int32) (d_pieceDuale : Nat → Int32) (d_orderDuale : Nat → Int32) (d_tablee : Nat → Int64) (H : Heap) (locs : List Loc) (ls : Array Slot), lv_has ls 7 [(0, .ref dq), (1, .int y1e), (2, .int y2e), (3, .int y3e), (4, .int y4e), (5, .int y5e), (6, .int y6e)] → va_P (dC, dI) classes [(dq, .inr (5, [.int d_throwne, .int d_today, .int d_cut, .int d_aging, .int d_saleFrom, .int d_pieces, .int d_orders, .ref dq8, .ref dq9, .ref dq10, .ref dq11, .ref dq12, .ref dq13, .ref dq14, .ref dq15, .int d_rane, .int d_sume, .ref dq18, .ref dq19, .ref dq20])), (dq8, .inl (cI, 40, .inl d_piece)), (dq9, .inl (cI, 40, .inl d_order)), (dq10, .inl (cI, 10, .inl d_came)), (dq11, .inl (cI, 100, .inl d_worth)), (dq12, .inl (cZ, 10, .inl d_usede)), (dq13, .inl (cI, 10, .inl d_usedBye)), (dq14, .inl (cI, 10, .inl d_reservedFore)), (dq15, .inl (cI, 10, .inl d_reservedTo)), (dq18, .inl (cI, 10, .inl d_pieceDuale)), (dq19, .inl (cI, 10, .inl d_orderDuale)), (dq20, .inl (cJ, 11264, .inr (.inl d_tablee)))] H → va_D A [(dq, .inr (5, [.int d_throwne, .int d_today, .int d_cut, .int d_aging, .int d_saleFrom, .int d_pieces, .int d_orders, .ref dq8, .ref dq9, .ref dq10, .ref dq11, .ref dq12, .ref dq13, .ref dq14, .ref dq15, .int d_rane, .int d_sume, .ref dq18, .ref dq19, .ref dq20])), (dq8, .inl (cI, 40, .inl d_piece)), (dq9, .inl (cI, 40, .inl d_order)), (dq10, .inl (cI, 10, .inl d_came)), (dq11, .inl (cI, 100, .inl d_worth)), (dq12, .inl (cZ, 10, .inl d_usede)), (dq13, .inl (cI, 10, .inl d_usedBye)), (dq14, .inl (cI, 10, .inl d_reservedFore)), (dq15, .inl (cI, 10, .inl d_reservedTo)), (dq18, .inl (cI, 10, .inl d_pieceDuale)), (dq19, .inl (cI, 10, .inl d_orderDuale)), (dq20, .inl (cJ, 11264, .inr (.inl d_tablee)))] → va_S A s.heap H locs → L_D_run_146 N d_today d_cut d_aging d_pieces d_piece d_order d_came d_worth d_reservedTo K n y1e y2e y3e y4e y5e y6e d_throwne d_usede d_usedBye d_reservedFore d_rane d_sume d_pieceDuale d_orderDuale d_tablee = some res → W p l e (headSpec w_D_run ({ frames := 4, cells := 0, slots := 0, locals := 95 } : Room)).room s m ([.ref dq] : List Value).toArray below meth c H locs 0 0 (MQ below (va_Qi (fun (x : Int32) (_ : Unit) => res.1 = x) (fun _ t => va_P (dC, dI) classes [(dq, .inr (5, [.int res.2.1, .int d_today, .int d_cut, .int d_aging, .int d_saleFrom, .int d_pieces, .int d_orders, .ref dq8, .ref dq9, .ref dq10, .ref dq11, .ref dq12, .ref dq13, .ref dq14, .ref dq15, .int res.2.2.2.2.2.1, .int res.2.2.2.2.2.2.1, .ref dq18, .ref dq19, .ref dq20])), (dq8, .inl (cI, 40, .inl d_piece)), (dq9, .inl (cI, 40, .inl d_order)), (dq10, .inl (cI, 10, .inl d_came)), (dq11, .inl (cI, 100, .inl d_worth)), (dq12, .inl (cZ, 10, .inl res.2.2.1)), (dq13, .inl (cI, 10, .inl res.2.2.2.1)), (dq14, .inl (cI, 10, .inl res.2.2.2.2.1)), (dq15, .inl (cI, 10, .inl d_reservedTo)), (dq18, .inl (cI, 10, .inl res.2.2.2.2.2.2.2.1)), (dq19, .inl (cI, 10, .inl res.2.2.2.2.2.2.2.2.1)), (dq20, .inl (cJ, 11264, .inr (.inl res.2.2.2.2.2.2.2.2.2)))] t.heap ∧ va_K (dC, dI) classes [(cI, .int), (cZ, .boolean), (cJ, .long)] t ∧ va_D A [(dq, .inr (5, [.int res.2.1, .int d_today, .int d_cut, .int d_aging, .int d_saleFrom, .int d_pieces, .int d_orders, .ref dq8, .ref dq9, .ref dq10, .ref dq11, .ref dq12, .ref dq13, .ref dq14, .ref dq15, .int res.2.2.2.2.2.1, .int res.2.2.2.2.2.2.1, .ref dq18, .ref dq19, .ref dq20])), (dq8, .inl (cI, 40, .inl d_piece)), (dq9, .inl (cI, 40, .inl d_order)), (dq10, .inl (cI, 10, .inl d_came)), (dq11, .inl (cI, 100, .inl d_worth)), (dq12, .inl (cZ, 10, .inl res.2.2.1)), (dq13, .inl (cI, 10, .inl res.2.2.2.1)), (dq14, .inl (cI, 10, .inl res.2.2.2.2.1)), (dq15, .inl (cI, 10, .inl d_reservedTo)), (dq18, .inl (cI, 10, .inl res.2.2.2.2.2.2.2.1)), (dq19, .inl (cI, 10, .inl res.2.2.2.2.2.2.2.2.1)), (dq20, .inl (cJ, 11264, .inr (.inl res.2.2.2.2.2.2.2.2.2)))]) A) ([.ref dq] : List Value).toArray s 0 0 A) (F0 m 146 ls []) := by
          intro K hK146 n
          induction n with
          | zero => intro y1e y2e y3e y4e y5e y6e d_throwne d_usede d_usedBye d_reservedFore d_rane d_sume d_pieceDuale d_orderDuale d_tablee H locs ls hl hP hD hS hm; exact absurd hm (by simp [L_D_run_146])
          | succ n ih146 =>
            intro y1e y2e y3e y4e y5e y6e d_throwne d_usede d_usedBye d_reservedFore d_rane d_sume d_pieceDuale d_orderDuale d_tablee H locs ls hl hP hD hS hm
            rw [L_D_run_146] at hm
            refine lv_iload hx hb d_D_run_146 (lv_at hl 6 rfl) ?_
            refine lv_if_lt (tgt := 238) hx hb d_D_run_148 (by decide) (fun c9 => ?_) (fun c9 => ?_)
            · replace hm := if_t c9 hm
              have hl : lv_has ls 7 [(0, .ref dq), (1, .int y1e), (2, .int y2e), (3, .int y3e), (4, .int y4e), (5, .int y5e), (6, .int y6e)] := lv_sub hl [0, 1, 2, 3, 4, 5, 6] rfl
              exact hK146 y1e y2e y3e y4e y5e y6e d_throwne d_usede d_usedBye d_reservedFore d_rane d_sume d_pieceDuale d_orderDuale d_tablee _ _ ls hl hP hD hS hm
            · replace hm := if_f c9 hm
              refine lv_iload_n hx hb d_D_run_151 rfl (lv_at hl 2 rfl) ?_
              refine lv_iload hx hb d_D_run_152 (lv_at hl 6 rfl) ?_
              refine lv_ishr hx hb d_D_run_154 ?_
              refine lv_iconst (v := 1) hx hb d_D_run_155 (by decide) ?_
              refine lv_iand hx hb d_D_run_156 ?_
              refine lv_iconst (v := 1) hx hb d_D_run_157 (by decide) ?_
              refine lv_icmp_eq (tgt := 232) hx hb d_D_run_158 (by decide) (fun c9 => ?_) (fun c9 => ?_)
              · replace hm := if_t c9 hm
                refine lv_iinc (v := (y6e + (-1))) (lv' := [(6, .int (y6e + (-1))), (0, .ref dq), (1, .int y1e), (2, .int y2e), (3, .int y3e), (4, .int y4e), (5, .int y5e)]) hx hb d_D_run_232 hl (k := 6) rfl rfl (by decide) rfl (fun ls hl => ?_)
                refine lv_goto (tgt := 146) hx hb d_D_run_235 (by decide) ?_
                have hl : lv_has ls 7 [(0, .ref dq), (1, .int y1e), (2, .int y2e), (3, .int y3e), (4, .int y4e), (5, .int y5e), (6, .int (y6e + (-1)))] := lv_sub hl [1, 2, 3, 4, 5, 6, 0] rfl
                exact ih146 y1e y2e y3e y4e y5e (y6e + (-1)) d_throwne d_usede d_usedBye d_reservedFore d_rane d_sume d_pieceDuale d_orderDuale d_tablee _ _ ls hl hP hD hS hm
              · replace hm := if_f c9 hm
                refine lv_aload_n hx hb d_D_run_161 rfl (lv_at hl 0 rfl) ?_
                refine lv_iload hx hb d_D_run_162 (lv_at hl 4 rfl) ?_
                refine lv_iload hx hb d_D_run_164 (lv_at hl 6 rfl) ?_
                obtain ⟨r8, hc, hm⟩ := bd hm
                try dsimp only at hm
                refine vp_callSi (W.runV (As := [.int y4e, .int y6e]) (rest := []) ⟨hx, hb, hml, hown, hts⟩ (c_D_can l dC dI cI cZ cJ dq dq8 dq9 dq10 dq11 dq12 dq13 dq14 dq15 dq18 dq19 dq20 d_throwne d_today d_cut d_aging d_saleFrom d_pieces d_orders d_piece d_order d_came d_worth d_usede d_usedBye d_reservedFore d_reservedTo d_rane d_sume d_pieceDuale d_orderDuale d_tablee y4e y6e N r8 hc) (cwV 2 hts (gV (w0 713 rfl) (w0 714 rfl) (w0 24 rfl) (w0 33 rfl) (w0 715 rfl)) rfl rfl rfl q_D_can ⟨Nat.le_of_ble_eq_true rfl, Nat.le_of_ble_eq_true rfl⟩) (ro_preV [0, 1, 2, 3, 4, 5, 6, 7, 8, 9, 10, 11] rfl hK hP hN 5 0 (R_D, F_D, 20) rfl rfl) rfl rfl hl.1 rfl (lv_room (Nat.le_of_ble_eq_true rfl)) d_D_run_166 ⟨Nat.le_of_ble_eq_true rfl, Nat.le_of_ble_eq_true rfl⟩) (fun r9 hr9 => ?_)
                subst hr9
                refine lv_if_ne (tgt := 175) hx hb d_D_run_169 (by decide) (fun c9 => ?_) (fun c9 => ?_)
                · replace hm := if_f c9 hm
                  refine lv_aload_n hx hb d_D_run_175 rfl (lv_at hl 0 rfl) ?_
                  refine va_get (D := (dC, dI)) (ci := 5) (v := .ref dq20) (C := R_D) (T := F_D) (N := 20) hx hb hts hk1 hown hK hP 0 rfl rfl 19 (by decide) hk4 (fun _ h9 => h9) rfl d_D_run_176 ?_
                  refine lv_sipush (v := 1024) hx hb d_D_run_179 (by decide) ?_
                  refine lv_iload hx hb d_D_run_182 (lv_at hl 4 rfl) ?_
                  refine lv_iconst (v := 1) hx hb d_D_run_184 (by decide) ?_
                  refine lv_iadd hx hb d_D_run_185 ?_
                  refine lv_imul hx hb d_D_run_186 ?_
                  refine lv_iload_n hx hb d_D_run_187 rfl (lv_at hl 2 rfl) ?_
                  refine lv_iconst (v := 1) hx hb d_D_run_188 (by decide) ?_
                  refine lv_iload hx hb d_D_run_189 (lv_at hl 6 rfl) ?_
                  refine lv_ishl hx hb d_D_run_191 ?_
                  refine lv_ior hx hb d_D_run_192 ?_
                  refine lv_iadd hx hb d_D_run_193 ?_
                  obtain ⟨h9, hm⟩ := gd hm
                  refine va_lald hx hb hK hP 11 2 rfl rfl h9 d_D_run_194 ?_
                  refine lv_ldc2 (v := 16) hx hb hown hk5 d_D_run_195 ?_
                  refine lv_aload_n hx hb d_D_run_198 rfl (lv_at hl 0 rfl) ?_
                  refine lv_iload hx hb d_D_run_199 (lv_at hl 4 rfl) ?_
                  refine lv_iload hx hb d_D_run_201 (lv_at hl 6 rfl) ?_
                  obtain ⟨r9, hc, hm⟩ := bd hm
                  try dsimp only at hm
                  refine vp_callSi (W.runV (As := [.int y4e, .int y6e]) (rest := [.long 16, .long (d_tablee ((1024 * (y4e + 1)) + (y2e ||| ((1 : Int32) <<< (y6e &&& 31)))).toNatClampNeg)]) ⟨hx, hb, hml, hown, hts⟩ (c_D_netOf l dC dI cI cZ cJ dq dq8 dq9 dq10 dq11 dq12 dq13 dq14 dq15 dq18 dq19 dq20 d_throwne d_today d_cut d_aging d_saleFrom d_pieces d_orders d_piece d_order d_came d_worth d_usede d_usedBye d_reservedFore d_reservedTo d_rane d_sume d_pieceDuale d_orderDuale d_tablee y4e y6e N r9 hc) (cwV 2 hts (gV (w0 703 rfl) (w0 704 rfl) (w0 22 rfl) (w0 33 rfl) (w0 705 rfl)) rfl rfl rfl q_D_netOf ⟨Nat.le_of_ble_eq_true rfl, Nat.le_of_ble_eq_true rfl⟩) (ro_preV [0, 1, 2, 3, 4, 5, 6, 7, 8, 9, 10, 11] rfl hK hP hN 5 0 (R_D, F_D, 20) rfl rfl) rfl rfl hl.1 rfl (lv_room (Nat.le_of_ble_eq_true rfl)) d_D_run_203 ⟨Nat.le_of_ble_eq_true rfl, Nat.le_of_ble_eq_true rfl⟩) (fun r9 hr9 => ?_)
                  subst hr9
                  refine lv_i2l (v := r9.toInt64) hx hb d_D_run_206 rfl ?_
                  refine lv_lmul hx hb d_D_run_207 ?_
                  refine lv_ladd hx hb d_D_run_208 ?_
                  refine lv_lconst (v := 1) hx hb d_D_run_209 rfl ?_
                  refine lv_ladd hx hb d_D_run_210 ?_
                  refine lv_aload_n hx hb d_D_run_211 rfl (lv_at hl 0 rfl) ?_
                  refine va_get (D := (dC, dI)) (ci := 5) (v := .ref dq20) (C := R_D) (T := F_D) (N := 20) hx hb hts hk1 hown hK hP 0 rfl rfl 19 (by decide) hk4 (fun _ h9 => h9) rfl d_D_run_212 ?_
                  refine lv_sipush (v := 1024) hx hb d_D_run_215 (by decide) ?_
                  refine lv_iload hx hb d_D_run_218 (lv_at hl 4 rfl) ?_
                  refine lv_imul hx hb d_D_run_220 ?_
                  refine lv_iload_n hx hb d_D_run_221 rfl (lv_at hl 2 rfl) ?_
                  refine lv_iadd hx hb d_D_run_222 ?_
                  obtain ⟨h9, hm⟩ := gd hm
                  refine va_lald hx hb hK hP 11 2 rfl rfl h9 d_D_run_223 ?_
                  refine W.lcmp hx hb d_D_run_224 ?_
                  refine lv_if_ne (tgt := 232) hx hb d_D_run_225 (by decide) (fun c9 => ?_) (fun c9 => ?_)
                  · replace hm := if_f c9 hm
                    refine lv_iinc (v := (y6e + (-1))) (lv' := [(6, .int (y6e + (-1))), (0, .ref dq), (1, .int y1e), (2, .int y2e), (3, .int y3e), (4, .int y4e), (5, .int y5e)]) hx hb d_D_run_232 hl (k := 6) rfl rfl (by decide) rfl (fun ls hl => ?_)
                    refine lv_goto (tgt := 146) hx hb d_D_run_235 (by decide) ?_
                    have hl : lv_has ls 7 [(0, .ref dq), (1, .int y1e), (2, .int y2e), (3, .int y3e), (4, .int y4e), (5, .int y5e), (6, .int (y6e + (-1)))] := lv_sub hl [1, 2, 3, 4, 5, 6, 0] rfl
                    exact ih146 y1e y2e y3e y4e y5e (y6e + (-1)) d_throwne d_usede d_usedBye d_reservedFore d_rane d_sume d_pieceDuale d_orderDuale d_tablee _ _ ls hl hP hD hS hm
                  · replace hm := if_t c9 hm
                    refine lv_iload hx hb d_D_run_228 (lv_at hl 6 rfl) ?_
                    refine lv_istore (lv' := [(5, .int y6e), (0, .ref dq), (1, .int y1e), (2, .int y2e), (3, .int y3e), (4, .int y4e), (6, .int y6e)]) hx hb d_D_run_230 hl (by decide) rfl (fun ls hl => ?_)
                    refine lv_iinc (v := (y6e + (-1))) (lv' := [(6, .int (y6e + (-1))), (5, .int y6e), (0, .ref dq), (1, .int y1e), (2, .int y2e), (3, .int y3e), (4, .int y4e)]) hx hb d_D_run_232 hl (k := 6) rfl rfl (by decide) rfl (fun ls hl => ?_)
                    refine lv_goto (tgt := 146) hx hb d_D_run_235 (by decide) ?_
                    have hl : lv_has ls 7 [(0, .ref dq), (1, .int y1e), (2, .int y2e), (3, .int y3e), (4, .int y4e), (5, .int y6e), (6, .int (y6e + (-1)))] := lv_sub hl [2, 3, 4, 5, 6, 1, 0] rfl
                    exact ih146 y1e y2e y3e y4e y6e (y6e + (-1)) d_throwne d_usede d_usedBye d_reservedFore d_rane d_sume d_pieceDuale d_orderDuale d_tablee _ _ ls hl hP hD hS hm
                · replace hm := if_t c9 hm
                  refine lv_goto (tgt := 232) hx hb d_D_run_172 (by decide) ?_
                  refine lv_iinc (v := (y6e + (-1))) (lv' := [(6, .int (y6e + (-1))), (0, .ref dq), (1, .int y1e), (2, .int y2e), (3, .int y3e), (4, .int y4e), (5, .int y5e)]) hx hb d_D_run_232 hl (k := 6) rfl rfl (by decide) rfl (fun ls hl => ?_)
                  refine lv_goto (tgt := 146) hx hb d_D_run_235 (by decide) ?_
                  have hl : lv_has ls 7 [(0, .ref dq), (1, .int y1e), (2, .int y2e), (3, .int y3e), (4, .int y4e), (5, .int y5e), (6, .int (y6e + (-1)))] := lv_sub hl [1, 2, 3, 4, 5, 6, 0] rfl
                  exact ih146 y1e y2e y3e y4e y5e (y6e + (-1)) d_throwne d_usede d_usedBye d_reservedFore d_rane d_sume d_pieceDuale d_orderDuale d_tablee _ _ ls hl hP hD hS hm
        have hl : lv_has ls 7 [(0, .ref dq), (1, .int y1d), (2, .int y2d), (3, .int y3d), (4, .int y4d), (5, .int (-1)), (6, .int (d_orders - 1))] := lv_sub hl [2, 3, 4, 5, 6, 1, 0] rfl
        refine key146 _ (fun y1e y2e y3e y4e y5e y6e d_throwne d_usede d_usedBye d_reservedFore d_rane d_sume d_pieceDuale d_orderDuale d_tablee H locs ls hl hP hD hS hm => ?_) N y1d y2d y3d y4d (-1) (d_orders - 1) d_thrownd d_usedd d_usedByd d_reservedFord d_rand d_sumd d_pieceDuald d_orderDuald d_tabled _ _ ls hl hP hD hS hm
        try dsimp only at hm
        refine lv_iload hx hb d_D_run_238 (lv_at hl 5 rfl) ?_
        refine lv_if_ge (tgt := 246) hx hb d_D_run_240 (by decide) (fun c9 => ?_) (fun c9 => ?_)
        · replace hm := if_t c9 hm
          refine lv_aload_n hx hb d_D_run_246 rfl (lv_at hl 0 rfl) ?_
          refine va_get (D := (dC, dI)) (ci := 5) (v := .ref dq18) (C := R_D) (T := F_D) (N := 20) hx hb hts hk1 hown hK hP 0 rfl rfl 17 (by decide) hk3 (fun _ h9 => h9) rfl d_D_run_247 ?_
          refine lv_iload hx hb d_D_run_250 (lv_at hl 4 rfl) ?_
          refine lv_aload_n hx hb d_D_run_252 rfl (lv_at hl 0 rfl) ?_
          refine lv_iload hx hb d_D_run_253 (lv_at hl 4 rfl) ?_
          refine lv_iload hx hb d_D_run_255 (lv_at hl 5 rfl) ?_
          obtain ⟨r12, hc, hm⟩ := bd hm
          try dsimp only at hm
          refine vp_callSi (W.runV (As := [.int y4e, .int y5e]) (rest := [.int y4e, .ref dq18]) ⟨hx, hb, hml, hown, hts⟩ (c_D_netOf l dC dI cI cZ cJ dq dq8 dq9 dq10 dq11 dq12 dq13 dq14 dq15 dq18 dq19 dq20 d_throwne d_today d_cut d_aging d_saleFrom d_pieces d_orders d_piece d_order d_came d_worth d_usede d_usedBye d_reservedFore d_reservedTo d_rane d_sume d_pieceDuale d_orderDuale d_tablee y4e y5e N r12 hc) (cwV 2 hts (gV (w0 703 rfl) (w0 704 rfl) (w0 22 rfl) (w0 33 rfl) (w0 705 rfl)) rfl rfl rfl q_D_netOf ⟨Nat.le_of_ble_eq_true rfl, Nat.le_of_ble_eq_true rfl⟩) (ro_preV [0, 1, 2, 3, 4, 5, 6, 7, 8, 9, 10, 11] rfl hK hP hN 5 0 (R_D, F_D, 20) rfl rfl) rfl rfl hl.1 rfl (lv_room (Nat.le_of_ble_eq_true rfl)) d_D_run_257 ⟨Nat.le_of_ble_eq_true rfl, Nat.le_of_ble_eq_true rfl⟩) (fun r9 hr9 => ?_)
          subst hr9
          refine lv_aload_n hx hb d_D_run_260 rfl (lv_at hl 0 rfl) ?_
          refine va_get (D := (dC, dI)) (ci := 5) (v := .ref dq19) (C := R_D) (T := F_D) (N := 20) hx hb hts hk1 hown hK hP 0 rfl rfl 18 (by decide) hk2 (fun _ h9 => h9) rfl d_D_run_261 ?_
          refine lv_iload hx hb d_D_run_264 (lv_at hl 5 rfl) ?_
          obtain ⟨h9, hm⟩ := gd hm
          refine va_iald hx hb hK hP 10 0 rfl rfl h9 d_D_run_266 ?_
          refine lv_isub hx hb d_D_run_267 ?_
          obtain ⟨h9, hm⟩ := gd hm
          refine va_iast hx hb hK hP hD hS 9 0 rfl rfl h9 d_D_run_268 (fun H locs hP hD hS => ?_)
          have hP : va_P (dC, dI) classes [(dq, .inr (5, [.int d_throwne, .int d_today, .int d_cut, .int d_aging, .int d_saleFrom, .int d_pieces, .int d_orders, .ref dq8, .ref dq9, .ref dq10, .ref dq11, .ref dq12, .ref dq13, .ref dq14, .ref dq15, .int d_rane, .int d_sume, .ref dq18, .ref dq19, .ref dq20])), (dq8, .inl (cI, 40, .inl d_piece)), (dq9, .inl (cI, 40, .inl d_order)), (dq10, .inl (cI, 10, .inl d_came)), (dq11, .inl (cI, 100, .inl d_worth)), (dq12, .inl (cZ, 10, .inl d_usede)), (dq13, .inl (cI, 10, .inl d_usedBye)), (dq14, .inl (cI, 10, .inl d_reservedFore)), (dq15, .inl (cI, 10, .inl d_reservedTo)), (dq18, .inl (cI, 10, .inl (upd d_pieceDuale y4e.toNatClampNeg (r12 - (d_orderDuale y5e.toNatClampNeg))))), (dq19, .inl (cI, 10, .inl d_orderDuale)), (dq20, .inl (cJ, 11264, .inr (.inl d_tablee)))] H := hP
          have hD : va_D A [(dq, .inr (5, [.int d_throwne, .int d_today, .int d_cut, .int d_aging, .int d_saleFrom, .int d_pieces, .int d_orders, .ref dq8, .ref dq9, .ref dq10, .ref dq11, .ref dq12, .ref dq13, .ref dq14, .ref dq15, .int d_rane, .int d_sume, .ref dq18, .ref dq19, .ref dq20])), (dq8, .inl (cI, 40, .inl d_piece)), (dq9, .inl (cI, 40, .inl d_order)), (dq10, .inl (cI, 10, .inl d_came)), (dq11, .inl (cI, 100, .inl d_worth)), (dq12, .inl (cZ, 10, .inl d_usede)), (dq13, .inl (cI, 10, .inl d_usedBye)), (dq14, .inl (cI, 10, .inl d_reservedFore)), (dq15, .inl (cI, 10, .inl d_reservedTo)), (dq18, .inl (cI, 10, .inl (upd d_pieceDuale y4e.toNatClampNeg (r12 - (d_orderDuale y5e.toNatClampNeg))))), (dq19, .inl (cI, 10, .inl d_orderDuale)), (dq20, .inl (cJ, 11264, .inr (.inl d_tablee)))] := hD
          refine lv_iload_n hx hb d_D_run_269 rfl (lv_at hl 2 rfl) ?_
          refine lv_iconst (v := 1) hx hb d_D_run_270 (by decide) ?_
          refine lv_iload hx hb d_D_run_271 (lv_at hl 5 rfl) ?_
          refine lv_ishl hx hb d_D_run_273 ?_
          refine lv_ior hx hb d_D_run_274 ?_
          refine lv_istore_n (lv' := [(2, .int (y2e ||| ((1 : Int32) <<< (y5e &&& 31)))), (0, .ref dq), (1, .int y1e), (3, .int y3e), (4, .int y4e), (5, .int y5e), (6, .int y6e)]) hx hb d_D_run_275 rfl hl (by decide) rfl (fun ls hl => ?_)
          refine lv_iinc (v := (y3e + 1)) (lv' := [(3, .int (y3e + 1)), (2, .int (y2e ||| ((1 : Int32) <<< (y5e &&& 31)))), (0, .ref dq), (1, .int y1e), (4, .int y4e), (5, .int y5e), (6, .int y6e)]) hx hb d_D_run_276 hl (k := 3) rfl rfl (by decide) rfl (fun ls hl => ?_)
          refine lv_aload_n hx hb d_D_run_279 rfl (lv_at hl 2 rfl) ?_
          refine va_get (D := (dC, dI)) (ci := 5) (v := .ref dq12) (C := R_D) (T := F_D) (N := 20) hx hb hts hk1 hown hK hP 0 rfl rfl 11 (by decide) hk10 (fun _ h9 => h9) rfl d_D_run_280 ?_
          refine lv_iload hx hb d_D_run_283 (lv_at hl 4 rfl) ?_
          refine lv_iconst (v := 1) hx hb d_D_run_285 (by decide) ?_
          obtain ⟨h9, hm⟩ := gd hm
          refine va_zast hx hb hK hP hD hS 5 1 rfl rfl h9 d_D_run_286 (fun H locs hP hD hS => ?_)
          have hP : va_P (dC, dI) classes [(dq, .inr (5, [.int d_throwne, .int d_today, .int d_cut, .int d_aging, .int d_saleFrom, .int d_pieces, .int d_orders, .ref dq8, .ref dq9, .ref dq10, .ref dq11, .ref dq12, .ref dq13, .ref dq14, .ref dq15, .int d_rane, .int d_sume, .ref dq18, .ref dq19, .ref dq20])), (dq8, .inl (cI, 40, .inl d_piece)), (dq9, .inl (cI, 40, .inl d_order)), (dq10, .inl (cI, 10, .inl d_came)), (dq11, .inl (cI, 100, .inl d_worth)), (dq12, .inl (cZ, 10, .inl (upd d_usede y4e.toNatClampNeg (vp_nar .boolean 1)))), (dq13, .inl (cI, 10, .inl d_usedBye)), (dq14, .inl (cI, 10, .inl d_reservedFore)), (dq15, .inl (cI, 10, .inl d_reservedTo)), (dq18, .inl (cI, 10, .inl (upd d_pieceDuale y4e.toNatClampNeg (r12 - (d_orderDuale y5e.toNatClampNeg))))), (dq19, .inl (cI, 10, .inl d_orderDuale)), (dq20, .inl (cJ, 11264, .inr (.inl d_tablee)))] H := hP
          have hD : va_D A [(dq, .inr (5, [.int d_throwne, .int d_today, .int d_cut, .int d_aging, .int d_saleFrom, .int d_pieces, .int d_orders, .ref dq8, .ref dq9, .ref dq10, .ref dq11, .ref dq12, .ref dq13, .ref dq14, .ref dq15, .int d_rane, .int d_sume, .ref dq18, .ref dq19, .ref dq20])), (dq8, .inl (cI, 40, .inl d_piece)), (dq9, .inl (cI, 40, .inl d_order)), (dq10, .inl (cI, 10, .inl d_came)), (dq11, .inl (cI, 100, .inl d_worth)), (dq12, .inl (cZ, 10, .inl (upd d_usede y4e.toNatClampNeg (vp_nar .boolean 1)))), (dq13, .inl (cI, 10, .inl d_usedBye)), (dq14, .inl (cI, 10, .inl d_reservedFore)), (dq15, .inl (cI, 10, .inl d_reservedTo)), (dq18, .inl (cI, 10, .inl (upd d_pieceDuale y4e.toNatClampNeg (r12 - (d_orderDuale y5e.toNatClampNeg))))), (dq19, .inl (cI, 10, .inl d_orderDuale)), (dq20, .inl (cJ, 11264, .inr (.inl d_tablee)))] := hD
          refine lv_aload_n hx hb d_D_run_287 rfl (lv_at hl 2 rfl) ?_
          refine va_get (D := (dC, dI)) (ci := 5) (v := .ref dq13) (C := R_D) (T := F_D) (N := 20) hx hb hts hk1 hown hK hP 0 rfl rfl 12 (by decide) hk11 (fun _ h9 => h9) rfl d_D_run_288 ?_
          refine lv_iload hx hb d_D_run_291 (lv_at hl 5 rfl) ?_
          refine lv_iload hx hb d_D_run_293 (lv_at hl 4 rfl) ?_
          obtain ⟨h9, hm⟩ := gd hm
          refine va_iast hx hb hK hP hD hS 6 0 rfl rfl h9 d_D_run_295 (fun H locs hP hD hS => ?_)
          have hP : va_P (dC, dI) classes [(dq, .inr (5, [.int d_throwne, .int d_today, .int d_cut, .int d_aging, .int d_saleFrom, .int d_pieces, .int d_orders, .ref dq8, .ref dq9, .ref dq10, .ref dq11, .ref dq12, .ref dq13, .ref dq14, .ref dq15, .int d_rane, .int d_sume, .ref dq18, .ref dq19, .ref dq20])), (dq8, .inl (cI, 40, .inl d_piece)), (dq9, .inl (cI, 40, .inl d_order)), (dq10, .inl (cI, 10, .inl d_came)), (dq11, .inl (cI, 100, .inl d_worth)), (dq12, .inl (cZ, 10, .inl (upd d_usede y4e.toNatClampNeg (vp_nar .boolean 1)))), (dq13, .inl (cI, 10, .inl (upd d_usedBye y5e.toNatClampNeg y4e))), (dq14, .inl (cI, 10, .inl d_reservedFore)), (dq15, .inl (cI, 10, .inl d_reservedTo)), (dq18, .inl (cI, 10, .inl (upd d_pieceDuale y4e.toNatClampNeg (r12 - (d_orderDuale y5e.toNatClampNeg))))), (dq19, .inl (cI, 10, .inl d_orderDuale)), (dq20, .inl (cJ, 11264, .inr (.inl d_tablee)))] H := hP
          have hD : va_D A [(dq, .inr (5, [.int d_throwne, .int d_today, .int d_cut, .int d_aging, .int d_saleFrom, .int d_pieces, .int d_orders, .ref dq8, .ref dq9, .ref dq10, .ref dq11, .ref dq12, .ref dq13, .ref dq14, .ref dq15, .int d_rane, .int d_sume, .ref dq18, .ref dq19, .ref dq20])), (dq8, .inl (cI, 40, .inl d_piece)), (dq9, .inl (cI, 40, .inl d_order)), (dq10, .inl (cI, 10, .inl d_came)), (dq11, .inl (cI, 100, .inl d_worth)), (dq12, .inl (cZ, 10, .inl (upd d_usede y4e.toNatClampNeg (vp_nar .boolean 1)))), (dq13, .inl (cI, 10, .inl (upd d_usedBye y5e.toNatClampNeg y4e))), (dq14, .inl (cI, 10, .inl d_reservedFore)), (dq15, .inl (cI, 10, .inl d_reservedTo)), (dq18, .inl (cI, 10, .inl (upd d_pieceDuale y4e.toNatClampNeg (r12 - (d_orderDuale y5e.toNatClampNeg))))), (dq19, .inl (cI, 10, .inl d_orderDuale)), (dq20, .inl (cJ, 11264, .inr (.inl d_tablee)))] := hD
          refine lv_aload_n hx hb d_D_run_296 rfl (lv_at hl 2 rfl) ?_
          refine va_get (D := (dC, dI)) (ci := 5) (v := .ref dq14) (C := R_D) (T := F_D) (N := 20) hx hb hts hk1 hown hK hP 0 rfl rfl 13 (by decide) hk12 (fun _ h9 => h9) rfl d_D_run_297 ?_
          refine lv_iload hx hb d_D_run_300 (lv_at hl 4 rfl) ?_
          refine lv_iconst (v := (-1)) hx hb d_D_run_302 (by decide) ?_
          obtain ⟨h9, hm⟩ := gd hm
          refine va_iast hx hb hK hP hD hS 7 0 rfl rfl h9 d_D_run_303 (fun H locs hP hD hS => ?_)
          have hP : va_P (dC, dI) classes [(dq, .inr (5, [.int d_throwne, .int d_today, .int d_cut, .int d_aging, .int d_saleFrom, .int d_pieces, .int d_orders, .ref dq8, .ref dq9, .ref dq10, .ref dq11, .ref dq12, .ref dq13, .ref dq14, .ref dq15, .int d_rane, .int d_sume, .ref dq18, .ref dq19, .ref dq20])), (dq8, .inl (cI, 40, .inl d_piece)), (dq9, .inl (cI, 40, .inl d_order)), (dq10, .inl (cI, 10, .inl d_came)), (dq11, .inl (cI, 100, .inl d_worth)), (dq12, .inl (cZ, 10, .inl (upd d_usede y4e.toNatClampNeg (vp_nar .boolean 1)))), (dq13, .inl (cI, 10, .inl (upd d_usedBye y5e.toNatClampNeg y4e))), (dq14, .inl (cI, 10, .inl (upd d_reservedFore y4e.toNatClampNeg (-1)))), (dq15, .inl (cI, 10, .inl d_reservedTo)), (dq18, .inl (cI, 10, .inl (upd d_pieceDuale y4e.toNatClampNeg (r12 - (d_orderDuale y5e.toNatClampNeg))))), (dq19, .inl (cI, 10, .inl d_orderDuale)), (dq20, .inl (cJ, 11264, .inr (.inl d_tablee)))] H := hP
          have hD : va_D A [(dq, .inr (5, [.int d_throwne, .int d_today, .int d_cut, .int d_aging, .int d_saleFrom, .int d_pieces, .int d_orders, .ref dq8, .ref dq9, .ref dq10, .ref dq11, .ref dq12, .ref dq13, .ref dq14, .ref dq15, .int d_rane, .int d_sume, .ref dq18, .ref dq19, .ref dq20])), (dq8, .inl (cI, 40, .inl d_piece)), (dq9, .inl (cI, 40, .inl d_order)), (dq10, .inl (cI, 10, .inl d_came)), (dq11, .inl (cI, 100, .inl d_worth)), (dq12, .inl (cZ, 10, .inl (upd d_usede y4e.toNatClampNeg (vp_nar .boolean 1)))), (dq13, .inl (cI, 10, .inl (upd d_usedBye y5e.toNatClampNeg y4e))), (dq14, .inl (cI, 10, .inl (upd d_reservedFore y4e.toNatClampNeg (-1)))), (dq15, .inl (cI, 10, .inl d_reservedTo)), (dq18, .inl (cI, 10, .inl (upd d_pieceDuale y4e.toNatClampNeg (r12 - (d_orderDuale y5e.toNatClampNeg))))), (dq19, .inl (cI, 10, .inl d_orderDuale)), (dq20, .inl (cJ, 11264, .inr (.inl d_tablee)))] := hD
          refine lv_iinc (v := (y4e + 1)) (lv' := [(4, .int (y4e + 1)), (3, .int (y3e + 1)), (2, .int (y2e ||| ((1 : Int32) <<< (y5e &&& 31)))), (0, .ref dq), (1, .int y1e), (5, .int y5e), (6, .int y6e)]) hx hb d_D_run_304 hl (k := 4) rfl rfl (by decide) rfl (fun ls hl => ?_)
          refine lv_goto (tgt := 126) hx hb d_D_run_307 (by decide) ?_
          have hl : lv_has ls 7 [(0, .ref dq), (1, .int y1e), (2, .int (y2e ||| ((1 : Int32) <<< (y5e &&& 31)))), (3, .int (y3e + 1)), (4, .int (y4e + 1))] := lv_sub hl [3, 4, 2, 1, 0] rfl
          exact ih126 y1e (y2e ||| ((1 : Int32) <<< (y5e &&& 31))) (y3e + 1) (y4e + 1) d_throwne (upd d_usede y4e.toNatClampNeg (vp_nar .boolean 1)) (upd d_usedBye y5e.toNatClampNeg y4e) (upd d_reservedFore y4e.toNatClampNeg (-1)) d_rane d_sume (upd d_pieceDuale y4e.toNatClampNeg (r12 - (d_orderDuale y5e.toNatClampNeg))) d_orderDuale d_tablee _ _ ls hl hP hD hS hm
        · replace hm := if_f c9 hm
          refine lv_goto (tgt := 304) hx hb d_D_run_243 (by decide) ?_
          refine lv_iinc (v := (y4e + 1)) (lv' := [(4, .int (y4e + 1)), (0, .ref dq), (1, .int y1e), (2, .int y2e), (3, .int y3e), (5, .int y5e), (6, .int y6e)]) hx hb d_D_run_304 hl (k := 4) rfl rfl (by decide) rfl (fun ls hl => ?_)
          refine lv_goto (tgt := 126) hx hb d_D_run_307 (by decide) ?_
          have hl : lv_has ls 7 [(0, .ref dq), (1, .int y1e), (2, .int y2e), (3, .int y3e), (4, .int (y4e + 1))] := lv_sub hl [1, 2, 3, 4, 0] rfl
          exact ih126 y1e y2e y3e (y4e + 1) d_throwne d_usede d_usedBye d_reservedFore d_rane d_sume d_pieceDuale d_orderDuale d_tablee _ _ ls hl hP hD hS hm
  have hl : lv_has ls 7 [(0, .ref dq), (1, .int y1c), (2, .int 0), (3, .int 0), (4, .int 0)] := lv_sub hl [3, 4, 2, 1, 0] rfl
  refine key126 _ (fun y1d y2d y3d y4d d_thrownd d_usedd d_usedByd d_reservedFord d_rand d_sumd d_pieceDuald d_orderDuald d_tabled H locs ls hl hP hD hS hm => ?_) N y1c 0 0 0 d_thrownc d_usedc d_usedByc d_reservedForc 1 y1c d_pieceDualc d_orderDualc u7 _ _ ls hl hP hD hS hm
  try dsimp only at hm
  refine lv_iload_n hx hb d_D_run_310 rfl (lv_at hl 3 rfl) ?_
  cases hm
  refine W.widen (k := 0) (n := 0) (Nat.le_of_ble_eq_true rfl) (Nat.le_of_ble_eq_true rfl) ?_
  exact W.iret hx hb hr (fun t ht hW => ⟨⟨_, (), rfl, rfl, by rw [ht]; exact hP, va_K.moved hW.alike hK, hD⟩, hS.F ht⟩) hS.2.2 d_D_run_311

def w_D_sum : List Cond := .code y_D_sum b_D_sum 1 (some .int) :: W0
theorem q_D_sum : y_D_sum.cls = R_D ∧ y_D_sum.cls ≠ "java/lang/invoke/MethodHandle" ∧ y_D_sum.cls ≠ "java/lang/invoke/VarHandle" ∧ (parseMethodDescriptor y_D_sum.desc).map (fun d => d.parameters.length) = some 0 := by decide +kernel
def m_D_sum (d_sum : Int32) : Option (Int32 × Int32) :=
  some (d_sum, 0)
set_option maxHeartbeats 4000000 in
set_option maxRecDepth 100000 in
theorem c_D_sum (l : Launch) (dC : Nat → ClassId) (dI : Nat → Nat → Nat) (cI cZ cJ : ClassId) (dq dq8 dq9 dq10 dq11 dq12 dq13 dq14 dq15 dq18 dq19 dq20 : Nat) (sz : Nat) (d_thrown : Int32) (d_today : Int32) (d_cut : Int32) (d_aging : Int32) (d_saleFrom : Int32) (d_pieces : Int32) (d_orders : Int32) (d_piece : Nat → Int32) (d_order : Nat → Int32) (d_came : Nat → Int32) (d_worth : Nat → Int32) (d_used : Nat → Int32) (d_usedBy : Nat → Int32) (d_reservedFor : Nat → Int32) (d_reservedTo : Nat → Int32) (d_ran : Int32) (d_sum : Int32) (d_pieceDual : Nat → Int32) (d_orderDual : Nat → Int32) (d_table : Nat → Int64)  (N : Nat) (res : Int32 × Int32) (hm : m_D_sum d_sum = some res) : Met l y_D_sum w_D_sum ({ frames := 0, cells := 0, slots := 0, locals := 0 } : Room) (va_Pc [.ref dq] (fun U => U.heap.size = sz ∧ va_P (dC, dI) classes [(dq, .inr (5, [.int d_thrown, .int d_today, .int d_cut, .int d_aging, .int d_saleFrom, .int d_pieces, .int d_orders, .ref dq8, .ref dq9, .ref dq10, .ref dq11, .ref dq12, .ref dq13, .ref dq14, .ref dq15, .int d_ran, .int d_sum, .ref dq18, .ref dq19, .ref dq20])), (dq8, .inl (cI, 40, .inl d_piece)), (dq9, .inl (cI, 40, .inl d_order)), (dq10, .inl (cI, 10, .inl d_came)), (dq11, .inl (cI, 100, .inl d_worth)), (dq12, .inl (cZ, 10, .inl d_used)), (dq13, .inl (cI, 10, .inl d_usedBy)), (dq14, .inl (cI, 10, .inl d_reservedFor)), (dq15, .inl (cI, 10, .inl d_reservedTo)), (dq18, .inl (cI, 10, .inl d_pieceDual)), (dq19, .inl (cI, 10, .inl d_orderDual)), (dq20, .inl (cJ, 11264, .inr (.inl d_table)))] U.heap ∧ va_K (dC, dI) classes [(cI, .int), (cZ, .boolean), (cJ, .long)] U ∧ va_D (fun _ => True) [(dq, .inr (5, [.int d_thrown, .int d_today, .int d_cut, .int d_aging, .int d_saleFrom, .int d_pieces, .int d_orders, .ref dq8, .ref dq9, .ref dq10, .ref dq11, .ref dq12, .ref dq13, .ref dq14, .ref dq15, .int d_ran, .int d_sum, .ref dq18, .ref dq19, .ref dq20])), (dq8, .inl (cI, 40, .inl d_piece)), (dq9, .inl (cI, 40, .inl d_order)), (dq10, .inl (cI, 10, .inl d_came)), (dq11, .inl (cI, 100, .inl d_worth)), (dq12, .inl (cZ, 10, .inl d_used)), (dq13, .inl (cI, 10, .inl d_usedBy)), (dq14, .inl (cI, 10, .inl d_reservedFor)), (dq15, .inl (cI, 10, .inl d_reservedTo)), (dq18, .inl (cI, 10, .inl d_pieceDual)), (dq19, .inl (cI, 10, .inl d_orderDual)), (dq20, .inl (cJ, 11264, .inr (.inl d_table)))] ∧ nw U)) (va_Qi (fun (x : Int32) (_ : Unit) => res.1 = x) (fun _ t => va_P (dC, dI) classes [(dq, .inr (5, [.int res.2, .int d_today, .int d_cut, .int d_aging, .int d_saleFrom, .int d_pieces, .int d_orders, .ref dq8, .ref dq9, .ref dq10, .ref dq11, .ref dq12, .ref dq13, .ref dq14, .ref dq15, .int d_ran, .int d_sum, .ref dq18, .ref dq19, .ref dq20])), (dq8, .inl (cI, 40, .inl d_piece)), (dq9, .inl (cI, 40, .inl d_order)), (dq10, .inl (cI, 10, .inl d_came)), (dq11, .inl (cI, 100, .inl d_worth)), (dq12, .inl (cZ, 10, .inl d_used)), (dq13, .inl (cI, 10, .inl d_usedBy)), (dq14, .inl (cI, 10, .inl d_reservedFor)), (dq15, .inl (cI, 10, .inl d_reservedTo)), (dq18, .inl (cI, 10, .inl d_pieceDual)), (dq19, .inl (cI, 10, .inl d_orderDual)), (dq20, .inl (cJ, 11264, .inr (.inl d_table)))] t.heap ∧ va_K (dC, dI) classes [(cI, .int), (cZ, .boolean), (cJ, .long)] t ∧ va_D (va_A [(dq, .inr (5, [.int d_thrown, .int d_today, .int d_cut, .int d_aging, .int d_saleFrom, .int d_pieces, .int d_orders, .ref dq8, .ref dq9, .ref dq10, .ref dq11, .ref dq12, .ref dq13, .ref dq14, .ref dq15, .int d_ran, .int d_sum, .ref dq18, .ref dq19, .ref dq20])), (dq8, .inl (cI, 40, .inl d_piece)), (dq9, .inl (cI, 40, .inl d_order)), (dq10, .inl (cI, 10, .inl d_came)), (dq11, .inl (cI, 100, .inl d_worth)), (dq12, .inl (cZ, 10, .inl d_used)), (dq13, .inl (cI, 10, .inl d_usedBy)), (dq14, .inl (cI, 10, .inl d_reservedFor)), (dq15, .inl (cI, 10, .inl d_reservedTo)), (dq18, .inl (cI, 10, .inl d_pieceDual)), (dq19, .inl (cI, 10, .inl d_orderDual)), (dq20, .inl (cJ, 11264, .inr (.inl d_table)))] sz) [(dq, .inr (5, [.int res.2, .int d_today, .int d_cut, .int d_aging, .int d_saleFrom, .int d_pieces, .int d_orders, .ref dq8, .ref dq9, .ref dq10, .ref dq11, .ref dq12, .ref dq13, .ref dq14, .ref dq15, .int d_ran, .int d_sum, .ref dq18, .ref dq19, .ref dq20])), (dq8, .inl (cI, 40, .inl d_piece)), (dq9, .inl (cI, 40, .inl d_order)), (dq10, .inl (cI, 10, .inl d_came)), (dq11, .inl (cI, 100, .inl d_worth)), (dq12, .inl (cZ, 10, .inl d_used)), (dq13, .inl (cI, 10, .inl d_usedBy)), (dq14, .inl (cI, 10, .inl d_reservedFor)), (dq15, .inl (cI, 10, .inl d_reservedTo)), (dq18, .inl (cI, 10, .inl d_pieceDual)), (dq19, .inl (cI, 10, .inl d_orderDual)), (dq20, .inl (cJ, 11264, .inr (.inl d_table)))]) (va_A [(dq, .inr (5, [.int d_thrown, .int d_today, .int d_cut, .int d_aging, .int d_saleFrom, .int d_pieces, .int d_orders, .ref dq8, .ref dq9, .ref dq10, .ref dq11, .ref dq12, .ref dq13, .ref dq14, .ref dq15, .int d_ran, .int d_sum, .ref dq18, .ref dq19, .ref dq20])), (dq8, .inl (cI, 40, .inl d_piece)), (dq9, .inl (cI, 40, .inl d_order)), (dq10, .inl (cI, 10, .inl d_came)), (dq11, .inl (cI, 100, .inl d_worth)), (dq12, .inl (cZ, 10, .inl d_used)), (dq13, .inl (cI, 10, .inl d_usedBy)), (dq14, .inl (cI, 10, .inl d_reservedFor)), (dq15, .inl (cI, 10, .inl d_reservedTo)), (dq18, .inl (cI, 10, .inl d_pieceDual)), (dq19, .inl (cI, 10, .inl d_orderDual)), (dq20, .inl (cJ, 11264, .inr (.inl d_table)))] sz)) 0 0 (va_A [(dq, .inr (5, [.int d_thrown, .int d_today, .int d_cut, .int d_aging, .int d_saleFrom, .int d_pieces, .int d_orders, .ref dq8, .ref dq9, .ref dq10, .ref dq11, .ref dq12, .ref dq13, .ref dq14, .ref dq15, .int d_ran, .int d_sum, .ref dq18, .ref dq19, .ref dq20])), (dq8, .inl (cI, 40, .inl d_piece)), (dq9, .inl (cI, 40, .inl d_order)), (dq10, .inl (cI, 10, .inl d_came)), (dq11, .inl (cI, 100, .inl d_worth)), (dq12, .inl (cZ, 10, .inl d_used)), (dq13, .inl (cI, 10, .inl d_usedBy)), (dq14, .inl (cI, 10, .inl d_reservedFor)), (dq15, .inl (cI, 10, .inl d_reservedTo)), (dq18, .inl (cI, 10, .inl d_pieceDual)), (dq19, .inl (cI, 10, .inl d_orderDual)), (dq20, .inl (cJ, 11264, .inr (.inl d_table)))] sz) := by
  unfold m_D_sum at hm
  refine Met.ofW (cc := b_D_sum) (maxL := 1) (ret := (some .int)) (by decide) rfl ?_
  intro p e s m args below meth c s₁ B hml hv
  obtain ⟨rfl, hsz, hP, hK, hD0, hN⟩ := hv
  have hx := B.exec
  have hb := B.bytes
  have hr := B.returns
  have hts := atoms_spec (ws := w_D_sum) B.pre
  have hown : s.vm.findClass R_D = some m.cls := findClass_of_methodNamed B.named
  have hlocks := B.notSynchronized
  subst hsz
  have hD := hD0.self (sz := s.heap.size)
  generalize hAe : va_A [(dq, .inr (5, [.int d_thrown, .int d_today, .int d_cut, .int d_aging, .int d_saleFrom, .int d_pieces, .int d_orders, .ref dq8, .ref dq9, .ref dq10, .ref dq11, .ref dq12, .ref dq13, .ref dq14, .ref dq15, .int d_ran, .int d_sum, .ref dq18, .ref dq19, .ref dq20])), (dq8, .inl (cI, 40, .inl d_piece)), (dq9, .inl (cI, 40, .inl d_order)), (dq10, .inl (cI, 10, .inl d_came)), (dq11, .inl (cI, 100, .inl d_worth)), (dq12, .inl (cZ, 10, .inl d_used)), (dq13, .inl (cI, 10, .inl d_usedBy)), (dq14, .inl (cI, 10, .inl d_reservedFor)), (dq15, .inl (cI, 10, .inl d_reservedTo)), (dq18, .inl (cI, 10, .inl d_pieceDual)), (dq19, .inl (cI, 10, .inl d_orderDual)), (dq20, .inl (cJ, 11264, .inr (.inl d_table)))] s.heap.size = A at hD ⊢
  have hA : ∀ q : Nat, s.heap.size ≤ q → A q := fun q h => by rw [← hAe]; exact Or.inr h
  have hS : va_S A s.heap s.heap [] := va_S.rf
  have hk0 := hts (.fieldLink R_D 49 "SurplusMatchModel" "thrown" "I") (List.mem_cons_of_mem _ (w0 593 rfl))
  have hk1 : ∀ w ∈ w_D, w ∈ w_D_sum := fun w h => List.mem_cons_of_mem _ (i_D w h)
  have hk2 := hts (.fieldLink R_D 115 "SurplusMatchModel" "sum" "I") (List.mem_cons_of_mem _ (w0 609 rfl))
  have hl := lv_entry ([.ref dq]) (n := 1) (Nat.le_of_ble_eq_true rfl)
  rw [lg_entry_eq]
  generalize (lg_sl ([.ref dq]) ++ List.replicate (1 - (lg_sl ([.ref dq])).length) Slot.unset).toArray = ls at hl ⊢
  have hl : lv_has ls 1 [(0, .ref dq)] := hl
  refine lv_aload_n hx hb d_D_sum_0 rfl (lv_at hl 0 rfl) ?_
  refine lv_iconst (v := 0) hx hb d_D_sum_1 (by decide) ?_
  refine va_put (D := (dC, dI)) (ci := 5) (v := .int 0) (ty := .int) (C := R_D) (T := F_D) (N := 20) hx hb hts hk1 t_D t_D_ok n_D hown hK hP hD hS 0 rfl rfl 0 (by decide) hk0 (fun _ h9 => h9) rfl (by decide +kernel) rfl rfl (Nat.le_of_ble_eq_true rfl) d_D_sum_2 (fun H locs hP hD hS => ?_)
  have hP : va_P (dC, dI) classes [(dq, .inr (5, [.int 0, .int d_today, .int d_cut, .int d_aging, .int d_saleFrom, .int d_pieces, .int d_orders, .ref dq8, .ref dq9, .ref dq10, .ref dq11, .ref dq12, .ref dq13, .ref dq14, .ref dq15, .int d_ran, .int d_sum, .ref dq18, .ref dq19, .ref dq20])), (dq8, .inl (cI, 40, .inl d_piece)), (dq9, .inl (cI, 40, .inl d_order)), (dq10, .inl (cI, 10, .inl d_came)), (dq11, .inl (cI, 100, .inl d_worth)), (dq12, .inl (cZ, 10, .inl d_used)), (dq13, .inl (cI, 10, .inl d_usedBy)), (dq14, .inl (cI, 10, .inl d_reservedFor)), (dq15, .inl (cI, 10, .inl d_reservedTo)), (dq18, .inl (cI, 10, .inl d_pieceDual)), (dq19, .inl (cI, 10, .inl d_orderDual)), (dq20, .inl (cJ, 11264, .inr (.inl d_table)))] H := hP
  have hD : va_D A [(dq, .inr (5, [.int 0, .int d_today, .int d_cut, .int d_aging, .int d_saleFrom, .int d_pieces, .int d_orders, .ref dq8, .ref dq9, .ref dq10, .ref dq11, .ref dq12, .ref dq13, .ref dq14, .ref dq15, .int d_ran, .int d_sum, .ref dq18, .ref dq19, .ref dq20])), (dq8, .inl (cI, 40, .inl d_piece)), (dq9, .inl (cI, 40, .inl d_order)), (dq10, .inl (cI, 10, .inl d_came)), (dq11, .inl (cI, 100, .inl d_worth)), (dq12, .inl (cZ, 10, .inl d_used)), (dq13, .inl (cI, 10, .inl d_usedBy)), (dq14, .inl (cI, 10, .inl d_reservedFor)), (dq15, .inl (cI, 10, .inl d_reservedTo)), (dq18, .inl (cI, 10, .inl d_pieceDual)), (dq19, .inl (cI, 10, .inl d_orderDual)), (dq20, .inl (cJ, 11264, .inr (.inl d_table)))] := hD
  refine lv_aload_n hx hb d_D_sum_5 rfl (lv_at hl 0 rfl) ?_
  refine va_get (D := (dC, dI)) (ci := 5) (v := .int d_sum) (C := R_D) (T := F_D) (N := 20) hx hb hts hk1 hown hK hP 0 rfl rfl 16 (by decide) hk2 (fun _ h9 => h9) rfl d_D_sum_6 ?_
  cases hm
  refine W.widen (k := 0) (n := 0) (Nat.le_of_ble_eq_true rfl) (Nat.le_of_ble_eq_true rfl) ?_
  exact W.iret hx hb hr (fun t ht hW => ⟨⟨_, (), rfl, rfl, by rw [ht]; exact hP, va_K.moved hW.alike hK, hD⟩, hS.F ht⟩) hS.2.2 d_D_sum_9

def w_D_dual : List Cond := .code y_D_dual b_D_dual 4 (some .int) :: W0
theorem q_D_dual : y_D_dual.cls = R_D ∧ y_D_dual.cls ≠ "java/lang/invoke/MethodHandle" ∧ y_D_dual.cls ≠ "java/lang/invoke/VarHandle" ∧ (parseMethodDescriptor y_D_dual.desc).map (fun d => d.parameters.length) = some 2 := by decide +kernel
def m_D_dual (d_pieces : Int32) (d_orders : Int32) (d_ran : Int32) (d_pieceDual : Nat → Int32) (d_orderDual : Nat → Int32) (x1 : Int32) (x2 : Int32) : Option (Int32 × Int32) :=
  ((m_D_in x1 0 1).bind fun r1 =>
  (if r1 = 0 then
    ((m_D_goes 0 d_ran 1 1).bind fun (r2, u3) =>
      (if r2 = 0 then
        some (0, u3)
       else
        (if x1 = 0 then
          (if x2 < 0 ∨ 10 ≤ x2.toNatClampNeg then none else
          some ((d_pieceDual x2.toNatClampNeg), u3))
         else
          (if x2 < 0 ∨ 10 ≤ x2.toNatClampNeg then none else
          some ((d_orderDual x2.toNatClampNeg), u3)))))
   else
    (if x1 = 0 then
      ((m_D_isPiece d_pieces x2).bind fun r13 =>
        (if r13 = 0 then
          ((m_D_goes 0 d_ran 1 1).bind fun (r14, u15) =>
            (if r14 = 0 then
              some (0, u15)
             else
              (if x1 = 0 then
                (if x2 < 0 ∨ 10 ≤ x2.toNatClampNeg then none else
                some ((d_pieceDual x2.toNatClampNeg), u15))
               else
                (if x2 < 0 ∨ 10 ≤ x2.toNatClampNeg then none else
                some ((d_orderDual x2.toNatClampNeg), u15)))))
         else
          ((m_D_goes 1 d_ran 1 1).bind fun (r17, u18) =>
            (if r17 = 0 then
              some (0, u18)
             else
              (if x1 = 0 then
                (if x2 < 0 ∨ 10 ≤ x2.toNatClampNeg then none else
                some ((d_pieceDual x2.toNatClampNeg), u18))
               else
                (if x2 < 0 ∨ 10 ≤ x2.toNatClampNeg then none else
                some ((d_orderDual x2.toNatClampNeg), u18)))))))
     else
      ((m_D_isOrder d_orders x2).bind fun r5 =>
        (if r5 = 0 then
          ((m_D_goes 0 d_ran 1 1).bind fun (r6, u7) =>
            (if r6 = 0 then
              some (0, u7)
             else
              (if x1 = 0 then
                (if x2 < 0 ∨ 10 ≤ x2.toNatClampNeg then none else
                some ((d_pieceDual x2.toNatClampNeg), u7))
               else
                (if x2 < 0 ∨ 10 ≤ x2.toNatClampNeg then none else
                some ((d_orderDual x2.toNatClampNeg), u7)))))
         else
          ((m_D_goes 1 d_ran 1 1).bind fun (r9, u10) =>
            (if r9 = 0 then
              some (0, u10)
             else
              (if x1 = 0 then
                (if x2 < 0 ∨ 10 ≤ x2.toNatClampNeg then none else
                some ((d_pieceDual x2.toNatClampNeg), u10))
               else
                (if x2 < 0 ∨ 10 ≤ x2.toNatClampNeg then none else
                some ((d_orderDual x2.toNatClampNeg), u10))))))))))
set_option maxHeartbeats 4000000 in
set_option maxRecDepth 100000 in
theorem c_D_dual (l : Launch) (dC : Nat → ClassId) (dI : Nat → Nat → Nat) (cI cZ cJ : ClassId) (dq dq8 dq9 dq10 dq11 dq12 dq13 dq14 dq15 dq18 dq19 dq20 : Nat) (sz : Nat) (d_thrown : Int32) (d_today : Int32) (d_cut : Int32) (d_aging : Int32) (d_saleFrom : Int32) (d_pieces : Int32) (d_orders : Int32) (d_piece : Nat → Int32) (d_order : Nat → Int32) (d_came : Nat → Int32) (d_worth : Nat → Int32) (d_used : Nat → Int32) (d_usedBy : Nat → Int32) (d_reservedFor : Nat → Int32) (d_reservedTo : Nat → Int32) (d_ran : Int32) (d_sum : Int32) (d_pieceDual : Nat → Int32) (d_orderDual : Nat → Int32) (d_table : Nat → Int64) (x1 : Int32) (x2 : Int32) (N : Nat) (res : Int32 × Int32) (hm : m_D_dual d_pieces d_orders d_ran d_pieceDual d_orderDual x1 x2 = some res) : Met l y_D_dual w_D_dual ({ frames := 2, cells := 0, slots := 0, locals := 43 } : Room) (va_Pc [.ref dq, .int x1, .int x2] (fun U => U.heap.size = sz ∧ va_P (dC, dI) classes [(dq, .inr (5, [.int d_thrown, .int d_today, .int d_cut, .int d_aging, .int d_saleFrom, .int d_pieces, .int d_orders, .ref dq8, .ref dq9, .ref dq10, .ref dq11, .ref dq12, .ref dq13, .ref dq14, .ref dq15, .int d_ran, .int d_sum, .ref dq18, .ref dq19, .ref dq20])), (dq8, .inl (cI, 40, .inl d_piece)), (dq9, .inl (cI, 40, .inl d_order)), (dq10, .inl (cI, 10, .inl d_came)), (dq11, .inl (cI, 100, .inl d_worth)), (dq12, .inl (cZ, 10, .inl d_used)), (dq13, .inl (cI, 10, .inl d_usedBy)), (dq14, .inl (cI, 10, .inl d_reservedFor)), (dq15, .inl (cI, 10, .inl d_reservedTo)), (dq18, .inl (cI, 10, .inl d_pieceDual)), (dq19, .inl (cI, 10, .inl d_orderDual)), (dq20, .inl (cJ, 11264, .inr (.inl d_table)))] U.heap ∧ va_K (dC, dI) classes [(cI, .int), (cZ, .boolean), (cJ, .long)] U ∧ va_D (fun _ => True) [(dq, .inr (5, [.int d_thrown, .int d_today, .int d_cut, .int d_aging, .int d_saleFrom, .int d_pieces, .int d_orders, .ref dq8, .ref dq9, .ref dq10, .ref dq11, .ref dq12, .ref dq13, .ref dq14, .ref dq15, .int d_ran, .int d_sum, .ref dq18, .ref dq19, .ref dq20])), (dq8, .inl (cI, 40, .inl d_piece)), (dq9, .inl (cI, 40, .inl d_order)), (dq10, .inl (cI, 10, .inl d_came)), (dq11, .inl (cI, 100, .inl d_worth)), (dq12, .inl (cZ, 10, .inl d_used)), (dq13, .inl (cI, 10, .inl d_usedBy)), (dq14, .inl (cI, 10, .inl d_reservedFor)), (dq15, .inl (cI, 10, .inl d_reservedTo)), (dq18, .inl (cI, 10, .inl d_pieceDual)), (dq19, .inl (cI, 10, .inl d_orderDual)), (dq20, .inl (cJ, 11264, .inr (.inl d_table)))] ∧ nw U)) (va_Qi (fun (x : Int32) (_ : Unit) => res.1 = x) (fun _ t => va_P (dC, dI) classes [(dq, .inr (5, [.int res.2, .int d_today, .int d_cut, .int d_aging, .int d_saleFrom, .int d_pieces, .int d_orders, .ref dq8, .ref dq9, .ref dq10, .ref dq11, .ref dq12, .ref dq13, .ref dq14, .ref dq15, .int d_ran, .int d_sum, .ref dq18, .ref dq19, .ref dq20])), (dq8, .inl (cI, 40, .inl d_piece)), (dq9, .inl (cI, 40, .inl d_order)), (dq10, .inl (cI, 10, .inl d_came)), (dq11, .inl (cI, 100, .inl d_worth)), (dq12, .inl (cZ, 10, .inl d_used)), (dq13, .inl (cI, 10, .inl d_usedBy)), (dq14, .inl (cI, 10, .inl d_reservedFor)), (dq15, .inl (cI, 10, .inl d_reservedTo)), (dq18, .inl (cI, 10, .inl d_pieceDual)), (dq19, .inl (cI, 10, .inl d_orderDual)), (dq20, .inl (cJ, 11264, .inr (.inl d_table)))] t.heap ∧ va_K (dC, dI) classes [(cI, .int), (cZ, .boolean), (cJ, .long)] t ∧ va_D (va_A [(dq, .inr (5, [.int d_thrown, .int d_today, .int d_cut, .int d_aging, .int d_saleFrom, .int d_pieces, .int d_orders, .ref dq8, .ref dq9, .ref dq10, .ref dq11, .ref dq12, .ref dq13, .ref dq14, .ref dq15, .int d_ran, .int d_sum, .ref dq18, .ref dq19, .ref dq20])), (dq8, .inl (cI, 40, .inl d_piece)), (dq9, .inl (cI, 40, .inl d_order)), (dq10, .inl (cI, 10, .inl d_came)), (dq11, .inl (cI, 100, .inl d_worth)), (dq12, .inl (cZ, 10, .inl d_used)), (dq13, .inl (cI, 10, .inl d_usedBy)), (dq14, .inl (cI, 10, .inl d_reservedFor)), (dq15, .inl (cI, 10, .inl d_reservedTo)), (dq18, .inl (cI, 10, .inl d_pieceDual)), (dq19, .inl (cI, 10, .inl d_orderDual)), (dq20, .inl (cJ, 11264, .inr (.inl d_table)))] sz) [(dq, .inr (5, [.int res.2, .int d_today, .int d_cut, .int d_aging, .int d_saleFrom, .int d_pieces, .int d_orders, .ref dq8, .ref dq9, .ref dq10, .ref dq11, .ref dq12, .ref dq13, .ref dq14, .ref dq15, .int d_ran, .int d_sum, .ref dq18, .ref dq19, .ref dq20])), (dq8, .inl (cI, 40, .inl d_piece)), (dq9, .inl (cI, 40, .inl d_order)), (dq10, .inl (cI, 10, .inl d_came)), (dq11, .inl (cI, 100, .inl d_worth)), (dq12, .inl (cZ, 10, .inl d_used)), (dq13, .inl (cI, 10, .inl d_usedBy)), (dq14, .inl (cI, 10, .inl d_reservedFor)), (dq15, .inl (cI, 10, .inl d_reservedTo)), (dq18, .inl (cI, 10, .inl d_pieceDual)), (dq19, .inl (cI, 10, .inl d_orderDual)), (dq20, .inl (cJ, 11264, .inr (.inl d_table)))]) (va_A [(dq, .inr (5, [.int d_thrown, .int d_today, .int d_cut, .int d_aging, .int d_saleFrom, .int d_pieces, .int d_orders, .ref dq8, .ref dq9, .ref dq10, .ref dq11, .ref dq12, .ref dq13, .ref dq14, .ref dq15, .int d_ran, .int d_sum, .ref dq18, .ref dq19, .ref dq20])), (dq8, .inl (cI, 40, .inl d_piece)), (dq9, .inl (cI, 40, .inl d_order)), (dq10, .inl (cI, 10, .inl d_came)), (dq11, .inl (cI, 100, .inl d_worth)), (dq12, .inl (cZ, 10, .inl d_used)), (dq13, .inl (cI, 10, .inl d_usedBy)), (dq14, .inl (cI, 10, .inl d_reservedFor)), (dq15, .inl (cI, 10, .inl d_reservedTo)), (dq18, .inl (cI, 10, .inl d_pieceDual)), (dq19, .inl (cI, 10, .inl d_orderDual)), (dq20, .inl (cJ, 11264, .inr (.inl d_table)))] sz)) 0 0 (va_A [(dq, .inr (5, [.int d_thrown, .int d_today, .int d_cut, .int d_aging, .int d_saleFrom, .int d_pieces, .int d_orders, .ref dq8, .ref dq9, .ref dq10, .ref dq11, .ref dq12, .ref dq13, .ref dq14, .ref dq15, .int d_ran, .int d_sum, .ref dq18, .ref dq19, .ref dq20])), (dq8, .inl (cI, 40, .inl d_piece)), (dq9, .inl (cI, 40, .inl d_order)), (dq10, .inl (cI, 10, .inl d_came)), (dq11, .inl (cI, 100, .inl d_worth)), (dq12, .inl (cZ, 10, .inl d_used)), (dq13, .inl (cI, 10, .inl d_usedBy)), (dq14, .inl (cI, 10, .inl d_reservedFor)), (dq15, .inl (cI, 10, .inl d_reservedTo)), (dq18, .inl (cI, 10, .inl d_pieceDual)), (dq19, .inl (cI, 10, .inl d_orderDual)), (dq20, .inl (cJ, 11264, .inr (.inl d_table)))] sz) := by
  unfold m_D_dual at hm
  refine Met.ofW (cc := b_D_dual) (maxL := 4) (ret := (some .int)) (by decide) rfl ?_
  intro p e s m args below meth c s₁ B hml hv
  obtain ⟨rfl, hsz, hP, hK, hD0, hN⟩ := hv
  have hx := B.exec
  have hb := B.bytes
  have hr := B.returns
  have hts := atoms_spec (ws := w_D_dual) B.pre
  have hown : s.vm.findClass R_D = some m.cls := findClass_of_methodNamed B.named
  have hlocks := B.notSynchronized
  subst hsz
  have hD := hD0.self (sz := s.heap.size)
  generalize hAe : va_A [(dq, .inr (5, [.int d_thrown, .int d_today, .int d_cut, .int d_aging, .int d_saleFrom, .int d_pieces, .int d_orders, .ref dq8, .ref dq9, .ref dq10, .ref dq11, .ref dq12, .ref dq13, .ref dq14, .ref dq15, .int d_ran, .int d_sum, .ref dq18, .ref dq19, .ref dq20])), (dq8, .inl (cI, 40, .inl d_piece)), (dq9, .inl (cI, 40, .inl d_order)), (dq10, .inl (cI, 10, .inl d_came)), (dq11, .inl (cI, 100, .inl d_worth)), (dq12, .inl (cZ, 10, .inl d_used)), (dq13, .inl (cI, 10, .inl d_usedBy)), (dq14, .inl (cI, 10, .inl d_reservedFor)), (dq15, .inl (cI, 10, .inl d_reservedTo)), (dq18, .inl (cI, 10, .inl d_pieceDual)), (dq19, .inl (cI, 10, .inl d_orderDual)), (dq20, .inl (cJ, 11264, .inr (.inl d_table)))] s.heap.size = A at hD ⊢
  have hA : ∀ q : Nat, s.heap.size ≤ q → A q := fun q h => by rw [← hAe]; exact Or.inr h
  have hS : va_S A s.heap s.heap [] := va_S.rf
  have hk0 := hts (.fieldLink R_D 73 "SurplusMatchModel" "ran" "Z") (List.mem_cons_of_mem _ (w0 608 rfl))
  have hk1 : ∀ w ∈ w_D, w ∈ w_D_dual := fun w h => List.mem_cons_of_mem _ (i_D w h)
  have hk2 := hts (.fieldLink R_D 42 "SurplusMatchModel" "orderDual" "[I") (List.mem_cons_of_mem _ (w0 611 rfl))
  have hk3 := hts (.fieldLink R_D 39 "SurplusMatchModel" "pieceDual" "[I") (List.mem_cons_of_mem _ (w0 610 rfl))
  have hl := lv_entry ([.ref dq, .int x1, .int x2]) (n := 4) (Nat.le_of_ble_eq_true rfl)
  rw [lg_entry_eq]
  generalize (lg_sl ([.ref dq, .int x1, .int x2]) ++ List.replicate (4 - (lg_sl ([.ref dq, .int x1, .int x2])).length) Slot.unset).toArray = ls at hl ⊢
  have hl : lv_has ls 4 [(0, .ref dq), (1, .int x1), (2, .int x2)] := hl
  refine lv_iload_n hx hb d_D_dual_0 rfl (lv_at hl 1 rfl) ?_
  refine lv_iconst (v := 0) hx hb d_D_dual_1 (by decide) ?_
  refine lv_iconst (v := 1) hx hb d_D_dual_2 (by decide) ?_
  obtain ⟨r1, hc, hm⟩ := bd hm
  try dsimp only at hm
  refine vp_callSi (W.runS (As := [.int x1, .int 0, .int 1]) (rest := []) ⟨hx, hb, hml, hown, hts⟩ (c_D_in l dC dI cI x1 0 1 N r1 hc) (cwS 3 hts (gS (w0 667 rfl) (w0 668 rfl) (w0 33 rfl) (w0 669 rfl)) rfl rfl rfl q_D_in ⟨Nat.le_of_ble_eq_true rfl, Nat.le_of_ble_eq_true rfl⟩) ro_pre0 rfl rfl hl.1 rfl (lv_room (Nat.le_of_ble_eq_true rfl)) d_D_dual_3 ⟨Nat.le_of_ble_eq_true rfl, Nat.le_of_ble_eq_true rfl⟩) (fun r9 hr9 => ?_)
  subst hr9
  refine lv_if_eq (tgt := 36) hx hb d_D_dual_6 (by decide) (fun c9 => ?_) (fun c9 => ?_)
  · replace hm := if_t c9 hm
    refine lv_iconst (v := 0) hx hb d_D_dual_36 (by decide) ?_
    refine lv_istore_n (lv' := [(3, .int 0), (0, .ref dq), (1, .int x1), (2, .int x2)]) hx hb d_D_dual_37 rfl hl (by decide) rfl (fun ls hl => ?_)
    refine lv_aload_n hx hb d_D_dual_38 rfl (lv_at hl 1 rfl) ?_
    refine lv_iload_n hx hb d_D_dual_39 rfl (lv_at hl 0 rfl) ?_
    refine lv_aload_n hx hb d_D_dual_40 rfl (lv_at hl 1 rfl) ?_
    refine va_get (D := (dC, dI)) (ci := 5) (v := .int d_ran) (C := R_D) (T := F_D) (N := 20) hx hb hts hk1 hown hK hP 0 rfl rfl 15 (by decide) hk0 (fun _ h9 => h9) rfl d_D_dual_41 ?_
    refine lv_iconst (v := 1) hx hb d_D_dual_44 (by decide) ?_
    refine lv_iconst (v := 1) hx hb d_D_dual_45 (by decide) ?_
    obtain ⟨⟨r2, u3⟩, hc, hm⟩ := bd hm
    try dsimp only at hm
    have hPc := hP.sub (ws' := [(dq, .inr (5, [.int d_thrown, .int d_today, .int d_cut, .int d_aging, .int d_saleFrom, .int d_pieces, .int d_orders, .ref dq8, .ref dq9, .ref dq10, .ref dq11, .ref dq12, .ref dq13, .ref dq14, .ref dq15, .int d_ran, .int d_sum, .ref dq18, .ref dq19, .ref dq20])), (dq8, .inl (cI, 40, .inl d_piece)), (dq9, .inl (cI, 40, .inl d_order)), (dq10, .inl (cI, 10, .inl d_came)), (dq11, .inl (cI, 100, .inl d_worth)), (dq12, .inl (cZ, 10, .inl d_used)), (dq13, .inl (cI, 10, .inl d_usedBy)), (dq14, .inl (cI, 10, .inl d_reservedFor)), (dq15, .inl (cI, 10, .inl d_reservedTo)), (dq18, .inl (cI, 10, .inl d_pieceDual)), (dq19, .inl (cI, 10, .inl d_orderDual)), (dq20, .inl (cJ, 11264, .inr (.inl d_table)))]) [0, 1, 2, 3, 4, 5, 6, 7, 8, 9, 10, 11] rfl
    have hDc := hD.sub (ws' := [(dq, .inr (5, [.int d_thrown, .int d_today, .int d_cut, .int d_aging, .int d_saleFrom, .int d_pieces, .int d_orders, .ref dq8, .ref dq9, .ref dq10, .ref dq11, .ref dq12, .ref dq13, .ref dq14, .ref dq15, .int d_ran, .int d_sum, .ref dq18, .ref dq19, .ref dq20])), (dq8, .inl (cI, 40, .inl d_piece)), (dq9, .inl (cI, 40, .inl d_order)), (dq10, .inl (cI, 10, .inl d_came)), (dq11, .inl (cI, 100, .inl d_worth)), (dq12, .inl (cZ, 10, .inl d_used)), (dq13, .inl (cI, 10, .inl d_usedBy)), (dq14, .inl (cI, 10, .inl d_reservedFor)), (dq15, .inl (cI, 10, .inl d_reservedTo)), (dq18, .inl (cI, 10, .inl d_pieceDual)), (dq19, .inl (cI, 10, .inl d_orderDual)), (dq20, .inl (cJ, 11264, .inr (.inl d_table)))]) [0, 1, 2, 3, 4, 5, 6, 7, 8, 9, 10, 11] (by decide) rfl
    have hFc := va_free (wc := [(dq, .inr (5, [.int d_thrown, .int d_today, .int d_cut, .int d_aging, .int d_saleFrom, .int d_pieces, .int d_orders, .ref dq8, .ref dq9, .ref dq10, .ref dq11, .ref dq12, .ref dq13, .ref dq14, .ref dq15, .int d_ran, .int d_sum, .ref dq18, .ref dq19, .ref dq20])), (dq8, .inl (cI, 40, .inl d_piece)), (dq9, .inl (cI, 40, .inl d_order)), (dq10, .inl (cI, 10, .inl d_came)), (dq11, .inl (cI, 100, .inl d_worth)), (dq12, .inl (cZ, 10, .inl d_used)), (dq13, .inl (cI, 10, .inl d_usedBy)), (dq14, .inl (cI, 10, .inl d_reservedFor)), (dq15, .inl (cI, 10, .inl d_reservedTo)), (dq18, .inl (cI, 10, .inl d_pieceDual)), (dq19, .inl (cI, 10, .inl d_orderDual)), (dq20, .inl (cJ, 11264, .inr (.inl d_table)))]) hD hS hA [0, 1, 2, 3, 4, 5, 6, 7, 8, 9, 10, 11] rfl
    refine va_calli (va_runV (As := [.int 0, .int d_ran, .int 1, .int 1]) (rest := []) ⟨hx, hb, hml, hown, hts⟩ (c_D_goes l dC dI cI cZ cJ dq dq8 dq9 dq10 dq11 dq12 dq13 dq14 dq15 dq18 dq19 dq20 s.heap.size d_thrown d_today d_cut d_aging d_saleFrom d_pieces d_orders d_piece d_order d_came d_worth d_used d_usedBy d_reservedFor d_reservedTo d_ran d_sum d_pieceDual d_orderDual d_table 0 d_ran 1 1 N (r2, u3) hc) (cwV 4 hts (gV (w0 670 rfl) (w0 671 rfl) (w0 18 rfl) (w0 33 rfl) (w0 672 rfl)) rfl rfl rfl q_D_goes ⟨Nat.le_of_ble_eq_true rfl, Nat.le_of_ble_eq_true rfl⟩) (wr_preV hK hPc hDc hN 5 0 (R_D, F_D, 20) rfl rfl) rfl rfl hl.1 rfl (lv_room (Nat.le_of_ble_eq_true rfl)) d_D_dual_46 ⟨Nat.le_of_ble_eq_true rfl, Nat.le_of_ble_eq_true rfl⟩) hS (fun q _ h => hFc q h) hFc (fun r9 u t H1 locs ht hvm hw hB hz1 hk1 hS => ?_)
    subst hw
    obtain ⟨hP1, hK1, hD1⟩ := hB
    rw [ht] at hP1
    obtain ⟨hP, hD⟩ := va_join (wr := []) (w1 := [(dq, .inr (5, [.int u3, .int d_today, .int d_cut, .int d_aging, .int d_saleFrom, .int d_pieces, .int d_orders, .ref dq8, .ref dq9, .ref dq10, .ref dq11, .ref dq12, .ref dq13, .ref dq14, .ref dq15, .int d_ran, .int d_sum, .ref dq18, .ref dq19, .ref dq20])), (dq8, .inl (cI, 40, .inl d_piece)), (dq9, .inl (cI, 40, .inl d_order)), (dq10, .inl (cI, 10, .inl d_came)), (dq11, .inl (cI, 100, .inl d_worth)), (dq12, .inl (cZ, 10, .inl d_used)), (dq13, .inl (cI, 10, .inl d_usedBy)), (dq14, .inl (cI, 10, .inl d_reservedFor)), (dq15, .inl (cI, 10, .inl d_reservedTo)), (dq18, .inl (cI, 10, .inl d_pieceDual)), (dq19, .inl (cI, 10, .inl d_orderDual)), (dq20, .inl (cJ, 11264, .inr (.inl d_table)))]) hP hD [0, 1, 2, 3, 4, 5, 6, 7, 8, 9, 10, 11] [] rfl rfl (by decide) (by decide) hk1 hFc hP1 hD1
    generalize H1 = H at hP hS ⊢
    have hP : va_P (dC, dI) classes [(dq, .inr (5, [.int u3, .int d_today, .int d_cut, .int d_aging, .int d_saleFrom, .int d_pieces, .int d_orders, .ref dq8, .ref dq9, .ref dq10, .ref dq11, .ref dq12, .ref dq13, .ref dq14, .ref dq15, .int d_ran, .int d_sum, .ref dq18, .ref dq19, .ref dq20])), (dq8, .inl (cI, 40, .inl d_piece)), (dq9, .inl (cI, 40, .inl d_order)), (dq10, .inl (cI, 10, .inl d_came)), (dq11, .inl (cI, 100, .inl d_worth)), (dq12, .inl (cZ, 10, .inl d_used)), (dq13, .inl (cI, 10, .inl d_usedBy)), (dq14, .inl (cI, 10, .inl d_reservedFor)), (dq15, .inl (cI, 10, .inl d_reservedTo)), (dq18, .inl (cI, 10, .inl d_pieceDual)), (dq19, .inl (cI, 10, .inl d_orderDual)), (dq20, .inl (cJ, 11264, .inr (.inl d_table)))] H := hP
    have hD : va_D A [(dq, .inr (5, [.int u3, .int d_today, .int d_cut, .int d_aging, .int d_saleFrom, .int d_pieces, .int d_orders, .ref dq8, .ref dq9, .ref dq10, .ref dq11, .ref dq12, .ref dq13, .ref dq14, .ref dq15, .int d_ran, .int d_sum, .ref dq18, .ref dq19, .ref dq20])), (dq8, .inl (cI, 40, .inl d_piece)), (dq9, .inl (cI, 40, .inl d_order)), (dq10, .inl (cI, 10, .inl d_came)), (dq11, .inl (cI, 100, .inl d_worth)), (dq12, .inl (cZ, 10, .inl d_used)), (dq13, .inl (cI, 10, .inl d_usedBy)), (dq14, .inl (cI, 10, .inl d_reservedFor)), (dq15, .inl (cI, 10, .inl d_reservedTo)), (dq18, .inl (cI, 10, .inl d_pieceDual)), (dq19, .inl (cI, 10, .inl d_orderDual)), (dq20, .inl (cJ, 11264, .inr (.inl d_table)))] := hD
    clear hP1 hD1 hPc hDc hFc hk1 hz1
    refine lv_if_ne (tgt := 54) hx hb d_D_dual_49 (by decide) (fun c9 => ?_) (fun c9 => ?_)
    · replace hm := if_f c9 hm
      refine lv_iload_n hx hb d_D_dual_54 rfl (lv_at hl 2 rfl) ?_
      refine lv_if_ne (tgt := 67) hx hb d_D_dual_55 (by decide) (fun c9 => ?_) (fun c9 => ?_)
      · replace hm := if_f c9 hm
        refine lv_aload_n hx hb d_D_dual_67 rfl (lv_at hl 1 rfl) ?_
        refine va_get (D := (dC, dI)) (ci := 5) (v := .ref dq19) (C := R_D) (T := F_D) (N := 20) hx hb hts hk1 hown hK hP 0 rfl rfl 18 (by decide) hk2 (fun _ h9 => h9) rfl d_D_dual_68 ?_
        refine lv_iload_n hx hb d_D_dual_71 rfl (lv_at hl 3 rfl) ?_
        obtain ⟨h9, hm⟩ := gd hm
        refine va_iald hx hb hK hP 10 0 rfl rfl h9 d_D_dual_72 ?_
        cases hm
        refine W.widen (k := 0) (n := 0) (Nat.le_of_ble_eq_true rfl) (Nat.le_of_ble_eq_true rfl) ?_
        exact W.iret hx hb hr (fun t ht hW => ⟨⟨_, (), rfl, rfl, by rw [ht]; exact hP, va_K.moved hW.alike hK, hD⟩, hS.F ht⟩) hS.2.2 d_D_dual_73
      · replace hm := if_t c9 hm
        refine lv_aload_n hx hb d_D_dual_58 rfl (lv_at hl 1 rfl) ?_
        refine va_get (D := (dC, dI)) (ci := 5) (v := .ref dq18) (C := R_D) (T := F_D) (N := 20) hx hb hts hk1 hown hK hP 0 rfl rfl 17 (by decide) hk3 (fun _ h9 => h9) rfl d_D_dual_59 ?_
        refine lv_iload_n hx hb d_D_dual_62 rfl (lv_at hl 3 rfl) ?_
        obtain ⟨h9, hm⟩ := gd hm
        refine va_iald hx hb hK hP 9 0 rfl rfl h9 d_D_dual_63 ?_
        refine lv_goto (tgt := 73) hx hb d_D_dual_64 (by decide) ?_
        cases hm
        refine W.widen (k := 0) (n := 0) (Nat.le_of_ble_eq_true rfl) (Nat.le_of_ble_eq_true rfl) ?_
        exact W.iret hx hb hr (fun t ht hW => ⟨⟨_, (), rfl, rfl, by rw [ht]; exact hP, va_K.moved hW.alike hK, hD⟩, hS.F ht⟩) hS.2.2 d_D_dual_73
    · replace hm := if_t c9 hm
      refine lv_iconst (v := 0) hx hb d_D_dual_52 (by decide) ?_
      cases hm
      refine W.widen (k := 0) (n := 0) (Nat.le_of_ble_eq_true rfl) (Nat.le_of_ble_eq_true rfl) ?_
      exact W.iret hx hb hr (fun t ht hW => ⟨⟨_, (), rfl, rfl, by rw [ht]; exact hP, va_K.moved hW.alike hK, hD⟩, hS.F ht⟩) hS.2.2 d_D_dual_53
  · replace hm := if_f c9 hm
    refine lv_iload_n hx hb d_D_dual_9 rfl (lv_at hl 1 rfl) ?_
    refine lv_if_ne (tgt := 24) hx hb d_D_dual_10 (by decide) (fun c9 => ?_) (fun c9 => ?_)
    · replace hm := if_f c9 hm
      refine lv_aload_n hx hb d_D_dual_24 rfl (lv_at hl 0 rfl) ?_
      refine lv_iload_n hx hb d_D_dual_25 rfl (lv_at hl 2 rfl) ?_
      obtain ⟨r5, hc, hm⟩ := bd hm
      try dsimp only at hm
      refine vp_callSi (W.runV (As := [.int x2]) (rest := []) ⟨hx, hb, hml, hown, hts⟩ (c_D_isOrder l dC dI cI cZ cJ dq dq8 dq9 dq10 dq11 dq12 dq13 dq14 dq15 dq18 dq19 dq20 d_thrown d_today d_cut d_aging d_saleFrom d_pieces d_orders d_piece d_order d_came d_worth d_used d_usedBy d_reservedFor d_reservedTo d_ran d_sum d_pieceDual d_orderDual d_table x2 N r5 hc) (cwV 1 hts (gV (w0 684 rfl) (w0 685 rfl) (w0 20 rfl) (w0 33 rfl) (w0 686 rfl)) rfl rfl rfl q_D_isOrder ⟨Nat.le_of_ble_eq_true rfl, Nat.le_of_ble_eq_true rfl⟩) (ro_preV [0, 1, 2, 3, 4, 5, 6, 7, 8, 9, 10, 11] rfl hK hP hN 5 0 (R_D, F_D, 20) rfl rfl) rfl rfl hl.1 rfl (lv_room (Nat.le_of_ble_eq_true rfl)) d_D_dual_26 ⟨Nat.le_of_ble_eq_true rfl, Nat.le_of_ble_eq_true rfl⟩) (fun r9 hr9 => ?_)
      subst hr9
      refine lv_if_eq (tgt := 36) hx hb d_D_dual_29 (by decide) (fun c9 => ?_) (fun c9 => ?_)
      · replace hm := if_t c9 hm
        refine lv_iconst (v := 0) hx hb d_D_dual_36 (by decide) ?_
        refine lv_istore_n (lv' := [(3, .int 0), (0, .ref dq), (1, .int x1), (2, .int x2)]) hx hb d_D_dual_37 rfl hl (by decide) rfl (fun ls hl => ?_)
        refine lv_aload_n hx hb d_D_dual_38 rfl (lv_at hl 1 rfl) ?_
        refine lv_iload_n hx hb d_D_dual_39 rfl (lv_at hl 0 rfl) ?_
        refine lv_aload_n hx hb d_D_dual_40 rfl (lv_at hl 1 rfl) ?_
        refine va_get (D := (dC, dI)) (ci := 5) (v := .int d_ran) (C := R_D) (T := F_D) (N := 20) hx hb hts hk1 hown hK hP 0 rfl rfl 15 (by decide) hk0 (fun _ h9 => h9) rfl d_D_dual_41 ?_
        refine lv_iconst (v := 1) hx hb d_D_dual_44 (by decide) ?_
        refine lv_iconst (v := 1) hx hb d_D_dual_45 (by decide) ?_
        obtain ⟨⟨r6, u7⟩, hc, hm⟩ := bd hm
        try dsimp only at hm
        have hPc := hP.sub (ws' := [(dq, .inr (5, [.int d_thrown, .int d_today, .int d_cut, .int d_aging, .int d_saleFrom, .int d_pieces, .int d_orders, .ref dq8, .ref dq9, .ref dq10, .ref dq11, .ref dq12, .ref dq13, .ref dq14, .ref dq15, .int d_ran, .int d_sum, .ref dq18, .ref dq19, .ref dq20])), (dq8, .inl (cI, 40, .inl d_piece)), (dq9, .inl (cI, 40, .inl d_order)), (dq10, .inl (cI, 10, .inl d_came)), (dq11, .inl (cI, 100, .inl d_worth)), (dq12, .inl (cZ, 10, .inl d_used)), (dq13, .inl (cI, 10, .inl d_usedBy)), (dq14, .inl (cI, 10, .inl d_reservedFor)), (dq15, .inl (cI, 10, .inl d_reservedTo)), (dq18, .inl (cI, 10, .inl d_pieceDual)), (dq19, .inl (cI, 10, .inl d_orderDual)), (dq20, .inl (cJ, 11264, .inr (.inl d_table)))]) [0, 1, 2, 3, 4, 5, 6, 7, 8, 9, 10, 11] rfl
        have hDc := hD.sub (ws' := [(dq, .inr (5, [.int d_thrown, .int d_today, .int d_cut, .int d_aging, .int d_saleFrom, .int d_pieces, .int d_orders, .ref dq8, .ref dq9, .ref dq10, .ref dq11, .ref dq12, .ref dq13, .ref dq14, .ref dq15, .int d_ran, .int d_sum, .ref dq18, .ref dq19, .ref dq20])), (dq8, .inl (cI, 40, .inl d_piece)), (dq9, .inl (cI, 40, .inl d_order)), (dq10, .inl (cI, 10, .inl d_came)), (dq11, .inl (cI, 100, .inl d_worth)), (dq12, .inl (cZ, 10, .inl d_used)), (dq13, .inl (cI, 10, .inl d_usedBy)), (dq14, .inl (cI, 10, .inl d_reservedFor)), (dq15, .inl (cI, 10, .inl d_reservedTo)), (dq18, .inl (cI, 10, .inl d_pieceDual)), (dq19, .inl (cI, 10, .inl d_orderDual)), (dq20, .inl (cJ, 11264, .inr (.inl d_table)))]) [0, 1, 2, 3, 4, 5, 6, 7, 8, 9, 10, 11] (by decide) rfl
        have hFc := va_free (wc := [(dq, .inr (5, [.int d_thrown, .int d_today, .int d_cut, .int d_aging, .int d_saleFrom, .int d_pieces, .int d_orders, .ref dq8, .ref dq9, .ref dq10, .ref dq11, .ref dq12, .ref dq13, .ref dq14, .ref dq15, .int d_ran, .int d_sum, .ref dq18, .ref dq19, .ref dq20])), (dq8, .inl (cI, 40, .inl d_piece)), (dq9, .inl (cI, 40, .inl d_order)), (dq10, .inl (cI, 10, .inl d_came)), (dq11, .inl (cI, 100, .inl d_worth)), (dq12, .inl (cZ, 10, .inl d_used)), (dq13, .inl (cI, 10, .inl d_usedBy)), (dq14, .inl (cI, 10, .inl d_reservedFor)), (dq15, .inl (cI, 10, .inl d_reservedTo)), (dq18, .inl (cI, 10, .inl d_pieceDual)), (dq19, .inl (cI, 10, .inl d_orderDual)), (dq20, .inl (cJ, 11264, .inr (.inl d_table)))]) hD hS hA [0, 1, 2, 3, 4, 5, 6, 7, 8, 9, 10, 11] rfl
        refine va_calli (va_runV (As := [.int 0, .int d_ran, .int 1, .int 1]) (rest := []) ⟨hx, hb, hml, hown, hts⟩ (c_D_goes l dC dI cI cZ cJ dq dq8 dq9 dq10 dq11 dq12 dq13 dq14 dq15 dq18 dq19 dq20 s.heap.size d_thrown d_today d_cut d_aging d_saleFrom d_pieces d_orders d_piece d_order d_came d_worth d_used d_usedBy d_reservedFor d_reservedTo d_ran d_sum d_pieceDual d_orderDual d_table 0 d_ran 1 1 N (r6, u7) hc) (cwV 4 hts (gV (w0 670 rfl) (w0 671 rfl) (w0 18 rfl) (w0 33 rfl) (w0 672 rfl)) rfl rfl rfl q_D_goes ⟨Nat.le_of_ble_eq_true rfl, Nat.le_of_ble_eq_true rfl⟩) (wr_preV hK hPc hDc hN 5 0 (R_D, F_D, 20) rfl rfl) rfl rfl hl.1 rfl (lv_room (Nat.le_of_ble_eq_true rfl)) d_D_dual_46 ⟨Nat.le_of_ble_eq_true rfl, Nat.le_of_ble_eq_true rfl⟩) hS (fun q _ h => hFc q h) hFc (fun r9 u t H1 locs ht hvm hw hB hz1 hk1 hS => ?_)
        subst hw
        obtain ⟨hP1, hK1, hD1⟩ := hB
        rw [ht] at hP1
        obtain ⟨hP, hD⟩ := va_join (wr := []) (w1 := [(dq, .inr (5, [.int u7, .int d_today, .int d_cut, .int d_aging, .int d_saleFrom, .int d_pieces, .int d_orders, .ref dq8, .ref dq9, .ref dq10, .ref dq11, .ref dq12, .ref dq13, .ref dq14, .ref dq15, .int d_ran, .int d_sum, .ref dq18, .ref dq19, .ref dq20])), (dq8, .inl (cI, 40, .inl d_piece)), (dq9, .inl (cI, 40, .inl d_order)), (dq10, .inl (cI, 10, .inl d_came)), (dq11, .inl (cI, 100, .inl d_worth)), (dq12, .inl (cZ, 10, .inl d_used)), (dq13, .inl (cI, 10, .inl d_usedBy)), (dq14, .inl (cI, 10, .inl d_reservedFor)), (dq15, .inl (cI, 10, .inl d_reservedTo)), (dq18, .inl (cI, 10, .inl d_pieceDual)), (dq19, .inl (cI, 10, .inl d_orderDual)), (dq20, .inl (cJ, 11264, .inr (.inl d_table)))]) hP hD [0, 1, 2, 3, 4, 5, 6, 7, 8, 9, 10, 11] [] rfl rfl (by decide) (by decide) hk1 hFc hP1 hD1
        generalize H1 = H at hP hS ⊢
        have hP : va_P (dC, dI) classes [(dq, .inr (5, [.int u7, .int d_today, .int d_cut, .int d_aging, .int d_saleFrom, .int d_pieces, .int d_orders, .ref dq8, .ref dq9, .ref dq10, .ref dq11, .ref dq12, .ref dq13, .ref dq14, .ref dq15, .int d_ran, .int d_sum, .ref dq18, .ref dq19, .ref dq20])), (dq8, .inl (cI, 40, .inl d_piece)), (dq9, .inl (cI, 40, .inl d_order)), (dq10, .inl (cI, 10, .inl d_came)), (dq11, .inl (cI, 100, .inl d_worth)), (dq12, .inl (cZ, 10, .inl d_used)), (dq13, .inl (cI, 10, .inl d_usedBy)), (dq14, .inl (cI, 10, .inl d_reservedFor)), (dq15, .inl (cI, 10, .inl d_reservedTo)), (dq18, .inl (cI, 10, .inl d_pieceDual)), (dq19, .inl (cI, 10, .inl d_orderDual)), (dq20, .inl (cJ, 11264, .inr (.inl d_table)))] H := hP
        have hD : va_D A [(dq, .inr (5, [.int u7, .int d_today, .int d_cut, .int d_aging, .int d_saleFrom, .int d_pieces, .int d_orders, .ref dq8, .ref dq9, .ref dq10, .ref dq11, .ref dq12, .ref dq13, .ref dq14, .ref dq15, .int d_ran, .int d_sum, .ref dq18, .ref dq19, .ref dq20])), (dq8, .inl (cI, 40, .inl d_piece)), (dq9, .inl (cI, 40, .inl d_order)), (dq10, .inl (cI, 10, .inl d_came)), (dq11, .inl (cI, 100, .inl d_worth)), (dq12, .inl (cZ, 10, .inl d_used)), (dq13, .inl (cI, 10, .inl d_usedBy)), (dq14, .inl (cI, 10, .inl d_reservedFor)), (dq15, .inl (cI, 10, .inl d_reservedTo)), (dq18, .inl (cI, 10, .inl d_pieceDual)), (dq19, .inl (cI, 10, .inl d_orderDual)), (dq20, .inl (cJ, 11264, .inr (.inl d_table)))] := hD
        clear hP1 hD1 hPc hDc hFc hk1 hz1
        refine lv_if_ne (tgt := 54) hx hb d_D_dual_49 (by decide) (fun c9 => ?_) (fun c9 => ?_)
        · replace hm := if_f c9 hm
          refine lv_iload_n hx hb d_D_dual_54 rfl (lv_at hl 2 rfl) ?_
          refine lv_if_ne (tgt := 67) hx hb d_D_dual_55 (by decide) (fun c9 => ?_) (fun c9 => ?_)
          · replace hm := if_f c9 hm
            refine lv_aload_n hx hb d_D_dual_67 rfl (lv_at hl 1 rfl) ?_
            refine va_get (D := (dC, dI)) (ci := 5) (v := .ref dq19) (C := R_D) (T := F_D) (N := 20) hx hb hts hk1 hown hK hP 0 rfl rfl 18 (by decide) hk2 (fun _ h9 => h9) rfl d_D_dual_68 ?_
            refine lv_iload_n hx hb d_D_dual_71 rfl (lv_at hl 3 rfl) ?_
            obtain ⟨h9, hm⟩ := gd hm
            refine va_iald hx hb hK hP 10 0 rfl rfl h9 d_D_dual_72 ?_
            cases hm
            refine W.widen (k := 0) (n := 0) (Nat.le_of_ble_eq_true rfl) (Nat.le_of_ble_eq_true rfl) ?_
            exact W.iret hx hb hr (fun t ht hW => ⟨⟨_, (), rfl, rfl, by rw [ht]; exact hP, va_K.moved hW.alike hK, hD⟩, hS.F ht⟩) hS.2.2 d_D_dual_73
          · replace hm := if_t c9 hm
            refine lv_aload_n hx hb d_D_dual_58 rfl (lv_at hl 1 rfl) ?_
            refine va_get (D := (dC, dI)) (ci := 5) (v := .ref dq18) (C := R_D) (T := F_D) (N := 20) hx hb hts hk1 hown hK hP 0 rfl rfl 17 (by decide) hk3 (fun _ h9 => h9) rfl d_D_dual_59 ?_
            refine lv_iload_n hx hb d_D_dual_62 rfl (lv_at hl 3 rfl) ?_
            obtain ⟨h9, hm⟩ := gd hm
            refine va_iald hx hb hK hP 9 0 rfl rfl h9 d_D_dual_63 ?_
            refine lv_goto (tgt := 73) hx hb d_D_dual_64 (by decide) ?_
            cases hm
            refine W.widen (k := 0) (n := 0) (Nat.le_of_ble_eq_true rfl) (Nat.le_of_ble_eq_true rfl) ?_
            exact W.iret hx hb hr (fun t ht hW => ⟨⟨_, (), rfl, rfl, by rw [ht]; exact hP, va_K.moved hW.alike hK, hD⟩, hS.F ht⟩) hS.2.2 d_D_dual_73
        · replace hm := if_t c9 hm
          refine lv_iconst (v := 0) hx hb d_D_dual_52 (by decide) ?_
          cases hm
          refine W.widen (k := 0) (n := 0) (Nat.le_of_ble_eq_true rfl) (Nat.le_of_ble_eq_true rfl) ?_
          exact W.iret hx hb hr (fun t ht hW => ⟨⟨_, (), rfl, rfl, by rw [ht]; exact hP, va_K.moved hW.alike hK, hD⟩, hS.F ht⟩) hS.2.2 d_D_dual_53
      · replace hm := if_f c9 hm
        refine lv_iconst (v := 1) hx hb d_D_dual_32 (by decide) ?_
        refine lv_goto (tgt := 37) hx hb d_D_dual_33 (by decide) ?_
        refine lv_istore_n (lv' := [(3, .int 1), (0, .ref dq), (1, .int x1), (2, .int x2)]) hx hb d_D_dual_37 rfl hl (by decide) rfl (fun ls hl => ?_)
        refine lv_aload_n hx hb d_D_dual_38 rfl (lv_at hl 1 rfl) ?_
        refine lv_iload_n hx hb d_D_dual_39 rfl (lv_at hl 0 rfl) ?_
        refine lv_aload_n hx hb d_D_dual_40 rfl (lv_at hl 1 rfl) ?_
        refine va_get (D := (dC, dI)) (ci := 5) (v := .int d_ran) (C := R_D) (T := F_D) (N := 20) hx hb hts hk1 hown hK hP 0 rfl rfl 15 (by decide) hk0 (fun _ h9 => h9) rfl d_D_dual_41 ?_
        refine lv_iconst (v := 1) hx hb d_D_dual_44 (by decide) ?_
        refine lv_iconst (v := 1) hx hb d_D_dual_45 (by decide) ?_
        obtain ⟨⟨r9, u10⟩, hc, hm⟩ := bd hm
        try dsimp only at hm
        have hPc := hP.sub (ws' := [(dq, .inr (5, [.int d_thrown, .int d_today, .int d_cut, .int d_aging, .int d_saleFrom, .int d_pieces, .int d_orders, .ref dq8, .ref dq9, .ref dq10, .ref dq11, .ref dq12, .ref dq13, .ref dq14, .ref dq15, .int d_ran, .int d_sum, .ref dq18, .ref dq19, .ref dq20])), (dq8, .inl (cI, 40, .inl d_piece)), (dq9, .inl (cI, 40, .inl d_order)), (dq10, .inl (cI, 10, .inl d_came)), (dq11, .inl (cI, 100, .inl d_worth)), (dq12, .inl (cZ, 10, .inl d_used)), (dq13, .inl (cI, 10, .inl d_usedBy)), (dq14, .inl (cI, 10, .inl d_reservedFor)), (dq15, .inl (cI, 10, .inl d_reservedTo)), (dq18, .inl (cI, 10, .inl d_pieceDual)), (dq19, .inl (cI, 10, .inl d_orderDual)), (dq20, .inl (cJ, 11264, .inr (.inl d_table)))]) [0, 1, 2, 3, 4, 5, 6, 7, 8, 9, 10, 11] rfl
        have hDc := hD.sub (ws' := [(dq, .inr (5, [.int d_thrown, .int d_today, .int d_cut, .int d_aging, .int d_saleFrom, .int d_pieces, .int d_orders, .ref dq8, .ref dq9, .ref dq10, .ref dq11, .ref dq12, .ref dq13, .ref dq14, .ref dq15, .int d_ran, .int d_sum, .ref dq18, .ref dq19, .ref dq20])), (dq8, .inl (cI, 40, .inl d_piece)), (dq9, .inl (cI, 40, .inl d_order)), (dq10, .inl (cI, 10, .inl d_came)), (dq11, .inl (cI, 100, .inl d_worth)), (dq12, .inl (cZ, 10, .inl d_used)), (dq13, .inl (cI, 10, .inl d_usedBy)), (dq14, .inl (cI, 10, .inl d_reservedFor)), (dq15, .inl (cI, 10, .inl d_reservedTo)), (dq18, .inl (cI, 10, .inl d_pieceDual)), (dq19, .inl (cI, 10, .inl d_orderDual)), (dq20, .inl (cJ, 11264, .inr (.inl d_table)))]) [0, 1, 2, 3, 4, 5, 6, 7, 8, 9, 10, 11] (by decide) rfl
        have hFc := va_free (wc := [(dq, .inr (5, [.int d_thrown, .int d_today, .int d_cut, .int d_aging, .int d_saleFrom, .int d_pieces, .int d_orders, .ref dq8, .ref dq9, .ref dq10, .ref dq11, .ref dq12, .ref dq13, .ref dq14, .ref dq15, .int d_ran, .int d_sum, .ref dq18, .ref dq19, .ref dq20])), (dq8, .inl (cI, 40, .inl d_piece)), (dq9, .inl (cI, 40, .inl d_order)), (dq10, .inl (cI, 10, .inl d_came)), (dq11, .inl (cI, 100, .inl d_worth)), (dq12, .inl (cZ, 10, .inl d_used)), (dq13, .inl (cI, 10, .inl d_usedBy)), (dq14, .inl (cI, 10, .inl d_reservedFor)), (dq15, .inl (cI, 10, .inl d_reservedTo)), (dq18, .inl (cI, 10, .inl d_pieceDual)), (dq19, .inl (cI, 10, .inl d_orderDual)), (dq20, .inl (cJ, 11264, .inr (.inl d_table)))]) hD hS hA [0, 1, 2, 3, 4, 5, 6, 7, 8, 9, 10, 11] rfl
        refine va_calli (va_runV (As := [.int 1, .int d_ran, .int 1, .int 1]) (rest := []) ⟨hx, hb, hml, hown, hts⟩ (c_D_goes l dC dI cI cZ cJ dq dq8 dq9 dq10 dq11 dq12 dq13 dq14 dq15 dq18 dq19 dq20 s.heap.size d_thrown d_today d_cut d_aging d_saleFrom d_pieces d_orders d_piece d_order d_came d_worth d_used d_usedBy d_reservedFor d_reservedTo d_ran d_sum d_pieceDual d_orderDual d_table 1 d_ran 1 1 N (r9, u10) hc) (cwV 4 hts (gV (w0 670 rfl) (w0 671 rfl) (w0 18 rfl) (w0 33 rfl) (w0 672 rfl)) rfl rfl rfl q_D_goes ⟨Nat.le_of_ble_eq_true rfl, Nat.le_of_ble_eq_true rfl⟩) (wr_preV hK hPc hDc hN 5 0 (R_D, F_D, 20) rfl rfl) rfl rfl hl.1 rfl (lv_room (Nat.le_of_ble_eq_true rfl)) d_D_dual_46 ⟨Nat.le_of_ble_eq_true rfl, Nat.le_of_ble_eq_true rfl⟩) hS (fun q _ h => hFc q h) hFc (fun r9 u t H1 locs ht hvm hw hB hz1 hk1 hS => ?_)
        subst hw
        obtain ⟨hP1, hK1, hD1⟩ := hB
        rw [ht] at hP1
        obtain ⟨hP, hD⟩ := va_join (wr := []) (w1 := [(dq, .inr (5, [.int u10, .int d_today, .int d_cut, .int d_aging, .int d_saleFrom, .int d_pieces, .int d_orders, .ref dq8, .ref dq9, .ref dq10, .ref dq11, .ref dq12, .ref dq13, .ref dq14, .ref dq15, .int d_ran, .int d_sum, .ref dq18, .ref dq19, .ref dq20])), (dq8, .inl (cI, 40, .inl d_piece)), (dq9, .inl (cI, 40, .inl d_order)), (dq10, .inl (cI, 10, .inl d_came)), (dq11, .inl (cI, 100, .inl d_worth)), (dq12, .inl (cZ, 10, .inl d_used)), (dq13, .inl (cI, 10, .inl d_usedBy)), (dq14, .inl (cI, 10, .inl d_reservedFor)), (dq15, .inl (cI, 10, .inl d_reservedTo)), (dq18, .inl (cI, 10, .inl d_pieceDual)), (dq19, .inl (cI, 10, .inl d_orderDual)), (dq20, .inl (cJ, 11264, .inr (.inl d_table)))]) hP hD [0, 1, 2, 3, 4, 5, 6, 7, 8, 9, 10, 11] [] rfl rfl (by decide) (by decide) hk1 hFc hP1 hD1
        generalize H1 = H at hP hS ⊢
        have hP : va_P (dC, dI) classes [(dq, .inr (5, [.int u10, .int d_today, .int d_cut, .int d_aging, .int d_saleFrom, .int d_pieces, .int d_orders, .ref dq8, .ref dq9, .ref dq10, .ref dq11, .ref dq12, .ref dq13, .ref dq14, .ref dq15, .int d_ran, .int d_sum, .ref dq18, .ref dq19, .ref dq20])), (dq8, .inl (cI, 40, .inl d_piece)), (dq9, .inl (cI, 40, .inl d_order)), (dq10, .inl (cI, 10, .inl d_came)), (dq11, .inl (cI, 100, .inl d_worth)), (dq12, .inl (cZ, 10, .inl d_used)), (dq13, .inl (cI, 10, .inl d_usedBy)), (dq14, .inl (cI, 10, .inl d_reservedFor)), (dq15, .inl (cI, 10, .inl d_reservedTo)), (dq18, .inl (cI, 10, .inl d_pieceDual)), (dq19, .inl (cI, 10, .inl d_orderDual)), (dq20, .inl (cJ, 11264, .inr (.inl d_table)))] H := hP
        have hD : va_D A [(dq, .inr (5, [.int u10, .int d_today, .int d_cut, .int d_aging, .int d_saleFrom, .int d_pieces, .int d_orders, .ref dq8, .ref dq9, .ref dq10, .ref dq11, .ref dq12, .ref dq13, .ref dq14, .ref dq15, .int d_ran, .int d_sum, .ref dq18, .ref dq19, .ref dq20])), (dq8, .inl (cI, 40, .inl d_piece)), (dq9, .inl (cI, 40, .inl d_order)), (dq10, .inl (cI, 10, .inl d_came)), (dq11, .inl (cI, 100, .inl d_worth)), (dq12, .inl (cZ, 10, .inl d_used)), (dq13, .inl (cI, 10, .inl d_usedBy)), (dq14, .inl (cI, 10, .inl d_reservedFor)), (dq15, .inl (cI, 10, .inl d_reservedTo)), (dq18, .inl (cI, 10, .inl d_pieceDual)), (dq19, .inl (cI, 10, .inl d_orderDual)), (dq20, .inl (cJ, 11264, .inr (.inl d_table)))] := hD
        clear hP1 hD1 hPc hDc hFc hk1 hz1
        refine lv_if_ne (tgt := 54) hx hb d_D_dual_49 (by decide) (fun c9 => ?_) (fun c9 => ?_)
        · replace hm := if_f c9 hm
          refine lv_iload_n hx hb d_D_dual_54 rfl (lv_at hl 2 rfl) ?_
          refine lv_if_ne (tgt := 67) hx hb d_D_dual_55 (by decide) (fun c9 => ?_) (fun c9 => ?_)
          · replace hm := if_f c9 hm
            refine lv_aload_n hx hb d_D_dual_67 rfl (lv_at hl 1 rfl) ?_
            refine va_get (D := (dC, dI)) (ci := 5) (v := .ref dq19) (C := R_D) (T := F_D) (N := 20) hx hb hts hk1 hown hK hP 0 rfl rfl 18 (by decide) hk2 (fun _ h9 => h9) rfl d_D_dual_68 ?_
            refine lv_iload_n hx hb d_D_dual_71 rfl (lv_at hl 3 rfl) ?_
            obtain ⟨h9, hm⟩ := gd hm
            refine va_iald hx hb hK hP 10 0 rfl rfl h9 d_D_dual_72 ?_
            cases hm
            refine W.widen (k := 0) (n := 0) (Nat.le_of_ble_eq_true rfl) (Nat.le_of_ble_eq_true rfl) ?_
            exact W.iret hx hb hr (fun t ht hW => ⟨⟨_, (), rfl, rfl, by rw [ht]; exact hP, va_K.moved hW.alike hK, hD⟩, hS.F ht⟩) hS.2.2 d_D_dual_73
          · replace hm := if_t c9 hm
            refine lv_aload_n hx hb d_D_dual_58 rfl (lv_at hl 1 rfl) ?_
            refine va_get (D := (dC, dI)) (ci := 5) (v := .ref dq18) (C := R_D) (T := F_D) (N := 20) hx hb hts hk1 hown hK hP 0 rfl rfl 17 (by decide) hk3 (fun _ h9 => h9) rfl d_D_dual_59 ?_
            refine lv_iload_n hx hb d_D_dual_62 rfl (lv_at hl 3 rfl) ?_
            obtain ⟨h9, hm⟩ := gd hm
            refine va_iald hx hb hK hP 9 0 rfl rfl h9 d_D_dual_63 ?_
            refine lv_goto (tgt := 73) hx hb d_D_dual_64 (by decide) ?_
            cases hm
            refine W.widen (k := 0) (n := 0) (Nat.le_of_ble_eq_true rfl) (Nat.le_of_ble_eq_true rfl) ?_
            exact W.iret hx hb hr (fun t ht hW => ⟨⟨_, (), rfl, rfl, by rw [ht]; exact hP, va_K.moved hW.alike hK, hD⟩, hS.F ht⟩) hS.2.2 d_D_dual_73
        · replace hm := if_t c9 hm
          refine lv_iconst (v := 0) hx hb d_D_dual_52 (by decide) ?_
          cases hm
          refine W.widen (k := 0) (n := 0) (Nat.le_of_ble_eq_true rfl) (Nat.le_of_ble_eq_true rfl) ?_
          exact W.iret hx hb hr (fun t ht hW => ⟨⟨_, (), rfl, rfl, by rw [ht]; exact hP, va_K.moved hW.alike hK, hD⟩, hS.F ht⟩) hS.2.2 d_D_dual_53
    · replace hm := if_t c9 hm
      refine lv_aload_n hx hb d_D_dual_13 rfl (lv_at hl 0 rfl) ?_
      refine lv_iload_n hx hb d_D_dual_14 rfl (lv_at hl 2 rfl) ?_
      obtain ⟨r13, hc, hm⟩ := bd hm
      try dsimp only at hm
      refine vp_callSi (W.runV (As := [.int x2]) (rest := []) ⟨hx, hb, hml, hown, hts⟩ (c_D_isPiece l dC dI cI cZ cJ dq dq8 dq9 dq10 dq11 dq12 dq13 dq14 dq15 dq18 dq19 dq20 d_thrown d_today d_cut d_aging d_saleFrom d_pieces d_orders d_piece d_order d_came d_worth d_used d_usedBy d_reservedFor d_reservedTo d_ran d_sum d_pieceDual d_orderDual d_table x2 N r13 hc) (cwV 1 hts (gV (w0 681 rfl) (w0 682 rfl) (w0 19 rfl) (w0 33 rfl) (w0 683 rfl)) rfl rfl rfl q_D_isPiece ⟨Nat.le_of_ble_eq_true rfl, Nat.le_of_ble_eq_true rfl⟩) (ro_preV [0, 1, 2, 3, 4, 5, 6, 7, 8, 9, 10, 11] rfl hK hP hN 5 0 (R_D, F_D, 20) rfl rfl) rfl rfl hl.1 rfl (lv_room (Nat.le_of_ble_eq_true rfl)) d_D_dual_15 ⟨Nat.le_of_ble_eq_true rfl, Nat.le_of_ble_eq_true rfl⟩) (fun r9 hr9 => ?_)
      subst hr9
      refine lv_if_eq (tgt := 36) hx hb d_D_dual_18 (by decide) (fun c9 => ?_) (fun c9 => ?_)
      · replace hm := if_t c9 hm
        refine lv_iconst (v := 0) hx hb d_D_dual_36 (by decide) ?_
        refine lv_istore_n (lv' := [(3, .int 0), (0, .ref dq), (1, .int x1), (2, .int x2)]) hx hb d_D_dual_37 rfl hl (by decide) rfl (fun ls hl => ?_)
        refine lv_aload_n hx hb d_D_dual_38 rfl (lv_at hl 1 rfl) ?_
        refine lv_iload_n hx hb d_D_dual_39 rfl (lv_at hl 0 rfl) ?_
        refine lv_aload_n hx hb d_D_dual_40 rfl (lv_at hl 1 rfl) ?_
        refine va_get (D := (dC, dI)) (ci := 5) (v := .int d_ran) (C := R_D) (T := F_D) (N := 20) hx hb hts hk1 hown hK hP 0 rfl rfl 15 (by decide) hk0 (fun _ h9 => h9) rfl d_D_dual_41 ?_
        refine lv_iconst (v := 1) hx hb d_D_dual_44 (by decide) ?_
        refine lv_iconst (v := 1) hx hb d_D_dual_45 (by decide) ?_
        obtain ⟨⟨r14, u15⟩, hc, hm⟩ := bd hm
        try dsimp only at hm
        have hPc := hP.sub (ws' := [(dq, .inr (5, [.int d_thrown, .int d_today, .int d_cut, .int d_aging, .int d_saleFrom, .int d_pieces, .int d_orders, .ref dq8, .ref dq9, .ref dq10, .ref dq11, .ref dq12, .ref dq13, .ref dq14, .ref dq15, .int d_ran, .int d_sum, .ref dq18, .ref dq19, .ref dq20])), (dq8, .inl (cI, 40, .inl d_piece)), (dq9, .inl (cI, 40, .inl d_order)), (dq10, .inl (cI, 10, .inl d_came)), (dq11, .inl (cI, 100, .inl d_worth)), (dq12, .inl (cZ, 10, .inl d_used)), (dq13, .inl (cI, 10, .inl d_usedBy)), (dq14, .inl (cI, 10, .inl d_reservedFor)), (dq15, .inl (cI, 10, .inl d_reservedTo)), (dq18, .inl (cI, 10, .inl d_pieceDual)), (dq19, .inl (cI, 10, .inl d_orderDual)), (dq20, .inl (cJ, 11264, .inr (.inl d_table)))]) [0, 1, 2, 3, 4, 5, 6, 7, 8, 9, 10, 11] rfl
        have hDc := hD.sub (ws' := [(dq, .inr (5, [.int d_thrown, .int d_today, .int d_cut, .int d_aging, .int d_saleFrom, .int d_pieces, .int d_orders, .ref dq8, .ref dq9, .ref dq10, .ref dq11, .ref dq12, .ref dq13, .ref dq14, .ref dq15, .int d_ran, .int d_sum, .ref dq18, .ref dq19, .ref dq20])), (dq8, .inl (cI, 40, .inl d_piece)), (dq9, .inl (cI, 40, .inl d_order)), (dq10, .inl (cI, 10, .inl d_came)), (dq11, .inl (cI, 100, .inl d_worth)), (dq12, .inl (cZ, 10, .inl d_used)), (dq13, .inl (cI, 10, .inl d_usedBy)), (dq14, .inl (cI, 10, .inl d_reservedFor)), (dq15, .inl (cI, 10, .inl d_reservedTo)), (dq18, .inl (cI, 10, .inl d_pieceDual)), (dq19, .inl (cI, 10, .inl d_orderDual)), (dq20, .inl (cJ, 11264, .inr (.inl d_table)))]) [0, 1, 2, 3, 4, 5, 6, 7, 8, 9, 10, 11] (by decide) rfl
        have hFc := va_free (wc := [(dq, .inr (5, [.int d_thrown, .int d_today, .int d_cut, .int d_aging, .int d_saleFrom, .int d_pieces, .int d_orders, .ref dq8, .ref dq9, .ref dq10, .ref dq11, .ref dq12, .ref dq13, .ref dq14, .ref dq15, .int d_ran, .int d_sum, .ref dq18, .ref dq19, .ref dq20])), (dq8, .inl (cI, 40, .inl d_piece)), (dq9, .inl (cI, 40, .inl d_order)), (dq10, .inl (cI, 10, .inl d_came)), (dq11, .inl (cI, 100, .inl d_worth)), (dq12, .inl (cZ, 10, .inl d_used)), (dq13, .inl (cI, 10, .inl d_usedBy)), (dq14, .inl (cI, 10, .inl d_reservedFor)), (dq15, .inl (cI, 10, .inl d_reservedTo)), (dq18, .inl (cI, 10, .inl d_pieceDual)), (dq19, .inl (cI, 10, .inl d_orderDual)), (dq20, .inl (cJ, 11264, .inr (.inl d_table)))]) hD hS hA [0, 1, 2, 3, 4, 5, 6, 7, 8, 9, 10, 11] rfl
        refine va_calli (va_runV (As := [.int 0, .int d_ran, .int 1, .int 1]) (rest := []) ⟨hx, hb, hml, hown, hts⟩ (c_D_goes l dC dI cI cZ cJ dq dq8 dq9 dq10 dq11 dq12 dq13 dq14 dq15 dq18 dq19 dq20 s.heap.size d_thrown d_today d_cut d_aging d_saleFrom d_pieces d_orders d_piece d_order d_came d_worth d_used d_usedBy d_reservedFor d_reservedTo d_ran d_sum d_pieceDual d_orderDual d_table 0 d_ran 1 1 N (r14, u15) hc) (cwV 4 hts (gV (w0 670 rfl) (w0 671 rfl) (w0 18 rfl) (w0 33 rfl) (w0 672 rfl)) rfl rfl rfl q_D_goes ⟨Nat.le_of_ble_eq_true rfl, Nat.le_of_ble_eq_true rfl⟩) (wr_preV hK hPc hDc hN 5 0 (R_D, F_D, 20) rfl rfl) rfl rfl hl.1 rfl (lv_room (Nat.le_of_ble_eq_true rfl)) d_D_dual_46 ⟨Nat.le_of_ble_eq_true rfl, Nat.le_of_ble_eq_true rfl⟩) hS (fun q _ h => hFc q h) hFc (fun r9 u t H1 locs ht hvm hw hB hz1 hk1 hS => ?_)
        subst hw
        obtain ⟨hP1, hK1, hD1⟩ := hB
        rw [ht] at hP1
        obtain ⟨hP, hD⟩ := va_join (wr := []) (w1 := [(dq, .inr (5, [.int u15, .int d_today, .int d_cut, .int d_aging, .int d_saleFrom, .int d_pieces, .int d_orders, .ref dq8, .ref dq9, .ref dq10, .ref dq11, .ref dq12, .ref dq13, .ref dq14, .ref dq15, .int d_ran, .int d_sum, .ref dq18, .ref dq19, .ref dq20])), (dq8, .inl (cI, 40, .inl d_piece)), (dq9, .inl (cI, 40, .inl d_order)), (dq10, .inl (cI, 10, .inl d_came)), (dq11, .inl (cI, 100, .inl d_worth)), (dq12, .inl (cZ, 10, .inl d_used)), (dq13, .inl (cI, 10, .inl d_usedBy)), (dq14, .inl (cI, 10, .inl d_reservedFor)), (dq15, .inl (cI, 10, .inl d_reservedTo)), (dq18, .inl (cI, 10, .inl d_pieceDual)), (dq19, .inl (cI, 10, .inl d_orderDual)), (dq20, .inl (cJ, 11264, .inr (.inl d_table)))]) hP hD [0, 1, 2, 3, 4, 5, 6, 7, 8, 9, 10, 11] [] rfl rfl (by decide) (by decide) hk1 hFc hP1 hD1
        generalize H1 = H at hP hS ⊢
        have hP : va_P (dC, dI) classes [(dq, .inr (5, [.int u15, .int d_today, .int d_cut, .int d_aging, .int d_saleFrom, .int d_pieces, .int d_orders, .ref dq8, .ref dq9, .ref dq10, .ref dq11, .ref dq12, .ref dq13, .ref dq14, .ref dq15, .int d_ran, .int d_sum, .ref dq18, .ref dq19, .ref dq20])), (dq8, .inl (cI, 40, .inl d_piece)), (dq9, .inl (cI, 40, .inl d_order)), (dq10, .inl (cI, 10, .inl d_came)), (dq11, .inl (cI, 100, .inl d_worth)), (dq12, .inl (cZ, 10, .inl d_used)), (dq13, .inl (cI, 10, .inl d_usedBy)), (dq14, .inl (cI, 10, .inl d_reservedFor)), (dq15, .inl (cI, 10, .inl d_reservedTo)), (dq18, .inl (cI, 10, .inl d_pieceDual)), (dq19, .inl (cI, 10, .inl d_orderDual)), (dq20, .inl (cJ, 11264, .inr (.inl d_table)))] H := hP
        have hD : va_D A [(dq, .inr (5, [.int u15, .int d_today, .int d_cut, .int d_aging, .int d_saleFrom, .int d_pieces, .int d_orders, .ref dq8, .ref dq9, .ref dq10, .ref dq11, .ref dq12, .ref dq13, .ref dq14, .ref dq15, .int d_ran, .int d_sum, .ref dq18, .ref dq19, .ref dq20])), (dq8, .inl (cI, 40, .inl d_piece)), (dq9, .inl (cI, 40, .inl d_order)), (dq10, .inl (cI, 10, .inl d_came)), (dq11, .inl (cI, 100, .inl d_worth)), (dq12, .inl (cZ, 10, .inl d_used)), (dq13, .inl (cI, 10, .inl d_usedBy)), (dq14, .inl (cI, 10, .inl d_reservedFor)), (dq15, .inl (cI, 10, .inl d_reservedTo)), (dq18, .inl (cI, 10, .inl d_pieceDual)), (dq19, .inl (cI, 10, .inl d_orderDual)), (dq20, .inl (cJ, 11264, .inr (.inl d_table)))] := hD
        clear hP1 hD1 hPc hDc hFc hk1 hz1
        refine lv_if_ne (tgt := 54) hx hb d_D_dual_49 (by decide) (fun c9 => ?_) (fun c9 => ?_)
        · replace hm := if_f c9 hm
          refine lv_iload_n hx hb d_D_dual_54 rfl (lv_at hl 2 rfl) ?_
          refine lv_if_ne (tgt := 67) hx hb d_D_dual_55 (by decide) (fun c9 => ?_) (fun c9 => ?_)
          · replace hm := if_f c9 hm
            refine lv_aload_n hx hb d_D_dual_67 rfl (lv_at hl 1 rfl) ?_
            refine va_get (D := (dC, dI)) (ci := 5) (v := .ref dq19) (C := R_D) (T := F_D) (N := 20) hx hb hts hk1 hown hK hP 0 rfl rfl 18 (by decide) hk2 (fun _ h9 => h9) rfl d_D_dual_68 ?_
            refine lv_iload_n hx hb d_D_dual_71 rfl (lv_at hl 3 rfl) ?_
            obtain ⟨h9, hm⟩ := gd hm
            refine va_iald hx hb hK hP 10 0 rfl rfl h9 d_D_dual_72 ?_
            cases hm
            refine W.widen (k := 0) (n := 0) (Nat.le_of_ble_eq_true rfl) (Nat.le_of_ble_eq_true rfl) ?_
            exact W.iret hx hb hr (fun t ht hW => ⟨⟨_, (), rfl, rfl, by rw [ht]; exact hP, va_K.moved hW.alike hK, hD⟩, hS.F ht⟩) hS.2.2 d_D_dual_73
          · replace hm := if_t c9 hm
            refine lv_aload_n hx hb d_D_dual_58 rfl (lv_at hl 1 rfl) ?_
            refine va_get (D := (dC, dI)) (ci := 5) (v := .ref dq18) (C := R_D) (T := F_D) (N := 20) hx hb hts hk1 hown hK hP 0 rfl rfl 17 (by decide) hk3 (fun _ h9 => h9) rfl d_D_dual_59 ?_
            refine lv_iload_n hx hb d_D_dual_62 rfl (lv_at hl 3 rfl) ?_
            obtain ⟨h9, hm⟩ := gd hm
            refine va_iald hx hb hK hP 9 0 rfl rfl h9 d_D_dual_63 ?_
            refine lv_goto (tgt := 73) hx hb d_D_dual_64 (by decide) ?_
            cases hm
            refine W.widen (k := 0) (n := 0) (Nat.le_of_ble_eq_true rfl) (Nat.le_of_ble_eq_true rfl) ?_
            exact W.iret hx hb hr (fun t ht hW => ⟨⟨_, (), rfl, rfl, by rw [ht]; exact hP, va_K.moved hW.alike hK, hD⟩, hS.F ht⟩) hS.2.2 d_D_dual_73
        · replace hm := if_t c9 hm
          refine lv_iconst (v := 0) hx hb d_D_dual_52 (by decide) ?_
          cases hm
          refine W.widen (k := 0) (n := 0) (Nat.le_of_ble_eq_true rfl) (Nat.le_of_ble_eq_true rfl) ?_
          exact W.iret hx hb hr (fun t ht hW => ⟨⟨_, (), rfl, rfl, by rw [ht]; exact hP, va_K.moved hW.alike hK, hD⟩, hS.F ht⟩) hS.2.2 d_D_dual_53
      · replace hm := if_f c9 hm
        refine lv_goto (tgt := 32) hx hb d_D_dual_21 (by decide) ?_
        refine lv_iconst (v := 1) hx hb d_D_dual_32 (by decide) ?_
        refine lv_goto (tgt := 37) hx hb d_D_dual_33 (by decide) ?_
        refine lv_istore_n (lv' := [(3, .int 1), (0, .ref dq), (1, .int x1), (2, .int x2)]) hx hb d_D_dual_37 rfl hl (by decide) rfl (fun ls hl => ?_)
        refine lv_aload_n hx hb d_D_dual_38 rfl (lv_at hl 1 rfl) ?_
        refine lv_iload_n hx hb d_D_dual_39 rfl (lv_at hl 0 rfl) ?_
        refine lv_aload_n hx hb d_D_dual_40 rfl (lv_at hl 1 rfl) ?_
        refine va_get (D := (dC, dI)) (ci := 5) (v := .int d_ran) (C := R_D) (T := F_D) (N := 20) hx hb hts hk1 hown hK hP 0 rfl rfl 15 (by decide) hk0 (fun _ h9 => h9) rfl d_D_dual_41 ?_
        refine lv_iconst (v := 1) hx hb d_D_dual_44 (by decide) ?_
        refine lv_iconst (v := 1) hx hb d_D_dual_45 (by decide) ?_
        obtain ⟨⟨r17, u18⟩, hc, hm⟩ := bd hm
        try dsimp only at hm
        have hPc := hP.sub (ws' := [(dq, .inr (5, [.int d_thrown, .int d_today, .int d_cut, .int d_aging, .int d_saleFrom, .int d_pieces, .int d_orders, .ref dq8, .ref dq9, .ref dq10, .ref dq11, .ref dq12, .ref dq13, .ref dq14, .ref dq15, .int d_ran, .int d_sum, .ref dq18, .ref dq19, .ref dq20])), (dq8, .inl (cI, 40, .inl d_piece)), (dq9, .inl (cI, 40, .inl d_order)), (dq10, .inl (cI, 10, .inl d_came)), (dq11, .inl (cI, 100, .inl d_worth)), (dq12, .inl (cZ, 10, .inl d_used)), (dq13, .inl (cI, 10, .inl d_usedBy)), (dq14, .inl (cI, 10, .inl d_reservedFor)), (dq15, .inl (cI, 10, .inl d_reservedTo)), (dq18, .inl (cI, 10, .inl d_pieceDual)), (dq19, .inl (cI, 10, .inl d_orderDual)), (dq20, .inl (cJ, 11264, .inr (.inl d_table)))]) [0, 1, 2, 3, 4, 5, 6, 7, 8, 9, 10, 11] rfl
        have hDc := hD.sub (ws' := [(dq, .inr (5, [.int d_thrown, .int d_today, .int d_cut, .int d_aging, .int d_saleFrom, .int d_pieces, .int d_orders, .ref dq8, .ref dq9, .ref dq10, .ref dq11, .ref dq12, .ref dq13, .ref dq14, .ref dq15, .int d_ran, .int d_sum, .ref dq18, .ref dq19, .ref dq20])), (dq8, .inl (cI, 40, .inl d_piece)), (dq9, .inl (cI, 40, .inl d_order)), (dq10, .inl (cI, 10, .inl d_came)), (dq11, .inl (cI, 100, .inl d_worth)), (dq12, .inl (cZ, 10, .inl d_used)), (dq13, .inl (cI, 10, .inl d_usedBy)), (dq14, .inl (cI, 10, .inl d_reservedFor)), (dq15, .inl (cI, 10, .inl d_reservedTo)), (dq18, .inl (cI, 10, .inl d_pieceDual)), (dq19, .inl (cI, 10, .inl d_orderDual)), (dq20, .inl (cJ, 11264, .inr (.inl d_table)))]) [0, 1, 2, 3, 4, 5, 6, 7, 8, 9, 10, 11] (by decide) rfl
        have hFc := va_free (wc := [(dq, .inr (5, [.int d_thrown, .int d_today, .int d_cut, .int d_aging, .int d_saleFrom, .int d_pieces, .int d_orders, .ref dq8, .ref dq9, .ref dq10, .ref dq11, .ref dq12, .ref dq13, .ref dq14, .ref dq15, .int d_ran, .int d_sum, .ref dq18, .ref dq19, .ref dq20])), (dq8, .inl (cI, 40, .inl d_piece)), (dq9, .inl (cI, 40, .inl d_order)), (dq10, .inl (cI, 10, .inl d_came)), (dq11, .inl (cI, 100, .inl d_worth)), (dq12, .inl (cZ, 10, .inl d_used)), (dq13, .inl (cI, 10, .inl d_usedBy)), (dq14, .inl (cI, 10, .inl d_reservedFor)), (dq15, .inl (cI, 10, .inl d_reservedTo)), (dq18, .inl (cI, 10, .inl d_pieceDual)), (dq19, .inl (cI, 10, .inl d_orderDual)), (dq20, .inl (cJ, 11264, .inr (.inl d_table)))]) hD hS hA [0, 1, 2, 3, 4, 5, 6, 7, 8, 9, 10, 11] rfl
        refine va_calli (va_runV (As := [.int 1, .int d_ran, .int 1, .int 1]) (rest := []) ⟨hx, hb, hml, hown, hts⟩ (c_D_goes l dC dI cI cZ cJ dq dq8 dq9 dq10 dq11 dq12 dq13 dq14 dq15 dq18 dq19 dq20 s.heap.size d_thrown d_today d_cut d_aging d_saleFrom d_pieces d_orders d_piece d_order d_came d_worth d_used d_usedBy d_reservedFor d_reservedTo d_ran d_sum d_pieceDual d_orderDual d_table 1 d_ran 1 1 N (r17, u18) hc) (cwV 4 hts (gV (w0 670 rfl) (w0 671 rfl) (w0 18 rfl) (w0 33 rfl) (w0 672 rfl)) rfl rfl rfl q_D_goes ⟨Nat.le_of_ble_eq_true rfl, Nat.le_of_ble_eq_true rfl⟩) (wr_preV hK hPc hDc hN 5 0 (R_D, F_D, 20) rfl rfl) rfl rfl hl.1 rfl (lv_room (Nat.le_of_ble_eq_true rfl)) d_D_dual_46 ⟨Nat.le_of_ble_eq_true rfl, Nat.le_of_ble_eq_true rfl⟩) hS (fun q _ h => hFc q h) hFc (fun r9 u t H1 locs ht hvm hw hB hz1 hk1 hS => ?_)
        subst hw
        obtain ⟨hP1, hK1, hD1⟩ := hB
        rw [ht] at hP1
        obtain ⟨hP, hD⟩ := va_join (wr := []) (w1 := [(dq, .inr (5, [.int u18, .int d_today, .int d_cut, .int d_aging, .int d_saleFrom, .int d_pieces, .int d_orders, .ref dq8, .ref dq9, .ref dq10, .ref dq11, .ref dq12, .ref dq13, .ref dq14, .ref dq15, .int d_ran, .int d_sum, .ref dq18, .ref dq19, .ref dq20])), (dq8, .inl (cI, 40, .inl d_piece)), (dq9, .inl (cI, 40, .inl d_order)), (dq10, .inl (cI, 10, .inl d_came)), (dq11, .inl (cI, 100, .inl d_worth)), (dq12, .inl (cZ, 10, .inl d_used)), (dq13, .inl (cI, 10, .inl d_usedBy)), (dq14, .inl (cI, 10, .inl d_reservedFor)), (dq15, .inl (cI, 10, .inl d_reservedTo)), (dq18, .inl (cI, 10, .inl d_pieceDual)), (dq19, .inl (cI, 10, .inl d_orderDual)), (dq20, .inl (cJ, 11264, .inr (.inl d_table)))]) hP hD [0, 1, 2, 3, 4, 5, 6, 7, 8, 9, 10, 11] [] rfl rfl (by decide) (by decide) hk1 hFc hP1 hD1
        generalize H1 = H at hP hS ⊢
        have hP : va_P (dC, dI) classes [(dq, .inr (5, [.int u18, .int d_today, .int d_cut, .int d_aging, .int d_saleFrom, .int d_pieces, .int d_orders, .ref dq8, .ref dq9, .ref dq10, .ref dq11, .ref dq12, .ref dq13, .ref dq14, .ref dq15, .int d_ran, .int d_sum, .ref dq18, .ref dq19, .ref dq20])), (dq8, .inl (cI, 40, .inl d_piece)), (dq9, .inl (cI, 40, .inl d_order)), (dq10, .inl (cI, 10, .inl d_came)), (dq11, .inl (cI, 100, .inl d_worth)), (dq12, .inl (cZ, 10, .inl d_used)), (dq13, .inl (cI, 10, .inl d_usedBy)), (dq14, .inl (cI, 10, .inl d_reservedFor)), (dq15, .inl (cI, 10, .inl d_reservedTo)), (dq18, .inl (cI, 10, .inl d_pieceDual)), (dq19, .inl (cI, 10, .inl d_orderDual)), (dq20, .inl (cJ, 11264, .inr (.inl d_table)))] H := hP
        have hD : va_D A [(dq, .inr (5, [.int u18, .int d_today, .int d_cut, .int d_aging, .int d_saleFrom, .int d_pieces, .int d_orders, .ref dq8, .ref dq9, .ref dq10, .ref dq11, .ref dq12, .ref dq13, .ref dq14, .ref dq15, .int d_ran, .int d_sum, .ref dq18, .ref dq19, .ref dq20])), (dq8, .inl (cI, 40, .inl d_piece)), (dq9, .inl (cI, 40, .inl d_order)), (dq10, .inl (cI, 10, .inl d_came)), (dq11, .inl (cI, 100, .inl d_worth)), (dq12, .inl (cZ, 10, .inl d_used)), (dq13, .inl (cI, 10, .inl d_usedBy)), (dq14, .inl (cI, 10, .inl d_reservedFor)), (dq15, .inl (cI, 10, .inl d_reservedTo)), (dq18, .inl (cI, 10, .inl d_pieceDual)), (dq19, .inl (cI, 10, .inl d_orderDual)), (dq20, .inl (cJ, 11264, .inr (.inl d_table)))] := hD
        clear hP1 hD1 hPc hDc hFc hk1 hz1
        refine lv_if_ne (tgt := 54) hx hb d_D_dual_49 (by decide) (fun c9 => ?_) (fun c9 => ?_)
        · replace hm := if_f c9 hm
          refine lv_iload_n hx hb d_D_dual_54 rfl (lv_at hl 2 rfl) ?_
          refine lv_if_ne (tgt := 67) hx hb d_D_dual_55 (by decide) (fun c9 => ?_) (fun c9 => ?_)
          · replace hm := if_f c9 hm
            refine lv_aload_n hx hb d_D_dual_67 rfl (lv_at hl 1 rfl) ?_
            refine va_get (D := (dC, dI)) (ci := 5) (v := .ref dq19) (C := R_D) (T := F_D) (N := 20) hx hb hts hk1 hown hK hP 0 rfl rfl 18 (by decide) hk2 (fun _ h9 => h9) rfl d_D_dual_68 ?_
            refine lv_iload_n hx hb d_D_dual_71 rfl (lv_at hl 3 rfl) ?_
            obtain ⟨h9, hm⟩ := gd hm
            refine va_iald hx hb hK hP 10 0 rfl rfl h9 d_D_dual_72 ?_
            cases hm
            refine W.widen (k := 0) (n := 0) (Nat.le_of_ble_eq_true rfl) (Nat.le_of_ble_eq_true rfl) ?_
            exact W.iret hx hb hr (fun t ht hW => ⟨⟨_, (), rfl, rfl, by rw [ht]; exact hP, va_K.moved hW.alike hK, hD⟩, hS.F ht⟩) hS.2.2 d_D_dual_73
          · replace hm := if_t c9 hm
            refine lv_aload_n hx hb d_D_dual_58 rfl (lv_at hl 1 rfl) ?_
            refine va_get (D := (dC, dI)) (ci := 5) (v := .ref dq18) (C := R_D) (T := F_D) (N := 20) hx hb hts hk1 hown hK hP 0 rfl rfl 17 (by decide) hk3 (fun _ h9 => h9) rfl d_D_dual_59 ?_
            refine lv_iload_n hx hb d_D_dual_62 rfl (lv_at hl 3 rfl) ?_
            obtain ⟨h9, hm⟩ := gd hm
            refine va_iald hx hb hK hP 9 0 rfl rfl h9 d_D_dual_63 ?_
            refine lv_goto (tgt := 73) hx hb d_D_dual_64 (by decide) ?_
            cases hm
            refine W.widen (k := 0) (n := 0) (Nat.le_of_ble_eq_true rfl) (Nat.le_of_ble_eq_true rfl) ?_
            exact W.iret hx hb hr (fun t ht hW => ⟨⟨_, (), rfl, rfl, by rw [ht]; exact hP, va_K.moved hW.alike hK, hD⟩, hS.F ht⟩) hS.2.2 d_D_dual_73
        · replace hm := if_t c9 hm
          refine lv_iconst (v := 0) hx hb d_D_dual_52 (by decide) ?_
          cases hm
          refine W.widen (k := 0) (n := 0) (Nat.le_of_ble_eq_true rfl) (Nat.le_of_ble_eq_true rfl) ?_
          exact W.iret hx hb hr (fun t ht hW => ⟨⟨_, (), rfl, rfl, by rw [ht]; exact hP, va_K.moved hW.alike hK, hD⟩, hS.F ht⟩) hS.2.2 d_D_dual_53

