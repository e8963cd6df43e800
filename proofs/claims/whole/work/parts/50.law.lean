theorem d_L_law_0 : decode b_L_law 0 = .ok (.new 8, 3) := by decide +kernel
theorem d_L_law_3 : decode b_L_law 3 = .ok (.dup, 1) := by decide +kernel
theorem d_L_law_4 : decode b_L_law 4 = .ok (.invokespecial 65, 3) := by decide +kernel
theorem d_L_law_7 : decode b_L_law 7 = .ok (.astore_n 1, 1) := by decide +kernel
theorem d_L_law_8 : decode b_L_law 8 = .ok (.new 66, 3) := by decide +kernel
theorem d_L_law_11 : decode b_L_law 11 = .ok (.dup, 1) := by decide +kernel
theorem d_L_law_12 : decode b_L_law 12 = .ok (.invokespecial 68, 3) := by decide +kernel
theorem d_L_law_15 : decode b_L_law 15 = .ok (.astore_n 2, 1) := by decide +kernel
theorem d_L_law_16 : decode b_L_law 16 = .ok (.iconst 1, 1) := by decide +kernel
theorem d_L_law_17 : decode b_L_law 17 = .ok (.newarray .long, 2) := by decide +kernel
theorem d_L_law_19 : decode b_L_law 19 = .ok (.astore_n 3, 1) := by decide +kernel
theorem d_L_law_20 : decode b_L_law 20 = .ok (.iconst 0, 1) := by decide +kernel
theorem d_L_law_21 : decode b_L_law 21 = .ok (.istore 4, 2) := by decide +kernel
theorem d_L_law_23 : decode b_L_law 23 = .ok (.iload 4, 2) := by decide +kernel
theorem d_L_law_25 : decode b_L_law 25 = .ok (.aload_n 0, 1) := by decide +kernel
theorem d_L_law_26 : decode b_L_law 26 = .ok (.arraylength, 1) := by decide +kernel
theorem d_L_law_27 : decode b_L_law 27 = .ok (.iconst 5, 1) := by decide +kernel
theorem d_L_law_28 : decode b_L_law 28 = .ok (.isub, 1) := by decide +kernel
theorem d_L_law_29 : decode b_L_law 29 = .ok (.if_icmp .gt 1022, 3) := by decide +kernel
theorem d_L_law_32 : decode b_L_law 32 = .ok (.aload_n 0, 1) := by decide +kernel
theorem d_L_law_33 : decode b_L_law 33 = .ok (.iload 4, 2) := by decide +kernel
theorem d_L_law_35 : decode b_L_law 35 = .ok (.iaload, 1) := by decide +kernel
theorem d_L_law_36 : decode b_L_law 36 = .ok (.bipush 15, 2) := by decide +kernel
theorem d_L_law_38 : decode b_L_law 38 = .ok (.iand, 1) := by decide +kernel
theorem d_L_law_39 : decode b_L_law 39 = .ok (.tableswitch 1006 0 15 #[77, 169, 261, 321, 381, 456, 524, 537, 550, 618, 674, 742, 802, 858, 894, 950], 77) := by decide +kernel
theorem d_L_law_116 : decode b_L_law 116 = .ok (.aload_n 1, 1) := by decide +kernel
theorem d_L_law_117 : decode b_L_law 117 = .ok (.aload_n 0, 1) := by decide +kernel
theorem d_L_law_118 : decode b_L_law 118 = .ok (.iload 4, 2) := by decide +kernel
theorem d_L_law_120 : decode b_L_law 120 = .ok (.iconst 1, 1) := by decide +kernel
theorem d_L_law_121 : decode b_L_law 121 = .ok (.iadd, 1) := by decide +kernel
theorem d_L_law_122 : decode b_L_law 122 = .ok (.iaload, 1) := by decide +kernel
theorem d_L_law_123 : decode b_L_law 123 = .ok (.aload_n 0, 1) := by decide +kernel
theorem d_L_law_124 : decode b_L_law 124 = .ok (.iload 4, 2) := by decide +kernel
theorem d_L_law_126 : decode b_L_law 126 = .ok (.iconst 2, 1) := by decide +kernel
theorem d_L_law_127 : decode b_L_law 127 = .ok (.iadd, 1) := by decide +kernel
theorem d_L_law_128 : decode b_L_law 128 = .ok (.iaload, 1) := by decide +kernel
theorem d_L_law_129 : decode b_L_law 129 = .ok (.aload_n 0, 1) := by decide +kernel
theorem d_L_law_130 : decode b_L_law 130 = .ok (.iload 4, 2) := by decide +kernel
theorem d_L_law_132 : decode b_L_law 132 = .ok (.iconst 3, 1) := by decide +kernel
theorem d_L_law_133 : decode b_L_law 133 = .ok (.iadd, 1) := by decide +kernel
theorem d_L_law_134 : decode b_L_law 134 = .ok (.iaload, 1) := by decide +kernel
theorem d_L_law_135 : decode b_L_law 135 = .ok (.aload_n 0, 1) := by decide +kernel
theorem d_L_law_136 : decode b_L_law 136 = .ok (.iload 4, 2) := by decide +kernel
theorem d_L_law_138 : decode b_L_law 138 = .ok (.iconst 4, 1) := by decide +kernel
theorem d_L_law_139 : decode b_L_law 139 = .ok (.iadd, 1) := by decide +kernel
theorem d_L_law_140 : decode b_L_law 140 = .ok (.iaload, 1) := by decide +kernel
theorem d_L_law_141 : decode b_L_law 141 = .ok (.aload_n 3, 1) := by decide +kernel
theorem d_L_law_142 : decode b_L_law 142 = .ok (.invokestatic 69, 3) := by decide +kernel
theorem d_L_law_145 : decode b_L_law 145 = .ok (.istore 5, 2) := by decide +kernel
theorem d_L_law_147 : decode b_L_law 147 = .ok (.aload_n 2, 1) := by decide +kernel
theorem d_L_law_148 : decode b_L_law 148 = .ok (.aload_n 0, 1) := by decide +kernel
theorem d_L_law_149 : decode b_L_law 149 = .ok (.iload 4, 2) := by decide +kernel
theorem d_L_law_151 : decode b_L_law 151 = .ok (.iconst 1, 1) := by decide +kernel
theorem d_L_law_152 : decode b_L_law 152 = .ok (.iadd, 1) := by decide +kernel
theorem d_L_law_153 : decode b_L_law 153 = .ok (.iaload, 1) := by decide +kernel
theorem d_L_law_154 : decode b_L_law 154 = .ok (.aload_n 0, 1) := by decide +kernel
theorem d_L_law_155 : decode b_L_law 155 = .ok (.iload 4, 2) := by decide +kernel
theorem d_L_law_157 : decode b_L_law 157 = .ok (.iconst 2, 1) := by decide +kernel
theorem d_L_law_158 : decode b_L_law 158 = .ok (.iadd, 1) := by decide +kernel
theorem d_L_law_159 : decode b_L_law 159 = .ok (.iaload, 1) := by decide +kernel
theorem d_L_law_160 : decode b_L_law 160 = .ok (.aload_n 0, 1) := by decide +kernel
theorem d_L_law_161 : decode b_L_law 161 = .ok (.iload 4, 2) := by decide +kernel
theorem d_L_law_163 : decode b_L_law 163 = .ok (.iconst 3, 1) := by decide +kernel
theorem d_L_law_164 : decode b_L_law 164 = .ok (.iadd, 1) := by decide +kernel
theorem d_L_law_165 : decode b_L_law 165 = .ok (.iaload, 1) := by decide +kernel
theorem d_L_law_166 : decode b_L_law 166 = .ok (.aload_n 0, 1) := by decide +kernel
theorem d_L_law_167 : decode b_L_law 167 = .ok (.iload 4, 2) := by decide +kernel
theorem d_L_law_169 : decode b_L_law 169 = .ok (.iconst 4, 1) := by decide +kernel
theorem d_L_law_170 : decode b_L_law 170 = .ok (.iadd, 1) := by decide +kernel
theorem d_L_law_171 : decode b_L_law 171 = .ok (.iaload, 1) := by decide +kernel
theorem d_L_law_172 : decode b_L_law 172 = .ok (.invokevirtual 74, 3) := by decide +kernel
theorem d_L_law_175 : decode b_L_law 175 = .ok (.istore 6, 2) := by decide +kernel
theorem d_L_law_177 : decode b_L_law 177 = .ok (.aload_n 2, 1) := by decide +kernel
theorem d_L_law_178 : decode b_L_law 178 = .ok (.invokevirtual 75, 3) := by decide +kernel
theorem d_L_law_181 : decode b_L_law 181 = .ok (.iload 5, 2) := by decide +kernel
theorem d_L_law_183 : decode b_L_law 183 = .ok (.if_icmp .eq 5, 3) := by decide +kernel
theorem d_L_law_186 : decode b_L_law 186 = .ok (.iconst 0, 1) := by decide +kernel
theorem d_L_law_187 : decode b_L_law 187 = .ok (.ireturn, 1) := by decide +kernel
theorem d_L_law_188 : decode b_L_law 188 = .ok (.iload 5, 2) := by decide +kernel
theorem d_L_law_190 : decode b_L_law 190 = .ok (.ifCond .ne 15, 3) := by decide +kernel
theorem d_L_law_193 : decode b_L_law 193 = .ok (.aload_n 3, 1) := by decide +kernel
theorem d_L_law_194 : decode b_L_law 194 = .ok (.iconst 0, 1) := by decide +kernel
theorem d_L_law_195 : decode b_L_law 195 = .ok (.laload, 1) := by decide +kernel
theorem d_L_law_196 : decode b_L_law 196 = .ok (.iload 6, 2) := by decide +kernel
theorem d_L_law_198 : decode b_L_law 198 = .ok (.i2l, 1) := by decide +kernel
theorem d_L_law_199 : decode b_L_law 199 = .ok (.lcmp, 1) := by decide +kernel
theorem d_L_law_200 : decode b_L_law 200 = .ok (.ifCond .eq 5, 3) := by decide +kernel
theorem d_L_law_203 : decode b_L_law 203 = .ok (.iconst 0, 1) := by decide +kernel
theorem d_L_law_204 : decode b_L_law 204 = .ok (.ireturn, 1) := by decide +kernel
theorem d_L_law_205 : decode b_L_law 205 = .ok (.goto 840, 3) := by decide +kernel
theorem d_L_law_208 : decode b_L_law 208 = .ok (.aload_n 1, 1) := by decide +kernel
theorem d_L_law_209 : decode b_L_law 209 = .ok (.aload_n 0, 1) := by decide +kernel
theorem d_L_law_210 : decode b_L_law 210 = .ok (.iload 4, 2) := by decide +kernel
theorem d_L_law_212 : decode b_L_law 212 = .ok (.iconst 1, 1) := by decide +kernel
theorem d_L_law_213 : decode b_L_law 213 = .ok (.iadd, 1) := by decide +kernel
theorem d_L_law_214 : decode b_L_law 214 = .ok (.iaload, 1) := by decide +kernel
theorem d_L_law_215 : decode b_L_law 215 = .ok (.aload_n 0, 1) := by decide +kernel
theorem d_L_law_216 : decode b_L_law 216 = .ok (.iload 4, 2) := by decide +kernel
theorem d_L_law_218 : decode b_L_law 218 = .ok (.iconst 2, 1) := by decide +kernel
theorem d_L_law_219 : decode b_L_law 219 = .ok (.iadd, 1) := by decide +kernel
theorem d_L_law_220 : decode b_L_law 220 = .ok (.iaload, 1) := by decide +kernel
theorem d_L_law_221 : decode b_L_law 221 = .ok (.aload_n 0, 1) := by decide +kernel
theorem d_L_law_222 : decode b_L_law 222 = .ok (.iload 4, 2) := by decide +kernel
theorem d_L_law_224 : decode b_L_law 224 = .ok (.iconst 3, 1) := by decide +kernel
theorem d_L_law_225 : decode b_L_law 225 = .ok (.iadd, 1) := by decide +kernel
theorem d_L_law_226 : decode b_L_law 226 = .ok (.iaload, 1) := by decide +kernel
theorem d_L_law_227 : decode b_L_law 227 = .ok (.aload_n 0, 1) := by decide +kernel
theorem d_L_law_228 : decode b_L_law 228 = .ok (.iload 4, 2) := by decide +kernel
theorem d_L_law_230 : decode b_L_law 230 = .ok (.iconst 4, 1) := by decide +kernel
theorem d_L_law_231 : decode b_L_law 231 = .ok (.iadd, 1) := by decide +kernel
theorem d_L_law_232 : decode b_L_law 232 = .ok (.iaload, 1) := by decide +kernel
theorem d_L_law_233 : decode b_L_law 233 = .ok (.aload_n 3, 1) := by decide +kernel
theorem d_L_law_234 : decode b_L_law 234 = .ok (.invokestatic 79, 3) := by decide +kernel
theorem d_L_law_237 : decode b_L_law 237 = .ok (.istore 5, 2) := by decide +kernel
theorem d_L_law_239 : decode b_L_law 239 = .ok (.aload_n 2, 1) := by decide +kernel
theorem d_L_law_240 : decode b_L_law 240 = .ok (.aload_n 0, 1) := by decide +kernel
theorem d_L_law_241 : decode b_L_law 241 = .ok (.iload 4, 2) := by decide +kernel
theorem d_L_law_243 : decode b_L_law 243 = .ok (.iconst 1, 1) := by decide +kernel
theorem d_L_law_244 : decode b_L_law 244 = .ok (.iadd, 1) := by decide +kernel
theorem d_L_law_245 : decode b_L_law 245 = .ok (.iaload, 1) := by decide +kernel
theorem d_L_law_246 : decode b_L_law 246 = .ok (.aload_n 0, 1) := by decide +kernel
theorem d_L_law_247 : decode b_L_law 247 = .ok (.iload 4, 2) := by decide +kernel
theorem d_L_law_249 : decode b_L_law 249 = .ok (.iconst 2, 1) := by decide +kernel
theorem d_L_law_250 : decode b_L_law 250 = .ok (.iadd, 1) := by decide +kernel
theorem d_L_law_251 : decode b_L_law 251 = .ok (.iaload, 1) := by decide +kernel
theorem d_L_law_252 : decode b_L_law 252 = .ok (.aload_n 0, 1) := by decide +kernel
theorem d_L_law_253 : decode b_L_law 253 = .ok (.iload 4, 2) := by decide +kernel
theorem d_L_law_255 : decode b_L_law 255 = .ok (.iconst 3, 1) := by decide +kernel
theorem d_L_law_256 : decode b_L_law 256 = .ok (.iadd, 1) := by decide +kernel
theorem d_L_law_257 : decode b_L_law 257 = .ok (.iaload, 1) := by decide +kernel
theorem d_L_law_258 : decode b_L_law 258 = .ok (.aload_n 0, 1) := by decide +kernel
theorem d_L_law_259 : decode b_L_law 259 = .ok (.iload 4, 2) := by decide +kernel
theorem d_L_law_261 : decode b_L_law 261 = .ok (.iconst 4, 1) := by decide +kernel
theorem d_L_law_262 : decode b_L_law 262 = .ok (.iadd, 1) := by decide +kernel
theorem d_L_law_263 : decode b_L_law 263 = .ok (.iaload, 1) := by decide +kernel
theorem d_L_law_264 : decode b_L_law 264 = .ok (.invokevirtual 81, 3) := by decide +kernel
theorem d_L_law_267 : decode b_L_law 267 = .ok (.istore 6, 2) := by decide +kernel
theorem d_L_law_269 : decode b_L_law 269 = .ok (.aload_n 2, 1) := by decide +kernel
theorem d_L_law_270 : decode b_L_law 270 = .ok (.invokevirtual 75, 3) := by decide +kernel
theorem d_L_law_273 : decode b_L_law 273 = .ok (.iload 5, 2) := by decide +kernel
theorem d_L_law_275 : decode b_L_law 275 = .ok (.if_icmp .eq 5, 3) := by decide +kernel
theorem d_L_law_278 : decode b_L_law 278 = .ok (.iconst 0, 1) := by decide +kernel
theorem d_L_law_279 : decode b_L_law 279 = .ok (.ireturn, 1) := by decide +kernel
theorem d_L_law_280 : decode b_L_law 280 = .ok (.iload 5, 2) := by decide +kernel
theorem d_L_law_282 : decode b_L_law 282 = .ok (.ifCond .ne 15, 3) := by decide +kernel
theorem d_L_law_285 : decode b_L_law 285 = .ok (.aload_n 3, 1) := by decide +kernel
theorem d_L_law_286 : decode b_L_law 286 = .ok (.iconst 0, 1) := by decide +kernel
theorem d_L_law_287 : decode b_L_law 287 = .ok (.laload, 1) := by decide +kernel
theorem d_L_law_288 : decode b_L_law 288 = .ok (.iload 6, 2) := by decide +kernel
theorem d_L_law_290 : decode b_L_law 290 = .ok (.i2l, 1) := by decide +kernel
theorem d_L_law_291 : decode b_L_law 291 = .ok (.lcmp, 1) := by decide +kernel
theorem d_L_law_292 : decode b_L_law 292 = .ok (.ifCond .eq 5, 3) := by decide +kernel
theorem d_L_law_295 : decode b_L_law 295 = .ok (.iconst 0, 1) := by decide +kernel
theorem d_L_law_296 : decode b_L_law 296 = .ok (.ireturn, 1) := by decide +kernel
theorem d_L_law_297 : decode b_L_law 297 = .ok (.goto 748, 3) := by decide +kernel
theorem d_L_law_300 : decode b_L_law 300 = .ok (.aload_n 1, 1) := by decide +kernel
theorem d_L_law_301 : decode b_L_law 301 = .ok (.aload_n 0, 1) := by decide +kernel
theorem d_L_law_302 : decode b_L_law 302 = .ok (.iload 4, 2) := by decide +kernel
theorem d_L_law_304 : decode b_L_law 304 = .ok (.iconst 1, 1) := by decide +kernel
theorem d_L_law_305 : decode b_L_law 305 = .ok (.iadd, 1) := by decide +kernel
theorem d_L_law_306 : decode b_L_law 306 = .ok (.iaload, 1) := by decide +kernel
theorem d_L_law_307 : decode b_L_law 307 = .ok (.aload_n 0, 1) := by decide +kernel
theorem d_L_law_308 : decode b_L_law 308 = .ok (.iload 4, 2) := by decide +kernel
theorem d_L_law_310 : decode b_L_law 310 = .ok (.iconst 2, 1) := by decide +kernel
theorem d_L_law_311 : decode b_L_law 311 = .ok (.iadd, 1) := by decide +kernel
theorem d_L_law_312 : decode b_L_law 312 = .ok (.iaload, 1) := by decide +kernel
theorem d_L_law_313 : decode b_L_law 313 = .ok (.aload_n 0, 1) := by decide +kernel
theorem d_L_law_314 : decode b_L_law 314 = .ok (.iload 4, 2) := by decide +kernel
theorem d_L_law_316 : decode b_L_law 316 = .ok (.iconst 3, 1) := by decide +kernel
theorem d_L_law_317 : decode b_L_law 317 = .ok (.iadd, 1) := by decide +kernel
theorem d_L_law_318 : decode b_L_law 318 = .ok (.iaload, 1) := by decide +kernel
theorem d_L_law_319 : decode b_L_law 319 = .ok (.invokestatic 82, 3) := by decide +kernel
theorem d_L_law_322 : decode b_L_law 322 = .ok (.istore 5, 2) := by decide +kernel
theorem d_L_law_324 : decode b_L_law 324 = .ok (.aload_n 2, 1) := by decide +kernel
theorem d_L_law_325 : decode b_L_law 325 = .ok (.aload_n 0, 1) := by decide +kernel
theorem d_L_law_326 : decode b_L_law 326 = .ok (.iload 4, 2) := by decide +kernel
theorem d_L_law_328 : decode b_L_law 328 = .ok (.iconst 1, 1) := by decide +kernel
theorem d_L_law_329 : decode b_L_law 329 = .ok (.iadd, 1) := by decide +kernel
theorem d_L_law_330 : decode b_L_law 330 = .ok (.iaload, 1) := by decide +kernel
theorem d_L_law_331 : decode b_L_law 331 = .ok (.aload_n 0, 1) := by decide +kernel
theorem d_L_law_332 : decode b_L_law 332 = .ok (.iload 4, 2) := by decide +kernel
theorem d_L_law_334 : decode b_L_law 334 = .ok (.iconst 2, 1) := by decide +kernel
theorem d_L_law_335 : decode b_L_law 335 = .ok (.iadd, 1) := by decide +kernel
theorem d_L_law_336 : decode b_L_law 336 = .ok (.iaload, 1) := by decide +kernel
theorem d_L_law_337 : decode b_L_law 337 = .ok (.aload_n 0, 1) := by decide +kernel
theorem d_L_law_338 : decode b_L_law 338 = .ok (.iload 4, 2) := by decide +kernel
theorem d_L_law_340 : decode b_L_law 340 = .ok (.iconst 3, 1) := by decide +kernel
theorem d_L_law_341 : decode b_L_law 341 = .ok (.iadd, 1) := by decide +kernel
theorem d_L_law_342 : decode b_L_law 342 = .ok (.iaload, 1) := by decide +kernel
theorem d_L_law_343 : decode b_L_law 343 = .ok (.invokevirtual 85, 3) := by decide +kernel
theorem d_L_law_346 : decode b_L_law 346 = .ok (.aload_n 2, 1) := by decide +kernel
theorem d_L_law_347 : decode b_L_law 347 = .ok (.invokevirtual 75, 3) := by decide +kernel
theorem d_L_law_350 : decode b_L_law 350 = .ok (.iload 5, 2) := by decide +kernel
theorem d_L_law_352 : decode b_L_law 352 = .ok (.if_icmp .eq 5, 3) := by decide +kernel
theorem d_L_law_355 : decode b_L_law 355 = .ok (.iconst 0, 1) := by decide +kernel
theorem d_L_law_356 : decode b_L_law 356 = .ok (.ireturn, 1) := by decide +kernel
theorem d_L_law_357 : decode b_L_law 357 = .ok (.goto 688, 3) := by decide +kernel
theorem d_L_law_360 : decode b_L_law 360 = .ok (.aload_n 1, 1) := by decide +kernel
theorem d_L_law_361 : decode b_L_law 361 = .ok (.aload_n 0, 1) := by decide +kernel
theorem d_L_law_362 : decode b_L_law 362 = .ok (.iload 4, 2) := by decide +kernel
theorem d_L_law_364 : decode b_L_law 364 = .ok (.iconst 1, 1) := by decide +kernel
theorem d_L_law_365 : decode b_L_law 365 = .ok (.iadd, 1) := by decide +kernel
theorem d_L_law_366 : decode b_L_law 366 = .ok (.iaload, 1) := by decide +kernel
theorem d_L_law_367 : decode b_L_law 367 = .ok (.aload_n 0, 1) := by decide +kernel
theorem d_L_law_368 : decode b_L_law 368 = .ok (.iload 4, 2) := by decide +kernel
theorem d_L_law_370 : decode b_L_law 370 = .ok (.iconst 2, 1) := by decide +kernel
theorem d_L_law_371 : decode b_L_law 371 = .ok (.iadd, 1) := by decide +kernel
theorem d_L_law_372 : decode b_L_law 372 = .ok (.iaload, 1) := by decide +kernel
theorem d_L_law_373 : decode b_L_law 373 = .ok (.aload_n 0, 1) := by decide +kernel
theorem d_L_law_374 : decode b_L_law 374 = .ok (.iload 4, 2) := by decide +kernel
theorem d_L_law_376 : decode b_L_law 376 = .ok (.iconst 3, 1) := by decide +kernel
theorem d_L_law_377 : decode b_L_law 377 = .ok (.iadd, 1) := by decide +kernel
theorem d_L_law_378 : decode b_L_law 378 = .ok (.iaload, 1) := by decide +kernel
theorem d_L_law_379 : decode b_L_law 379 = .ok (.invokestatic 86, 3) := by decide +kernel
theorem d_L_law_382 : decode b_L_law 382 = .ok (.istore 5, 2) := by decide +kernel
theorem d_L_law_384 : decode b_L_law 384 = .ok (.aload_n 2, 1) := by decide +kernel
theorem d_L_law_385 : decode b_L_law 385 = .ok (.aload_n 0, 1) := by decide +kernel
theorem d_L_law_386 : decode b_L_law 386 = .ok (.iload 4, 2) := by decide +kernel
theorem d_L_law_388 : decode b_L_law 388 = .ok (.iconst 1, 1) := by decide +kernel
theorem d_L_law_389 : decode b_L_law 389 = .ok (.iadd, 1) := by decide +kernel
theorem d_L_law_390 : decode b_L_law 390 = .ok (.iaload, 1) := by decide +kernel
theorem d_L_law_391 : decode b_L_law 391 = .ok (.aload_n 0, 1) := by decide +kernel
theorem d_L_law_392 : decode b_L_law 392 = .ok (.iload 4, 2) := by decide +kernel
theorem d_L_law_394 : decode b_L_law 394 = .ok (.iconst 2, 1) := by decide +kernel
theorem d_L_law_395 : decode b_L_law 395 = .ok (.iadd, 1) := by decide +kernel
theorem d_L_law_396 : decode b_L_law 396 = .ok (.iaload, 1) := by decide +kernel
theorem d_L_law_397 : decode b_L_law 397 = .ok (.aload_n 0, 1) := by decide +kernel
theorem d_L_law_398 : decode b_L_law 398 = .ok (.iload 4, 2) := by decide +kernel
theorem d_L_law_400 : decode b_L_law 400 = .ok (.iconst 3, 1) := by decide +kernel
theorem d_L_law_401 : decode b_L_law 401 = .ok (.iadd, 1) := by decide +kernel
theorem d_L_law_402 : decode b_L_law 402 = .ok (.iaload, 1) := by decide +kernel
theorem d_L_law_403 : decode b_L_law 403 = .ok (.invokevirtual 88, 3) := by decide +kernel
theorem d_L_law_406 : decode b_L_law 406 = .ok (.aload_n 2, 1) := by decide +kernel
theorem d_L_law_407 : decode b_L_law 407 = .ok (.invokevirtual 75, 3) := by decide +kernel
theorem d_L_law_410 : decode b_L_law 410 = .ok (.iload 5, 2) := by decide +kernel
theorem d_L_law_412 : decode b_L_law 412 = .ok (.if_icmp .eq 5, 3) := by decide +kernel
theorem d_L_law_415 : decode b_L_law 415 = .ok (.iconst 0, 1) := by decide +kernel
theorem d_L_law_416 : decode b_L_law 416 = .ok (.ireturn, 1) := by decide +kernel
theorem d_L_law_417 : decode b_L_law 417 = .ok (.goto 628, 3) := by decide +kernel
theorem d_L_law_420 : decode b_L_law 420 = .ok (.aload_n 1, 1) := by decide +kernel
theorem d_L_law_421 : decode b_L_law 421 = .ok (.aload_n 0, 1) := by decide +kernel
theorem d_L_law_422 : decode b_L_law 422 = .ok (.iload 4, 2) := by decide +kernel
theorem d_L_law_424 : decode b_L_law 424 = .ok (.iconst 1, 1) := by decide +kernel
theorem d_L_law_425 : decode b_L_law 425 = .ok (.iadd, 1) := by decide +kernel
theorem d_L_law_426 : decode b_L_law 426 = .ok (.iaload, 1) := by decide +kernel
theorem d_L_law_427 : decode b_L_law 427 = .ok (.aload_n 0, 1) := by decide +kernel
theorem d_L_law_428 : decode b_L_law 428 = .ok (.iload 4, 2) := by decide +kernel
theorem d_L_law_430 : decode b_L_law 430 = .ok (.iconst 2, 1) := by decide +kernel
theorem d_L_law_431 : decode b_L_law 431 = .ok (.iadd, 1) := by decide +kernel
theorem d_L_law_432 : decode b_L_law 432 = .ok (.iaload, 1) := by decide +kernel
theorem d_L_law_433 : decode b_L_law 433 = .ok (.aload_n 3, 1) := by decide +kernel
theorem d_L_law_434 : decode b_L_law 434 = .ok (.invokestatic 89, 3) := by decide +kernel
theorem d_L_law_437 : decode b_L_law 437 = .ok (.istore 5, 2) := by decide +kernel
theorem d_L_law_439 : decode b_L_law 439 = .ok (.aload_n 2, 1) := by decide +kernel
theorem d_L_law_440 : decode b_L_law 440 = .ok (.aload_n 0, 1) := by decide +kernel
theorem d_L_law_441 : decode b_L_law 441 = .ok (.iload 4, 2) := by decide +kernel
theorem d_L_law_443 : decode b_L_law 443 = .ok (.iconst 1, 1) := by decide +kernel
theorem d_L_law_444 : decode b_L_law 444 = .ok (.iadd, 1) := by decide +kernel
theorem d_L_law_445 : decode b_L_law 445 = .ok (.iaload, 1) := by decide +kernel
theorem d_L_law_446 : decode b_L_law 446 = .ok (.aload_n 0, 1) := by decide +kernel
theorem d_L_law_447 : decode b_L_law 447 = .ok (.iload 4, 2) := by decide +kernel
theorem d_L_law_449 : decode b_L_law 449 = .ok (.iconst 2, 1) := by decide +kernel
theorem d_L_law_450 : decode b_L_law 450 = .ok (.iadd, 1) := by decide +kernel
theorem d_L_law_451 : decode b_L_law 451 = .ok (.iaload, 1) := by decide +kernel
theorem d_L_law_452 : decode b_L_law 452 = .ok (.invokevirtual 92, 3) := by decide +kernel
theorem d_L_law_455 : decode b_L_law 455 = .ok (.istore 6, 2) := by decide +kernel
theorem d_L_law_457 : decode b_L_law 457 = .ok (.aload_n 2, 1) := by decide +kernel
theorem d_L_law_458 : decode b_L_law 458 = .ok (.invokevirtual 75, 3) := by decide +kernel
theorem d_L_law_461 : decode b_L_law 461 = .ok (.iload 5, 2) := by decide +kernel
theorem d_L_law_463 : decode b_L_law 463 = .ok (.if_icmp .eq 5, 3) := by decide +kernel
theorem d_L_law_466 : decode b_L_law 466 = .ok (.iconst 0, 1) := by decide +kernel
theorem d_L_law_467 : decode b_L_law 467 = .ok (.ireturn, 1) := by decide +kernel
theorem d_L_law_468 : decode b_L_law 468 = .ok (.iload 5, 2) := by decide +kernel
theorem d_L_law_470 : decode b_L_law 470 = .ok (.ifCond .ne 22, 3) := by decide +kernel
theorem d_L_law_473 : decode b_L_law 473 = .ok (.aload_n 3, 1) := by decide +kernel
theorem d_L_law_474 : decode b_L_law 474 = .ok (.iconst 0, 1) := by decide +kernel
theorem d_L_law_475 : decode b_L_law 475 = .ok (.laload, 1) := by decide +kernel
theorem d_L_law_476 : decode b_L_law 476 = .ok (.iload 6, 2) := by decide +kernel
theorem d_L_law_478 : decode b_L_law 478 = .ok (.ifCond .eq 7, 3) := by decide +kernel
theorem d_L_law_481 : decode b_L_law 481 = .ok (.lconst 1, 1) := by decide +kernel
theorem d_L_law_482 : decode b_L_law 482 = .ok (.goto 4, 3) := by decide +kernel
theorem d_L_law_485 : decode b_L_law 485 = .ok (.lconst 0, 1) := by decide +kernel
theorem d_L_law_486 : decode b_L_law 486 = .ok (.lcmp, 1) := by decide +kernel
theorem d_L_law_487 : decode b_L_law 487 = .ok (.ifCond .eq 5, 3) := by decide +kernel
theorem d_L_law_490 : decode b_L_law 490 = .ok (.iconst 0, 1) := by decide +kernel
theorem d_L_law_491 : decode b_L_law 491 = .ok (.ireturn, 1) := by decide +kernel
theorem d_L_law_492 : decode b_L_law 492 = .ok (.goto 553, 3) := by decide +kernel
theorem d_L_law_495 : decode b_L_law 495 = .ok (.aload_n 1, 1) := by decide +kernel
theorem d_L_law_496 : decode b_L_law 496 = .ok (.aload_n 0, 1) := by decide +kernel
theorem d_L_law_497 : decode b_L_law 497 = .ok (.iload 4, 2) := by decide +kernel
theorem d_L_law_499 : decode b_L_law 499 = .ok (.iconst 1, 1) := by decide +kernel
theorem d_L_law_500 : decode b_L_law 500 = .ok (.iadd, 1) := by decide +kernel
theorem d_L_law_501 : decode b_L_law 501 = .ok (.iaload, 1) := by decide +kernel
theorem d_L_law_502 : decode b_L_law 502 = .ok (.aload_n 0, 1) := by decide +kernel
theorem d_L_law_503 : decode b_L_law 503 = .ok (.iload 4, 2) := by decide +kernel
theorem d_L_law_505 : decode b_L_law 505 = .ok (.iconst 2, 1) := by decide +kernel
theorem d_L_law_506 : decode b_L_law 506 = .ok (.iadd, 1) := by decide +kernel
theorem d_L_law_507 : decode b_L_law 507 = .ok (.iaload, 1) := by decide +kernel
theorem d_L_law_508 : decode b_L_law 508 = .ok (.aload_n 3, 1) := by decide +kernel
theorem d_L_law_509 : decode b_L_law 509 = .ok (.invokestatic 93, 3) := by decide +kernel
theorem d_L_law_512 : decode b_L_law 512 = .ok (.istore 5, 2) := by decide +kernel
theorem d_L_law_514 : decode b_L_law 514 = .ok (.aload_n 2, 1) := by decide +kernel
theorem d_L_law_515 : decode b_L_law 515 = .ok (.aload_n 0, 1) := by decide +kernel
theorem d_L_law_516 : decode b_L_law 516 = .ok (.iload 4, 2) := by decide +kernel
theorem d_L_law_518 : decode b_L_law 518 = .ok (.iconst 1, 1) := by decide +kernel
theorem d_L_law_519 : decode b_L_law 519 = .ok (.iadd, 1) := by decide +kernel
theorem d_L_law_520 : decode b_L_law 520 = .ok (.iaload, 1) := by decide +kernel
theorem d_L_law_521 : decode b_L_law 521 = .ok (.aload_n 0, 1) := by decide +kernel
theorem d_L_law_522 : decode b_L_law 522 = .ok (.iload 4, 2) := by decide +kernel
theorem d_L_law_524 : decode b_L_law 524 = .ok (.iconst 2, 1) := by decide +kernel
theorem d_L_law_525 : decode b_L_law 525 = .ok (.iadd, 1) := by decide +kernel
theorem d_L_law_526 : decode b_L_law 526 = .ok (.iaload, 1) := by decide +kernel
theorem d_L_law_527 : decode b_L_law 527 = .ok (.invokevirtual 95, 3) := by decide +kernel
theorem d_L_law_530 : decode b_L_law 530 = .ok (.istore 6, 2) := by decide +kernel
theorem d_L_law_532 : decode b_L_law 532 = .ok (.aload_n 2, 1) := by decide +kernel
theorem d_L_law_533 : decode b_L_law 533 = .ok (.invokevirtual 75, 3) := by decide +kernel
theorem d_L_law_536 : decode b_L_law 536 = .ok (.iload 5, 2) := by decide +kernel
theorem d_L_law_538 : decode b_L_law 538 = .ok (.if_icmp .eq 5, 3) := by decide +kernel
theorem d_L_law_541 : decode b_L_law 541 = .ok (.iconst 0, 1) := by decide +kernel
theorem d_L_law_542 : decode b_L_law 542 = .ok (.ireturn, 1) := by decide +kernel
theorem d_L_law_543 : decode b_L_law 543 = .ok (.iload 5, 2) := by decide +kernel
theorem d_L_law_545 : decode b_L_law 545 = .ok (.ifCond .ne 15, 3) := by decide +kernel
theorem d_L_law_548 : decode b_L_law 548 = .ok (.aload_n 3, 1) := by decide +kernel
theorem d_L_law_549 : decode b_L_law 549 = .ok (.iconst 0, 1) := by decide +kernel
theorem d_L_law_550 : decode b_L_law 550 = .ok (.laload, 1) := by decide +kernel
theorem d_L_law_551 : decode b_L_law 551 = .ok (.iload 6, 2) := by decide +kernel
theorem d_L_law_553 : decode b_L_law 553 = .ok (.i2l, 1) := by decide +kernel
theorem d_L_law_554 : decode b_L_law 554 = .ok (.lcmp, 1) := by decide +kernel
theorem d_L_law_555 : decode b_L_law 555 = .ok (.ifCond .eq 5, 3) := by decide +kernel
theorem d_L_law_558 : decode b_L_law 558 = .ok (.iconst 0, 1) := by decide +kernel
theorem d_L_law_559 : decode b_L_law 559 = .ok (.ireturn, 1) := by decide +kernel
theorem d_L_law_560 : decode b_L_law 560 = .ok (.goto 485, 3) := by decide +kernel
theorem d_L_law_563 : decode b_L_law 563 = .ok (.aload_n 1, 1) := by decide +kernel
theorem d_L_law_564 : decode b_L_law 564 = .ok (.invokevirtual 96, 3) := by decide +kernel
theorem d_L_law_567 : decode b_L_law 567 = .ok (.aload_n 2, 1) := by decide +kernel
theorem d_L_law_568 : decode b_L_law 568 = .ok (.invokevirtual 99, 3) := by decide +kernel
theorem d_L_law_571 : decode b_L_law 571 = .ok (.if_icmp .eq 474, 3) := by decide +kernel
theorem d_L_law_574 : decode b_L_law 574 = .ok (.iconst 0, 1) := by decide +kernel
theorem d_L_law_575 : decode b_L_law 575 = .ok (.ireturn, 1) := by decide +kernel
theorem d_L_law_576 : decode b_L_law 576 = .ok (.aload_n 1, 1) := by decide +kernel
theorem d_L_law_577 : decode b_L_law 577 = .ok (.invokevirtual 100, 3) := by decide +kernel
theorem d_L_law_580 : decode b_L_law 580 = .ok (.aload_n 2, 1) := by decide +kernel
theorem d_L_law_581 : decode b_L_law 581 = .ok (.invokevirtual 103, 3) := by decide +kernel
theorem d_L_law_584 : decode b_L_law 584 = .ok (.if_icmp .eq 461, 3) := by decide +kernel
theorem d_L_law_587 : decode b_L_law 587 = .ok (.iconst 0, 1) := by decide +kernel
theorem d_L_law_588 : decode b_L_law 588 = .ok (.ireturn, 1) := by decide +kernel
theorem d_L_law_589 : decode b_L_law 589 = .ok (.aload_n 1, 1) := by decide +kernel
theorem d_L_law_590 : decode b_L_law 590 = .ok (.aload_n 0, 1) := by decide +kernel
theorem d_L_law_591 : decode b_L_law 591 = .ok (.iload 4, 2) := by decide +kernel
theorem d_L_law_593 : decode b_L_law 593 = .ok (.iconst 1, 1) := by decide +kernel
theorem d_L_law_594 : decode b_L_law 594 = .ok (.iadd, 1) := by decide +kernel
theorem d_L_law_595 : decode b_L_law 595 = .ok (.iaload, 1) := by decide +kernel
theorem d_L_law_596 : decode b_L_law 596 = .ok (.aload_n 0, 1) := by decide +kernel
theorem d_L_law_597 : decode b_L_law 597 = .ok (.iload 4, 2) := by decide +kernel
theorem d_L_law_599 : decode b_L_law 599 = .ok (.iconst 2, 1) := by decide +kernel
theorem d_L_law_600 : decode b_L_law 600 = .ok (.iadd, 1) := by decide +kernel
theorem d_L_law_601 : decode b_L_law 601 = .ok (.iaload, 1) := by decide +kernel
theorem d_L_law_602 : decode b_L_law 602 = .ok (.aload_n 3, 1) := by decide +kernel
theorem d_L_law_603 : decode b_L_law 603 = .ok (.invokestatic 104, 3) := by decide +kernel
theorem d_L_law_606 : decode b_L_law 606 = .ok (.istore 5, 2) := by decide +kernel
theorem d_L_law_608 : decode b_L_law 608 = .ok (.aload_n 2, 1) := by decide +kernel
theorem d_L_law_609 : decode b_L_law 609 = .ok (.aload_n 0, 1) := by decide +kernel
theorem d_L_law_610 : decode b_L_law 610 = .ok (.iload 4, 2) := by decide +kernel
theorem d_L_law_612 : decode b_L_law 612 = .ok (.iconst 1, 1) := by decide +kernel
theorem d_L_law_613 : decode b_L_law 613 = .ok (.iadd, 1) := by decide +kernel
theorem d_L_law_614 : decode b_L_law 614 = .ok (.iaload, 1) := by decide +kernel
theorem d_L_law_615 : decode b_L_law 615 = .ok (.aload_n 0, 1) := by decide +kernel
theorem d_L_law_616 : decode b_L_law 616 = .ok (.iload 4, 2) := by decide +kernel
theorem d_L_law_618 : decode b_L_law 618 = .ok (.iconst 2, 1) := by decide +kernel
theorem d_L_law_619 : decode b_L_law 619 = .ok (.iadd, 1) := by decide +kernel
theorem d_L_law_620 : decode b_L_law 620 = .ok (.iaload, 1) := by decide +kernel
theorem d_L_law_621 : decode b_L_law 621 = .ok (.invokevirtual 106, 3) := by decide +kernel
theorem d_L_law_624 : decode b_L_law 624 = .ok (.istore 6, 2) := by decide +kernel
theorem d_L_law_626 : decode b_L_law 626 = .ok (.aload_n 2, 1) := by decide +kernel
theorem d_L_law_627 : decode b_L_law 627 = .ok (.invokevirtual 75, 3) := by decide +kernel
theorem d_L_law_630 : decode b_L_law 630 = .ok (.iload 5, 2) := by decide +kernel
theorem d_L_law_632 : decode b_L_law 632 = .ok (.if_icmp .eq 5, 3) := by decide +kernel
theorem d_L_law_635 : decode b_L_law 635 = .ok (.iconst 0, 1) := by decide +kernel
theorem d_L_law_636 : decode b_L_law 636 = .ok (.ireturn, 1) := by decide +kernel
theorem d_L_law_637 : decode b_L_law 637 = .ok (.iload 5, 2) := by decide +kernel
theorem d_L_law_639 : decode b_L_law 639 = .ok (.ifCond .ne 15, 3) := by decide +kernel
theorem d_L_law_642 : decode b_L_law 642 = .ok (.aload_n 3, 1) := by decide +kernel
theorem d_L_law_643 : decode b_L_law 643 = .ok (.iconst 0, 1) := by decide +kernel
theorem d_L_law_644 : decode b_L_law 644 = .ok (.laload, 1) := by decide +kernel
theorem d_L_law_645 : decode b_L_law 645 = .ok (.iload 6, 2) := by decide +kernel
theorem d_L_law_647 : decode b_L_law 647 = .ok (.i2l, 1) := by decide +kernel
theorem d_L_law_648 : decode b_L_law 648 = .ok (.lcmp, 1) := by decide +kernel
theorem d_L_law_649 : decode b_L_law 649 = .ok (.ifCond .eq 5, 3) := by decide +kernel
theorem d_L_law_652 : decode b_L_law 652 = .ok (.iconst 0, 1) := by decide +kernel
theorem d_L_law_653 : decode b_L_law 653 = .ok (.ireturn, 1) := by decide +kernel
theorem d_L_law_654 : decode b_L_law 654 = .ok (.goto 391, 3) := by decide +kernel
theorem d_L_law_657 : decode b_L_law 657 = .ok (.aload_n 1, 1) := by decide +kernel
theorem d_L_law_658 : decode b_L_law 658 = .ok (.aload_n 0, 1) := by decide +kernel
theorem d_L_law_659 : decode b_L_law 659 = .ok (.iload 4, 2) := by decide +kernel
theorem d_L_law_661 : decode b_L_law 661 = .ok (.iconst 1, 1) := by decide +kernel
theorem d_L_law_662 : decode b_L_law 662 = .ok (.iadd, 1) := by decide +kernel
theorem d_L_law_663 : decode b_L_law 663 = .ok (.iaload, 1) := by decide +kernel
theorem d_L_law_664 : decode b_L_law 664 = .ok (.aload_n 3, 1) := by decide +kernel
theorem d_L_law_665 : decode b_L_law 665 = .ok (.invokestatic 107, 3) := by decide +kernel
theorem d_L_law_668 : decode b_L_law 668 = .ok (.istore 5, 2) := by decide +kernel
theorem d_L_law_670 : decode b_L_law 670 = .ok (.aload_n 2, 1) := by decide +kernel
theorem d_L_law_671 : decode b_L_law 671 = .ok (.aload_n 0, 1) := by decide +kernel
theorem d_L_law_672 : decode b_L_law 672 = .ok (.iload 4, 2) := by decide +kernel
theorem d_L_law_674 : decode b_L_law 674 = .ok (.iconst 1, 1) := by decide +kernel
theorem d_L_law_675 : decode b_L_law 675 = .ok (.iadd, 1) := by decide +kernel
theorem d_L_law_676 : decode b_L_law 676 = .ok (.iaload, 1) := by decide +kernel
theorem d_L_law_677 : decode b_L_law 677 = .ok (.invokevirtual 110, 3) := by decide +kernel
theorem d_L_law_680 : decode b_L_law 680 = .ok (.istore 6, 2) := by decide +kernel
theorem d_L_law_682 : decode b_L_law 682 = .ok (.aload_n 2, 1) := by decide +kernel
theorem d_L_law_683 : decode b_L_law 683 = .ok (.invokevirtual 75, 3) := by decide +kernel
theorem d_L_law_686 : decode b_L_law 686 = .ok (.iload 5, 2) := by decide +kernel
theorem d_L_law_688 : decode b_L_law 688 = .ok (.if_icmp .eq 5, 3) := by decide +kernel
theorem d_L_law_691 : decode b_L_law 691 = .ok (.iconst 0, 1) := by decide +kernel
theorem d_L_law_692 : decode b_L_law 692 = .ok (.ireturn, 1) := by decide +kernel
theorem d_L_law_693 : decode b_L_law 693 = .ok (.iload 5, 2) := by decide +kernel
theorem d_L_law_695 : decode b_L_law 695 = .ok (.ifCond .ne 15, 3) := by decide +kernel
theorem d_L_law_698 : decode b_L_law 698 = .ok (.aload_n 3, 1) := by decide +kernel
theorem d_L_law_699 : decode b_L_law 699 = .ok (.iconst 0, 1) := by decide +kernel
theorem d_L_law_700 : decode b_L_law 700 = .ok (.laload, 1) := by decide +kernel
theorem d_L_law_701 : decode b_L_law 701 = .ok (.iload 6, 2) := by decide +kernel
theorem d_L_law_703 : decode b_L_law 703 = .ok (.i2l, 1) := by decide +kernel
theorem d_L_law_704 : decode b_L_law 704 = .ok (.lcmp, 1) := by decide +kernel
theorem d_L_law_705 : decode b_L_law 705 = .ok (.ifCond .eq 5, 3) := by decide +kernel
theorem d_L_law_708 : decode b_L_law 708 = .ok (.iconst 0, 1) := by decide +kernel
theorem d_L_law_709 : decode b_L_law 709 = .ok (.ireturn, 1) := by decide +kernel
theorem d_L_law_710 : decode b_L_law 710 = .ok (.goto 335, 3) := by decide +kernel
theorem d_L_law_713 : decode b_L_law 713 = .ok (.aload_n 1, 1) := by decide +kernel
theorem d_L_law_714 : decode b_L_law 714 = .ok (.aload_n 0, 1) := by decide +kernel
theorem d_L_law_715 : decode b_L_law 715 = .ok (.iload 4, 2) := by decide +kernel
theorem d_L_law_717 : decode b_L_law 717 = .ok (.iconst 1, 1) := by decide +kernel
theorem d_L_law_718 : decode b_L_law 718 = .ok (.iadd, 1) := by decide +kernel
theorem d_L_law_719 : decode b_L_law 719 = .ok (.iaload, 1) := by decide +kernel
theorem d_L_law_720 : decode b_L_law 720 = .ok (.aload_n 0, 1) := by decide +kernel
theorem d_L_law_721 : decode b_L_law 721 = .ok (.iload 4, 2) := by decide +kernel
theorem d_L_law_723 : decode b_L_law 723 = .ok (.iconst 2, 1) := by decide +kernel
theorem d_L_law_724 : decode b_L_law 724 = .ok (.iadd, 1) := by decide +kernel
theorem d_L_law_725 : decode b_L_law 725 = .ok (.iaload, 1) := by decide +kernel
theorem d_L_law_726 : decode b_L_law 726 = .ok (.aload_n 3, 1) := by decide +kernel
theorem d_L_law_727 : decode b_L_law 727 = .ok (.invokestatic 111, 3) := by decide +kernel
theorem d_L_law_730 : decode b_L_law 730 = .ok (.istore 5, 2) := by decide +kernel
theorem d_L_law_732 : decode b_L_law 732 = .ok (.aload_n 2, 1) := by decide +kernel
theorem d_L_law_733 : decode b_L_law 733 = .ok (.aload_n 0, 1) := by decide +kernel
theorem d_L_law_734 : decode b_L_law 734 = .ok (.iload 4, 2) := by decide +kernel
theorem d_L_law_736 : decode b_L_law 736 = .ok (.iconst 1, 1) := by decide +kernel
theorem d_L_law_737 : decode b_L_law 737 = .ok (.iadd, 1) := by decide +kernel
theorem d_L_law_738 : decode b_L_law 738 = .ok (.iaload, 1) := by decide +kernel
theorem d_L_law_739 : decode b_L_law 739 = .ok (.aload_n 0, 1) := by decide +kernel
theorem d_L_law_740 : decode b_L_law 740 = .ok (.iload 4, 2) := by decide +kernel
theorem d_L_law_742 : decode b_L_law 742 = .ok (.iconst 2, 1) := by decide +kernel
theorem d_L_law_743 : decode b_L_law 743 = .ok (.iadd, 1) := by decide +kernel
theorem d_L_law_744 : decode b_L_law 744 = .ok (.iaload, 1) := by decide +kernel
theorem d_L_law_745 : decode b_L_law 745 = .ok (.invokevirtual 113, 3) := by decide +kernel
theorem d_L_law_748 : decode b_L_law 748 = .ok (.istore 6, 2) := by decide +kernel
theorem d_L_law_750 : decode b_L_law 750 = .ok (.aload_n 2, 1) := by decide +kernel
theorem d_L_law_751 : decode b_L_law 751 = .ok (.invokevirtual 75, 3) := by decide +kernel
theorem d_L_law_754 : decode b_L_law 754 = .ok (.iload 5, 2) := by decide +kernel
theorem d_L_law_756 : decode b_L_law 756 = .ok (.if_icmp .eq 5, 3) := by decide +kernel
theorem d_L_law_759 : decode b_L_law 759 = .ok (.iconst 0, 1) := by decide +kernel
theorem d_L_law_760 : decode b_L_law 760 = .ok (.ireturn, 1) := by decide +kernel
theorem d_L_law_761 : decode b_L_law 761 = .ok (.iload 5, 2) := by decide +kernel
theorem d_L_law_763 : decode b_L_law 763 = .ok (.ifCond .ne 15, 3) := by decide +kernel
theorem d_L_law_766 : decode b_L_law 766 = .ok (.aload_n 3, 1) := by decide +kernel
theorem d_L_law_767 : decode b_L_law 767 = .ok (.iconst 0, 1) := by decide +kernel
theorem d_L_law_768 : decode b_L_law 768 = .ok (.laload, 1) := by decide +kernel
theorem d_L_law_769 : decode b_L_law 769 = .ok (.iload 6, 2) := by decide +kernel
theorem d_L_law_771 : decode b_L_law 771 = .ok (.i2l, 1) := by decide +kernel
theorem d_L_law_772 : decode b_L_law 772 = .ok (.lcmp, 1) := by decide +kernel
theorem d_L_law_773 : decode b_L_law 773 = .ok (.ifCond .eq 5, 3) := by decide +kernel
theorem d_L_law_776 : decode b_L_law 776 = .ok (.iconst 0, 1) := by decide +kernel
theorem d_L_law_777 : decode b_L_law 777 = .ok (.ireturn, 1) := by decide +kernel
theorem d_L_law_778 : decode b_L_law 778 = .ok (.goto 267, 3) := by decide +kernel
theorem d_L_law_781 : decode b_L_law 781 = .ok (.aload_n 1, 1) := by decide +kernel
theorem d_L_law_782 : decode b_L_law 782 = .ok (.aload_n 0, 1) := by decide +kernel
theorem d_L_law_783 : decode b_L_law 783 = .ok (.iload 4, 2) := by decide +kernel
theorem d_L_law_785 : decode b_L_law 785 = .ok (.iconst 1, 1) := by decide +kernel
theorem d_L_law_786 : decode b_L_law 786 = .ok (.iadd, 1) := by decide +kernel
theorem d_L_law_787 : decode b_L_law 787 = .ok (.iaload, 1) := by decide +kernel
theorem d_L_law_788 : decode b_L_law 788 = .ok (.aload_n 0, 1) := by decide +kernel
theorem d_L_law_789 : decode b_L_law 789 = .ok (.iload 4, 2) := by decide +kernel
theorem d_L_law_791 : decode b_L_law 791 = .ok (.iconst 2, 1) := by decide +kernel
theorem d_L_law_792 : decode b_L_law 792 = .ok (.iadd, 1) := by decide +kernel
theorem d_L_law_793 : decode b_L_law 793 = .ok (.iaload, 1) := by decide +kernel
theorem d_L_law_794 : decode b_L_law 794 = .ok (.aload_n 0, 1) := by decide +kernel
theorem d_L_law_795 : decode b_L_law 795 = .ok (.iload 4, 2) := by decide +kernel
theorem d_L_law_797 : decode b_L_law 797 = .ok (.iconst 3, 1) := by decide +kernel
theorem d_L_law_798 : decode b_L_law 798 = .ok (.iadd, 1) := by decide +kernel
theorem d_L_law_799 : decode b_L_law 799 = .ok (.iaload, 1) := by decide +kernel
theorem d_L_law_800 : decode b_L_law 800 = .ok (.invokestatic 114, 3) := by decide +kernel
theorem d_L_law_803 : decode b_L_law 803 = .ok (.istore 5, 2) := by decide +kernel
theorem d_L_law_805 : decode b_L_law 805 = .ok (.aload_n 2, 1) := by decide +kernel
theorem d_L_law_806 : decode b_L_law 806 = .ok (.aload_n 0, 1) := by decide +kernel
theorem d_L_law_807 : decode b_L_law 807 = .ok (.iload 4, 2) := by decide +kernel
theorem d_L_law_809 : decode b_L_law 809 = .ok (.iconst 1, 1) := by decide +kernel
theorem d_L_law_810 : decode b_L_law 810 = .ok (.iadd, 1) := by decide +kernel
theorem d_L_law_811 : decode b_L_law 811 = .ok (.iaload, 1) := by decide +kernel
theorem d_L_law_812 : decode b_L_law 812 = .ok (.aload_n 0, 1) := by decide +kernel
theorem d_L_law_813 : decode b_L_law 813 = .ok (.iload 4, 2) := by decide +kernel
theorem d_L_law_815 : decode b_L_law 815 = .ok (.iconst 2, 1) := by decide +kernel
theorem d_L_law_816 : decode b_L_law 816 = .ok (.iadd, 1) := by decide +kernel
theorem d_L_law_817 : decode b_L_law 817 = .ok (.iaload, 1) := by decide +kernel
theorem d_L_law_818 : decode b_L_law 818 = .ok (.aload_n 0, 1) := by decide +kernel
theorem d_L_law_819 : decode b_L_law 819 = .ok (.iload 4, 2) := by decide +kernel
theorem d_L_law_821 : decode b_L_law 821 = .ok (.iconst 3, 1) := by decide +kernel
theorem d_L_law_822 : decode b_L_law 822 = .ok (.iadd, 1) := by decide +kernel
theorem d_L_law_823 : decode b_L_law 823 = .ok (.iaload, 1) := by decide +kernel
theorem d_L_law_824 : decode b_L_law 824 = .ok (.invokevirtual 116, 3) := by decide +kernel
theorem d_L_law_827 : decode b_L_law 827 = .ok (.aload_n 2, 1) := by decide +kernel
theorem d_L_law_828 : decode b_L_law 828 = .ok (.invokevirtual 75, 3) := by decide +kernel
theorem d_L_law_831 : decode b_L_law 831 = .ok (.iload 5, 2) := by decide +kernel
theorem d_L_law_833 : decode b_L_law 833 = .ok (.if_icmp .eq 5, 3) := by decide +kernel
theorem d_L_law_836 : decode b_L_law 836 = .ok (.iconst 0, 1) := by decide +kernel
theorem d_L_law_837 : decode b_L_law 837 = .ok (.ireturn, 1) := by decide +kernel
theorem d_L_law_838 : decode b_L_law 838 = .ok (.goto 207, 3) := by decide +kernel
theorem d_L_law_841 : decode b_L_law 841 = .ok (.aload_n 1, 1) := by decide +kernel
theorem d_L_law_842 : decode b_L_law 842 = .ok (.aload_n 0, 1) := by decide +kernel
theorem d_L_law_843 : decode b_L_law 843 = .ok (.iload 4, 2) := by decide +kernel
theorem d_L_law_845 : decode b_L_law 845 = .ok (.iconst 1, 1) := by decide +kernel
theorem d_L_law_846 : decode b_L_law 846 = .ok (.iadd, 1) := by decide +kernel
theorem d_L_law_847 : decode b_L_law 847 = .ok (.iaload, 1) := by decide +kernel
theorem d_L_law_848 : decode b_L_law 848 = .ok (.aload_n 3, 1) := by decide +kernel
theorem d_L_law_849 : decode b_L_law 849 = .ok (.invokestatic 117, 3) := by decide +kernel
theorem d_L_law_852 : decode b_L_law 852 = .ok (.istore 5, 2) := by decide +kernel
theorem d_L_law_854 : decode b_L_law 854 = .ok (.aload_n 2, 1) := by decide +kernel
theorem d_L_law_855 : decode b_L_law 855 = .ok (.aload_n 0, 1) := by decide +kernel
theorem d_L_law_856 : decode b_L_law 856 = .ok (.iload 4, 2) := by decide +kernel
theorem d_L_law_858 : decode b_L_law 858 = .ok (.iconst 1, 1) := by decide +kernel
theorem d_L_law_859 : decode b_L_law 859 = .ok (.iadd, 1) := by decide +kernel
theorem d_L_law_860 : decode b_L_law 860 = .ok (.iaload, 1) := by decide +kernel
theorem d_L_law_861 : decode b_L_law 861 = .ok (.invokevirtual 119, 3) := by decide +kernel
theorem d_L_law_864 : decode b_L_law 864 = .ok (.istore 6, 2) := by decide +kernel
theorem d_L_law_866 : decode b_L_law 866 = .ok (.aload_n 2, 1) := by decide +kernel
theorem d_L_law_867 : decode b_L_law 867 = .ok (.invokevirtual 75, 3) := by decide +kernel
theorem d_L_law_870 : decode b_L_law 870 = .ok (.iload 5, 2) := by decide +kernel
theorem d_L_law_872 : decode b_L_law 872 = .ok (.if_icmp .eq 5, 3) := by decide +kernel
theorem d_L_law_875 : decode b_L_law 875 = .ok (.iconst 0, 1) := by decide +kernel
theorem d_L_law_876 : decode b_L_law 876 = .ok (.ireturn, 1) := by decide +kernel
theorem d_L_law_877 : decode b_L_law 877 = .ok (.iload 5, 2) := by decide +kernel
theorem d_L_law_879 : decode b_L_law 879 = .ok (.ifCond .ne 15, 3) := by decide +kernel
theorem d_L_law_882 : decode b_L_law 882 = .ok (.aload_n 3, 1) := by decide +kernel
theorem d_L_law_883 : decode b_L_law 883 = .ok (.iconst 0, 1) := by decide +kernel
theorem d_L_law_884 : decode b_L_law 884 = .ok (.laload, 1) := by decide +kernel
theorem d_L_law_885 : decode b_L_law 885 = .ok (.iload 6, 2) := by decide +kernel
theorem d_L_law_887 : decode b_L_law 887 = .ok (.i2l, 1) := by decide +kernel
theorem d_L_law_888 : decode b_L_law 888 = .ok (.lcmp, 1) := by decide +kernel
theorem d_L_law_889 : decode b_L_law 889 = .ok (.ifCond .eq 5, 3) := by decide +kernel
theorem d_L_law_892 : decode b_L_law 892 = .ok (.iconst 0, 1) := by decide +kernel
theorem d_L_law_893 : decode b_L_law 893 = .ok (.ireturn, 1) := by decide +kernel
theorem d_L_law_894 : decode b_L_law 894 = .ok (.goto 151, 3) := by decide +kernel
theorem d_L_law_897 : decode b_L_law 897 = .ok (.aload_n 1, 1) := by decide +kernel
theorem d_L_law_898 : decode b_L_law 898 = .ok (.aload_n 0, 1) := by decide +kernel
theorem d_L_law_899 : decode b_L_law 899 = .ok (.iload 4, 2) := by decide +kernel
theorem d_L_law_901 : decode b_L_law 901 = .ok (.iconst 1, 1) := by decide +kernel
theorem d_L_law_902 : decode b_L_law 902 = .ok (.iadd, 1) := by decide +kernel
theorem d_L_law_903 : decode b_L_law 903 = .ok (.iaload, 1) := by decide +kernel
theorem d_L_law_904 : decode b_L_law 904 = .ok (.invokestatic 120, 3) := by decide +kernel
theorem d_L_law_907 : decode b_L_law 907 = .ok (.istore 5, 2) := by decide +kernel
theorem d_L_law_909 : decode b_L_law 909 = .ok (.aload_n 2, 1) := by decide +kernel
theorem d_L_law_910 : decode b_L_law 910 = .ok (.aload_n 0, 1) := by decide +kernel
theorem d_L_law_911 : decode b_L_law 911 = .ok (.iload 4, 2) := by decide +kernel
theorem d_L_law_913 : decode b_L_law 913 = .ok (.iconst 1, 1) := by decide +kernel
theorem d_L_law_914 : decode b_L_law 914 = .ok (.iadd, 1) := by decide +kernel
theorem d_L_law_915 : decode b_L_law 915 = .ok (.iaload, 1) := by decide +kernel
theorem d_L_law_916 : decode b_L_law 916 = .ok (.invokevirtual 123, 3) := by decide +kernel
theorem d_L_law_919 : decode b_L_law 919 = .ok (.aload_n 2, 1) := by decide +kernel
theorem d_L_law_920 : decode b_L_law 920 = .ok (.invokevirtual 75, 3) := by decide +kernel
theorem d_L_law_923 : decode b_L_law 923 = .ok (.iload 5, 2) := by decide +kernel
theorem d_L_law_925 : decode b_L_law 925 = .ok (.if_icmp .eq 5, 3) := by decide +kernel
theorem d_L_law_928 : decode b_L_law 928 = .ok (.iconst 0, 1) := by decide +kernel
theorem d_L_law_929 : decode b_L_law 929 = .ok (.ireturn, 1) := by decide +kernel
theorem d_L_law_930 : decode b_L_law 930 = .ok (.goto 115, 3) := by decide +kernel
theorem d_L_law_933 : decode b_L_law 933 = .ok (.aload_n 1, 1) := by decide +kernel
theorem d_L_law_934 : decode b_L_law 934 = .ok (.aload_n 0, 1) := by decide +kernel
theorem d_L_law_935 : decode b_L_law 935 = .ok (.iload 4, 2) := by decide +kernel
theorem d_L_law_937 : decode b_L_law 937 = .ok (.iconst 1, 1) := by decide +kernel
theorem d_L_law_938 : decode b_L_law 938 = .ok (.iadd, 1) := by decide +kernel
theorem d_L_law_939 : decode b_L_law 939 = .ok (.iaload, 1) := by decide +kernel
theorem d_L_law_940 : decode b_L_law 940 = .ok (.aload_n 3, 1) := by decide +kernel
theorem d_L_law_941 : decode b_L_law 941 = .ok (.invokestatic 124, 3) := by decide +kernel
theorem d_L_law_944 : decode b_L_law 944 = .ok (.istore 5, 2) := by decide +kernel
theorem d_L_law_946 : decode b_L_law 946 = .ok (.aload_n 2, 1) := by decide +kernel
theorem d_L_law_947 : decode b_L_law 947 = .ok (.aload_n 0, 1) := by decide +kernel
theorem d_L_law_948 : decode b_L_law 948 = .ok (.iload 4, 2) := by decide +kernel
theorem d_L_law_950 : decode b_L_law 950 = .ok (.iconst 1, 1) := by decide +kernel
theorem d_L_law_951 : decode b_L_law 951 = .ok (.iadd, 1) := by decide +kernel
theorem d_L_law_952 : decode b_L_law 952 = .ok (.iaload, 1) := by decide +kernel
theorem d_L_law_953 : decode b_L_law 953 = .ok (.invokevirtual 126, 3) := by decide +kernel
theorem d_L_law_956 : decode b_L_law 956 = .ok (.istore 6, 2) := by decide +kernel
theorem d_L_law_958 : decode b_L_law 958 = .ok (.aload_n 2, 1) := by decide +kernel
theorem d_L_law_959 : decode b_L_law 959 = .ok (.invokevirtual 75, 3) := by decide +kernel
theorem d_L_law_962 : decode b_L_law 962 = .ok (.iload 5, 2) := by decide +kernel
theorem d_L_law_964 : decode b_L_law 964 = .ok (.if_icmp .eq 5, 3) := by decide +kernel
theorem d_L_law_967 : decode b_L_law 967 = .ok (.iconst 0, 1) := by decide +kernel
theorem d_L_law_968 : decode b_L_law 968 = .ok (.ireturn, 1) := by decide +kernel
theorem d_L_law_969 : decode b_L_law 969 = .ok (.iload 5, 2) := by decide +kernel
theorem d_L_law_971 : decode b_L_law 971 = .ok (.ifCond .ne 15, 3) := by decide +kernel
theorem d_L_law_974 : decode b_L_law 974 = .ok (.aload_n 3, 1) := by decide +kernel
theorem d_L_law_975 : decode b_L_law 975 = .ok (.iconst 0, 1) := by decide +kernel
theorem d_L_law_976 : decode b_L_law 976 = .ok (.laload, 1) := by decide +kernel
theorem d_L_law_977 : decode b_L_law 977 = .ok (.iload 6, 2) := by decide +kernel
theorem d_L_law_979 : decode b_L_law 979 = .ok (.i2l, 1) := by decide +kernel
theorem d_L_law_980 : decode b_L_law 980 = .ok (.lcmp, 1) := by decide +kernel
theorem d_L_law_981 : decode b_L_law 981 = .ok (.ifCond .eq 5, 3) := by decide +kernel
theorem d_L_law_984 : decode b_L_law 984 = .ok (.iconst 0, 1) := by decide +kernel
theorem d_L_law_985 : decode b_L_law 985 = .ok (.ireturn, 1) := by decide +kernel
theorem d_L_law_986 : decode b_L_law 986 = .ok (.goto 59, 3) := by decide +kernel
theorem d_L_law_989 : decode b_L_law 989 = .ok (.aload_n 1, 1) := by decide +kernel
theorem d_L_law_990 : decode b_L_law 990 = .ok (.aload_n 0, 1) := by decide +kernel
theorem d_L_law_991 : decode b_L_law 991 = .ok (.iload 4, 2) := by decide +kernel
theorem d_L_law_993 : decode b_L_law 993 = .ok (.iconst 1, 1) := by decide +kernel
theorem d_L_law_994 : decode b_L_law 994 = .ok (.iadd, 1) := by decide +kernel
theorem d_L_law_995 : decode b_L_law 995 = .ok (.iaload, 1) := by decide +kernel
theorem d_L_law_996 : decode b_L_law 996 = .ok (.aload_n 3, 1) := by decide +kernel
theorem d_L_law_997 : decode b_L_law 997 = .ok (.invokestatic 127, 3) := by decide +kernel
theorem d_L_law_1000 : decode b_L_law 1000 = .ok (.istore 5, 2) := by decide +kernel
theorem d_L_law_1002 : decode b_L_law 1002 = .ok (.aload_n 2, 1) := by decide +kernel
theorem d_L_law_1003 : decode b_L_law 1003 = .ok (.aload_n 0, 1) := by decide +kernel
theorem d_L_law_1004 : decode b_L_law 1004 = .ok (.iload 4, 2) := by decide +kernel
theorem d_L_law_1006 : decode b_L_law 1006 = .ok (.iconst 1, 1) := by decide +kernel
theorem d_L_law_1007 : decode b_L_law 1007 = .ok (.iadd, 1) := by decide +kernel
theorem d_L_law_1008 : decode b_L_law 1008 = .ok (.iaload, 1) := by decide +kernel
theorem d_L_law_1009 : decode b_L_law 1009 = .ok (.invokevirtual 129, 3) := by decide +kernel
theorem d_L_law_1012 : decode b_L_law 1012 = .ok (.istore 6, 2) := by decide +kernel
theorem d_L_law_1014 : decode b_L_law 1014 = .ok (.aload_n 2, 1) := by decide +kernel
theorem d_L_law_1015 : decode b_L_law 1015 = .ok (.invokevirtual 75, 3) := by decide +kernel
theorem d_L_law_1018 : decode b_L_law 1018 = .ok (.iload 5, 2) := by decide +kernel
theorem d_L_law_1020 : decode b_L_law 1020 = .ok (.if_icmp .eq 5, 3) := by decide +kernel
theorem d_L_law_1023 : decode b_L_law 1023 = .ok (.iconst 0, 1) := by decide +kernel
theorem d_L_law_1024 : decode b_L_law 1024 = .ok (.ireturn, 1) := by decide +kernel
theorem d_L_law_1025 : decode b_L_law 1025 = .ok (.iload 5, 2) := by decide +kernel
theorem d_L_law_1027 : decode b_L_law 1027 = .ok (.ifCond .ne 15, 3) := by decide +kernel
theorem d_L_law_1030 : decode b_L_law 1030 = .ok (.aload_n 3, 1) := by decide +kernel
theorem d_L_law_1031 : decode b_L_law 1031 = .ok (.iconst 0, 1) := by decide +kernel
theorem d_L_law_1032 : decode b_L_law 1032 = .ok (.laload, 1) := by decide +kernel
theorem d_L_law_1033 : decode b_L_law 1033 = .ok (.iload 6, 2) := by decide +kernel
theorem d_L_law_1035 : decode b_L_law 1035 = .ok (.i2l, 1) := by decide +kernel
theorem d_L_law_1036 : decode b_L_law 1036 = .ok (.lcmp, 1) := by decide +kernel
theorem d_L_law_1037 : decode b_L_law 1037 = .ok (.ifCond .eq 5, 3) := by decide +kernel
theorem d_L_law_1040 : decode b_L_law 1040 = .ok (.iconst 0, 1) := by decide +kernel
theorem d_L_law_1041 : decode b_L_law 1041 = .ok (.ireturn, 1) := by decide +kernel
theorem d_L_law_1042 : decode b_L_law 1042 = .ok (.goto 3, 3) := by decide +kernel
theorem d_L_law_1045 : decode b_L_law 1045 = .ok (.iinc 4 5, 3) := by decide +kernel
theorem d_L_law_1048 : decode b_L_law 1048 = .ok (.goto (-1025), 3) := by decide +kernel
theorem d_L_law_1051 : decode b_L_law 1051 = .ok (.iconst 1, 1) := by decide +kernel
theorem d_L_law_1052 : decode b_L_law 1052 = .ok (.ireturn, 1) := by decide +kernel
