theorem d_D_several_0 : decode b_D_several 0 = .ok (.aload_n 0, 1) := by decide +kernel
theorem d_D_several_1 : decode b_D_several 1 = .ok (.iload_n 1, 1) := by decide +kernel
theorem d_D_several_2 : decode b_D_several 2 = .ok (.invokevirtual 77, 3) := by decide +kernel
theorem d_D_several_5 : decode b_D_several 5 = .ok (.istore_n 2, 1) := by decide +kernel
theorem d_D_several_6 : decode b_D_several 6 = .ok (.aload_n 0, 1) := by decide +kernel
theorem d_D_several_7 : decode b_D_several 7 = .ok (.iload_n 2, 1) := by decide +kernel
theorem d_D_several_8 : decode b_D_several 8 = .ok (.iload_n 2, 1) := by decide +kernel
theorem d_D_several_9 : decode b_D_several 9 = .ok (.ifCond .eq 24, 3) := by decide +kernel
theorem d_D_several_12 : decode b_D_several 12 = .ok (.aload_n 0, 1) := by decide +kernel
theorem d_D_several_13 : decode b_D_several 13 = .ok (.getfield 26, 3) := by decide +kernel
theorem d_D_several_16 : decode b_D_several 16 = .ok (.iload_n 1, 1) := by decide +kernel
theorem d_D_several_17 : decode b_D_several 17 = .ok (.baload, 1) := by decide +kernel
theorem d_D_several_18 : decode b_D_several 18 = .ok (.ifCond .ne 15, 3) := by decide +kernel
theorem d_D_several_21 : decode b_D_several 21 = .ok (.aload_n 0, 1) := by decide +kernel
theorem d_D_several_22 : decode b_D_several 22 = .ok (.iload_n 1, 1) := by decide +kernel
theorem d_D_several_23 : decode b_D_several 23 = .ok (.invokevirtual 99, 3) := by decide +kernel
theorem d_D_several_26 : decode b_D_several 26 = .ok (.ifCond .ge 7, 3) := by decide +kernel
theorem d_D_several_29 : decode b_D_several 29 = .ok (.iconst 1, 1) := by decide +kernel
theorem d_D_several_30 : decode b_D_several 30 = .ok (.goto 4, 3) := by decide +kernel
theorem d_D_several_33 : decode b_D_several 33 = .ok (.iconst 0, 1) := by decide +kernel
theorem d_D_several_34 : decode b_D_several 34 = .ok (.iconst 1, 1) := by decide +kernel
theorem d_D_several_35 : decode b_D_several 35 = .ok (.iconst 1, 1) := by decide +kernel
theorem d_D_several_36 : decode b_D_several 36 = .ok (.invokevirtual 66, 3) := by decide +kernel
theorem d_D_several_39 : decode b_D_several 39 = .ok (.ifCond .ne 5, 3) := by decide +kernel
theorem d_D_several_42 : decode b_D_several 42 = .ok (.iconst 0, 1) := by decide +kernel
theorem d_D_several_43 : decode b_D_several 43 = .ok (.ireturn, 1) := by decide +kernel
theorem d_D_several_44 : decode b_D_several 44 = .ok (.iconst 0, 1) := by decide +kernel
theorem d_D_several_45 : decode b_D_several 45 = .ok (.istore_n 3, 1) := by decide +kernel
theorem d_D_several_46 : decode b_D_several 46 = .ok (.iconst 0, 1) := by decide +kernel
theorem d_D_several_47 : decode b_D_several 47 = .ok (.istore 4, 2) := by decide +kernel
theorem d_D_several_49 : decode b_D_several 49 = .ok (.iconst 0, 1) := by decide +kernel
theorem d_D_several_50 : decode b_D_several 50 = .ok (.istore 5, 2) := by decide +kernel
theorem d_D_several_52 : decode b_D_several 52 = .ok (.iconst 1, 1) := by decide +kernel
theorem d_D_several_53 : decode b_D_several 53 = .ok (.istore 6, 2) := by decide +kernel
theorem d_D_several_55 : decode b_D_several 55 = .ok (.iload 6, 2) := by decide +kernel
theorem d_D_several_57 : decode b_D_several 57 = .ok (.sipush 1024, 3) := by decide +kernel
theorem d_D_several_60 : decode b_D_several 60 = .ok (.if_icmp .ge 170, 3) := by decide +kernel
theorem d_D_several_63 : decode b_D_several 63 = .ok (.iconst 0, 1) := by decide +kernel
theorem d_D_several_64 : decode b_D_several 64 = .ok (.istore 7, 2) := by decide +kernel
theorem d_D_several_66 : decode b_D_several 66 = .ok (.iconst 0, 1) := by decide +kernel
theorem d_D_several_67 : decode b_D_several 67 = .ok (.istore 8, 2) := by decide +kernel
theorem d_D_several_69 : decode b_D_several 69 = .ok (.iconst 0, 1) := by decide +kernel
theorem d_D_several_70 : decode b_D_several 70 = .ok (.istore 9, 2) := by decide +kernel
theorem d_D_several_72 : decode b_D_several 72 = .ok (.iconst 1, 1) := by decide +kernel
theorem d_D_several_73 : decode b_D_several 73 = .ok (.istore 10, 2) := by decide +kernel
theorem d_D_several_75 : decode b_D_several 75 = .ok (.iconst 0, 1) := by decide +kernel
theorem d_D_several_76 : decode b_D_several 76 = .ok (.istore 11, 2) := by decide +kernel
theorem d_D_several_78 : decode b_D_several 78 = .ok (.iload 11, 2) := by decide +kernel
theorem d_D_several_80 : decode b_D_several 80 = .ok (.bipush 10, 2) := by decide +kernel
theorem d_D_several_82 : decode b_D_several 82 = .ok (.if_icmp .ge 78, 3) := by decide +kernel
theorem d_D_several_85 : decode b_D_several 85 = .ok (.iload 6, 2) := by decide +kernel
theorem d_D_several_87 : decode b_D_several 87 = .ok (.iload 11, 2) := by decide +kernel
theorem d_D_several_89 : decode b_D_several 89 = .ok (.ishr, 1) := by decide +kernel
theorem d_D_several_90 : decode b_D_several 90 = .ok (.iconst 1, 1) := by decide +kernel
theorem d_D_several_91 : decode b_D_several 91 = .ok (.iand, 1) := by decide +kernel
theorem d_D_several_92 : decode b_D_several 92 = .ok (.ifCond .ne 6, 3) := by decide +kernel
theorem d_D_several_95 : decode b_D_several 95 = .ok (.goto 59, 3) := by decide +kernel
theorem d_D_several_98 : decode b_D_several 98 = .ok (.iload 11, 2) := by decide +kernel
theorem d_D_several_100 : decode b_D_several 100 = .ok (.aload_n 0, 1) := by decide +kernel
theorem d_D_several_101 : decode b_D_several 101 = .ok (.getfield 59, 3) := by decide +kernel
theorem d_D_several_104 : decode b_D_several 104 = .ok (.if_icmp .ge 13, 3) := by decide +kernel
theorem d_D_several_107 : decode b_D_several 107 = .ok (.aload_n 0, 1) := by decide +kernel
theorem d_D_several_108 : decode b_D_several 108 = .ok (.iload_n 1, 1) := by decide +kernel
theorem d_D_several_109 : decode b_D_several 109 = .ok (.iload 11, 2) := by decide +kernel
theorem d_D_several_111 : decode b_D_several 111 = .ok (.invokevirtual 106, 3) := by decide +kernel
theorem d_D_several_114 : decode b_D_several 114 = .ok (.ifCond .ne 9, 3) := by decide +kernel
theorem d_D_several_117 : decode b_D_several 117 = .ok (.iconst 0, 1) := by decide +kernel
theorem d_D_several_118 : decode b_D_several 118 = .ok (.istore 10, 2) := by decide +kernel
theorem d_D_several_120 : decode b_D_several 120 = .ok (.goto 34, 3) := by decide +kernel
theorem d_D_several_123 : decode b_D_several 123 = .ok (.iinc 7 1, 3) := by decide +kernel
theorem d_D_several_126 : decode b_D_several 126 = .ok (.iload 8, 2) := by decide +kernel
theorem d_D_several_128 : decode b_D_several 128 = .ok (.aload_n 0, 1) := by decide +kernel
theorem d_D_several_129 : decode b_D_several 129 = .ok (.getfield 17, 3) := by decide +kernel
theorem d_D_several_132 : decode b_D_several 132 = .ok (.iconst 4, 1) := by decide +kernel
theorem d_D_several_133 : decode b_D_several 133 = .ok (.iload 11, 2) := by decide +kernel
theorem d_D_several_135 : decode b_D_several 135 = .ok (.imul, 1) := by decide +kernel
theorem d_D_several_136 : decode b_D_several 136 = .ok (.iconst 2, 1) := by decide +kernel
theorem d_D_several_137 : decode b_D_several 137 = .ok (.iadd, 1) := by decide +kernel
theorem d_D_several_138 : decode b_D_several 138 = .ok (.iaload, 1) := by decide +kernel
theorem d_D_several_139 : decode b_D_several 139 = .ok (.iadd, 1) := by decide +kernel
theorem d_D_several_140 : decode b_D_several 140 = .ok (.istore 8, 2) := by decide +kernel
theorem d_D_several_142 : decode b_D_several 142 = .ok (.iload 9, 2) := by decide +kernel
theorem d_D_several_144 : decode b_D_several 144 = .ok (.aload_n 0, 1) := by decide +kernel
theorem d_D_several_145 : decode b_D_several 145 = .ok (.iload_n 1, 1) := by decide +kernel
theorem d_D_several_146 : decode b_D_several 146 = .ok (.iload 11, 2) := by decide +kernel
theorem d_D_several_148 : decode b_D_several 148 = .ok (.invokevirtual 95, 3) := by decide +kernel
theorem d_D_several_151 : decode b_D_several 151 = .ok (.iadd, 1) := by decide +kernel
theorem d_D_several_152 : decode b_D_several 152 = .ok (.istore 9, 2) := by decide +kernel
theorem d_D_several_154 : decode b_D_several 154 = .ok (.iinc 11 1, 3) := by decide +kernel
theorem d_D_several_157 : decode b_D_several 157 = .ok (.goto (-79), 3) := by decide +kernel
theorem d_D_several_160 : decode b_D_several 160 = .ok (.iload 10, 2) := by decide +kernel
theorem d_D_several_162 : decode b_D_several 162 = .ok (.ifCond .eq 62, 3) := by decide +kernel
theorem d_D_several_165 : decode b_D_several 165 = .ok (.iload 7, 2) := by decide +kernel
theorem d_D_several_167 : decode b_D_several 167 = .ok (.iconst 5, 1) := by decide +kernel
theorem d_D_several_168 : decode b_D_several 168 = .ok (.if_icmp .gt 56, 3) := by decide +kernel
theorem d_D_several_171 : decode b_D_several 171 = .ok (.iload 8, 2) := by decide +kernel
theorem d_D_several_173 : decode b_D_several 173 = .ok (.aload_n 0, 1) := by decide +kernel
theorem d_D_several_174 : decode b_D_several 174 = .ok (.getfield 13, 3) := by decide +kernel
theorem d_D_several_177 : decode b_D_several 177 = .ok (.iconst 4, 1) := by decide +kernel
theorem d_D_several_178 : decode b_D_several 178 = .ok (.iload_n 1, 1) := by decide +kernel
theorem d_D_several_179 : decode b_D_several 179 = .ok (.imul, 1) := by decide +kernel
theorem d_D_several_180 : decode b_D_several 180 = .ok (.iconst 2, 1) := by decide +kernel
theorem d_D_several_181 : decode b_D_several 181 = .ok (.iadd, 1) := by decide +kernel
theorem d_D_several_182 : decode b_D_several 182 = .ok (.iaload, 1) := by decide +kernel
theorem d_D_several_183 : decode b_D_several 183 = .ok (.if_icmp .le 6, 3) := by decide +kernel
theorem d_D_several_186 : decode b_D_several 186 = .ok (.goto 38, 3) := by decide +kernel
theorem d_D_several_189 : decode b_D_several 189 = .ok (.iload 7, 2) := by decide +kernel
theorem d_D_several_191 : decode b_D_several 191 = .ok (.iload 4, 2) := by decide +kernel
theorem d_D_several_193 : decode b_D_several 193 = .ok (.if_icmp .lt 31, 3) := by decide +kernel
theorem d_D_several_196 : decode b_D_several 196 = .ok (.iload 7, 2) := by decide +kernel
theorem d_D_several_198 : decode b_D_several 198 = .ok (.iload 4, 2) := by decide +kernel
theorem d_D_several_200 : decode b_D_several 200 = .ok (.if_icmp .ne 13, 3) := by decide +kernel
theorem d_D_several_203 : decode b_D_several 203 = .ok (.iload 9, 2) := by decide +kernel
theorem d_D_several_205 : decode b_D_several 205 = .ok (.iload 5, 2) := by decide +kernel
theorem d_D_several_207 : decode b_D_several 207 = .ok (.if_icmp .gt 6, 3) := by decide +kernel
theorem d_D_several_210 : decode b_D_several 210 = .ok (.goto 14, 3) := by decide +kernel
theorem d_D_several_213 : decode b_D_several 213 = .ok (.iload 6, 2) := by decide +kernel
theorem d_D_several_215 : decode b_D_several 215 = .ok (.istore_n 3, 1) := by decide +kernel
theorem d_D_several_216 : decode b_D_several 216 = .ok (.iload 7, 2) := by decide +kernel
theorem d_D_several_218 : decode b_D_several 218 = .ok (.istore 4, 2) := by decide +kernel
theorem d_D_several_220 : decode b_D_several 220 = .ok (.iload 9, 2) := by decide +kernel
theorem d_D_several_222 : decode b_D_several 222 = .ok (.istore 5, 2) := by decide +kernel
theorem d_D_several_224 : decode b_D_several 224 = .ok (.iinc 6 1, 3) := by decide +kernel
theorem d_D_several_227 : decode b_D_several 227 = .ok (.goto (-172), 3) := by decide +kernel
theorem d_D_several_230 : decode b_D_several 230 = .ok (.iload_n 3, 1) := by decide +kernel
theorem d_D_several_231 : decode b_D_several 231 = .ok (.ifCond .ne 5, 3) := by decide +kernel
theorem d_D_several_234 : decode b_D_several 234 = .ok (.iconst 0, 1) := by decide +kernel
theorem d_D_several_235 : decode b_D_several 235 = .ok (.ireturn, 1) := by decide +kernel
theorem d_D_several_236 : decode b_D_several 236 = .ok (.aload_n 0, 1) := by decide +kernel
theorem d_D_several_237 : decode b_D_several 237 = .ok (.getfield 26, 3) := by decide +kernel
theorem d_D_several_240 : decode b_D_several 240 = .ok (.iload_n 1, 1) := by decide +kernel
theorem d_D_several_241 : decode b_D_several 241 = .ok (.iconst 1, 1) := by decide +kernel
theorem d_D_several_242 : decode b_D_several 242 = .ok (.bastore, 1) := by decide +kernel
theorem d_D_several_243 : decode b_D_several 243 = .ok (.iconst 0, 1) := by decide +kernel
theorem d_D_several_244 : decode b_D_several 244 = .ok (.istore 6, 2) := by decide +kernel
theorem d_D_several_246 : decode b_D_several 246 = .ok (.iload 6, 2) := by decide +kernel
theorem d_D_several_248 : decode b_D_several 248 = .ok (.aload_n 0, 1) := by decide +kernel
theorem d_D_several_249 : decode b_D_several 249 = .ok (.getfield 59, 3) := by decide +kernel
theorem d_D_several_252 : decode b_D_several 252 = .ok (.if_icmp .ge 27, 3) := by decide +kernel
theorem d_D_several_255 : decode b_D_several 255 = .ok (.iload_n 3, 1) := by decide +kernel
theorem d_D_several_256 : decode b_D_several 256 = .ok (.iload 6, 2) := by decide +kernel
theorem d_D_several_258 : decode b_D_several 258 = .ok (.ishr, 1) := by decide +kernel
theorem d_D_several_259 : decode b_D_several 259 = .ok (.iconst 1, 1) := by decide +kernel
theorem d_D_several_260 : decode b_D_several 260 = .ok (.iand, 1) := by decide +kernel
theorem d_D_several_261 : decode b_D_several 261 = .ok (.iconst 1, 1) := by decide +kernel
theorem d_D_several_262 : decode b_D_several 262 = .ok (.if_icmp .ne 11, 3) := by decide +kernel
theorem d_D_several_265 : decode b_D_several 265 = .ok (.aload_n 0, 1) := by decide +kernel
theorem d_D_several_266 : decode b_D_several 266 = .ok (.getfield 30, 3) := by decide +kernel
theorem d_D_several_269 : decode b_D_several 269 = .ok (.iload 6, 2) := by decide +kernel
theorem d_D_several_271 : decode b_D_several 271 = .ok (.iload_n 1, 1) := by decide +kernel
theorem d_D_several_272 : decode b_D_several 272 = .ok (.iastore, 1) := by decide +kernel
theorem d_D_several_273 : decode b_D_several 273 = .ok (.iinc 6 1, 3) := by decide +kernel
theorem d_D_several_276 : decode b_D_several 276 = .ok (.goto (-30), 3) := by decide +kernel
theorem d_D_several_279 : decode b_D_several 279 = .ok (.iload 4, 2) := by decide +kernel
theorem d_D_several_281 : decode b_D_several 281 = .ok (.ireturn, 1) := by decide +kernel
theorem d_D_orderOf_0 : decode b_D_orderOf 0 = .ok (.aload_n 0, 1) := by decide +kernel
theorem d_D_orderOf_1 : decode b_D_orderOf 1 = .ok (.aload_n 0, 1) := by decide +kernel
theorem d_D_orderOf_2 : decode b_D_orderOf 2 = .ok (.iload_n 1, 1) := by decide +kernel
theorem d_D_orderOf_3 : decode b_D_orderOf 3 = .ok (.invokevirtual 77, 3) := by decide +kernel
theorem d_D_orderOf_6 : decode b_D_orderOf 6 = .ok (.ifCond .eq 11, 3) := by decide +kernel
theorem d_D_orderOf_9 : decode b_D_orderOf 9 = .ok (.iload_n 2, 1) := by decide +kernel
theorem d_D_orderOf_10 : decode b_D_orderOf 10 = .ok (.ifCond .lt 7, 3) := by decide +kernel
theorem d_D_orderOf_13 : decode b_D_orderOf 13 = .ok (.iconst 1, 1) := by decide +kernel
theorem d_D_orderOf_14 : decode b_D_orderOf 14 = .ok (.goto 4, 3) := by decide +kernel
theorem d_D_orderOf_17 : decode b_D_orderOf 17 = .ok (.iconst 0, 1) := by decide +kernel
theorem d_D_orderOf_18 : decode b_D_orderOf 18 = .ok (.iconst 1, 1) := by decide +kernel
theorem d_D_orderOf_19 : decode b_D_orderOf 19 = .ok (.iconst 1, 1) := by decide +kernel
theorem d_D_orderOf_20 : decode b_D_orderOf 20 = .ok (.iconst 1, 1) := by decide +kernel
theorem d_D_orderOf_21 : decode b_D_orderOf 21 = .ok (.invokevirtual 66, 3) := by decide +kernel
theorem d_D_orderOf_24 : decode b_D_orderOf 24 = .ok (.ifCond .ne 5, 3) := by decide +kernel
theorem d_D_orderOf_27 : decode b_D_orderOf 27 = .ok (.iconst 0, 1) := by decide +kernel
theorem d_D_orderOf_28 : decode b_D_orderOf 28 = .ok (.ireturn, 1) := by decide +kernel
theorem d_D_orderOf_29 : decode b_D_orderOf 29 = .ok (.iload_n 2, 1) := by decide +kernel
theorem d_D_orderOf_30 : decode b_D_orderOf 30 = .ok (.istore_n 3, 1) := by decide +kernel
theorem d_D_orderOf_31 : decode b_D_orderOf 31 = .ok (.iconst 0, 1) := by decide +kernel
theorem d_D_orderOf_32 : decode b_D_orderOf 32 = .ok (.istore 4, 2) := by decide +kernel
theorem d_D_orderOf_34 : decode b_D_orderOf 34 = .ok (.iload 4, 2) := by decide +kernel
theorem d_D_orderOf_36 : decode b_D_orderOf 36 = .ok (.aload_n 0, 1) := by decide +kernel
theorem d_D_orderOf_37 : decode b_D_orderOf 37 = .ok (.getfield 59, 3) := by decide +kernel
theorem d_D_orderOf_40 : decode b_D_orderOf 40 = .ok (.if_icmp .ge 33, 3) := by decide +kernel
theorem d_D_orderOf_43 : decode b_D_orderOf 43 = .ok (.aload_n 0, 1) := by decide +kernel
theorem d_D_orderOf_44 : decode b_D_orderOf 44 = .ok (.getfield 30, 3) := by decide +kernel
theorem d_D_orderOf_47 : decode b_D_orderOf 47 = .ok (.iload 4, 2) := by decide +kernel
theorem d_D_orderOf_49 : decode b_D_orderOf 49 = .ok (.iaload, 1) := by decide +kernel
theorem d_D_orderOf_50 : decode b_D_orderOf 50 = .ok (.iload_n 1, 1) := by decide +kernel
theorem d_D_orderOf_51 : decode b_D_orderOf 51 = .ok (.if_icmp .eq 6, 3) := by decide +kernel
theorem d_D_orderOf_54 : decode b_D_orderOf 54 = .ok (.goto 13, 3) := by decide +kernel
theorem d_D_orderOf_57 : decode b_D_orderOf 57 = .ok (.iload_n 3, 1) := by decide +kernel
theorem d_D_orderOf_58 : decode b_D_orderOf 58 = .ok (.ifCond .ne 6, 3) := by decide +kernel
theorem d_D_orderOf_61 : decode b_D_orderOf 61 = .ok (.iload 4, 2) := by decide +kernel
theorem d_D_orderOf_63 : decode b_D_orderOf 63 = .ok (.ireturn, 1) := by decide +kernel
theorem d_D_orderOf_64 : decode b_D_orderOf 64 = .ok (.iinc 3 (-1), 3) := by decide +kernel
theorem d_D_orderOf_67 : decode b_D_orderOf 67 = .ok (.iinc 4 1, 3) := by decide +kernel
theorem d_D_orderOf_70 : decode b_D_orderOf 70 = .ok (.goto (-36), 3) := by decide +kernel
theorem d_D_orderOf_73 : decode b_D_orderOf 73 = .ok (.iconst (-1), 1) := by decide +kernel
theorem d_D_orderOf_74 : decode b_D_orderOf 74 = .ok (.ireturn, 1) := by decide +kernel
theorem d_D_reserve_0 : decode b_D_reserve 0 = .ok (.aload_n 0, 1) := by decide +kernel
theorem d_D_reserve_1 : decode b_D_reserve 1 = .ok (.iload_n 1, 1) := by decide +kernel
theorem d_D_reserve_2 : decode b_D_reserve 2 = .ok (.invokevirtual 77, 3) := by decide +kernel
theorem d_D_reserve_5 : decode b_D_reserve 5 = .ok (.ifCond .eq 15, 3) := by decide +kernel
theorem d_D_reserve_8 : decode b_D_reserve 8 = .ok (.aload_n 0, 1) := by decide +kernel
theorem d_D_reserve_9 : decode b_D_reserve 9 = .ok (.iload_n 2, 1) := by decide +kernel
theorem d_D_reserve_10 : decode b_D_reserve 10 = .ok (.invokevirtual 81, 3) := by decide +kernel
theorem d_D_reserve_13 : decode b_D_reserve 13 = .ok (.ifCond .eq 7, 3) := by decide +kernel
theorem d_D_reserve_16 : decode b_D_reserve 16 = .ok (.iconst 1, 1) := by decide +kernel
theorem d_D_reserve_17 : decode b_D_reserve 17 = .ok (.goto 4, 3) := by decide +kernel
theorem d_D_reserve_20 : decode b_D_reserve 20 = .ok (.iconst 0, 1) := by decide +kernel
theorem d_D_reserve_21 : decode b_D_reserve 21 = .ok (.istore 4, 2) := by decide +kernel
theorem d_D_reserve_23 : decode b_D_reserve 23 = .ok (.iload 4, 2) := by decide +kernel
theorem d_D_reserve_25 : decode b_D_reserve 25 = .ok (.ifCond .eq 41, 3) := by decide +kernel
theorem d_D_reserve_28 : decode b_D_reserve 28 = .ok (.aload_n 0, 1) := by decide +kernel
theorem d_D_reserve_29 : decode b_D_reserve 29 = .ok (.getfield 26, 3) := by decide +kernel
theorem d_D_reserve_32 : decode b_D_reserve 32 = .ok (.iload_n 1, 1) := by decide +kernel
theorem d_D_reserve_33 : decode b_D_reserve 33 = .ok (.baload, 1) := by decide +kernel
theorem d_D_reserve_34 : decode b_D_reserve 34 = .ok (.ifCond .ne 32, 3) := by decide +kernel
theorem d_D_reserve_37 : decode b_D_reserve 37 = .ok (.aload_n 0, 1) := by decide +kernel
theorem d_D_reserve_38 : decode b_D_reserve 38 = .ok (.getfield 30, 3) := by decide +kernel
theorem d_D_reserve_41 : decode b_D_reserve 41 = .ok (.iload_n 2, 1) := by decide +kernel
theorem d_D_reserve_42 : decode b_D_reserve 42 = .ok (.iaload, 1) := by decide +kernel
theorem d_D_reserve_43 : decode b_D_reserve 43 = .ok (.ifCond .ge 23, 3) := by decide +kernel
theorem d_D_reserve_46 : decode b_D_reserve 46 = .ok (.aload_n 0, 1) := by decide +kernel
theorem d_D_reserve_47 : decode b_D_reserve 47 = .ok (.iload_n 1, 1) := by decide +kernel
theorem d_D_reserve_48 : decode b_D_reserve 48 = .ok (.invokevirtual 99, 3) := by decide +kernel
theorem d_D_reserve_51 : decode b_D_reserve 51 = .ok (.ifCond .ge 15, 3) := by decide +kernel
theorem d_D_reserve_54 : decode b_D_reserve 54 = .ok (.aload_n 0, 1) := by decide +kernel
theorem d_D_reserve_55 : decode b_D_reserve 55 = .ok (.iload_n 2, 1) := by decide +kernel
theorem d_D_reserve_56 : decode b_D_reserve 56 = .ok (.invokevirtual 103, 3) := by decide +kernel
theorem d_D_reserve_59 : decode b_D_reserve 59 = .ok (.ifCond .ge 7, 3) := by decide +kernel
theorem d_D_reserve_62 : decode b_D_reserve 62 = .ok (.iconst 1, 1) := by decide +kernel
theorem d_D_reserve_63 : decode b_D_reserve 63 = .ok (.goto 4, 3) := by decide +kernel
theorem d_D_reserve_66 : decode b_D_reserve 66 = .ok (.iconst 0, 1) := by decide +kernel
theorem d_D_reserve_67 : decode b_D_reserve 67 = .ok (.istore 5, 2) := by decide +kernel
theorem d_D_reserve_69 : decode b_D_reserve 69 = .ok (.aload_n 0, 1) := by decide +kernel
theorem d_D_reserve_70 : decode b_D_reserve 70 = .ok (.iload 4, 2) := by decide +kernel
theorem d_D_reserve_72 : decode b_D_reserve 72 = .ok (.iload 5, 2) := by decide +kernel
theorem d_D_reserve_74 : decode b_D_reserve 74 = .ok (.iload_n 3, 1) := by decide +kernel
theorem d_D_reserve_75 : decode b_D_reserve 75 = .ok (.aload_n 0, 1) := by decide +kernel
theorem d_D_reserve_76 : decode b_D_reserve 76 = .ok (.getfield 70, 3) := by decide +kernel
theorem d_D_reserve_79 : decode b_D_reserve 79 = .ok (.sipush 9999, 3) := by decide +kernel
theorem d_D_reserve_82 : decode b_D_reserve 82 = .ok (.invokestatic 55, 3) := by decide +kernel
theorem d_D_reserve_85 : decode b_D_reserve 85 = .ok (.iload 4, 2) := by decide +kernel
theorem d_D_reserve_87 : decode b_D_reserve 87 = .ok (.ifCond .eq 16, 3) := by decide +kernel
theorem d_D_reserve_90 : decode b_D_reserve 90 = .ok (.aload_n 0, 1) := by decide +kernel
theorem d_D_reserve_91 : decode b_D_reserve 91 = .ok (.iload_n 1, 1) := by decide +kernel
theorem d_D_reserve_92 : decode b_D_reserve 92 = .ok (.iload_n 2, 1) := by decide +kernel
theorem d_D_reserve_93 : decode b_D_reserve 93 = .ok (.invokevirtual 85, 3) := by decide +kernel
theorem d_D_reserve_96 : decode b_D_reserve 96 = .ok (.ifCond .eq 7, 3) := by decide +kernel
theorem d_D_reserve_99 : decode b_D_reserve 99 = .ok (.iconst 1, 1) := by decide +kernel
theorem d_D_reserve_100 : decode b_D_reserve 100 = .ok (.goto 4, 3) := by decide +kernel
theorem d_D_reserve_103 : decode b_D_reserve 103 = .ok (.iconst 0, 1) := by decide +kernel
theorem d_D_reserve_104 : decode b_D_reserve 104 = .ok (.invokevirtual 66, 3) := by decide +kernel
theorem d_D_reserve_107 : decode b_D_reserve 107 = .ok (.ifCond .ne 4, 3) := by decide +kernel
theorem d_D_reserve_110 : decode b_D_reserve 110 = .ok (.return_, 1) := by decide +kernel
theorem d_D_reserve_111 : decode b_D_reserve 111 = .ok (.aload_n 0, 1) := by decide +kernel
theorem d_D_reserve_112 : decode b_D_reserve 112 = .ok (.getfield 33, 3) := by decide +kernel
theorem d_D_reserve_115 : decode b_D_reserve 115 = .ok (.iload_n 1, 1) := by decide +kernel
theorem d_D_reserve_116 : decode b_D_reserve 116 = .ok (.iload_n 2, 1) := by decide +kernel
theorem d_D_reserve_117 : decode b_D_reserve 117 = .ok (.iastore, 1) := by decide +kernel
theorem d_D_reserve_118 : decode b_D_reserve 118 = .ok (.aload_n 0, 1) := by decide +kernel
theorem d_D_reserve_119 : decode b_D_reserve 119 = .ok (.getfield 36, 3) := by decide +kernel
theorem d_D_reserve_122 : decode b_D_reserve 122 = .ok (.iload_n 1, 1) := by decide +kernel
theorem d_D_reserve_123 : decode b_D_reserve 123 = .ok (.iload_n 3, 1) := by decide +kernel
theorem d_D_reserve_124 : decode b_D_reserve 124 = .ok (.iastore, 1) := by decide +kernel
theorem d_D_reserve_125 : decode b_D_reserve 125 = .ok (.return_, 1) := by decide +kernel
theorem d_D_reserved_0 : decode b_D_reserved 0 = .ok (.aload_n 0, 1) := by decide +kernel
theorem d_D_reserved_1 : decode b_D_reserved 1 = .ok (.aload_n 0, 1) := by decide +kernel
theorem d_D_reserved_2 : decode b_D_reserved 2 = .ok (.iload_n 1, 1) := by decide +kernel
theorem d_D_reserved_3 : decode b_D_reserved 3 = .ok (.invokevirtual 77, 3) := by decide +kernel
theorem d_D_reserved_6 : decode b_D_reserved 6 = .ok (.iconst 1, 1) := by decide +kernel
theorem d_D_reserved_7 : decode b_D_reserved 7 = .ok (.iconst 1, 1) := by decide +kernel
theorem d_D_reserved_8 : decode b_D_reserved 8 = .ok (.iconst 1, 1) := by decide +kernel
theorem d_D_reserved_9 : decode b_D_reserved 9 = .ok (.invokevirtual 66, 3) := by decide +kernel
theorem d_D_reserved_12 : decode b_D_reserved 12 = .ok (.ifCond .ne 5, 3) := by decide +kernel
theorem d_D_reserved_15 : decode b_D_reserved 15 = .ok (.iconst 0, 1) := by decide +kernel
theorem d_D_reserved_16 : decode b_D_reserved 16 = .ok (.ireturn, 1) := by decide +kernel
theorem d_D_reserved_17 : decode b_D_reserved 17 = .ok (.aload_n 0, 1) := by decide +kernel
theorem d_D_reserved_18 : decode b_D_reserved 18 = .ok (.iload_n 1, 1) := by decide +kernel
theorem d_D_reserved_19 : decode b_D_reserved 19 = .ok (.invokevirtual 99, 3) := by decide +kernel
theorem d_D_reserved_22 : decode b_D_reserved 22 = .ok (.ireturn, 1) := by decide +kernel
theorem d_D_undo_0 : decode b_D_undo 0 = .ok (.aload_n 0, 1) := by decide +kernel
theorem d_D_undo_1 : decode b_D_undo 1 = .ok (.aload_n 0, 1) := by decide +kernel
theorem d_D_undo_2 : decode b_D_undo 2 = .ok (.iload_n 1, 1) := by decide +kernel
theorem d_D_undo_3 : decode b_D_undo 3 = .ok (.invokevirtual 77, 3) := by decide +kernel
theorem d_D_undo_6 : decode b_D_undo 6 = .ok (.aload_n 0, 1) := by decide +kernel
theorem d_D_undo_7 : decode b_D_undo 7 = .ok (.iload_n 1, 1) := by decide +kernel
theorem d_D_undo_8 : decode b_D_undo 8 = .ok (.invokevirtual 77, 3) := by decide +kernel
theorem d_D_undo_11 : decode b_D_undo 11 = .ok (.ifCond .eq 16, 3) := by decide +kernel
theorem d_D_undo_14 : decode b_D_undo 14 = .ok (.aload_n 0, 1) := by decide +kernel
theorem d_D_undo_15 : decode b_D_undo 15 = .ok (.getfield 26, 3) := by decide +kernel
theorem d_D_undo_18 : decode b_D_undo 18 = .ok (.iload_n 1, 1) := by decide +kernel
theorem d_D_undo_19 : decode b_D_undo 19 = .ok (.baload, 1) := by decide +kernel
theorem d_D_undo_20 : decode b_D_undo 20 = .ok (.ifCond .eq 7, 3) := by decide +kernel
theorem d_D_undo_23 : decode b_D_undo 23 = .ok (.iconst 1, 1) := by decide +kernel
theorem d_D_undo_24 : decode b_D_undo 24 = .ok (.goto 4, 3) := by decide +kernel
theorem d_D_undo_27 : decode b_D_undo 27 = .ok (.iconst 0, 1) := by decide +kernel
theorem d_D_undo_28 : decode b_D_undo 28 = .ok (.iconst 1, 1) := by decide +kernel
theorem d_D_undo_29 : decode b_D_undo 29 = .ok (.iconst 1, 1) := by decide +kernel
theorem d_D_undo_30 : decode b_D_undo 30 = .ok (.invokevirtual 66, 3) := by decide +kernel
theorem d_D_undo_33 : decode b_D_undo 33 = .ok (.ifCond .ne 4, 3) := by decide +kernel
theorem d_D_undo_36 : decode b_D_undo 36 = .ok (.return_, 1) := by decide +kernel
theorem d_D_undo_37 : decode b_D_undo 37 = .ok (.aload_n 0, 1) := by decide +kernel
theorem d_D_undo_38 : decode b_D_undo 38 = .ok (.getfield 26, 3) := by decide +kernel
theorem d_D_undo_41 : decode b_D_undo 41 = .ok (.iload_n 1, 1) := by decide +kernel
theorem d_D_undo_42 : decode b_D_undo 42 = .ok (.iconst 0, 1) := by decide +kernel
theorem d_D_undo_43 : decode b_D_undo 43 = .ok (.bastore, 1) := by decide +kernel
theorem d_D_undo_44 : decode b_D_undo 44 = .ok (.iconst 0, 1) := by decide +kernel
theorem d_D_undo_45 : decode b_D_undo 45 = .ok (.istore_n 2, 1) := by decide +kernel
theorem d_D_undo_46 : decode b_D_undo 46 = .ok (.iload_n 2, 1) := by decide +kernel
theorem d_D_undo_47 : decode b_D_undo 47 = .ok (.aload_n 0, 1) := by decide +kernel
theorem d_D_undo_48 : decode b_D_undo 48 = .ok (.getfield 59, 3) := by decide +kernel
theorem d_D_undo_51 : decode b_D_undo 51 = .ok (.if_icmp .ge 26, 3) := by decide +kernel
theorem d_D_undo_54 : decode b_D_undo 54 = .ok (.aload_n 0, 1) := by decide +kernel
theorem d_D_undo_55 : decode b_D_undo 55 = .ok (.getfield 30, 3) := by decide +kernel
theorem d_D_undo_58 : decode b_D_undo 58 = .ok (.iload_n 2, 1) := by decide +kernel
theorem d_D_undo_59 : decode b_D_undo 59 = .ok (.iaload, 1) := by decide +kernel
theorem d_D_undo_60 : decode b_D_undo 60 = .ok (.iload_n 1, 1) := by decide +kernel
theorem d_D_undo_61 : decode b_D_undo 61 = .ok (.if_icmp .ne 10, 3) := by decide +kernel
theorem d_D_undo_64 : decode b_D_undo 64 = .ok (.aload_n 0, 1) := by decide +kernel
theorem d_D_undo_65 : decode b_D_undo 65 = .ok (.getfield 30, 3) := by decide +kernel
theorem d_D_undo_68 : decode b_D_undo 68 = .ok (.iload_n 2, 1) := by decide +kernel
theorem d_D_undo_69 : decode b_D_undo 69 = .ok (.iconst (-1), 1) := by decide +kernel
theorem d_D_undo_70 : decode b_D_undo 70 = .ok (.iastore, 1) := by decide +kernel
theorem d_D_undo_71 : decode b_D_undo 71 = .ok (.iinc 2 1, 3) := by decide +kernel
theorem d_D_undo_74 : decode b_D_undo 74 = .ok (.goto (-28), 3) := by decide +kernel
theorem d_D_undo_77 : decode b_D_undo 77 = .ok (.return_, 1) := by decide +kernel
theorem d_D_sale_0 : decode b_D_sale 0 = .ok (.aload_n 0, 1) := by decide +kernel
theorem d_D_sale_1 : decode b_D_sale 1 = .ok (.iload_n 1, 1) := by decide +kernel
theorem d_D_sale_2 : decode b_D_sale 2 = .ok (.ifCond .lt 7, 3) := by decide +kernel
theorem d_D_sale_5 : decode b_D_sale 5 = .ok (.iconst 1, 1) := by decide +kernel
theorem d_D_sale_6 : decode b_D_sale 6 = .ok (.goto 4, 3) := by decide +kernel
theorem d_D_sale_9 : decode b_D_sale 9 = .ok (.iconst 0, 1) := by decide +kernel
theorem d_D_sale_10 : decode b_D_sale 10 = .ok (.iconst 1, 1) := by decide +kernel
theorem d_D_sale_11 : decode b_D_sale 11 = .ok (.iconst 1, 1) := by decide +kernel
theorem d_D_sale_12 : decode b_D_sale 12 = .ok (.iconst 1, 1) := by decide +kernel
theorem d_D_sale_13 : decode b_D_sale 13 = .ok (.invokevirtual 66, 3) := by decide +kernel
theorem d_D_sale_16 : decode b_D_sale 16 = .ok (.ifCond .ne 5, 3) := by decide +kernel
theorem d_D_sale_19 : decode b_D_sale 19 = .ok (.iconst 0, 1) := by decide +kernel
theorem d_D_sale_20 : decode b_D_sale 20 = .ok (.ireturn, 1) := by decide +kernel
theorem d_D_sale_21 : decode b_D_sale 21 = .ok (.iload_n 1, 1) := by decide +kernel
theorem d_D_sale_22 : decode b_D_sale 22 = .ok (.istore_n 2, 1) := by decide +kernel
theorem d_D_sale_23 : decode b_D_sale 23 = .ok (.iconst 0, 1) := by decide +kernel
theorem d_D_sale_24 : decode b_D_sale 24 = .ok (.istore_n 3, 1) := by decide +kernel
theorem d_D_sale_25 : decode b_D_sale 25 = .ok (.iload_n 3, 1) := by decide +kernel
theorem d_D_sale_26 : decode b_D_sale 26 = .ok (.aload_n 0, 1) := by decide +kernel
theorem d_D_sale_27 : decode b_D_sale 27 = .ok (.getfield 70, 3) := by decide +kernel
theorem d_D_sale_30 : decode b_D_sale 30 = .ok (.aload_n 0, 1) := by decide +kernel
theorem d_D_sale_31 : decode b_D_sale 31 = .ok (.getfield 7, 3) := by decide +kernel
theorem d_D_sale_34 : decode b_D_sale 34 = .ok (.isub, 1) := by decide +kernel
theorem d_D_sale_35 : decode b_D_sale 35 = .ok (.if_icmp .gt 70, 3) := by decide +kernel
theorem d_D_sale_38 : decode b_D_sale 38 = .ok (.iconst 0, 1) := by decide +kernel
theorem d_D_sale_39 : decode b_D_sale 39 = .ok (.istore 4, 2) := by decide +kernel
theorem d_D_sale_41 : decode b_D_sale 41 = .ok (.iload 4, 2) := by decide +kernel
theorem d_D_sale_43 : decode b_D_sale 43 = .ok (.aload_n 0, 1) := by decide +kernel
theorem d_D_sale_44 : decode b_D_sale 44 = .ok (.getfield 52, 3) := by decide +kernel
theorem d_D_sale_47 : decode b_D_sale 47 = .ok (.if_icmp .ge 52, 3) := by decide +kernel
theorem d_D_sale_50 : decode b_D_sale 50 = .ok (.aload_n 0, 1) := by decide +kernel
theorem d_D_sale_51 : decode b_D_sale 51 = .ok (.getfield 20, 3) := by decide +kernel
theorem d_D_sale_54 : decode b_D_sale 54 = .ok (.iload 4, 2) := by decide +kernel
theorem d_D_sale_56 : decode b_D_sale 56 = .ok (.iaload, 1) := by decide +kernel
theorem d_D_sale_57 : decode b_D_sale 57 = .ok (.iload_n 3, 1) := by decide +kernel
theorem d_D_sale_58 : decode b_D_sale 58 = .ok (.if_icmp .ne 35, 3) := by decide +kernel
theorem d_D_sale_61 : decode b_D_sale 61 = .ok (.aload_n 0, 1) := by decide +kernel
theorem d_D_sale_62 : decode b_D_sale 62 = .ok (.getfield 26, 3) := by decide +kernel
theorem d_D_sale_65 : decode b_D_sale 65 = .ok (.iload 4, 2) := by decide +kernel
theorem d_D_sale_67 : decode b_D_sale 67 = .ok (.baload, 1) := by decide +kernel
theorem d_D_sale_68 : decode b_D_sale 68 = .ok (.ifCond .ne 25, 3) := by decide +kernel
theorem d_D_sale_71 : decode b_D_sale 71 = .ok (.aload_n 0, 1) := by decide +kernel
theorem d_D_sale_72 : decode b_D_sale 72 = .ok (.iload 4, 2) := by decide +kernel
theorem d_D_sale_74 : decode b_D_sale 74 = .ok (.invokevirtual 99, 3) := by decide +kernel
theorem d_D_sale_77 : decode b_D_sale 77 = .ok (.ifCond .lt 6, 3) := by decide +kernel
theorem d_D_sale_80 : decode b_D_sale 80 = .ok (.goto 13, 3) := by decide +kernel
theorem d_D_sale_83 : decode b_D_sale 83 = .ok (.iload_n 2, 1) := by decide +kernel
theorem d_D_sale_84 : decode b_D_sale 84 = .ok (.ifCond .ne 6, 3) := by decide +kernel
theorem d_D_sale_87 : decode b_D_sale 87 = .ok (.iload 4, 2) := by decide +kernel
theorem d_D_sale_89 : decode b_D_sale 89 = .ok (.ireturn, 1) := by decide +kernel
theorem d_D_sale_90 : decode b_D_sale 90 = .ok (.iinc 2 (-1), 3) := by decide +kernel
theorem d_D_sale_93 : decode b_D_sale 93 = .ok (.iinc 4 1, 3) := by decide +kernel
theorem d_D_sale_96 : decode b_D_sale 96 = .ok (.goto (-55), 3) := by decide +kernel
theorem d_D_sale_99 : decode b_D_sale 99 = .ok (.iinc 3 1, 3) := by decide +kernel
theorem d_D_sale_102 : decode b_D_sale 102 = .ok (.goto (-77), 3) := by decide +kernel
theorem d_D_sale_105 : decode b_D_sale 105 = .ok (.iconst (-1), 1) := by decide +kernel
theorem d_D_sale_106 : decode b_D_sale 106 = .ok (.ireturn, 1) := by decide +kernel
theorem d_D_tick_0 : decode b_D_tick 0 = .ok (.aload_n 0, 1) := by decide +kernel
theorem d_D_tick_1 : decode b_D_tick 1 = .ok (.iload_n 1, 1) := by decide +kernel
theorem d_D_tick_2 : decode b_D_tick 2 = .ok (.iconst 1, 1) := by decide +kernel
theorem d_D_tick_3 : decode b_D_tick 3 = .ok (.sipush 1000, 3) := by decide +kernel
theorem d_D_tick_6 : decode b_D_tick 6 = .ok (.invokestatic 55, 3) := by decide +kernel
theorem d_D_tick_9 : decode b_D_tick 9 = .ok (.ifCond .eq 19, 3) := by decide +kernel
theorem d_D_tick_12 : decode b_D_tick 12 = .ok (.iload_n 1, 1) := by decide +kernel
theorem d_D_tick_13 : decode b_D_tick 13 = .ok (.sipush 9999, 3) := by decide +kernel
theorem d_D_tick_16 : decode b_D_tick 16 = .ok (.aload_n 0, 1) := by decide +kernel
theorem d_D_tick_17 : decode b_D_tick 17 = .ok (.getfield 70, 3) := by decide +kernel
theorem d_D_tick_20 : decode b_D_tick 20 = .ok (.isub, 1) := by decide +kernel
theorem d_D_tick_21 : decode b_D_tick 21 = .ok (.if_icmp .gt 7, 3) := by decide +kernel
theorem d_D_tick_24 : decode b_D_tick 24 = .ok (.iconst 1, 1) := by decide +kernel
theorem d_D_tick_25 : decode b_D_tick 25 = .ok (.goto 4, 3) := by decide +kernel
theorem d_D_tick_28 : decode b_D_tick 28 = .ok (.iconst 0, 1) := by decide +kernel
theorem d_D_tick_29 : decode b_D_tick 29 = .ok (.iconst 1, 1) := by decide +kernel
theorem d_D_tick_30 : decode b_D_tick 30 = .ok (.iconst 1, 1) := by decide +kernel
theorem d_D_tick_31 : decode b_D_tick 31 = .ok (.iconst 1, 1) := by decide +kernel
theorem d_D_tick_32 : decode b_D_tick 32 = .ok (.invokevirtual 66, 3) := by decide +kernel
theorem d_D_tick_35 : decode b_D_tick 35 = .ok (.ifCond .ne 5, 3) := by decide +kernel
theorem d_D_tick_38 : decode b_D_tick 38 = .ok (.iconst 0, 1) := by decide +kernel
theorem d_D_tick_39 : decode b_D_tick 39 = .ok (.ireturn, 1) := by decide +kernel
theorem d_D_tick_40 : decode b_D_tick 40 = .ok (.aload_n 0, 1) := by decide +kernel
theorem d_D_tick_41 : decode b_D_tick 41 = .ok (.aload_n 0, 1) := by decide +kernel
theorem d_D_tick_42 : decode b_D_tick 42 = .ok (.getfield 70, 3) := by decide +kernel
theorem d_D_tick_45 : decode b_D_tick 45 = .ok (.iload_n 1, 1) := by decide +kernel
theorem d_D_tick_46 : decode b_D_tick 46 = .ok (.iadd, 1) := by decide +kernel
theorem d_D_tick_47 : decode b_D_tick 47 = .ok (.putfield 70, 3) := by decide +kernel
theorem d_D_tick_50 : decode b_D_tick 50 = .ok (.aload_n 0, 1) := by decide +kernel
theorem d_D_tick_51 : decode b_D_tick 51 = .ok (.getfield 70, 3) := by decide +kernel
theorem d_D_tick_54 : decode b_D_tick 54 = .ok (.ireturn, 1) := by decide +kernel
def w_D_several : List Cond := .code y_D_several b_D_several 12 (some .int) :: W0
theorem q_D_several : y_D_several.cls = R_D ∧ y_D_several.cls ≠ "java/lang/invoke/MethodHandle" ∧ y_D_several.cls ≠ "java/lang/invoke/VarHandle" ∧ (parseMethodDescriptor y_D_several.desc).map (fun d => d.parameters.length) = some 1 := by decide +kernel
def L_D_several_78 (N : Nat) (d_today : Int32) (d_cut : Int32) (d_aging : Int32) (d_pieces : Int32) (d_orders : Int32) (d_piece : Nat → Int32) (d_order : Nat → Int32) (d_came : Nat → Int32) (d_worth : Nat → Int32) (d_reservedFor : Nat → Int32) (d_reservedTo : Nat → Int32) (K : Int32 → Int32 → Int32 → Int32 → Int32 → Int32 → Int32 → Int32 → Int32 → Int32 → Int32 → Int32 → (Nat → Int32) → (Nat → Int32) → Option (Int32 × Int32 × (Nat → Int32) × (Nat → Int32))) : Nat → Int32 → Int32 → Int32 → Int32 → Int32 → Int32 → Int32 → Int32 → Int32 → Int32 → Int32 → Int32 → (Nat → Int32) → (Nat → Int32) → Option (Int32 × Int32 × (Nat → Int32) × (Nat → Int32))
  | 0, _, _, _, _, _, _, _, _, _, _, _, _, _, _ => none
  | n + 1, y1b, y2b, y3b, y4b, y5b, y6b, y7b, y8b, y9b, y10b, y11b, d_thrownb, d_usedb, d_usedByb =>
    (if 10 ≤ y11b then
    K y1b y2b y3b y4b y5b y6b y7b y8b y9b y10b y11b d_thrownb d_usedb d_usedByb
   else
    (if ((y6b >>> (y11b &&& 31)) &&& 1) = 0 then
      L_D_several_78 N d_today d_cut d_aging d_pieces d_orders d_piece d_order d_came d_worth d_reservedFor d_reservedTo K n y1b y2b y3b y4b y5b y6b y7b y8b y9b y10b (y11b + 1) d_thrownb d_usedb d_usedByb
     else
      (if d_orders ≤ y11b then
        L_D_several_78 N d_today d_cut d_aging d_pieces d_orders d_piece d_order d_came d_worth d_reservedFor d_reservedTo K n y1b y2b y3b y4b y5b y6b y7b y8b y9b 0 (y11b + 1) d_thrownb d_usedb d_usedByb
       else
        ((m_D_can N d_today d_pieces d_piece d_order d_usedb d_usedByb d_reservedFor d_reservedTo y1b y11b).bind fun r4 =>
          (if r4 = 0 then
            L_D_several_78 N d_today d_cut d_aging d_pieces d_orders d_piece d_order d_came d_worth d_reservedFor d_reservedTo K n y1b y2b y3b y4b y5b y6b y7b y8b y9b 0 (y11b + 1) d_thrownb d_usedb d_usedByb
           else
            (if ((4 * y11b) + 2) < 0 ∨ 40 ≤ ((4 * y11b) + 2).toNatClampNeg then none else
            ((m_D_netOf d_today d_cut d_aging d_piece d_order d_came d_worth y1b y11b).bind fun r5 =>
              L_D_several_78 N d_today d_cut d_aging d_pieces d_orders d_piece d_order d_came d_worth d_reservedFor d_reservedTo K n y1b y2b y3b y4b y5b y6b (y7b + 1) (y8b + (d_order ((4 * y11b) + 2).toNatClampNeg)) (y9b + r5) y10b (y11b + 1) d_thrownb d_usedb d_usedByb)))))))
def L_D_several_55 (N : Nat) (d_today : Int32) (d_cut : Int32) (d_aging : Int32) (d_pieces : Int32) (d_orders : Int32) (d_piece : Nat → Int32) (d_order : Nat → Int32) (d_came : Nat → Int32) (d_worth : Nat → Int32) (d_reservedFor : Nat → Int32) (d_reservedTo : Nat → Int32) (K : Int32 → Int32 → Int32 → Int32 → Int32 → Int32 → Int32 → (Nat → Int32) → (Nat → Int32) → Option (Int32 × Int32 × (Nat → Int32) × (Nat → Int32))) : Nat → Int32 → Int32 → Int32 → Int32 → Int32 → Int32 → Int32 → (Nat → Int32) → (Nat → Int32) → Option (Int32 × Int32 × (Nat → Int32) × (Nat → Int32))
  | 0, _, _, _, _, _, _, _, _, _ => none
  | n + 1, y1a, y2a, y3a, y4a, y5a, y6a, d_throwna, d_useda, d_usedBya =>
    (if 1024 ≤ y6a then
    K y1a y2a y3a y4a y5a y6a d_throwna d_useda d_usedBya
   else
    L_D_several_78 N d_today d_cut d_aging d_pieces d_orders d_piece d_order d_came d_worth d_reservedFor d_reservedTo (fun y1b y2b y3b y4b y5b y6b y7b y8b y9b y10b y11b d_thrownb d_usedb d_usedByb =>
      (if y10b = 0 then
        L_D_several_55 N d_today d_cut d_aging d_pieces d_orders d_piece d_order d_came d_worth d_reservedFor d_reservedTo K n y1b y2b y3b y4b y5b (y6b + 1) d_thrownb d_usedb d_usedByb
       else
        (if 5 < y7b then
          L_D_several_55 N d_today d_cut d_aging d_pieces d_orders d_piece d_order d_came d_worth d_reservedFor d_reservedTo K n y1b y2b y3b y4b y5b (y6b + 1) d_thrownb d_usedb d_usedByb
         else
          (if ((4 * y1b) + 2) < 0 ∨ 40 ≤ ((4 * y1b) + 2).toNatClampNeg then none else
          (if y8b ≤ (d_piece ((4 * y1b) + 2).toNatClampNeg) then
            (if y7b < y4b then
              L_D_several_55 N d_today d_cut d_aging d_pieces d_orders d_piece d_order d_came d_worth d_reservedFor d_reservedTo K n y1b y2b y3b y4b y5b (y6b + 1) d_thrownb d_usedb d_usedByb
             else
              (if y7b = y4b then
                (if y5b < y9b then
                  L_D_several_55 N d_today d_cut d_aging d_pieces d_orders d_piece d_order d_came d_worth d_reservedFor d_reservedTo K n y1b y2b y6b y7b y9b (y6b + 1) d_thrownb d_usedb d_usedByb
                 else
                  L_D_several_55 N d_today d_cut d_aging d_pieces d_orders d_piece d_order d_came d_worth d_reservedFor d_reservedTo K n y1b y2b y3b y4b y5b (y6b + 1) d_thrownb d_usedb d_usedByb)
               else
                L_D_several_55 N d_today d_cut d_aging d_pieces d_orders d_piece d_order d_came d_worth d_reservedFor d_reservedTo K n y1b y2b y6b y7b y9b (y6b + 1) d_thrownb d_usedb d_usedByb))
           else
            L_D_several_55 N d_today d_cut d_aging d_pieces d_orders d_piece d_order d_came d_worth d_reservedFor d_reservedTo K n y1b y2b y3b y4b y5b (y6b + 1) d_thrownb d_usedb d_usedByb))))) N y1a y2a y3a y4a y5a y6a 0 0 0 1 0 d_throwna d_useda d_usedBya)
def L_D_several_246 (N : Nat) (d_orders : Int32) (K : Int32 → Int32 → Int32 → Int32 → Int32 → Int32 → Int32 → (Nat → Int32) → (Nat → Int32) → Option (Int32 × Int32 × (Nat → Int32) × (Nat → Int32))) : Nat → Int32 → Int32 → Int32 → Int32 → Int32 → Int32 → Int32 → (Nat → Int32) → (Nat → Int32) → Option (Int32 × Int32 × (Nat → Int32) × (Nat → Int32))
  | 0, _, _, _, _, _, _, _, _, _ => none
  | n + 1, y1c, y2c, y3c, y4c, y5c, y6c, d_thrownc, d_usedc, d_usedByc =>
    (if d_orders ≤ y6c then
    K y1c y2c y3c y4c y5c y6c d_thrownc d_usedc d_usedByc
   else
    (if ((y3c >>> (y6c &&& 31)) &&& 1) = 1 then
      (if y6c < 0 ∨ 10 ≤ y6c.toNatClampNeg then none else
      L_D_several_246 N d_orders K n y1c y2c y3c y4c y5c (y6c + 1) d_thrownc d_usedc (upd d_usedByc y6c.toNatClampNeg y1c))
     else
      L_D_several_246 N d_orders K n y1c y2c y3c y4c y5c (y6c + 1) d_thrownc d_usedc d_usedByc))
def m_D_several (N : Nat) (d_today : Int32) (d_cut : Int32) (d_aging : Int32) (d_pieces : Int32) (d_orders : Int32) (d_piece : Nat → Int32) (d_order : Nat → Int32) (d_came : Nat → Int32) (d_worth : Nat → Int32) (d_used : Nat → Int32) (d_usedBy : Nat → Int32) (d_reservedFor : Nat → Int32) (d_reservedTo : Nat → Int32) (x1 : Int32) : Option (Int32 × Int32 × (Nat → Int32) × (Nat → Int32)) :=
  ((m_D_isPiece d_pieces x1).bind fun r1 =>
  (if r1 = 0 then
    ((m_D_goes r1 0 1 1).bind fun (r2, u3) =>
      (if r2 = 0 then
        some (0, u3, d_used, d_usedBy)
       else
        L_D_several_55 N d_today d_cut d_aging d_pieces d_orders d_piece d_order d_came d_worth d_reservedFor d_reservedTo (fun y1a y2a y3a y4a y5a y6a d_throwna d_useda d_usedBya =>
          (if y3a = 0 then
            some (0, d_throwna, d_useda, d_usedBya)
           else
            (if y1a < 0 ∨ 10 ≤ y1a.toNatClampNeg then none else
            L_D_several_246 N d_orders (fun y1c y2c y3c y4c y5c y6c d_thrownc d_usedc d_usedByc =>
              some (y4c, d_thrownc, d_usedc, d_usedByc)) N y1a y2a y3a y4a y5a 0 d_throwna (upd d_useda y1a.toNatClampNeg (vp_nar .boolean 1)) d_usedBya))) N x1 r1 0 0 0 1 u3 d_used d_usedBy))
   else
    (if x1 < 0 ∨ 10 ≤ x1.toNatClampNeg then none else
    (if (d_used x1.toNatClampNeg) = 0 then
      ((m_D_reservation d_today d_reservedFor d_reservedTo x1).bind fun r16 =>
        (if 0 ≤ r16 then
          ((m_D_goes r1 0 1 1).bind fun (r17, u18) =>
            (if r17 = 0 then
              some (0, u18, d_used, d_usedBy)
             else
              L_D_several_55 N d_today d_cut d_aging d_pieces d_orders d_piece d_order d_came d_worth d_reservedFor d_reservedTo (fun y1a y2a y3a y4a y5a y6a d_throwna d_useda d_usedBya =>
                (if y3a = 0 then
                  some (0, d_throwna, d_useda, d_usedBya)
                 else
                  (if y1a < 0 ∨ 10 ≤ y1a.toNatClampNeg then none else
                  L_D_several_246 N d_orders (fun y1c y2c y3c y4c y5c y6c d_thrownc d_usedc d_usedByc =>
                    some (y4c, d_thrownc, d_usedc, d_usedByc)) N y1a y2a y3a y4a y5a 0 d_throwna (upd d_useda y1a.toNatClampNeg (vp_nar .boolean 1)) d_usedBya))) N x1 r1 0 0 0 1 u18 d_used d_usedBy))
         else
          ((m_D_goes r1 1 1 1).bind fun (r24, u25) =>
            (if r24 = 0 then
              some (0, u25, d_used, d_usedBy)
             else
              L_D_several_55 N d_today d_cut d_aging d_pieces d_orders d_piece d_order d_came d_worth d_reservedFor d_reservedTo (fun y1a y2a y3a y4a y5a y6a d_throwna d_useda d_usedBya =>
                (if y3a = 0 then
                  some (0, d_throwna, d_useda, d_usedBya)
                 else
                  (if y1a < 0 ∨ 10 ≤ y1a.toNatClampNeg then none else
                  L_D_several_246 N d_orders (fun y1c y2c y3c y4c y5c y6c d_thrownc d_usedc d_usedByc =>
                    some (y4c, d_thrownc, d_usedc, d_usedByc)) N y1a y2a y3a y4a y5a 0 d_throwna (upd d_useda y1a.toNatClampNeg (vp_nar .boolean 1)) d_usedBya))) N x1 r1 0 0 0 1 u25 d_used d_usedBy))))
     else
      ((m_D_goes r1 0 1 1).bind fun (r9, u10) =>
        (if r9 = 0 then
          some (0, u10, d_used, d_usedBy)
         else
          L_D_several_55 N d_today d_cut d_aging d_pieces d_orders d_piece d_order d_came d_worth d_reservedFor d_reservedTo (fun y1a y2a y3a y4a y5a y6a d_throwna d_useda d_usedBya =>
            (if y3a = 0 then
              some (0, d_throwna, d_useda, d_usedBya)
             else
              (if y1a < 0 ∨ 10 ≤ y1a.toNatClampNeg then none else
              L_D_several_246 N d_orders (fun y1c y2c y3c y4c y5c y6c d_thrownc d_usedc d_usedByc =>
                some (y4c, d_thrownc, d_usedc, d_usedByc)) N y1a y2a y3a y4a y5a 0 d_throwna (upd d_useda y1a.toNatClampNeg (vp_nar .boolean 1)) d_usedBya))) N x1 r1 0 0 0 1 u10 d_used d_usedBy))))))
set_option maxHeartbeats 4000000 in
set_option maxRecDepth 100000 in
theorem c_D_several (l : Launch) (dC : Nat → ClassId) (dI : Nat → Nat → Nat) (cI cZ cJ : ClassId) (dq dq8 dq9 dq10 dq11 dq12 dq13 dq14 dq15 dq18 dq19 dq20 : Nat) (sz : Nat) (d_thrown : Int32) (d_today : Int32) (d_cut : Int32) (d_aging : Int32) (d_saleFrom : Int32) (d_pieces : Int32) (d_orders : Int32) (d_piece : Nat → Int32) (d_order : Nat → Int32) (d_came : Nat → Int32) (d_worth : Nat → Int32) (d_used : Nat → Int32) (d_usedBy : Nat → Int32) (d_reservedFor : Nat → Int32) (d_reservedTo : Nat → Int32) (d_ran : Int32) (d_sum : Int32) (d_pieceDual : Nat → Int32) (d_orderDual : Nat → Int32) (d_table : Nat → Int64) (x1 : Int32) (N : Nat) (res : Int32 × Int32 × (Nat → Int32) × (Nat → Int32)) (hm : m_D_several N d_today d_cut d_aging d_pieces d_orders d_piece d_order d_came d_worth d_used d_usedBy d_reservedFor d_reservedTo x1 = some res) : Met l y_D_several w_D_several ({ frames := 3, cells := 0, slots := 0, locals := 67 } : Room) (va_Pc [.ref dq, .int x1] (fun U => U.heap.size = sz ∧ va_P (dC, dI) classes [(dq, .inr (5, [.int d_thrown, .int d_today, .int d_cut, .int d_aging, .int d_saleFrom, .int d_pieces, .int d_orders, .ref dq8, .ref dq9, .ref dq10, .ref dq11, .ref dq12, .ref dq13, .ref dq14, .ref dq15, .int d_ran, .int d_sum, .ref dq18, .ref dq19, .ref dq20])), (dq8, .inl (cI, 40, .inl d_piece)), (dq9, .inl (cI, 40, .inl d_order)), (dq10, .inl (cI, 10, .inl d_came)), (dq11, .inl (cI, 100, .inl d_worth)), (dq12, .inl (cZ, 10, .inl d_used)), (dq13, .inl (cI, 10, .inl d_usedBy)), (dq14, .inl (cI, 10, .inl d_reservedFor)), (dq15, .inl (cI, 10, .inl d_reservedTo)), (dq18, .inl (cI, 10, .inl d_pieceDual)), (dq19, .inl (cI, 10, .inl d_orderDual)), (dq20, .inl (cJ, 11264, .inr (.inl d_table)))] U.heap ∧ va_K (dC, dI) classes [(cI, .int), (cZ, .boolean), (cJ, .long)] U ∧ va_D (fun _ => True) [(dq, .inr (5, [.int d_thrown, .int d_today, .int d_cut, .int d_aging, .int d_saleFrom, .int d_pieces, .int d_orders, .ref dq8, .ref dq9, .ref dq10, .ref dq11, .ref dq12, .ref dq13, .ref dq14, .ref dq15, .int d_ran, .int d_sum, .ref dq18, .ref dq19, .ref dq20])), (dq8, .inl (cI, 40, .inl d_piece)), (dq9, .inl (cI, 40, .inl d_order)), (dq10, .inl (cI, 10, .inl d_came)), (dq11, .inl (cI, 100, .inl d_worth)), (dq12, .inl (cZ, 10, .inl d_used)), (dq13, .inl (cI, 10, .inl d_usedBy)), (dq14, .inl (cI, 10, .inl d_reservedFor)), (dq15, .inl (cI, 10, .inl d_reservedTo)), (dq18, .inl (cI, 10, .inl d_pieceDual)), (dq19, .inl (cI, 10, .inl d_orderDual)), (dq20, .inl (cJ, 11264, .inr (.inl d_table)))] ∧ nw U)) (va_Qi (fun (x : Int32) (_ : Unit) => res.1 = x) (fun _ t => va_P (dC, dI) classes [(dq, .inr (5, [.int res.2.1, .int d_today, .int d_cut, .int d_aging, .int d_saleFrom, .int d_pieces, .int d_orders, .ref dq8, .ref dq9, .ref dq10, .ref dq11, .ref dq12, .ref dq13, .ref dq14, .ref dq15, .int d_ran, .int d_sum, .ref dq18, .ref dq19, .ref dq20])), (dq8, .inl (cI, 40, .inl d_piece)), (dq9, .inl (cI, 40, .inl d_order)), (dq10, .inl (cI, 10, .inl d_came)), (dq11, .inl (cI, 100, .inl d_worth)), (dq12, .inl (cZ, 10, .inl res.2.2.1)), (dq13, .inl (cI, 10, .inl res.2.2.2)), (dq14, .inl (cI, 10, .inl d_reservedFor)), (dq15, .inl (cI, 10, .inl d_reservedTo)), (dq18, .inl (cI, 10, .inl d_pieceDual)), (dq19, .inl (cI, 10, .inl d_orderDual)), (dq20, .inl (cJ, 11264, .inr (.inl d_table)))] t.heap ∧ va_K (dC, dI) classes [(cI, .int), (cZ, .boolean), (cJ, .long)] t ∧ va_D (va_A [(dq, .inr (5, [.int d_thrown, .int d_today, .int d_cut, .int d_aging, .int d_saleFrom, .int d_pieces, .int d_orders, .ref dq8, .ref dq9, .ref dq10, .ref dq11, .ref dq12, .ref dq13, .ref dq14, .ref dq15, .int d_ran, .int d_sum, .ref dq18, .ref dq19, .ref dq20])), (dq8, .inl (cI, 40, .inl d_piece)), (dq9, .inl (cI, 40, .inl d_order)), (dq10, .inl (cI, 10, .inl d_came)), (dq11, .inl (cI, 100, .inl d_worth)), (dq12, .inl (cZ, 10, .inl d_used)), (dq13, .inl (cI, 10, .inl d_usedBy)), (dq14, .inl (cI, 10, .inl d_reservedFor)), (dq15, .inl (cI, 10, .inl d_reservedTo)), (dq18, .inl (cI, 10, .inl d_pieceDual)), (dq19, .inl (cI, 10, .inl d_orderDual)), (dq20, .inl (cJ, 11264, .inr (.inl d_table)))] sz) [(dq, .inr (5, [.int res.2.1, .int d_today, .int d_cut, .int d_aging, .int d_saleFrom, .int d_pieces, .int d_orders, .ref dq8, .ref dq9, .ref dq10, .ref dq11, .ref dq12, .ref dq13, .ref dq14, .ref dq15, .int d_ran, .int d_sum, .ref dq18, .ref dq19, .ref dq20])), (dq8, .inl (cI, 40, .inl d_piece)), (dq9, .inl (cI, 40, .inl d_order)), (dq10, .inl (cI, 10, .inl d_came)), (dq11, .inl (cI, 100, .inl d_worth)), (dq12, .inl (cZ, 10, .inl res.2.2.1)), (dq13, .inl (cI, 10, .inl res.2.2.2)), (dq14, .inl (cI, 10, .inl d_reservedFor)), (dq15, .inl (cI, 10, .inl d_reservedTo)), (dq18, .inl (cI, 10, .inl d_pieceDual)), (dq19, .inl (cI, 10, .inl d_orderDual)), (dq20, .inl (cJ, 11264, .inr (.inl d_table)))]) (va_A [(dq, .inr (5, [.int d_thrown, .int d_today, .int d_cut, .int d_aging, .int d_saleFrom, .int d_pieces, .int d_orders, .ref dq8, .ref dq9, .ref dq10, .ref dq11, .ref dq12, .ref dq13, .ref dq14, .ref dq15, .int d_ran, .int d_sum, .ref dq18, .ref dq19, .ref dq20])), (dq8, .inl (cI, 40, .inl d_piece)), (dq9, .inl (cI, 40, .inl d_order)), (dq10, .inl (cI, 10, .inl d_came)), (dq11, .inl (cI, 100, .inl d_worth)), (dq12, .inl (cZ, 10, .inl d_used)), (dq13, .inl (cI, 10, .inl d_usedBy)), (dq14, .inl (cI, 10, .inl d_reservedFor)), (dq15, .inl (cI, 10, .inl d_reservedTo)), (dq18, .inl (cI, 10, .inl d_pieceDual)), (dq19, .inl (cI, 10, .inl d_orderDual)), (dq20, .inl (cJ, 11264, .inr (.inl d_table)))] sz)) 0 0 (va_A [(dq, .inr (5, [.int d_thrown, .int d_today, .int d_cut, .int d_aging, .int d_saleFrom, .int d_pieces, .int d_orders, .ref dq8, .ref dq9, .ref dq10, .ref dq11, .ref dq12, .ref dq13, .ref dq14, .ref dq15, .int d_ran, .int d_sum, .ref dq18, .ref dq19, .ref dq20])), (dq8, .inl (cI, 40, .inl d_piece)), (dq9, .inl (cI, 40, .inl d_order)), (dq10, .inl (cI, 10, .inl d_came)), (dq11, .inl (cI, 100, .inl d_worth)), (dq12, .inl (cZ, 10, .inl d_used)), (dq13, .inl (cI, 10, .inl d_usedBy)), (dq14, .inl (cI, 10, .inl d_reservedFor)), (dq15, .inl (cI, 10, .inl d_reservedTo)), (dq18, .inl (cI, 10, .inl d_pieceDual)), (dq19, .inl (cI, 10, .inl d_orderDual)), (dq20, .inl (cJ, 11264, .inr (.inl d_table)))] sz) := by
  unfold m_D_several at hm
  refine Met.ofW (cc := b_D_several) (maxL := 12) (ret := (some .int)) (by decide) rfl ?_
  intro p e s m args below meth c s₁ B hml hv
  obtain ⟨rfl, hsz, hP, hK, hD0, hN⟩ := hv
  have hx := B.exec
  have hb := B.bytes
  have hr := B.returns
  have hts := atoms_spec (ws := w_D_several) B.pre
  have hown : s.vm.findClass R_D = some m.cls := findClass_of_methodNamed B.named
  have hlocks := B.notSynchronized
  subst hsz
  have hD := hD0.self (sz := s.heap.size)
  generalize hAe : va_A [(dq, .inr (5, [.int d_thrown, .int d_today, .int d_cut, .int d_aging, .int d_saleFrom, .int d_pieces, .int d_orders, .ref dq8, .ref dq9, .ref dq10, .ref dq11, .ref dq12, .ref dq13, .ref dq14, .ref dq15, .int d_ran, .int d_sum, .ref dq18, .ref dq19, .ref dq20])), (dq8, .inl (cI, 40, .inl d_piece)), (dq9, .inl (cI, 40, .inl d_order)), (dq10, .inl (cI, 10, .inl d_came)), (dq11, .inl (cI, 100, .inl d_worth)), (dq12, .inl (cZ, 10, .inl d_used)), (dq13, .inl (cI, 10, .inl d_usedBy)), (dq14, .inl (cI, 10, .inl d_reservedFor)), (dq15, .inl (cI, 10, .inl d_reservedTo)), (dq18, .inl (cI, 10, .inl d_pieceDual)), (dq19, .inl (cI, 10, .inl d_orderDual)), (dq20, .inl (cJ, 11264, .inr (.inl d_table)))] s.heap.size = A at hD ⊢
  have hA : ∀ q : Nat, s.heap.size ≤ q → A q := fun q h => by rw [← hAe]; exact Or.inr h
  have hS : va_S A s.heap s.heap [] := va_S.rf
  have hk0 := hts (.fieldLink R_D 59 "SurplusMatchModel" "orders" "I") (List.mem_cons_of_mem _ (w0 599 rfl))
  have hk1 : ∀ w ∈ w_D, w ∈ w_D_several := fun w h => List.mem_cons_of_mem _ (i_D w h)
  have hk2 := hts (.fieldLink R_D 17 "SurplusMatchModel" "order" "[I") (List.mem_cons_of_mem _ (w0 601 rfl))
  have hk3 := hts (.fieldLink R_D 13 "SurplusMatchModel" "piece" "[I") (List.mem_cons_of_mem _ (w0 600 rfl))
  have hk4 := hts (.fieldLink R_D 26 "SurplusMatchModel" "used" "[Z") (List.mem_cons_of_mem _ (w0 604 rfl))
  have hk5 := hts (.fieldLink R_D 30 "SurplusMatchModel" "usedBy" "[I") (List.mem_cons_of_mem _ (w0 605 rfl))
  have hl := lv_entry ([.ref dq, .int x1]) (n := 12) (Nat.le_of_ble_eq_true rfl)
  rw [lg_entry_eq]
  generalize (lg_sl ([.ref dq, .int x1]) ++ List.replicate (12 - (lg_sl ([.ref dq, .int x1])).length) Slot.unset).toArray = ls at hl ⊢
  have hl : lv_has ls 12 [(0, .ref dq), (1, .int x1)] := hl
  refine lv_aload_n hx hb d_D_several_0 rfl (lv_at hl 0 rfl) ?_
  refine lv_iload_n hx hb d_D_several_1 rfl (lv_at hl 1 rfl) ?_
  obtain ⟨r1, hc, hm⟩ := bd hm
  try dsimp only at hm
  refine vp_callSi (W.runV (As := [.int x1]) (rest := []) ⟨hx, hb, hml, hown, hts⟩ (c_D_isPiece l dC dI cI cZ cJ dq dq8 dq9 dq10 dq11 dq12 dq13 dq14 dq15 dq18 dq19 dq20 d_thrown d_today d_cut d_aging d_saleFrom d_pieces d_orders d_piece d_order d_came d_worth d_used d_usedBy d_reservedFor d_reservedTo d_ran d_sum d_pieceDual d_orderDual d_table x1 N r1 hc) (cwV 1 hts (gV (w0 681 rfl) (w0 682 rfl) (w0 19 rfl) (w0 33 rfl) (w0 683 rfl)) rfl rfl rfl q_D_isPiece ⟨Nat.le_of_ble_eq_true rfl, Nat.le_of_ble_eq_true rfl⟩) (ro_preV [0, 1, 2, 3, 4, 5, 6, 7, 8, 9, 10, 11] rfl hK hP hN 5 0 (R_D, F_D, 20) rfl rfl) rfl rfl hl.1 rfl (lv_room (Nat.le_of_ble_eq_true rfl)) d_D_several_2 ⟨Nat.le_of_ble_eq_true rfl, Nat.le_of_ble_eq_true rfl⟩) (fun r9 hr9 => ?_)
  subst hr9
  refine lv_istore_n (lv' := [(2, .int r1), (0, .ref dq), (1, .int x1)]) hx hb d_D_several_5 rfl hl (by decide) rfl (fun ls hl => ?_)
  refine lv_aload_n hx hb d_D_several_6 rfl (lv_at hl 1 rfl) ?_
  refine lv_iload_n hx hb d_D_several_7 rfl (lv_at hl 0 rfl) ?_
  refine lv_iload_n hx hb d_D_several_8 rfl (lv_at hl 0 rfl) ?_
  refine lv_if_eq (tgt := 33) hx hb d_D_several_9 (by decide) (fun c9 => ?_) (fun c9 => ?_)
  · replace hm := if_t c9 hm
    refine lv_iconst (v := 0) hx hb d_D_several_33 (by decide) ?_
    refine lv_iconst (v := 1) hx hb d_D_several_34 (by decide) ?_
    refine lv_iconst (v := 1) hx hb d_D_several_35 (by decide) ?_
    obtain ⟨⟨r2, u3⟩, hc, hm⟩ := bd hm
    try dsimp only at hm
    have hPc := hP.sub (ws' := [(dq, .inr (5, [.int d_thrown, .int d_today, .int d_cut, .int d_aging, .int d_saleFrom, .int d_pieces, .int d_orders, .ref dq8, .ref dq9, .ref dq10, .ref dq11, .ref dq12, .ref dq13, .ref dq14, .ref dq15, .int d_ran, .int d_sum, .ref dq18, .ref dq19, .ref dq20])), (dq8, .inl (cI, 40, .inl d_piece)), (dq9, .inl (cI, 40, .inl d_order)), (dq10, .inl (cI, 10, .inl d_came)), (dq11, .inl (cI, 100, .inl d_worth)), (dq12, .inl (cZ, 10, .inl d_used)), (dq13, .inl (cI, 10, .inl d_usedBy)), (dq14, .inl (cI, 10, .inl d_reservedFor)), (dq15, .inl (cI, 10, .inl d_reservedTo)), (dq18, .inl (cI, 10, .inl d_pieceDual)), (dq19, .inl (cI, 10, .inl d_orderDual)), (dq20, .inl (cJ, 11264, .inr (.inl d_table)))]) [0, 1, 2, 3, 4, 5, 6, 7, 8, 9, 10, 11] rfl
    have hDc := hD.sub (ws' := [(dq, .inr (5, [.int d_thrown, .int d_today, .int d_cut, .int d_aging, .int d_saleFrom, .int d_pieces, .int d_orders, .ref dq8, .ref dq9, .ref dq10, .ref dq11, .ref dq12, .ref dq13, .ref dq14, .ref dq15, .int d_ran, .int d_sum, .ref dq18, .ref dq19, .ref dq20])), (dq8, .inl (cI, 40, .inl d_piece)), (dq9, .inl (cI, 40, .inl d_order)), (dq10, .inl (cI, 10, .inl d_came)), (dq11, .inl (cI, 100, .inl d_worth)), (dq12, .inl (cZ, 10, .inl d_used)), (dq13, .inl (cI, 10, .inl d_usedBy)), (dq14, .inl (cI, 10, .inl d_reservedFor)), (dq15, .inl (cI, 10, .inl d_reservedTo)), (dq18, .inl (cI, 10, .inl d_pieceDual)), (dq19, .inl (cI, 10, .inl d_orderDual)), (dq20, .inl (cJ, 11264, .inr (.inl d_table)))]) [0, 1, 2, 3, 4, 5, 6, 7, 8, 9, 10, 11] (by decide) rfl
    have hFc := va_free (wc := [(dq, .inr (5, [.int d_thrown, .int d_today, .int d_cut, .int d_aging, .int d_saleFrom, .int d_pieces, .int d_orders, .ref dq8, .ref dq9, .ref dq10, .ref dq11, .ref dq12, .ref dq13, .ref dq14, .ref dq15, .int d_ran, .int d_sum, .ref dq18, .ref dq19, .ref dq20])), (dq8, .inl (cI, 40, .inl d_piece)), (dq9, .inl (cI, 40, .inl d_order)), (dq10, .inl (cI, 10, .inl d_came)), (dq11, .inl (cI, 100, .inl d_worth)), (dq12, .inl (cZ, 10, .inl d_used)), (dq13, .inl (cI, 10, .inl d_usedBy)), (dq14, .inl (cI, 10, .inl d_reservedFor)), (dq15, .inl (cI, 10, .inl d_reservedTo)), (dq18, .inl (cI, 10, .inl d_pieceDual)), (dq19, .inl (cI, 10, .inl d_orderDual)), (dq20, .inl (cJ, 11264, .inr (.inl d_table)))]) hD hS hA [0, 1, 2, 3, 4, 5, 6, 7, 8, 9, 10, 11] rfl
    refine va_calli (va_runV (As := [.int r1, .int 0, .int 1, .int 1]) (rest := []) ⟨hx, hb, hml, hown, hts⟩ (c_D_goes l dC dI cI cZ cJ dq dq8 dq9 dq10 dq11 dq12 dq13 dq14 dq15 dq18 dq19 dq20 s.heap.size d_thrown d_today d_cut d_aging d_saleFrom d_pieces d_orders d_piece d_order d_came d_worth d_used d_usedBy d_reservedFor d_reservedTo d_ran d_sum d_pieceDual d_orderDual d_table r1 0 1 1 N (r2, u3) hc) (cwV 4 hts (gV (w0 670 rfl) (w0 671 rfl) (w0 18 rfl) (w0 33 rfl) (w0 672 rfl)) rfl rfl rfl q_D_goes ⟨Nat.le_of_ble_eq_true rfl, Nat.le_of_ble_eq_true rfl⟩) (wr_preV hK hPc hDc hN 5 0 (R_D, F_D, 20) rfl rfl) rfl rfl hl.1 rfl (lv_room (Nat.le_of_ble_eq_true rfl)) d_D_several_36 ⟨Nat.le_of_ble_eq_true rfl, Nat.le_of_ble_eq_true rfl⟩) hS (fun q _ h => hFc q h) hFc (fun r9 u t H1 locs ht hvm hw hB hz1 hk1 hS => ?_)
    subst hw
    obtain ⟨hP1, hK1, hD1⟩ := hB
    rw [ht] at hP1
    obtain ⟨hP, hD⟩ := va_join (wr := []) (w1 := [(dq, .inr (5, [.int u3, .int d_today, .int d_cut, .int d_aging, .int d_saleFrom, .int d_pieces, .int d_orders, .ref dq8, .ref dq9, .ref dq10, .ref dq11, .ref dq12, .ref dq13, .ref dq14, .ref dq15, .int d_ran, .int d_sum, .ref dq18, .ref dq19, .ref dq20])), (dq8, .inl (cI, 40, .inl d_piece)), (dq9, .inl (cI, 40, .inl d_order)), (dq10, .inl (cI, 10, .inl d_came)), (dq11, .inl (cI, 100, .inl d_worth)), (dq12, .inl (cZ, 10, .inl d_used)), (dq13, .inl (cI, 10, .inl d_usedBy)), (dq14, .inl (cI, 10, .inl d_reservedFor)), (dq15, .inl (cI, 10, .inl d_reservedTo)), (dq18, .inl (cI, 10, .inl d_pieceDual)), (dq19, .inl (cI, 10, .inl d_orderDual)), (dq20, .inl (cJ, 11264, .inr (.inl d_table)))]) hP hD [0, 1, 2, 3, 4, 5, 6, 7, 8, 9, 10, 11] [] rfl rfl (by decide) (by decide) hk1 hFc hP1 hD1
    generalize H1 = H at hP hS ⊢
    have hP : va_P (dC, dI) classes [(dq, .inr (5, [.int u3, .int d_today, .int d_cut, .int d_aging, .int d_saleFrom, .int d_pieces, .int d_orders, .ref dq8, .ref dq9, .ref dq10, .ref dq11, .ref dq12, .ref dq13, .ref dq14, .ref dq15, .int d_ran, .int d_sum, .ref dq18, .ref dq19, .ref dq20])), (dq8, .inl (cI, 40, .inl d_piece)), (dq9, .inl (cI, 40, .inl d_order)), (dq10, .inl (cI, 10, .inl d_came)), (dq11, .inl (cI, 100, .inl d_worth)), (dq12, .inl (cZ, 10, .inl d_used)), (dq13, .inl (cI, 10, .inl d_usedBy)), (dq14, .inl (cI, 10, .inl d_reservedFor)), (dq15, .inl (cI, 10, .inl d_reservedTo)), (dq18, .inl (cI, 10, .inl d_pieceDual)), (dq19, .inl (cI, 10, .inl d_orderDual)), (dq20, .inl (cJ, 11264, .inr (.inl d_table)))] H := hP
    have hD : va_D A [(dq, .inr (5, [.int u3, .int d_today, .int d_cut, .int d_aging, .int d_saleFrom, .int d_pieces, .int d_orders, .ref dq8, .ref dq9, .ref dq10, .ref dq11, .ref dq12, .ref dq13, .ref dq14, .ref dq15, .int d_ran, .int d_sum, .ref dq18, .ref dq19, .ref dq20])), (dq8, .inl (cI, 40, .inl d_piece)), (dq9, .inl (cI, 40, .inl d_order)), (dq10, .inl (cI, 10, .inl d_came)), (dq11, .inl (cI, 100, .inl d_worth)), (dq12, .inl (cZ, 10, .inl d_used)), (dq13, .inl (cI, 10, .inl d_usedBy)), (dq14, .inl (cI, 10, .inl d_reservedFor)), (dq15, .inl (cI, 10, .inl d_reservedTo)), (dq18, .inl (cI, 10, .inl d_pieceDual)), (dq19, .inl (cI, 10, .inl d_orderDual)), (dq20, .inl (cJ, 11264, .inr (.inl d_table)))] := hD
    clear hP1 hD1 hPc hDc hFc hk1 hz1
    refine lv_if_ne (tgt := 44) hx hb d_D_several_39 (by decide) (fun c9 => ?_) (fun c9 => ?_)
    · replace hm := if_f c9 hm
      refine lv_iconst (v := 0) hx hb d_D_several_44 (by decide) ?_
      refine lv_istore_n (lv' := [(3, .int 0), (2, .int r1), (0, .ref dq), (1, .int x1)]) hx hb d_D_several_45 rfl hl (by decide) rfl (fun ls hl => ?_)
      refine lv_iconst (v := 0) hx hb d_D_several_46 (by decide) ?_
      refine lv_istore (lv' := [(4, .int 0), (3, .int 0), (2, .int r1), (0, .ref dq), (1, .int x1)]) hx hb d_D_several_47 hl (by decide) rfl (fun ls hl => ?_)
      refine lv_iconst (v := 0) hx hb d_D_several_49 (by decide) ?_
      refine lv_istore (lv' := [(5, .int 0), (4, .int 0), (3, .int 0), (2, .int r1), (0, .ref dq), (1, .int x1)]) hx hb d_D_several_50 hl (by decide) rfl (fun ls hl => ?_)
      refine lv_iconst (v := 1) hx hb d_D_several_52 (by decide) ?_
      refine lv_istore (lv' := [(6, .int 1), (5, .int 0), (4, .int 0), (3, .int 0), (2, .int r1), (0, .ref dq), (1, .int x1)]) hx hb d_D_several_53 hl (by decide) rfl (fun ls hl => ?_)
      have key55 : ∀ (K : Int32 → Int32 → Int32 → Int32 → Int32 → Int32 → Int32 → (Nat → Int32) → (Nat → Int32) → Option (Int32 × Int32 × (Nat → Int32) × (Nat → Int32))) (_ : ∀ (y1a : Int32) (y2a : Int32) (y3a : Int32) (y4a : Int32) (y5a : Int32) (y6a : Int32) (d_throwna : Int32) (d_useda : Nat → Int32) (d_usedBya : Nat → Int32) (H : Heap) (locs : List Loc) (ls : Array Slot), lv_has ls 12 [(0, .ref dq), (1, .int y1a), (2, .int y2a), (3, .int y3a), (4, .int y4a), (5, .int y5a), (6, .int y6a)] → va_P (dC, dI) classes [(dq, .inr (5, [.int d_throwna, .int d_today, .int d_cut, .int d_aging, .int d_saleFrom, .int d_pieces, .int d_orders, .ref dq8, .ref dq9, .ref dq10, .ref dq11, .ref dq12, .ref dq13, .ref dq14, .ref dq15, .int d_ran, .int d_sum, .ref dq18, .ref dq19, .ref dq20])), (dq8, .inl (cI, 40, .inl d_piece)), (dq9, .inl (cI, 40, .inl d_order)), (dq10, .inl (cI, 10, .inl d_came)), (dq11, .inl (cI, 100, .inl d_worth)), (dq12, .inl (cZ, 10, .inl d_useda)), (dq13, .inl (cI, 10, .inl d_usedBya)), (dq14, .inl (cI, 10, .inl d_reservedFor)), (dq15, .inl (cI, 10, .inl d_reservedTo)), (dq18, .inl (cI, 10, .inl d_pieceDual)), (dq19, .inl (cI, 10, .inl d_orderDual)), (dq20, .inl (cJ, 11264, .inr (.inl d_table)))] H → va_D A [(dq, .inr (5, [.int d_throwna, .int d_today, .int d_cut, .int d_aging, .int d_saleFrom, .int d_pieces, .int d_orders, .ref dq8, .ref dq9, .ref dq10, .ref dq11, .ref dq12, .ref dq13, .ref dq14, .ref dq15, .int d_ran, .int d_sum, .ref dq18, .ref dq19, .ref dq20])), (dq8, .inl (cI, 40, .inl d_piece)), (dq9, .inl (cI, 40, .inl d_order)), (dq10, .inl (cI, 10, .inl d_came)), (dq11, .inl (cI, 100, .inl d_worth)), (dq12, .inl (cZ, 10, .inl d_useda)), (dq13, .inl (cI, 10, .inl d_usedBya)), (dq14, .inl (cI, 10, .inl d_reservedFor)), (dq15, .inl (cI, 10, .inl d_reservedTo)), (dq18, .inl (cI, 10, .inl d_pieceDual)), (dq19, .inl (cI, 10, .inl d_orderDual)), (dq20, .inl (cJ, 11264, .inr (.inl d_table)))] → va_S A s.heap H locs → K y1a y2a y3a y4a y5a y6a d_throwna d_useda d_usedBya = some res → W p l e (headSpec w_D_several ({ frames := 3, cells := 0, slots := 0, locals := 67 } : Room)).room s m ([.ref dq, .int x1] : List Value).toArray below meth c H locs 0 0 (MQ below (va_Qi (fun (x : Int32) (_ : Unit) => res.1 = x) (fun _ t => va_P (dC, dI) classes [(dq, .inr (5, [.int res.2.1, .int d_today, .int d_cut, .int d_aging, .int d_saleFrom, .int d_pieces, .int d_orders, .ref dq8, .ref dq9, .ref dq10, .ref dq11, .ref dq12, .ref dq13, .ref dq14, .ref dq15, .int d_ran, .int d_sum, .ref dq18, .ref dq19, .ref dq20])), (dq8, .inl (cI, 40, .inl d_piece)), (dq9, .inl (cI, 40, .inl d_order)), (dq10, .inl (cI, 10, .inl d_came)), (dq11, .inl (cI, 100, .inl d_worth)), (dq12, .inl (cZ, 10, .inl res.2.2.1)), (dq13, .inl (cI, 10, .inl res.2.2.2)), (dq14, .inl (cI, 10, .inl d_reservedFor)), (dq15, .inl (cI, 10, .inl d_reservedTo)), (dq18, .inl (cI, 10, .inl d_pieceDual)), (dq19, .inl (cI, 10, .inl d_orderDual)), (dq20, .inl (cJ, 11264, .inr (.inl d_table)))] t.heap ∧ va_K (dC, dI) classes [(cI, .int), (cZ, .boolean), (cJ, .long)] t ∧ va_D A [(dq, .inr (5, [.int res.2.1, .int d_today, .int d_cut, .int d_aging, .int d_saleFrom, .int d_pieces, .int d_orders, .ref dq8, .ref dq9, .ref dq10, .ref dq11, .ref dq12, .ref dq13, .ref dq14, .ref dq15, .int d_ran, .int d_sum, .ref dq18, .ref dq19, .ref dq20])), (dq8, .inl (cI, 40, .inl d_piece)), (dq9, .inl (cI, 40, .inl d_order)), (dq10, .inl (cI, 10, .inl d_came)), (dq11, .inl (cI, 100, .inl d_worth)), (dq12, .inl (cZ, 10, .inl res.2.2.1)), (dq13, .inl (cI, 10, .inl res.2.2.2)), (dq14, .inl (cI, 10, .inl d_reservedFor)), (dq15, .inl (cI, 10, .inl d_reservedTo)), (dq18, .inl (cI, 10, .inl d_pieceDual)), (dq19, .inl (cI, 10, .inl d_orderDual)), (dq20, .inl (cJ, 11264, .inr (.inl d_table)))]) A) ([.ref dq, .int x1] : List Value).toArray s 0 0 A) (F0 m 230 ls [])) (n : Nat) (y1a : Int32) (y2a : Int32) (y3a : Int32) (y4a : Int32) (y5a : Int32) (y6a : Int32) (d_throwna : Int32) (d_useda : Nat → Int32) (d_usedBya : Nat → Int32) (H : Heap) (locs : List Loc) (ls : Array Slot), lv_has ls 12 [(0, .ref dq), (1, .int y1a), (2, .int y2a), (3, .int y3a), (4, .int y4a), (5, .int y5a), (6, .int y6a)] → va_P (dC, dI) classes [(dq, .inr (5, [.int d_throwna, .int d_today, .int d_cut, .int d_aging, .int d_saleFrom, .int d_pieces, .int d_orders, .ref dq8, .ref dq9, .ref dq10, .ref dq11, .ref dq12, .ref dq13, .ref dq14, .ref dq15, .int d_ran, .int d_sum, .ref dq18, .ref dq19, .ref dq20])), (dq8, .inl (cI, 40, .inl d_piece)), (dq9, .inl (cI, 40, .inl d_order)), (dq10, .inl (cI, 10, .inl d_came)), (dq11, .inl (cI, 100, .inl d_worth)), (dq12, .inl (cZ, 10, .inl d_useda)), (dq13, .inl (cI, 10, .inl d_usedBya)), (dq14, .inl (cI, 10, .inl d_reservedFor)), (dq15, .inl (cI, 10, .inl d_reservedTo)), (dq18, .inl (cI, 10, .inl d_pieceDual)), (dq19, .inl (cI, 10, .inl d_orderDual)), (dq20, .inl (cJ, 11264, .inr (.inl d_table)))] H → va_D A [(dq, .inr (5, [.int d_throwna, .int d_today, .int d_cut, .int d_aging, .int d_saleFrom, .int d_pieces, .int d_orders, .ref dq8, .ref dq9, .ref dq10, .ref dq11, .ref dq12, .ref dq13, .ref dq14, .ref dq15, .int d_ran, .int d_sum, .ref dq18, .ref dq19, .ref dq20])), (dq8, .inl (cI, 40, .inl d_piece)), (dq9, .inl (cI, 40, .inl d_order)), (dq10, .inl (cI, 10, .inl d_came)), (dq11, .inl (cI, 100, .inl d_worth)), (dq12, .inl (cZ, 10, .inl d_useda)), (dq13, .inl (cI, 10, .inl d_usedBya)), (dq14, .inl (cI, 10, .inl d_reservedFor)), (dq15, .inl (cI, 10, .inl d_reservedTo)), (dq18, .inl (cI, 10, .inl d_pieceDual)), (dq19, .inl (cI, 10, .inl d_orderDual)), (dq20, .inl (cJ, 11264, .inr (.inl d_table)))] → va_S A s.heap H locs → L_D_several_55 N d_today d_cut d_aging d_pieces d_orders d_piece d_order d_came d_worth d_reservedFor d_reservedTo K n y1a y2a y3a y4a y5a y6a d_throwna d_useda d_usedBya = some res → W p l e (headSpec w_D_several ({ frames := 3, cells := 0, slots := 0, locals := 67 } : Room)).room s m ([.ref dq, .int x1] : List Value).toArray below meth c H locs 0 0 (MQ below (va_Qi (fun (x : Int32) (_ : Unit) => res.1 = x) (fun _ t => va_P (dC, dI) classes [(dq, .inr (5, [.int res.2.1, .int d_today, .int d_cut, .int d_aging, .int d_saleFrom, .int d_pieces, .int d_orders, .ref dq8, .ref dq9, .ref dq10, .ref dq11, .ref dq12, .ref dq13, .ref dq14, .ref dq15, .int d_ran, .int d_sum, .ref dq18, .ref dq19, .ref dq20])), (dq8, .inl (cI, 40, .inl d_piece)), (dq9, .inl (cI, 40, .inl d_order)), (dq10, .inl (cI, 10, .inl d_came)), (dq11, .inl (cI, 100, .inl d_worth)), (dq12, .inl (cZ, 10, .inl res.2.2.1)), (dq13, .inl (cI, 10, .inl res.2.2.2)), (dq14, .inl (cI, 10, .inl d_reservedFor)), (dq15, .inl (cI, 10, .inl d_reservedTo)), (dq18, .inl (cI, 10, .inl d_pieceDual)), (dq19, .inl (cI, 10, .inl d_orderDual)), (dq20, .inl (cJ, 11264, .inr (.inl d_table)))] t.heap ∧ va_K (dC, dI) classes [(cI, .int), (cZ, .boolean), (cJ, .long)] t ∧ va_D A [(dq, .inr (5, [.int res.2.1, .int d_today, .int d_cut, .int d_aging, .int d_saleFrom, .int d_pieces, .int d_orders, .ref dq8, .ref dq9, .ref dq10, .ref dq11, .ref dq12, .ref dq13, .ref dq14, .ref dq15, .int d_ran, .int d_sum, .ref dq18, .ref dq19, .ref dq20])), (dq8, .inl (cI, 40, .inl d_piece)), (dq9, .inl (cI, 40, .inl d_order)), (dq10, .inl (cI, 10, .inl d_came)), (dq11, .inl (cI, 100, .inl d_worth)), (dq12, .inl (cZ, 10, .inl res.2.2.1)), (dq13, .inl (cI, 10, .inl res.2.2.2)), (dq14, .inl (cI, 10, .inl d_reservedFor)), (dq15, .inl (cI, 10, .inl d_reservedTo)), (dq18, .inl (cI, 10, .inl d_pieceDual)), (dq19, .inl (cI, 10, .inl d_orderDual)), (dq20, .inl (cJ, 11264, .inr (.inl d_table)))]) A) ([.ref dq, .int x1] : List Value).toArray s 0 0 A) (F0 m 55 ls []) := by
        intro K hK55 n
        induction n with
        | zero => intro y1a y2a y3a y4a y5a y6a d_throwna d_useda d_usedBya H locs ls hl hP hD hS hm; exact absurd hm (by simp [L_D_several_55])
        | succ n ih55 =>
          intro y1a y2a y3a y4a y5a y6a d_throwna d_useda d_usedBya H locs ls hl hP hD hS hm
          rw [L_D_several_55] at hm
          refine lv_iload hx hb d_D_several_55 (lv_at hl 6 rfl) ?_
          refine lv_sipush (v := 1024) hx hb d_D_several_57 (by decide) ?_
          refine lv_icmp_ge (tgt := 230) hx hb d_D_several_60 (by decide) (fun c9 => ?_) (fun c9 => ?_)
          · replace hm := if_t c9 hm
            have hl : lv_has ls 12 [(0, .ref dq), (1, .int y1a), (2, .int y2a), (3, .int y3a), (4, .int y4a), (5, .int y5a), (6, .int y6a)] := lv_sub hl [0, 1, 2, 3, 4, 5, 6] rfl
            exact hK55 y1a y2a y3a y4a y5a y6a d_throwna d_useda d_usedBya _ _ ls hl hP hD hS hm
          · replace hm := if_f c9 hm
            refine lv_iconst (v := 0) hx hb d_D_several_63 (by decide) ?_
            refine lv_istore (lv' := [(7, .int 0), (0, .ref dq), (1, .int y1a), (2, .int y2a), (3, .int y3a), (4, .int y4a), (5, .int y5a), (6, .int y6a)]) hx hb d_D_several_64 hl (by decide) rfl (fun ls hl => ?_)
            refine lv_iconst (v := 0) hx hb d_D_several_66 (by decide) ?_
            refine lv_istore (lv' := [(8, .int 0), (7, .int 0), (0, .ref dq), (1, .int y1a), (2, .int y2a), (3, .int y3a), (4, .int y4a), (5, .int y5a), (6, .int y6a)]) hx hb d_D_several_67 hl (by decide) rfl (fun ls hl => ?_)
            refine lv_iconst (v := 0) hx hb d_D_several_69 (by decide) ?_
            refine lv_istore (lv' := [(9, .int 0), (8, .int 0), (7, .int 0), (0, .ref dq), (1, .int y1a), (2, .int y2a), (3, .int y3a), (4, .int y4a), (5, .int y5a), (6, .int y6a)]) hx hb d_D_several_70 hl (by decide) rfl (fun ls hl => ?_)
            refine lv_iconst (v := 1) hx hb d_D_several_72 (by decide) ?_
            refine lv_istore (lv' := [(10, .int 1), (9, .int 0), (8, .int 0), (7, .int 0), (0, .ref dq), (1, .int y1a), (2, .int y2a), (3, .int y3a), (4, .int y4a), (5, .int y5a), (6, .int y6a)]) hx hb d_D_several_73 hl (by decide) rfl (fun ls hl => ?_)
            refine lv_iconst (v := 0) hx hb d_D_several_75 (by decide) ?_
            refine lv_istore (lv' := [(11, .int 0), (10, .int 1), (9, .int 0), (8, .int 0), (7, .int 0), (0, .ref dq), (1, .int y1a), (2, .int y2a), (3, .int y3a), (4, .int y4a), (5, .int y5a), (6, .int y6a)]) hx hb d_D_several_76 hl (by decide) rfl (fun ls hl => ?_)
            have key78 : ∀ (K : Int32 → Int32 → Int32 → Int32 → Int32 → Int32 → Int32 → Int32 → Int32 → Int32 → Int32 → Int32 → (Nat → Int32) → (Nat → Int32) → Option (Int32 × Int32 × (Nat → Int32) × (Nat → Int32))) (_ : ∀ (y1b : Int32) (y2b : Int32) (y3b : Int32) (y4b : Int32) (y5b : Int32) (y6b : Int32) (y7b : Int32) (y8b : Int32) (y9b : Int32) (y10b : Int32) (y11b : Int32) (d_thrownb : Int32) (d_usedb : Nat → Int32) (d_usedByb : Nat → Int32) (H : Heap) (locs : List Loc) (ls : Array Slot), lv_has ls 12 [(0, .ref dq), (1, .int y1b), (2, .int y2b), (3, .int y3b), (4, .int y4b), (5, .int y5b), (6, .int y6b), (7, .int y7b), (8, .int y8b), (9, .int y9b), (10, .int y10b), (11, .int y11b)] → va_P (dC, dI) classes [(dq, .inr (5, [.int d_thrownb, .int d_today, .int d_cut, .int d_aging, .int d_saleFrom, .int d_pieces, .int d_orders, .ref dq8, .ref dq9, .ref dq10, .ref dq11, .ref dq12, .ref dq13, .ref dq14, .ref dq15, .int d_ran, .int d_sum, .ref dq18, .ref dq19, .ref dq20])), (dq8, .inl (cI, 40, .inl d_piece)), (dq9, .inl (cI, 40, .inl d_order)), (dq10, .inl (cI, 10, .inl d_came)), (dq11, .inl (cI, 100, .inl d_worth)), (dq12, .inl (cZ, 10, .inl d_usedb)), (dq13, .inl (cI, 10, .inl d_usedByb)), (dq14, .inl (cI, 10, .inl d_reservedFor)), (dq15, .inl (cI, 10, .inl d_reservedTo)), (dq18, .inl (cI, 10, .inl d_pieceDual)), (dq19, .inl (cI, 10, .inl d_orderDual)), (dq20, .inl (cJ, 11264, .inr (.inl d_table)))] H → va_D A [(dq, .inr (5, [.int d_thrownb, .int d_today, .int d_cut, .int d_aging, .int d_saleFrom, .int d_pieces, .int d_orders, .ref dq8, .ref dq9, .ref dq10, .ref dq11, .ref dq12, .ref dq13, .ref dq14, .ref dq15, .int d_ran, .int d_sum, .ref dq18, .ref dq19, .ref dq20])), (dq8, .inl (cI, 40, .inl d_piece)), (dq9, .inl (cI, 40, .inl d_order)), (dq10, .inl (cI, 10, .inl d_came)), (dq11, .inl (cI, 100, .inl d_worth)), (dq12, .inl (cZ, 10, .inl d_usedb)), (dq13, .inl (cI, 10, .inl d_usedByb)), (dq14, .inl (cI, 10, .inl d_reservedFor)), (dq15, .inl (cI, 10, .inl d_reservedTo)), (dq18, .inl (cI, 10, .inl d_pieceDual)), (dq19, .inl (cI, 10, .inl d_orderDual)), (dq20, .inl (cJ, 11264, .inr (.inl d_table)))] → va_S A s.heap H locs → K y1b y2b y3b y4b y5b y6b y7b y8b y9b y10b y11b d_thrownb d_usedb d_usedByb = some res → W p l e (headSpec w_D_several ({ frames := 3, cells := 0, slots := 0, locals := 67 } : Room)).room s m ([.ref dq, .int x1] : List Value).toArray below meth c H locs 0 0 (MQ below (va_Qi (fun (x : Int32) (_ : Unit) => res.1 = x) (fun _ t => va_P (dC, dI) classes [(dq, .inr (5, [.int res.2.1, .int d_today, .int d_cut, .int d_aging, .int d_saleFrom, .int d_pieces, .int d_orders, .ref dq8, .ref dq9, .ref dq10, .ref dq11, .ref dq12, .ref dq13, .ref dq14, .ref dq15, .int d_ran, .int d_sum, .ref dq18, .ref dq19, .ref dq20])), (dq8, .inl (cI, 40, .inl d_piece)), (dq9, .inl (cI, 40, .inl d_order)), (dq10, .inl (cI, 10, .inl d_came)), (dq11, .inl (cI, 100, .inl d_worth)), (dq12, .inl (cZ, 10, .inl res.2.2.1)), (dq13, .inl (cI, 10, .inl res.2.2.2)), (dq14, .inl (cI, 10, .inl d_reservedFor)), (dq15, .inl (cI, 10, .inl d_reservedTo)), (dq18, .inl (cI, 10, .inl d_pieceDual)), (dq19, .inl (cI, 10, .inl d_orderDual)), (dq20, .inl (cJ, 11264, .inr (.inl d_table)))] t.heap ∧ va_K (dC, dI) classes [(cI, .int), (cZ, .boolean), (cJ, .long)] t ∧ va_D A [(dq, .inr (5, [.int res.2.1, .int d_today, .int d_cut, .int d_aging, .int d_saleFrom, .int d_pieces, .int d_orders, .ref dq8, .ref dq9, .ref dq10, .ref dq11, .ref dq12, .ref dq13, .ref dq14, .ref dq15, .int d_ran, .int d_sum, .ref dq18, .ref dq19, .ref dq20])), (dq8, .inl (cI, 40, .inl d_piece)), (dq9, .inl (cI, 40, .inl d_order)), (dq10, .inl (cI, 10, .inl d_came)), (dq11, .inl (cI, 100, .inl d_worth)), (dq12, .inl (cZ, 10, .inl res.2.2.1)), (dq13, .inl (cI, 10, .inl res.2.2.2)), (dq14, .inl (cI, 10, .inl d_reservedFor)), (dq15, .inl (cI, 10, .inl d_reservedTo)), (dq18, .inl (cI, 10, .inl d_pieceDual)), (dq19, .inl (cI, 10, .inl d_orderDual)), (dq20, .inl (cJ, 11264, .inr (.inl d_table)))]) A) ([.ref dq, .int x1] : List Value).toArray s 0 0 A) (F0 m 160 ls [])) (n : Nat) (y1b : Int32) (y2b : Int32) (y3b : Int32) (y4b : Int32) (y5b : Int32) (y6b : Int32) (y7b : Int32) (y8b : Int32) (y9b : Int32) (y10b : Int32) (y11b : Int32) (d_thrownb : Int32) (d_usedb : Nat → Int32) (d_usedByb : Nat → Int32) (H : Heap) (locs : List Loc) (ls : Array Slot), lv_has ls 12 [(0, .ref dq), (1, .int y1b), (2, .int y2b), (3, .int y3b), (4, .int y4b), (5, .int y5b), (6, .int y6b), (7, .int y7b), (8, .int y8b), (9, .int y9b), (10, .int y10b), (11, .int y11b)] → va_P (dC, dI) classes [(dq, .inr (5, [.int d_thrownb, .int d_today, .int d_cut, .int d_aging, .int d_saleFrom, .int d_pieces, .int d_orders, .ref dq8, .ref dq9, .ref dq10, .ref dq11, .ref dq12, .ref dq13, .ref dq14, .ref dq15, .int d_ran, .int d_sum, .ref dq18, .ref dq19, .ref dq20])), (dq8, .inl (cI, 40, .inl d_piece)), (dq9, .inl (cI, 40, .inl d_order)), (dq10, .inl (cI, 10, .inl d_came)), (dq11, .inl (cI, 100, .inl d_worth)), (dq12, .inl (cZ, 10, .inl d_usedb)), (dq13, .inl (cI, 10, .inl d_usedByb)), (dq14, .inl (cI, 10, .inl d_reservedFor)), (dq15, .inl (cI, 10, .inl d_reservedTo)), (dq18, .inl (cI, 10, .inl d_pieceDual)), (dq19, .inl (cI, 10, .inl d_orderDual)), (dq20, .inl (cJ, 11264, .inr (.inl d_table)))] H → va_D A [(dq, .inr (5, [.int d_thrownb, .int d_today, .int d_cut, .int d_aging, .int d_saleFrom, .int d_pieces, .int d_orders, .ref dq8, .ref dq9, .ref dq10, .ref dq11, .ref dq12, .ref dq13, .ref dq14, .ref dq15, .int d_ran, .int d_sum, .ref dq18, .ref dq19, .ref dq20])), (dq8, .inl (cI, 40, .inl d_piece)), (dq9, .inl (cI, 40, .inl d_order)), (dq10, .inl (cI, 10, .inl d_came)), (dq11, .inl (cI, 100, .inl d_worth)), (dq12, .inl (cZ, 10, .inl d_usedb)), (dq13, .inl (cI, 10, .inl d_usedByb)), (dq14, .inl (cI, 10, .inl d_reservedFor)), (dq15, .inl (cI, 10, .inl d_reservedTo)), (dq18, .inl (cI, 10, .inl d_pieceDual)), (dq19, .inl (cI, 10, .inl d_orderDual)), (dq20, .inl (cJ, 11264, .inr (.inl d_table)))] → va_S A s.heap H locs → L_D_several_78 N d_today d_cut d_aging d_pieces d_orders d_piece d_order d_came d_worth d_reservedFor d_reservedTo K n y1b y2b y3b y4b y5b y6b y7b y8b y9b y10b y11b d_thrownb d_usedb d_usedByb = some res → W p l e (headSpec w_D_several ({ frames := 3, cells := 0, slots := 0, locals := 67 } : Room)).room s m ([.ref dq, .int x1] : List Value).toArray below meth c H locs 0 0 (MQ below (va_Qi (fun (x : Int32) (_ : Unit) => res.1 = x) (fun _ t => va_P (dC, dI) classes [(dq, .inr (5, [.int res.2.1, .int d_today, .int d_cut, .int d_aging, .int d_saleFrom, .int d_pieces, .int d_orders, .ref dq8, .ref dq9, .ref dq10, .ref dq11, .ref dq12, .ref dq13, .ref dq14, .ref dq15, .int d_ran, .int d_sum, .ref dq18, .ref dq19, .ref dq20])), (dq8, .inl (cI, 40, .inl d_piece)), (dq9, .inl (cI, 40, .inl d_order)), (dq10, .inl (cI, 10, .inl d_came)), (dq11, .inl (cI, 100, .inl d_worth)), (dq12, .inl (cZ, 10, .inl res.2.2.1)), (dq13, .inl (cI, 10, .inl res.2.2.2)), (dq14, .inl (cI, 10, .inl d_reservedFor)), (dq15, .inl (cI, 10, .inl d_reservedTo)), (dq18, .inl (cI, 10, .inl d_pieceDual)), (dq19, .inl (cI, 10, .inl d_orderDual)), (dq20, .inl (cJ, 11264, .inr (.inl d_table)))] t.heap ∧ va_K (dC, dI) classes [(cI, .int), (cZ, .boolean), (cJ, .long)] t ∧ va_D A [(dq, .inr (5, [.int res.2.1, .int d_today, .int d_cut, .int d_aging, .int d_saleFrom, .int d_pieces, .int d_orders, .ref dq8, .ref dq9, .ref dq10, .ref dq11, .ref dq12, .ref dq13, .ref dq14, .ref dq15, .int d_ran, .int d_sum, .ref dq18, .ref dq19, .ref dq20])), (dq8, .inl (cI, 40, .inl d_piece)), (dq9, .inl (cI, 40, .inl d_order)), (dq10, .inl (cI, 10, .inl d_came)), (dq11, .inl (cI, 100, .inl d_worth)), (dq12, .inl (cZ, 10, .inl res.2.2.1)), (dq13, .inl (cI, 10, .inl res.2.2.2)), (dq14, .inl (cI, 10, .inl d_reservedFor)), (dq15, .inl (cI, 10, .inl d_reservedTo)), (dq18, .inl (cI, 10, .inl d_pieceDual)), (dq19, .inl (cI, 10, .inl d_orderDual)), (dq20, .inl (cJ, 11264, .inr (.inl d_table)))]) A) ([.ref dq, .int x1] : List Value).toArray s 0 0 A) (F0 m 78 ls []) := by
              intro K hK78 n
              induction n with
              | zero => intro y1b y2b y3b y4b y5b y6b y7b y8b y9b y10b y11b d_thrownb d_usedb d_usedByb H locs ls hl hP hD hS hm; exact absurd hm (by simp [L_D_several_78])
              | succ n ih78 =>
                intro y1b y2b y3b y4b y5b y6b y7b y8b y9b y10b y11b d_thrownb d_usedb d_usedByb H locs ls hl hP hD hS hm
                rw [L_D_several_78] at hm
                refine lv_iload hx hb d_D_several_78 (lv_at hl 11 rfl) ?_
                refine lv_bipush (v := 10) hx hb d_D_several_80 (by decide) ?_
                refine lv_icmp_ge (tgt := 160) hx hb d_D_several_82 (by decide) (fun c9 => ?_) (fun c9 => ?_)
                · replace hm := if_t c9 hm
                  have hl : lv_has ls 12 [(0, .ref dq), (1, .int y1b), (2, .int y2b), (3, .int y3b), (4, .int y4b), (5, .int y5b), (6, .int y6b), (7, .int y7b), (8, .int y8b), (9, .int y9b), (10, .int y10b), (11, .int y11b)] := lv_sub hl [0, 1, 2, 3, 4, 5, 6, 7, 8, 9, 10, 11] rfl
                  exact hK78 y1b y2b y3b y4b y5b y6b y7b y8b y9b y10b y11b d_thrownb d_usedb d_usedByb _ _ ls hl hP hD hS hm
                · replace hm := if_f c9 hm
                  refine lv_iload hx hb d_D_several_85 (lv_at hl 6 rfl) ?_
                  refine lv_iload hx hb d_D_several_87 (lv_at hl 11 rfl) ?_
                  refine lv_ishr hx hb d_D_several_89 ?_
                  refine lv_iconst (v := 1) hx hb d_D_several_90 (by decide) ?_
                  refine lv_iand hx hb d_D_several_91 ?_
                  refine lv_if_ne (tgt := 98) hx hb d_D_several_92 (by decide) (fun c9 => ?_) (fun c9 => ?_)
                  · replace hm := if_f c9 hm
                    refine lv_iload hx hb d_D_several_98 (lv_at hl 11 rfl) ?_
                    refine lv_aload_n hx hb d_D_several_100 rfl (lv_at hl 0 rfl) ?_
                    refine va_get (D := (dC, dI)) (ci := 5) (v := .int d_orders) (C := R_D) (T := F_D) (N := 20) hx hb hts hk1 hown hK hP 0 rfl rfl 6 (by decide) hk0 (fun _ h9 => h9) rfl d_D_several_101 ?_
                    refine lv_icmp_ge (tgt := 117) hx hb d_D_several_104 (by decide) (fun c9 => ?_) (fun c9 => ?_)
                    · replace hm := if_t c9 hm
                      refine lv_iconst (v := 0) hx hb d_D_several_117 (by decide) ?_
                      refine lv_istore (lv' := [(10, .int 0), (0, .ref dq), (1, .int y1b), (2, .int y2b), (3, .int y3b), (4, .int y4b), (5, .int y5b), (6, .int y6b), (7, .int y7b), (8, .int y8b), (9, .int y9b), (11, .int y11b)]) hx hb d_D_several_118 hl (by decide) rfl (fun ls hl => ?_)
                      refine lv_goto (tgt := 154) hx hb d_D_several_120 (by decide) ?_
                      refine lv_iinc (v := (y11b + 1)) (lv' := [(11, .int (y11b + 1)), (10, .int 0), (0, .ref dq), (1, .int y1b), (2, .int y2b), (3, .int y3b), (4, .int y4b), (5, .int y5b), (6, .int y6b), (7, .int y7b), (8, .int y8b), (9, .int y9b)]) hx hb d_D_several_154 hl (k := 11) rfl rfl (by decide) rfl (fun ls hl => ?_)
                      refine lv_goto (tgt := 78) hx hb d_D_several_157 (by decide) ?_
                      have hl : lv_has ls 12 [(0, .ref dq), (1, .int y1b), (2, .int y2b), (3, .int y3b), (4, .int y4b), (5, .int y5b), (6, .int y6b), (7, .int y7b), (8, .int y8b), (9, .int y9b), (10, .int 0), (11, .int (y11b + 1))] := lv_sub hl [2, 3, 4, 5, 6, 7, 8, 9, 10, 11, 1, 0] rfl
                      exact ih78 y1b y2b y3b y4b y5b y6b y7b y8b y9b 0 (y11b + 1) d_thrownb d_usedb d_usedByb _ _ ls hl hP hD hS hm
                    · replace hm := if_f c9 hm
                      refine lv_aload_n hx hb d_D_several_107 rfl (lv_at hl 0 rfl) ?_
                      refine lv_iload_n hx hb d_D_several_108 rfl (lv_at hl 1 rfl) ?_
                      refine lv_iload hx hb d_D_several_109 (lv_at hl 11 rfl) ?_
                      obtain ⟨r4, hc, hm⟩ := bd hm
                      try dsimp only at hm
                      refine vp_callSi (W.runV (As := [.int y1b, .int y11b]) (rest := []) ⟨hx, hb, hml, hown, hts⟩ (c_D_can l dC dI cI cZ cJ dq dq8 dq9 dq10 dq11 dq12 dq13 dq14 dq15 dq18 dq19 dq20 d_thrownb d_today d_cut d_aging d_saleFrom d_pieces d_orders d_piece d_order d_came d_worth d_usedb d_usedByb d_reservedFor d_reservedTo d_ran d_sum d_pieceDual d_orderDual d_table y1b y11b N r4 hc) (cwV 2 hts (gV (w0 713 rfl) (w0 714 rfl) (w0 24 rfl) (w0 33 rfl) (w0 715 rfl)) rfl rfl rfl q_D_can ⟨Nat.le_of_ble_eq_true rfl, Nat.le_of_ble_eq_true rfl⟩) (ro_preV [0, 1, 2, 3, 4, 5, 6, 7, 8, 9, 10, 11] rfl hK hP hN 5 0 (R_D, F_D, 20) rfl rfl) rfl rfl hl.1 rfl (lv_room (Nat.le_of_ble_eq_true rfl)) d_D_several_111 ⟨Nat.le_of_ble_eq_true rfl, Nat.le_of_ble_eq_true rfl⟩) (fun r9 hr9 => ?_)
                      subst hr9
                      refine lv_if_ne (tgt := 123) hx hb d_D_several_114 (by decide) (fun c9 => ?_) (fun c9 => ?_)
                      · replace hm := if_f c9 hm
                        refine lv_iinc (v := (y7b + 1)) (lv' := [(7, .int (y7b + 1)), (0, .ref dq), (1, .int y1b), (2, .int y2b), (3, .int y3b), (4, .int y4b), (5, .int y5b), (6, .int y6b), (8, .int y8b), (9, .int y9b), (10, .int y10b), (11, .int y11b)]) hx hb d_D_several_123 hl (k := 7) rfl rfl (by decide) rfl (fun ls hl => ?_)
                        refine lv_iload hx hb d_D_several_126 (lv_at hl 8 rfl) ?_
                        refine lv_aload_n hx hb d_D_several_128 rfl (lv_at hl 1 rfl) ?_
                        refine va_get (D := (dC, dI)) (ci := 5) (v := .ref dq9) (C := R_D) (T := F_D) (N := 20) hx hb hts hk1 hown hK hP 0 rfl rfl 8 (by decide) hk2 (fun _ h9 => h9) rfl d_D_several_129 ?_
                        refine lv_iconst (v := 4) hx hb d_D_several_132 (by decide) ?_
                        refine lv_iload hx hb d_D_several_133 (lv_at hl 11 rfl) ?_
                        refine lv_imul hx hb d_D_several_135 ?_
                        refine lv_iconst (v := 2) hx hb d_D_several_136 (by decide) ?_
                        refine lv_iadd hx hb d_D_several_137 ?_
                        obtain ⟨h9, hm⟩ := gd hm
                        refine va_iald hx hb hK hP 2 0 rfl rfl h9 d_D_several_138 ?_
                        refine lv_iadd hx hb d_D_several_139 ?_
                        refine lv_istore (lv' := [(8, .int (y8b + (d_order ((4 * y11b) + 2).toNatClampNeg))), (7, .int (y7b + 1)), (0, .ref dq), (1, .int y1b), (2, .int y2b), (3, .int y3b), (4, .int y4b), (5, .int y5b), (6, .int y6b), (9, .int y9b), (10, .int y10b), (11, .int y11b)]) hx hb d_D_several_140 hl (by decide) rfl (fun ls hl => ?_)
                        refine lv_iload hx hb d_D_several_142 (lv_at hl 9 rfl) ?_
                        refine lv_aload_n hx hb d_D_several_144 rfl (lv_at hl 2 rfl) ?_
                        refine lv_iload_n hx hb d_D_several_145 rfl (lv_at hl 3 rfl) ?_
                        refine lv_iload hx hb d_D_several_146 (lv_at hl 11 rfl) ?_
                        obtain ⟨r5, hc, hm⟩ := bd hm
                        try dsimp only at hm
                        refine vp_callSi (W.runV (As := [.int y1b, .int y11b]) (rest := [.int y9b]) ⟨hx, hb, hml, hown, hts⟩ (c_D_netOf l dC dI cI cZ cJ dq dq8 dq9 dq10 dq11 dq12 dq13 dq14 dq15 dq18 dq19 dq20 d_thrownb d_today d_cut d_aging d_saleFrom d_pieces d_orders d_piece d_order d_came d_worth d_usedb d_usedByb d_reservedFor d_reservedTo d_ran d_sum d_pieceDual d_orderDual d_table y1b y11b N r5 hc) (cwV 2 hts (gV (w0 703 rfl) (w0 704 rfl) (w0 22 rfl) (w0 33 rfl) (w0 705 rfl)) rfl rfl rfl q_D_netOf ⟨Nat.le_of_ble_eq_true rfl, Nat.le_of_ble_eq_true rfl⟩) (ro_preV [0, 1, 2, 3, 4, 5, 6, 7, 8, 9, 10, 11] rfl hK hP hN 5 0 (R_D, F_D, 20) rfl rfl) rfl rfl hl.1 rfl (lv_room (Nat.le_of_ble_eq_true rfl)) d_D_several_148 ⟨Nat.le_of_ble_eq_true rfl, Nat.le_of_ble_eq_true rfl⟩) (fun r9 hr9 => ?_)
                        subst hr9
                        refine lv_iadd hx hb d_D_several_151 ?_
                        refine lv_istore (lv' := [(9, .int (y9b + r5)), (8, .int (y8b + (d_order ((4 * y11b) + 2).toNatClampNeg))), (7, .int (y7b + 1)), (0, .ref dq), (1, .int y1b), (2, .int y2b), (3, .int y3b), (4, .int y4b), (5, .int y5b), (6, .int y6b), (10, .int y10b), (11, .int y11b)]) hx hb d_D_several_152 hl (by decide) rfl (fun ls hl => ?_)
                        refine lv_iinc (v := (y11b + 1)) (lv' := [(11, .int (y11b + 1)), (9, .int (y9b + r5)), (8, .int (y8b + (d_order ((4 * y11b) + 2).toNatClampNeg))), (7, .int (y7b + 1)), (0, .ref dq), (1, .int y1b), (2, .int y2b), (3, .int y3b), (4, .int y4b), (5, .int y5b), (6, .int y6b), (10, .int y10b)]) hx hb d_D_several_154 hl (k := 11) rfl rfl (by decide) rfl (fun ls hl => ?_)
                        refine lv_goto (tgt := 78) hx hb d_D_several_157 (by decide) ?_
                        have hl : lv_has ls 12 [(0, .ref dq), (1, .int y1b), (2, .int y2b), (3, .int y3b), (4, .int y4b), (5, .int y5b), (6, .int y6b), (7, .int (y7b + 1)), (8, .int (y8b + (d_order ((4 * y11b) + 2).toNatClampNeg))), (9, .int (y9b + r5)), (10, .int y10b), (11, .int (y11b + 1))] := lv_sub hl [4, 5, 6, 7, 8, 9, 10, 3, 2, 1, 11, 0] rfl
                        exact ih78 y1b y2b y3b y4b y5b y6b (y7b + 1) (y8b + (d_order ((4 * y11b) + 2).toNatClampNeg)) (y9b + r5) y10b (y11b + 1) d_thrownb d_usedb d_usedByb _ _ ls hl hP hD hS hm
                      · replace hm := if_t c9 hm
                        refine lv_iconst (v := 0) hx hb d_D_several_117 (by decide) ?_
                        refine lv_istore (lv' := [(10, .int 0), (0, .ref dq), (1, .int y1b), (2, .int y2b), (3, .int y3b), (4, .int y4b), (5, .int y5b), (6, .int y6b), (7, .int y7b), (8, .int y8b), (9, .int y9b), (11, .int y11b)]) hx hb d_D_several_118 hl (by decide) rfl (fun ls hl => ?_)
                        refine lv_goto (tgt := 154) hx hb d_D_several_120 (by decide) ?_
                        refine lv_iinc (v := (y11b + 1)) (lv' := [(11, .int (y11b + 1)), (10, .int 0), (0, .ref dq), (1, .int y1b), (2, .int y2b), (3, .int y3b), (4, .int y4b), (5, .int y5b), (6, .int y6b), (7, .int y7b), (8, .int y8b), (9, .int y9b)]) hx hb d_D_several_154 hl (k := 11) rfl rfl (by decide) rfl (fun ls hl => ?_)
                        refine lv_goto (tgt := 78) hx hb d_D_several_157 (by decide) ?_
                        have hl : lv_has ls 12 [(0, .ref dq), (1, .int y1b), (2, .int y2b), (3, .int y3b), (4, .int y4b), (5, .int y5b), (6, .int y6b), (7, .int y7b), (8, .int y8b), (9, .int y9b), (10, .int 0), (11, .int (y11b + 1))] := lv_sub hl [2, 3, 4, 5, 6, 7, 8, 9, 10, 11, 1, 0] rfl
                        exact ih78 y1b y2b y3b y4b y5b y6b y7b y8b y9b 0 (y11b + 1) d_thrownb d_usedb d_usedByb _ _ ls hl hP hD hS hm
                  · replace hm := if_t c9 hm
                    refine lv_goto (tgt := 154) hx hb d_D_several_95 (by decide) ?_
                    refine lv_iinc (v := (y11b + 1)) (lv' := [(11, .int (y11b + 1)), (0, .ref dq), (1, .int y1b), (2, .int y2b), (3, .int y3b), (4, .int y4b), (5, .int y5b), (6, .int y6b), (7, .int y7b), (8, .int y8b), (9, .int y9b), (10, .int y10b)]) hx hb d_D_several_154 hl (k := 11) rfl rfl (by decide) rfl (fun ls hl => ?_)
                    refine lv_goto (tgt := 78) hx hb d_D_several_157 (by decide) ?_
                    have hl : lv_has ls 12 [(0, .ref dq), (1, .int y1b), (2, .int y2b), (3, .int y3b), (4, .int y4b), (5, .int y5b), (6, .int y6b), (7, .int y7b), (8, .int y8b), (9, .int y9b), (10, .int y10b), (11, .int (y11b + 1))] := lv_sub hl [1, 2, 3, 4, 5, 6, 7, 8, 9, 10, 11, 0] rfl
                    exact ih78 y1b y2b y3b y4b y5b y6b y7b y8b y9b y10b (y11b + 1) d_thrownb d_usedb d_usedByb _ _ ls hl hP hD hS hm
            have hl : lv_has ls 12 [(0, .ref dq), (1, .int y1a), (2, .int y2a), (3, .int y3a), (4, .int y4a), (5, .int y5a), (6, .int y6a), (7, .int 0), (8, .int 0), (9, .int 0), (10, .int 1), (11, .int 0)] := lv_sub hl [5, 6, 7, 8, 9, 10, 11, 4, 3, 2, 1, 0] rfl
            refine key78 _ (fun y1b y2b y3b y4b y5b y6b y7b y8b y9b y10b y11b d_thrownb d_usedb d_usedByb H locs ls hl hP hD hS hm => ?_) N y1a y2a y3a y4a y5a y6a 0 0 0 1 0 d_throwna d_useda d_usedBya _ _ ls hl hP hD hS hm
            try dsimp only at hm
            refine lv_iload hx hb d_D_several_160 (lv_at hl 10 rfl) ?_
            refine lv_if_eq (tgt := 224) hx hb d_D_several_162 (by decide) (fun c9 => ?_) (fun c9 => ?_)
            · replace hm := if_t c9 hm
              refine lv_iinc (v := (y6b + 1)) (lv' := [(6, .int (y6b + 1)), (0, .ref dq), (1, .int y1b), (2, .int y2b), (3, .int y3b), (4, .int y4b), (5, .int y5b), (7, .int y7b), (8, .int y8b), (9, .int y9b), (10, .int y10b), (11, .int y11b)]) hx hb d_D_several_224 hl (k := 6) rfl rfl (by decide) rfl (fun ls hl => ?_)
              refine lv_goto (tgt := 55) hx hb d_D_several_227 (by decide) ?_
              have hl : lv_has ls 12 [(0, .ref dq), (1, .int y1b), (2, .int y2b), (3, .int y3b), (4, .int y4b), (5, .int y5b), (6, .int (y6b + 1))] := lv_sub hl [1, 2, 3, 4, 5, 6, 0] rfl
              exact ih55 y1b y2b y3b y4b y5b (y6b + 1) d_thrownb d_usedb d_usedByb _ _ ls hl hP hD hS hm
            · replace hm := if_f c9 hm
              refine lv_iload hx hb d_D_several_165 (lv_at hl 7 rfl) ?_
              refine lv_iconst (v := 5) hx hb d_D_several_167 (by decide) ?_
              refine lv_icmp_gt (tgt := 224) hx hb d_D_several_168 (by decide) (fun c9 => ?_) (fun c9 => ?_)
              · replace hm := if_t c9 hm
                refine lv_iinc (v := (y6b + 1)) (lv' := [(6, .int (y6b + 1)), (0, .ref dq), (1, .int y1b), (2, .int y2b), (3, .int y3b), (4, .int y4b), (5, .int y5b), (7, .int y7b), (8, .int y8b), (9, .int y9b), (10, .int y10b), (11, .int y11b)]) hx hb d_D_several_224 hl (k := 6) rfl rfl (by decide) rfl (fun ls hl => ?_)
                refine lv_goto (tgt := 55) hx hb d_D_several_227 (by decide) ?_
                have hl : lv_has ls 12 [(0, .ref dq), (1, .int y1b), (2, .int y2b), (3, .int y3b), (4, .int y4b), (5, .int y5b), (6, .int (y6b + 1))] := lv_sub hl [1, 2, 3, 4, 5, 6, 0] rfl
                exact ih55 y1b y2b y3b y4b y5b (y6b + 1) d_thrownb d_usedb d_usedByb _ _ ls hl hP hD hS hm
              · replace hm := if_f c9 hm
                refine lv_iload hx hb d_D_several_171 (lv_at hl 8 rfl) ?_
                refine lv_aload_n hx hb d_D_several_173 rfl (lv_at hl 0 rfl) ?_
                refine va_get (D := (dC, dI)) (ci := 5) (v := .ref dq8) (C := R_D) (T := F_D) (N := 20) hx hb hts hk1 hown hK hP 0 rfl rfl 7 (by decide) hk3 (fun _ h9 => h9) rfl d_D_several_174 ?_
                refine lv_iconst (v := 4) hx hb d_D_several_177 (by decide) ?_
                refine lv_iload_n hx hb d_D_several_178 rfl (lv_at hl 1 rfl) ?_
                refine lv_imul hx hb d_D_several_179 ?_
                refine lv_iconst (v := 2) hx hb d_D_several_180 (by decide) ?_
                refine lv_iadd hx hb d_D_several_181 ?_
                obtain ⟨h9, hm⟩ := gd hm
                refine va_iald hx hb hK hP 1 0 rfl rfl h9 d_D_several_182 ?_
                refine lv_icmp_le (tgt := 189) hx hb d_D_several_183 (by decide) (fun c9 => ?_) (fun c9 => ?_)
                · replace hm := if_t c9 hm
                  refine lv_iload hx hb d_D_several_189 (lv_at hl 7 rfl) ?_
                  refine lv_iload hx hb d_D_several_191 (lv_at hl 4 rfl) ?_
                  refine lv_icmp_lt (tgt := 224) hx hb d_D_several_193 (by decide) (fun c9 => ?_) (fun c9 => ?_)
                  · replace hm := if_t c9 hm
                    refine lv_iinc (v := (y6b + 1)) (lv' := [(6, .int (y6b + 1)), (0, .ref dq), (1, .int y1b), (2, .int y2b), (3, .int y3b), (4, .int y4b), (5, .int y5b), (7, .int y7b), (8, .int y8b), (9, .int y9b), (10, .int y10b), (11, .int y11b)]) hx hb d_D_several_224 hl (k := 6) rfl rfl (by decide) rfl (fun ls hl => ?_)
                    refine lv_goto (tgt := 55) hx hb d_D_several_227 (by decide) ?_
                    have hl : lv_has ls 12 [(0, .ref dq), (1, .int y1b), (2, .int y2b), (3, .int y3b), (4, .int y4b), (5, .int y5b), (6, .int (y6b + 1))] := lv_sub hl [1, 2, 3, 4, 5, 6, 0] rfl
                    exact ih55 y1b y2b y3b y4b y5b (y6b + 1) d_thrownb d_usedb d_usedByb _ _ ls hl hP hD hS hm
                  · replace hm := if_f c9 hm
                    refine lv_iload hx hb d_D_several_196 (lv_at hl 7 rfl) ?_
                    refine lv_iload hx hb d_D_several_198 (lv_at hl 4 rfl) ?_
                    refine lv_icmp_ne (tgt := 213) hx hb d_D_several_200 (by decide) (fun c9 => ?_) (fun c9 => ?_)
                    · replace hm := if_f c9 hm
                      refine lv_iload hx hb d_D_several_213 (lv_at hl 6 rfl) ?_
                      refine lv_istore_n (lv' := [(3, .int y6b), (0, .ref dq), (1, .int y1b), (2, .int y2b), (4, .int y4b), (5, .int y5b), (6, .int y6b), (7, .int y7b), (8, .int y8b), (9, .int y9b), (10, .int y10b), (11, .int y11b)]) hx hb d_D_several_215 rfl hl (by decide) rfl (fun ls hl => ?_)
                      refine lv_iload hx hb d_D_several_216 (lv_at hl 7 rfl) ?_
                      refine lv_istore (lv' := [(4, .int y7b), (3, .int y6b), (0, .ref dq), (1, .int y1b), (2, .int y2b), (5, .int y5b), (6, .int y6b), (7, .int y7b), (8, .int y8b), (9, .int y9b), (10, .int y10b), (11, .int y11b)]) hx hb d_D_several_218 hl (by decide) rfl (fun ls hl => ?_)
                      refine lv_iload hx hb d_D_several_220 (lv_at hl 9 rfl) ?_
                      refine lv_istore (lv' := [(5, .int y9b), (4, .int y7b), (3, .int y6b), (0, .ref dq), (1, .int y1b), (2, .int y2b), (6, .int y6b), (7, .int y7b), (8, .int y8b), (9, .int y9b), (10, .int y10b), (11, .int y11b)]) hx hb d_D_several_222 hl (by decide) rfl (fun ls hl => ?_)
                      refine lv_iinc (v := (y6b + 1)) (lv' := [(6, .int (y6b + 1)), (5, .int y9b), (4, .int y7b), (3, .int y6b), (0, .ref dq), (1, .int y1b), (2, .int y2b), (7, .int y7b), (8, .int y8b), (9, .int y9b), (10, .int y10b), (11, .int y11b)]) hx hb d_D_several_224 hl (k := 6) rfl rfl (by decide) rfl (fun ls hl => ?_)
                      refine lv_goto (tgt := 55) hx hb d_D_several_227 (by decide) ?_
                      have hl : lv_has ls 12 [(0, .ref dq), (1, .int y1b), (2, .int y2b), (3, .int y6b), (4, .int y7b), (5, .int y9b), (6, .int (y6b + 1))] := lv_sub hl [4, 5, 6, 3, 2, 1, 0] rfl
                      exact ih55 y1b y2b y6b y7b y9b (y6b + 1) d_thrownb d_usedb d_usedByb _ _ ls hl hP hD hS hm
                    · replace hm := if_t c9 hm
                      refine lv_iload hx hb d_D_several_203 (lv_at hl 9 rfl) ?_
                      refine lv_iload hx hb d_D_several_205 (lv_at hl 5 rfl) ?_
                      refine lv_icmp_gt (tgt := 213) hx hb d_D_several_207 (by decide) (fun c9 => ?_) (fun c9 => ?_)
                      · replace hm := if_t c9 hm
                        refine lv_iload hx hb d_D_several_213 (lv_at hl 6 rfl) ?_
                        refine lv_istore_n (lv' := [(3, .int y6b), (0, .ref dq), (1, .int y1b), (2, .int y2b), (4, .int y4b), (5, .int y5b), (6, .int y6b), (7, .int y7b), (8, .int y8b), (9, .int y9b), (10, .int y10b), (11, .int y11b)]) hx hb d_D_several_215 rfl hl (by decide) rfl (fun ls hl => ?_)
                        refine lv_iload hx hb d_D_several_216 (lv_at hl 7 rfl) ?_
                        refine lv_istore (lv' := [(4, .int y7b), (3, .int y6b), (0, .ref dq), (1, .int y1b), (2, .int y2b), (5, .int y5b), (6, .int y6b), (7, .int y7b), (8, .int y8b), (9, .int y9b), (10, .int y10b), (11, .int y11b)]) hx hb d_D_several_218 hl (by decide) rfl (fun ls hl => ?_)
                        refine lv_iload hx hb d_D_several_220 (lv_at hl 9 rfl) ?_
                        refine lv_istore (lv' := [(5, .int y9b), (4, .int y7b), (3, .int y6b), (0, .ref dq), (1, .int y1b), (2, .int y2b), (6, .int y6b), (7, .int y7b), (8, .int y8b), (9, .int y9b), (10, .int y10b), (11, .int y11b)]) hx hb d_D_several_222 hl (by decide) rfl (fun ls hl => ?_)
                        refine lv_iinc (v := (y6b + 1)) (lv' := [(6, .int (y6b + 1)), (5, .int y9b), (4, .int y7b), (3, .int y6b), (0, .ref dq), (1, .int y1b), (2, .int y2b), (7, .int y7b), (8, .int y8b), (9, .int y9b), (10, .int y10b), (11, .int y11b)]) hx hb d_D_several_224 hl (k := 6) rfl rfl (by decide) rfl (fun ls hl => ?_)
                        refine lv_goto (tgt := 55) hx hb d_D_several_227 (by decide) ?_
                        have hl : lv_has ls 12 [(0, .ref dq), (1, .int y1b), (2, .int y2b), (3, .int y6b), (4, .int y7b), (5, .int y9b), (6, .int (y6b + 1))] := lv_sub hl [4, 5, 6, 3, 2, 1, 0] rfl
                        exact ih55 y1b y2b y6b y7b y9b (y6b + 1) d_thrownb d_usedb d_usedByb _ _ ls hl hP hD hS hm
                      · replace hm := if_f c9 hm
                        refine lv_goto (tgt := 224) hx hb d_D_several_210 (by decide) ?_
                        refine lv_iinc (v := (y6b + 1)) (lv' := [(6, .int (y6b + 1)), (0, .ref dq), (1, .int y1b), (2, .int y2b), (3, .int y3b), (4, .int y4b), (5, .int y5b), (7, .int y7b), (8, .int y8b), (9, .int y9b), (10, .int y10b), (11, .int y11b)]) hx hb d_D_several_224 hl (k := 6) rfl rfl (by decide) rfl (fun ls hl => ?_)
                        refine lv_goto (tgt := 55) hx hb d_D_several_227 (by decide) ?_
                        have hl : lv_has ls 12 [(0, .ref dq), (1, .int y1b), (2, .int y2b), (3, .int y3b), (4, .int y4b), (5, .int y5b), (6, .int (y6b + 1))] := lv_sub hl [1, 2, 3, 4, 5, 6, 0] rfl
                        exact ih55 y1b y2b y3b y4b y5b (y6b + 1) d_thrownb d_usedb d_usedByb _ _ ls hl hP hD hS hm
                · replace hm := if_f c9 hm
                  refine lv_goto (tgt := 224) hx hb d_D_several_186 (by decide) ?_
                  refine lv_iinc (v := (y6b + 1)) (lv' := [(6, .int (y6b + 1)), (0, .ref dq), (1, .int y1b), (2, .int y2b), (3, .int y3b), (4, .int y4b), (5, .int y5b), (7, .int y7b), (8, .int y8b), (9, .int y9b), (10, .int y10b), (11, .int y11b)]) hx hb d_D_several_224 hl (k := 6) rfl rfl (by decide) rfl (fun ls hl => ?_)
                  refine lv_goto (tgt := 55) hx hb d_D_several_227 (by decide) ?_
                  have hl : lv_has ls 12 [(0, .ref dq), (1, .int y1b), (2, .int y2b), (3, .int y3b), (4, .int y4b), (5, .int y5b), (6, .int (y6b + 1))] := lv_sub hl [1, 2, 3, 4, 5, 6, 0] rfl
                  exact ih55 y1b y2b y3b y4b y5b (y6b + 1) d_thrownb d_usedb d_usedByb _ _ ls hl hP hD hS hm
      have hl : lv_has ls 12 [(0, .ref dq), (1, .int x1), (2, .int r1), (3, .int 0), (4, .int 0), (5, .int 0), (6, .int 1)] := lv_sub hl [5, 6, 4, 3, 2, 1, 0] rfl
      refine key55 _ (fun y1a y2a y3a y4a y5a y6a d_throwna d_useda d_usedBya H locs ls hl hP hD hS hm => ?_) N x1 r1 0 0 0 1 u3 d_used d_usedBy _ _ ls hl hP hD hS hm
      try dsimp only at hm
      refine lv_iload_n hx hb d_D_several_230 rfl (lv_at hl 3 rfl) ?_
      refine lv_if_ne (tgt := 236) hx hb d_D_several_231 (by decide) (fun c9 => ?_) (fun c9 => ?_)
      · replace hm := if_f c9 hm
        refine lv_aload_n hx hb d_D_several_236 rfl (lv_at hl 0 rfl) ?_
        refine va_get (D := (dC, dI)) (ci := 5) (v := .ref dq12) (C := R_D) (T := F_D) (N := 20) hx hb hts hk1 hown hK hP 0 rfl rfl 11 (by decide) hk4 (fun _ h9 => h9) rfl d_D_several_237 ?_
        refine lv_iload_n hx hb d_D_several_240 rfl (lv_at hl 1 rfl) ?_
        refine lv_iconst (v := 1) hx hb d_D_several_241 (by decide) ?_
        obtain ⟨h9, hm⟩ := gd hm
        refine va_zast hx hb hK hP hD hS 5 1 rfl rfl h9 d_D_several_242 (fun H locs hP hD hS => ?_)
        have hP : va_P (dC, dI) classes [(dq, .inr (5, [.int d_throwna, .int d_today, .int d_cut, .int d_aging, .int d_saleFrom, .int d_pieces, .int d_orders, .ref dq8, .ref dq9, .ref dq10, .ref dq11, .ref dq12, .ref dq13, .ref dq14, .ref dq15, .int d_ran, .int d_sum, .ref dq18, .ref dq19, .ref dq20])), (dq8, .inl (cI, 40, .inl d_piece)), (dq9, .inl (cI, 40, .inl d_order)), (dq10, .inl (cI, 10, .inl d_came)), (dq11, .inl (cI, 100, .inl d_worth)), (dq12, .inl (cZ, 10, .inl (upd d_useda y1a.toNatClampNeg (vp_nar .boolean 1)))), (dq13, .inl (cI, 10, .inl d_usedBya)), (dq14, .inl (cI, 10, .inl d_reservedFor)), (dq15, .inl (cI, 10, .inl d_reservedTo)), (dq18, .inl (cI, 10, .inl d_pieceDual)), (dq19, .inl (cI, 10, .inl d_orderDual)), (dq20, .inl (cJ, 11264, .inr (.inl d_table)))] H := hP
        have hD : va_D A [(dq, .inr (5, [.int d_throwna, .int d_today, .int d_cut, .int d_aging, .int d_saleFrom, .int d_pieces, .int d_orders, .ref dq8, .ref dq9, .ref dq10, .ref dq11, .ref dq12, .ref dq13, .ref dq14, .ref dq15, .int d_ran, .int d_sum, .ref dq18, .ref dq19, .ref dq20])), (dq8, .inl (cI, 40, .inl d_piece)), (dq9, .inl (cI, 40, .inl d_order)), (dq10, .inl (cI, 10, .inl d_came)), (dq11, .inl (cI, 100, .inl d_worth)), (dq12, .inl (cZ, 10, .inl (upd d_useda y1a.toNatClampNeg (vp_nar .boolean 1)))), (dq13, .inl (cI, 10, .inl d_usedBya)), (dq14, .inl (cI, 10, .inl d_reservedFor)), (dq15, .inl (cI, 10, .inl d_reservedTo)), (dq18, .inl (cI, 10, .inl d_pieceDual)), (dq19, .inl (cI, 10, .inl d_orderDual)), (dq20, .inl (cJ, 11264, .inr (.inl d_table)))] := hD
        refine lv_iconst (v := 0) hx hb d_D_several_243 (by decide) ?_
        refine lv_istore (lv' := [(6, .int 0), (0, .ref dq), (1, .int y1a), (2, .int y2a), (3, .int y3a), (4, .int y4a), (5, .int y5a)]) hx hb d_D_several_244 hl (by decide) rfl (fun ls hl => ?_)
        have key246 : ∀ (K : Int32 → Int32 → Int32 → Int32 → Int32 → Int32 → Int32 → (Nat → Int32) → (Nat → Int32) → Option (Int32 × Int32 × (Nat → Int32) × (Nat → Int32))) (_ : ∀ (y1c : Int32) (y2c : Int32) (y3c : Int32) (y4c : Int32) (y5c : Int32) (y6c : Int32) (d_thrownc : Int32) (d_usedc : Nat → Int32) (d_usedByc : Nat → Int32) (H : Heap) (locs : List Loc) (ls : Array Slot), lv_has ls 12 [(0, .ref dq), (1, .int y1c), (2, .int y2c), (3, .int y3c), (4, .int y4c), (5, .int y5c), (6, .int y6c)] → va_P (dC, dI) classes [(dq, .inr (5, [.int d_thrownc, .int d_today, .int d_cut, .int d_aging, .int d_saleFrom, .int d_pieces, .int d_orders, .ref dq8, .ref dq9, .ref dq10, .ref dq11, .ref dq12, .ref dq13, .ref dq14, .ref dq15, .int d_ran, .int d_sum, .ref dq18, .ref dq19, .ref dq20])), (dq8, .inl (cI, 40, .inl d_piece)), (dq9, .inl (cI, 40, .inl d_order)), (dq10, .inl (cI, 10, .inl d_came)), (dq11, .inl (cI, 100, .inl d_worth)), (dq12, .inl (cZ, 10, .inl d_usedc)), (dq13, .inl (cI, 10, .inl d_usedByc)), (dq14, .inl (cI, 10, .inl d_reservedFor)), (dq15, .inl (cI, 10, .inl d_reservedTo)), (dq18, .inl (cI, 10, .inl d_pieceDual)), (dq19, .inl (cI, 10, .inl d_orderDual)), (dq20, .inl (cJ, 11264, .inr (.inl d_table)))] H → va_D A [(dq, .inr (5, [.int d_thrownc, .int d_today, .int d_cut, .int d_aging, .int d_saleFrom, .int d_pieces, .int d_orders, .ref dq8, .ref dq9, .ref dq10, .ref dq11, .ref dq12, .ref dq13, .ref dq14, .ref dq15, .int d_ran, .int d_sum, .ref dq18, .ref dq19, .ref dq20])), (dq8, .inl (cI, 40, .inl d_piece)), (dq9, .inl (cI, 40, .inl d_order)), (dq10, .inl (cI, 10, .inl d_came)), (dq11, .inl (cI, 100, .inl d_worth)), (dq12, .inl (cZ, 10, .inl d_usedc)), (dq13, .inl (cI, 10, .inl d_usedByc)), (dq14, .inl (cI, 10, .inl d_reservedFor)), (dq15, .inl (cI, 10, .inl d_reservedTo)), (dq18, .inl (cI, 10, .inl d_pieceDual)), (dq19, .inl (cI, 10, .inl d_orderDual)), (dq20, .inl (cJ, 11264, .inr (.inl d_table)))] → va_S A s.heap H locs → K y1c y2c y3c y4c y5c y6c d_thrownc d_usedc d_usedByc = some res → W p l e (headSpec w_D_several ({ frames := 3, cells := 0, slots := 0, locals := 67 } : Room)).room s m ([.ref dq, .int x1] : List Value).toArray below meth c H locs 0 0 (MQ below (va_Qi (fun (x : Int32) (_ : Unit) => res.1 = x) (fun _ t => va_P (dC, dI) classes [(dq, .inr (5, [.int res.2.1, .int d_today, .int d_cut, .int d_aging, .int d_saleFrom, .int d_pieces, .int d_orders, .ref dq8, .ref dq9, .ref dq10, .ref dq11, .ref dq12, .ref dq13, .ref dq14, .ref dq15, .int d_ran, .int d_sum, .ref dq18, .ref dq19, .ref dq20])), (dq8, .inl (cI, 40, .inl d_piece)), (dq9, .inl (cI, 40, .inl d_order)), (dq10, .inl (cI, 10, .inl d_came)), (dq11, .inl (cI, 100, .inl d_worth)), (dq12, .inl (cZ, 10, .inl res.2.2.1)), (dq13, .inl (cI, 10, .inl res.2.2.2)), (dq14, .inl (cI, 10, .inl d_reservedFor)), (dq15, .inl (cI, 10, .inl d_reservedTo)), (dq18, .inl (cI, 10, .inl d_pieceDual)), (dq19, .inl (cI, 10, .inl d_orderDual)), (dq20, .inl (cJ, 11264, .inr (.inl d_table)))] t.heap ∧ va_K (dC, dI) classes [(cI, .int), (cZ, .boolean), (cJ, .long)] t ∧ va_D A [(dq, .inr (5, [.int res.2.1, .int d_today, .int d_cut, .int d_aging, .int d_saleFrom, .int d_pieces, .int d_orders, .ref dq8, .ref dq9, .ref dq10, .ref dq11, .ref dq12, .ref dq13, .ref dq14, .ref dq15, .int d_ran, .int d_sum, .ref dq18, .ref dq19, .ref dq20])), (dq8, .inl (cI, 40, .inl d_piece)), (dq9, .inl (cI, 40, .inl d_order)), (dq10, .inl (cI, 10, .inl d_came)), (dq11, .inl (cI, 100, .inl d_worth)), (dq12, .inl (cZ, 10, .inl res.2.2.1)), (dq13, .inl (cI, 10, .inl res.2.2.2)), (dq14, .inl (cI, 10, .inl d_reservedFor)), (dq15, .inl (cI, 10, .inl d_reservedTo)), (dq18, .inl (cI, 10, .inl d_pieceDual)), (dq19, .inl (cI, 10, .inl d_orderDual)), (dq20, .inl (cJ, 11264, .inr (.inl d_table)))]) A) ([.ref dq, .int x1] : List Value).toArray s 0 0 A) (F0 m 279 ls [])) (n : Nat) (y1c : Int32) (y2c : Int32) (y3c : Int32) (y4c : Int32) (y5c : Int32) (y6c : Int32) (d_thrownc : Int32) (d_usedc : Nat → Int32) (d_usedByc : Nat → Int32) (H : Heap) (locs : List Loc) (ls : Array Slot), lv_has ls 12 [(0, .ref dq), (1, .int y1c), (2, .int y2c), (3, .int y3c), (4, .int y4c), (5, .int y5c), (6, .int y6c)] → va_P (dC, dI) classes [(dq, .inr (5, [.int d_thrownc, .int d_today, .int d_cut, .int d_aging, .int d_saleFrom, .int d_pieces, .int d_orders, .ref dq8, .ref dq9, .ref dq10, .ref dq11, .ref dq12, .ref dq13, .ref dq14, .ref dq15, .int d_ran, .int d_sum, .ref dq18, .ref dq19, .ref dq20])), (dq8, .inl (cI, 40, .inl d_piece)), (dq9, .inl (cI, 40, .inl d_order)), (dq10, .inl (cI, 10, .inl d_came)), (dq11, .inl (cI, 100, .inl d_worth)), (dq12, .inl (cZ, 10, .inl d_usedc)), (dq13, .inl (cI, 10, .inl d_usedByc)), (dq14, .inl (cI, 10, .inl d_reservedFor)), (dq15, .inl (cI, 10, .inl d_reservedTo)), (dq18, .inl (cI, 10, .inl d_pieceDual)), (dq19, .inl (cI, 10, .inl d_orderDual)), (dq20, .inl (cJ, 11264, .inr (.inl d_table)))] H → va_D A [(dq, .inr (5, [.int d_thrownc, .int d_today, .int d_cut, .int d_aging, .int d_saleFrom, .int d_pieces, .int d_orders, .ref dq8, .ref dq9, .ref dq10, .ref dq11, .ref dq12, .ref dq13, .ref dq14, .ref dq15, .int d_ran, .int d_sum, .ref dq18, .ref dq19, .ref dq20])), (dq8, .inl (cI, 40, .inl d_piece)), (dq9, .inl (cI, 40, .inl d_order)), (dq10, .inl (cI, 10, .inl d_came)), (dq11, .inl (cI, 100, .inl d_worth)), (dq12, .inl (cZ, 10, .inl d_usedc)), (dq13, .inl (cI, 10, .inl d_usedByc)), (dq14, .inl (cI, 10, .inl d_reservedFor)), (dq15, .inl (cI, 10, .inl d_reservedTo)), (dq18, .inl (cI, 10, .inl d_pieceDual)), (dq19, .inl (cI, 10, .inl d_orderDual)), (dq20, .inl (cJ, 11264, .inr (.inl d_table)))] → va_S A s.heap H locs → L_D_several_246 N d_orders K n y1c y2c y3c y4c y5c y6c d_thrownc d_usedc d_usedByc = some res → W p l e (headSpec w_D_several ({ frames := 3, cells := 0, slots := 0, locals := 67 } : Room)).room s m ([.ref dq, .int x1] : List Value).toArray below meth c H locs 0 0 (MQ below (va_Qi (fun (x : Int32) (_ : Unit) => res.1 = x) (fun _ t => va_P (dC, dI) classes [(dq, .inr (5, [.int res.2.1, .int d_today, .int d_cut, .int d_aging, .int d_saleFrom, .int d_pieces, .int d_orders, .ref dq8, .ref dq9, .ref dq10, .ref dq11, .ref dq12, .ref dq13, .ref dq14, .ref dq15, .int d_ran, .int d_sum, .ref dq18, .ref dq19, .ref dq20])), (dq8, .inl (cI, 40, .inl d_piece)), (dq9, .inl (cI, 40, .inl d_order)), (dq10, .inl (cI, 10, .inl d_came)), (dq11, .inl (cI, 100, .inl d_worth)), (dq12, .inl (cZ, 10, .inl res.2.2.1)), (dq13, .inl (cI, 10, .inl res.2.2.2)), (dq14, .inl (cI, 10, .inl d_reservedFor)), (dq15, .inl (cI, 10, .inl d_reservedTo)), (dq18, .inl (cI, 10, .inl d_pieceDual)), (dq19, .inl (cI, 10, .inl d_orderDual)), (dq20, .inl (cJ, 11264, .inr (.inl d_table)))] t.heap ∧ va_K (dC, dI) classes [(cI, .int), (cZ, .boolean), (cJ, .long)] t ∧ va_D A [(dq, .inr (5, [.int res.2.1, .int d_today, .int d_cut, .int d_aging, .int d_saleFrom, .int d_pieces, .int d_orders, .ref dq8, .ref dq9, .ref dq10, .ref dq11, .ref dq12, .ref dq13, .ref dq14, .ref dq15, .int d_ran, .int d_sum, .ref dq18, .ref dq19, .ref dq20])), (dq8, .inl (cI, 40, .inl d_piece)), (dq9, .inl (cI, 40, .inl d_order)), (dq10, .inl (cI, 10, .inl d_came)), (dq11, .inl (cI, 100, .inl d_worth)), (dq12, .inl (cZ, 10, .inl res.2.2.1)), (dq13, .inl (cI, 10, .inl res.2.2.2)), (dq14, .inl (cI, 10, .inl d_reservedFor)), (dq15, .inl (cI, 10, .inl d_reservedTo)), (dq18, .inl (cI, 10, .inl d_pieceDual)), (dq19, .inl (cI, 10, .inl d_orderDual)), (dq20, .inl (cJ, 11264, .inr (.inl d_table)))]) A) ([.ref dq, .int x1] : List Value).toArray s 0 0 A) (F0 m 246 ls []) := by
          intro K hK246 n
          induction n with
          | zero => intro y1c y2c y3c y4c y5c y6c d_thrownc d_usedc d_usedByc H locs ls hl hP hD hS hm; exact absurd hm (by simp [L_D_several_246])
          | succ n ih246 =>
            intro y1c y2c y3c y4c y5c y6c d_thrownc d_usedc d_usedByc H locs ls hl hP hD hS hm
            rw [L_D_several_246] at hm
            refine lv_iload hx hb d_D_several_246 (lv_at hl 6 rfl) ?_
            refine lv_aload_n hx hb d_D_several_248 rfl (lv_at hl 0 rfl) ?_
            refine va_get (D := (dC, dI)) (ci := 5) (v := .int d_orders) (C := R_D) (T := F_D) (N := 20) hx hb hts hk1 hown hK hP 0 rfl rfl 6 (by decide) hk0 (fun _ h9 => h9) rfl d_D_several_249 ?_
            refine lv_icmp_ge (tgt := 279) hx hb d_D_several_252 (by decide) (fun c9 => ?_) (fun c9 => ?_)
            · replace hm := if_t c9 hm
              have hl : lv_has ls 12 [(0, .ref dq), (1, .int y1c), (2, .int y2c), (3, .int y3c), (4, .int y4c), (5, .int y5c), (6, .int y6c)] := lv_sub hl [0, 1, 2, 3, 4, 5, 6] rfl
              exact hK246 y1c y2c y3c y4c y5c y6c d_thrownc d_usedc d_usedByc _ _ ls hl hP hD hS hm
            · replace hm := if_f c9 hm
              refine lv_iload_n hx hb d_D_several_255 rfl (lv_at hl 3 rfl) ?_
              refine lv_iload hx hb d_D_several_256 (lv_at hl 6 rfl) ?_
              refine lv_ishr hx hb d_D_several_258 ?_
              refine lv_iconst (v := 1) hx hb d_D_several_259 (by decide) ?_
              refine lv_iand hx hb d_D_several_260 ?_
              refine lv_iconst (v := 1) hx hb d_D_several_261 (by decide) ?_
              refine lv_icmp_ne (tgt := 273) hx hb d_D_several_262 (by decide) (fun c9 => ?_) (fun c9 => ?_)
              · replace hm := if_f c9 hm
                refine lv_iinc (v := (y6c + 1)) (lv' := [(6, .int (y6c + 1)), (0, .ref dq), (1, .int y1c), (2, .int y2c), (3, .int y3c), (4, .int y4c), (5, .int y5c)]) hx hb d_D_several_273 hl (k := 6) rfl rfl (by decide) rfl (fun ls hl => ?_)
                refine lv_goto (tgt := 246) hx hb d_D_several_276 (by decide) ?_
                have hl : lv_has ls 12 [(0, .ref dq), (1, .int y1c), (2, .int y2c), (3, .int y3c), (4, .int y4c), (5, .int y5c), (6, .int (y6c + 1))] := lv_sub hl [1, 2, 3, 4, 5, 6, 0] rfl
                exact ih246 y1c y2c y3c y4c y5c (y6c + 1) d_thrownc d_usedc d_usedByc _ _ ls hl hP hD hS hm
              · replace hm := if_t c9 hm
                refine lv_aload_n hx hb d_D_several_265 rfl (lv_at hl 0 rfl) ?_
                refine va_get (D := (dC, dI)) (ci := 5) (v := .ref dq13) (C := R_D) (T := F_D) (N := 20) hx hb hts hk1 hown hK hP 0 rfl rfl 12 (by decide) hk5 (fun _ h9 => h9) rfl d_D_several_266 ?_
                refine lv_iload hx hb d_D_several_269 (lv_at hl 6 rfl) ?_
                refine lv_iload_n hx hb d_D_several_271 rfl (lv_at hl 1 rfl) ?_
                obtain ⟨h9, hm⟩ := gd hm
                refine va_iast hx hb hK hP hD hS 6 0 rfl rfl h9 d_D_several_272 (fun H locs hP hD hS => ?_)
                have hP : va_P (dC, dI) classes [(dq, .inr (5, [.int d_thrownc, .int d_today, .int d_cut, .int d_aging, .int d_saleFrom, .int d_pieces, .int d_orders, .ref dq8, .ref dq9, .ref dq10, .ref dq11, .ref dq12, .ref dq13, .ref dq14, .ref dq15, .int d_ran, .int d_sum, .ref dq18, .ref dq19, .ref dq20])), (dq8, .inl (cI, 40, .inl d_piece)), (dq9, .inl (cI, 40, .inl d_order)), (dq10, .inl (cI, 10, .inl d_came)), (dq11, .inl (cI, 100, .inl d_worth)), (dq12, .inl (cZ, 10, .inl d_usedc)), (dq13, .inl (cI, 10, .inl (upd d_usedByc y6c.toNatClampNeg y1c))), (dq14, .inl (cI, 10, .inl d_reservedFor)), (dq15, .inl (cI, 10, .inl d_reservedTo)), (dq18, .inl (cI, 10, .inl d_pieceDual)), (dq19, .inl (cI, 10, .inl d_orderDual)), (dq20, .inl (cJ, 11264, .inr (.inl d_table)))] H := hP
                have hD : va_D A [(dq, .inr (5, [.int d_thrownc, .int d_today, .int d_cut, .int d_aging, .int d_saleFrom, .int d_pieces, .int d_orders, .ref dq8, .ref dq9, .ref dq10, .ref dq11, .ref dq12, .ref dq13, .ref dq14, .ref dq15, .int d_ran, .int d_sum, .ref dq18, .ref dq19, .ref dq20])), (dq8, .inl (cI, 40, .inl d_piece)), (dq9, .inl (cI, 40, .inl d_order)), (dq10, .inl (cI, 10, .inl d_came)), (dq11, .inl (cI, 100, .inl d_worth)), (dq12, .inl (cZ, 10, .inl d_usedc)), (dq13, .inl (cI, 10, .inl (upd d_usedByc y6c.toNatClampNeg y1c))), (dq14, .inl (cI, 10, .inl d_reservedFor)), (dq15, .inl (cI, 10, .inl d_reservedTo)), (dq18, .inl (cI, 10, .inl d_pieceDual)), (dq19, .inl (cI, 10, .inl d_orderDual)), (dq20, .inl (cJ, 11264, .inr (.inl d_table)))] := hD
                refine lv_iinc (v := (y6c + 1)) (lv' := [(6, .int (y6c + 1)), (0, .ref dq), (1, .int y1c), (2, .int y2c), (3, .int y3c), (4, .int y4c), (5, .int y5c)]) hx hb d_D_several_273 hl (k := 6) rfl rfl (by decide) rfl (fun ls hl => ?_)
                refine lv_goto (tgt := 246) hx hb d_D_several_276 (by decide) ?_
                have hl : lv_has ls 12 [(0, .ref dq), (1, .int y1c), (2, .int y2c), (3, .int y3c), (4, .int y4c), (5, .int y5c), (6, .int (y6c + 1))] := lv_sub hl [1, 2, 3, 4, 5, 6, 0] rfl
                exact ih246 y1c y2c y3c y4c y5c (y6c + 1) d_thrownc d_usedc (upd d_usedByc y6c.toNatClampNeg y1c) _ _ ls hl hP hD hS hm
        have hl : lv_has ls 12 [(0, .ref dq), (1, .int y1a), (2, .int y2a), (3, .int y3a), (4, .int y4a), (5, .int y5a), (6, .int 0)] := lv_sub hl [1, 2, 3, 4, 5, 6, 0] rfl
        refine key246 _ (fun y1c y2c y3c y4c y5c y6c d_thrownc d_usedc d_usedByc H locs ls hl hP hD hS hm => ?_) N y1a y2a y3a y4a y5a 0 d_throwna (upd d_useda y1a.toNatClampNeg (vp_nar .boolean 1)) d_usedBya _ _ ls hl hP hD hS hm
        try dsimp only at hm
        refine lv_iload hx hb d_D_several_279 (lv_at hl 4 rfl) ?_
        cases hm
        refine W.widen (k := 0) (n := 0) (Nat.le_of_ble_eq_true rfl) (Nat.le_of_ble_eq_true rfl) ?_
        exact W.iret hx hb hr (fun t ht hW => ⟨⟨_, (), rfl, rfl, by rw [ht]; exact hP, va_K.moved hW.alike hK, hD⟩, hS.F ht⟩) hS.2.2 d_D_several_281
      · replace hm := if_t c9 hm
        refine lv_iconst (v := 0) hx hb d_D_several_234 (by decide) ?_
        cases hm
        refine W.widen (k := 0) (n := 0) (Nat.le_of_ble_eq_true rfl) (Nat.le_of_ble_eq_true rfl) ?_
        exact W.iret hx hb hr (fun t ht hW => ⟨⟨_, (), rfl, rfl, by rw [ht]; exact hP, va_K.moved hW.alike hK, hD⟩, hS.F ht⟩) hS.2.2 d_D_several_235
    · replace hm := if_t c9 hm
      refine lv_iconst (v := 0) hx hb d_D_several_42 (by decide) ?_
      cases hm
      refine W.widen (k := 0) (n := 0) (Nat.le_of_ble_eq_true rfl) (Nat.le_of_ble_eq_true rfl) ?_
      exact W.iret hx hb hr (fun t ht hW => ⟨⟨_, (), rfl, rfl, by rw [ht]; exact hP, va_K.moved hW.alike hK, hD⟩, hS.F ht⟩) hS.2.2 d_D_several_43
  · replace hm := if_f c9 hm
    refine lv_aload_n hx hb d_D_several_12 rfl (lv_at hl 1 rfl) ?_
    refine va_get (D := (dC, dI)) (ci := 5) (v := .ref dq12) (C := R_D) (T := F_D) (N := 20) hx hb hts hk1 hown hK hP 0 rfl rfl 11 (by decide) hk4 (fun _ h9 => h9) rfl d_D_several_13 ?_
    refine lv_iload_n hx hb d_D_several_16 rfl (lv_at hl 2 rfl) ?_
    obtain ⟨h9, hm⟩ := gd hm
    refine va_zald hx hb hK hP 5 1 rfl rfl h9 d_D_several_17 ?_
    refine lv_if_ne (tgt := 33) hx hb d_D_several_18 (by decide) (fun c9 => ?_) (fun c9 => ?_)
    · replace hm := if_f c9 hm
      refine lv_iconst (v := 0) hx hb d_D_several_33 (by decide) ?_
      refine lv_iconst (v := 1) hx hb d_D_several_34 (by decide) ?_
      refine lv_iconst (v := 1) hx hb d_D_several_35 (by decide) ?_
      obtain ⟨⟨r9, u10⟩, hc, hm⟩ := bd hm
      try dsimp only at hm
      have hPc := hP.sub (ws' := [(dq, .inr (5, [.int d_thrown, .int d_today, .int d_cut, .int d_aging, .int d_saleFrom, .int d_pieces, .int d_orders, .ref dq8, .ref dq9, .ref dq10, .ref dq11, .ref dq12, .ref dq13, .ref dq14, .ref dq15, .int d_ran, .int d_sum, .ref dq18, .ref dq19, .ref dq20])), (dq8, .inl (cI, 40, .inl d_piece)), (dq9, .inl (cI, 40, .inl d_order)), (dq10, .inl (cI, 10, .inl d_came)), (dq11, .inl (cI, 100, .inl d_worth)), (dq12, .inl (cZ, 10, .inl d_used)), (dq13, .inl (cI, 10, .inl d_usedBy)), (dq14, .inl (cI, 10, .inl d_reservedFor)), (dq15, .inl (cI, 10, .inl d_reservedTo)), (dq18, .inl (cI, 10, .inl d_pieceDual)), (dq19, .inl (cI, 10, .inl d_orderDual)), (dq20, .inl (cJ, 11264, .inr (.inl d_table)))]) [0, 1, 2, 3, 4, 5, 6, 7, 8, 9, 10, 11] rfl
      have hDc := hD.sub (ws' := [(dq, .inr (5, [.int d_thrown, .int d_today, .int d_cut, .int d_aging, .int d_saleFrom, .int d_pieces, .int d_orders, .ref dq8, .ref dq9, .ref dq10, .ref dq11, .ref dq12, .ref dq13, .ref dq14, .ref dq15, .int d_ran, .int d_sum, .ref dq18, .ref dq19, .ref dq20])), (dq8, .inl (cI, 40, .inl d_piece)), (dq9, .inl (cI, 40, .inl d_order)), (dq10, .inl (cI, 10, .inl d_came)), (dq11, .inl (cI, 100, .inl d_worth)), (dq12, .inl (cZ, 10, .inl d_used)), (dq13, .inl (cI, 10, .inl d_usedBy)), (dq14, .inl (cI, 10, .inl d_reservedFor)), (dq15, .inl (cI, 10, .inl d_reservedTo)), (dq18, .inl (cI, 10, .inl d_pieceDual)), (dq19, .inl (cI, 10, .inl d_orderDual)), (dq20, .inl (cJ, 11264, .inr (.inl d_table)))]) [0, 1, 2, 3, 4, 5, 6, 7, 8, 9, 10, 11] (by decide) rfl
      have hFc := va_free (wc := [(dq, .inr (5, [.int d_thrown, .int d_today, .int d_cut, .int d_aging, .int d_saleFrom, .int d_pieces, .int d_orders, .ref dq8, .ref dq9, .ref dq10, .ref dq11, .ref dq12, .ref dq13, .ref dq14, .ref dq15, .int d_ran, .int d_sum, .ref dq18, .ref dq19, .ref dq20])), (dq8, .inl (cI, 40, .inl d_piece)), (dq9, .inl (cI, 40, .inl d_order)), (dq10, .inl (cI, 10, .inl d_came)), (dq11, .inl (cI, 100, .inl d_worth)), (dq12, .inl (cZ, 10, .inl d_used)), (dq13, .inl (cI, 10, .inl d_usedBy)), (dq14, .inl (cI, 10, .inl d_reservedFor)), (dq15, .inl (cI, 10, .inl d_reservedTo)), (dq18, .inl (cI, 10, .inl d_pieceDual)), (dq19, .inl (cI, 10, .inl d_orderDual)), (dq20, .inl (cJ, 11264, .inr (.inl d_table)))]) hD hS hA [0, 1, 2, 3, 4, 5, 6, 7, 8, 9, 10, 11] rfl
      refine va_calli (va_runV (As := [.int r1, .int 0, .int 1, .int 1]) (rest := []) ⟨hx, hb, hml, hown, hts⟩ (c_D_goes l dC dI cI cZ cJ dq dq8 dq9 dq10 dq11 dq12 dq13 dq14 dq15 dq18 dq19 dq20 s.heap.size d_thrown d_today d_cut d_aging d_saleFrom d_pieces d_orders d_piece d_order d_came d_worth d_used d_usedBy d_reservedFor d_reservedTo d_ran d_sum d_pieceDual d_orderDual d_table r1 0 1 1 N (r9, u10) hc) (cwV 4 hts (gV (w0 670 rfl) (w0 671 rfl) (w0 18 rfl) (w0 33 rfl) (w0 672 rfl)) rfl rfl rfl q_D_goes ⟨Nat.le_of_ble_eq_true rfl, Nat.le_of_ble_eq_true rfl⟩) (wr_preV hK hPc hDc hN 5 0 (R_D, F_D, 20) rfl rfl) rfl rfl hl.1 rfl (lv_room (Nat.le_of_ble_eq_true rfl)) d_D_several_36 ⟨Nat.le_of_ble_eq_true rfl, Nat.le_of_ble_eq_true rfl⟩) hS (fun q _ h => hFc q h) hFc (fun r9 u t H1 locs ht hvm hw hB hz1 hk1 hS => ?_)
      subst hw
      obtain ⟨hP1, hK1, hD1⟩ := hB
      rw [ht] at hP1
      obtain ⟨hP, hD⟩ := va_join (wr := []) (w1 := [(dq, .inr (5, [.int u10, .int d_today, .int d_cut, .int d_aging, .int d_saleFrom, .int d_pieces, .int d_orders, .ref dq8, .ref dq9, .ref dq10, .ref dq11, .ref dq12, .ref dq13, .ref dq14, .ref dq15, .int d_ran, .int d_sum, .ref dq18, .ref dq19, .ref dq20])), (dq8, .inl (cI, 40, .inl d_piece)), (dq9, .inl (cI, 40, .inl d_order)), (dq10, .inl (cI, 10, .inl d_came)), (dq11, .inl (cI, 100, .inl d_worth)), (dq12, .inl (cZ, 10, .inl d_used)), (dq13, .inl (cI, 10, .inl d_usedBy)), (dq14, .inl (cI, 10, .inl d_reservedFor)), (dq15, .inl (cI, 10, .inl d_reservedTo)), (dq18, .inl (cI, 10, .inl d_pieceDual)), (dq19, .inl (cI, 10, .inl d_orderDual)), (dq20, .inl (cJ, 11264, .inr (.inl d_table)))]) hP hD [0, 1, 2, 3, 4, 5, 6, 7, 8, 9, 10, 11] [] rfl rfl (by decide) (by decide) hk1 hFc hP1 hD1
      generalize H1 = H at hP hS ⊢
      have hP : va_P (dC, dI) classes [(dq, .inr (5, [.int u10, .int d_today, .int d_cut, .int d_aging, .int d_saleFrom, .int d_pieces, .int d_orders, .ref dq8, .ref dq9, .ref dq10, .ref dq11, .ref dq12, .ref dq13, .ref dq14, .ref dq15, .int d_ran, .int d_sum, .ref dq18, .ref dq19, .ref dq20])), (dq8, .inl (cI, 40, .inl d_piece)), (dq9, .inl (cI, 40, .inl d_order)), (dq10, .inl (cI, 10, .inl d_came)), (dq11, .inl (cI, 100, .inl d_worth)), (dq12, .inl (cZ, 10, .inl d_used)), (dq13, .inl (cI, 10, .inl d_usedBy)), (dq14, .inl (cI, 10, .inl d_reservedFor)), (dq15, .inl (cI, 10, .inl d_reservedTo)), (dq18, .inl (cI, 10, .inl d_pieceDual)), (dq19, .inl (cI, 10, .inl d_orderDual)), (dq20, .inl (cJ, 11264, .inr (.inl d_table)))] H := hP
      have hD : va_D A [(dq, .inr (5, [.int u10, .int d_today, .int d_cut, .int d_aging, .int d_saleFrom, .int d_pieces, .int d_orders, .ref dq8, .ref dq9, .ref dq10, .ref dq11, .ref dq12, .ref dq13, .ref dq14, .ref dq15, .int d_ran, .int d_sum, .ref dq18, .ref dq19, .ref dq20])), (dq8, .inl (cI, 40, .inl d_piece)), (dq9, .inl (cI, 40, .inl d_order)), (dq10, .inl (cI, 10, .inl d_came)), (dq11, .inl (cI, 100, .inl d_worth)), (dq12, .inl (cZ, 10, .inl d_used)), (dq13, .inl (cI, 10, .inl d_usedBy)), (dq14, .inl (cI, 10, .inl d_reservedFor)), (dq15, .inl (cI, 10, .inl d_reservedTo)), (dq18, .inl (cI, 10, .inl d_pieceDual)), (dq19, .inl (cI, 10, .inl d_orderDual)), (dq20, .inl (cJ, 11264, .inr (.inl d_table)))] := hD
      clear hP1 hD1 hPc hDc hFc hk1 hz1
      refine lv_if_ne (tgt := 44) hx hb d_D_several_39 (by decide) (fun c9 => ?_) (fun c9 => ?_)
      · replace hm := if_f c9 hm
        refine lv_iconst (v := 0) hx hb d_D_several_44 (by decide) ?_
        refine lv_istore_n (lv' := [(3, .int 0), (2, .int r1), (0, .ref dq), (1, .int x1)]) hx hb d_D_several_45 rfl hl (by decide) rfl (fun ls hl => ?_)
        refine lv_iconst (v := 0) hx hb d_D_several_46 (by decide) ?_
        refine lv_istore (lv' := [(4, .int 0), (3, .int 0), (2, .int r1), (0, .ref dq), (1, .int x1)]) hx hb d_D_several_47 hl (by decide) rfl (fun ls hl => ?_)
        refine lv_iconst (v := 0) hx hb d_D_several_49 (by decide) ?_
        refine lv_istore (lv' := [(5, .int 0), (4, .int 0), (3, .int 0), (2, .int r1), (0, .ref dq), (1, .int x1)]) hx hb d_D_several_50 hl (by decide) rfl (fun ls hl => ?_)
        refine lv_iconst (v := 1) hx hb d_D_several_52 (by decide) ?_
        refine lv_istore (lv' := [(6, .int 1), (5, .int 0), (4, .int 0), (3, .int 0), (2, .int r1), (0, .ref dq), (1, .int x1)]) hx hb d_D_several_53 hl (by decide) rfl (fun ls hl => ?_)
        have key55 : ∀ (K : Int32 → Int32 → Int32 → Int32 → Int32 → Int32 → Int32 → (Nat → Int32) → (Nat → Int32) → Option (Int32 × Int32 × (Nat → Int32) × (Nat → Int32))) (_ : ∀ (y1a : Int32) (y2a : Int32) (y3a : Int32) (y4a : Int32) (y5a : Int32) (y6a : Int32) (d_throwna : Int32) (d_useda : Nat → Int32) (d_usedBya : Nat → Int32) (H : Heap) (locs : List Loc) (ls : Array Slot), lv_has ls 12 [(0, .ref dq), (1, .int y1a), (2, .int y2a), (3, .int y3a), (4, .int y4a), (5, .int y5a), (6, .int y6a)] → va_P (dC, dI) classes [(dq, .inr (5, [.int d_throwna, .int d_today, .int d_cut, .int d_aging, .int d_saleFrom, .int d_pieces, .int d_orders, .ref dq8, .ref dq9, .ref dq10, .ref dq11, .ref dq12, .ref dq13, .ref dq14, .ref dq15, .int d_ran, .int d_sum, .ref dq18, .ref dq19, .ref dq20])), (dq8, .inl (cI, 40, .inl d_piece)), (dq9, .inl (cI, 40, .inl d_order)), (dq10, .inl (cI, 10, .inl d_came)), (dq11, .inl (cI, 100, .inl d_worth)), (dq12, .inl (cZ, 10, .inl d_useda)), (dq13, .inl (cI, 10, .inl d_usedBya)), (dq14, .inl (cI, 10, .inl d_reservedFor)), (dq15, .inl (cI, 10, .inl d_reservedTo)), (dq18, .inl (cI, 10, .inl d_pieceDual)), (dq19, .inl (cI, 10, .inl d_orderDual)), (dq20, .inl (cJ, 11264, .inr (.inl d_table)))] H → va_D A [(dq, .inr (5, [.int d_throwna, .int d_today, .int d_cut, .int d_aging, .int d_saleFrom, .int d_pieces, .int d_orders, .ref dq8, .ref dq9, .ref dq10, .ref dq11, .ref dq12, .ref dq13, .ref dq14, .ref dq15, .int d_ran, .int d_sum, .ref dq18, .ref dq19, .ref dq20])), (dq8, .inl (cI, 40, .inl d_piece)), (dq9, .inl (cI, 40, .inl d_order)), (dq10, .inl (cI, 10, .inl d_came)), (dq11, .inl (cI, 100, .inl d_worth)), (dq12, .inl (cZ, 10, .inl d_useda)), (dq13, .inl (cI, 10, .inl d_usedBya)), (dq14, .inl (cI, 10, .inl d_reservedFor)), (dq15, .inl (cI, 10, .inl d_reservedTo)), (dq18, .inl (cI, 10, .inl d_pieceDual)), (dq19, .inl (cI, 10, .inl d_orderDual)), (dq20, .inl (cJ, 11264, .inr (.inl d_table)))] → va_S A s.heap H locs → K y1a y2a y3a y4a y5a y6a d_throwna d_useda d_usedBya = some res → W p l e (headSpec w_D_several ({ frames := 3, cells := 0, slots := 0, locals := 67 } : Room)).room s m ([.ref dq, .int x1] : List Value).toArray below meth c H locs 0 0 (MQ below (va_Qi (fun (x : Int32) (_ : Unit) => res.1 = x) (fun _ t => va_P (dC, dI) classes [(dq, .inr (5, [.int res.2.1, .int d_today, .int d_cut, .int d_aging, .int d_saleFrom, .int d_pieces, .int d_orders, .ref dq8, .ref dq9, .ref dq10, .ref dq11, .ref dq12, .ref dq13, .ref dq14, .ref dq15, .int d_ran, .int d_sum, .ref dq18, .ref dq19, .ref dq20])), (dq8, .inl (cI, 40, .inl d_piece)), (dq9, .inl (cI, 40, .inl d_order)), (dq10, .inl (cI, 10, .inl d_came)), (dq11, .inl (cI, 100, .inl d_worth)), (dq12, .inl (cZ, 10, .inl res.2.2.1)), (dq13, .inl (cI, 10, .inl res.2.2.2)), (dq14, .inl (cI, 10, .inl d_reservedFor)), (dq15, .inl (cI, 10, .inl d_reservedTo)), (dq18, .inl (cI, 10, .inl d_pieceDual)), (dq19, .inl (cI, 10, .inl d_orderDual)), (dq20, .inl (cJ, 11264, .inr (.inl d_table)))] t.heap ∧ va_K (dC, dI) classes [(cI, .int), (cZ, .boolean), (cJ, .long)] t ∧ va_D A [(dq, .inr (5, [.int res.2.1, .int d_today, .int d_cut, .int d_aging, .int d_saleFrom, .int d_pieces, .int d_orders, .ref dq8, .ref dq9, .ref dq10, .ref dq11, .ref dq12, .ref dq13, .ref dq14, .ref dq15, .int d_ran, .int d_sum, .ref dq18, .ref dq19, .ref dq20])), (dq8, .inl (cI, 40, .inl d_piece)), (dq9, .inl (cI, 40, .inl d_order)), (dq10, .inl (cI, 10, .inl d_came)), (dq11, .inl (cI, 100, .inl d_worth)), (dq12, .inl (cZ, 10, .inl res.2.2.1)), (dq13, .inl (cI, 10, .inl res.2.2.2)), (dq14, .inl (cI, 10, .inl d_reservedFor)), (dq15, .inl (cI, 10, .inl d_reservedTo)), (dq18, .inl (cI, 10, .inl d_pieceDual)), (dq19, .inl (cI, 10, .inl d_orderDual)), (dq20, .inl (cJ, 11264, .inr (.inl d_table)))]) A) ([.ref dq, .int x1] : List Value).toArray s 0 0 A) (F0 m 230 ls [])) (n : Nat) (y1a : Int32) (y2a : Int32) (y3a : Int32) (y4a : Int32) (y5a : Int32) (y6a : Int32) (d_throwna : Int32) (d_useda : Nat → Int32) (d_usedBya : Nat → Int32) (H : Heap) (locs : List Loc) (ls : Array Slot), lv_has ls 12 [(0, .ref dq), (1, .int y1a), (2, .int y2a), (3, .int y3a), (4, .int y4a), (5, .int y5a), (6, .int y6a)] → va_P (dC, dI) classes [(dq, .inr (5, [.int d_throwna, .int d_today, .int d_cut, .int d_aging, .int d_saleFrom, .int d_pieces, .int d_orders, .ref dq8, .ref dq9, .ref dq10, .ref dq11, .ref dq12, .ref dq13, .ref dq14, .ref dq15, .int d_ran, .int d_sum, .ref dq18, .ref dq19, .ref dq20])), (dq8, .inl (cI, 40, .inl d_piece)), (dq9, .inl (cI, 40, .inl d_order)), (dq10, .inl (cI, 10, .inl d_came)), (dq11, .inl (cI, 100, .inl d_worth)), (dq12, .inl (cZ, 10, .inl d_useda)), (dq13, .inl (cI, 10, .inl d_usedBya)), (dq14, .inl (cI, 10, .inl d_reservedFor)), (dq15, .inl (cI, 10, .inl d_reservedTo)), (dq18, .inl (cI, 10, .inl d_pieceDual)), (dq19, .inl (cI, 10, .inl d_orderDual)), (dq20, .inl (cJ, 11264, .inr (.inl d_table)))] H → va_D A [(dq, .inr (5, [.int d_throwna, .int d_today, .int d_cut, .int d_aging, .int d_saleFrom, .int d_pieces, .int d_orders, .ref dq8, .ref dq9, .ref dq10, .ref dq11, .ref dq12, .ref dq13, .ref dq14, .ref dq15, .int d_ran, .int d_sum, .ref dq18, .ref dq19, .ref dq20])), (dq8, .inl (cI, 40, .inl d_piece)), (dq9, .inl (cI, 40, .inl d_order)), (dq10, .inl (cI, 10, .inl d_came)), (dq11, .inl (cI, 100, .inl d_worth)), (dq12, .inl (cZ, 10, .inl d_useda)), (dq13, .inl (cI, 10, .inl d_usedBya)), (dq14, .inl (cI, 10, .inl d_reservedFor)), (dq15, .inl (cI, 10, .inl d_reservedTo)), (dq18, .inl (cI, 10, .inl d_pieceDual)), (dq19, .inl (cI, 10, .inl d_orderDual)), (dq20, .inl (cJ, 11264, .inr (.inl d_table)))] → va_S A s.heap H locs → L_D_several_55 N d_today d_cut d_aging d_pieces d_orders d_piece d_order d_came d_worth d_reservedFor d_reservedTo K n y1a y2a y3a y4a y5a y6a d_throwna d_useda d_usedBya = some res → W p l e (headSpec w_D_several ({ frames := 3, cells := 0, slots := 0, locals := 67 } : Room)).room s m ([.ref dq, .int x1] : List Value).toArray below meth c H locs 0 0 (MQ below (va_Qi (fun (x : Int32) (_ : Unit) => res.1 = x) (fun _ t => va_P (dC, dI) classes [(dq, .inr (5, [.int res.2.1, .int d_today, .int d_cut, .int d_aging, .int d_saleFrom, .int d_pieces, .int d_orders, .ref dq8, .ref dq9, .ref dq10, .ref dq11, .ref dq12, .ref dq13, .ref dq14, .ref dq15, .int d_ran, .int d_sum, .ref dq18, .ref dq19, .ref dq20])), (dq8, .inl (cI, 40, .inl d_piece)), (dq9, .inl (cI, 40, .inl d_order)), (dq10, .inl (cI, 10, .inl d_came)), (dq11, .inl (cI, 100, .inl d_worth)), (dq12, .inl (cZ, 10, .inl res.2.2.1)), (dq13, .inl (cI, 10, .inl res.2.2.2)), (dq14, .inl (cI, 10, .inl d_reservedFor)), (dq15, .inl (cI, 10, .inl d_reservedTo)), (dq18, .inl (cI, 10, .inl d_pieceDual)), (dq19, .inl (cI, 10, .inl d_orderDual)), (dq20, .inl (cJ, 11264, .inr (.inl d_table)))] t.heap ∧ va_K (dC, dI) classes [(cI, .int), (cZ, .boolean), (cJ, .long)] t ∧ va_D A [(dq, .inr (5, [.int res.2.1, .int d_today, .int d_cut, .int d_aging, .int d_saleFrom, .int d_pieces, .int d_orders, .ref dq8, .ref dq9, .ref dq10, .ref dq11, .ref dq12, .ref dq13, .ref dq14, .ref dq15, .int d_ran, .int d_sum, .ref dq18, .ref dq19, .ref dq20])), (dq8, .inl (cI, 40, .inl d_piece)), (dq9, .inl (cI, 40, .inl d_order)), (dq10, .inl (cI, 10, .inl d_came)), (dq11, .inl (cI, 100, .inl d_worth)), (dq12, .inl (cZ, 10, .inl res.2.2.1)), (dq13, .inl (cI, 10, .inl res.2.2.2)), (dq14, .inl (cI, 10, .inl d_reservedFor)), (dq15, .inl (cI, 10, .inl d_reservedTo)), (dq18, .inl (cI, 10, .inl d_pieceDual)), (dq19, .inl (cI, 10, .inl d_orderDual)), (dq20, .inl (cJ, 11264, .inr (.inl d_table)))]) A) ([.ref dq, .int x1] : List Value).toArray s 0 0 A) (F0 m 55 ls []) := by
          intro K hK55 n
          induction n with
          | zero => intro y1a y2a y3a y4a y5a y6a d_throwna d_useda d_usedBya H locs ls hl hP hD hS hm; exact absurd hm (by simp [L_D_several_55])
          | succ n ih55 =>
            intro y1a y2a y3a y4a y5a y6a d_throwna d_useda d_usedBya H locs ls hl hP hD hS hm
            rw [L_D_several_55] at hm
            refine lv_iload hx hb d_D_several_55 (lv_at hl 6 rfl) ?_
            refine lv_sipush (v := 1024) hx hb d_D_several_57 (by decide) ?_
            refine lv_icmp_ge (tgt := 230) hx hb d_D_several_60 (by decide) (fun c9 => ?_) (fun c9 => ?_)
            · replace hm := if_t c9 hm
              have hl : lv_has ls 12 [(0, .ref dq), (1, .int y1a), (2, .int y2a), (3, .int y3a), (4, .int y4a), (5, .int y5a), (6, .int y6a)] := lv_sub hl [0, 1, 2, 3, 4, 5, 6] rfl
              exact hK55 y1a y2a y3a y4a y5a y6a d_throwna d_useda d_usedBya _ _ ls hl hP hD hS hm
            · replace hm := if_f c9 hm
              refine lv_iconst (v := 0) hx hb d_D_several_63 (by decide) ?_
              refine lv_istore (lv' := [(7, .int 0), (0, .ref dq), (1, .int y1a), (2, .int y2a), (3, .int y3a), (4, .int y4a), (5, .int y5a), (6, .int y6a)]) hx hb d_D_several_64 hl (by decide) rfl (fun ls hl => ?_)
              refine lv_iconst (v := 0) hx hb d_D_several_66 (by decide) ?_
              refine lv_istore (lv' := [(8, .int 0), (7, .int 0), (0, .ref dq), (1, .int y1a), (2, .int y2a), (3, .int y3a), (4, .int y4a), (5, .int y5a), (6, .int y6a)]) hx hb d_D_several_67 hl (by decide) rfl (fun ls hl => ?_)
              refine lv_iconst (v := 0) hx hb d_D_several_69 (by decide) ?_
              refine lv_istore (lv' := [(9, .int 0), (8, .int 0), (7, .int 0), (0, .ref dq), (1, .int y1a), (2, .int y2a), (3, .int y3a), (4, .int y4a), (5, .int y5a), (6, .int y6a)]) hx hb d_D_several_70 hl (by decide) rfl (fun ls hl => ?_)
              refine lv_iconst (v := 1) hx hb d_D_several_72 (by decide) ?_
              refine lv_istore (lv' := [(10, .int 1), (9, .int 0), (8, .int 0), (7, .int 0), (0, .ref dq), (1, .int y1a), (2, .int y2a), (3, .int y3a), (4, .int y4a), (5, .int y5a), (6, .int y6a)]) hx hb d_D_several_73 hl (by decide) rfl (fun ls hl => ?_)
              refine lv_iconst (v := 0) hx hb d_D_several_75 (by decide) ?_
              refine lv_istore (lv' := [(11, .int 0), (10, .int 1), (9, .int 0), (8, .int 0), (7, .int 0), (0, .ref dq), (1, .int y1a), (2, .int y2a), (3, .int y3a), (4, .int y4a), (5, .int y5a), (6, .int y6a)]) hx hb d_D_several_76 hl (by decide) rfl (fun ls hl => ?_)
              have key78 : ∀ (K : Int32 → Int32 → Int32 → Int32 → Int32 → Int32 → Int32 → Int32 → Int32 → Int32 → Int32 → Int32 → (Nat → Int32) → (Nat → Int32) → Option (Int32 × Int32 × (Nat → Int32) × (Nat → Int32))) (_ : ∀ (y1b : Int32) (y2b : Int32) (y3b : Int32) (y4b : Int32) (y5b : Int32) (y6b : Int32) (y7b : Int32) (y8b : Int32) (y9b : Int32) (y10b : Int32) (y11b : Int32) (d_thrownb : Int32) (d_usedb : Nat → Int32) (d_usedByb : Nat → Int32) (H : Heap) (locs : List Loc) (ls : Array Slot), lv_has ls 12 [(0, .ref dq), (1, .int y1b), (2, .int y2b), (3, .int y3b), (4, .int y4b), (5, .int y5b), (6, .int y6b), (7, .int y7b), (8, .int y8b), (9, .int y9b), (10, .int y10b), (11, .int y11b)] → va_P (dC, dI) classes [(dq, .inr (5, [.int d_thrownb, .int d_today, .int d_cut, .int d_aging, .int d_saleFrom, .int d_pieces, .int d_orders, .ref dq8, .ref dq9, .ref dq10, .ref dq11, .ref dq12, .ref dq13, .ref dq14, .ref dq15, .int d_ran, .int d_sum, .ref dq18, .ref dq19, .ref dq20])), (dq8, .inl (cI, 40, .inl d_piece)), (dq9, .inl (cI, 40, .inl d_order)), (dq10, .inl (cI, 10, .inl d_came)), (dq11, .inl (cI, 100, .inl d_worth)), (dq12, .inl (cZ, 10, .inl d_usedb)), (dq13, .inl (cI, 10, .inl d_usedByb)), (dq14, .inl (cI, 10, .inl d_reservedFor)), (dq15, .inl (cI, 10, .inl d_reservedTo)), (dq18, .inl (cI, 10, .inl d_pieceDual)), (dq19, .inl (cI, 10, .inl d_orderDual)), (dq20, .inl (cJ, 11264, .inr (.inl d_table)))] H → va_D A [(dq, .inr (5, [.int d_thrownb, .int d_today, .int d_cut, .int d_aging, .int d_saleFrom, .int d_pieces, .int d_orders, .ref dq8, .ref dq9, .ref dq10, .ref dq11, .ref dq12, .ref dq13, .ref dq14, .ref dq15, .int d_ran, .int d_sum, .ref dq18, .ref dq19, .ref dq20])), (dq8, .inl (cI, 40, .inl d_piece)), (dq9, .inl (cI, 40, .inl d_order)), (dq10, .inl (cI, 10, .inl d_came)), (dq11, .inl (cI, 100, .inl d_worth)), (dq12, .inl (cZ, 10, .inl d_usedb)), (dq13, .inl (cI, 10, .inl d_usedByb)), (dq14, .inl (cI, 10, .inl d_reservedFor)), (dq15, .inl (cI, 10, .inl d_reservedTo)), (dq18, .inl (cI, 10, .inl d_pieceDual)), (dq19, .inl (cI, 10, .inl d_orderDual)), (dq20, .inl (cJ, 11264, .inr (.inl d_table)))] → va_S A s.heap H locs → K y1b y2b y3b y4b y5b y6b y7b y8b y9b y10b y11b d_thrownb d_usedb d_usedByb = some res → W p l e (headSpec w_D_several ({ frames := 3, cells := 0, slots := 0, locals := 67 } : Room)).room s m ([.ref dq, .int x1] : List Value).toArray below meth c H locs 0 0 (MQ below (va_Qi (fun (x : Int32) (_ : Unit) => res.1 = x) (fun _ t => va_P (dC, dI) classes [(dq, .inr (5, [.int res.2.1, .int d_today, .int d_cut, .int d_aging, .int d_saleFrom, .int d_pieces, .int d_orders, .ref dq8, .ref dq9, .ref dq10, .ref dq11, .ref dq12, .ref dq13, .ref dq14, .ref dq15, .int d_ran, .int d_sum, .ref dq18, .ref dq19, .ref dq20])), (dq8, .inl (cI, 40, .inl d_piece)), (dq9, .inl (cI, 40, .inl d_order)), (dq10, .inl (cI, 10, .inl d_came)), (dq11, .inl (cI, 100, .inl d_worth)), (dq12, .inl (cZ, 10, .inl res.2.2.1)), (dq13, .inl (cI, 10, .inl res.2.2.2)), (dq14, .inl (cI, 10, .inl d_reservedFor)), (dq15, .inl (cI, 10, .inl d_reservedTo)), (dq18, .inl (cI, 10, .inl d_pieceDual)), (dq19, .inl (cI, 10, .inl d_orderDual)), (dq20, .inl (cJ, 11264, .inr (.inl d_table)))] t.heap ∧ va_K (dC, dI) classes [(cI, .int), (cZ, .boolean), (cJ, .long)] t ∧ va_D A [(dq, .inr (5, [.int res.2.1, .int d_today, .int d_cut, .int d_aging, .int d_saleFrom, .int d_pieces, .int d_orders, .ref dq8, .ref dq9, .ref dq10, .ref dq11, .ref dq12, .ref dq13, .ref dq14, .ref dq15, .int d_ran, .int d_sum, .ref dq18, .ref dq19, .ref dq20])), (dq8, .inl (cI, 40, .inl d_piece)), (dq9, .inl (cI, 40, .inl d_order)), (dq10, .inl (cI, 10, .inl d_came)), (dq11, .inl (cI, 100, .inl d_worth)), (dq12, .inl (cZ, 10, .inl res.2.2.1)), (dq13, .inl (cI, 10, .inl res.2.2.2)), (dq14, .inl (cI, 10, .inl d_reservedFor)), (dq15, .inl (cI, 10, .inl d_reservedTo)), (dq18, .inl (cI, 10, .inl d_pieceDual)), (dq19, .inl (cI, 10, .inl d_orderDual)), (dq20, .inl (cJ, 11264, .inr (.inl d_table)))]) A) ([.ref dq, .int x1] : List Value).toArray s 0 0 A) (F0 m 160 ls [])) (n : Nat) (y1b : Int32) (y2b : Int32) (y3b : Int32) (y4b : Int32) (y5b : Int32) (y6b : Int32) (y7b : Int32) (y8b : Int32) (y9b : Int32) (y10b : Int32) (y11b : Int32) (d_thrownb : Int32) (d_usedb : Nat → Int32) (d_usedByb : Nat → Int32) (H : Heap) (locs : List Loc) (ls : Array Slot), lv_has ls 12 [(0, .ref dq), (1, .int y1b), (2, .int y2b), (3, .int y3b), (4, .int y4b), (5, .int y5b), (6, .int y6b), (7, .int y7b), (8, .int y8b), (9, .int y9b), (10, .int y10b), (11, .int y11b)] → va_P (dC, dI) classes [(dq, .inr (5, [.int d_thrownb, .int d_today, .int d_cut, .int d_aging, .int d_saleFrom, .int d_pieces, .int d_orders, .ref dq8, .ref dq9, .ref dq10, .ref dq11, .ref dq12, .ref dq13, .ref dq14, .ref dq15, .int d_ran, .int d_sum, .ref dq18, .ref dq19, .ref dq20])), (dq8, .inl (cI, 40, .inl d_piece)), (dq9, .inl (cI, 40, .inl d_order)), (dq10, .inl (cI, 10, .inl d_came)), (dq11, .inl (cI, 100, .inl d_worth)), (dq12, .inl (cZ, 10, .inl d_usedb)), (dq13, .inl (cI, 10, .inl d_usedByb)), (dq14, .inl (cI, 10, .inl d_reservedFor)), (dq15, .inl (cI, 10, .inl d_reservedTo)), (dq18, .inl (cI, 10, .inl d_pieceDual)), (dq19, .inl (cI, 10, .inl d_orderDual)), (dq20, .inl (cJ, 11264, .inr (.inl d_table)))] H → va_D A [(dq, .inr (5, [.int d_thrownb, .int d_today, .int d_cut, .int d_aging, .int d_saleFrom, .int d_pieces, .int d_orders, .ref dq8, .ref dq9, .ref dq10, .ref dq11, .ref dq12, .ref dq13, .ref dq14, .ref dq15, .int d_ran, .int d_sum, .ref dq18, .ref dq19, .ref dq20])), (dq8, .inl (cI, 40, .inl d_piece)), (dq9, .inl (cI, 40, .inl d_order)), (dq10, .inl (cI, 10, .inl d_came)), (dq11, .inl (cI, 100, .inl d_worth)), (dq12, .inl (cZ, 10, .inl d_usedb)), (dq13, .inl (cI, 10, .inl d_usedByb)), (dq14, .inl (cI, 10, .inl d_reservedFor)), (dq15, .inl (cI, 10, .inl d_reservedTo)), (dq18, .inl (cI, 10, .inl d_pieceDual)), (dq19, .inl (cI, 10, .inl d_orderDual)), (dq20, .inl (cJ, 11264, .inr (.inl d_table)))] → va_S A s.heap H locs → L_D_several_78 N d_today d_cut d_aging d_pieces d_orders d_piece d_order d_came d_worth d_reservedFor d_reservedTo K n y1b y2b y3b y4b y5b y6b y7b y8b y9b y10b y11b d_thrownb d_usedb d_usedByb = some res → W p l e (headSpec w_D_several ({ frames := 3, cells := 0, slots := 0, locals := 67 } : Room)).room s m ([.ref dq, .int x1] : List Value).toArray below meth c H locs 0 0 (MQ below (va_Qi (fun (x : Int32) (_ : Unit) => res.1 = x) (fun _ t => va_P (dC, dI) classes [(dq, .inr (5, [.int res.2.1, .int d_today, .int d_cut, .int d_aging, .int d_saleFrom, .int d_pieces, .int d_orders, .ref dq8, .ref dq9, .ref dq10, .ref dq11, .ref dq12, .ref dq13, .ref dq14, .ref dq15, .int d_ran, .int d_sum, .ref dq18, .ref dq19, .ref dq20])), (dq8, .inl (cI, 40, .inl d_piece)), (dq9, .inl (cI, 40, .inl d_order)), (dq10, .inl (cI, 10, .inl d_came)), (dq11, .inl (cI, 100, .inl d_worth)), (dq12, .inl (cZ, 10, .inl res.2.2.1)), (dq13, .inl (cI, 10, .inl res.2.2.2)), (dq14, .inl (cI, 10, .inl d_reservedFor)), (dq15, .inl (cI, 10, .inl d_reservedTo)), (dq18, .inl (cI, 10, .inl d_pieceDual)), (dq19, .inl (cI, 10, .inl d_orderDual)), (dq20, .inl (cJ, 11264, .inr (.inl d_table)))] t.heap ∧ va_K (dC, dI) classes [(cI, .int), (cZ, .boolean), (cJ, .long)] t ∧ va_D A [(dq, .inr (5, [.int res.2.1, .int d_today, .int d_cut, .int d_aging, .int d_saleFrom, .int d_pieces, .int d_orders, .ref dq8, .ref dq9, .ref dq10, .ref dq11, .ref dq12, .ref dq13, .ref dq14, .ref dq15, .int d_ran, .int d_sum, .ref dq18, .ref dq19, .ref dq20])), (dq8, .inl (cI, 40, .inl d_piece)), (dq9, .inl (cI, 40, .inl d_order)), (dq10, .inl (cI, 10, .inl d_came)), (dq11, .inl (cI, 100, .inl d_worth)), (dq12, .inl (cZ, 10, .inl res.2.2.1)), (dq13, .inl (cI, 10, .inl res.2.2.2)), (dq14, .inl (cI, 10, .inl d_reservedFor)), (dq15, .inl (cI, 10, .inl d_reservedTo)), (dq18, .inl (cI, 10, .inl d_pieceDual)), (dq19, .inl (cI, 10, .inl d_orderDual)), (dq20, .inl (cJ, 11264, .inr (.inl d_table)))]) A) ([.ref dq, .int x1] : List Value).toArray s 0 0 A) (F0 m 78 ls []) := by
                intro K hK78 n
                induction n with
                | zero => intro y1b y2b y3b y4b y5b y6b y7b y8b y9b y10b y11b d_thrownb d_usedb d_usedByb H locs ls hl hP hD hS hm; exact absurd hm (by simp [L_D_several_78])
                | succ n ih78 =>
                  intro y1b y2b y3b y4b y5b y6b y7b y8b y9b y10b y11b d_thrownb d_usedb d_usedByb H locs ls hl hP hD hS hm
                  rw [L_D_several_78] at hm
                  refine lv_iload hx hb d_D_several_78 (lv_at hl 11 rfl) ?_
                  refine lv_bipush (v := 10) hx hb d_D_several_80 (by decide) ?_
                  refine lv_icmp_ge (tgt := 160) hx hb d_D_several_82 (by decide) (fun c9 => ?_) (fun c9 => ?_)
                  · replace hm := if_t c9 hm
                    have hl : lv_has ls 12 [(0, .ref dq), (1, .int y1b), (2, .int y2b), (3, .int y3b), (4, .int y4b), (5, .int y5b), (6, .int y6b), (7, .int y7b), (8, .int y8b), (9, .int y9b), (10, .int y10b), (11, .int y11b)] := lv_sub hl [0, 1, 2, 3, 4, 5, 6, 7, 8, 9, 10, 11] rfl
                    exact hK78 y1b y2b y3b y4b y5b y6b y7b y8b y9b y10b y11b d_thrownb d_usedb d_usedByb _ _ ls hl hP hD hS hm
                  · replace hm := if_f c9 hm
                    refine lv_iload hx hb d_D_several_85 (lv_at hl 6 rfl) ?_
                    refine lv_iload hx hb d_D_several_87 (lv_at hl 11 rfl) ?_
                    refine lv_ishr hx hb d_D_several_89 ?_
                    refine lv_iconst (v := 1) hx hb d_D_several_90 (by decide) ?_
                    refine lv_iand hx hb d_D_several_91 ?_
                    refine lv_if_ne (tgt := 98) hx hb d_D_several_92 (by decide) (fun c9 => ?_) (fun c9 => ?_)
                    · replace hm := if_f c9 hm
                      refine lv_iload hx hb d_D_several_98 (lv_at hl 11 rfl) ?_
                      refine lv_aload_n hx hb d_D_several_100 rfl (lv_at hl 0 rfl) ?_
                      refine va_get (D := (dC, dI)) (ci := 5) (v := .int d_orders) (C := R_D) (T := F_D) (N := 20) hx hb hts hk1 hown hK hP 0 rfl rfl 6 (by decide) hk0 (fun _ h9 => h9) rfl d_D_several_101 ?_
                      refine lv_icmp_ge (tgt := 117) hx hb d_D_several_104 (by decide) (fun c9 => ?_) (fun c9 => ?_)
                      · replace hm := if_t c9 hm
                        refine lv_iconst (v := 0) hx hb d_D_several_117 (by decide) ?_
                        refine lv_istore (lv' := [(10, .int 0), (0, .ref dq), (1, .int y1b), (2, .int y2b), (3, .int y3b), (4, .int y4b), (5, .int y5b), (6, .int y6b), (7, .int y7b), (8, .int y8b), (9, .int y9b), (11, .int y11b)]) hx hb d_D_several_118 hl (by decide) rfl (fun ls hl => ?_)
                        refine lv_goto (tgt := 154) hx hb d_D_several_120 (by decide) ?_
                        refine lv_iinc (v := (y11b + 1)) (lv' := [(11, .int (y11b + 1)), (10, .int 0), (0, .ref dq), (1, .int y1b), (2, .int y2b), (3, .int y3b), (4, .int y4b), (5, .int y5b), (6, .int y6b), (7, .int y7b), (8, .int y8b), (9, .int y9b)]) hx hb d_D_several_154 hl (k := 11) rfl rfl (by decide) rfl (fun ls hl => ?_)
                        refine lv_goto (tgt := 78) hx hb d_D_several_157 (by decide) ?_
                        have hl : lv_has ls 12 [(0, .ref dq), (1, .int y1b), (2, .int y2b), (3, .int y3b), (4, .int y4b), (5, .int y5b), (6, .int y6b), (7, .int y7b), (8, .int y8b), (9, .int y9b), (10, .int 0), (11, .int (y11b + 1))] := lv_sub hl [2, 3, 4, 5, 6, 7, 8, 9, 10, 11, 1, 0] rfl
                        exact ih78 y1b y2b y3b y4b y5b y6b y7b y8b y9b 0 (y11b + 1) d_thrownb d_usedb d_usedByb _ _ ls hl hP hD hS hm
                      · replace hm := if_f c9 hm
                        refine lv_aload_n hx hb d_D_several_107 rfl (lv_at hl 0 rfl) ?_
                        refine lv_iload_n hx hb d_D_several_108 rfl (lv_at hl 1 rfl) ?_
                        refine lv_iload hx hb d_D_several_109 (lv_at hl 11 rfl) ?_
                        obtain ⟨r11, hc, hm⟩ := bd hm
                        try dsimp only at hm
                        refine vp_callSi (W.runV (As := [.int y1b, .int y11b]) (rest := []) ⟨hx, hb, hml, hown, hts⟩ (c_D_can l dC dI cI cZ cJ dq dq8 dq9 dq10 dq11 dq12 dq13 dq14 dq15 dq18 dq19 dq20 d_thrownb d_today d_cut d_aging d_saleFrom d_pieces d_orders d_piece d_order d_came d_worth d_usedb d_usedByb d_reservedFor d_reservedTo d_ran d_sum d_pieceDual d_orderDual d_table y1b y11b N r11 hc) (cwV 2 hts (gV (w0 713 rfl) (w0 714 rfl) (w0 24 rfl) (w0 33 rfl) (w0 715 rfl)) rfl rfl rfl q_D_can ⟨Nat.le_of_ble_eq_true rfl, Nat.le_of_ble_eq_true rfl⟩) (ro_preV [0, 1, 2, 3, 4, 5, 6, 7, 8, 9, 10, 11] rfl hK hP hN 5 0 (R_D, F_D, 20) rfl rfl) rfl rfl hl.1 rfl (lv_room (Nat.le_of_ble_eq_true rfl)) d_D_several_111 ⟨Nat.le_of_ble_eq_true rfl, Nat.le_of_ble_eq_true rfl⟩) (fun r9 hr9 => ?_)
                        subst hr9
                        refine lv_if_ne (tgt := 123) hx hb d_D_several_114 (by decide) (fun c9 => ?_) (fun c9 => ?_)
                        · replace hm := if_f c9 hm
                          refine lv_iinc (v := (y7b + 1)) (lv' := [(7, .int (y7b + 1)), (0, .ref dq), (1, .int y1b), (2, .int y2b), (3, .int y3b), (4, .int y4b), (5, .int y5b), (6, .int y6b), (8, .int y8b), (9, .int y9b), (10, .int y10b), (11, .int y11b)]) hx hb d_D_several_123 hl (k := 7) rfl rfl (by decide) rfl (fun ls hl => ?_)
                          refine lv_iload hx hb d_D_several_126 (lv_at hl 8 rfl) ?_
                          refine lv_aload_n hx hb d_D_several_128 rfl (lv_at hl 1 rfl) ?_
                          refine va_get (D := (dC, dI)) (ci := 5) (v := .ref dq9) (C := R_D) (T := F_D) (N := 20) hx hb hts hk1 hown hK hP 0 rfl rfl 8 (by decide) hk2 (fun _ h9 => h9) rfl d_D_several_129 ?_
                          refine lv_iconst (v := 4) hx hb d_D_several_132 (by decide) ?_
                          refine lv_iload hx hb d_D_several_133 (lv_at hl 11 rfl) ?_
                          refine lv_imul hx hb d_D_several_135 ?_
                          refine lv_iconst (v := 2) hx hb d_D_several_136 (by decide) ?_
                          refine lv_iadd hx hb d_D_several_137 ?_
                          obtain ⟨h9, hm⟩ := gd hm
                          refine va_iald hx hb hK hP 2 0 rfl rfl h9 d_D_several_138 ?_
                          refine lv_iadd hx hb d_D_several_139 ?_
                          refine lv_istore (lv' := [(8, .int (y8b + (d_order ((4 * y11b) + 2).toNatClampNeg))), (7, .int (y7b + 1)), (0, .ref dq), (1, .int y1b), (2, .int y2b), (3, .int y3b), (4, .int y4b), (5, .int y5b), (6, .int y6b), (9, .int y9b), (10, .int y10b), (11, .int y11b)]) hx hb d_D_several_140 hl (by decide) rfl (fun ls hl => ?_)
                          refine lv_iload hx hb d_D_several_142 (lv_at hl 9 rfl) ?_
                          refine lv_aload_n hx hb d_D_several_144 rfl (lv_at hl 2 rfl) ?_
                          refine lv_iload_n hx hb d_D_several_145 rfl (lv_at hl 3 rfl) ?_
                          refine lv_iload hx hb d_D_several_146 (lv_at hl 11 rfl) ?_
                          obtain ⟨r12, hc, hm⟩ := bd hm
                          try dsimp only at hm
                          refine vp_callSi (W.runV (As := [.int y1b, .int y11b]) (rest := [.int y9b]) ⟨hx, hb, hml, hown, hts⟩ (c_D_netOf l dC dI cI cZ cJ dq dq8 dq9 dq10 dq11 dq12 dq13 dq14 dq15 dq18 dq19 dq20 d_thrownb d_today d_cut d_aging d_saleFrom d_pieces d_orders d_piece d_order d_came d_worth d_usedb d_usedByb d_reservedFor d_reservedTo d_ran d_sum d_pieceDual d_orderDual d_table y1b y11b N r12 hc) (cwV 2 hts (gV (w0 703 rfl) (w0 704 rfl) (w0 22 rfl) (w0 33 rfl) (w0 705 rfl)) rfl rfl rfl q_D_netOf ⟨Nat.le_of_ble_eq_true rfl, Nat.le_of_ble_eq_true rfl⟩) (ro_preV [0, 1, 2, 3, 4, 5, 6, 7, 8, 9, 10, 11] rfl hK hP hN 5 0 (R_D, F_D, 20) rfl rfl) rfl rfl hl.1 rfl (lv_room (Nat.le_of_ble_eq_true rfl)) d_D_several_148 ⟨Nat.le_of_ble_eq_true rfl, Nat.le_of_ble_eq_true rfl⟩) (fun r9 hr9 => ?_)
                          subst hr9
                          refine lv_iadd hx hb d_D_several_151 ?_
                          refine lv_istore (lv' := [(9, .int (y9b + r12)), (8, .int (y8b + (d_order ((4 * y11b) + 2).toNatClampNeg))), (7, .int (y7b + 1)), (0, .ref dq), (1, .int y1b), (2, .int y2b), (3, .int y3b), (4, .int y4b), (5, .int y5b), (6, .int y6b), (10, .int y10b), (11, .int y11b)]) hx hb d_D_several_152 hl (by decide) rfl (fun ls hl => ?_)
                          refine lv_iinc (v := (y11b + 1)) (lv' := [(11, .int (y11b + 1)), (9, .int (y9b + r12)), (8, .int (y8b + (d_order ((4 * y11b) + 2).toNatClampNeg))), (7, .int (y7b + 1)), (0, .ref dq), (1, .int y1b), (2, .int y2b), (3, .int y3b), (4, .int y4b), (5, .int y5b), (6, .int y6b), (10, .int y10b)]) hx hb d_D_several_154 hl (k := 11) rfl rfl (by decide) rfl (fun ls hl => ?_)
                          refine lv_goto (tgt := 78) hx hb d_D_several_157 (by decide) ?_
                          have hl : lv_has ls 12 [(0, .ref dq), (1, .int y1b), (2, .int y2b), (3, .int y3b), (4, .int y4b), (5, .int y5b), (6, .int y6b), (7, .int (y7b + 1)), (8, .int (y8b + (d_order ((4 * y11b) + 2).toNatClampNeg))), (9, .int (y9b + r12)), (10, .int y10b), (11, .int (y11b + 1))] := lv_sub hl [4, 5, 6, 7, 8, 9, 10, 3, 2, 1, 11, 0] rfl
                          exact ih78 y1b y2b y3b y4b y5b y6b (y7b + 1) (y8b + (d_order ((4 * y11b) + 2).toNatClampNeg)) (y9b + r12) y10b (y11b + 1) d_thrownb d_usedb d_usedByb _ _ ls hl hP hD hS hm
                        · replace hm := if_t c9 hm
                          refine lv_iconst (v := 0) hx hb d_D_several_117 (by decide) ?_
                          refine lv_istore (lv' := [(10, .int 0), (0, .ref dq), (1, .int y1b), (2, .int y2b), (3, .int y3b), (4, .int y4b), (5, .int y5b), (6, .int y6b), (7, .int y7b), (8, .int y8b), (9, .int y9b), (11, .int y11b)]) hx hb d_D_several_118 hl (by decide) rfl (fun ls hl => ?_)
                          refine lv_goto (tgt := 154) hx hb d_D_several_120 (by decide) ?_
                          refine lv_iinc (v := (y11b + 1)) (lv' := [(11, .int (y11b + 1)), (10, .int 0), (0, .ref dq), (1, .int y1b), (2, .int y2b), (3, .int y3b), (4, .int y4b), (5, .int y5b), (6, .int y6b), (7, .int y7b), (8, .int y8b), (9, .int y9b)]) hx hb d_D_several_154 hl (k := 11) rfl rfl (by decide) rfl (fun ls hl => ?_)
                          refine lv_goto (tgt := 78) hx hb d_D_several_157 (by decide) ?_
                          have hl : lv_has ls 12 [(0, .ref dq), (1, .int y1b), (2, .int y2b), (3, .int y3b), (4, .int y4b), (5, .int y5b), (6, .int y6b), (7, .int y7b), (8, .int y8b), (9, .int y9b), (10, .int 0), (11, .int (y11b + 1))] := lv_sub hl [2, 3, 4, 5, 6, 7, 8, 9, 10, 11, 1, 0] rfl
                          exact ih78 y1b y2b y3b y4b y5b y6b y7b y8b y9b 0 (y11b + 1) d_thrownb d_usedb d_usedByb _ _ ls hl hP hD hS hm
                    · replace hm := if_t c9 hm
                      refine lv_goto (tgt := 154) hx hb d_D_several_95 (by decide) ?_
                      refine lv_iinc (v := (y11b + 1)) (lv' := [(11, .int (y11b + 1)), (0, .ref dq), (1, .int y1b), (2, .int y2b), (3, .int y3b), (4, .int y4b), (5, .int y5b), (6, .int y6b), (7, .int y7b), (8, .int y8b), (9, .int y9b), (10, .int y10b)]) hx hb d_D_several_154 hl (k := 11) rfl rfl (by decide) rfl (fun ls hl => ?_)
                      refine lv_goto (tgt := 78) hx hb d_D_several_157 (by decide) ?_
                      have hl : lv_has ls 12 [(0, .ref dq), (1, .int y1b), (2, .int y2b), (3, .int y3b), (4, .int y4b), (5, .int y5b), (6, .int y6b), (7, .int y7b), (8, .int y8b), (9, .int y9b), (10, .int y10b), (11, .int (y11b + 1))] := lv_sub hl [1, 2, 3, 4, 5, 6, 7, 8, 9, 10, 11, 0] rfl
                      exact ih78 y1b y2b y3b y4b y5b y6b y7b y8b y9b y10b (y11b + 1) d_thrownb d_usedb d_usedByb _ _ ls hl hP hD hS hm
              have hl : lv_has ls 12 [(0, .ref dq), (1, .int y1a), (2, .int y2a), (3, .int y3a), (4, .int y4a), (5, .int y5a), (6, .int y6a), (7, .int 0), (8, .int 0), (9, .int 0), (10, .int 1), (11, .int 0)] := lv_sub hl [5, 6, 7, 8, 9, 10, 11, 4, 3, 2, 1, 0] rfl
              refine key78 _ (fun y1b y2b y3b y4b y5b y6b y7b y8b y9b y10b y11b d_thrownb d_usedb d_usedByb H locs ls hl hP hD hS hm => ?_) N y1a y2a y3a y4a y5a y6a 0 0 0 1 0 d_throwna d_useda d_usedBya _ _ ls hl hP hD hS hm
              try dsimp only at hm
              refine lv_iload hx hb d_D_several_160 (lv_at hl 10 rfl) ?_
              refine lv_if_eq (tgt := 224) hx hb d_D_several_162 (by decide) (fun c9 => ?_) (fun c9 => ?_)
              · replace hm := if_t c9 hm
                refine lv_iinc (v := (y6b + 1)) (lv' := [(6, .int (y6b + 1)), (0, .ref dq), (1, .int y1b), (2, .int y2b), (3, .int y3b), (4, .int y4b), (5, .int y5b), (7, .int y7b), (8, .int y8b), (9, .int y9b), (10, .int y10b), (11, .int y11b)]) hx hb d_D_several_224 hl (k := 6) rfl rfl (by decide) rfl (fun ls hl => ?_)
                refine lv_goto (tgt := 55) hx hb d_D_several_227 (by decide) ?_
                have hl : lv_has ls 12 [(0, .ref dq), (1, .int y1b), (2, .int y2b), (3, .int y3b), (4, .int y4b), (5, .int y5b), (6, .int (y6b + 1))] := lv_sub hl [1, 2, 3, 4, 5, 6, 0] rfl
                exact ih55 y1b y2b y3b y4b y5b (y6b + 1) d_thrownb d_usedb d_usedByb _ _ ls hl hP hD hS hm
              · replace hm := if_f c9 hm
                refine lv_iload hx hb d_D_several_165 (lv_at hl 7 rfl) ?_
                refine lv_iconst (v := 5) hx hb d_D_several_167 (by decide) ?_
                refine lv_icmp_gt (tgt := 224) hx hb d_D_several_168 (by decide) (fun c9 => ?_) (fun c9 => ?_)
                · replace hm := if_t c9 hm
                  refine lv_iinc (v := (y6b + 1)) (lv' := [(6, .int (y6b + 1)), (0, .ref dq), (1, .int y1b), (2, .int y2b), (3, .int y3b), (4, .int y4b), (5, .int y5b), (7, .int y7b), (8, .int y8b), (9, .int y9b), (10, .int y10b), (11, .int y11b)]) hx hb d_D_several_224 hl (k := 6) rfl rfl (by decide) rfl (fun ls hl => ?_)
                  refine lv_goto (tgt := 55) hx hb d_D_several_227 (by decide) ?_
                  have hl : lv_has ls 12 [(0, .ref dq), (1, .int y1b), (2, .int y2b), (3, .int y3b), (4, .int y4b), (5, .int y5b), (6, .int (y6b + 1))] := lv_sub hl [1, 2, 3, 4, 5, 6, 0] rfl
                  exact ih55 y1b y2b y3b y4b y5b (y6b + 1) d_thrownb d_usedb d_usedByb _ _ ls hl hP hD hS hm
                · replace hm := if_f c9 hm
                  refine lv_iload hx hb d_D_several_171 (lv_at hl 8 rfl) ?_
                  refine lv_aload_n hx hb d_D_several_173 rfl (lv_at hl 0 rfl) ?_
                  refine va_get (D := (dC, dI)) (ci := 5) (v := .ref dq8) (C := R_D) (T := F_D) (N := 20) hx hb hts hk1 hown hK hP 0 rfl rfl 7 (by decide) hk3 (fun _ h9 => h9) rfl d_D_several_174 ?_
                  refine lv_iconst (v := 4) hx hb d_D_several_177 (by decide) ?_
                  refine lv_iload_n hx hb d_D_several_178 rfl (lv_at hl 1 rfl) ?_
                  refine lv_imul hx hb d_D_several_179 ?_
                  refine lv_iconst (v := 2) hx hb d_D_several_180 (by decide) ?_
                  refine lv_iadd hx hb d_D_several_181 ?_
                  obtain ⟨h9, hm⟩ := gd hm
                  refine va_iald hx hb hK hP 1 0 rfl rfl h9 d_D_several_182 ?_
                  refine lv_icmp_le (tgt := 189) hx hb d_D_several_183 (by decide) (fun c9 => ?_) (fun c9 => ?_)
                  · replace hm := if_t c9 hm
                    refine lv_iload hx hb d_D_several_189 (lv_at hl 7 rfl) ?_
                    refine lv_iload hx hb d_D_several_191 (lv_at hl 4 rfl) ?_
                    refine lv_icmp_lt (tgt := 224) hx hb d_D_several_193 (by decide) (fun c9 => ?_) (fun c9 => ?_)
                    · replace hm := if_t c9 hm
                      refine lv_iinc (v := (y6b + 1)) (lv' := [(6, .int (y6b + 1)), (0, .ref dq), (1, .int y1b), (2, .int y2b), (3, .int y3b), (4, .int y4b), (5, .int y5b), (7, .int y7b), (8, .int y8b), (9, .int y9b), (10, .int y10b), (11, .int y11b)]) hx hb d_D_several_224 hl (k := 6) rfl rfl (by decide) rfl (fun ls hl => ?_)
                      refine lv_goto (tgt := 55) hx hb d_D_several_227 (by decide) ?_
                      have hl : lv_has ls 12 [(0, .ref dq), (1, .int y1b), (2, .int y2b), (3, .int y3b), (4, .int y4b), (5, .int y5b), (6, .int (y6b + 1))] := lv_sub hl [1, 2, 3, 4, 5, 6, 0] rfl
                      exact ih55 y1b y2b y3b y4b y5b (y6b + 1) d_thrownb d_usedb d_usedByb _ _ ls hl hP hD hS hm
                    · replace hm := if_f c9 hm
                      refine lv_iload hx hb d_D_several_196 (lv_at hl 7 rfl) ?_
                      refine lv_iload hx hb d_D_several_198 (lv_at hl 4 rfl) ?_
                      refine lv_icmp_ne (tgt := 213) hx hb d_D_several_200 (by decide) (fun c9 => ?_) (fun c9 => ?_)
                      · replace hm := if_f c9 hm
                        refine lv_iload hx hb d_D_several_213 (lv_at hl 6 rfl) ?_
                        refine lv_istore_n (lv' := [(3, .int y6b), (0, .ref dq), (1, .int y1b), (2, .int y2b), (4, .int y4b), (5, .int y5b), (6, .int y6b), (7, .int y7b), (8, .int y8b), (9, .int y9b), (10, .int y10b), (11, .int y11b)]) hx hb d_D_several_215 rfl hl (by decide) rfl (fun ls hl => ?_)
                        refine lv_iload hx hb d_D_several_216 (lv_at hl 7 rfl) ?_
                        refine lv_istore (lv' := [(4, .int y7b), (3, .int y6b), (0, .ref dq), (1, .int y1b), (2, .int y2b), (5, .int y5b), (6, .int y6b), (7, .int y7b), (8, .int y8b), (9, .int y9b), (10, .int y10b), (11, .int y11b)]) hx hb d_D_several_218 hl (by decide) rfl (fun ls hl => ?_)
                        refine lv_iload hx hb d_D_several_220 (lv_at hl 9 rfl) ?_
                        refine lv_istore (lv' := [(5, .int y9b), (4, .int y7b), (3, .int y6b), (0, .ref dq), (1, .int y1b), (2, .int y2b), (6, .int y6b), (7, .int y7b), (8, .int y8b), (9, .int y9b), (10, .int y10b), (11, .int y11b)]) hx hb d_D_several_222 hl (by decide) rfl (fun ls hl => ?_)
                        refine lv_iinc (v := (y6b + 1)) (lv' := [(6, .int (y6b + 1)), (5, .int y9b), (4, .int y7b), (3, .int y6b), (0, .ref dq), (1, .int y1b), (2, .int y2b), (7, .int y7b), (8, .int y8b), (9, .int y9b), (10, .int y10b), (11, .int y11b)]) hx hb d_D_several_224 hl (k := 6) rfl rfl (by decide) rfl (fun ls hl => ?_)
                        refine lv_goto (tgt := 55) hx hb d_D_several_227 (by decide) ?_
                        have hl : lv_has ls 12 [(0, .ref dq), (1, .int y1b), (2, .int y2b), (3, .int y6b), (4, .int y7b), (5, .int y9b), (6, .int (y6b + 1))] := lv_sub hl [4, 5, 6, 3, 2, 1, 0] rfl
                        exact ih55 y1b y2b y6b y7b y9b (y6b + 1) d_thrownb d_usedb d_usedByb _ _ ls hl hP hD hS hm
                      · replace hm := if_t c9 hm
                        refine lv_iload hx hb d_D_several_203 (lv_at hl 9 rfl) ?_
                        refine lv_iload hx hb d_D_several_205 (lv_at hl 5 rfl) ?_
                        refine lv_icmp_gt (tgt := 213) hx hb d_D_several_207 (by decide) (fun c9 => ?_) (fun c9 => ?_)
                        · replace hm := if_t c9 hm
                          refine lv_iload hx hb d_D_several_213 (lv_at hl 6 rfl) ?_
                          refine lv_istore_n (lv' := [(3, .int y6b), (0, .ref dq), (1, .int y1b), (2, .int y2b), (4, .int y4b), (5, .int y5b), (6, .int y6b), (7, .int y7b), (8, .int y8b), (9, .int y9b), (10, .int y10b), (11, .int y11b)]) hx hb d_D_several_215 rfl hl (by decide) rfl (fun ls hl => ?_)
                          refine lv_iload hx hb d_D_several_216 (lv_at hl 7 rfl) ?_
                          refine lv_istore (lv' := [(4, .int y7b), (3, .int y6b), (0, .ref dq), (1, .int y1b), (2, .int y2b), (5, .int y5b), (6, .int y6b), (7, .int y7b), (8, .int y8b), (9, .int y9b), (10, .int y10b), (11, .int y11b)]) hx hb d_D_several_218 hl (by decide) rfl (fun ls hl => ?_)
                          refine lv_iload hx hb d_D_several_220 (lv_at hl 9 rfl) ?_
                          refine lv_istore (lv' := [(5, .int y9b), (4, .int y7b), (3, .int y6b), (0, .ref dq), (1, .int y1b), (2, .int y2b), (6, .int y6b), (7, .int y7b), (8, .int y8b), (9, .int y9b), (10, .int y10b), (11, .int y11b)]) hx hb d_D_several_222 hl (by decide) rfl (fun ls hl => ?_)
                          refine lv_iinc (v := (y6b + 1)) (lv' := [(6, .int (y6b + 1)), (5, .int y9b), (4, .int y7b), (3, .int y6b), (0, .ref dq), (1, .int y1b), (2, .int y2b), (7, .int y7b), (8, .int y8b), (9, .int y9b), (10, .int y10b), (11, .int y11b)]) hx hb d_D_several_224 hl (k := 6) rfl rfl (by decide) rfl (fun ls hl => ?_)
                          refine lv_goto (tgt := 55) hx hb d_D_several_227 (by decide) ?_
                          have hl : lv_has ls 12 [(0, .ref dq), (1, .int y1b), (2, .int y2b), (3, .int y6b), (4, .int y7b), (5, .int y9b), (6, .int (y6b + 1))] := lv_sub hl [4, 5, 6, 3, 2, 1, 0] rfl
                          exact ih55 y1b y2b y6b y7b y9b (y6b + 1) d_thrownb d_usedb d_usedByb _ _ ls hl hP hD hS hm
                        · replace hm := if_f c9 hm
                          refine lv_goto (tgt := 224) hx hb d_D_several_210 (by decide) ?_
                          refine lv_iinc (v := (y6b + 1)) (lv' := [(6, .int (y6b + 1)), (0, .ref dq), (1, .int y1b), (2, .int y2b), (3, .int y3b), (4, .int y4b), (5, .int y5b), (7, .int y7b), (8, .int y8b), (9, .int y9b), (10, .int y10b), (11, .int y11b)]) hx hb d_D_several_224 hl (k := 6) rfl rfl (by decide) rfl (fun ls hl => ?_)
                          refine lv_goto (tgt := 55) hx hb d_D_several_227 (by decide) ?_
                          have hl : lv_has ls 12 [(0, .ref dq), (1, .int y1b), (2, .int y2b), (3, .int y3b), (4, .int y4b), (5, .int y5b), (6, .int (y6b + 1))] := lv_sub hl [1, 2, 3, 4, 5, 6, 0] rfl
                          exact ih55 y1b y2b y3b y4b y5b (y6b + 1) d_thrownb d_usedb d_usedByb _ _ ls hl hP hD hS hm
                  · replace hm := if_f c9 hm
                    refine lv_goto (tgt := 224) hx hb d_D_several_186 (by decide) ?_
                    refine lv_iinc (v := (y6b + 1)) (lv' := [(6, .int (y6b + 1)), (0, .ref dq), (1, .int y1b), (2, .int y2b), (3, .int y3b), (4, .int y4b), (5, .int y5b), (7, .int y7b), (8, .int y8b), (9, .int y9b), (10, .int y10b), (11, .int y11b)]) hx hb d_D_several_224 hl (k := 6) rfl rfl (by decide) rfl (fun ls hl => ?_)
                    refine lv_goto (tgt := 55) hx hb d_D_several_227 (by decide) ?_
                    have hl : lv_has ls 12 [(0, .ref dq), (1, .int y1b), (2, .int y2b), (3, .int y3b), (4, .int y4b), (5, .int y5b), (6, .int (y6b + 1))] := lv_sub hl [1, 2, 3, 4, 5, 6, 0] rfl
                    exact ih55 y1b y2b y3b y4b y5b (y6b + 1) d_thrownb d_usedb d_usedByb _ _ ls hl hP hD hS hm
        have hl : lv_has ls 12 [(0, .ref dq), (1, .int x1), (2, .int r1), (3, .int 0), (4, .int 0), (5, .int 0), (6, .int 1)] := lv_sub hl [5, 6, 4, 3, 2, 1, 0] rfl
        refine key55 _ (fun y1a y2a y3a y4a y5a y6a d_throwna d_useda d_usedBya H locs ls hl hP hD hS hm => ?_) N x1 r1 0 0 0 1 u10 d_used d_usedBy _ _ ls hl hP hD hS hm
        try dsimp only at hm
        refine lv_iload_n hx hb d_D_several_230 rfl (lv_at hl 3 rfl) ?_
        refine lv_if_ne (tgt := 236) hx hb d_D_several_231 (by decide) (fun c9 => ?_) (fun c9 => ?_)
        · replace hm := if_f c9 hm
          refine lv_aload_n hx hb d_D_several_236 rfl (lv_at hl 0 rfl) ?_
          refine va_get (D := (dC, dI)) (ci := 5) (v := .ref dq12) (C := R_D) (T := F_D) (N := 20) hx hb hts hk1 hown hK hP 0 rfl rfl 11 (by decide) hk4 (fun _ h9 => h9) rfl d_D_several_237 ?_
          refine lv_iload_n hx hb d_D_several_240 rfl (lv_at hl 1 rfl) ?_
          refine lv_iconst (v := 1) hx hb d_D_several_241 (by decide) ?_
          obtain ⟨h9, hm⟩ := gd hm
          refine va_zast hx hb hK hP hD hS 5 1 rfl rfl h9 d_D_several_242 (fun H locs hP hD hS => ?_)
          have hP : va_P (dC, dI) classes [(dq, .inr (5, [.int d_throwna, .int d_today, .int d_cut, .int d_aging, .int d_saleFrom, .int d_pieces, .int d_orders, .ref dq8, .ref dq9, .ref dq10, .ref dq11, .ref dq12, .ref dq13, .ref dq14, .ref dq15, .int d_ran, .int d_sum, .ref dq18, .ref dq19, .ref dq20])), (dq8, .inl (cI, 40, .inl d_piece)), (dq9, .inl (cI, 40, .inl d_order)), (dq10, .inl (cI, 10, .inl d_came)), (dq11, .inl (cI, 100, .inl d_worth)), (dq12, .inl (cZ, 10, .inl (upd d_useda y1a.toNatClampNeg (vp_nar .boolean 1)))), (dq13, .inl (cI, 10, .inl d_usedBya)), (dq14, .inl (cI, 10, .inl d_reservedFor)), (dq15, .inl (cI, 10, .inl d_reservedTo)), (dq18, .inl (cI, 10, .inl d_pieceDual)), (dq19, .inl (cI, 10, .inl d_orderDual)), (dq20, .inl (cJ, 11264, .inr (.inl d_table)))] H := hP
          have hD : va_D A [(dq, .inr (5, [.int d_throwna, .int d_today, .int d_cut, .int d_aging, .int d_saleFrom, .int d_pieces, .int d_orders, .ref dq8, .ref dq9, .ref dq10, .ref dq11, .ref dq12, .ref dq13, .ref dq14, .ref dq15, .int d_ran, .int d_sum, .ref dq18, .ref dq19, .ref dq20])), (dq8, .inl (cI, 40, .inl d_piece)), (dq9, .inl (cI, 40, .inl d_order)), (dq10, .inl (cI, 10, .inl d_came)), (dq11, .inl (cI, 100, .inl d_worth)), (dq12, .inl (cZ, 10, .inl (upd d_useda y1a.toNatClampNeg (vp_nar .boolean 1)))), (dq13, .inl (cI, 10, .inl d_usedBya)), (dq14, .inl (cI, 10, .inl d_reservedFor)), (dq15, .inl (cI, 10, .inl d_reservedTo)), (dq18, .inl (cI, 10, .inl d_pieceDual)), (dq19, .inl (cI, 10, .inl d_orderDual)), (dq20, .inl (cJ, 11264, .inr (.inl d_table)))] := hD
          refine lv_iconst (v := 0) hx hb d_D_several_243 (by decide) ?_
          refine lv_istore (lv' := [(6, .int 0), (0, .ref dq), (1, .int y1a), (2, .int y2a), (3, .int y3a), (4, .int y4a), (5, .int y5a)]) hx hb d_D_several_244 hl (by decide) rfl (fun ls hl => ?_)
          have key246 : ∀ (K : Int32 → Int32 → Int32 → Int32 → Int32 → Int32 → Int32 → (Nat → Int32) → (Nat → Int32) → Option (Int32 × Int32 × (Nat → Int32) × (Nat → Int32))) (_ : ∀ (y1c : Int32) (y2c : Int32) (y3c : Int32) (y4c : Int32) (y5c : Int32) (y6c : Int32) (d_thrownc : Int32) (d_usedc : Nat → Int32) (d_usedByc : Nat → Int32) (H : Heap) (locs : List Loc) (ls : Array Slot), lv_has ls 12 [(0, .ref dq), (1, .int y1c), (2, .int y2c), (3, .int y3c), (4, .int y4c), (5, .int y5c), (6, .int y6c)] → va_P (dC, dI) classes [(dq, .inr (5, [.int d_thrownc, .int d_today, .int d_cut, .int d_aging, .int d_saleFrom, .int d_pieces, .int d_orders, .ref dq8, .ref dq9, .ref dq10, .ref dq11, .ref dq12, .ref dq13, .ref dq14, .ref dq15, .int d_ran, .int d_sum, .ref dq18, .ref dq19, .ref dq20])), (dq8, .inl (cI, 40, .inl d_piece)), (dq9, .inl (cI, 40, .inl d_order)), (dq10, .inl (cI, 10, .inl d_came)), (dq11, .inl (cI, 100, .inl d_worth)), (dq12, .inl (cZ, 10, .inl d_usedc)), (dq13, .inl (cI, 10, .inl d_usedByc)), (dq14, .inl (cI, 10, .inl d_reservedFor)), (dq15, .inl (cI, 10, .inl d_reservedTo)), (dq18, .inl (cI, 10, .inl d_pieceDual)), (dq19, .inl (cI, 10, .inl d_orderDual)), (dq20, .inl (cJ, 11264, .inr (.inl d_table)))] H → va_D A [(dq, .inr (5, [.int d_thrownc, .int d_today, .int d_cut, .int d_aging, .int d_saleFrom, .int d_pieces, .int d_orders, .ref dq8, .ref dq9, .ref dq10, .ref dq11, .ref dq12, .ref dq13, .ref dq14, .ref dq15, .int d_ran, .int d_sum, .ref dq18, .ref dq19, .ref dq20])), (dq8, .inl (cI, 40, .inl d_piece)), (dq9, .inl (cI, 40, .inl d_order)), (dq10, .inl (cI, 10, .inl d_came)), (dq11, .inl (cI, 100, .inl d_worth)), (dq12, .inl (cZ, 10, .inl d_usedc)), (dq13, .inl (cI, 10, .inl d_usedByc)), (dq14, .inl (cI, 10, .inl d_reservedFor)), (dq15, .inl (cI, 10, .inl d_reservedTo)), (dq18, .inl (cI, 10, .inl d_pieceDual)), (dq19, .inl (cI, 10, .inl d_orderDual)), (dq20, .inl (cJ, 11264, .inr (.inl d_table)))] → va_S A s.heap H locs → K y1c y2c y3c y4c y5c y6c d_thrownc d_usedc d_usedByc = some res → W p l e (headSpec w_D_several ({ frames := 3, cells := 0, slots := 0, locals := 67 } : Room)).room s m ([.ref dq, .int x1] : List Value).toArray below meth c H locs 0 0 (MQ below (va_Qi (fun (x : Int32) (_ : Unit) => res.1 = x) (fun _ t => va_P (dC, dI) classes [(dq, .inr (5, [.int res.2.1, .int d_today, .int d_cut, .int d_aging, .int d_saleFrom, .int d_pieces, .int d_orders, .ref dq8, .ref dq9, .ref dq10, .ref dq11, .ref dq12, .ref dq13, .ref dq14, .ref dq15, .int d_ran, .int d_sum, .ref dq18, .ref dq19, .ref dq20])), (dq8, .inl (cI, 40, .inl d_piece)), (dq9, .inl (cI, 40, .inl d_order)), (dq10, .inl (cI, 10, .inl d_came)), (dq11, .inl (cI, 100, .inl d_worth)), (dq12, .inl (cZ, 10, .inl res.2.2.1)), (dq13, .inl (cI, 10, .inl res.2.2.2)), (dq14, .inl (cI, 10, .inl d_reservedFor)), (dq15, .inl (cI, 10, .inl d_reservedTo)), (dq18, .inl (cI, 10, .inl d_pieceDual)), (dq19, .inl (cI, 10, .inl d_orderDual)), (dq20, .inl (cJ, 11264, .inr (.inl d_table)))] t.heap ∧ va_K (dC, dI) classes [(cI, .int), (cZ, .boolean), (cJ, .long)] t ∧ va_D A [(dq, .inr (5, [.int res.2.1, .int d_today, .int d_cut, .int d_aging, .int d_saleFrom, .int d_pieces, .int d_orders, .ref dq8, .ref dq9, .ref dq10, .ref dq11, .ref dq12, .ref dq13, .ref dq14, .ref dq15, .int d_ran, .int d_sum, .ref dq18, .ref dq19, .ref dq20])), (dq8, .inl (cI, 40, .inl d_piece)), (dq9, .inl (cI, 40, .inl d_order)), (dq10, .inl (cI, 10, .inl d_came)), (dq11, .inl (cI, 100, .inl d_worth)), (dq12, .inl (cZ, 10, .inl res.2.2.1)), (dq13, .inl (cI, 10, .inl res.2.2.2)), (dq14, .inl (cI, 10, .inl d_reservedFor)), (dq15, .inl (cI, 10, .inl d_reservedTo)), (dq18, .inl (cI, 10, .inl d_pieceDual)), (dq19, .inl (cI, 10, .inl d_orderDual)), (dq20, .inl (cJ, 11264, .inr (.inl d_table)))]) A) ([.ref dq, .int x1] : List Value).toArray s 0 0 A) (F0 m 279 ls [])) (n : Nat) (y1c : Int32) (y2c : Int32) (y3c : Int32) (y4c : Int32) (y5c : Int32) (y6c : Int32) (d_thrownc : Int32) (d_usedc : Nat → Int32) (d_usedByc : Nat → Int32) (H : Heap) (locs : List Loc) (ls : Array Slot), lv_has ls 12 [(0, .ref dq), (1, .int y1c), (2, .int y2c), (3, .int y3c), (4, .int y4c), (5, .int y5c), (6, .int y6c)] → va_P (dC, dI) classes [(dq, .inr (5, [.int d_thrownc, .int d_today, .int d_cut, .int d_aging, .int d_saleFrom, .int d_pieces, .int d_orders, .ref dq8, .ref dq9, .ref dq10, .ref dq11, .ref dq12, .ref dq13, .ref dq14, .ref dq15, .int d_ran, .int d_sum, .ref dq18, .ref dq19, .ref dq20])), (dq8, .inl (cI, 40, .inl d_piece)), (dq9, .inl (cI, 40, .inl d_order)), (dq10, .inl (cI, 10, .inl d_came)), (dq11, .inl (cI, 100, .inl d_worth)), (dq12, .inl (cZ, 10, .inl d_usedc)), (dq13, .inl (cI, 10, .inl d_usedByc)), (dq14, .inl (cI, 10, .inl d_reservedFor)), (dq15, .inl (cI, 10, .inl d_reservedTo)), (dq18, .inl (cI, 10, .inl d_pieceDual)), (dq19, .inl (cI, 10, .inl d_orderDual)), (dq20, .inl (cJ, 11264, .inr (.inl d_table)))] H → va_D A [(dq, .inr (5, [.int d_thrownc, .int d_today, .int d_cut, .int d_aging, .int d_saleFrom, .int d_pieces, .int d_orders, .ref dq8, .ref dq9, .ref dq10, .ref dq11, .ref dq12, .ref dq13, .ref dq14, .ref dq15, .int d_ran, .int d_sum, .ref dq18, .ref dq19, .ref dq20])), (dq8, .inl (cI, 40, .inl d_piece)), (dq9, .inl (cI, 40, .inl d_order)), (dq10, .inl (cI, 10, .inl d_came)), (dq11, .inl (cI, 100, .inl d_worth)), (dq12, .inl (cZ, 10, .inl d_usedc)), (dq13, .inl (cI, 10, .inl d_usedByc)), (dq14, .inl (cI, 10, .inl d_reservedFor)), (dq15, .inl (cI, 10, .inl d_reservedTo)), (dq18, .inl (cI, 10, .inl d_pieceDual)), (dq19, .inl (cI, 10, .inl d_orderDual)), (dq20, .inl (cJ, 11264, .inr (.inl d_table)))] → va_S A s.heap H locs → L_D_several_246 N d_orders K n y1c y2c y3c y4c y5c y6c d_thrownc d_usedc d_usedByc = some res → W p l e (headSpec w_D_several ({ frames := 3, cells := 0, slots := 0, locals := 67 } : Room)).room s m ([.ref dq, .int x1] : List Value).toArray below meth c H locs 0 0 (MQ below (va_Qi (fun (x : Int32) (_ : Unit) => res.1 = x) (fun _ t => va_P (dC, dI) classes [(dq, .inr (5, [.int res.2.1, .int d_today, .int d_cut, .int d_aging, .int d_saleFrom, .int d_pieces, .int d_orders, .ref dq8, .ref dq9, .ref dq10, .ref dq11, .ref dq12, .ref dq13, .ref dq14, .ref dq15, .int d_ran, .int d_sum, .ref dq18, .ref dq19, .ref dq20])), (dq8, .inl (cI, 40, .inl d_piece)), (dq9, .inl (cI, 40, .inl d_order)), (dq10, .inl (cI, 10, .inl d_came)), (dq11, .inl (cI, 100, .inl d_worth)), (dq12, .inl (cZ, 10, .inl res.2.2.1)), (dq13, .inl (cI, 10, .inl res.2.2.2)), (dq14, .inl (cI, 10, .inl d_reservedFor)), (dq15, .inl (cI, 10, .inl d_reservedTo)), (dq18, .inl (cI, 10, .inl d_pieceDual)), (dq19, .inl (cI, 10, .inl d_orderDual)), (dq20, .inl (cJ, 11264, .inr (.inl d_table)))] t.heap ∧ va_K (dC, dI) classes [(cI, .int), (cZ, .boolean), (cJ, .long)] t ∧ va_D A [(dq, .inr (5, [.int res.2.1, .int d_today, .int d_cut, .int d_aging, .int d_saleFrom, .int d_pieces, .int d_orders, .ref dq8, .ref dq9, .ref dq10, .ref dq11, .ref dq12, .ref dq13, .ref dq14, .ref dq15, .int d_ran, .int d_sum, .ref dq18, .ref dq19, .ref dq20])), (dq8, .inl (cI, 40, .inl d_piece)), (dq9, .inl (cI, 40, .inl d_order)), (dq10, .inl (cI, 10, .inl d_came)), (dq11, .inl (cI, 100, .inl d_worth)), (dq12, .inl (cZ, 10, .inl res.2.2.1)), (dq13, .inl (cI, 10, .inl res.2.2.2)), (dq14, .inl (cI, 10, .inl d_reservedFor)), (dq15, .inl (cI, 10, .inl d_reservedTo)), (dq18, .inl (cI, 10, .inl d_pieceDual)), (dq19, .inl (cI, 10, .inl d_orderDual)), (dq20, .inl (cJ, 11264, .inr (.inl d_table)))]) A) ([.ref dq, .int x1] : List Value).toArray s 0 0 A) (F0 m 246 ls []) := by
            intro K hK246 n
            induction n with
            | zero => intro y1c y2c y3c y4c y5c y6c d_thrownc d_usedc d_usedByc H locs ls hl hP hD hS hm; exact absurd hm (by simp [L_D_several_246])
            | succ n ih246 =>
              intro y1c y2c y3c y4c y5c y6c d_thrownc d_usedc d_usedByc H locs ls hl hP hD hS hm
              rw [L_D_several_246] at hm
              refine lv_iload hx hb d_D_several_246 (lv_at hl 6 rfl) ?_
              refine lv_aload_n hx hb d_D_several_248 rfl (lv_at hl 0 rfl) ?_
              refine va_get (D := (dC, dI)) (ci := 5) (v := .int d_orders) (C := R_D) (T := F_D) (N := 20) hx hb hts hk1 hown hK hP 0 rfl rfl 6 (by decide) hk0 (fun _ h9 => h9) rfl d_D_several_249 ?_
              refine lv_icmp_ge (tgt := 279) hx hb d_D_several_252 (by decide) (fun c9 => ?_) (fun c9 => ?_)
              · replace hm := if_t c9 hm
                have hl : lv_has ls 12 [(0, .ref dq), (1, .int y1c), (2, .int y2c), (3, .int y3c), (4, .int y4c), (5, .int y5c), (6, .int y6c)] := lv_sub hl [0, 1, 2, 3, 4, 5, 6] rfl
                exact hK246 y1c y2c y3c y4c y5c y6c d_thrownc d_usedc d_usedByc _ _ ls hl hP hD hS hm
              · replace hm := if_f c9 hm
                refine lv_iload_n hx hb d_D_several_255 rfl (lv_at hl 3 rfl) ?_
                refine lv_iload hx hb d_D_several_256 (lv_at hl 6 rfl) ?_
                refine lv_ishr hx hb d_D_several_258 ?_
                refine lv_iconst (v := 1) hx hb d_D_several_259 (by decide) ?_
                refine lv_iand hx hb d_D_several_260 ?_
                refine lv_iconst (v := 1) hx hb d_D_several_261 (by decide) ?_
                refine lv_icmp_ne (tgt := 273) hx hb d_D_several_262 (by decide) (fun c9 => ?_) (fun c9 => ?_)
                · replace hm := if_f c9 hm
                  refine lv_iinc (v := (y6c + 1)) (lv' := [(6, .int (y6c + 1)), (0, .ref dq), (1, .int y1c), (2, .int y2c), (3, .int y3c), (4, .int y4c), (5, .int y5c)]) hx hb d_D_several_273 hl (k := 6) rfl rfl (by decide) rfl (fun ls hl => ?_)
                  refine lv_goto (tgt := 246) hx hb d_D_several_276 (by decide) ?_
                  have hl : lv_has ls 12 [(0, .ref dq), (1, .int y1c), (2, .int y2c), (3, .int y3c), (4, .int y4c), (5, .int y5c), (6, .int (y6c + 1))] := lv_sub hl [1, 2, 3, 4, 5, 6, 0] rfl
                  exact ih246 y1c y2c y3c y4c y5c (y6c + 1) d_thrownc d_usedc d_usedByc _ _ ls hl hP hD hS hm
                · replace hm := if_t c9 hm
                  refine lv_aload_n hx hb d_D_several_265 rfl (lv_at hl 0 rfl) ?_
                  refine va_get (D := (dC, dI)) (ci := 5) (v := .ref dq13) (C := R_D) (T := F_D) (N := 20) hx hb hts hk1 hown hK hP 0 rfl rfl 12 (by decide) hk5 (fun _ h9 => h9) rfl d_D_several_266 ?_
                  refine lv_iload hx hb d_D_several_269 (lv_at hl 6 rfl) ?_
                  refine lv_iload_n hx hb d_D_several_271 rfl (lv_at hl 1 rfl) ?_
                  obtain ⟨h9, hm⟩ := gd hm
                  refine va_iast hx hb hK hP hD hS 6 0 rfl rfl h9 d_D_several_272 (fun H locs hP hD hS => ?_)
                  have hP : va_P (dC, dI) classes [(dq, .inr (5, [.int d_thrownc, .int d_today, .int d_cut, .int d_aging, .int d_saleFrom, .int d_pieces, .int d_orders, .ref dq8, .ref dq9, .ref dq10, .ref dq11, .ref dq12, .ref dq13, .ref dq14, .ref dq15, .int d_ran, .int d_sum, .ref dq18, .ref dq19, .ref dq20])), (dq8, .inl (cI, 40, .inl d_piece)), (dq9, .inl (cI, 40, .inl d_order)), (dq10, .inl (cI, 10, .inl d_came)), (dq11, .inl (cI, 100, .inl d_worth)), (dq12, .inl (cZ, 10, .inl d_usedc)), (dq13, .inl (cI, 10, .inl (upd d_usedByc y6c.toNatClampNeg y1c))), (dq14, .inl (cI, 10, .inl d_reservedFor)), (dq15, .inl (cI, 10, .inl d_reservedTo)), (dq18, .inl (cI, 10, .inl d_pieceDual)), (dq19, .inl (cI, 10, .inl d_orderDual)), (dq20, .inl (cJ, 11264, .inr (.inl d_table)))] H := hP
                  have hD : va_D A [(dq, .inr (5, [.int d_thrownc, .int d_today, .int d_cut, .int d_aging, .int d_saleFrom, .int d_pieces, .int d_orders, .ref dq8, .ref dq9, .ref dq10, .ref dq11, .ref dq12, .ref dq13, .ref dq14, .ref dq15, .int d_ran, .int d_sum, .ref dq18, .ref dq19, .ref dq20])), (dq8, .inl (cI, 40, .inl d_piece)), (dq9, .inl (cI, 40, .inl d_order)), (dq10, .inl (cI, 10, .inl d_came)), (dq11, .inl (cI, 100, .inl d_worth)), (dq12, .inl (cZ, 10, .inl d_usedc)), (dq13, .inl (cI, 10, .inl (upd d_usedByc y6c.toNatClampNeg y1c))), (dq14, .inl (cI, 10, .inl d_reservedFor)), (dq15, .inl (cI, 10, .inl d_reservedTo)), (dq18, .inl (cI, 10, .inl d_pieceDual)), (dq19, .inl (cI, 10, .inl d_orderDual)), (dq20, .inl (cJ, 11264, .inr (.inl d_table)))] := hD
                  refine lv_iinc (v := (y6c + 1)) (lv' := [(6, .int (y6c + 1)), (0, .ref dq), (1, .int y1c), (2, .int y2c), (3, .int y3c), (4, .int y4c), (5, .int y5c)]) hx hb d_D_several_273 hl (k := 6) rfl rfl (by decide) rfl (fun ls hl => ?_)
                  refine lv_goto (tgt := 246) hx hb d_D_several_276 (by decide) ?_
                  have hl : lv_has ls 12 [(0, .ref dq), (1, .int y1c), (2, .int y2c), (3, .int y3c), (4, .int y4c), (5, .int y5c), (6, .int (y6c + 1))] := lv_sub hl [1, 2, 3, 4, 5, 6, 0] rfl
                  exact ih246 y1c y2c y3c y4c y5c (y6c + 1) d_thrownc d_usedc (upd d_usedByc y6c.toNatClampNeg y1c) _ _ ls hl hP hD hS hm
          have hl : lv_has ls 12 [(0, .ref dq), (1, .int y1a), (2, .int y2a), (3, .int y3a), (4, .int y4a), (5, .int y5a), (6, .int 0)] := lv_sub hl [1, 2, 3, 4, 5, 6, 0] rfl
          refine key246 _ (fun y1c y2c y3c y4c y5c y6c d_thrownc d_usedc d_usedByc H locs ls hl hP hD hS hm => ?_) N y1a y2a y3a y4a y5a 0 d_throwna (upd d_useda y1a.toNatClampNeg (vp_nar .boolean 1)) d_usedBya _ _ ls hl hP hD hS hm
          try dsimp only at hm
          refine lv_iload hx hb d_D_several_279 (lv_at hl 4 rfl) ?_
          cases hm
          refine W.widen (k := 0) (n := 0) (Nat.le_of_ble_eq_true rfl) (Nat.le_of_ble_eq_true rfl) ?_
          exact W.iret hx hb hr (fun t ht hW => ⟨⟨_, (), rfl, rfl, by rw [ht]; exact hP, va_K.moved hW.alike hK, hD⟩, hS.F ht⟩) hS.2.2 d_D_several_281
        · replace hm := if_t c9 hm
          refine lv_iconst (v := 0) hx hb d_D_several_234 (by decide) ?_
          cases hm
          refine W.widen (k := 0) (n := 0) (Nat.le_of_ble_eq_true rfl) (Nat.le_of_ble_eq_true rfl) ?_
          exact W.iret hx hb hr (fun t ht hW => ⟨⟨_, (), rfl, rfl, by rw [ht]; exact hP, va_K.moved hW.alike hK, hD⟩, hS.F ht⟩) hS.2.2 d_D_several_235
      · replace hm := if_t c9 hm
        refine lv_iconst (v := 0) hx hb d_D_several_42 (by decide) ?_
        cases hm
        refine W.widen (k := 0) (n := 0) (Nat.le_of_ble_eq_true rfl) (Nat.le_of_ble_eq_true rfl) ?_
        exact W.iret hx hb hr (fun t ht hW => ⟨⟨_, (), rfl, rfl, by rw [ht]; exact hP, va_K.moved hW.alike hK, hD⟩, hS.F ht⟩) hS.2.2 d_D_several_43
    · replace hm := if_t c9 hm
      refine lv_aload_n hx hb d_D_several_21 rfl (lv_at hl 1 rfl) ?_
      refine lv_iload_n hx hb d_D_several_22 rfl (lv_at hl 2 rfl) ?_
      obtain ⟨r16, hc, hm⟩ := bd hm
      try dsimp only at hm
      refine vp_callSi (W.runV (As := [.int x1]) (rest := [.int r1, .ref dq]) ⟨hx, hb, hml, hown, hts⟩ (c_D_reservation l dC dI cI cZ cJ dq dq8 dq9 dq10 dq11 dq12 dq13 dq14 dq15 dq18 dq19 dq20 d_thrown d_today d_cut d_aging d_saleFrom d_pieces d_orders d_piece d_order d_came d_worth d_used d_usedBy d_reservedFor d_reservedTo d_ran d_sum d_pieceDual d_orderDual d_table x1 N r16 hc) (cwV 1 hts (gV (w0 716 rfl) (w0 717 rfl) (w0 25 rfl) (w0 33 rfl) (w0 718 rfl)) rfl rfl rfl q_D_reservation ⟨Nat.le_of_ble_eq_true rfl, Nat.le_of_ble_eq_true rfl⟩) (ro_preV [0, 1, 2, 3, 4, 5, 6, 7, 8, 9, 10, 11] rfl hK hP hN 5 0 (R_D, F_D, 20) rfl rfl) rfl rfl hl.1 rfl (lv_room (Nat.le_of_ble_eq_true rfl)) d_D_several_23 ⟨Nat.le_of_ble_eq_true rfl, Nat.le_of_ble_eq_true rfl⟩) (fun r9 hr9 => ?_)
      subst hr9
      refine lv_if_ge (tgt := 33) hx hb d_D_several_26 (by decide) (fun c9 => ?_) (fun c9 => ?_)
      · replace hm := if_t c9 hm
        refine lv_iconst (v := 0) hx hb d_D_several_33 (by decide) ?_
        refine lv_iconst (v := 1) hx hb d_D_several_34 (by decide) ?_
        refine lv_iconst (v := 1) hx hb d_D_several_35 (by decide) ?_
        obtain ⟨⟨r17, u18⟩, hc, hm⟩ := bd hm
        try dsimp only at hm
        have hPc := hP.sub (ws' := [(dq, .inr (5, [.int d_thrown, .int d_today, .int d_cut, .int d_aging, .int d_saleFrom, .int d_pieces, .int d_orders, .ref dq8, .ref dq9, .ref dq10, .ref dq11, .ref dq12, .ref dq13, .ref dq14, .ref dq15, .int d_ran, .int d_sum, .ref dq18, .ref dq19, .ref dq20])), (dq8, .inl (cI, 40, .inl d_piece)), (dq9, .inl (cI, 40, .inl d_order)), (dq10, .inl (cI, 10, .inl d_came)), (dq11, .inl (cI, 100, .inl d_worth)), (dq12, .inl (cZ, 10, .inl d_used)), (dq13, .inl (cI, 10, .inl d_usedBy)), (dq14, .inl (cI, 10, .inl d_reservedFor)), (dq15, .inl (cI, 10, .inl d_reservedTo)), (dq18, .inl (cI, 10, .inl d_pieceDual)), (dq19, .inl (cI, 10, .inl d_orderDual)), (dq20, .inl (cJ, 11264, .inr (.inl d_table)))]) [0, 1, 2, 3, 4, 5, 6, 7, 8, 9, 10, 11] rfl
        have hDc := hD.sub (ws' := [(dq, .inr (5, [.int d_thrown, .int d_today, .int d_cut, .int d_aging, .int d_saleFrom, .int d_pieces, .int d_orders, .ref dq8, .ref dq9, .ref dq10, .ref dq11, .ref dq12, .ref dq13, .ref dq14, .ref dq15, .int d_ran, .int d_sum, .ref dq18, .ref dq19, .ref dq20])), (dq8, .inl (cI, 40, .inl d_piece)), (dq9, .inl (cI, 40, .inl d_order)), (dq10, .inl (cI, 10, .inl d_came)), (dq11, .inl (cI, 100, .inl d_worth)), (dq12, .inl (cZ, 10, .inl d_used)), (dq13, .inl (cI, 10, .inl d_usedBy)), (dq14, .inl (cI, 10, .inl d_reservedFor)), (dq15, .inl (cI, 10, .inl d_reservedTo)), (dq18, .inl (cI, 10, .inl d_pieceDual)), (dq19, .inl (cI, 10, .inl d_orderDual)), (dq20, .inl (cJ, 11264, .inr (.inl d_table)))]) [0, 1, 2, 3, 4, 5, 6, 7, 8, 9, 10, 11] (by decide) rfl
        have hFc := va_free (wc := [(dq, .inr (5, [.int d_thrown, .int d_today, .int d_cut, .int d_aging, .int d_saleFrom, .int d_pieces, .int d_orders, .ref dq8, .ref dq9, .ref dq10, .ref dq11, .ref dq12, .ref dq13, .ref dq14, .ref dq15, .int d_ran, .int d_sum, .ref dq18, .ref dq19, .ref dq20])), (dq8, .inl (cI, 40, .inl d_piece)), (dq9, .inl (cI, 40, .inl d_order)), (dq10, .inl (cI, 10, .inl d_came)), (dq11, .inl (cI, 100, .inl d_worth)), (dq12, .inl (cZ, 10, .inl d_used)), (dq13, .inl (cI, 10, .inl d_usedBy)), (dq14, .inl (cI, 10, .inl d_reservedFor)), (dq15, .inl (cI, 10, .inl d_reservedTo)), (dq18, .inl (cI, 10, .inl d_pieceDual)), (dq19, .inl (cI, 10, .inl d_orderDual)), (dq20, .inl (cJ, 11264, .inr (.inl d_table)))]) hD hS hA [0, 1, 2, 3, 4, 5, 6, 7, 8, 9, 10, 11] rfl
        refine va_calli (va_runV (As := [.int r1, .int 0, .int 1, .int 1]) (rest := []) ⟨hx, hb, hml, hown, hts⟩ (c_D_goes l dC dI cI cZ cJ dq dq8 dq9 dq10 dq11 dq12 dq13 dq14 dq15 dq18 dq19 dq20 s.heap.size d_thrown d_today d_cut d_aging d_saleFrom d_pieces d_orders d_piece d_order d_came d_worth d_used d_usedBy d_reservedFor d_reservedTo d_ran d_sum d_pieceDual d_orderDual d_table r1 0 1 1 N (r17, u18) hc) (cwV 4 hts (gV (w0 670 rfl) (w0 671 rfl) (w0 18 rfl) (w0 33 rfl) (w0 672 rfl)) rfl rfl rfl q_D_goes ⟨Nat.le_of_ble_eq_true rfl, Nat.le_of_ble_eq_true rfl⟩) (wr_preV hK hPc hDc hN 5 0 (R_D, F_D, 20) rfl rfl) rfl rfl hl.1 rfl (lv_room (Nat.le_of_ble_eq_true rfl)) d_D_several_36 ⟨Nat.le_of_ble_eq_true rfl, Nat.le_of_ble_eq_true rfl⟩) hS (fun q _ h => hFc q h) hFc (fun r9 u t H1 locs ht hvm hw hB hz1 hk1 hS => ?_)
        subst hw
        obtain ⟨hP1, hK1, hD1⟩ := hB
        rw [ht] at hP1
        obtain ⟨hP, hD⟩ := va_join (wr := []) (w1 := [(dq, .inr (5, [.int u18, .int d_today, .int d_cut, .int d_aging, .int d_saleFrom, .int d_pieces, .int d_orders, .ref dq8, .ref dq9, .ref dq10, .ref dq11, .ref dq12, .ref dq13, .ref dq14, .ref dq15, .int d_ran, .int d_sum, .ref dq18, .ref dq19, .ref dq20])), (dq8, .inl (cI, 40, .inl d_piece)), (dq9, .inl (cI, 40, .inl d_order)), (dq10, .inl (cI, 10, .inl d_came)), (dq11, .inl (cI, 100, .inl d_worth)), (dq12, .inl (cZ, 10, .inl d_used)), (dq13, .inl (cI, 10, .inl d_usedBy)), (dq14, .inl (cI, 10, .inl d_reservedFor)), (dq15, .inl (cI, 10, .inl d_reservedTo)), (dq18, .inl (cI, 10, .inl d_pieceDual)), (dq19, .inl (cI, 10, .inl d_orderDual)), (dq20, .inl (cJ, 11264, .inr (.inl d_table)))]) hP hD [0, 1, 2, 3, 4, 5, 6, 7, 8, 9, 10, 11] [] rfl rfl (by decide) (by decide) hk1 hFc hP1 hD1
        generalize H1 = H at hP hS ⊢
        have hP : va_P (dC, dI) classes [(dq, .inr (5, [.int u18, .int d_today, .int d_cut, .int d_aging, .int d_saleFrom, .int d_pieces, .int d_orders, .ref dq8, .ref dq9, .ref dq10, .ref dq11, .ref dq12, .ref dq13, .ref dq14, .ref dq15, .int d_ran, .int d_sum, .ref dq18, .ref dq19, .ref dq20])), (dq8, .inl (cI, 40, .inl d_piece)), (dq9, .inl (cI, 40, .inl d_order)), (dq10, .inl (cI, 10, .inl d_came)), (dq11, .inl (cI, 100, .inl d_worth)), (dq12, .inl (cZ, 10, .inl d_used)), (dq13, .inl (cI, 10, .inl d_usedBy)), (dq14, .inl (cI, 10, .inl d_reservedFor)), (dq15, .inl (cI, 10, .inl d_reservedTo)), (dq18, .inl (cI, 10, .inl d_pieceDual)), (dq19, .inl (cI, 10, .inl d_orderDual)), (dq20, .inl (cJ, 11264, .inr (.inl d_table)))] H := hP
        have hD : va_D A [(dq, .inr (5, [.int u18, .int d_today, .int d_cut, .int d_aging, .int d_saleFrom, .int d_pieces, .int d_orders, .ref dq8, .ref dq9, .ref dq10, .ref dq11, .ref dq12, .ref dq13, .ref dq14, .ref dq15, .int d_ran, .int d_sum, .ref dq18, .ref dq19, .ref dq20])), (dq8, .inl (cI, 40, .inl d_piece)), (dq9, .inl (cI, 40, .inl d_order)), (dq10, .inl (cI, 10, .inl d_came)), (dq11, .inl (cI, 100, .inl d_worth)), (dq12, .inl (cZ, 10, .inl d_used)), (dq13, .inl (cI, 10, .inl d_usedBy)), (dq14, .inl (cI, 10, .inl d_reservedFor)), (dq15, .inl (cI, 10, .inl d_reservedTo)), (dq18, .inl (cI, 10, .inl d_pieceDual)), (dq19, .inl (cI, 10, .inl d_orderDual)), (dq20, .inl (cJ, 11264, .inr (.inl d_table)))] := hD
        clear hP1 hD1 hPc hDc hFc hk1 hz1
        refine lv_if_ne (tgt := 44) hx hb d_D_several_39 (by decide) (fun c9 => ?_) (fun c9 => ?_)
        · replace hm := if_f c9 hm
          refine lv_iconst (v := 0) hx hb d_D_several_44 (by decide) ?_
          refine lv_istore_n (lv' := [(3, .int 0), (2, .int r1), (0, .ref dq), (1, .int x1)]) hx hb d_D_several_45 rfl hl (by decide) rfl (fun ls hl => ?_)
          refine lv_iconst (v := 0) hx hb d_D_several_46 (by decide) ?_
          refine lv_istore (lv' := [(4, .int 0), (3, .int 0), (2, .int r1), (0, .ref dq), (1, .int x1)]) hx hb d_D_several_47 hl (by decide) rfl (fun ls hl => ?_)
          refine lv_iconst (v := 0) hx hb d_D_several_49 (by decide) ?_
          refine lv_istore (lv' := [(5, .int 0), (4, .int 0), (3, .int 0), (2, .int r1), (0, .ref dq), (1, .int x1)]) hx hb d_D_several_50 hl (by decide) rfl (fun ls hl => ?_)
          refine lv_iconst (v := 1) hx hb d_D_several_52 (by decide) ?_
          refine lv_istore (lv' := [(6, .int 1), (5, .int 0), (4, .int 0), (3, .int 0), (2, .int r1), (0, .ref dq), (1, .int x1)]) hx hb d_D_several_53 hl (by decide) rfl (fun ls hl => ?_)
          have key55 : ∀ (K : Int32 → Int32 → Int32 → Int32 → Int32 → Int32 → Int32 → (Nat → Int32) → (Nat → Int32) → Option (Int32 × Int32 × (Nat → Int32) × (Nat → Int32))) (_ : ∀ (y1a : Int32) (y2a : Int32) (y3a : Int32) (y4a : Int32) (y5a : Int32) (y6a : Int32) (d_throwna : Int32) (d_useda : Nat → Int32) (d_usedBya : Nat → Int32) (H : Heap) (locs : List Loc) (ls : Array Slot), lv_has ls 12 [(0, .ref dq), (1, .int y1a), (2, .int y2a), (3, .int y3a), (4, .int y4a), (5, .int y5a), (6, .int y6a)] → va_P (dC, dI) classes [(dq, .inr (5, [.int d_throwna, .int d_today, .int d_cut, .int d_aging, .int d_saleFrom, .int d_pieces, .int d_orders, .ref dq8, .ref dq9, .ref dq10, .ref dq11, .ref dq12, .ref dq13, .ref dq14, .ref dq15, .int d_ran, .int d_sum, .ref dq18, .ref dq19, .ref dq20])), (dq8, .inl (cI, 40, .inl d_piece)), (dq9, .inl (cI, 40, .inl d_order)), (dq10, .inl (cI, 10, .inl d_came)), (dq11, .inl (cI, 100, .inl d_worth)), (dq12, .inl (cZ, 10, .inl d_useda)), (dq13, .inl (cI, 10, .inl d_usedBya)), (dq14, .inl (cI, 10, .inl d_reservedFor)), (dq15, .inl (cI, 10, .inl d_reservedTo)), (dq18, .inl (cI, 10, .inl d_pieceDual)), (dq19, .inl (cI, 10, .inl d_orderDual)), (dq20, .inl (cJ, 11264, .inr (.inl d_table)))] H → va_D A [(dq, .inr (5, [.int d_throwna, .int d_today, .int d_cut, .int d_aging, .int d_saleFrom, .int d_pieces, .int d_orders, .ref dq8, .ref dq9, .ref dq10, .ref dq11, .ref dq12, .ref dq13, .ref dq14, .ref dq15, .int d_ran, .int d_sum, .ref dq18, .ref dq19, .ref dq20])), (dq8, .inl (cI, 40, .inl d_piece)), (dq9, .inl (cI, 40, .inl d_order)), (dq10, .inl (cI, 10, .inl d_came)), (dq11, .inl (cI, 100, .inl d_worth)), (dq12, .inl (cZ, 10, .inl d_useda)), (dq13, .inl (cI, 10, .inl d_usedBya)), (dq14, .inl (cI, 10, .inl d_reservedFor)), (dq15, .inl (cI, 10, .inl d_reservedTo)), (dq18, .inl (cI, 10, .inl d_pieceDual)), (dq19, .inl (cI, 10, .inl d_orderDual)), (dq20, .inl (cJ, 11264, .inr (.inl d_table)))] → va_S A s.heap H locs → K y1a y2a y3a y4a y5a y6a d_throwna d_useda d_usedBya = some res → W p l e (headSpec w_D_several ({ frames := 3, cells := 0, slots := 0, locals := 67 } : Room)).room s m ([.ref dq, .int x1] : List Value).toArray below meth c H locs 0 0 (MQ below (va_Qi (fun (x : Int32) (_ : Unit) => res.1 = x) (fun _ t => va_P (dC, dI) classes [(dq, .inr (5, [.int res.2.1, .int d_today, .int d_cut, .int d_aging, .int d_saleFrom, .int d_pieces, .int d_orders, .ref dq8, .ref dq9, .ref dq10, .ref dq11, .ref dq12, .ref dq13, .ref dq14, .ref dq15, .int d_ran, .int d_sum, .ref dq18, .ref dq19, .ref dq20])), (dq8, .inl (cI, 40, .inl d_piece)), (dq9, .inl (cI, 40, .inl d_order)), (dq10, .inl (cI, 10, .inl d_came)), (dq11, .inl (cI, 100, .inl d_worth)), (dq12, .inl (cZ, 10, .inl res.2.2.1)), (dq13, .inl (cI, 10, .inl res.2.2.2)), (dq14, .inl (cI, 10, .inl d_reservedFor)), (dq15, .inl (cI, 10, .inl d_reservedTo)), (dq18, .inl (cI, 10, .inl d_pieceDual)), (dq19, .inl (cI, 10, .inl d_orderDual)), (dq20, .inl (cJ, 11264, .inr (.inl d_table)))] t.heap ∧ va_K (dC, dI) classes [(cI, .int), (cZ, .boolean), (cJ, .long)] t ∧ va_D A [(dq, .inr (5, [.int res.2.1, .int d_today, .int d_cut, .int d_aging, .int d_saleFrom, .int d_pieces, .int d_orders, .ref dq8, .ref dq9, .ref dq10, .ref dq11, .ref dq12, .ref dq13, .ref dq14, .ref dq15, .int d_ran, .int d_sum, .ref dq18, .ref dq19, .ref dq20])), (dq8, .inl (cI, 40, .inl d_piece)), (dq9, .inl (cI, 40, .inl d_order)), (dq10, .inl (cI, 10, .inl d_came)), (dq11, .inl (cI, 100, .inl d_worth)), (dq12, .inl (cZ, 10, .inl res.2.2.1)), (dq13, .inl (cI, 10, .inl res.2.2.2)), (dq14, .inl (cI, 10, .inl d_reservedFor)), (dq15, .inl (cI, 10, .inl d_reservedTo)), (dq18, .inl (cI, 10, .inl d_pieceDual)), (dq19, .inl (cI, 10, .inl d_orderDual)), (dq20, .inl (cJ, 11264, .inr (.inl d_table)))]) A) ([.ref dq, .int x1] : List Value).toArray s 0 0 A) (F0 m 230 ls [])) (n : Nat) (y1a : Int32) (y2a : Int32) (y3a : Int32) (y4a : Int32) (y5a : Int32) (y6a : Int32) (d_throwna : Int32) (d_useda : Nat → Int32) (d_usedBya : Nat → Int32) (H : Heap) (locs : List Loc) (ls : Array Slot), lv_has ls 12 [(0, .ref dq), (1, .int y1a), (2, .int y2a), (3, .int y3a), (4, .int y4a), (5, .int y5a), (6, .int y6a)] → va_P (dC, dI) classes [(dq, .inr (5, [.int d_throwna, .int d_today, .int d_cut, .int d_aging, .int d_saleFrom, .int d_pieces, .int d_orders, .ref dq8, .ref dq9, .ref dq10, .ref dq11, .ref dq12, .ref dq13, .ref dq14, .ref dq15, .int d_ran, .int d_sum, .ref dq18, .ref dq19, .ref dq20])), (dq8, .inl (cI, 40, .inl d_piece)), (dq9, .inl (cI, 40, .inl d_order)), (dq10, .inl (cI, 10, .inl d_came)), (dq11, .inl (cI, 100, .inl d_worth)), (dq12, .inl (cZ, 10, .inl d_useda)), (dq13, .inl (cI, 10, .inl d_usedBya)), (dq14, .inl (cI, 10, .inl d_reservedFor)), (dq15, .inl (cI, 10, .inl d_reservedTo)), (dq18, .inl (cI, 10, .inl d_pieceDual)), (dq19, .inl (cI, 10, .inl d_orderDual)), (dq20, .inl (cJ, 11264, .inr (.inl d_table)))] H → va_D A [(dq, .inr (5, [.int d_throwna, .int d_today, .int d_cut, .int d_aging, .int d_saleFrom, .int d_pieces, .int d_orders, .ref dq8, .ref dq9, .ref dq10, .ref dq11, .ref dq12, .ref dq13, .ref dq14, .ref dq15, .int d_ran, .int d_sum, .ref dq18, .ref dq19, .ref dq20])), (dq8, .inl (cI, 40, .inl d_piece)), (dq9, .inl (cI, 40, .inl d_order)), (dq10, .inl (cI, 10, .inl d_came)), (dq11, .inl (cI, 100, .inl d_worth)), (dq12, .inl (cZ, 10, .inl d_useda)), (dq13, .inl (cI, 10, .inl d_usedBya)), (dq14, .inl (cI, 10, .inl d_reservedFor)), (dq15, .inl (cI, 10, .inl d_reservedTo)), (dq18, .inl (cI, 10, .inl d_pieceDual)), (dq19, .inl (cI, 10, .inl d_orderDual)), (dq20, .inl (cJ, 11264, .inr (.inl d_table)))] → va_S A s.heap H locs → L_D_several_55 N d_today d_cut d_aging d_pieces d_orders d_piece d_order d_came d_worth d_reservedFor d_reservedTo K n y1a y2a y3a y4a y5a y6a d_throwna d_useda d_usedBya = some res → W p l e (headSpec w_D_several ({ frames := 3, cells := 0, slots := 0, locals := 67 } : Room)).room s m ([.ref dq, .int x1] : List Value).toArray below meth c H locs 0 0 (MQ below (va_Qi (fun (x : Int32) (_ : Unit) => res.1 = x) (fun _ t => va_P (dC, dI) classes [(dq, .inr (5, [.int res.2.1, .int d_today, .int d_cut, .int d_aging, .int d_saleFrom, .int d_pieces, .int d_orders, .ref dq8, .ref dq9, .ref dq10, .ref dq11, .ref dq12, .ref dq13, .ref dq14, .ref dq15, .int d_ran, .int d_sum, .ref dq18, .ref dq19, .ref dq20])), (dq8, .inl (cI, 40, .inl d_piece)), (dq9, .inl (cI, 40, .inl d_order)), (dq10, .inl (cI, 10, .inl d_came)), (dq11, .inl (cI, 100, .inl d_worth)), (dq12, .inl (cZ, 10, .inl res.2.2.1)), (dq13, .inl (cI, 10, .inl res.2.2.2)), (dq14, .inl (cI, 10, .inl d_reservedFor)), (dq15, .inl (cI, 10, .inl d_reservedTo)), (dq18, .inl (cI, 10, .inl d_pieceDual)), (dq19, .inl (cI, 10, .inl d_orderDual)), (dq20, .inl (cJ, 11264, .inr (.inl d_table)))] t.heap ∧ va_K (dC, dI) classes [(cI, .int), (cZ, .boolean), (cJ, .long)] t ∧ va_D A [(dq, .inr (5, [.int res.2.1, .int d_today, .int d_cut, .int d_aging, .int d_saleFrom, .int d_pieces, .int d_orders, .ref dq8, .ref dq9, .ref dq10, .ref dq11, .ref dq12, .ref dq13, .ref dq14, .ref dq15, .int d_ran, .int d_sum, .ref dq18, .ref dq19, .ref dq20])), (dq8, .inl (cI, 40, .inl d_piece)), (dq9, .inl (cI, 40, .inl d_order)), (dq10, .inl (cI, 10, .inl d_came)), (dq11, .inl (cI, 100, .inl d_worth)), (dq12, .inl (cZ, 10, .inl res.2.2.1)), (dq13, .inl (cI, 10, .inl res.2.2.2)), (dq14, .inl (cI, 10, .inl d_reservedFor)), (dq15, .inl (cI, 10, .inl d_reservedTo)), (dq18, .inl (cI, 10, .inl d_pieceDual)), (dq19, .inl (cI, 10, .inl d_orderDual)), (dq20, .inl (cJ, 11264, .inr (.inl d_table)))]) A) ([.ref dq, .int x1] : List Value).toArray s 0 0 A) (F0 m 55 ls []) := by
            intro K hK55 n
            induction n with
            | zero => intro y1a y2a y3a y4a y5a y6a d_throwna d_useda d_usedBya H locs ls hl hP hD hS hm; exact absurd hm (by simp [L_D_several_55])
            | succ n ih55 =>
              intro y1a y2a y3a y4a y5a y6a d_throwna d_useda d_usedBya H locs ls hl hP hD hS hm
              rw [L_D_several_55] at hm
              refine lv_iload hx hb d_D_several_55 (lv_at hl 6 rfl) ?_
              refine lv_sipush (v := 1024) hx hb d_D_several_57 (by decide) ?_
              refine lv_icmp_ge (tgt := 230) hx hb d_D_several_60 (by decide) (fun c9 => ?_) (fun c9 => ?_)
              · replace hm := if_t c9 hm
                have hl : lv_has ls 12 [(0, .ref dq), (1, .int y1a), (2, .int y2a), (3, .int y3a), (4, .int y4a), (5, .int y5a), (6, .int y6a)] := lv_sub hl [0, 1, 2, 3, 4, 5, 6] rfl
                exact hK55 y1a y2a y3a y4a y5a y6a d_throwna d_useda d_usedBya _ _ ls hl hP hD hS hm
              · replace hm := if_f c9 hm
                refine lv_iconst (v := 0) hx hb d_D_several_63 (by decide) ?_
                refine lv_istore (lv' := [(7, .int 0), (0, .ref dq), (1, .int y1a), (2, .int y2a), (3, .int y3a), (4, .int y4a), (5, .int y5a), (6, .int y6a)]) hx hb d_D_several_64 hl (by decide) rfl (fun ls hl => ?_)
                refine lv_iconst (v := 0) hx hb d_D_several_66 (by decide) ?_
                refine lv_istore (lv' := [(8, .int 0), (7, .int 0), (0, .ref dq), (1, .int y1a), (2, .int y2a), (3, .int y3a), (4, .int y4a), (5, .int y5a), (6, .int y6a)]) hx hb d_D_several_67 hl (by decide) rfl (fun ls hl => ?_)
                refine lv_iconst (v := 0) hx hb d_D_several_69 (by decide) ?_
                refine lv_istore (lv' := [(9, .int 0), (8, .int 0), (7, .int 0), (0, .ref dq), (1, .int y1a), (2, .int y2a), (3, .int y3a), (4, .int y4a), (5, .int y5a), (6, .int y6a)]) hx hb d_D_several_70 hl (by decide) rfl (fun ls hl => ?_)
                refine lv_iconst (v := 1) hx hb d_D_several_72 (by decide) ?_
                refine lv_istore (lv' := [(10, .int 1), (9, .int 0), (8, .int 0), (7, .int 0), (0, .ref dq), (1, .int y1a), (2, .int y2a), (3, .int y3a), (4, .int y4a), (5, .int y5a), (6, .int y6a)]) hx hb d_D_several_73 hl (by decide) rfl (fun ls hl => ?_)
                refine lv_iconst (v := 0) hx hb d_D_several_75 (by decide) ?_
                refine lv_istore (lv' := [(11, .int 0), (10, .int 1), (9, .int 0), (8, .int 0), (7, .int 0), (0, .ref dq), (1, .int y1a), (2, .int y2a), (3, .int y3a), (4, .int y4a), (5, .int y5a), (6, .int y6a)]) hx hb d_D_several_76 hl (by decide) rfl (fun ls hl => ?_)
                have key78 : ∀ (K : Int32 → Int32 → Int32 → Int32 → Int32 → Int32 → Int32 → Int32 → Int32 → Int32 → Int32 → Int32 → (Nat → Int32) → (Nat → Int32) → Option (Int32 × Int32 × (Nat → Int32) × (Nat → Int32))) (_ : ∀ (y1b : Int32) (y2b : Int32) (y3b : Int32) (y4b : Int32) (y5b : Int32) (y6b : Int32) (y7b : Int32) (y8b : Int32) (y9b : Int32) (y10b : Int32) (y11b : Int32) (d_thrownb : Int32) (d_usedb : Nat → Int32) (d_usedByb : Nat → Int32) (H : Heap) (locs : List Loc) (ls : Array Slot), lv_has ls 12 [(0, .ref dq), (1, .int y1b), (2, .int y2b), (3, .int y3b), (4, .int y4b), (5, .int y5b), (6, .int y6b), (7, .int y7b), (8, .int y8b), (9, .int y9b), (10, .int y10b), (11, .int y11b)] → va_P (dC, dI) classes [(dq, .inr (5, [.int d_thrownb, .int d_today, .int d_cut, .int d_aging, .int d_saleFrom, .int d_pieces, .int d_orders, .ref dq8, .ref dq9, .ref dq10, .ref dq11, .ref dq12, .ref dq13, .ref dq14, .ref dq15, .int d_ran, .int d_sum, .ref dq18, .ref dq19, .ref dq20])), (dq8, .inl (cI, 40, .inl d_piece)), (dq9, .inl (cI, 40, .inl d_order)), (dq10, .inl (cI, 10, .inl d_came)), (dq11, .inl (cI, 100, .inl d_worth)), (dq12, .inl (cZ, 10, .inl d_usedb)), (dq13, .inl (cI, 10, .inl d_usedByb)), (dq14, .inl (cI, 10, .inl d_reservedFor)), (dq15, .inl (cI, 10, .inl d_reservedTo)), (dq18, .inl (cI, 10, .inl d_pieceDual)), (dq19, .inl (cI, 10, .inl d_orderDual)), (dq20, .inl (cJ, 11264, .inr (.inl d_table)))] H → va_D A [(dq, .inr (5, [.int d_thrownb, .int d_today, .int d_cut, .int d_aging, .int d_saleFrom, .int d_pieces, .int d_orders, .ref dq8, .ref dq9, .ref dq10, .ref dq11, .ref dq12, .ref dq13, .ref dq14, .ref dq15, .int d_ran, .int d_sum, .ref dq18, .ref dq19, .ref dq20])), (dq8, .inl (cI, 40, .inl d_piece)), (dq9, .inl (cI, 40, .inl d_order)), (dq10, .inl (cI, 10, .inl d_came)), (dq11, .inl (cI, 100, .inl d_worth)), (dq12, .inl (cZ, 10, .inl d_usedb)), (dq13, .inl (cI, 10, .inl d_usedByb)), (dq14, .inl (cI, 10, .inl d_reservedFor)), (dq15, .inl (cI, 10, .inl d_reservedTo)), (dq18, .inl (cI, 10, .inl d_pieceDual)), (dq19, .inl (cI, 10, .inl d_orderDual)), (dq20, .inl (cJ, 11264, .inr (.inl d_table)))] → va_S A s.heap H locs → K y1b y2b y3b y4b y5b y6b y7b y8b y9b y10b y11b d_thrownb d_usedb d_usedByb = some res → W p l e (headSpec w_D_several ({ frames := 3, cells := 0, slots := 0, locals := 67 } : Room)).room s m ([.ref dq, .int x1] : List Value).toArray below meth c H locs 0 0 (MQ below (va_Qi (fun (x : Int32) (_ : Unit) => res.1 = x) (fun _ t => va_P (dC, dI) classes [(dq, .inr (5, [.int res.2.1, .int d_today, .int d_cut, .int d_aging, .int d_saleFrom, .int d_pieces, .int d_orders, .ref dq8, .ref dq9, .ref dq10, .ref dq11, .ref dq12, .ref dq13, .ref dq14, .ref dq15, .int d_ran, .int d_sum, .ref dq18, .ref dq19, .ref dq20])), (dq8, .inl (cI, 40, .inl d_piece)), (dq9, .inl (cI, 40, .inl d_order)), (dq10, .inl (cI, 10, .inl d_came)), (dq11, .inl (cI, 100, .inl d_worth)), (dq12, .inl (cZ, 10, .inl res.2.2.1)), (dq13, .inl (cI, 10, .inl res.2.2.2)), (dq14, .inl (cI, 10, .inl d_reservedFor)), (dq15, .inl (cI, 10, .inl d_reservedTo)), (dq18, .inl (cI, 10, .inl d_pieceDual)), (dq19, .inl (cI, 10, .inl d_orderDual)), (dq20, .inl (cJ, 11264, .inr (.inl d_table)))] t.heap ∧ va_K (dC, dI) classes [(cI, .int), (cZ, .boolean), (cJ, .long)] t ∧ va_D A [(dq, .inr (5, [.int res.2.1, .int d_today, .int d_cut, .int d_aging, .int d_saleFrom, .int d_pieces, .int d_orders, .ref dq8, .ref dq9, .ref dq10, .ref dq11, .ref dq12, .ref dq13, .ref dq14, .ref dq15, .int d_ran, .int d_sum, .ref dq18, .ref dq19, .ref dq20])), (dq8, .inl (cI, 40, .inl d_piece)), (dq9, .inl (cI, 40, .inl d_order)), (dq10, .inl (cI, 10, .inl d_came)), (dq11, .inl (cI, 100, .inl d_worth)), (dq12, .inl (cZ, 10, .inl res.2.2.1)), (dq13, .inl (cI, 10, .inl res.2.2.2)), (dq14, .inl (cI, 10, .inl d_reservedFor)), (dq15, .inl (cI, 10, .inl d_reservedTo)), (dq18, .inl (cI, 10, .inl d_pieceDual)), (dq19, .inl (cI, 10, .inl d_orderDual)), (dq20, .inl (cJ, 11264, .inr (.inl d_table)))]) A) ([.ref dq, .int x1] : List Value).toArray s 0 0 A) (F0 m 160 ls [])) (n : Nat) (y1b : Int32) (y2b : Int32) (y3b : Int32) (y4b : Int32) (y5b : Int32) (y6b : Int32) (y7b : Int32) (y8b : Int32) (y9b : Int32) (y10b : Int32) (y11b : Int32) (d_thrownb : Int32) (d_usedb : Nat → Int32) (d_usedByb : Nat → Int32) (H : Heap) (locs : List Loc) (ls : Array Slot), lv_has ls 12 [(0, .ref dq), (1, .int y1b), (2, .int y2b), (3, .int y3b), (4, .int y4b), (5, .int y5b), (6, .int y6b), (7, .int y7b), (8, .int y8b), (9, .int y9b), (10, .int y10b), (11, .int y11b)] → va_P (dC, dI) classes [(dq, .inr (5, [.int d_thrownb, .int d_today, .int d_cut, .int d_aging, .int d_saleFrom, .int d_pieces, .int d_orders, .ref dq8, .ref dq9, .ref dq10, .ref dq11, .ref dq12, .ref dq13, .ref dq14, .ref dq15, .int d_ran, .int d_sum, .ref dq18, .ref dq19, .ref dq20])), (dq8, .inl (cI, 40, .inl d_piece)), (dq9, .inl (cI, 40, .inl d_order)), (dq10, .inl (cI, 10, .inl d_came)), (dq11, .inl (cI, 100, .inl d_worth)), (dq12, .inl (cZ, 10, .inl d_usedb)), (dq13, .inl (cI, 10, .inl d_usedByb)), (dq14, .inl (cI, 10, .inl d_reservedFor)), (dq15, .inl (cI, 10, .inl d_reservedTo)), (dq18, .inl (cI, 10, .inl d_pieceDual)), (dq19, .inl (cI, 10, .inl d_orderDual)), (dq20, .inl (cJ, 11264, .inr (.inl d_table)))] H → va_D A [(dq, .inr (5, [.int d_thrownb, .int d_today, .int d_cut, .int d_aging, .int d_saleFrom, .int d_pieces, .int d_orders, .ref dq8, .ref dq9, .ref dq10, .ref dq11, .ref dq12, .ref dq13, .ref dq14, .ref dq15, .int d_ran, .int d_sum, .ref dq18, .ref dq19, .ref dq20])), (dq8, .inl (cI, 40, .inl d_piece)), (dq9, .inl (cI, 40, .inl d_order)), (dq10, .inl (cI, 10, .inl d_came)), (dq11, .inl (cI, 100, .inl d_worth)), (dq12, .inl (cZ, 10, .inl d_usedb)), (dq13, .inl (cI, 10, .inl d_usedByb)), (dq14, .inl (cI, 10, .inl d_reservedFor)), (dq15, .inl (cI, 10, .inl d_reservedTo)), (dq18, .inl (cI, 10, .inl d_pieceDual)), (dq19, .inl (cI, 10, .inl d_orderDual)), (dq20, .inl (cJ, 11264, .inr (.inl d_table)))] → va_S A s.heap H locs → L_D_several_78 N d_today d_cut d_aging d_pieces d_orders d_piece d_order d_came d_worth d_reservedFor d_reservedTo K n y1b y2b y3b y4b y5b y6b y7b y8b y9b y10b y11b d_thrownb d_usedb d_usedByb = some res → W p l e (headSpec w_D_several ({ frames := 3, cells := 0, slots := 0, locals := 67 } : Room)).room s m ([.ref dq, .int x1] : List Value).toArray below meth c H locs 0 0 (MQ below (va_Qi (fun (x : Int32) (_ : Unit) => res.1 = x) (fun _ t => va_P (dC, dI) classes [(dq, .inr (5, [.int res.2.1, .int d_today, .int d_cut, .int d_aging, .int d_saleFrom, .int d_pieces, .int d_orders, .ref dq8, .ref dq9, .ref dq10, .ref dq11, .ref dq12, .ref dq13, .ref dq14, .ref dq15, .int d_ran, .int d_sum, .ref dq18, .ref dq19, .ref dq20])), (dq8, .inl (cI, 40, .inl d_piece)), (dq9, .inl (cI, 40, .inl d_order)), (dq10, .inl (cI, 10, .inl d_came)), (dq11, .inl (cI, 100, .inl d_worth)), (dq12, .inl (cZ, 10, .inl res.2.2.1)), (dq13, .inl (cI, 10, .inl res.2.2.2)), (dq14, .inl (cI, 10, .inl d_reservedFor)), (dq15, .inl (cI, 10, .inl d_reservedTo)), (dq18, .inl (cI, 10, .inl d_pieceDual)), (dq19, .inl (cI, 10, .inl d_orderDual)), (dq20, .inl (cJ, 11264, .inr (.inl d_table)))] t.heap ∧ va_K (dC, dI) classes [(cI, .int), (cZ, .boolean), (cJ, .long)] t ∧ va_D A [(dq, .inr (5, [.int res.2.1, .int d_today, .int d_cut, .int d_aging, .int d_saleFrom, .int d_pieces, .int d_orders, .ref dq8, .ref dq9, .ref dq10, .ref dq11, .ref dq12, .ref dq13, .ref dq14, .ref dq15, .int d_ran, .int d_sum, .ref dq18, .ref dq19, .ref dq20])), (dq8, .inl (cI, 40, .inl d_piece)), (dq9, .inl (cI, 40, .inl d_order)), (dq10, .inl (cI, 10, .inl d_came)), (dq11, .inl (cI, 100, .inl d_worth)), (dq12, .inl (cZ, 10, .inl res.2.2.1)), (dq13, .inl (cI, 10, .inl res.2.2.2)), (dq14, .inl (cI, 10, .inl d_reservedFor)), (dq15, .inl (cI, 10, .inl d_reservedTo)), (dq18, .inl (cI, 10, .inl d_pieceDual)), (dq19, .inl (cI, 10, .inl d_orderDual)), (dq20, .inl (cJ, 11264, .inr (.inl d_table)))]) A) ([.ref dq, .int x1] : List Value).toArray s 0 0 A) (F0 m 78 ls []) := by
                  intro K hK78 n
                  induction n with
                  | zero => intro y1b y2b y3b y4b y5b y6b y7b y8b y9b y10b y11b d_thrownb d_usedb d_usedByb H locs ls hl hP hD hS hm; exact absurd hm (by simp [L_D_several_78])
                  | succ n ih78 =>
                    intro y1b y2b y3b y4b y5b y6b y7b y8b y9b y10b y11b d_thrownb d_usedb d_usedByb H locs ls hl hP hD hS hm
                    rw [L_D_several_78] at hm
                    refine lv_iload hx hb d_D_several_78 (lv_at hl 11 rfl) ?_
                    refine lv_bipush (v := 10) hx hb d_D_several_80 (by decide) ?_
                    refine lv_icmp_ge (tgt := 160) hx hb d_D_several_82 (by decide) (fun c9 => ?_) (fun c9 => ?_)
                    · replace hm := if_t c9 hm
                      have hl : lv_has ls 12 [(0, .ref dq), (1, .int y1b), (2, .int y2b), (3, .int y3b), (4, .int y4b), (5, .int y5b), (6, .int y6b), (7, .int y7b), (8, .int y8b), (9, .int y9b), (10, .int y10b), (11, .int y11b)] := lv_sub hl [0, 1, 2, 3, 4, 5, 6, 7, 8, 9, 10, 11] rfl
                      exact hK78 y1b y2b y3b y4b y5b y6b y7b y8b y9b y10b y11b d_thrownb d_usedb d_usedByb _ _ ls hl hP hD hS hm
                    · replace hm := if_f c9 hm
                      refine lv_iload hx hb d_D_several_85 (lv_at hl 6 rfl) ?_
                      refine lv_iload hx hb d_D_several_87 (lv_at hl 11 rfl) ?_
                      refine lv_ishr hx hb d_D_several_89 ?_
                      refine lv_iconst (v := 1) hx hb d_D_several_90 (by decide) ?_
                      refine lv_iand hx hb d_D_several_91 ?_
                      refine lv_if_ne (tgt := 98) hx hb d_D_several_92 (by decide) (fun c9 => ?_) (fun c9 => ?_)
                      · replace hm := if_f c9 hm
                        refine lv_iload hx hb d_D_several_98 (lv_at hl 11 rfl) ?_
                        refine lv_aload_n hx hb d_D_several_100 rfl (lv_at hl 0 rfl) ?_
                        refine va_get (D := (dC, dI)) (ci := 5) (v := .int d_orders) (C := R_D) (T := F_D) (N := 20) hx hb hts hk1 hown hK hP 0 rfl rfl 6 (by decide) hk0 (fun _ h9 => h9) rfl d_D_several_101 ?_
                        refine lv_icmp_ge (tgt := 117) hx hb d_D_several_104 (by decide) (fun c9 => ?_) (fun c9 => ?_)
                        · replace hm := if_t c9 hm
                          refine lv_iconst (v := 0) hx hb d_D_several_117 (by decide) ?_
                          refine lv_istore (lv' := [(10, .int 0), (0, .ref dq), (1, .int y1b), (2, .int y2b), (3, .int y3b), (4, .int y4b), (5, .int y5b), (6, .int y6b), (7, .int y7b), (8, .int y8b), (9, .int y9b), (11, .int y11b)]) hx hb d_D_several_118 hl (by decide) rfl (fun ls hl => ?_)
                          refine lv_goto (tgt := 154) hx hb d_D_several_120 (by decide) ?_
                          refine lv_iinc (v := (y11b + 1)) (lv' := [(11, .int (y11b + 1)), (10, .int 0), (0, .ref dq), (1, .int y1b), (2, .int y2b), (3, .int y3b), (4, .int y4b), (5, .int y5b), (6, .int y6b), (7, .int y7b), (8, .int y8b), (9, .int y9b)]) hx hb d_D_several_154 hl (k := 11) rfl rfl (by decide) rfl (fun ls hl => ?_)
                          refine lv_goto (tgt := 78) hx hb d_D_several_157 (by decide) ?_
                          have hl : lv_has ls 12 [(0, .ref dq), (1, .int y1b), (2, .int y2b), (3, .int y3b), (4, .int y4b), (5, .int y5b), (6, .int y6b), (7, .int y7b), (8, .int y8b), (9, .int y9b), (10, .int 0), (11, .int (y11b + 1))] := lv_sub hl [2, 3, 4, 5, 6, 7, 8, 9, 10, 11, 1, 0] rfl
                          exact ih78 y1b y2b y3b y4b y5b y6b y7b y8b y9b 0 (y11b + 1) d_thrownb d_usedb d_usedByb _ _ ls hl hP hD hS hm
                        · replace hm := if_f c9 hm
                          refine lv_aload_n hx hb d_D_several_107 rfl (lv_at hl 0 rfl) ?_
                          refine lv_iload_n hx hb d_D_several_108 rfl (lv_at hl 1 rfl) ?_
                          refine lv_iload hx hb d_D_several_109 (lv_at hl 11 rfl) ?_
                          obtain ⟨r19, hc, hm⟩ := bd hm
                          try dsimp only at hm
                          refine vp_callSi (W.runV (As := [.int y1b, .int y11b]) (rest := []) ⟨hx, hb, hml, hown, hts⟩ (c_D_can l dC dI cI cZ cJ dq dq8 dq9 dq10 dq11 dq12 dq13 dq14 dq15 dq18 dq19 dq20 d_thrownb d_today d_cut d_aging d_saleFrom d_pieces d_orders d_piece d_order d_came d_worth d_usedb d_usedByb d_reservedFor d_reservedTo d_ran d_sum d_pieceDual d_orderDual d_table y1b y11b N r19 hc) (cwV 2 hts (gV (w0 713 rfl) (w0 714 rfl) (w0 24 rfl) (w0 33 rfl) (w0 715 rfl)) rfl rfl rfl q_D_can ⟨Nat.le_of_ble_eq_true rfl, Nat.le_of_ble_eq_true rfl⟩) (ro_preV [0, 1, 2, 3, 4, 5, 6, 7, 8, 9, 10, 11] rfl hK hP hN 5 0 (R_D, F_D, 20) rfl rfl) rfl rfl hl.1 rfl (lv_room (Nat.le_of_ble_eq_true rfl)) d_D_several_111 ⟨Nat.le_of_ble_eq_true rfl, Nat.le_of_ble_eq_true rfl⟩) (fun r9 hr9 => ?_)
                          subst hr9
                          refine lv_if_ne (tgt := 123) hx hb d_D_several_114 (by decide) (fun c9 => ?_) (fun c9 => ?_)
                          · replace hm := if_f c9 hm
                            refine lv_iinc (v := (y7b + 1)) (lv' := [(7, .int (y7b + 1)), (0, .ref dq), (1, .int y1b), (2, .int y2b), (3, .int y3b), (4, .int y4b), (5, .int y5b), (6, .int y6b), (8, .int y8b), (9, .int y9b), (10, .int y10b), (11, .int y11b)]) hx hb d_D_several_123 hl (k := 7) rfl rfl (by decide) rfl (fun ls hl => ?_)
                            refine lv_iload hx hb d_D_several_126 (lv_at hl 8 rfl) ?_
                            refine lv_aload_n hx hb d_D_several_128 rfl (lv_at hl 1 rfl) ?_
                            refine va_get (D := (dC, dI)) (ci := 5) (v := .ref dq9) (C := R_D) (T := F_D) (N := 20) hx hb hts hk1 hown hK hP 0 rfl rfl 8 (by decide) hk2 (fun _ h9 => h9) rfl d_D_several_129 ?_
                            refine lv_iconst (v := 4) hx hb d_D_several_132 (by decide) ?_
                            refine lv_iload hx hb d_D_several_133 (lv_at hl 11 rfl) ?_
                            refine lv_imul hx hb d_D_several_135 ?_
                            refine lv_iconst (v := 2) hx hb d_D_several_136 (by decide) ?_
                            refine lv_iadd hx hb d_D_several_137 ?_
                            obtain ⟨h9, hm⟩ := gd hm
                            refine va_iald hx hb hK hP 2 0 rfl rfl h9 d_D_several_138 ?_
                            refine lv_iadd hx hb d_D_several_139 ?_
                            refine lv_istore (lv' := [(8, .int (y8b + (d_order ((4 * y11b) + 2).toNatClampNeg))), (7, .int (y7b + 1)), (0, .ref dq), (1, .int y1b), (2, .int y2b), (3, .int y3b), (4, .int y4b), (5, .int y5b), (6, .int y6b), (9, .int y9b), (10, .int y10b), (11, .int y11b)]) hx hb d_D_several_140 hl (by decide) rfl (fun ls hl => ?_)
                            refine lv_iload hx hb d_D_several_142 (lv_at hl 9 rfl) ?_
                            refine lv_aload_n hx hb d_D_several_144 rfl (lv_at hl 2 rfl) ?_
                            refine lv_iload_n hx hb d_D_several_145 rfl (lv_at hl 3 rfl) ?_
                            refine lv_iload hx hb d_D_several_146 (lv_at hl 11 rfl) ?_
                            obtain ⟨r20, hc, hm⟩ := bd hm
                            try dsimp only at hm
                            refine vp_callSi (W.runV (As := [.int y1b, .int y11b]) (rest := [.int y9b]) ⟨hx, hb, hml, hown, hts⟩ (c_D_netOf l dC dI cI cZ cJ dq dq8 dq9 dq10 dq11 dq12 dq13 dq14 dq15 dq18 dq19 dq20 d_thrownb d_today d_cut d_aging d_saleFrom d_pieces d_orders d_piece d_order d_came d_worth d_usedb d_usedByb d_reservedFor d_reservedTo d_ran d_sum d_pieceDual d_orderDual d_table y1b y11b N r20 hc) (cwV 2 hts (gV (w0 703 rfl) (w0 704 rfl) (w0 22 rfl) (w0 33 rfl) (w0 705 rfl)) rfl rfl rfl q_D_netOf ⟨Nat.le_of_ble_eq_true rfl, Nat.le_of_ble_eq_true rfl⟩) (ro_preV [0, 1, 2, 3, 4, 5, 6, 7, 8, 9, 10, 11] rfl hK hP hN 5 0 (R_D, F_D, 20) rfl rfl) rfl rfl hl.1 rfl (lv_room (Nat.le_of_ble_eq_true rfl)) d_D_several_148 ⟨Nat.le_of_ble_eq_true rfl, Nat.le_of_ble_eq_true rfl⟩) (fun r9 hr9 => ?_)
                            subst hr9
                            refine lv_iadd hx hb d_D_several_151 ?_
                            refine lv_istore (lv' := [(9, .int (y9b + r20)), (8, .int (y8b + (d_order ((4 * y11b) + 2).toNatClampNeg))), (7, .int (y7b + 1)), (0, .ref dq), (1, .int y1b), (2, .int y2b), (3, .int y3b), (4, .int y4b), (5, .int y5b), (6, .int y6b), (10, .int y10b), (11, .int y11b)]) hx hb d_D_several_152 hl (by decide) rfl (fun ls hl => ?_)
                            refine lv_iinc (v := (y11b + 1)) (lv' := [(11, .int (y11b + 1)), (9, .int (y9b + r20)), (8, .int (y8b + (d_order ((4 * y11b) + 2).toNatClampNeg))), (7, .int (y7b + 1)), (0, .ref dq), (1, .int y1b), (2, .int y2b), (3, .int y3b), (4, .int y4b), (5, .int y5b), (6, .int y6b), (10, .int y10b)]) hx hb d_D_several_154 hl (k := 11) rfl rfl (by decide) rfl (fun ls hl => ?_)
                            refine lv_goto (tgt := 78) hx hb d_D_several_157 (by decide) ?_
                            have hl : lv_has ls 12 [(0, .ref dq), (1, .int y1b), (2, .int y2b), (3, .int y3b), (4, .int y4b), (5, .int y5b), (6, .int y6b), (7, .int (y7b + 1)), (8, .int (y8b + (d_order ((4 * y11b) + 2).toNatClampNeg))), (9, .int (y9b + r20)), (10, .int y10b), (11, .int (y11b + 1))] := lv_sub hl [4, 5, 6, 7, 8, 9, 10, 3, 2, 1, 11, 0] rfl
                            exact ih78 y1b y2b y3b y4b y5b y6b (y7b + 1) (y8b + (d_order ((4 * y11b) + 2).toNatClampNeg)) (y9b + r20) y10b (y11b + 1) d_thrownb d_usedb d_usedByb _ _ ls hl hP hD hS hm
                          · replace hm := if_t c9 hm
                            refine lv_iconst (v := 0) hx hb d_D_several_117 (by decide) ?_
                            refine lv_istore (lv' := [(10, .int 0), (0, .ref dq), (1, .int y1b), (2, .int y2b), (3, .int y3b), (4, .int y4b), (5, .int y5b), (6, .int y6b), (7, .int y7b), (8, .int y8b), (9, .int y9b), (11, .int y11b)]) hx hb d_D_several_118 hl (by decide) rfl (fun ls hl => ?_)
                            refine lv_goto (tgt := 154) hx hb d_D_several_120 (by decide) ?_
                            refine lv_iinc (v := (y11b + 1)) (lv' := [(11, .int (y11b + 1)), (10, .int 0), (0, .ref dq), (1, .int y1b), (2, .int y2b), (3, .int y3b), (4, .int y4b), (5, .int y5b), (6, .int y6b), (7, .int y7b), (8, .int y8b), (9, .int y9b)]) hx hb d_D_several_154 hl (k := 11) rfl rfl (by decide) rfl (fun ls hl => ?_)
                            refine lv_goto (tgt := 78) hx hb d_D_several_157 (by decide) ?_
                            have hl : lv_has ls 12 [(0, .ref dq), (1, .int y1b), (2, .int y2b), (3, .int y3b), (4, .int y4b), (5, .int y5b), (6, .int y6b), (7, .int y7b), (8, .int y8b), (9, .int y9b), (10, .int 0), (11, .int (y11b + 1))] := lv_sub hl [2, 3, 4, 5, 6, 7, 8, 9, 10, 11, 1, 0] rfl
                            exact ih78 y1b y2b y3b y4b y5b y6b y7b y8b y9b 0 (y11b + 1) d_thrownb d_usedb d_usedByb _ _ ls hl hP hD hS hm
                      · replace hm := if_t c9 hm
                        refine lv_goto (tgt := 154) hx hb d_D_several_95 (by decide) ?_
                        refine lv_iinc (v := (y11b + 1)) (lv' := [(11, .int (y11b + 1)), (0, .ref dq), (1, .int y1b), (2, .int y2b), (3, .int y3b), (4, .int y4b), (5, .int y5b), (6, .int y6b), (7, .int y7b), (8, .int y8b), (9, .int y9b), (10, .int y10b)]) hx hb d_D_several_154 hl (k := 11) rfl rfl (by decide) rfl (fun ls hl => ?_)
                        refine lv_goto (tgt := 78) hx hb d_D_several_157 (by decide) ?_
                        have hl : lv_has ls 12 [(0, .ref dq), (1, .int y1b), (2, .int y2b), (3, .int y3b), (4, .int y4b), (5, .int y5b), (6, .int y6b), (7, .int y7b), (8, .int y8b), (9, .int y9b), (10, .int y10b), (11, .int (y11b + 1))] := lv_sub hl [1, 2, 3, 4, 5, 6, 7, 8, 9, 10, 11, 0] rfl
                        exact ih78 y1b y2b y3b y4b y5b y6b y7b y8b y9b y10b (y11b + 1) d_thrownb d_usedb d_usedByb _ _ ls hl hP hD hS hm
                have hl : lv_has ls 12 [(0, .ref dq), (1, .int y1a), (2, .int y2a), (3, .int y3a), (4, .int y4a), (5, .int y5a), (6, .int y6a), (7, .int 0), (8, .int 0), (9, .int 0), (10, .int 1), (11, .int 0)] := lv_sub hl [5, 6, 7, 8, 9, 10, 11, 4, 3, 2, 1, 0] rfl
                refine key78 _ (fun y1b y2b y3b y4b y5b y6b y7b y8b y9b y10b y11b d_thrownb d_usedb d_usedByb H locs ls hl hP hD hS hm => ?_) N y1a y2a y3a y4a y5a y6a 0 0 0 1 0 d_throwna d_useda d_usedBya _ _ ls hl hP hD hS hm
                try dsimp only at hm
                refine lv_iload hx hb d_D_several_160 (lv_at hl 10 rfl) ?_
                refine lv_if_eq (tgt := 224) hx hb d_D_several_162 (by decide) (fun c9 => ?_) (fun c9 => ?_)
                · replace hm := if_t c9 hm
                  refine lv_iinc (v := (y6b + 1)) (lv' := [(6, .int (y6b + 1)), (0, .ref dq), (1, .int y1b), (2, .int y2b), (3, .int y3b), (4, .int y4b), (5, .int y5b), (7, .int y7b), (8, .int y8b), (9, .int y9b), (10, .int y10b), (11, .int y11b)]) hx hb d_D_several_224 hl (k := 6) rfl rfl (by decide) rfl (fun ls hl => ?_)
                  refine lv_goto (tgt := 55) hx hb d_D_several_227 (by decide) ?_
                  have hl : lv_has ls 12 [(0, .ref dq), (1, .int y1b), (2, .int y2b), (3, .int y3b), (4, .int y4b), (5, .int y5b), (6, .int (y6b + 1))] := lv_sub hl [1, 2, 3, 4, 5, 6, 0] rfl
                  exact ih55 y1b y2b y3b y4b y5b (y6b + 1) d_thrownb d_usedb d_usedByb _ _ ls hl hP hD hS hm
                · replace hm := if_f c9 hm
                  refine lv_iload hx hb d_D_several_165 (lv_at hl 7 rfl) ?_
                  refine lv_iconst (v := 5) hx hb d_D_several_167 (by decide) ?_
                  refine lv_icmp_gt (tgt := 224) hx hb d_D_several_168 (by decide) (fun c9 => ?_) (fun c9 => ?_)
                  · replace hm := if_t c9 hm
                    refine lv_iinc (v := (y6b + 1)) (lv' := [(6, .int (y6b + 1)), (0, .ref dq), (1, .int y1b), (2, .int y2b), (3, .int y3b), (4, .int y4b), (5, .int y5b), (7, .int y7b), (8, .int y8b), (9, .int y9b), (10, .int y10b), (11, .int y11b)]) hx hb d_D_several_224 hl (k := 6) rfl rfl (by decide) rfl (fun ls hl => ?_)
                    refine lv_goto (tgt := 55) hx hb d_D_several_227 (by decide) ?_
                    have hl : lv_has ls 12 [(0, .ref dq), (1, .int y1b), (2, .int y2b), (3, .int y3b), (4, .int y4b), (5, .int y5b), (6, .int (y6b + 1))] := lv_sub hl [1, 2, 3, 4, 5, 6, 0] rfl
                    exact ih55 y1b y2b y3b y4b y5b (y6b + 1) d_thrownb d_usedb d_usedByb _ _ ls hl hP hD hS hm
                  · replace hm := if_f c9 hm
                    refine lv_iload hx hb d_D_several_171 (lv_at hl 8 rfl) ?_
                    refine lv_aload_n hx hb d_D_several_173 rfl (lv_at hl 0 rfl) ?_
                    refine va_get (D := (dC, dI)) (ci := 5) (v := .ref dq8) (C := R_D) (T := F_D) (N := 20) hx hb hts hk1 hown hK hP 0 rfl rfl 7 (by decide) hk3 (fun _ h9 => h9) rfl d_D_several_174 ?_
                    refine lv_iconst (v := 4) hx hb d_D_several_177 (by decide) ?_
                    refine lv_iload_n hx hb d_D_several_178 rfl (lv_at hl 1 rfl) ?_
                    refine lv_imul hx hb d_D_several_179 ?_
                    refine lv_iconst (v := 2) hx hb d_D_several_180 (by decide) ?_
                    refine lv_iadd hx hb d_D_several_181 ?_
                    obtain ⟨h9, hm⟩ := gd hm
                    refine va_iald hx hb hK hP 1 0 rfl rfl h9 d_D_several_182 ?_
                    refine lv_icmp_le (tgt := 189) hx hb d_D_several_183 (by decide) (fun c9 => ?_) (fun c9 => ?_)
                    · replace hm := if_t c9 hm
                      refine lv_iload hx hb d_D_several_189 (lv_at hl 7 rfl) ?_
                      refine lv_iload hx hb d_D_several_191 (lv_at hl 4 rfl) ?_
                      refine lv_icmp_lt (tgt := 224) hx hb d_D_several_193 (by decide) (fun c9 => ?_) (fun c9 => ?_)
                      · replace hm := if_t c9 hm
                        refine lv_iinc (v := (y6b + 1)) (lv' := [(6, .int (y6b + 1)), (0, .ref dq), (1, .int y1b), (2, .int y2b), (3, .int y3b), (4, .int y4b), (5, .int y5b), (7, .int y7b), (8, .int y8b), (9, .int y9b), (10, .int y10b), (11, .int y11b)]) hx hb d_D_several_224 hl (k := 6) rfl rfl (by decide) rfl (fun ls hl => ?_)
                        refine lv_goto (tgt := 55) hx hb d_D_several_227 (by decide) ?_
                        have hl : lv_has ls 12 [(0, .ref dq), (1, .int y1b), (2, .int y2b), (3, .int y3b), (4, .int y4b), (5, .int y5b), (6, .int (y6b + 1))] := lv_sub hl [1, 2, 3, 4, 5, 6, 0] rfl
                        exact ih55 y1b y2b y3b y4b y5b (y6b + 1) d_thrownb d_usedb d_usedByb _ _ ls hl hP hD hS hm
                      · replace hm := if_f c9 hm
                        refine lv_iload hx hb d_D_several_196 (lv_at hl 7 rfl) ?_
                        refine lv_iload hx hb d_D_several_198 (lv_at hl 4 rfl) ?_
                        refine lv_icmp_ne (tgt := 213) hx hb d_D_several_200 (by decide) (fun c9 => ?_) (fun c9 => ?_)
                        · replace hm := if_f c9 hm
                          refine lv_iload hx hb d_D_several_213 (lv_at hl 6 rfl) ?_
                          refine lv_istore_n (lv' := [(3, .int y6b), (0, .ref dq), (1, .int y1b), (2, .int y2b), (4, .int y4b), (5, .int y5b), (6, .int y6b), (7, .int y7b), (8, .int y8b), (9, .int y9b), (10, .int y10b), (11, .int y11b)]) hx hb d_D_several_215 rfl hl (by decide) rfl (fun ls hl => ?_)
                          refine lv_iload hx hb d_D_several_216 (lv_at hl 7 rfl) ?_
                          refine lv_istore (lv' := [(4, .int y7b), (3, .int y6b), (0, .ref dq), (1, .int y1b), (2, .int y2b), (5, .int y5b), (6, .int y6b), (7, .int y7b), (8, .int y8b), (9, .int y9b), (10, .int y10b), (11, .int y11b)]) hx hb d_D_several_218 hl (by decide) rfl (fun ls hl => ?_)
                          refine lv_iload hx hb d_D_several_220 (lv_at hl 9 rfl) ?_
                          refine lv_istore (lv' := [(5, .int y9b), (4, .int y7b), (3, .int y6b), (0, .ref dq), (1, .int y1b), (2, .int y2b), (6, .int y6b), (7, .int y7b), (8, .int y8b), (9, .int y9b), (10, .int y10b), (11, .int y11b)]) hx hb d_D_several_222 hl (by decide) rfl (fun ls hl => ?_)
                          refine lv_iinc (v := (y6b + 1)) (lv' := [(6, .int (y6b + 1)), (5, .int y9b), (4, .int y7b), (3, .int y6b), (0, .ref dq), (1, .int y1b), (2, .int y2b), (7, .int y7b), (8, .int y8b), (9, .int y9b), (10, .int y10b), (11, .int y11b)]) hx hb d_D_several_224 hl (k := 6) rfl rfl (by decide) rfl (fun ls hl => ?_)
                          refine lv_goto (tgt := 55) hx hb d_D_several_227 (by decide) ?_
                          have hl : lv_has ls 12 [(0, .ref dq), (1, .int y1b), (2, .int y2b), (3, .int y6b), (4, .int y7b), (5, .int y9b), (6, .int (y6b + 1))] := lv_sub hl [4, 5, 6, 3, 2, 1, 0] rfl
                          exact ih55 y1b y2b y6b y7b y9b (y6b + 1) d_thrownb d_usedb d_usedByb _ _ ls hl hP hD hS hm
                        · replace hm := if_t c9 hm
                          refine lv_iload hx hb d_D_several_203 (lv_at hl 9 rfl) ?_
                          refine lv_iload hx hb d_D_several_205 (lv_at hl 5 rfl) ?_
                          refine lv_icmp_gt (tgt := 213) hx hb d_D_several_207 (by decide) (fun c9 => ?_) (fun c9 => ?_)
                          · replace hm := if_t c9 hm
                            refine lv_iload hx hb d_D_several_213 (lv_at hl 6 rfl) ?_
                            refine lv_istore_n (lv' := [(3, .int y6b), (0, .ref dq), (1, .int y1b), (2, .int y2b), (4, .int y4b), (5, .int y5b), (6, .int y6b), (7, .int y7b), (8, .int y8b), (9, .int y9b), (10, .int y10b), (11, .int y11b)]) hx hb d_D_several_215 rfl hl (by decide) rfl (fun ls hl => ?_)
                            refine lv_iload hx hb d_D_several_216 (lv_at hl 7 rfl) ?_
                            refine lv_istore (lv' := [(4, .int y7b), (3, .int y6b), (0, .ref dq), (1, .int y1b), (2, .int y2b), (5, .int y5b), (6, .int y6b), (7, .int y7b), (8, .int y8b), (9, .int y9b), (10, .int y10b), (11, .int y11b)]) hx hb d_D_several_218 hl (by decide) rfl (fun ls hl => ?_)
                            refine lv_iload hx hb d_D_several_220 (lv_at hl 9 rfl) ?_
                            refine lv_istore (lv' := [(5, .int y9b), (4, .int y7b), (3, .int y6b), (0, .ref dq), (1, .int y1b), (2, .int y2b), (6, .int y6b), (7, .int y7b), (8, .int y8b), (9, .int y9b), (10, .int y10b), (11, .int y11b)]) hx hb d_D_several_222 hl (by decide) rfl (fun ls hl => ?_)
                            refine lv_iinc (v := (y6b + 1)) (lv' := [(6, .int (y6b + 1)), (5, .int y9b), (4, .int y7b), (3, .int y6b), (0, .ref dq), (1, .int y1b), (2, .int y2b), (7, .int y7b), (8, .int y8b), (9, .int y9b), (10, .int y10b), (11, .int y11b)]) hx hb d_D_several_224 hl (k := 6) rfl rfl (by decide) rfl (fun ls hl => ?_)
                            refine lv_goto (tgt := 55) hx hb d_D_several_227 (by decide) ?_
                            have hl : lv_has ls 12 [(0, .ref dq), (1, .int y1b), (2, .int y2b), (3, .int y6b), (4, .int y7b), (5, .int y9b), (6, .int (y6b + 1))] := lv_sub hl [4, 5, 6, 3, 2, 1, 0] rfl
                            exact ih55 y1b y2b y6b y7b y9b (y6b + 1) d_thrownb d_usedb d_usedByb _ _ ls hl hP hD hS hm
                          · replace hm := if_f c9 hm
                            refine lv_goto (tgt := 224) hx hb d_D_several_210 (by decide) ?_
                            refine lv_iinc (v := (y6b + 1)) (lv' := [(6, .int (y6b + 1)), (0, .ref dq), (1, .int y1b), (2, .int y2b), (3, .int y3b), (4, .int y4b), (5, .int y5b), (7, .int y7b), (8, .int y8b), (9, .int y9b), (10, .int y10b), (11, .int y11b)]) hx hb d_D_several_224 hl (k := 6) rfl rfl (by decide) rfl (fun ls hl => ?_)
                            refine lv_goto (tgt := 55) hx hb d_D_several_227 (by decide) ?_
                            have hl : lv_has ls 12 [(0, .ref dq), (1, .int y1b), (2, .int y2b), (3, .int y3b), (4, .int y4b), (5, .int y5b), (6, .int (y6b + 1))] := lv_sub hl [1, 2, 3, 4, 5, 6, 0] rfl
                            exact ih55 y1b y2b y3b y4b y5b (y6b + 1) d_thrownb d_usedb d_usedByb _ _ ls hl hP hD hS hm
                    · replace hm := if_f c9 hm
                      refine lv_goto (tgt := 224) hx hb d_D_several_186 (by decide) ?_
                      refine lv_iinc (v := (y6b + 1)) (lv' := [(6, .int (y6b + 1)), (0, .ref dq), (1, .int y1b), (2, .int y2b), (3, .int y3b), (4, .int y4b), (5, .int y5b), (7, .int y7b), (8, .int y8b), (9, .int y9b), (10, .int y10b), (11, .int y11b)]) hx hb d_D_several_224 hl (k := 6) rfl rfl (by decide) rfl (fun ls hl => ?_)
                      refine lv_goto (tgt := 55) hx hb d_D_several_227 (by decide) ?_
                      have hl : lv_has ls 12 [(0, .ref dq), (1, .int y1b), (2, .int y2b), (3, .int y3b), (4, .int y4b), (5, .int y5b), (6, .int (y6b + 1))] := lv_sub hl [1, 2, 3, 4, 5, 6, 0] rfl
                      exact ih55 y1b y2b y3b y4b y5b (y6b + 1) d_thrownb d_usedb d_usedByb _ _ ls hl hP hD hS hm
          have hl : lv_has ls 12 [(0, .ref dq), (1, .int x1), (2, .int r1), (3, .int 0), (4, .int 0), (5, .int 0), (6, .int 1)] := lv_sub hl [5, 6, 4, 3, 2, 1, 0] rfl
          refine key55 _ (fun y1a y2a y3a y4a y5a y6a d_throwna d_useda d_usedBya H locs ls hl hP hD hS hm => ?_) N x1 r1 0 0 0 1 u18 d_used d_usedBy _ _ ls hl hP hD hS hm
          try dsimp only at hm
          refine lv_iload_n hx hb d_D_several_230 rfl (lv_at hl 3 rfl) ?_
          refine lv_if_ne (tgt := 236) hx hb d_D_several_231 (by decide) (fun c9 => ?_) (fun c9 => ?_)
          · replace hm := if_f c9 hm
            refine lv_aload_n hx hb d_D_several_236 rfl (lv_at hl 0 rfl) ?_
            refine va_get (D := (dC, dI)) (ci := 5) (v := .ref dq12) (C := R_D) (T := F_D) (N := 20) hx hb hts hk1 hown hK hP 0 rfl rfl 11 (by decide) hk4 (fun _ h9 => h9) rfl d_D_several_237 ?_
            refine lv_iload_n hx hb d_D_several_240 rfl (lv_at hl 1 rfl) ?_
            refine lv_iconst (v := 1) hx hb d_D_several_241 (by decide) ?_
            obtain ⟨h9, hm⟩ := gd hm
            refine va_zast hx hb hK hP hD hS 5 1 rfl rfl h9 d_D_several_242 (fun H locs hP hD hS => ?_)
            have hP : va_P (dC, dI) classes [(dq, .inr (5, [.int d_throwna, .int d_today, .int d_cut, .int d_aging, .int d_saleFrom, .int d_pieces, .int d_orders, .ref dq8, .ref dq9, .ref dq10, .ref dq11, .ref dq12, .ref dq13, .ref dq14, .ref dq15, .int d_ran, .int d_sum, .ref dq18, .ref dq19, .ref dq20])), (dq8, .inl (cI, 40, .inl d_piece)), (dq9, .inl (cI, 40, .inl d_order)), (dq10, .inl (cI, 10, .inl d_came)), (dq11, .inl (cI, 100, .inl d_worth)), (dq12, .inl (cZ, 10, .inl (upd d_useda y1a.toNatClampNeg (vp_nar .boolean 1)))), (dq13, .inl (cI, 10, .inl d_usedBya)), (dq14, .inl (cI, 10, .inl d_reservedFor)), (dq15, .inl (cI, 10, .inl d_reservedTo)), (dq18, .inl (cI, 10, .inl d_pieceDual)), (dq19, .inl (cI, 10, .inl d_orderDual)), (dq20, .inl (cJ, 11264, .inr (.inl d_table)))] H := hP
            have hD : va_D A [(dq, .inr (5, [.int d_throwna, .int d_today, .int d_cut, .int d_aging, .int d_saleFrom, .int d_pieces, .int d_orders, .ref dq8, .ref dq9, .ref dq10, .ref dq11, .ref dq12, .ref dq13, .ref dq14, .ref dq15, .int d_ran, .int d_sum, .ref dq18, .ref dq19, .ref dq20])), (dq8, .inl (cI, 40, .inl d_piece)), (dq9, .inl (cI, 40, .inl d_order)), (dq10, .inl (cI, 10, .inl d_came)), (dq11, .inl (cI, 100, .inl d_worth)), (dq12, .inl (cZ, 10, .inl (upd d_useda y1a.toNatClampNeg (vp_nar .boolean 1)))), (dq13, .inl (cI, 10, .inl d_usedBya)), (dq14, .inl (cI, 10, .inl d_reservedFor)), (dq15, .inl (cI, 10, .inl d_reservedTo)), (dq18, .inl (cI, 10, .inl d_pieceDual)), (dq19, .inl (cI, 10, .inl d_orderDual)), (dq20, .inl (cJ, 11264, .inr (.inl d_table)))] := hD
            refine lv_iconst (v := 0) hx hb d_D_several_243 (by decide) ?_
            refine lv_istore (lv' := [(6, .int 0), (0, .ref dq), (1, .int y1a), (2, .int y2a), (3, .int y3a), (4, .int y4a), (5, .int y5a)]) hx hb d_D_several_244 hl (by decide) rfl (fun ls hl => ?_)
            have key246 : ∀ (K : Int32 → Int32 → Int32 → Int32 → Int32 → Int32 → Int32 → (Nat → Int32) → (Nat → Int32) → Option (Int32 × Int32 × (Nat → Int32) × (Nat → Int32))) (_ : ∀ (y1c : Int32) (y2c : Int32) (y3c : Int32) (y4c : Int32) (y5c : Int32) (y6c : Int32) (d_thrownc : Int32) (d_usedc : Nat → Int32) (d_usedByc : Nat → Int32) (H : Heap) (locs : List Loc) (ls : Array Slot), lv_has ls 12 [(0, .ref dq), (1, .int y1c), (2, .int y2c), (3, .int y3c), (4, .int y4c), (5, .int y5c), (6, .int y6c)] → va_P (dC, dI) classes [(dq, .inr (5, [.int d_thrownc, .int d_today, .int d_cut, .int d_aging, .int d_saleFrom, .int d_pieces, .int d_orders, .ref dq8, .ref dq9, .ref dq10, .ref dq11, .ref dq12, .ref dq13, .ref dq14, .ref dq15, .int d_ran, .int d_sum, .ref dq18, .ref dq19, .ref dq20])), (dq8, .inl (cI, 40, .inl d_piece)), (dq9, .inl (cI, 40, .inl d_order)), (dq10, .inl (cI, 10, .inl d_came)), (dq11, .inl (cI, 100, .inl d_worth)), (dq12, .inl (cZ, 10, .inl d_usedc)), (dq13, .inl (cI, 10, .inl d_usedByc)), (dq14, .inl (cI, 10, .inl d_reservedFor)), (dq15, .inl (cI, 10, .inl d_reservedTo)), (dq18, .inl (cI, 10, .inl d_pieceDual)), (dq19, .inl (cI, 10, .inl d_orderDual)), (dq20, .inl (cJ, 11264, .inr (.inl d_table)))] H → va_D A [(dq, .inr (5, [.int d_thrownc, .int d_today, .int d_cut, .int d_aging, .int d_saleFrom, .int d_pieces, .int d_orders, .ref dq8, .ref dq9, .ref dq10, .ref dq11, .ref dq12, .ref dq13, .ref dq14, .ref dq15, .int d_ran, .int d_sum, .ref dq18, .ref dq19, .ref dq20])), (dq8, .inl (cI, 40, .inl d_piece)), (dq9, .inl (cI, 40, .inl d_order)), (dq10, .inl (cI, 10, .inl d_came)), (dq11, .inl (cI, 100, .inl d_worth)), (dq12, .inl (cZ, 10, .inl d_usedc)), (dq13, .inl (cI, 10, .inl d_usedByc)), (dq14, .inl (cI, 10, .inl d_reservedFor)), (dq15, .inl (cI, 10, .inl d_reservedTo)), (dq18, .inl (cI, 10, .inl d_pieceDual)), (dq19, .inl (cI, 10, .inl d_orderDual)), (dq20, .inl (cJ, 11264, .inr (.inl d_table)))] → va_S A s.heap H locs → K y1c y2c y3c y4c y5c y6c d_thrownc d_usedc d_usedByc = some res → W p l e (headSpec w_D_several ({ frames := 3, cells := 0, slots := 0, locals := 67 } : Room)).room s m ([.ref dq, .int x1] : List Value).toArray below meth c H locs 0 0 (MQ below (va_Qi (fun (x : Int32) (_ : Unit) => res.1 = x) (fun _ t => va_P (dC, dI) classes [(dq, .inr (5, [.int res.2.1, .int d_today, .int d_cut, .int d_aging, .int d_saleFrom, .int d_pieces, .int d_orders, .ref dq8, .ref dq9, .ref dq10, .ref dq11, .ref dq12, .ref dq13, .ref dq14, .ref dq15, .int d_ran, .int d_sum, .ref dq18, .ref dq19, .ref dq20])), (dq8, .inl (cI, 40, .inl d_piece)), (dq9, .inl (cI, 40, .inl d_order)), (dq10, .inl (cI, 10, .inl d_came)), (dq11, .inl (cI, 100, .inl d_worth)), (dq12, .inl (cZ, 10, .inl res.2.2.1)), (dq13, .inl (cI, 10, .inl res.2.2.2)), (dq14, .inl (cI, 10, .inl d_reservedFor)), (dq15, .inl (cI, 10, .inl d_reservedTo)), (dq18, .inl (cI, 10, .inl d_pieceDual)), (dq19, .inl (cI, 10, .inl d_orderDual)), (dq20, .inl (cJ, 11264, .inr (.inl d_table)))] t.heap ∧ va_K (dC, dI) classes [(cI, .int), (cZ, .boolean), (cJ, .long)] t ∧ va_D A [(dq, .inr (5, [.int res.2.1, .int d_today, .int d_cut, .int d_aging, .int d_saleFrom, .int d_pieces, .int d_orders, .ref dq8, .ref dq9, .ref dq10, .ref dq11, .ref dq12, .ref dq13, .ref dq14, .ref dq15, .int d_ran, .int d_sum, .ref dq18, .ref dq19, .ref dq20])), (dq8, .inl (cI, 40, .inl d_piece)), (dq9, .inl (cI, 40, .inl d_order)), (dq10, .inl (cI, 10, .inl d_came)), (dq11, .inl (cI, 100, .inl d_worth)), (dq12, .inl (cZ, 10, .inl res.2.2.1)), (dq13, .inl (cI, 10, .inl res.2.2.2)), (dq14, .inl (cI, 10, .inl d_reservedFor)), (dq15, .inl (cI, 10, .inl d_reservedTo)), (dq18, .inl (cI, 10, .inl d_pieceDual)), (dq19, .inl (cI, 10, .inl d_orderDual)), (dq20, .inl (cJ, 11264, .inr (.inl d_table)))]) A) ([.ref dq, .int x1] : List Value).toArray s 0 0 A) (F0 m 279 ls [])) (n : Nat) (y1c : Int32) (y2c : Int32) (y3c : Int32) (y4c : Int32) (y5c : Int32) (y6c : Int32) (d_thrownc : Int32) (d_usedc : Nat → Int32) (d_usedByc : Nat → Int32) (H : Heap) (locs : List Loc) (ls : Array Slot), lv_has ls 12 [(0, .ref dq), (1, .int y1c), (2, .int y2c), (3, .int y3c), (4, .int y4c), (5, .int y5c), (6, .int y6c)] → va_P (dC, dI) classes [(dq, .inr (5, [.int d_thrownc, .int d_today, .int d_cut, .int d_aging, .int d_saleFrom, .int d_pieces, .int d_orders, .ref dq8, .ref dq9, .ref dq10, .ref dq11, .ref dq12, .ref dq13, .ref dq14, .ref dq15, .int d_ran, .int d_sum, .ref dq18, .ref dq19, .ref dq20])), (dq8, .inl (cI, 40, .inl d_piece)), (dq9, .inl (cI, 40, .inl d_order)), (dq10, .inl (cI, 10, .inl d_came)), (dq11, .inl (cI, 100, .inl d_worth)), (dq12, .inl (cZ, 10, .inl d_usedc)), (dq13, .inl (cI, 10, .inl d_usedByc)), (dq14, .inl (cI, 10, .inl d_reservedFor)), (dq15, .inl (cI, 10, .inl d_reservedTo)), (dq18, .inl (cI, 10, .inl d_pieceDual)), (dq19, .inl (cI, 10, .inl d_orderDual)), (dq20, .inl (cJ, 11264, .inr (.inl d_table)))] H → va_D A [(dq, .inr (5, [.int d_thrownc, .int d_today, .int d_cut, .int d_aging, .int d_saleFrom, .int d_pieces, .int d_orders, .ref dq8, .ref dq9, .ref dq10, .ref dq11, .ref dq12, .ref dq13, .ref dq14, .ref dq15, .int d_ran, .int d_sum, .ref dq18, .ref dq19, .ref dq20])), (dq8, .inl (cI, 40, .inl d_piece)), (dq9, .inl (cI, 40, .inl d_order)), (dq10, .inl (cI, 10, .inl d_came)), (dq11, .inl (cI, 100, .inl d_worth)), (dq12, .inl (cZ, 10, .inl d_usedc)), (dq13, .inl (cI, 10, .inl d_usedByc)), (dq14, .inl (cI, 10, .inl d_reservedFor)), (dq15, .inl (cI, 10, .inl d_reservedTo)), (dq18, .inl (cI, 10, .inl d_pieceDual)), (dq19, .inl (cI, 10, .inl d_orderDual)), (dq20, .inl (cJ, 11264, .inr (.inl d_table)))] → va_S A s.heap H locs → L_D_several_246 N d_orders K n y1c y2c y3c y4c y5c y6c d_thrownc d_usedc d_usedByc = some res → W p l e (headSpec w_D_several ({ frames := 3, cells := 0, slots := 0, locals := 67 } : Room)).room s m ([.ref dq, .int x1] : List Value).toArray below meth c H locs 0 0 (MQ below (va_Qi (fun (x : Int32) (_ : Unit) => res.1 = x) (fun _ t => va_P (dC, dI) classes [(dq, .inr (5, [.int res.2.1, .int d_today, .int d_cut, .int d_aging, .int d_saleFrom, .int d_pieces, .int d_orders, .ref dq8, .ref dq9, .ref dq10, .ref dq11, .ref dq12, .ref dq13, .ref dq14, .ref dq15, .int d_ran, .int d_sum, .ref dq18, .ref dq19, .ref dq20])), (dq8, .inl (cI, 40, .inl d_piece)), (dq9, .inl (cI, 40, .inl d_order)), (dq10, .inl (cI, 10, .inl d_came)), (dq11, .inl (cI, 100, .inl d_worth)), (dq12, .inl (cZ, 10, .inl res.2.2.1)), (dq13, .inl (cI, 10, .inl res.2.2.2)), (dq14, .inl (cI, 10, .inl d_reservedFor)), (dq15, .inl (cI, 10, .inl d_reservedTo)), (dq18, .inl (cI, 10, .inl d_pieceDual)), (dq19, .inl (cI, 10, .inl d_orderDual)), (dq20, .inl (cJ, 11264, .inr (.inl d_table)))] t.heap ∧ va_K (dC, dI) classes [(cI, .int), (cZ, .boolean), (cJ, .long)] t ∧ va_D A [(dq, .inr (5, [.int res.2.1, .int d_today, .int d_cut, .int d_aging, .int d_saleFrom, .int d_pieces, .int d_orders, .ref dq8, .ref dq9, .ref dq10, .ref dq11, .ref dq12, .ref dq13, .ref dq14, .ref dq15, .int d_ran, .int d_sum, .ref dq18, .ref dq19, .ref dq20])), (dq8, .inl (cI, 40, .inl d_piece)), (dq9, .inl (cI, 40, .inl d_order)), (dq10, .inl (cI, 10, .inl d_came)), (dq11, .inl (cI, 100, .inl d_worth)), (dq12, .inl (cZ, 10, .inl res.2.2.1)), (dq13, .inl (cI, 10, .inl res.2.2.2)), (dq14, .inl (cI, 10, .inl d_reservedFor)), (dq15, .inl (cI, 10, .inl d_reservedTo)), (dq18, .inl (cI, 10, .inl d_pieceDual)), (dq19, .inl (cI, 10, .inl d_orderDual)), (dq20, .inl (cJ, 11264, .inr (.inl d_table)))]) A) ([.ref dq, .int x1] : List Value).toArray s 0 0 A) (F0 m 246 ls []) := by
              intro K hK246 n
              induction n with
              | zero => intro y1c y2c y3c y4c y5c y6c d_thrownc d_usedc d_usedByc H locs ls hl hP hD hS hm; exact absurd hm (by simp [L_D_several_246])
              | succ n ih246 =>
                intro y1c y2c y3c y4c y5c y6c d_thrownc d_usedc d_usedByc H locs ls hl hP hD hS hm
                rw [L_D_several_246] at hm
                refine lv_iload hx hb d_D_several_246 (lv_at hl 6 rfl) ?_
                refine lv_aload_n hx hb d_D_several_248 rfl (lv_at hl 0 rfl) ?_
                refine va_get (D := (dC, dI)) (ci := 5) (v := .int d_orders) (C := R_D) (T := F_D) (N := 20) hx hb hts hk1 hown hK hP 0 rfl rfl 6 (by decide) hk0 (fun _ h9 => h9) rfl d_D_several_249 ?_
                refine lv_icmp_ge (tgt := 279) hx hb d_D_several_252 (by decide) (fun c9 => ?_) (fun c9 => ?_)
                · replace hm := if_t c9 hm
                  have hl : lv_has ls 12 [(0, .ref dq), (1, .int y1c), (2, .int y2c), (3, .int y3c), (4, .int y4c), (5, .int y5c), (6, .int y6c)] := lv_sub hl [0, 1, 2, 3, 4, 5, 6] rfl
                  exact hK246 y1c y2c y3c y4c y5c y6c d_thrownc d_usedc d_usedByc _ _ ls hl hP hD hS hm
                · replace hm := if_f c9 hm
                  refine lv_iload_n hx hb d_D_several_255 rfl (lv_at hl 3 rfl) ?_
                  refine lv_iload hx hb d_D_several_256 (lv_at hl 6 rfl) ?_
                  refine lv_ishr hx hb d_D_several_258 ?_
                  refine lv_iconst (v := 1) hx hb d_D_several_259 (by decide) ?_
                  refine lv_iand hx hb d_D_several_260 ?_
                  refine lv_iconst (v := 1) hx hb d_D_several_261 (by decide) ?_
                  refine lv_icmp_ne (tgt := 273) hx hb d_D_several_262 (by decide) (fun c9 => ?_) (fun c9 => ?_)
                  · replace hm := if_f c9 hm
                    refine lv_iinc (v := (y6c + 1)) (lv' := [(6, .int (y6c + 1)), (0, .ref dq), (1, .int y1c), (2, .int y2c), (3, .int y3c), (4, .int y4c), (5, .int y5c)]) hx hb d_D_several_273 hl (k := 6) rfl rfl (by decide) rfl (fun ls hl => ?_)
                    refine lv_goto (tgt := 246) hx hb d_D_several_276 (by decide) ?_
                    have hl : lv_has ls 12 [(0, .ref dq), (1, .int y1c), (2, .int y2c), (3, .int y3c), (4, .int y4c), (5, .int y5c), (6, .int (y6c + 1))] := lv_sub hl [1, 2, 3, 4, 5, 6, 0] rfl
                    exact ih246 y1c y2c y3c y4c y5c (y6c + 1) d_thrownc d_usedc d_usedByc _ _ ls hl hP hD hS hm
                  · replace hm := if_t c9 hm
                    refine lv_aload_n hx hb d_D_several_265 rfl (lv_at hl 0 rfl) ?_
                    refine va_get (D := (dC, dI)) (ci := 5) (v := .ref dq13) (C := R_D) (T := F_D) (N := 20) hx hb hts hk1 hown hK hP 0 rfl rfl 12 (by decide) hk5 (fun _ h9 => h9) rfl d_D_several_266 ?_
                    refine lv_iload hx hb d_D_several_269 (lv_at hl 6 rfl) ?_
                    refine lv_iload_n hx hb d_D_several_271 rfl (lv_at hl 1 rfl) ?_
                    obtain ⟨h9, hm⟩ := gd hm
                    refine va_iast hx hb hK hP hD hS 6 0 rfl rfl h9 d_D_several_272 (fun H locs hP hD hS => ?_)
                    have hP : va_P (dC, dI) classes [(dq, .inr (5, [.int d_thrownc, .int d_today, .int d_cut, .int d_aging, .int d_saleFrom, .int d_pieces, .int d_orders, .ref dq8, .ref dq9, .ref dq10, .ref dq11, .ref dq12, .ref dq13, .ref dq14, .ref dq15, .int d_ran, .int d_sum, .ref dq18, .ref dq19, .ref dq20])), (dq8, .inl (cI, 40, .inl d_piece)), (dq9, .inl (cI, 40, .inl d_order)), (dq10, .inl (cI, 10, .inl d_came)), (dq11, .inl (cI, 100, .inl d_worth)), (dq12, .inl (cZ, 10, .inl d_usedc)), (dq13, .inl (cI, 10, .inl (upd d_usedByc y6c.toNatClampNeg y1c))), (dq14, .inl (cI, 10, .inl d_reservedFor)), (dq15, .inl (cI, 10, .inl d_reservedTo)), (dq18, .inl (cI, 10, .inl d_pieceDual)), (dq19, .inl (cI, 10, .inl d_orderDual)), (dq20, .inl (cJ, 11264, .inr (.inl d_table)))] H := hP
                    have hD : va_D A [(dq, .inr (5, [.int d_thrownc, .int d_today, .int d_cut, .int d_aging, .int d_saleFrom, .int d_pieces, .int d_orders, .ref dq8, .ref dq9, .ref dq10, .ref dq11, .ref dq12, .ref dq13, .ref dq14, .ref dq15, .int d_ran, .int d_sum, .ref dq18, .ref dq19, .ref dq20])), (dq8, .inl (cI, 40, .inl d_piece)), (dq9, .inl (cI, 40, .inl d_order)), (dq10, .inl (cI, 10, .inl d_came)), (dq11, .inl (cI, 100, .inl d_worth)), (dq12, .inl (cZ, 10, .inl d_usedc)), (dq13, .inl (cI, 10, .inl (upd d_usedByc y6c.toNatClampNeg y1c))), (dq14, .inl (cI, 10, .inl d_reservedFor)), (dq15, .inl (cI, 10, .inl d_reservedTo)), (dq18, .inl (cI, 10, .inl d_pieceDual)), (dq19, .inl (cI, 10, .inl d_orderDual)), (dq20, .inl (cJ, 11264, .inr (.inl d_table)))] := hD
                    refine lv_iinc (v := (y6c + 1)) (lv' := [(6, .int (y6c + 1)), (0, .ref dq), (1, .int y1c), (2, .int y2c), (3, .int y3c), (4, .int y4c), (5, .int y5c)]) hx hb d_D_several_273 hl (k := 6) rfl rfl (by decide) rfl (fun ls hl => ?_)
                    refine lv_goto (tgt := 246) hx hb d_D_several_276 (by decide) ?_
                    have hl : lv_has ls 12 [(0, .ref dq), (1, .int y1c), (2, .int y2c), (3, .int y3c), (4, .int y4c), (5, .int y5c), (6, .int (y6c + 1))] := lv_sub hl [1, 2, 3, 4, 5, 6, 0] rfl
                    exact ih246 y1c y2c y3c y4c y5c (y6c + 1) d_thrownc d_usedc (upd d_usedByc y6c.toNatClampNeg y1c) _ _ ls hl hP hD hS hm
            have hl : lv_has ls 12 [(0, .ref dq), (1, .int y1a), (2, .int y2a), (3, .int y3a), (4, .int y4a), (5, .int y5a), (6, .int 0)] := lv_sub hl [1, 2, 3, 4, 5, 6, 0] rfl
            refine key246 _ (fun y1c y2c y3c y4c y5c y6c d_thrownc d_usedc d_usedByc H locs ls hl hP hD hS hm => ?_) N y1a y2a y3a y4a y5a 0 d_throwna (upd d_useda y1a.toNatClampNeg (vp_nar .boolean 1)) d_usedBya _ _ ls hl hP hD hS hm
            try dsimp only at hm
            refine lv_iload hx hb d_D_several_279 (lv_at hl 4 rfl) ?_
            cases hm
            refine W.widen (k := 0) (n := 0) (Nat.le_of_ble_eq_true rfl) (Nat.le_of_ble_eq_true rfl) ?_
            exact W.iret hx hb hr (fun t ht hW => ⟨⟨_, (), rfl, rfl, by rw [ht]; exact hP, va_K.moved hW.alike hK, hD⟩, hS.F ht⟩) hS.2.2 d_D_several_281
          · replace hm := if_t c9 hm
            refine lv_iconst (v := 0) hx hb d_D_several_234 (by decide) ?_
            cases hm
            refine W.widen (k := 0) (n := 0) (Nat.le_of_ble_eq_true rfl) (Nat.le_of_ble_eq_true rfl) ?_
            exact W.iret hx hb hr (fun t ht hW => ⟨⟨_, (), rfl, rfl, by rw [ht]; exact hP, va_K.moved hW.alike hK, hD⟩, hS.F ht⟩) hS.2.2 d_D_several_235
        · replace hm := if_t c9 hm
          refine lv_iconst (v := 0) hx hb d_D_several_42 (by decide) ?_
          cases hm
          refine W.widen (k := 0) (n := 0) (Nat.le_of_ble_eq_true rfl) (Nat.le_of_ble_eq_true rfl) ?_
          exact W.iret hx hb hr (fun t ht hW => ⟨⟨_, (), rfl, rfl, by rw [ht]; exact hP, va_K.moved hW.alike hK, hD⟩, hS.F ht⟩) hS.2.2 d_D_several_43
      · replace hm := if_f c9 hm
        refine lv_iconst (v := 1) hx hb d_D_several_29 (by decide) ?_
        refine lv_goto (tgt := 34) hx hb d_D_several_30 (by decide) ?_
        refine lv_iconst (v := 1) hx hb d_D_several_34 (by decide) ?_
        refine lv_iconst (v := 1) hx hb d_D_several_35 (by decide) ?_
        obtain ⟨⟨r24, u25⟩, hc, hm⟩ := bd hm
        try dsimp only at hm
        have hPc := hP.sub (ws' := [(dq, .inr (5, [.int d_thrown, .int d_today, .int d_cut, .int d_aging, .int d_saleFrom, .int d_pieces, .int d_orders, .ref dq8, .ref dq9, .ref dq10, .ref dq11, .ref dq12, .ref dq13, .ref dq14, .ref dq15, .int d_ran, .int d_sum, .ref dq18, .ref dq19, .ref dq20])), (dq8, .inl (cI, 40, .inl d_piece)), (dq9, .inl (cI, 40, .inl d_order)), (dq10, .inl (cI, 10, .inl d_came)), (dq11, .inl (cI, 100, .inl d_worth)), (dq12, .inl (cZ, 10, .inl d_used)), (dq13, .inl (cI, 10, .inl d_usedBy)), (dq14, .inl (cI, 10, .inl d_reservedFor)), (dq15, .inl (cI, 10, .inl d_reservedTo)), (dq18, .inl (cI, 10, .inl d_pieceDual)), (dq19, .inl (cI, 10, .inl d_orderDual)), (dq20, .inl (cJ, 11264, .inr (.inl d_table)))]) [0, 1, 2, 3, 4, 5, 6, 7, 8, 9, 10, 11] rfl
        have hDc := hD.sub (ws' := [(dq, .inr (5, [.int d_thrown, .int d_today, .int d_cut, .int d_aging, .int d_saleFrom, .int d_pieces, .int d_orders, .ref dq8, .ref dq9, .ref dq10, .ref dq11, .ref dq12, .ref dq13, .ref dq14, .ref dq15, .int d_ran, .int d_sum, .ref dq18, .ref dq19, .ref dq20])), (dq8, .inl (cI, 40, .inl d_piece)), (dq9, .inl (cI, 40, .inl d_order)), (dq10, .inl (cI, 10, .inl d_came)), (dq11, .inl (cI, 100, .inl d_worth)), (dq12, .inl (cZ, 10, .inl d_used)), (dq13, .inl (cI, 10, .inl d_usedBy)), (dq14, .inl (cI, 10, .inl d_reservedFor)), (dq15, .inl (cI, 10, .inl d_reservedTo)), (dq18, .inl (cI, 10, .inl d_pieceDual)), (dq19, .inl (cI, 10, .inl d_orderDual)), (dq20, .inl (cJ, 11264, .inr (.inl d_table)))]) [0, 1, 2, 3, 4, 5, 6, 7, 8, 9, 10, 11] (by decide) rfl
        have hFc := va_free (wc := [(dq, .inr (5, [.int d_thrown, .int d_today, .int d_cut, .int d_aging, .int d_saleFrom, .int d_pieces, .int d_orders, .ref dq8, .ref dq9, .ref dq10, .ref dq11, .ref dq12, .ref dq13, .ref dq14, .ref dq15, .int d_ran, .int d_sum, .ref dq18, .ref dq19, .ref dq20])), (dq8, .inl (cI, 40, .inl d_piece)), (dq9, .inl (cI, 40, .inl d_order)), (dq10, .inl (cI, 10, .inl d_came)), (dq11, .inl (cI, 100, .inl d_worth)), (dq12, .inl (cZ, 10, .inl d_used)), (dq13, .inl (cI, 10, .inl d_usedBy)), (dq14, .inl (cI, 10, .inl d_reservedFor)), (dq15, .inl (cI, 10, .inl d_reservedTo)), (dq18, .inl (cI, 10, .inl d_pieceDual)), (dq19, .inl (cI, 10, .inl d_orderDual)), (dq20, .inl (cJ, 11264, .inr (.inl d_table)))]) hD hS hA [0, 1, 2, 3, 4, 5, 6, 7, 8, 9, 10, 11] rfl
        refine va_calli (va_runV (As := [.int r1, .int 1, .int 1, .int 1]) (rest := []) ⟨hx, hb, hml, hown, hts⟩ (c_D_goes l dC dI cI cZ cJ dq dq8 dq9 dq10 dq11 dq12 dq13 dq14 dq15 dq18 dq19 dq20 s.heap.size d_thrown d_today d_cut d_aging d_saleFrom d_pieces d_orders d_piece d_order d_came d_worth d_used d_usedBy d_reservedFor d_reservedTo d_ran d_sum d_pieceDual d_orderDual d_table r1 1 1 1 N (r24, u25) hc) (cwV 4 hts (gV (w0 670 rfl) (w0 671 rfl) (w0 18 rfl) (w0 33 rfl) (w0 672 rfl)) rfl rfl rfl q_D_goes ⟨Nat.le_of_ble_eq_true rfl, Nat.le_of_ble_eq_true rfl⟩) (wr_preV hK hPc hDc hN 5 0 (R_D, F_D, 20) rfl rfl) rfl rfl hl.1 rfl (lv_room (Nat.le_of_ble_eq_true rfl)) d_D_several_36 ⟨Nat.le_of_ble_eq_true rfl, Nat.le_of_ble_eq_true rfl⟩) hS (fun q _ h => hFc q h) hFc (fun r9 u t H1 locs ht hvm hw hB hz1 hk1 hS => ?_)
        subst hw
        obtain ⟨hP1, hK1, hD1⟩ := hB
        rw [ht] at hP1
        obtain ⟨hP, hD⟩ := va_join (wr := []) (w1 := [(dq, .inr (5, [.int u25, .int d_today, .int d_cut, .int d_aging, .int d_saleFrom, .int d_pieces, .int d_orders, .ref dq8, .ref dq9, .ref dq10, .ref dq11, .ref dq12, .ref dq13, .ref dq14, .ref dq15, .int d_ran, .int d_sum, .ref dq18, .ref dq19, .ref dq20])), (dq8, .inl (cI, 40, .inl d_piece)), (dq9, .inl (cI, 40, .inl d_order)), (dq10, .inl (cI, 10, .inl d_came)), (dq11, .inl (cI, 100, .inl d_worth)), (dq12, .inl (cZ, 10, .inl d_used)), (dq13, .inl (cI, 10, .inl d_usedBy)), (dq14, .inl (cI, 10, .inl d_reservedFor)), (dq15, .inl (cI, 10, .inl d_reservedTo)), (dq18, .inl (cI, 10, .inl d_pieceDual)), (dq19, .inl (cI, 10, .inl d_orderDual)), (dq20, .inl (cJ, 11264, .inr (.inl d_table)))]) hP hD [0, 1, 2, 3, 4, 5, 6, 7, 8, 9, 10, 11] [] rfl rfl (by decide) (by decide) hk1 hFc hP1 hD1
        generalize H1 = H at hP hS ⊢
        have hP : va_P (dC, dI) classes [(dq, .inr (5, [.int u25, .int d_today, .int d_cut, .int d_aging, .int d_saleFrom, .int d_pieces, .int d_orders, .ref dq8, .ref dq9, .ref dq10, .ref dq11, .ref dq12, .ref dq13, .ref dq14, .ref dq15, .int d_ran, .int d_sum, .ref dq18, .ref dq19, .ref dq20])), (dq8, .inl (cI, 40, .inl d_piece)), (dq9, .inl (cI, 40, .inl d_order)), (dq10, .inl (cI, 10, .inl d_came)), (dq11, .inl (cI, 100, .inl d_worth)), (dq12, .inl (cZ, 10, .inl d_used)), (dq13, .inl (cI, 10, .inl d_usedBy)), (dq14, .inl (cI, 10, .inl d_reservedFor)), (dq15, .inl (cI, 10, .inl d_reservedTo)), (dq18, .inl (cI, 10, .inl d_pieceDual)), (dq19, .inl (cI, 10, .inl d_orderDual)), (dq20, .inl (cJ, 11264, .inr (.inl d_table)))] H := hP
        have hD : va_D A [(dq, .inr (5, [.int u25, .int d_today, .int d_cut, .int d_aging, .int d_saleFrom, .int d_pieces, .int d_orders, .ref dq8, .ref dq9, .ref dq10, .ref dq11, .ref dq12, .ref dq13, .ref dq14, .ref dq15, .int d_ran, .int d_sum, .ref dq18, .ref dq19, .ref dq20])), (dq8, .inl (cI, 40, .inl d_piece)), (dq9, .inl (cI, 40, .inl d_order)), (dq10, .inl (cI, 10, .inl d_came)), (dq11, .inl (cI, 100, .inl d_worth)), (dq12, .inl (cZ, 10, .inl d_used)), (dq13, .inl (cI, 10, .inl d_usedBy)), (dq14, .inl (cI, 10, .inl d_reservedFor)), (dq15, .inl (cI, 10, .inl d_reservedTo)), (dq18, .inl (cI, 10, .inl d_pieceDual)), (dq19, .inl (cI, 10, .inl d_orderDual)), (dq20, .inl (cJ, 11264, .inr (.inl d_table)))] := hD
        clear hP1 hD1 hPc hDc hFc hk1 hz1
        refine lv_if_ne (tgt := 44) hx hb d_D_several_39 (by decide) (fun c9 => ?_) (fun c9 => ?_)
        · replace hm := if_f c9 hm
          refine lv_iconst (v := 0) hx hb d_D_several_44 (by decide) ?_
          refine lv_istore_n (lv' := [(3, .int 0), (2, .int r1), (0, .ref dq), (1, .int x1)]) hx hb d_D_several_45 rfl hl (by decide) rfl (fun ls hl => ?_)
          refine lv_iconst (v := 0) hx hb d_D_several_46 (by decide) ?_
          refine lv_istore (lv' := [(4, .int 0), (3, .int 0), (2, .int r1), (0, .ref dq), (1, .int x1)]) hx hb d_D_several_47 hl (by decide) rfl (fun ls hl => ?_)
          refine lv_iconst (v := 0) hx hb d_D_several_49 (by decide) ?_
          refine lv_istore (lv' := [(5, .int 0), (4, .int 0), (3, .int 0), (2, .int r1), (0, .ref dq), (1, .int x1)]) hx hb d_D_several_50 hl (by decide) rfl (fun ls hl => ?_)
          refine lv_iconst (v := 1) hx hb d_D_several_52 (by decide) ?_
          refine lv_istore (lv' := [(6, .int 1), (5, .int 0), (4, .int 0), (3, .int 0), (2, .int r1), (0, .ref dq), (1, .int x1)]) hx hb d_D_several_53 hl (by decide) rfl (fun ls hl => ?_)
          have key55 : ∀ (K : Int32 → Int32 → Int32 → Int32 → Int32 → Int32 → Int32 → (Nat → Int32) → (Nat → Int32) → Option (Int32 × Int32 × (Nat → Int32) × (Nat → Int32))) (_ : ∀ (y1a : Int32) (y2a : Int32) (y3a : Int32) (y4a : Int32) (y5a : Int32) (y6a : Int32) (d_throwna : Int32) (d_useda : Nat → Int32) (d_usedBya : Nat → Int32) (H : Heap) (locs : List Loc) (ls : Array Slot), lv_has ls 12 [(0, .ref dq), (1, .int y1a), (2, .int y2a), (3, .int y3a), (4, .int y4a), (5, .int y5a), (6, .int y6a)] → va_P (dC, dI) classes [(dq, .inr (5, [.int d_throwna, .int d_today, .int d_cut, .int d_aging, .int d_saleFrom, .int d_pieces, .int d_orders, .ref dq8, .ref dq9, .ref dq10, .ref dq11, .ref dq12, .ref dq13, .ref dq14, .ref dq15, .int d_ran, .int d_sum, .ref dq18, .ref dq19, .ref dq20])), (dq8, .inl (cI, 40, .inl d_piece)), (dq9, .inl (cI, 40, .inl d_order)), (dq10, .inl (cI, 10, .inl d_came)), (dq11, .inl (cI, 100, .inl d_worth)), (dq12, .inl (cZ, 10, .inl d_useda)), (dq13, .inl (cI, 10, .inl d_usedBya)), (dq14, .inl (cI, 10, .inl d_reservedFor)), (dq15, .inl (cI, 10, .inl d_reservedTo)), (dq18, .inl (cI, 10, .inl d_pieceDual)), (dq19, .inl (cI, 10, .inl d_orderDual)), (dq20, .inl (cJ, 11264, .inr (.inl d_table)))] H → va_D A [(dq, .inr (5, [.int d_throwna, .int d_today, .int d_cut, .int d_aging, .int d_saleFrom, .int d_pieces, .int d_orders, .ref dq8, .ref dq9, .ref dq10, .ref dq11, .ref dq12, .ref dq13, .ref dq14, .ref dq15, .int d_ran, .int d_sum, .ref dq18, .ref dq19, .ref dq20])), (dq8, .inl (cI, 40, .inl d_piece)), (dq9, .inl (cI, 40, .inl d_order)), (dq10, .inl (cI, 10, .inl d_came)), (dq11, .inl (cI, 100, .inl d_worth)), (dq12, .inl (cZ, 10, .inl d_useda)), (dq13, .inl (cI, 10, .inl d_usedBya)), (dq14, .inl (cI, 10, .inl d_reservedFor)), (dq15, .inl (cI, 10, .inl d_reservedTo)), (dq18, .inl (cI, 10, .inl d_pieceDual)), (dq19, .inl (cI, 10, .inl d_orderDual)), (dq20, .inl (cJ, 11264, .inr (.inl d_table)))] → va_S A s.heap H locs → K y1a y2a y3a y4a y5a y6a d_throwna d_useda d_usedBya = some res → W p l e (headSpec w_D_several ({ frames := 3, cells := 0, slots := 0, locals := 67 } : Room)).room s m ([.ref dq, .int x1] : List Value).toArray below meth c H locs 0 0 (MQ below (va_Qi (fun (x : Int32) (_ : Unit) => res.1 = x) (fun _ t => va_P (dC, dI) classes [(dq, .inr (5, [.int res.2.1, .int d_today, .int d_cut, .int d_aging, .int d_saleFrom, .int d_pieces, .int d_orders, .ref dq8, .ref dq9, .ref dq10, .ref dq11, .ref dq12, .ref dq13, .ref dq14, .ref dq15, .int d_ran, .int d_sum, .ref dq18, .ref dq19, .ref dq20])), (dq8, .inl (cI, 40, .inl d_piece)), (dq9, .inl (cI, 40, .inl d_order)), (dq10, .inl (cI, 10, .inl d_came)), (dq11, .inl (cI, 100, .inl d_worth)), (dq12, .inl (cZ, 10, .inl res.2.2.1)), (dq13, .inl (cI, 10, .inl res.2.2.2)), (dq14, .inl (cI, 10, .inl d_reservedFor)), (dq15, .inl (cI, 10, .inl d_reservedTo)), (dq18, .inl (cI, 10, .inl d_pieceDual)), (dq19, .inl (cI, 10, .inl d_orderDual)), (dq20, .inl (cJ, 11264, .inr (.inl d_table)))] t.heap ∧ va_K (dC, dI) classes [(cI, .int), (cZ, .boolean), (cJ, .long)] t ∧ va_D A [(dq, .inr (5, [.int res.2.1, .int d_today, .int d_cut, .int d_aging, .int d_saleFrom, .int d_pieces, .int d_orders, .ref dq8, .ref dq9, .ref dq10, .ref dq11, .ref dq12, .ref dq13, .ref dq14, .ref dq15, .int d_ran, .int d_sum, .ref dq18, .ref dq19, .ref dq20])), (dq8, .inl (cI, 40, .inl d_piece)), (dq9, .inl (cI, 40, .inl d_order)), (dq10, .inl (cI, 10, .inl d_came)), (dq11, .inl (cI, 100, .inl d_worth)), (dq12, .inl (cZ, 10, .inl res.2.2.1)), (dq13, .inl (cI, 10, .inl res.2.2.2)), (dq14, .inl (cI, 10, .inl d_reservedFor)), (dq15, .inl (cI, 10, .inl d_reservedTo)), (dq18, .inl (cI, 10, .inl d_pieceDual)), (dq19, .inl (cI, 10, .inl d_orderDual)), (dq20, .inl (cJ, 11264, .inr (.inl d_table)))]) A) ([.ref dq, .int x1] : List Value).toArray s 0 0 A) (F0 m 230 ls [])) (n : Nat) (y1a : Int32) (y2a : Int32) (y3a : Int32) (y4a : Int32) (y5a : Int32) (y6a : Int32) (d_throwna : Int32) (d_useda : Nat → Int32) (d_usedBya : Nat → Int32) (H : Heap) (locs : List Loc) (ls : Array Slot), lv_has ls 12 [(0, .ref dq), (1, .int y1a), (2, .int y2a), (3, .int y3a), (4, .int y4a), (5, .int y5a), (6, .int y6a)] → va_P (dC, dI) classes [(dq, .inr (5, [.int d_throwna, .int d_today, .int d_cut, .int d_aging, .int d_saleFrom, .int d_pieces, .int d_orders, .ref dq8, .ref dq9, .ref dq10, .ref dq11, .ref dq12, .ref dq13, .ref dq14, .ref dq15, .int d_ran, .int d_sum, .ref dq18, .ref dq19, .ref dq20])), (dq8, .inl (cI, 40, .inl d_piece)), (dq9, .inl (cI, 40, .inl d_order)), (dq10, .inl (cI, 10, .inl d_came)), (dq11, .inl (cI, 100, .inl d_worth)), (dq12, .inl (cZ, 10, .inl d_useda)), (dq13, .inl (cI, 10, .inl d_usedBya)), (dq14, .inl (cI, 10, .inl d_reservedFor)), (dq15, .inl (cI, 10, .inl d_reservedTo)), (dq18, .inl (cI, 10, .inl d_pieceDual)), (dq19, .inl (cI, 10, .inl d_orderDual)), (dq20, .inl (cJ, 11264, .inr (.inl d_table)))] H → va_D A [(dq, .inr (5, [.int d_throwna, .int d_today, .int d_cut, .int d_aging, .int d_saleFrom, .int d_pieces, .int d_orders, .ref dq8, .ref dq9, .ref dq10, .ref dq11, .ref dq12, .ref dq13, .ref dq14, .ref dq15, .int d_ran, .int d_sum, .ref dq18, .ref dq19, .ref dq20])), (dq8, .inl (cI, 40, .inl d_piece)), (dq9, .inl (cI, 40, .inl d_order)), (dq10, .inl (cI, 10, .inl d_came)), (dq11, .inl (cI, 100, .inl d_worth)), (dq12, .inl (cZ, 10, .inl d_useda)), (dq13, .inl (cI, 10, .inl d_usedBya)), (dq14, .inl (cI, 10, .inl d_reservedFor)), (dq15, .inl (cI, 10, .inl d_reservedTo)), (dq18, .inl (cI, 10, .inl d_pieceDual)), (dq19, .inl (cI, 10, .inl d_orderDual)), (dq20, .inl (cJ, 11264, .inr (.inl d_table)))] → va_S A s.heap H locs → L_D_several_55 N d_today d_cut d_aging d_pieces d_orders d_piece d_order d_came d_worth d_reservedFor d_reservedTo K n y1a y2a y3a y4a y5a y6a d_throwna d_useda d_usedBya = some res → W p l e (headSpec w_D_several ({ frames := 3, cells := 0, slots := 0, locals := 67 } : Room)).room s m ([.ref dq, .int x1] : List Value).toArray below meth c H locs 0 0 (MQ below (va_Qi (fun (x : Int32) (_ : Unit) => res.1 = x) (fun _ t => va_P (dC, dI) classes [(dq, .inr (5, [.int res.2.1, .int d_today, .int d_cut, .int d_aging, .int d_saleFrom, .int d_pieces, .int d_orders, .ref dq8, .ref dq9, .ref dq10, .ref dq11, .ref dq12, .ref dq13, .ref dq14, .ref dq15, .int d_ran, .int d_sum, .ref dq18, .ref dq19, .ref dq20])), (dq8, .inl (cI, 40, .inl d_piece)), (dq9, .inl (cI, 40, .inl d_order)), (dq10, .inl (cI, 10, .inl d_came)), (dq11, .inl (cI, 100, .inl d_worth)), (dq12, .inl (cZ, 10, .inl res.2.2.1)), (dq13, .inl (cI, 10, .inl res.2.2.2)), (dq14, .inl (cI, 10, .inl d_reservedFor)), (dq15, .inl (cI, 10, .inl d_reservedTo)), (dq18, .inl (cI, 10, .inl d_pieceDual)), (dq19, .inl (cI, 10, .inl d_orderDual)), (dq20, .inl (cJ, 11264, .inr (.inl d_table)))] t.heap ∧ va_K (dC, dI) classes [(cI, .int), (cZ, .boolean), (cJ, .long)] t ∧ va_D A [(dq, .inr (5, [.int res.2.1, .int d_today, .int d_cut, .int d_aging, .int d_saleFrom, .int d_pieces, .int d_orders, .ref dq8, .ref dq9, .ref dq10, .ref dq11, .ref dq12, .ref dq13, .ref dq14, .ref dq15, .int d_ran, .int d_sum, .ref dq18, .ref dq19, .ref dq20])), (dq8, .inl (cI, 40, .inl d_piece)), (dq9, .inl (cI, 40, .inl d_order)), (dq10, .inl (cI, 10, .inl d_came)), (dq11, .inl (cI, 100, .inl d_worth)), (dq12, .inl (cZ, 10, .inl res.2.2.1)), (dq13, .inl (cI, 10, .inl res.2.2.2)), (dq14, .inl (cI, 10, .inl d_reservedFor)), (dq15, .inl (cI, 10, .inl d_reservedTo)), (dq18, .inl (cI, 10, .inl d_pieceDual)), (dq19, .inl (cI, 10, .inl d_orderDual)), (dq20, .inl (cJ, 11264, .inr (.inl d_table)))]) A) ([.ref dq, .int x1] : List Value).toArray s 0 0 A) (F0 m 55 ls []) := by
            intro K hK55 n
            induction n with
            | zero => intro y1a y2a y3a y4a y5a y6a d_throwna d_useda d_usedBya H locs ls hl hP hD hS hm; exact absurd hm (by simp [L_D_several_55])
            | succ n ih55 =>
              intro y1a y2a y3a y4a y5a y6a d_throwna d_useda d_usedBya H locs ls hl hP hD hS hm
              rw [L_D_several_55] at hm
              refine lv_iload hx hb d_D_several_55 (lv_at hl 6 rfl) ?_
              refine lv_sipush (v := 1024) hx hb d_D_several_57 (by decide) ?_
              refine lv_icmp_ge (tgt := 230) hx hb d_D_several_60 (by decide) (fun c9 => ?_) (fun c9 => ?_)
              · replace hm := if_t c9 hm
                have hl : lv_has ls 12 [(0, .ref dq), (1, .int y1a), (2, .int y2a), (3, .int y3a), (4, .int y4a), (5, .int y5a), (6, .int y6a)] := lv_sub hl [0, 1, 2, 3, 4, 5, 6] rfl
                exact hK55 y1a y2a y3a y4a y5a y6a d_throwna d_useda d_usedBya _ _ ls hl hP hD hS hm
              · replace hm := if_f c9 hm
                refine lv_iconst (v := 0) hx hb d_D_several_63 (by decide) ?_
                refine lv_istore (lv' := [(7, .int 0), (0, .ref dq), (1, .int y1a), (2, .int y2a), (3, .int y3a), (4, .int y4a), (5, .int y5a), (6, .int y6a)]) hx hb d_D_several_64 hl (by decide) rfl (fun ls hl => ?_)
                refine lv_iconst (v := 0) hx hb d_D_several_66 (by decide) ?_
                refine lv_istore (lv' := [(8, .int 0), (7, .int 0), (0, .ref dq), (1, .int y1a), (2, .int y2a), (3, .int y3a), (4, .int y4a), (5, .int y5a), (6, .int y6a)]) hx hb d_D_several_67 hl (by decide) rfl (fun ls hl => ?_)
                refine lv_iconst (v := 0) hx hb d_D_several_69 (by decide) ?_
                refine lv_istore (lv' := [(9, .int 0), (8, .int 0), (7, .int 0), (0, .ref dq), (1, .int y1a), (2, .int y2a), (3, .int y3a), (4, .int y4a), (5, .int y5a), (6, .int y6a)]) hx hb d_D_several_70 hl (by decide) rfl (fun ls hl => ?_)
                refine lv_iconst (v := 1) hx hb d_D_several_72 (by decide) ?_
                refine lv_istore (lv' := [(10, .int 1), (9, .int 0), (8, .int 0), (7, .int 0), (0, .ref dq), (1, .int y1a), (2, .int y2a), (3, .int y3a), (4, .int y4a), (5, .int y5a), (6, .int y6a)]) hx hb d_D_several_73 hl (by decide) rfl (fun ls hl => ?_)
                refine lv_iconst (v := 0) hx hb d_D_several_75 (by decide) ?_
                refine lv_istore (lv' := [(11, .int 0), (10, .int 1), (9, .int 0), (8, .int 0), (7, .int 0), (0, .ref dq), (1, .int y1a), (2, .int y2a), (3, .int y3a), (4, .int y4a), (5, .int y5a), (6, .int y6a)]) hx hb d_D_several_76 hl (by decide) rfl (fun ls hl => ?_)
                have key78 : ∀ (K : Int32 → Int32 → Int32 → Int32 → Int32 → Int32 → Int32 → Int32 → Int32 → Int32 → Int32 → Int32 → (Nat → Int32) → (Nat → Int32) → Option (Int32 × Int32 × (Nat → Int32) × (Nat → Int32))) (_ : ∀ (y1b : Int32) (y2b : Int32) (y3b : Int32) (y4b : Int32) (y5b : Int32) (y6b : Int32) (y7b : Int32) (y8b : Int32) (y9b : Int32) (y10b : Int32) (y11b : Int32) (d_thrownb : Int32) (d_usedb : Nat → Int32) (d_usedByb : Nat → Int32) (H : Heap) (locs : List Loc) (ls : Array Slot), lv_has ls 12 [(0, .ref dq), (1, .int y1b), (2, .int y2b), (3, .int y3b), (4, .int y4b), (5, .int y5b), (6, .int y6b), (7, .int y7b), (8, .int y8b), (9, .int y9b), (10, .int y10b), (11, .int y11b)] → va_P (dC, dI) classes [(dq, .inr (5, [.int d_thrownb, .int d_today, .int d_cut, .int d_aging, .int d_saleFrom, .int d_pieces, .int d_orders, .ref dq8, .ref dq9, .ref dq10, .ref dq11, .ref dq12, .ref dq13, .ref dq14, .ref dq15, .int d_ran, .int d_sum, .ref dq18, .ref dq19, .ref dq20])), (dq8, .inl (cI, 40, .inl d_piece)), (dq9, .inl (cI, 40, .inl d_order)), (dq10, .inl (cI, 10, .inl d_came)), (dq11, .inl (cI, 100, .inl d_worth)), (dq12, .inl (cZ, 10, .inl d_usedb)), (dq13, .inl (cI, 10, .inl d_usedByb)), (dq14, .inl (cI, 10, .inl d_reservedFor)), (dq15, .inl (cI, 10, .inl d_reservedTo)), (dq18, .inl (cI, 10, .inl d_pieceDual)), (dq19, .inl (cI, 10, .inl d_orderDual)), (dq20, .inl (cJ, 11264, .inr (.inl d_table)))] H → va_D A [(dq, .inr (5, [.int d_thrownb, .int d_today, .int d_cut, .int d_aging, .int d_saleFrom, .int d_pieces, .int d_orders, .ref dq8, .ref dq9, .ref dq10, .ref dq11, .ref dq12, .ref dq13, .ref dq14, .ref dq15, .int d_ran, .int d_sum, .ref dq18, .ref dq19, .ref dq20])), (dq8, .inl (cI, 40, .inl d_piece)), (dq9, .inl (cI, 40, .inl d_order)), (dq10, .inl (cI, 10, .inl d_came)), (dq11, .inl (cI, 100, .inl d_worth)), (dq12, .inl (cZ, 10, .inl d_usedb)), (dq13, .inl (cI, 10, .inl d_usedByb)), (dq14, .inl (cI, 10, .inl d_reservedFor)), (dq15, .inl (cI, 10, .inl d_reservedTo)), (dq18, .inl (cI, 10, .inl d_pieceDual)), (dq19, .inl (cI, 10, .inl d_orderDual)), (dq20, .inl (cJ, 11264, .inr (.inl d_table)))] → va_S A s.heap H locs → K y1b y2b y3b y4b y5b y6b y7b y8b y9b y10b y11b d_thrownb d_usedb d_usedByb = some res → W p l e (headSpec w_D_several ({ frames := 3, cells := 0, slots := 0, locals := 67 } : Room)).room s m ([.ref dq, .int x1] : List Value).toArray below meth c H locs 0 0 (MQ below (va_Qi (fun (x : Int32) (_ : Unit) => res.1 = x) (fun _ t => va_P (dC, dI) classes [(dq, .inr (5, [.int res.2.1, .int d_today, .int d_cut, .int d_aging, .int d_saleFrom, .int d_pieces, .int d_orders, .ref dq8, .ref dq9, .ref dq10, .ref dq11, .ref dq12, .ref dq13, .ref dq14, .ref dq15, .int d_ran, .int d_sum, .ref dq18, .ref dq19, .ref dq20])), (dq8, .inl (cI, 40, .inl d_piece)), (dq9, .inl (cI, 40, .inl d_order)), (dq10, .inl (cI, 10, .inl d_came)), (dq11, .inl (cI, 100, .inl d_worth)), (dq12, .inl (cZ, 10, .inl res.2.2.1)), (dq13, .inl (cI, 10, .inl res.2.2.2)), (dq14, .inl (cI, 10, .inl d_reservedFor)), (dq15, .inl (cI, 10, .inl d_reservedTo)), (dq18, .inl (cI, 10, .inl d_pieceDual)), (dq19, .inl (cI, 10, .inl d_orderDual)), (dq20, .inl (cJ, 11264, .inr (.inl d_table)))] t.heap ∧ va_K (dC, dI) classes [(cI, .int), (cZ, .boolean), (cJ, .long)] t ∧ va_D A [(dq, .inr (5, [.int res.2.1, .int d_today, .int d_cut, .int d_aging, .int d_saleFrom, .int d_pieces, .int d_orders, .ref dq8, .ref dq9, .ref dq10, .ref dq11, .ref dq12, .ref dq13, .ref dq14, .ref dq15, .int d_ran, .int d_sum, .ref dq18, .ref dq19, .ref dq20])), (dq8, .inl (cI, 40, .inl d_piece)), (dq9, .inl (cI, 40, .inl d_order)), (dq10, .inl (cI, 10, .inl d_came)), (dq11, .inl (cI, 100, .inl d_worth)), (dq12, .inl (cZ, 10, .inl res.2.2.1)), (dq13, .inl (cI, 10, .inl res.2.2.2)), (dq14, .inl (cI, 10, .inl d_reservedFor)), (dq15, .inl (cI, 10, .inl d_reservedTo)), (dq18, .inl (cI, 10, .inl d_pieceDual)), (dq19, .inl (cI, 10, .inl d_orderDual)), (dq20, .inl (cJ, 11264, .inr (.inl d_table)))]) A) ([.ref dq, .int x1] : List Value).toArray s 0 0 A) (F0 m 160 ls [])) (n : Nat) (y1b : Int32) (y2b : Int32) (y3b : Int32) (y4b : Int32) (y5b : Int32) (y6b : Int32) (y7b : Int32) (y8b : Int32) (y9b : Int32) (y10b : Int32) (y11b : Int32) (d_thrownb : Int32) (d_usedb : Nat → Int32) (d_usedByb : Nat → Int32) (H : Heap) (locs : List Loc) (ls : Array Slot), lv_has ls 12 [(0, .ref dq), (1, .int y1b), (2, .int y2b), (3, .int y3b), (4, .int y4b), (5, .int y5b), (6, .int y6b), (7, .int y7b), (8, .int y8b), (9, .int y9b), (10, .int y10b), (11, .int y11b)] → va_P (dC, dI) classes [(dq, .inr (5, [.int d_thrownb, .int d_today, .int d_cut, .int d_aging, .int d_saleFrom, .int d_pieces, .int d_orders, .ref dq8, .ref dq9, .ref dq10, .ref dq11, .ref dq12, .ref dq13, .ref dq14, .ref dq15, .int d_ran, .int d_sum, .ref dq18, .ref dq19, .ref dq20])), (dq8, .inl (cI, 40, .inl d_piece)), (dq9, .inl (cI, 40, .inl d_order)), (dq10, .inl (cI, 10, .inl d_came)), (dq11, .inl (cI, 100, .inl d_worth)), (dq12, .inl (cZ, 10, .inl d_usedb)), (dq13, .inl (cI, 10, .inl d_usedByb)), (dq14, .inl (cI, 10, .inl d_reservedFor)), (dq15, .inl (cI, 10, .inl d_reservedTo)), (dq18, .inl (cI, 10, .inl d_pieceDual)), (dq19, .inl (cI, 10, .inl d_orderDual)), (dq20, .inl (cJ, 11264, .inr (.inl d_table)))] H → va_D A [(dq, .inr (5, [.int d_thrownb, .int d_today, .int d_cut, .int d_aging, .int d_saleFrom, .int d_pieces, .int d_orders, .ref dq8, .ref dq9, .ref dq10, .ref dq11, .ref dq12, .ref dq13, .ref dq14, .ref dq15, .int d_ran, .int d_sum, .ref dq18, .ref dq19, .ref dq20])), (dq8, .inl (cI, 40, .inl d_piece)), (dq9, .inl (cI, 40, .inl d_order)), (dq10, .inl (cI, 10, .inl d_came)), (dq11, .inl (cI, 100, .inl d_worth)), (dq12, .inl (cZ, 10, .inl d_usedb)), (dq13, .inl (cI, 10, .inl d_usedByb)), (dq14, .inl (cI, 10, .inl d_reservedFor)), (dq15, .inl (cI, 10, .inl d_reservedTo)), (dq18, .inl (cI, 10, .inl d_pieceDual)), (dq19, .inl (cI, 10, .inl d_orderDual)), (dq20, .inl (cJ, 11264, .inr (.inl d_table)))] → va_S A s.heap H locs → L_D_several_78 N d_today d_cut d_aging d_pieces d_orders d_piece d_order d_came d_worth d_reservedFor d_reservedTo K n y1b y2b y3b y4b y5b y6b y7b y8b y9b y10b y11b d_thrownb d_usedb d_usedByb = some res → W p l e (headSpec w_D_several ({ frames := 3, cells := 0, slots := 0, locals := 67 } : Room)).room s m ([.ref dq, .int x1] : List Value).toArray below meth c H locs 0 0 (MQ below (va_Qi (fun (x : Int32) (_ : Unit) => res.1 = x) (fun _ t => va_P (dC, dI) classes [(dq, .inr (5, [.int res.2.1, .int d_today, .int d_cut, .int d_aging, .int d_saleFrom, .int d_pieces, .int d_orders, .ref dq8, .ref dq9, .ref dq10, .ref dq11, .ref dq12, .ref dq13, .ref dq14, .ref dq15, .int d_ran, .int d_sum, .ref dq18, .ref dq19, .ref dq20])), (dq8, .inl (cI, 40, .inl d_piece)), (dq9, .inl (cI, 40, .inl d_order)), (dq10, .inl (cI, 10, .inl d_came)), (dq11, .inl (cI, 100, .inl d_worth)), (dq12, .inl (cZ, 10, .inl res.2.2.1)), (dq13, .inl (cI, 10, .inl res.2.2.2)), (dq14, .inl (cI, 10, .inl d_reservedFor)), (dq15, .inl (cI, 10, .inl d_reservedTo)), (dq18, .inl (cI, 10, .inl d_pieceDual)), (dq19, .inl (cI, 10, .inl d_orderDual)), (dq20, .inl (cJ, 11264, .inr (.inl d_table)))] t.heap ∧ va_K (dC, dI) classes [(cI, .int), (cZ, .boolean), (cJ, .long)] t ∧ va_D A [(dq, .inr (5, [.int res.2.1, .int d_today, .int d_cut, .int d_aging, .int d_saleFrom, .int d_pieces, .int d_orders, .ref dq8, .ref dq9, .ref dq10, .ref dq11, .ref dq12, .ref dq13, .ref dq14, .ref dq15, .int d_ran, .int d_sum, .ref dq18, .ref dq19, .ref dq20])), (dq8, .inl (cI, 40, .inl d_piece)), (dq9, .inl (cI, 40, .inl d_order)), (dq10, .inl (cI, 10, .inl d_came)), (dq11, .inl (cI, 100, .inl d_worth)), (dq12, .inl (cZ, 10, .inl res.2.2.1)), (dq13, .inl (cI, 10, .inl res.2.2.2)), (dq14, .inl (cI, 10, .inl d_reservedFor)), (dq15, .inl (cI, 10, .inl d_reservedTo)), (dq18, .inl (cI, 10, .inl d_pieceDual)), (dq19, .inl (cI, 10, .inl d_orderDual)), (dq20, .inl (cJ, 11264, .inr (.inl d_table)))]) A) ([.ref dq, .int x1] : List Value).toArray s 0 0 A) (F0 m 78 ls []) := by
                  intro K hK78 n
                  induction n with
                  | zero => intro y1b y2b y3b y4b y5b y6b y7b y8b y9b y10b y11b d_thrownb d_usedb d_usedByb H locs ls hl hP hD hS hm; exact absurd hm (by simp [L_D_several_78])
                  | succ n ih78 =>
                    intro y1b y2b y3b y4b y5b y6b y7b y8b y9b y10b y11b d_thrownb d_usedb d_usedByb H locs ls hl hP hD hS hm
                    rw [L_D_several_78] at hm
                    refine lv_iload hx hb d_D_several_78 (lv_at hl 11 rfl) ?_
                    refine lv_bipush (v := 10) hx hb d_D_several_80 (by decide) ?_
                    refine lv_icmp_ge (tgt := 160) hx hb d_D_several_82 (by decide) (fun c9 => ?_) (fun c9 => ?_)
                    · replace hm := if_t c9 hm
                      have hl : lv_has ls 12 [(0, .ref dq), (1, .int y1b), (2, .int y2b), (3, .int y3b), (4, .int y4b), (5, .int y5b), (6, .int y6b), (7, .int y7b), (8, .int y8b), (9, .int y9b), (10, .int y10b), (11, .int y11b)] := lv_sub hl [0, 1, 2, 3, 4, 5, 6, 7, 8, 9, 10, 11] rfl
                      exact hK78 y1b y2b y3b y4b y5b y6b y7b y8b y9b y10b y11b d_thrownb d_usedb d_usedByb _ _ ls hl hP hD hS hm
                    · replace hm := if_f c9 hm
                      refine lv_iload hx hb d_D_several_85 (lv_at hl 6 rfl) ?_
                      refine lv_iload hx hb d_D_several_87 (lv_at hl 11 rfl) ?_
                      refine lv_ishr hx hb d_D_several_89 ?_
                      refine lv_iconst (v := 1) hx hb d_D_several_90 (by decide) ?_
                      refine lv_iand hx hb d_D_several_91 ?_
                      refine lv_if_ne (tgt := 98) hx hb d_D_several_92 (by decide) (fun c9 => ?_) (fun c9 => ?_)
                      · replace hm := if_f c9 hm
                        refine lv_iload hx hb d_D_several_98 (lv_at hl 11 rfl) ?_
                        refine lv_aload_n hx hb d_D_several_100 rfl (lv_at hl 0 rfl) ?_
                        refine va_get (D := (dC, dI)) (ci := 5) (v := .int d_orders) (C := R_D) (T := F_D) (N := 20) hx hb hts hk1 hown hK hP 0 rfl rfl 6 (by decide) hk0 (fun _ h9 => h9) rfl d_D_several_101 ?_
                        refine lv_icmp_ge (tgt := 117) hx hb d_D_several_104 (by decide) (fun c9 => ?_) (fun c9 => ?_)
                        · replace hm := if_t c9 hm
                          refine lv_iconst (v := 0) hx hb d_D_several_117 (by decide) ?_
                          refine lv_istore (lv' := [(10, .int 0), (0, .ref dq), (1, .int y1b), (2, .int y2b), (3, .int y3b), (4, .int y4b), (5, .int y5b), (6, .int y6b), (7, .int y7b), (8, .int y8b), (9, .int y9b), (11, .int y11b)]) hx hb d_D_several_118 hl (by decide) rfl (fun ls hl => ?_)
                          refine lv_goto (tgt := 154) hx hb d_D_several_120 (by decide) ?_
                          refine lv_iinc (v := (y11b + 1)) (lv' := [(11, .int (y11b + 1)), (10, .int 0), (0, .ref dq), (1, .int y1b), (2, .int y2b), (3, .int y3b), (4, .int y4b), (5, .int y5b), (6, .int y6b), (7, .int y7b), (8, .int y8b), (9, .int y9b)]) hx hb d_D_several_154 hl (k := 11) rfl rfl (by decide) rfl (fun ls hl => ?_)
                          refine lv_goto (tgt := 78) hx hb d_D_several_157 (by decide) ?_
                          have hl : lv_has ls 12 [(0, .ref dq), (1, .int y1b), (2, .int y2b), (3, .int y3b), (4, .int y4b), (5, .int y5b), (6, .int y6b), (7, .int y7b), (8, .int y8b), (9, .int y9b), (10, .int 0), (11, .int (y11b + 1))] := lv_sub hl [2, 3, 4, 5, 6, 7, 8, 9, 10, 11, 1, 0] rfl
                          exact ih78 y1b y2b y3b y4b y5b y6b y7b y8b y9b 0 (y11b + 1) d_thrownb d_usedb d_usedByb _ _ ls hl hP hD hS hm
                        · replace hm := if_f c9 hm
                          refine lv_aload_n hx hb d_D_several_107 rfl (lv_at hl 0 rfl) ?_
                          refine lv_iload_n hx hb d_D_several_108 rfl (lv_at hl 1 rfl) ?_
                          refine lv_iload hx hb d_D_several_109 (lv_at hl 11 rfl) ?_
                          obtain ⟨r26, hc, hm⟩ := bd hm
                          try dsimp only at hm
                          refine vp_callSi (W.runV (As := [.int y1b, .int y11b]) (rest := []) ⟨hx, hb, hml, hown, hts⟩ (c_D_can l dC dI cI cZ cJ dq dq8 dq9 dq10 dq11 dq12 dq13 dq14 dq15 dq18 dq19 dq20 d_thrownb d_today d_cut d_aging d_saleFrom d_pieces d_orders d_piece d_order d_came d_worth d_usedb d_usedByb d_reservedFor d_reservedTo d_ran d_sum d_pieceDual d_orderDual d_table y1b y11b N r26 hc) (cwV 2 hts (gV (w0 713 rfl) (w0 714 rfl) (w0 24 rfl) (w0 33 rfl) (w0 715 rfl)) rfl rfl rfl q_D_can ⟨Nat.le_of_ble_eq_true rfl, Nat.le_of_ble_eq_true rfl⟩) (ro_preV [0, 1, 2, 3, 4, 5, 6, 7, 8, 9, 10, 11] rfl hK hP hN 5 0 (R_D, F_D, 20) rfl rfl) rfl rfl hl.1 rfl (lv_room (Nat.le_of_ble_eq_true rfl)) d_D_several_111 ⟨Nat.le_of_ble_eq_true rfl, Nat.le_of_ble_eq_true rfl⟩) (fun r9 hr9 => ?_)
                          subst hr9
                          refine lv_if_ne (tgt := 123) hx hb d_D_several_114 (by decide) (fun c9 => ?_) (fun c9 => ?_)
                          · replace hm := if_f c9 hm
                            refine lv_iinc (v := (y7b + 1)) (lv' := [(7, .int (y7b + 1)), (0, .ref dq), (1, .int y1b), (2, .int y2b), (3, .int y3b), (4, .int y4b), (5, .int y5b), (6, .int y6b), (8, .int y8b), (9, .int y9b), (10, .int y10b), (11, .int y11b)]) hx hb d_D_several_123 hl (k := 7) rfl rfl (by decide) rfl (fun ls hl => ?_)
                            refine lv_iload hx hb d_D_several_126 (lv_at hl 8 rfl) ?_
                            refine lv_aload_n hx hb d_D_several_128 rfl (lv_at hl 1 rfl) ?_
                            refine va_get (D := (dC, dI)) (ci := 5) (v := .ref dq9) (C := R_D) (T := F_D) (N := 20) hx hb hts hk1 hown hK hP 0 rfl rfl 8 (by decide) hk2 (fun _ h9 => h9) rfl d_D_several_129 ?_
                            refine lv_iconst (v := 4) hx hb d_D_several_132 (by decide) ?_
                            refine lv_iload hx hb d_D_several_133 (lv_at hl 11 rfl) ?_
                            refine lv_imul hx hb d_D_several_135 ?_
                            refine lv_iconst (v := 2) hx hb d_D_several_136 (by decide) ?_
                            refine lv_iadd hx hb d_D_several_137 ?_
                            obtain ⟨h9, hm⟩ := gd hm
                            refine va_iald hx hb hK hP 2 0 rfl rfl h9 d_D_several_138 ?_
                            refine lv_iadd hx hb d_D_several_139 ?_
                            refine lv_istore (lv' := [(8, .int (y8b + (d_order ((4 * y11b) + 2).toNatClampNeg))), (7, .int (y7b + 1)), (0, .ref dq), (1, .int y1b), (2, .int y2b), (3, .int y3b), (4, .int y4b), (5, .int y5b), (6, .int y6b), (9, .int y9b), (10, .int y10b), (11, .int y11b)]) hx hb d_D_several_140 hl (by decide) rfl (fun ls hl => ?_)
                            refine lv_iload hx hb d_D_several_142 (lv_at hl 9 rfl) ?_
                            refine lv_aload_n hx hb d_D_several_144 rfl (lv_at hl 2 rfl) ?_
                            refine lv_iload_n hx hb d_D_several_145 rfl (lv_at hl 3 rfl) ?_
                            refine lv_iload hx hb d_D_several_146 (lv_at hl 11 rfl) ?_
                            obtain ⟨r27, hc, hm⟩ := bd hm
                            try dsimp only at hm
                            refine vp_callSi (W.runV (As := [.int y1b, .int y11b]) (rest := [.int y9b]) ⟨hx, hb, hml, hown, hts⟩ (c_D_netOf l dC dI cI cZ cJ dq dq8 dq9 dq10 dq11 dq12 dq13 dq14 dq15 dq18 dq19 dq20 d_thrownb d_today d_cut d_aging d_saleFrom d_pieces d_orders d_piece d_order d_came d_worth d_usedb d_usedByb d_reservedFor d_reservedTo d_ran d_sum d_pieceDual d_orderDual d_table y1b y11b N r27 hc) (cwV 2 hts (gV (w0 703 rfl) (w0 704 rfl) (w0 22 rfl) (w0 33 rfl) (w0 705 rfl)) rfl rfl rfl q_D_netOf ⟨Nat.le_of_ble_eq_true rfl, Nat.le_of_ble_eq_true rfl⟩) (ro_preV [0, 1, 2, 3, 4, 5, 6, 7, 8, 9, 10, 11] rfl hK hP hN 5 0 (R_D, F_D, 20) rfl rfl) rfl rfl hl.1 rfl (lv_room (Nat.le_of_ble_eq_true rfl)) d_D_several_148 ⟨Nat.le_of_ble_eq_true rfl, Nat.le_of_ble_eq_true rfl⟩) (fun r9 hr9 => ?_)
                            subst hr9
                            refine lv_iadd hx hb d_D_several_151 ?_
                            refine lv_istore (lv' := [(9, .int (y9b + r27)), (8, .int (y8b + (d_order ((4 * y11b) + 2).toNatClampNeg))), (7, .int (y7b + 1)), (0, .ref dq), (1, .int y1b), (2, .int y2b), (3, .int y3b), (4, .int y4b), (5, .int y5b), (6, .int y6b), (10, .int y10b), (11, .int y11b)]) hx hb d_D_several_152 hl (by decide) rfl (fun ls hl => ?_)
                            refine lv_iinc (v := (y11b + 1)) (lv' := [(11, .int (y11b + 1)), (9, .int (y9b + r27)), (8, .int (y8b + (d_order ((4 * y11b) + 2).toNatClampNeg))), (7, .int (y7b + 1)), (0, .ref dq), (1, .int y1b), (2, .int y2b), (3, .int y3b), (4, .int y4b), (5, .int y5b), (6, .int y6b), (10, .int y10b)]) hx hb d_D_several_154 hl (k := 11) rfl rfl (by decide) rfl (fun ls hl => ?_)
                            refine lv_goto (tgt := 78) hx hb d_D_several_157 (by decide) ?_
                            have hl : lv_has ls 12 [(0, .ref dq), (1, .int y1b), (2, .int y2b), (3, .int y3b), (4, .int y4b), (5, .int y5b), (6, .int y6b), (7, .int (y7b + 1)), (8, .int (y8b + (d_order ((4 * y11b) + 2).toNatClampNeg))), (9, .int (y9b + r27)), (10, .int y10b), (11, .int (y11b + 1))] := lv_sub hl [4, 5, 6, 7, 8, 9, 10, 3, 2, 1, 11, 0] rfl
                            exact ih78 y1b y2b y3b y4b y5b y6b (y7b + 1) (y8b + (d_order ((4 * y11b) + 2).toNatClampNeg)) (y9b + r27) y10b (y11b + 1) d_thrownb d_usedb d_usedByb _ _ ls hl hP hD hS hm
                          · replace hm := if_t c9 hm
                            refine lv_iconst (v := 0) hx hb d_D_several_117 (by decide) ?_
                            refine lv_istore (lv' := [(10, .int 0), (0, .ref dq), (1, .int y1b), (2, .int y2b), (3, .int y3b), (4, .int y4b), (5, .int y5b), (6, .int y6b), (7, .int y7b), (8, .int y8b), (9, .int y9b), (11, .int y11b)]) hx hb d_D_several_118 hl (by decide) rfl (fun ls hl => ?_)
                            refine lv_goto (tgt := 154) hx hb d_D_several_120 (by decide) ?_
                            refine lv_iinc (v := (y11b + 1)) (lv' := [(11, .int (y11b + 1)), (10, .int 0), (0, .ref dq), (1, .int y1b), (2, .int y2b), (3, .int y3b), (4, .int y4b), (5, .int y5b), (6, .int y6b), (7, .int y7b), (8, .int y8b), (9, .int y9b)]) hx hb d_D_several_154 hl (k := 11) rfl rfl (by decide) rfl (fun ls hl => ?_)
                            refine lv_goto (tgt := 78) hx hb d_D_several_157 (by decide) ?_
                            have hl : lv_has ls 12 [(0, .ref dq), (1, .int y1b), (2, .int y2b), (3, .int y3b), (4, .int y4b), (5, .int y5b), (6, .int y6b), (7, .int y7b), (8, .int y8b), (9, .int y9b), (10, .int 0), (11, .int (y11b + 1))] := lv_sub hl [2, 3, 4, 5, 6, 7, 8, 9, 10, 11, 1, 0] rfl
                            exact ih78 y1b y2b y3b y4b y5b y6b y7b y8b y9b 0 (y11b + 1) d_thrownb d_usedb d_usedByb _ _ ls hl hP hD hS hm
                      · replace hm := if_t c9 hm
                        refine lv_goto (tgt := 154) hx hb d_D_several_95 (by decide) ?_
                        refine lv_iinc (v := (y11b + 1)) (lv' := [(11, .int (y11b + 1)), (0, .ref dq), (1, .int y1b), (2, .int y2b), (3, .int y3b), (4, .int y4b), (5, .int y5b), (6, .int y6b), (7, .int y7b), (8, .int y8b), (9, .int y9b), (10, .int y10b)]) hx hb d_D_several_154 hl (k := 11) rfl rfl (by decide) rfl (fun ls hl => ?_)
                        refine lv_goto (tgt := 78) hx hb d_D_several_157 (by decide) ?_
                        have hl : lv_has ls 12 [(0, .ref dq), (1, .int y1b), (2, .int y2b), (3, .int y3b), (4, .int y4b), (5, .int y5b), (6, .int y6b), (7, .int y7b), (8, .int y8b), (9, .int y9b), (10, .int y10b), (11, .int (y11b + 1))] := lv_sub hl [1, 2, 3, 4, 5, 6, 7, 8, 9, 10, 11, 0] rfl
                        exact ih78 y1b y2b y3b y4b y5b y6b y7b y8b y9b y10b (y11b + 1) d_thrownb d_usedb d_usedByb _ _ ls hl hP hD hS hm
                have hl : lv_has ls 12 [(0, .ref dq), (1, .int y1a), (2, .int y2a), (3, .int y3a), (4, .int y4a), (5, .int y5a), (6, .int y6a), (7, .int 0), (8, .int 0), (9, .int 0), (10, .int 1), (11, .int 0)] := lv_sub hl [5, 6, 7, 8, 9, 10, 11, 4, 3, 2, 1, 0] rfl
                refine key78 _ (fun y1b y2b y3b y4b y5b y6b y7b y8b y9b y10b y11b d_thrownb d_usedb d_usedByb H locs ls hl hP hD hS hm => ?_) N y1a y2a y3a y4a y5a y6a 0 0 0 1 0 d_throwna d_useda d_usedBya _ _ ls hl hP hD hS hm
                try dsimp only at hm
                refine lv_iload hx hb d_D_several_160 (lv_at hl 10 rfl) ?_
                refine lv_if_eq (tgt := 224) hx hb d_D_several_162 (by decide) (fun c9 => ?_) (fun c9 => ?_)
                · replace hm := if_t c9 hm
                  refine lv_iinc (v := (y6b + 1)) (lv' := [(6, .int (y6b + 1)), (0, .ref dq), (1, .int y1b), (2, .int y2b), (3, .int y3b), (4, .int y4b), (5, .int y5b), (7, .int y7b), (8, .int y8b), (9, .int y9b), (10, .int y10b), (11, .int y11b)]) hx hb d_D_several_224 hl (k := 6) rfl rfl (by decide) rfl (fun ls hl => ?_)
                  refine lv_goto (tgt := 55) hx hb d_D_several_227 (by decide) ?_
                  have hl : lv_has ls 12 [(0, .ref dq), (1, .int y1b), (2, .int y2b), (3, .int y3b), (4, .int y4b), (5, .int y5b), (6, .int (y6b + 1))] := lv_sub hl [1, 2, 3, 4, 5, 6, 0] rfl
                  exact ih55 y1b y2b y3b y4b y5b (y6b + 1) d_thrownb d_usedb d_usedByb _ _ ls hl hP hD hS hm
                · replace hm := if_f c9 hm
                  refine lv_iload hx hb d_D_several_165 (lv_at hl 7 rfl) ?_
                  refine lv_iconst (v := 5) hx hb d_D_several_167 (by decide) ?_
                  refine lv_icmp_gt (tgt := 224) hx hb d_D_several_168 (by decide) (fun c9 => ?_) (fun c9 => ?_)
                  · replace hm := if_t c9 hm
                    refine lv_iinc (v := (y6b + 1)) (lv' := [(6, .int (y6b + 1)), (0, .ref dq), (1, .int y1b), (2, .int y2b), (3, .int y3b), (4, .int y4b), (5, .int y5b), (7, .int y7b), (8, .int y8b), (9, .int y9b), (10, .int y10b), (11, .int y11b)]) hx hb d_D_several_224 hl (k := 6) rfl rfl (by decide) rfl (fun ls hl => ?_)
                    refine lv_goto (tgt := 55) hx hb d_D_several_227 (by decide) ?_
                    have hl : lv_has ls 12 [(0, .ref dq), (1, .int y1b), (2, .int y2b), (3, .int y3b), (4, .int y4b), (5, .int y5b), (6, .int (y6b + 1))] := lv_sub hl [1, 2, 3, 4, 5, 6, 0] rfl
                    exact ih55 y1b y2b y3b y4b y5b (y6b + 1) d_thrownb d_usedb d_usedByb _ _ ls hl hP hD hS hm
                  · replace hm := if_f c9 hm
                    refine lv_iload hx hb d_D_several_171 (lv_at hl 8 rfl) ?_
                    refine lv_aload_n hx hb d_D_several_173 rfl (lv_at hl 0 rfl) ?_
                    refine va_get (D := (dC, dI)) (ci := 5) (v := .ref dq8) (C := R_D) (T := F_D) (N := 20) hx hb hts hk1 hown hK hP 0 rfl rfl 7 (by decide) hk3 (fun _ h9 => h9) rfl d_D_several_174 ?_
                    refine lv_iconst (v := 4) hx hb d_D_several_177 (by decide) ?_
                    refine lv_iload_n hx hb d_D_several_178 rfl (lv_at hl 1 rfl) ?_
                    refine lv_imul hx hb d_D_several_179 ?_
                    refine lv_iconst (v := 2) hx hb d_D_several_180 (by decide) ?_
                    refine lv_iadd hx hb d_D_several_181 ?_
                    obtain ⟨h9, hm⟩ := gd hm
                    refine va_iald hx hb hK hP 1 0 rfl rfl h9 d_D_several_182 ?_
                    refine lv_icmp_le (tgt := 189) hx hb d_D_several_183 (by decide) (fun c9 => ?_) (fun c9 => ?_)
                    · replace hm := if_t c9 hm
                      refine lv_iload hx hb d_D_several_189 (lv_at hl 7 rfl) ?_
                      refine lv_iload hx hb d_D_several_191 (lv_at hl 4 rfl) ?_
                      refine lv_icmp_lt (tgt := 224) hx hb d_D_several_193 (by decide) (fun c9 => ?_) (fun c9 => ?_)
                      · replace hm := if_t c9 hm
                        refine lv_iinc (v := (y6b + 1)) (lv' := [(6, .int (y6b + 1)), (0, .ref dq), (1, .int y1b), (2, .int y2b), (3, .int y3b), (4, .int y4b), (5, .int y5b), (7, .int y7b), (8, .int y8b), (9, .int y9b), (10, .int y10b), (11, .int y11b)]) hx hb d_D_several_224 hl (k := 6) rfl rfl (by decide) rfl (fun ls hl => ?_)
                        refine lv_goto (tgt := 55) hx hb d_D_several_227 (by decide) ?_
                        have hl : lv_has ls 12 [(0, .ref dq), (1, .int y1b), (2, .int y2b), (3, .int y3b), (4, .int y4b), (5, .int y5b), (6, .int (y6b + 1))] := lv_sub hl [1, 2, 3, 4, 5, 6, 0] rfl
                        exact ih55 y1b y2b y3b y4b y5b (y6b + 1) d_thrownb d_usedb d_usedByb _ _ ls hl hP hD hS hm
                      · replace hm := if_f c9 hm
                        refine lv_iload hx hb d_D_several_196 (lv_at hl 7 rfl) ?_
                        refine lv_iload hx hb d_D_several_198 (lv_at hl 4 rfl) ?_
                        refine lv_icmp_ne (tgt := 213) hx hb d_D_several_200 (by decide) (fun c9 => ?_) (fun c9 => ?_)
                        · replace hm := if_f c9 hm
                          refine lv_iload hx hb d_D_several_213 (lv_at hl 6 rfl) ?_
                          refine lv_istore_n (lv' := [(3, .int y6b), (0, .ref dq), (1, .int y1b), (2, .int y2b), (4, .int y4b), (5, .int y5b), (6, .int y6b), (7, .int y7b), (8, .int y8b), (9, .int y9b), (10, .int y10b), (11, .int y11b)]) hx hb d_D_several_215 rfl hl (by decide) rfl (fun ls hl => ?_)
                          refine lv_iload hx hb d_D_several_216 (lv_at hl 7 rfl) ?_
                          refine lv_istore (lv' := [(4, .int y7b), (3, .int y6b), (0, .ref dq), (1, .int y1b), (2, .int y2b), (5, .int y5b), (6, .int y6b), (7, .int y7b), (8, .int y8b), (9, .int y9b), (10, .int y10b), (11, .int y11b)]) hx hb d_D_several_218 hl (by decide) rfl (fun ls hl => ?_)
                          refine lv_iload hx hb d_D_several_220 (lv_at hl 9 rfl) ?_
                          refine lv_istore (lv' := [(5, .int y9b), (4, .int y7b), (3, .int y6b), (0, .ref dq), (1, .int y1b), (2, .int y2b), (6, .int y6b), (7, .int y7b), (8, .int y8b), (9, .int y9b), (10, .int y10b), (11, .int y11b)]) hx hb d_D_several_222 hl (by decide) rfl (fun ls hl => ?_)
                          refine lv_iinc (v := (y6b + 1)) (lv' := [(6, .int (y6b + 1)), (5, .int y9b), (4, .int y7b), (3, .int y6b), (0, .ref dq), (1, .int y1b), (2, .int y2b), (7, .int y7b), (8, .int y8b), (9, .int y9b), (10, .int y10b), (11, .int y11b)]) hx hb d_D_several_224 hl (k := 6) rfl rfl (by decide) rfl (fun ls hl => ?_)
                          refine lv_goto (tgt := 55) hx hb d_D_several_227 (by decide) ?_
                          have hl : lv_has ls 12 [(0, .ref dq), (1, .int y1b), (2, .int y2b), (3, .int y6b), (4, .int y7b), (5, .int y9b), (6, .int (y6b + 1))] := lv_sub hl [4, 5, 6, 3, 2, 1, 0] rfl
                          exact ih55 y1b y2b y6b y7b y9b (y6b + 1) d_thrownb d_usedb d_usedByb _ _ ls hl hP hD hS hm
                        · replace hm := if_t c9 hm
                          refine lv_iload hx hb d_D_several_203 (lv_at hl 9 rfl) ?_
                          refine lv_iload hx hb d_D_several_205 (lv_at hl 5 rfl) ?_
                          refine lv_icmp_gt (tgt := 213) hx hb d_D_several_207 (by decide) (fun c9 => ?_) (fun c9 => ?_)
                          · replace hm := if_t c9 hm
                            refine lv_iload hx hb d_D_several_213 (lv_at hl 6 rfl) ?_
                            refine lv_istore_n (lv' := [(3, .int y6b), (0, .ref dq), (1, .int y1b), (2, .int y2b), (4, .int y4b), (5, .int y5b), (6, .int y6b), (7, .int y7b), (8, .int y8b), (9, .int y9b), (10, .int y10b), (11, .int y11b)]) hx hb d_D_several_215 rfl hl (by decide) rfl (fun ls hl => ?_)
                            refine lv_iload hx hb d_D_several_216 (lv_at hl 7 rfl) ?_
                            refine lv_istore (lv' := [(4, .int y7b), (3, .int y6b), (0, .ref dq), (1, .int y1b), (2, .int y2b), (5, .int y5b), (6, .int y6b), (7, .int y7b), (8, .int y8b), (9, .int y9b), (10, .int y10b), (11, .int y11b)]) hx hb d_D_several_218 hl (by decide) rfl (fun ls hl => ?_)
                            refine lv_iload hx hb d_D_several_220 (lv_at hl 9 rfl) ?_
                            refine lv_istore (lv' := [(5, .int y9b), (4, .int y7b), (3, .int y6b), (0, .ref dq), (1, .int y1b), (2, .int y2b), (6, .int y6b), (7, .int y7b), (8, .int y8b), (9, .int y9b), (10, .int y10b), (11, .int y11b)]) hx hb d_D_several_222 hl (by decide) rfl (fun ls hl => ?_)
                            refine lv_iinc (v := (y6b + 1)) (lv' := [(6, .int (y6b + 1)), (5, .int y9b), (4, .int y7b), (3, .int y6b), (0, .ref dq), (1, .int y1b), (2, .int y2b), (7, .int y7b), (8, .int y8b), (9, .int y9b), (10, .int y10b), (11, .int y11b)]) hx hb d_D_several_224 hl (k := 6) rfl rfl (by decide) rfl (fun ls hl => ?_)
                            refine lv_goto (tgt := 55) hx hb d_D_several_227 (by decide) ?_
                            have hl : lv_has ls 12 [(0, .ref dq), (1, .int y1b), (2, .int y2b), (3, .int y6b), (4, .int y7b), (5, .int y9b), (6, .int (y6b + 1))] := lv_sub hl [4, 5, 6, 3, 2, 1, 0] rfl
                            exact ih55 y1b y2b y6b y7b y9b (y6b + 1) d_thrownb d_usedb d_usedByb _ _ ls hl hP hD hS hm
                          · replace hm := if_f c9 hm
                            refine lv_goto (tgt := 224) hx hb d_D_several_210 (by decide) ?_
                            refine lv_iinc (v := (y6b + 1)) (lv' := [(6, .int (y6b + 1)), (0, .ref dq), (1, .int y1b), (2, .int y2b), (3, .int y3b), (4, .int y4b), (5, .int y5b), (7, .int y7b), (8, .int y8b), (9, .int y9b), (10, .int y10b), (11, .int y11b)]) hx hb d_D_several_224 hl (k := 6) rfl rfl (by decide) rfl (fun ls hl => ?_)
                            refine lv_goto (tgt := 55) hx hb d_D_several_227 (by decide) ?_
                            have hl : lv_has ls 12 [(0, .ref dq), (1, .int y1b), (2, .int y2b), (3, .int y3b), (4, .int y4b), (5, .int y5b), (6, .int (y6b + 1))] := lv_sub hl [1, 2, 3, 4, 5, 6, 0] rfl
                            exact ih55 y1b y2b y3b y4b y5b (y6b + 1) d_thrownb d_usedb d_usedByb _ _ ls hl hP hD hS hm
                    · replace hm := if_f c9 hm
                      refine lv_goto (tgt := 224) hx hb d_D_several_186 (by decide) ?_
                      refine lv_iinc (v := (y6b + 1)) (lv' := [(6, .int (y6b + 1)), (0, .ref dq), (1, .int y1b), (2, .int y2b), (3, .int y3b), (4, .int y4b), (5, .int y5b), (7, .int y7b), (8, .int y8b), (9, .int y9b), (10, .int y10b), (11, .int y11b)]) hx hb d_D_several_224 hl (k := 6) rfl rfl (by decide) rfl (fun ls hl => ?_)
                      refine lv_goto (tgt := 55) hx hb d_D_several_227 (by decide) ?_
                      have hl : lv_has ls 12 [(0, .ref dq), (1, .int y1b), (2, .int y2b), (3, .int y3b), (4, .int y4b), (5, .int y5b), (6, .int (y6b + 1))] := lv_sub hl [1, 2, 3, 4, 5, 6, 0] rfl
                      exact ih55 y1b y2b y3b y4b y5b (y6b + 1) d_thrownb d_usedb d_usedByb _ _ ls hl hP hD hS hm
          have hl : lv_has ls 12 [(0, .ref dq), (1, .int x1), (2, .int r1), (3, .int 0), (4, .int 0), (5, .int 0), (6, .int 1)] := lv_sub hl [5, 6, 4, 3, 2, 1, 0] rfl
          refine key55 _ (fun y1a y2a y3a y4a y5a y6a d_throwna d_useda d_usedBya H locs ls hl hP hD hS hm => ?_) N x1 r1 0 0 0 1 u25 d_used d_usedBy _ _ ls hl hP hD hS hm
          try dsimp only at hm
          refine lv_iload_n hx hb d_D_several_230 rfl (lv_at hl 3 rfl) ?_
          refine lv_if_ne (tgt := 236) hx hb d_D_several_231 (by decide) (fun c9 => ?_) (fun c9 => ?_)
          · replace hm := if_f c9 hm
            refine lv_aload_n hx hb d_D_several_236 rfl (lv_at hl 0 rfl) ?_
            refine va_get (D := (dC, dI)) (ci := 5) (v := .ref dq12) (C := R_D) (T := F_D) (N := 20) hx hb hts hk1 hown hK hP 0 rfl rfl 11 (by decide) hk4 (fun _ h9 => h9) rfl d_D_several_237 ?_
            refine lv_iload_n hx hb d_D_several_240 rfl (lv_at hl 1 rfl) ?_
            refine lv_iconst (v := 1) hx hb d_D_several_241 (by decide) ?_
            obtain ⟨h9, hm⟩ := gd hm
            refine va_zast hx hb hK hP hD hS 5 1 rfl rfl h9 d_D_several_242 (fun H locs hP hD hS => ?_)
            have hP : va_P (dC, dI) classes [(dq, .inr (5, [.int d_throwna, .int d_today, .int d_cut, .int d_aging, .int d_saleFrom, .int d_pieces, .int d_orders, .ref dq8, .ref dq9, .ref dq10, .ref dq11, .ref dq12, .ref dq13, .ref dq14, .ref dq15, .int d_ran, .int d_sum, .ref dq18, .ref dq19, .ref dq20])), (dq8, .inl (cI, 40, .inl d_piece)), (dq9, .inl (cI, 40, .inl d_order)), (dq10, .inl (cI, 10, .inl d_came)), (dq11, .inl (cI, 100, .inl d_worth)), (dq12, .inl (cZ, 10, .inl (upd d_useda y1a.toNatClampNeg (vp_nar .boolean 1)))), (dq13, .inl (cI, 10, .inl d_usedBya)), (dq14, .inl (cI, 10, .inl d_reservedFor)), (dq15, .inl (cI, 10, .inl d_reservedTo)), (dq18, .inl (cI, 10, .inl d_pieceDual)), (dq19, .inl (cI, 10, .inl d_orderDual)), (dq20, .inl (cJ, 11264, .inr (.inl d_table)))] H := hP
            have hD : va_D A [(dq, .inr (5, [.int d_throwna, .int d_today, .int d_cut, .int d_aging, .int d_saleFrom, .int d_pieces, .int d_orders, .ref dq8, .ref dq9, .ref dq10, .ref dq11, .ref dq12, .ref dq13, .ref dq14, .ref dq15, .int d_ran, .int d_sum, .ref dq18, .ref dq19, .ref dq20])), (dq8, .inl (cI, 40, .inl d_piece)), (dq9, .inl (cI, 40, .inl d_order)), (dq10, .inl (cI, 10, .inl d_came)), (dq11, .inl (cI, 100, .inl d_worth)), (dq12, .inl (cZ, 10, .inl (upd d_useda y1a.toNatClampNeg (vp_nar .boolean 1)))), (dq13, .inl (cI, 10, .inl d_usedBya)), (dq14, .inl (cI, 10, .inl d_reservedFor)), (dq15, .inl (cI, 10, .inl d_reservedTo)), (dq18, .inl (cI, 10, .inl d_pieceDual)), (dq19, .inl (cI, 10, .inl d_orderDual)), (dq20, .inl (cJ, 11264, .inr (.inl d_table)))] := hD
            refine lv_iconst (v := 0) hx hb d_D_several_243 (by decide) ?_
            refine lv_istore (lv' := [(6, .int 0), (0, .ref dq), (1, .int y1a), (2, .int y2a), (3, .int y3a), (4, .int y4a), (5, .int y5a)]) hx hb d_D_several_244 hl (by decide) rfl (fun ls hl => ?_)
            have key246 : ∀ (K : Int32 → Int32 → Int32 → Int32 → Int32 → Int32 → Int32 → (Nat → Int32) → (Nat → Int32) → Option (Int32 × Int32 × (Nat → Int32) × (Nat → Int32))) (_ : ∀ (y1c : Int32) (y2c : Int32) (y3c : Int32) (y4c : Int32) (y5c : Int32) (y6c : Int32) (d_thrownc : Int32) (d_usedc : Nat → Int32) (d_usedByc : Nat → Int32) (H : Heap) (locs : List Loc) (ls : Array Slot), lv_has ls 12 [(0, .ref dq), (1, .int y1c), (2, .int y2c), (3, .int y3c), (4, .int y4c), (5, .int y5c), (6, .int y6c)] → va_P (dC, dI) classes [(dq, .inr (5, [.int d_thrownc, .int d_today, .int d_cut, .int d_aging, .int d_saleFrom, .int d_pieces, .int d_orders, .ref dq8, .ref dq9, .ref dq10, .ref dq11, .ref dq12, .ref dq13, .ref dq14, .ref dq15, .int d_ran, .int d_sum, .ref dq18, .ref dq19, .ref dq20])), (dq8, .inl (cI, 40, .inl d_piece)), (dq9, .inl (cI, 40, .inl d_order)), (dq10, .inl (cI, 10, .inl d_came)), (dq11, .inl (cI, 100, .inl d_worth)), (dq12, .inl (cZ, 10, .inl d_usedc)), (dq13, .inl (cI, 10, .inl d_usedByc)), (dq14, .inl (cI, 10, .inl d_reservedFor)), (dq15, .inl (cI, 10, .inl d_reservedTo)), (dq18, .inl (cI, 10, .inl d_pieceDual)), (dq19, .inl (cI, 10, .inl d_orderDual)), (dq20, .inl (cJ, 11264, .inr (.inl d_table)))] H → va_D A [(dq, .inr (5, [.int d_thrownc, .int d_today, .int d_cut, .int d_aging, .int d_saleFrom, .int d_pieces, .int d_orders, .ref dq8, .ref dq9, .ref dq10, .ref dq11, .ref dq12, .ref dq13, .ref dq14, .ref dq15, .int d_ran, .int d_sum, .ref dq18, .ref dq19, .ref dq20])), (dq8, .inl (cI, 40, .inl d_piece)), (dq9, .inl (cI, 40, .inl d_order)), (dq10, .inl (cI, 10, .inl d_came)), (dq11, .inl (cI, 100, .inl d_worth)), (dq12, .inl (cZ, 10, .inl d_usedc)), (dq13, .inl (cI, 10, .inl d_usedByc)), (dq14, .inl (cI, 10, .inl d_reservedFor)), (dq15, .inl (cI, 10, .inl d_reservedTo)), (dq18, .inl (cI, 10, .inl d_pieceDual)), (dq19, .inl (cI, 10, .inl d_orderDual)), (dq20, .inl (cJ, 11264, .inr (.inl d_table)))] → va_S A s.heap H locs → K y1c y2c y3c y4c y5c y6c d_thrownc d_usedc d_usedByc = some res → W p l e (headSpec w_D_several ({ frames := 3, cells := 0, slots := 0, locals := 67 } : Room)).room s m ([.ref dq, .int x1] : List Value).toArray below meth c H locs 0 0 (MQ below (va_Qi (fun (x : Int32) (_ : Unit) => res.1 = x) (fun _ t => va_P (dC, dI) classes [(dq, .inr (5, [.int res.2.1, .int d_today, .int d_cut, .int d_aging, .int d_saleFrom, .int d_pieces, .int d_orders, .ref dq8, .ref dq9, .ref dq10, .ref dq11, .ref dq12, .ref dq13, .ref dq14, .ref dq15, .int d_ran, .int d_sum, .ref dq18, .ref dq19, .ref dq20])), (dq8, .inl (cI, 40, .inl d_piece)), (dq9, .inl (cI, 40, .inl d_order)), (dq10, .inl (cI, 10, .inl d_came)), (dq11, .inl (cI, 100, .inl d_worth)), (dq12, .inl (cZ, 10, .inl res.2.2.1)), (dq13, .inl (cI, 10, .inl res.2.2.2)), (dq14, .inl (cI, 10, .inl d_reservedFor)), (dq15, .inl (cI, 10, .inl d_reservedTo)), (dq18, .inl (cI, 10, .inl d_pieceDual)), (dq19, .inl (cI, 10, .inl d_orderDual)), (dq20, .inl (cJ, 11264, .inr (.inl d_table)))] t.heap ∧ va_K (dC, dI) classes [(cI, .int), (cZ, .boolean), (cJ, .long)] t ∧ va_D A [(dq, .inr (5, [.int res.2.1, .int d_today, .int d_cut, .int d_aging, .int d_saleFrom, .int d_pieces, .int d_orders, .ref dq8, .ref dq9, .ref dq10, .ref dq11, .ref dq12, .ref dq13, .ref dq14, .ref dq15, .int d_ran, .int d_sum, .ref dq18, .ref dq19, .ref dq20])), (dq8, .inl (cI, 40, .inl d_piece)), (dq9, .inl (cI, 40, .inl d_order)), (dq10, .inl (cI, 10, .inl d_came)), (dq11, .inl (cI, 100, .inl d_worth)), (dq12, .inl (cZ, 10, .inl res.2.2.1)), (dq13, .inl (cI, 10, .inl res.2.2.2)), (dq14, .inl (cI, 10, .inl d_reservedFor)), (dq15, .inl (cI, 10, .inl d_reservedTo)), (dq18, .inl (cI, 10, .inl d_pieceDual)), (dq19, .inl (cI, 10, .inl d_orderDual)), (dq20, .inl (cJ, 11264, .inr (.inl d_table)))]) A) ([.ref dq, .int x1] : List Value).toArray s 0 0 A) (F0 m 279 ls [])) (n : Nat) (y1c : Int32) (y2c : Int32) (y3c : Int32) (y4c : Int32) (y5c : Int32) (y6c : Int32) (d_thrownc : Int32) (d_usedc : Nat → Int32) (d_usedByc : Nat → Int32) (H : Heap) (locs : List Loc) (ls : Array Slot), lv_has ls 12 [(0, .ref dq), (1, .int y1c), (2, .int y2c), (3, .int y3c), (4, .int y4c), (5, .int y5c), (6, .int y6c)] → va_P (dC, dI) classes [(dq, .inr (5, [.int d_thrownc, .int d_today, .int d_cut, .int d_aging, .int d_saleFrom, .int d_pieces, .int d_orders, .ref dq8, .ref dq9, .ref dq10, .ref dq11, .ref dq12, .ref dq13, .ref dq14, .ref dq15, .int d_ran, .int d_sum, .ref dq18, .ref dq19, .ref dq20])), (dq8, .inl (cI, 40, .inl d_piece)), (dq9, .inl (cI, 40, .inl d_order)), (dq10, .inl (cI, 10, .inl d_came)), (dq11, .inl (cI, 100, .inl d_worth)), (dq12, .inl (cZ, 10, .inl d_usedc)), (dq13, .inl (cI, 10, .inl d_usedByc)), (dq14, .inl (cI, 10, .inl d_reservedFor)), (dq15, .inl (cI, 10, .inl d_reservedTo)), (dq18, .inl (cI, 10, .inl d_pieceDual)), (dq19, .inl (cI, 10, .inl d_orderDual)), (dq20, .inl (cJ, 11264, .inr (.inl d_table)))] H → va_D A [(dq, .inr (5, [.int d_thrownc, .int d_today, .int d_cut, .int d_aging, .int d_saleFrom, .int d_pieces, .int d_orders, .ref dq8, .ref dq9, .ref dq10, .ref dq11, .ref dq12, .ref dq13, .ref dq14, .ref dq15, .int d_ran, .int d_sum, .ref dq18, .ref dq19, .ref dq20])), (dq8, .inl (cI, 40, .inl d_piece)), (dq9, .inl (cI, 40, .inl d_order)), (dq10, .inl (cI, 10, .inl d_came)), (dq11, .inl (cI, 100, .inl d_worth)), (dq12, .inl (cZ, 10, .inl d_usedc)), (dq13, .inl (cI, 10, .inl d_usedByc)), (dq14, .inl (cI, 10, .inl d_reservedFor)), (dq15, .inl (cI, 10, .inl d_reservedTo)), (dq18, .inl (cI, 10, .inl d_pieceDual)), (dq19, .inl (cI, 10, .inl d_orderDual)), (dq20, .inl (cJ, 11264, .inr (.inl d_table)))] → va_S A s.heap H locs → L_D_several_246 N d_orders K n y1c y2c y3c y4c y5c y6c d_thrownc d_usedc d_usedByc = some res → W p l e (headSpec w_D_several ({ frames := 3, cells := 0, slots := 0, locals := 67 } : Room)).room s m ([.ref dq, .int x1] : List Value).toArray below meth c H locs 0 0 (MQ below (va_Qi (fun (x : Int32) (_ : Unit) => res.1 = x) (fun _ t => va_P (dC, dI) classes [(dq, .inr (5, [.int res.2.1, .int d_today, .int d_cut, .int d_aging, .int d_saleFrom, .int d_pieces, .int d_orders, .ref dq8, .ref dq9, .ref dq10, .ref dq11, .ref dq12, .ref dq13, .ref dq14, .ref dq15, .int d_ran, .int d_sum, .ref dq18, .ref dq19, .ref dq20])), (dq8, .inl (cI, 40, .inl d_piece)), (dq9, .inl (cI, 40, .inl d_order)), (dq10, .inl (cI, 10, .inl d_came)), (dq11, .inl (cI, 100, .inl d_worth)), (dq12, .inl (cZ, 10, .inl res.2.2.1)), (dq13, .inl (cI, 10, .inl res.2.2.2)), (dq14, .inl (cI, 10, .inl d_reservedFor)), (dq15, .inl (cI, 10, .inl d_reservedTo)), (dq18, .inl (cI, 10, .inl d_pieceDual)), (dq19, .inl (cI, 10, .inl d_orderDual)), (dq20, .inl (cJ, 11264, .inr (.inl d_table)))] t.heap ∧ va_K (dC, dI) classes [(cI, .int), (cZ, .boolean), (cJ, .long)] t ∧ va_D A [(dq, .inr (5, [.int res.2.1, .int d_today, .int d_cut, .int d_aging, .int d_saleFrom, .int d_pieces, .int d_orders, .ref dq8, .ref dq9, .ref dq10, .ref dq11, .ref dq12, .ref dq13, .ref dq14, .ref dq15, .int d_ran, .int d_sum, .ref dq18, .ref dq19, .ref dq20])), (dq8, .inl (cI, 40, .inl d_piece)), (dq9, .inl (cI, 40, .inl d_order)), (dq10, .inl (cI, 10, .inl d_came)), (dq11, .inl (cI, 100, .inl d_worth)), (dq12, .inl (cZ, 10, .inl res.2.2.1)), (dq13, .inl (cI, 10, .inl res.2.2.2)), (dq14, .inl (cI, 10, .inl d_reservedFor)), (dq15, .inl (cI, 10, .inl d_reservedTo)), (dq18, .inl (cI, 10, .inl d_pieceDual)), (dq19, .inl (cI, 10, .inl d_orderDual)), (dq20, .inl (cJ, 11264, .inr (.inl d_table)))]) A) ([.ref dq, .int x1] : List Value).toArray s 0 0 A) (F0 m 246 ls []) := by
              intro K hK246 n
              induction n with
              | zero => intro y1c y2c y3c y4c y5c y6c d_thrownc d_usedc d_usedByc H locs ls hl hP hD hS hm; exact absurd hm (by simp [L_D_several_246])
              | succ n ih246 =>
                intro y1c y2c y3c y4c y5c y6c d_thrownc d_usedc d_usedByc H locs ls hl hP hD hS hm
                rw [L_D_several_246] at hm
                refine lv_iload hx hb d_D_several_246 (lv_at hl 6 rfl) ?_
                refine lv_aload_n hx hb d_D_several_248 rfl (lv_at hl 0 rfl) ?_
                refine va_get (D := (dC, dI)) (ci := 5) (v := .int d_orders) (C := R_D) (T := F_D) (N := 20) hx hb hts hk1 hown hK hP 0 rfl rfl 6 (by decide) hk0 (fun _ h9 => h9) rfl d_D_several_249 ?_
                refine lv_icmp_ge (tgt := 279) hx hb d_D_several_252 (by decide) (fun c9 => ?_) (fun c9 => ?_)
                · replace hm := if_t c9 hm
                  have hl : lv_has ls 12 [(0, .ref dq), (1, .int y1c), (2, .int y2c), (3, .int y3c), (4, .int y4c), (5, .int y5c), (6, .int y6c)] := lv_sub hl [0, 1, 2, 3, 4, 5, 6] rfl
                  exact hK246 y1c y2c y3c y4c y5c y6c d_thrownc d_usedc d_usedByc _ _ ls hl hP hD hS hm
                · replace hm := if_f c9 hm
                  refine lv_iload_n hx hb d_D_several_255 rfl (lv_at hl 3 rfl) ?_
                  refine lv_iload hx hb d_D_several_256 (lv_at hl 6 rfl) ?_
                  refine lv_ishr hx hb d_D_several_258 ?_
                  refine lv_iconst (v := 1) hx hb d_D_several_259 (by decide) ?_
                  refine lv_iand hx hb d_D_several_260 ?_
                  refine lv_iconst (v := 1) hx hb d_D_several_261 (by decide) ?_
                  refine lv_icmp_ne (tgt := 273) hx hb d_D_several_262 (by decide) (fun c9 => ?_) (fun c9 => ?_)
                  · replace hm := if_f c9 hm
                    refine lv_iinc (v := (y6c + 1)) (lv' := [(6, .int (y6c + 1)), (0, .ref dq), (1, .int y1c), (2, .int y2c), (3, .int y3c), (4, .int y4c), (5, .int y5c)]) hx hb d_D_several_273 hl (k := 6) rfl rfl (by decide) rfl (fun ls hl => ?_)
                    refine lv_goto (tgt := 246) hx hb d_D_several_276 (by decide) ?_
                    have hl : lv_has ls 12 [(0, .ref dq), (1, .int y1c), (2, .int y2c), (3, .int y3c), (4, .int y4c), (5, .int y5c), (6, .int (y6c + 1))] := lv_sub hl [1, 2, 3, 4, 5, 6, 0] rfl
                    exact ih246 y1c y2c y3c y4c y5c (y6c + 1) d_thrownc d_usedc d_usedByc _ _ ls hl hP hD hS hm
                  · replace hm := if_t c9 hm
                    refine lv_aload_n hx hb d_D_several_265 rfl (lv_at hl 0 rfl) ?_
                    refine va_get (D := (dC, dI)) (ci := 5) (v := .ref dq13) (C := R_D) (T := F_D) (N := 20) hx hb hts hk1 hown hK hP 0 rfl rfl 12 (by decide) hk5 (fun _ h9 => h9) rfl d_D_several_266 ?_
                    refine lv_iload hx hb d_D_several_269 (lv_at hl 6 rfl) ?_
                    refine lv_iload_n hx hb d_D_several_271 rfl (lv_at hl 1 rfl) ?_
                    obtain ⟨h9, hm⟩ := gd hm
                    refine va_iast hx hb hK hP hD hS 6 0 rfl rfl h9 d_D_several_272 (fun H locs hP hD hS => ?_)
                    have hP : va_P (dC, dI) classes [(dq, .inr (5, [.int d_thrownc, .int d_today, .int d_cut, .int d_aging, .int d_saleFrom, .int d_pieces, .int d_orders, .ref dq8, .ref dq9, .ref dq10, .ref dq11, .ref dq12, .ref dq13, .ref dq14, .ref dq15, .int d_ran, .int d_sum, .ref dq18, .ref dq19, .ref dq20])), (dq8, .inl (cI, 40, .inl d_piece)), (dq9, .inl (cI, 40, .inl d_order)), (dq10, .inl (cI, 10, .inl d_came)), (dq11, .inl (cI, 100, .inl d_worth)), (dq12, .inl (cZ, 10, .inl d_usedc)), (dq13, .inl (cI, 10, .inl (upd d_usedByc y6c.toNatClampNeg y1c))), (dq14, .inl (cI, 10, .inl d_reservedFor)), (dq15, .inl (cI, 10, .inl d_reservedTo)), (dq18, .inl (cI, 10, .inl d_pieceDual)), (dq19, .inl (cI, 10, .inl d_orderDual)), (dq20, .inl (cJ, 11264, .inr (.inl d_table)))] H := hP
                    have hD : va_D A [(dq, .inr (5, [.int d_thrownc, .int d_today, .int d_cut, .int d_aging, .int d_saleFrom, .int d_pieces, .int d_orders, .ref dq8, .ref dq9, .ref dq10, .ref dq11, .ref dq12, .ref dq13, .ref dq14, .ref dq15, .int d_ran, .int d_sum, .ref dq18, .ref dq19, .ref dq20])), (dq8, .inl (cI, 40, .inl d_piece)), (dq9, .inl (cI, 40, .inl d_order)), (dq10, .inl (cI, 10, .inl d_came)), (dq11, .inl (cI, 100, .inl d_worth)), (dq12, .inl (cZ, 10, .inl d_usedc)), (dq13, .inl (cI, 10, .inl (upd d_usedByc y6c.toNatClampNeg y1c))), (dq14, .inl (cI, 10, .inl d_reservedFor)), (dq15, .inl (cI, 10, .inl d_reservedTo)), (dq18, .inl (cI, 10, .inl d_pieceDual)), (dq19, .inl (cI, 10, .inl d_orderDual)), (dq20, .inl (cJ, 11264, .inr (.inl d_table)))] := hD
                    refine lv_iinc (v := (y6c + 1)) (lv' := [(6, .int (y6c + 1)), (0, .ref dq), (1, .int y1c), (2, .int y2c), (3, .int y3c), (4, .int y4c), (5, .int y5c)]) hx hb d_D_several_273 hl (k := 6) rfl rfl (by decide) rfl (fun ls hl => ?_)
                    refine lv_goto (tgt := 246) hx hb d_D_several_276 (by decide) ?_
                    have hl : lv_has ls 12 [(0, .ref dq), (1, .int y1c), (2, .int y2c), (3, .int y3c), (4, .int y4c), (5, .int y5c), (6, .int (y6c + 1))] := lv_sub hl [1, 2, 3, 4, 5, 6, 0] rfl
                    exact ih246 y1c y2c y3c y4c y5c (y6c + 1) d_thrownc d_usedc (upd d_usedByc y6c.toNatClampNeg y1c) _ _ ls hl hP hD hS hm
            have hl : lv_has ls 12 [(0, .ref dq), (1, .int y1a), (2, .int y2a), (3, .int y3a), (4, .int y4a), (5, .int y5a), (6, .int 0)] := lv_sub hl [1, 2, 3, 4, 5, 6, 0] rfl
            refine key246 _ (fun y1c y2c y3c y4c y5c y6c d_thrownc d_usedc d_usedByc H locs ls hl hP hD hS hm => ?_) N y1a y2a y3a y4a y5a 0 d_throwna (upd d_useda y1a.toNatClampNeg (vp_nar .boolean 1)) d_usedBya _ _ ls hl hP hD hS hm
            try dsimp only at hm
            refine lv_iload hx hb d_D_several_279 (lv_at hl 4 rfl) ?_
            cases hm
            refine W.widen (k := 0) (n := 0) (Nat.le_of_ble_eq_true rfl) (Nat.le_of_ble_eq_true rfl) ?_
            exact W.iret hx hb hr (fun t ht hW => ⟨⟨_, (), rfl, rfl, by rw [ht]; exact hP, va_K.moved hW.alike hK, hD⟩, hS.F ht⟩) hS.2.2 d_D_several_281
          · replace hm := if_t c9 hm
            refine lv_iconst (v := 0) hx hb d_D_several_234 (by decide) ?_
            cases hm
            refine W.widen (k := 0) (n := 0) (Nat.le_of_ble_eq_true rfl) (Nat.le_of_ble_eq_true rfl) ?_
            exact W.iret hx hb hr (fun t ht hW => ⟨⟨_, (), rfl, rfl, by rw [ht]; exact hP, va_K.moved hW.alike hK, hD⟩, hS.F ht⟩) hS.2.2 d_D_several_235
        · replace hm := if_t c9 hm
          refine lv_iconst (v := 0) hx hb d_D_several_42 (by decide) ?_
          cases hm
          refine W.widen (k := 0) (n := 0) (Nat.le_of_ble_eq_true rfl) (Nat.le_of_ble_eq_true rfl) ?_
          exact W.iret hx hb hr (fun t ht hW => ⟨⟨_, (), rfl, rfl, by rw [ht]; exact hP, va_K.moved hW.alike hK, hD⟩, hS.F ht⟩) hS.2.2 d_D_several_43

def w_D_orderOf : List Cond := .code y_D_orderOf b_D_orderOf 5 (some .int) :: W0
theorem q_D_orderOf : y_D_orderOf.cls = R_D ∧ y_D_orderOf.cls ≠ "java/lang/invoke/MethodHandle" ∧ y_D_orderOf.cls ≠ "java/lang/invoke/VarHandle" ∧ (parseMethodDescriptor y_D_orderOf.desc).map (fun d => d.parameters.length) = some 2 := by decide +kernel
def L_D_orderOf_34 (N : Nat) (d_orders : Int32) (d_usedBy : Nat → Int32) (K : Int32 → Int32 → Int32 → Int32 → Int32 → Option (Int32 × Int32)) : Nat → Int32 → Int32 → Int32 → Int32 → Int32 → Option (Int32 × Int32)
  | 0, _, _, _, _, _ => none
  | n + 1, y1a, y2a, y3a, y4a, d_throwna =>
    (if d_orders ≤ y4a then
    K y1a y2a y3a y4a d_throwna
   else
    (if y4a < 0 ∨ 10 ≤ y4a.toNatClampNeg then none else
    (if (d_usedBy y4a.toNatClampNeg) = y1a then
      (if y3a = 0 then
        some (y4a, d_throwna)
       else
        L_D_orderOf_34 N d_orders d_usedBy K n y1a y2a (y3a + (-1)) (y4a + 1) d_throwna)
     else
      L_D_orderOf_34 N d_orders d_usedBy K n y1a y2a y3a (y4a + 1) d_throwna)))
def m_D_orderOf (N : Nat) (d_pieces : Int32) (d_orders : Int32) (d_usedBy : Nat → Int32) (x1 : Int32) (x2 : Int32) : Option (Int32 × Int32) :=
  ((m_D_isPiece d_pieces x1).bind fun r1 =>
  (if r1 = 0 then
    ((m_D_goes 0 1 1 1).bind fun (r2, u3) =>
      (if r2 = 0 then
        some (0, u3)
       else
        L_D_orderOf_34 N d_orders d_usedBy (fun y1a y2a y3a y4a d_throwna =>
          some ((-1), d_throwna)) N x1 x2 x2 0 u3))
   else
    (if x2 < 0 then
      ((m_D_goes 0 1 1 1).bind fun (r5, u6) =>
        (if r5 = 0 then
          some (0, u6)
         else
          L_D_orderOf_34 N d_orders d_usedBy (fun y1a y2a y3a y4a d_throwna =>
            some ((-1), d_throwna)) N x1 x2 x2 0 u6))
     else
      ((m_D_goes 1 1 1 1).bind fun (r8, u9) =>
        (if r8 = 0 then
          some (0, u9)
         else
          L_D_orderOf_34 N d_orders d_usedBy (fun y1a y2a y3a y4a d_throwna =>
            some ((-1), d_throwna)) N x1 x2 x2 0 u9)))))
set_option maxHeartbeats 4000000 in
set_option maxRecDepth 100000 in
theorem c_D_orderOf (l : Launch) (dC : Nat → ClassId) (dI : Nat → Nat → Nat) (cI cZ cJ : ClassId) (dq dq8 dq9 dq10 dq11 dq12 dq13 dq14 dq15 dq18 dq19 dq20 : Nat) (sz : Nat) (d_thrown : Int32) (d_today : Int32) (d_cut : Int32) (d_aging : Int32) (d_saleFrom : Int32) (d_pieces : Int32) (d_orders : Int32) (d_piece : Nat → Int32) (d_order : Nat → Int32) (d_came : Nat → Int32) (d_worth : Nat → Int32) (d_used : Nat → Int32) (d_usedBy : Nat → Int32) (d_reservedFor : Nat → Int32) (d_reservedTo : Nat → Int32) (d_ran : Int32) (d_sum : Int32) (d_pieceDual : Nat → Int32) (d_orderDual : Nat → Int32) (d_table : Nat → Int64) (x1 : Int32) (x2 : Int32) (N : Nat) (res : Int32 × Int32) (hm : m_D_orderOf N d_pieces d_orders d_usedBy x1 x2 = some res) : Met l y_D_orderOf w_D_orderOf ({ frames := 2, cells := 0, slots := 0, locals := 43 } : Room) (va_Pc [.ref dq, .int x1, .int x2] (fun U => U.heap.size = sz ∧ va_P (dC, dI) classes [(dq, .inr (5, [.int d_thrown, .int d_today, .int d_cut, .int d_aging, .int d_saleFrom, .int d_pieces, .int d_orders, .ref dq8, .ref dq9, .ref dq10, .ref dq11, .ref dq12, .ref dq13, .ref dq14, .ref dq15, .int d_ran, .int d_sum, .ref dq18, .ref dq19, .ref dq20])), (dq8, .inl (cI, 40, .inl d_piece)), (dq9, .inl (cI, 40, .inl d_order)), (dq10, .inl (cI, 10, .inl d_came)), (dq11, .inl (cI, 100, .inl d_worth)), (dq12, .inl (cZ, 10, .inl d_used)), (dq13, .inl (cI, 10, .inl d_usedBy)), (dq14, .inl (cI, 10, .inl d_reservedFor)), (dq15, .inl (cI, 10, .inl d_reservedTo)), (dq18, .inl (cI, 10, .inl d_pieceDual)), (dq19, .inl (cI, 10, .inl d_orderDual)), (dq20, .inl (cJ, 11264, .inr (.inl d_table)))] U.heap ∧ va_K (dC, dI) classes [(cI, .int), (cZ, .boolean), (cJ, .long)] U ∧ va_D (fun _ => True) [(dq, .inr (5, [.int d_thrown, .int d_today, .int d_cut, .int d_aging, .int d_saleFrom, .int d_pieces, .int d_orders, .ref dq8, .ref dq9, .ref dq10, .ref dq11, .ref dq12, .ref dq13, .ref dq14, .ref dq15, .int d_ran, .int d_sum, .ref dq18, .ref dq19, .ref dq20])), (dq8, .inl (cI, 40, .inl d_piece)), (dq9, .inl (cI, 40, .inl d_order)), (dq10, .inl (cI, 10, .inl d_came)), (dq11, .inl (cI, 100, .inl d_worth)), (dq12, .inl (cZ, 10, .inl d_used)), (dq13, .inl (cI, 10, .inl d_usedBy)), (dq14, .inl (cI, 10, .inl d_reservedFor)), (dq15, .inl (cI, 10, .inl d_reservedTo)), (dq18, .inl (cI, 10, .inl d_pieceDual)), (dq19, .inl (cI, 10, .inl d_orderDual)), (dq20, .inl (cJ, 11264, .inr (.inl d_table)))] ∧ nw U)) (va_Qi (fun (x : Int32) (_ : Unit) => res.1 = x) (fun _ t => va_P (dC, dI) classes [(dq, .inr (5, [.int res.2, .int d_today, .int d_cut, .int d_aging, .int d_saleFrom, .int d_pieces, .int d_orders, .ref dq8, .ref dq9, .ref dq10, .ref dq11, .ref dq12, .ref dq13, .ref dq14, .ref dq15, .int d_ran, .int d_sum, .ref dq18, .ref dq19, .ref dq20])), (dq8, .inl (cI, 40, .inl d_piece)), (dq9, .inl (cI, 40, .inl d_order)), (dq10, .inl (cI, 10, .inl d_came)), (dq11, .inl (cI, 100, .inl d_worth)), (dq12, .inl (cZ, 10, .inl d_used)), (dq13, .inl (cI, 10, .inl d_usedBy)), (dq14, .inl (cI, 10, .inl d_reservedFor)), (dq15, .inl (cI, 10, .inl d_reservedTo)), (dq18, .inl (cI, 10, .inl d_pieceDual)), (dq19, .inl (cI, 10, .inl d_orderDual)), (dq20, .inl (cJ, 11264, .inr (.inl d_table)))] t.heap ∧ va_K (dC, dI) classes [(cI, .int), (cZ, .boolean), (cJ, .long)] t ∧ va_D (va_A [(dq, .inr (5, [.int d_thrown, .int d_today, .int d_cut, .int d_aging, .int d_saleFrom, .int d_pieces, .int d_orders, .ref dq8, .ref dq9, .ref dq10, .ref dq11, .ref dq12, .ref dq13, .ref dq14, .ref dq15, .int d_ran, .int d_sum, .ref dq18, .ref dq19, .ref dq20])), (dq8, .inl (cI, 40, .inl d_piece)), (dq9, .inl (cI, 40, .inl d_order)), (dq10, .inl (cI, 10, .inl d_came)), (dq11, .inl (cI, 100, .inl d_worth)), (dq12, .inl (cZ, 10, .inl d_used)), (dq13, .inl (cI, 10, .inl d_usedBy)), (dq14, .inl (cI, 10, .inl d_reservedFor)), (dq15, .inl (cI, 10, .inl d_reservedTo)), (dq18, .inl (cI, 10, .inl d_pieceDual)), (dq19, .inl (cI, 10, .inl d_orderDual)), (dq20, .inl (cJ, 11264, .inr (.inl d_table)))] sz) [(dq, .inr (5, [.int res.2, .int d_today, .int d_cut, .int d_aging, .int d_saleFrom, .int d_pieces, .int d_orders, .ref dq8, .ref dq9, .ref dq10, .ref dq11, .ref dq12, .ref dq13, .ref dq14, .ref dq15, .int d_ran, .int d_sum, .ref dq18, .ref dq19, .ref dq20])), (dq8, .inl (cI, 40, .inl d_piece)), (dq9, .inl (cI, 40, .inl d_order)), (dq10, .inl (cI, 10, .inl d_came)), (dq11, .inl (cI, 100, .inl d_worth)), (dq12, .inl (cZ, 10, .inl d_used)), (dq13, .inl (cI, 10, .inl d_usedBy)), (dq14, .inl (cI, 10, .inl d_reservedFor)), (dq15, .inl (cI, 10, .inl d_reservedTo)), (dq18, .inl (cI, 10, .inl d_pieceDual)), (dq19, .inl (cI, 10, .inl d_orderDual)), (dq20, .inl (cJ, 11264, .inr (.inl d_table)))]) (va_A [(dq, .inr (5, [.int d_thrown, .int d_today, .int d_cut, .int d_aging, .int d_saleFrom, .int d_pieces, .int d_orders, .ref dq8, .ref dq9, .ref dq10, .ref dq11, .ref dq12, .ref dq13, .ref dq14, .ref dq15, .int d_ran, .int d_sum, .ref dq18, .ref dq19, .ref dq20])), (dq8, .inl (cI, 40, .inl d_piece)), (dq9, .inl (cI, 40, .inl d_order)), (dq10, .inl (cI, 10, .inl d_came)), (dq11, .inl (cI, 100, .inl d_worth)), (dq12, .inl (cZ, 10, .inl d_used)), (dq13, .inl (cI, 10, .inl d_usedBy)), (dq14, .inl (cI, 10, .inl d_reservedFor)), (dq15, .inl (cI, 10, .inl d_reservedTo)), (dq18, .inl (cI, 10, .inl d_pieceDual)), (dq19, .inl (cI, 10, .inl d_orderDual)), (dq20, .inl (cJ, 11264, .inr (.inl d_table)))] sz)) 0 0 (va_A [(dq, .inr (5, [.int d_thrown, .int d_today, .int d_cut, .int d_aging, .int d_saleFrom, .int d_pieces, .int d_orders, .ref dq8, .ref dq9, .ref dq10, .ref dq11, .ref dq12, .ref dq13, .ref dq14, .ref dq15, .int d_ran, .int d_sum, .ref dq18, .ref dq19, .ref dq20])), (dq8, .inl (cI, 40, .inl d_piece)), (dq9, .inl (cI, 40, .inl d_order)), (dq10, .inl (cI, 10, .inl d_came)), (dq11, .inl (cI, 100, .inl d_worth)), (dq12, .inl (cZ, 10, .inl d_used)), (dq13, .inl (cI, 10, .inl d_usedBy)), (dq14, .inl (cI, 10, .inl d_reservedFor)), (dq15, .inl (cI, 10, .inl d_reservedTo)), (dq18, .inl (cI, 10, .inl d_pieceDual)), (dq19, .inl (cI, 10, .inl d_orderDual)), (dq20, .inl (cJ, 11264, .inr (.inl d_table)))] sz) := by
  unfold m_D_orderOf at hm
  refine Met.ofW (cc := b_D_orderOf) (maxL := 5) (ret := (some .int)) (by decide) rfl ?_
  intro p e s m args below meth c s₁ B hml hv
  obtain ⟨rfl, hsz, hP, hK, hD0, hN⟩ := hv
  have hx := B.exec
  have hb := B.bytes
  have hr := B.returns
  have hts := atoms_spec (ws := w_D_orderOf) B.pre
  have hown : s.vm.findClass R_D = some m.cls := findClass_of_methodNamed B.named
  have hlocks := B.notSynchronized
  subst hsz
  have hD := hD0.self (sz := s.heap.size)
  generalize hAe : va_A [(dq, .inr (5, [.int d_thrown, .int d_today, .int d_cut, .int d_aging, .int d_saleFrom, .int d_pieces, .int d_orders, .ref dq8, .ref dq9, .ref dq10, .ref dq11, .ref dq12, .ref dq13, .ref dq14, .ref dq15, .int d_ran, .int d_sum, .ref dq18, .ref dq19, .ref dq20])), (dq8, .inl (cI, 40, .inl d_piece)), (dq9, .inl (cI, 40, .inl d_order)), (dq10, .inl (cI, 10, .inl d_came)), (dq11, .inl (cI, 100, .inl d_worth)), (dq12, .inl (cZ, 10, .inl d_used)), (dq13, .inl (cI, 10, .inl d_usedBy)), (dq14, .inl (cI, 10, .inl d_reservedFor)), (dq15, .inl (cI, 10, .inl d_reservedTo)), (dq18, .inl (cI, 10, .inl d_pieceDual)), (dq19, .inl (cI, 10, .inl d_orderDual)), (dq20, .inl (cJ, 11264, .inr (.inl d_table)))] s.heap.size = A at hD ⊢
  have hA : ∀ q : Nat, s.heap.size ≤ q → A q := fun q h => by rw [← hAe]; exact Or.inr h
  have hS : va_S A s.heap s.heap [] := va_S.rf
  have hk0 := hts (.fieldLink R_D 59 "SurplusMatchModel" "orders" "I") (List.mem_cons_of_mem _ (w0 599 rfl))
  have hk1 : ∀ w ∈ w_D, w ∈ w_D_orderOf := fun w h => List.mem_cons_of_mem _ (i_D w h)
  have hk2 := hts (.fieldLink R_D 30 "SurplusMatchModel" "usedBy" "[I") (List.mem_cons_of_mem _ (w0 605 rfl))
  have hl := lv_entry ([.ref dq, .int x1, .int x2]) (n := 5) (Nat.le_of_ble_eq_true rfl)
  rw [lg_entry_eq]
  generalize (lg_sl ([.ref dq, .int x1, .int x2]) ++ List.replicate (5 - (lg_sl ([.ref dq, .int x1, .int x2])).length) Slot.unset).toArray = ls at hl ⊢
  have hl : lv_has ls 5 [(0, .ref dq), (1, .int x1), (2, .int x2)] := hl
  refine lv_aload_n hx hb d_D_orderOf_0 rfl (lv_at hl 0 rfl) ?_
  refine lv_aload_n hx hb d_D_orderOf_1 rfl (lv_at hl 0 rfl) ?_
  refine lv_iload_n hx hb d_D_orderOf_2 rfl (lv_at hl 1 rfl) ?_
  obtain ⟨r1, hc, hm⟩ := bd hm
  try dsimp only at hm
  refine vp_callSi (W.runV (As := [.int x1]) (rest := [.ref dq]) ⟨hx, hb, hml, hown, hts⟩ (c_D_isPiece l dC dI cI cZ cJ dq dq8 dq9 dq10 dq11 dq12 dq13 dq14 dq15 dq18 dq19 dq20 d_thrown d_today d_cut d_aging d_saleFrom d_pieces d_orders d_piece d_order d_came d_worth d_used d_usedBy d_reservedFor d_reservedTo d_ran d_sum d_pieceDual d_orderDual d_table x1 N r1 hc) (cwV 1 hts (gV (w0 681 rfl) (w0 682 rfl) (w0 19 rfl) (w0 33 rfl) (w0 683 rfl)) rfl rfl rfl q_D_isPiece ⟨Nat.le_of_ble_eq_true rfl, Nat.le_of_ble_eq_true rfl⟩) (ro_preV [0, 1, 2, 3, 4, 5, 6, 7, 8, 9, 10, 11] rfl hK hP hN 5 0 (R_D, F_D, 20) rfl rfl) rfl rfl hl.1 rfl (lv_room (Nat.le_of_ble_eq_true rfl)) d_D_orderOf_3 ⟨Nat.le_of_ble_eq_true rfl, Nat.le_of_ble_eq_true rfl⟩) (fun r9 hr9 => ?_)
  subst hr9
  refine lv_if_eq (tgt := 17) hx hb d_D_orderOf_6 (by decide) (fun c9 => ?_) (fun c9 => ?_)
  · replace hm := if_t c9 hm
    refine lv_iconst (v := 0) hx hb d_D_orderOf_17 (by decide) ?_
    refine lv_iconst (v := 1) hx hb d_D_orderOf_18 (by decide) ?_
    refine lv_iconst (v := 1) hx hb d_D_orderOf_19 (by decide) ?_
    refine lv_iconst (v := 1) hx hb d_D_orderOf_20 (by decide) ?_
    obtain ⟨⟨r2, u3⟩, hc, hm⟩ := bd hm
    try dsimp only at hm
    have hPc := hP.sub (ws' := [(dq, .inr (5, [.int d_thrown, .int d_today, .int d_cut, .int d_aging, .int d_saleFrom, .int d_pieces, .int d_orders, .ref dq8, .ref dq9, .ref dq10, .ref dq11, .ref dq12, .ref dq13, .ref dq14, .ref dq15, .int d_ran, .int d_sum, .ref dq18, .ref dq19, .ref dq20])), (dq8, .inl (cI, 40, .inl d_piece)), (dq9, .inl (cI, 40, .inl d_order)), (dq10, .inl (cI, 10, .inl d_came)), (dq11, .inl (cI, 100, .inl d_worth)), (dq12, .inl (cZ, 10, .inl d_used)), (dq13, .inl (cI, 10, .inl d_usedBy)), (dq14, .inl (cI, 10, .inl d_reservedFor)), (dq15, .inl (cI, 10, .inl d_reservedTo)), (dq18, .inl (cI, 10, .inl d_pieceDual)), (dq19, .inl (cI, 10, .inl d_orderDual)), (dq20, .inl (cJ, 11264, .inr (.inl d_table)))]) [0, 1, 2, 3, 4, 5, 6, 7, 8, 9, 10, 11] rfl
    have hDc := hD.sub (ws' := [(dq, .inr (5, [.int d_thrown, .int d_today, .int d_cut, .int d_aging, .int d_saleFrom, .int d_pieces, .int d_orders, .ref dq8, .ref dq9, .ref dq10, .ref dq11, .ref dq12, .ref dq13, .ref dq14, .ref dq15, .int d_ran, .int d_sum, .ref dq18, .ref dq19, .ref dq20])), (dq8, .inl (cI, 40, .inl d_piece)), (dq9, .inl (cI, 40, .inl d_order)), (dq10, .inl (cI, 10, .inl d_came)), (dq11, .inl (cI, 100, .inl d_worth)), (dq12, .inl (cZ, 10, .inl d_used)), (dq13, .inl (cI, 10, .inl d_usedBy)), (dq14, .inl (cI, 10, .inl d_reservedFor)), (dq15, .inl (cI, 10, .inl d_reservedTo)), (dq18, .inl (cI, 10, .inl d_pieceDual)), (dq19, .inl (cI, 10, .inl d_orderDual)), (dq20, .inl (cJ, 11264, .inr (.inl d_table)))]) [0, 1, 2, 3, 4, 5, 6, 7, 8, 9, 10, 11] (by decide) rfl
    have hFc := va_free (wc := [(dq, .inr (5, [.int d_thrown, .int d_today, .int d_cut, .int d_aging, .int d_saleFrom, .int d_pieces, .int d_orders, .ref dq8, .ref dq9, .ref dq10, .ref dq11, .ref dq12, .ref dq13, .ref dq14, .ref dq15, .int d_ran, .int d_sum, .ref dq18, .ref dq19, .ref dq20])), (dq8, .inl (cI, 40, .inl d_piece)), (dq9, .inl (cI, 40, .inl d_order)), (dq10, .inl (cI, 10, .inl d_came)), (dq11, .inl (cI, 100, .inl d_worth)), (dq12, .inl (cZ, 10, .inl d_used)), (dq13, .inl (cI, 10, .inl d_usedBy)), (dq14, .inl (cI, 10, .inl d_reservedFor)), (dq15, .inl (cI, 10, .inl d_reservedTo)), (dq18, .inl (cI, 10, .inl d_pieceDual)), (dq19, .inl (cI, 10, .inl d_orderDual)), (dq20, .inl (cJ, 11264, .inr (.inl d_table)))]) hD hS hA [0, 1, 2, 3, 4, 5, 6, 7, 8, 9, 10, 11] rfl
    refine va_calli (va_runV (As := [.int 0, .int 1, .int 1, .int 1]) (rest := []) ⟨hx, hb, hml, hown, hts⟩ (c_D_goes l dC dI cI cZ cJ dq dq8 dq9 dq10 dq11 dq12 dq13 dq14 dq15 dq18 dq19 dq20 s.heap.size d_thrown d_today d_cut d_aging d_saleFrom d_pieces d_orders d_piece d_order d_came d_worth d_used d_usedBy d_reservedFor d_reservedTo d_ran d_sum d_pieceDual d_orderDual d_table 0 1 1 1 N (r2, u3) hc) (cwV 4 hts (gV (w0 670 rfl) (w0 671 rfl) (w0 18 rfl) (w0 33 rfl) (w0 672 rfl)) rfl rfl rfl q_D_goes ⟨Nat.le_of_ble_eq_true rfl, Nat.le_of_ble_eq_true rfl⟩) (wr_preV hK hPc hDc hN 5 0 (R_D, F_D, 20) rfl rfl) rfl rfl hl.1 rfl (lv_room (Nat.le_of_ble_eq_true rfl)) d_D_orderOf_21 ⟨Nat.le_of_ble_eq_true rfl, Nat.le_of_ble_eq_true rfl⟩) hS (fun q _ h => hFc q h) hFc (fun r9 u t H1 locs ht hvm hw hB hz1 hk1 hS => ?_)
    subst hw
    obtain ⟨hP1, hK1, hD1⟩ := hB
    rw [ht] at hP1
    obtain ⟨hP, hD⟩ := va_join (wr := []) (w1 := [(dq, .inr (5, [.int u3, .int d_today, .int d_cut, .int d_aging, .int d_saleFrom, .int d_pieces, .int d_orders, .ref dq8, .ref dq9, .ref dq10, .ref dq11, .ref dq12, .ref dq13, .ref dq14, .ref dq15, .int d_ran, .int d_sum, .ref dq18, .ref dq19, .ref dq20])), (dq8, .inl (cI, 40, .inl d_piece)), (dq9, .inl (cI, 40, .inl d_order)), (dq10, .inl (cI, 10, .inl d_came)), (dq11, .inl (cI, 100, .inl d_worth)), (dq12, .inl (cZ, 10, .inl d_used)), (dq13, .inl (cI, 10, .inl d_usedBy)), (dq14, .inl (cI, 10, .inl d_reservedFor)), (dq15, .inl (cI, 10, .inl d_reservedTo)), (dq18, .inl (cI, 10, .inl d_pieceDual)), (dq19, .inl (cI, 10, .inl d_orderDual)), (dq20, .inl (cJ, 11264, .inr (.inl d_table)))]) hP hD [0, 1, 2, 3, 4, 5, 6, 7, 8, 9, 10, 11] [] rfl rfl (by decide) (by decide) hk1 hFc hP1 hD1
    generalize H1 = H at hP hS ⊢
    have hP : va_P (dC, dI) classes [(dq, .inr (5, [.int u3, .int d_today, .int d_cut, .int d_aging, .int d_saleFrom, .int d_pieces, .int d_orders, .ref dq8, .ref dq9, .ref dq10, .ref dq11, .ref dq12, .ref dq13, .ref dq14, .ref dq15, .int d_ran, .int d_sum, .ref dq18, .ref dq19, .ref dq20])), (dq8, .inl (cI, 40, .inl d_piece)), (dq9, .inl (cI, 40, .inl d_order)), (dq10, .inl (cI, 10, .inl d_came)), (dq11, .inl (cI, 100, .inl d_worth)), (dq12, .inl (cZ, 10, .inl d_used)), (dq13, .inl (cI, 10, .inl d_usedBy)), (dq14, .inl (cI, 10, .inl d_reservedFor)), (dq15, .inl (cI, 10, .inl d_reservedTo)), (dq18, .inl (cI, 10, .inl d_pieceDual)), (dq19, .inl (cI, 10, .inl d_orderDual)), (dq20, .inl (cJ, 11264, .inr (.inl d_table)))] H := hP
    have hD : va_D A [(dq, .inr (5, [.int u3, .int d_today, .int d_cut, .int d_aging, .int d_saleFrom, .int d_pieces, .int d_orders, .ref dq8, .ref dq9, .ref dq10, .ref dq11, .ref dq12, .ref dq13, .ref dq14, .ref dq15, .int d_ran, .int d_sum, .ref dq18, .ref dq19, .ref dq20])), (dq8, .inl (cI, 40, .inl d_piece)), (dq9, .inl (cI, 40, .inl d_order)), (dq10, .inl (cI, 10, .inl d_came)), (dq11, .inl (cI, 100, .inl d_worth)), (dq12, .inl (cZ, 10, .inl d_used)), (dq13, .inl (cI, 10, .inl d_usedBy)), (dq14, .inl (cI, 10, .inl d_reservedFor)), (dq15, .inl (cI, 10, .inl d_reservedTo)), (dq18, .inl (cI, 10, .inl d_pieceDual)), (dq19, .inl (cI, 10, .inl d_orderDual)), (dq20, .inl (cJ, 11264, .inr (.inl d_table)))] := hD
    clear hP1 hD1 hPc hDc hFc hk1 hz1
    refine lv_if_ne (tgt := 29) hx hb d_D_orderOf_24 (by decide) (fun c9 => ?_) (fun c9 => ?_)
    · replace hm := if_f c9 hm
      refine lv_iload_n hx hb d_D_orderOf_29 rfl (lv_at hl 2 rfl) ?_
      refine lv_istore_n (lv' := [(3, .int x2), (0, .ref dq), (1, .int x1), (2, .int x2)]) hx hb d_D_orderOf_30 rfl hl (by decide) rfl (fun ls hl => ?_)
      refine lv_iconst (v := 0) hx hb d_D_orderOf_31 (by decide) ?_
      refine lv_istore (lv' := [(4, .int 0), (3, .int x2), (0, .ref dq), (1, .int x1), (2, .int x2)]) hx hb d_D_orderOf_32 hl (by decide) rfl (fun ls hl => ?_)
      have key34 : ∀ (K : Int32 → Int32 → Int32 → Int32 → Int32 → Option (Int32 × Int32)) (_ : ∀ (y1a : Int32) (y2a : Int32) (y3a : Int32) (y4a : Int32) (d_throwna : Int32) (H : Heap) (locs : List Loc) (ls : Array Slot), lv_has ls 5 [(0, .ref dq), (1, .int y1a), (2, .int y2a), (3, .int y3a), (4, .int y4a)] → va_P (dC, dI) classes [(dq, .inr (5, [.int d_throwna, .int d_today, .int d_cut, .int d_aging, .int d_saleFrom, .int d_pieces, .int d_orders, .ref dq8, .ref dq9, .ref dq10, .ref dq11, .ref dq12, .ref dq13, .ref dq14, .ref dq15, .int d_ran, .int d_sum, .ref dq18, .ref dq19, .ref dq20])), (dq8, .inl (cI, 40, .inl d_piece)), (dq9, .inl (cI, 40, .inl d_order)), (dq10, .inl (cI, 10, .inl d_came)), (dq11, .inl (cI, 100, .inl d_worth)), (dq12, .inl (cZ, 10, .inl d_used)), (dq13, .inl (cI, 10, .inl d_usedBy)), (dq14, .inl (cI, 10, .inl d_reservedFor)), (dq15, .inl (cI, 10, .inl d_reservedTo)), (dq18, .inl (cI, 10, .inl d_pieceDual)), (dq19, .inl (cI, 10, .inl d_orderDual)), (dq20, .inl (cJ, 11264, .inr (.inl d_table)))] H → va_D A [(dq, .inr (5, [.int d_throwna, .int d_today, .int d_cut, .int d_aging, .int d_saleFrom, .int d_pieces, .int d_orders, .ref dq8, .ref dq9, .ref dq10, .ref dq11, .ref dq12, .ref dq13, .ref dq14, .ref dq15, .int d_ran, .int d_sum, .ref dq18, .ref dq19, .ref dq20])), (dq8, .inl (cI, 40, .inl d_piece)), (dq9, .inl (cI, 40, .inl d_order)), (dq10, .inl (cI, 10, .inl d_came)), (dq11, .inl (cI, 100, .inl d_worth)), (dq12, .inl (cZ, 10, .inl d_used)), (dq13, .inl (cI, 10, .inl d_usedBy)), (dq14, .inl (cI, 10, .inl d_reservedFor)), (dq15, .inl (cI, 10, .inl d_reservedTo)), (dq18, .inl (cI, 10, .inl d_pieceDual)), (dq19, .inl (cI, 10, .inl d_orderDual)), (dq20, .inl (cJ, 11264, .inr (.inl d_table)))] → va_S A s.heap H locs → K y1a y2a y3a y4a d_throwna = some res → W p l e (headSpec w_D_orderOf ({ frames := 2, cells := 0, slots := 0, locals := 43 } : Room)).room s m ([.ref dq, .int x1, .int x2] : List Value).toArray below meth c H locs 0 0 (MQ below (va_Qi (fun (x : Int32) (_ : Unit) => res.1 = x) (fun _ t => va_P (dC, dI) classes [(dq, .inr (5, [.int res.2, .int d_today, .int d_cut, .int d_aging, .int d_saleFrom, .int d_pieces, .int d_orders, .ref dq8, .ref dq9, .ref dq10, .ref dq11, .ref dq12, .ref dq13, .ref dq14, .ref dq15, .int d_ran, .int d_sum, .ref dq18, .ref dq19, .ref dq20])), (dq8, .inl (cI, 40, .inl d_piece)), (dq9, .inl (cI, 40, .inl d_order)), (dq10, .inl (cI, 10, .inl d_came)), (dq11, .inl (cI, 100, .inl d_worth)), (dq12, .inl (cZ, 10, .inl d_used)), (dq13, .inl (cI, 10, .inl d_usedBy)), (dq14, .inl (cI, 10, .inl d_reservedFor)), (dq15, .inl (cI, 10, .inl d_reservedTo)), (dq18, .inl (cI, 10, .inl d_pieceDual)), (dq19, .inl (cI, 10, .inl d_orderDual)), (dq20, .inl (cJ, 11264, .inr (.inl d_table)))] t.heap ∧ va_K (dC, dI) classes [(cI, .int), (cZ, .boolean), (cJ, .long)] t ∧ va_D A [(dq, .inr (5, [.int res.2, .int d_today, .int d_cut, .int d_aging, .int d_saleFrom, .int d_pieces, .int d_orders, .ref dq8, .ref dq9, .ref dq10, .ref dq11, .ref dq12, .ref dq13, .ref dq14, .ref dq15, .int d_ran, .int d_sum, .ref dq18, .ref dq19, .ref dq20])), (dq8, .inl (cI, 40, .inl d_piece)), (dq9, .inl (cI, 40, .inl d_order)), (dq10, .inl (cI, 10, .inl d_came)), (dq11, .inl (cI, 100, .inl d_worth)), (dq12, .inl (cZ, 10, .inl d_used)), (dq13, .inl (cI, 10, .inl d_usedBy)), (dq14, .inl (cI, 10, .inl d_reservedFor)), (dq15, .inl (cI, 10, .inl d_reservedTo)), (dq18, .inl (cI, 10, .inl d_pieceDual)), (dq19, .inl (cI, 10, .inl d_orderDual)), (dq20, .inl (cJ, 11264, .inr (.inl d_table)))]) A) ([.ref dq, .int x1, .int x2] : List Value).toArray s 0 0 A) (F0 m 73 ls [])) (n : Nat) (y1a : Int32) (y2a : Int32) (y3a : Int32) (y4a : Int32) (d_throwna : Int32) (H : Heap) (locs : List Loc) (ls : Array Slot), lv_has ls 5 [(0, .ref dq), (1, .int y1a), (2, .int y2a), (3, .int y3a), (4, .int y4a)] → va_P (dC, dI) classes [(dq, .inr (5, [.int d_throwna, .int d_today, .int d_cut, .int d_aging, .int d_saleFrom, .int d_pieces, .int d_orders, .ref dq8, .ref dq9, .ref dq10, .ref dq11, .ref dq12, .ref dq13, .ref dq14, .ref dq15, .int d_ran, .int d_sum, .ref dq18, .ref dq19, .ref dq20])), (dq8, .inl (cI, 40, .inl d_piece)), (dq9, .inl (cI, 40, .inl d_order)), (dq10, .inl (cI, 10, .inl d_came)), (dq11, .inl (cI, 100, .inl d_worth)), (dq12, .inl (cZ, 10, .inl d_used)), (dq13, .inl (cI, 10, .inl d_usedBy)), (dq14, .inl (cI, 10, .inl d_reservedFor)), (dq15, .inl (cI, 10, .inl d_reservedTo)), (dq18, .inl (cI, 10, .inl d_pieceDual)), (dq19, .inl (cI, 10, .inl d_orderDual)), (dq20, .inl (cJ, 11264, .inr (.inl d_table)))] H → va_D A [(dq, .inr (5, [.int d_throwna, .int d_today, .int d_cut, .int d_aging, .int d_saleFrom, .int d_pieces, .int d_orders, .ref dq8, .ref dq9, .ref dq10, .ref dq11, .ref dq12, .ref dq13, .ref dq14, .ref dq15, .int d_ran, .int d_sum, .ref dq18, .ref dq19, .ref dq20])), (dq8, .inl (cI, 40, .inl d_piece)), (dq9, .inl (cI, 40, .inl d_order)), (dq10, .inl (cI, 10, .inl d_came)), (dq11, .inl (cI, 100, .inl d_worth)), (dq12, .inl (cZ, 10, .inl d_used)), (dq13, .inl (cI, 10, .inl d_usedBy)), (dq14, .inl (cI, 10, .inl d_reservedFor)), (dq15, .inl (cI, 10, .inl d_reservedTo)), (dq18, .inl (cI, 10, .inl d_pieceDual)), (dq19, .inl (cI, 10, .inl d_orderDual)), (dq20, .inl (cJ, 11264, .inr (.inl d_table)))] → va_S A s.heap H locs → L_D_orderOf_34 N d_orders d_usedBy K n y1a y2a y3a y4a d_throwna = some res → W p l e (headSpec w_D_orderOf ({ frames := 2, cells := 0, slots := 0, locals := 43 } : Room)).room s m ([.ref dq, .int x1, .int x2] : List Value).toArray below meth c H locs 0 0 (MQ below (va_Qi (fun (x : Int32) (_ : Unit) => res.1 = x) (fun _ t => va_P (dC, dI) classes [(dq, .inr (5, [.int res.2, .int d_today, .int d_cut, .int d_aging, .int d_saleFrom, .int d_pieces, .int d_orders, .ref dq8, .ref dq9, .ref dq10, .ref dq11, .ref dq12, .ref dq13, .ref dq14, .ref dq15, .int d_ran, .int d_sum, .ref dq18, .ref dq19, .ref dq20])), (dq8, .inl (cI, 40, .inl d_piece)), (dq9, .inl (cI, 40, .inl d_order)), (dq10, .inl (cI, 10, .inl d_came)), (dq11, .inl (cI, 100, .inl d_worth)), (dq12, .inl (cZ, 10, .inl d_used)), (dq13, .inl (cI, 10, .inl d_usedBy)), (dq14, .inl (cI, 10, .inl d_reservedFor)), (dq15, .inl (cI, 10, .inl d_reservedTo)), (dq18, .inl (cI, 10, .inl d_pieceDual)), (dq19, .inl (cI, 10, .inl d_orderDual)), (dq20, .inl (cJ, 11264, .inr (.inl d_table)))] t.heap ∧ va_K (dC, dI) classes [(cI, .int), (cZ, .boolean), (cJ, .long)] t ∧ va_D A [(dq, .inr (5, [.int res.2, .int d_today, .int d_cut, .int d_aging, .int d_saleFrom, .int d_pieces, .int d_orders, .ref dq8, .ref dq9, .ref dq10, .ref dq11, .ref dq12, .ref dq13, .ref dq14, .ref dq15, .int d_ran, .int d_sum, .ref dq18, .ref dq19, .ref dq20])), (dq8, .inl (cI, 40, .inl d_piece)), (dq9, .inl (cI, 40, .inl d_order)), (dq10, .inl (cI, 10, .inl d_came)), (dq11, .inl (cI, 100, .inl d_worth)), (dq12, .inl (cZ, 10, .inl d_used)), (dq13, .inl (cI, 10, .inl d_usedBy)), (dq14, .inl (cI, 10, .inl d_reservedFor)), (dq15, .inl (cI, 10, .inl d_reservedTo)), (dq18, .inl (cI, 10, .inl d_pieceDual)), (dq19, .inl (cI, 10, .inl d_orderDual)), (dq20, .inl (cJ, 11264, .inr (.inl d_table)))]) A) ([.ref dq, .int x1, .int x2] : List Value).toArray s 0 0 A) (F0 m 34 ls []) := by
        intro K hK34 n
        induction n with
        | zero => intro y1a y2a y3a y4a d_throwna H locs ls hl hP hD hS hm; exact absurd hm (by simp [L_D_orderOf_34])
        | succ n ih34 =>
          intro y1a y2a y3a y4a d_throwna H locs ls hl hP hD hS hm
          rw [L_D_orderOf_34] at hm
          refine lv_iload hx hb d_D_orderOf_34 (lv_at hl 4 rfl) ?_
          refine lv_aload_n hx hb d_D_orderOf_36 rfl (lv_at hl 0 rfl) ?_
          refine va_get (D := (dC, dI)) (ci := 5) (v := .int d_orders) (C := R_D) (T := F_D) (N := 20) hx hb hts hk1 hown hK hP 0 rfl rfl 6 (by decide) hk0 (fun _ h9 => h9) rfl d_D_orderOf_37 ?_
          refine lv_icmp_ge (tgt := 73) hx hb d_D_orderOf_40 (by decide) (fun c9 => ?_) (fun c9 => ?_)
          · replace hm := if_t c9 hm
            have hl : lv_has ls 5 [(0, .ref dq), (1, .int y1a), (2, .int y2a), (3, .int y3a), (4, .int y4a)] := lv_sub hl [0, 1, 2, 3, 4] rfl
            exact hK34 y1a y2a y3a y4a d_throwna _ _ ls hl hP hD hS hm
          · replace hm := if_f c9 hm
            refine lv_aload_n hx hb d_D_orderOf_43 rfl (lv_at hl 0 rfl) ?_
            refine va_get (D := (dC, dI)) (ci := 5) (v := .ref dq13) (C := R_D) (T := F_D) (N := 20) hx hb hts hk1 hown hK hP 0 rfl rfl 12 (by decide) hk2 (fun _ h9 => h9) rfl d_D_orderOf_44 ?_
            refine lv_iload hx hb d_D_orderOf_47 (lv_at hl 4 rfl) ?_
            obtain ⟨h9, hm⟩ := gd hm
            refine va_iald hx hb hK hP 6 0 rfl rfl h9 d_D_orderOf_49 ?_
            refine lv_iload_n hx hb d_D_orderOf_50 rfl (lv_at hl 1 rfl) ?_
            refine lv_icmp_eq (tgt := 57) hx hb d_D_orderOf_51 (by decide) (fun c9 => ?_) (fun c9 => ?_)
            · replace hm := if_t c9 hm
              refine lv_iload_n hx hb d_D_orderOf_57 rfl (lv_at hl 3 rfl) ?_
              refine lv_if_ne (tgt := 64) hx hb d_D_orderOf_58 (by decide) (fun c9 => ?_) (fun c9 => ?_)
              · replace hm := if_f c9 hm
                refine lv_iinc (v := (y3a + (-1))) (lv' := [(3, .int (y3a + (-1))), (0, .ref dq), (1, .int y1a), (2, .int y2a), (4, .int y4a)]) hx hb d_D_orderOf_64 hl (k := 3) rfl rfl (by decide) rfl (fun ls hl => ?_)
                refine lv_iinc (v := (y4a + 1)) (lv' := [(4, .int (y4a + 1)), (3, .int (y3a + (-1))), (0, .ref dq), (1, .int y1a), (2, .int y2a)]) hx hb d_D_orderOf_67 hl (k := 4) rfl rfl (by decide) rfl (fun ls hl => ?_)
                refine lv_goto (tgt := 34) hx hb d_D_orderOf_70 (by decide) ?_
                have hl : lv_has ls 5 [(0, .ref dq), (1, .int y1a), (2, .int y2a), (3, .int (y3a + (-1))), (4, .int (y4a + 1))] := lv_sub hl [2, 3, 4, 1, 0] rfl
                exact ih34 y1a y2a (y3a + (-1)) (y4a + 1) d_throwna _ _ ls hl hP hD hS hm
              · replace hm := if_t c9 hm
                refine lv_iload hx hb d_D_orderOf_61 (lv_at hl 4 rfl) ?_
                cases hm
                refine W.widen (k := 0) (n := 0) (Nat.le_of_ble_eq_true rfl) (Nat.le_of_ble_eq_true rfl) ?_
                exact W.iret hx hb hr (fun t ht hW => ⟨⟨_, (), rfl, rfl, by rw [ht]; exact hP, va_K.moved hW.alike hK, hD⟩, hS.F ht⟩) hS.2.2 d_D_orderOf_63
            · replace hm := if_f c9 hm
              refine lv_goto (tgt := 67) hx hb d_D_orderOf_54 (by decide) ?_
              refine lv_iinc (v := (y4a + 1)) (lv' := [(4, .int (y4a + 1)), (0, .ref dq), (1, .int y1a), (2, .int y2a), (3, .int y3a)]) hx hb d_D_orderOf_67 hl (k := 4) rfl rfl (by decide) rfl (fun ls hl => ?_)
              refine lv_goto (tgt := 34) hx hb d_D_orderOf_70 (by decide) ?_
              have hl : lv_has ls 5 [(0, .ref dq), (1, .int y1a), (2, .int y2a), (3, .int y3a), (4, .int (y4a + 1))] := lv_sub hl [1, 2, 3, 4, 0] rfl
              exact ih34 y1a y2a y3a (y4a + 1) d_throwna _ _ ls hl hP hD hS hm
      have hl : lv_has ls 5 [(0, .ref dq), (1, .int x1), (2, .int x2), (3, .int x2), (4, .int 0)] := lv_sub hl [2, 3, 4, 1, 0] rfl
      refine key34 _ (fun y1a y2a y3a y4a d_throwna H locs ls hl hP hD hS hm => ?_) N x1 x2 x2 0 u3 _ _ ls hl hP hD hS hm
      try dsimp only at hm
      refine lv_iconst (v := (-1)) hx hb d_D_orderOf_73 (by decide) ?_
      cases hm
      refine W.widen (k := 0) (n := 0) (Nat.le_of_ble_eq_true rfl) (Nat.le_of_ble_eq_true rfl) ?_
      exact W.iret hx hb hr (fun t ht hW => ⟨⟨_, (), rfl, rfl, by rw [ht]; exact hP, va_K.moved hW.alike hK, hD⟩, hS.F ht⟩) hS.2.2 d_D_orderOf_74
    · replace hm := if_t c9 hm
      refine lv_iconst (v := 0) hx hb d_D_orderOf_27 (by decide) ?_
      cases hm
      refine W.widen (k := 0) (n := 0) (Nat.le_of_ble_eq_true rfl) (Nat.le_of_ble_eq_true rfl) ?_
      exact W.iret hx hb hr (fun t ht hW => ⟨⟨_, (), rfl, rfl, by rw [ht]; exact hP, va_K.moved hW.alike hK, hD⟩, hS.F ht⟩) hS.2.2 d_D_orderOf_28
  · replace hm := if_f c9 hm
    refine lv_iload_n hx hb d_D_orderOf_9 rfl (lv_at hl 2 rfl) ?_
    refine lv_if_lt (tgt := 17) hx hb d_D_orderOf_10 (by decide) (fun c9 => ?_) (fun c9 => ?_)
    · replace hm := if_t c9 hm
      refine lv_iconst (v := 0) hx hb d_D_orderOf_17 (by decide) ?_
      refine lv_iconst (v := 1) hx hb d_D_orderOf_18 (by decide) ?_
      refine lv_iconst (v := 1) hx hb d_D_orderOf_19 (by decide) ?_
      refine lv_iconst (v := 1) hx hb d_D_orderOf_20 (by decide) ?_
      obtain ⟨⟨r5, u6⟩, hc, hm⟩ := bd hm
      try dsimp only at hm
      have hPc := hP.sub (ws' := [(dq, .inr (5, [.int d_thrown, .int d_today, .int d_cut, .int d_aging, .int d_saleFrom, .int d_pieces, .int d_orders, .ref dq8, .ref dq9, .ref dq10, .ref dq11, .ref dq12, .ref dq13, .ref dq14, .ref dq15, .int d_ran, .int d_sum, .ref dq18, .ref dq19, .ref dq20])), (dq8, .inl (cI, 40, .inl d_piece)), (dq9, .inl (cI, 40, .inl d_order)), (dq10, .inl (cI, 10, .inl d_came)), (dq11, .inl (cI, 100, .inl d_worth)), (dq12, .inl (cZ, 10, .inl d_used)), (dq13, .inl (cI, 10, .inl d_usedBy)), (dq14, .inl (cI, 10, .inl d_reservedFor)), (dq15, .inl (cI, 10, .inl d_reservedTo)), (dq18, .inl (cI, 10, .inl d_pieceDual)), (dq19, .inl (cI, 10, .inl d_orderDual)), (dq20, .inl (cJ, 11264, .inr (.inl d_table)))]) [0, 1, 2, 3, 4, 5, 6, 7, 8, 9, 10, 11] rfl
      have hDc := hD.sub (ws' := [(dq, .inr (5, [.int d_thrown, .int d_today, .int d_cut, .int d_aging, .int d_saleFrom, .int d_pieces, .int d_orders, .ref dq8, .ref dq9, .ref dq10, .ref dq11, .ref dq12, .ref dq13, .ref dq14, .ref dq15, .int d_ran, .int d_sum, .ref dq18, .ref dq19, .ref dq20])), (dq8, .inl (cI, 40, .inl d_piece)), (dq9, .inl (cI, 40, .inl d_order)), (dq10, .inl (cI, 10, .inl d_came)), (dq11, .inl (cI, 100, .inl d_worth)), (dq12, .inl (cZ, 10, .inl d_used)), (dq13, .inl (cI, 10, .inl d_usedBy)), (dq14, .inl (cI, 10, .inl d_reservedFor)), (dq15, .inl (cI, 10, .inl d_reservedTo)), (dq18, .inl (cI, 10, .inl d_pieceDual)), (dq19, .inl (cI, 10, .inl d_orderDual)), (dq20, .inl (cJ, 11264, .inr (.inl d_table)))]) [0, 1, 2, 3, 4, 5, 6, 7, 8, 9, 10, 11] (by decide) rfl
      have hFc := va_free (wc := [(dq, .inr (5, [.int d_thrown, .int d_today, .int d_cut, .int d_aging, .int d_saleFrom, .int d_pieces, .int d_orders, .ref dq8, .ref dq9, .ref dq10, .ref dq11, .ref dq12, .ref dq13, .ref dq14, .ref dq15, .int d_ran, .int d_sum, .ref dq18, .ref dq19, .ref dq20])), (dq8, .inl (cI, 40, .inl d_piece)), (dq9, .inl (cI, 40, .inl d_order)), (dq10, .inl (cI, 10, .inl d_came)), (dq11, .inl (cI, 100, .inl d_worth)), (dq12, .inl (cZ, 10, .inl d_used)), (dq13, .inl (cI, 10, .inl d_usedBy)), (dq14, .inl (cI, 10, .inl d_reservedFor)), (dq15, .inl (cI, 10, .inl d_reservedTo)), (dq18, .inl (cI, 10, .inl d_pieceDual)), (dq19, .inl (cI, 10, .inl d_orderDual)), (dq20, .inl (cJ, 11264, .inr (.inl d_table)))]) hD hS hA [0, 1, 2, 3, 4, 5, 6, 7, 8, 9, 10, 11] rfl
      refine va_calli (va_runV (As := [.int 0, .int 1, .int 1, .int 1]) (rest := []) ⟨hx, hb, hml, hown, hts⟩ (c_D_goes l dC dI cI cZ cJ dq dq8 dq9 dq10 dq11 dq12 dq13 dq14 dq15 dq18 dq19 dq20 s.heap.size d_thrown d_today d_cut d_aging d_saleFrom d_pieces d_orders d_piece d_order d_came d_worth d_used d_usedBy d_reservedFor d_reservedTo d_ran d_sum d_pieceDual d_orderDual d_table 0 1 1 1 N (r5, u6) hc) (cwV 4 hts (gV (w0 670 rfl) (w0 671 rfl) (w0 18 rfl) (w0 33 rfl) (w0 672 rfl)) rfl rfl rfl q_D_goes ⟨Nat.le_of_ble_eq_true rfl, Nat.le_of_ble_eq_true rfl⟩) (wr_preV hK hPc hDc hN 5 0 (R_D, F_D, 20) rfl rfl) rfl rfl hl.1 rfl (lv_room (Nat.le_of_ble_eq_true rfl)) d_D_orderOf_21 ⟨Nat.le_of_ble_eq_true rfl, Nat.le_of_ble_eq_true rfl⟩) hS (fun q _ h => hFc q h) hFc (fun r9 u t H1 locs ht hvm hw hB hz1 hk1 hS => ?_)
      subst hw
      obtain ⟨hP1, hK1, hD1⟩ := hB
      rw [ht] at hP1
      obtain ⟨hP, hD⟩ := va_join (wr := []) (w1 := [(dq, .inr (5, [.int u6, .int d_today, .int d_cut, .int d_aging, .int d_saleFrom, .int d_pieces, .int d_orders, .ref dq8, .ref dq9, .ref dq10, .ref dq11, .ref dq12, .ref dq13, .ref dq14, .ref dq15, .int d_ran, .int d_sum, .ref dq18, .ref dq19, .ref dq20])), (dq8, .inl (cI, 40, .inl d_piece)), (dq9, .inl (cI, 40, .inl d_order)), (dq10, .inl (cI, 10, .inl d_came)), (dq11, .inl (cI, 100, .inl d_worth)), (dq12, .inl (cZ, 10, .inl d_used)), (dq13, .inl (cI, 10, .inl d_usedBy)), (dq14, .inl (cI, 10, .inl d_reservedFor)), (dq15, .inl (cI, 10, .inl d_reservedTo)), (dq18, .inl (cI, 10, .inl d_pieceDual)), (dq19, .inl (cI, 10, .inl d_orderDual)), (dq20, .inl (cJ, 11264, .inr (.inl d_table)))]) hP hD [0, 1, 2, 3, 4, 5, 6, 7, 8, 9, 10, 11] [] rfl rfl (by decide) (by decide) hk1 hFc hP1 hD1
      generalize H1 = H at hP hS ⊢
      have hP : va_P (dC, dI) classes [(dq, .inr (5, [.int u6, .int d_today, .int d_cut, .int d_aging, .int d_saleFrom, .int d_pieces, .int d_orders, .ref dq8, .ref dq9, .ref dq10, .ref dq11, .ref dq12, .ref dq13, .ref dq14, .ref dq15, .int d_ran, .int d_sum, .ref dq18, .ref dq19, .ref dq20])), (dq8, .inl (cI, 40, .inl d_piece)), (dq9, .inl (cI, 40, .inl d_order)), (dq10, .inl (cI, 10, .inl d_came)), (dq11, .inl (cI, 100, .inl d_worth)), (dq12, .inl (cZ, 10, .inl d_used)), (dq13, .inl (cI, 10, .inl d_usedBy)), (dq14, .inl (cI, 10, .inl d_reservedFor)), (dq15, .inl (cI, 10, .inl d_reservedTo)), (dq18, .inl (cI, 10, .inl d_pieceDual)), (dq19, .inl (cI, 10, .inl d_orderDual)), (dq20, .inl (cJ, 11264, .inr (.inl d_table)))] H := hP
      have hD : va_D A [(dq, .inr (5, [.int u6, .int d_today, .int d_cut, .int d_aging, .int d_saleFrom, .int d_pieces, .int d_orders, .ref dq8, .ref dq9, .ref dq10, .ref dq11, .ref dq12, .ref dq13, .ref dq14, .ref dq15, .int d_ran, .int d_sum, .ref dq18, .ref dq19, .ref dq20])), (dq8, .inl (cI, 40, .inl d_piece)), (dq9, .inl (cI, 40, .inl d_order)), (dq10, .inl (cI, 10, .inl d_came)), (dq11, .inl (cI, 100, .inl d_worth)), (dq12, .inl (cZ, 10, .inl d_used)), (dq13, .inl (cI, 10, .inl d_usedBy)), (dq14, .inl (cI, 10, .inl d_reservedFor)), (dq15, .inl (cI, 10, .inl d_reservedTo)), (dq18, .inl (cI, 10, .inl d_pieceDual)), (dq19, .inl (cI, 10, .inl d_orderDual)), (dq20, .inl (cJ, 11264, .inr (.inl d_table)))] := hD
      clear hP1 hD1 hPc hDc hFc hk1 hz1
      refine lv_if_ne (tgt := 29) hx hb d_D_orderOf_24 (by decide) (fun c9 => ?_) (fun c9 => ?_)
      · replace hm := if_f c9 hm
        refine lv_iload_n hx hb d_D_orderOf_29 rfl (lv_at hl 2 rfl) ?_
        refine lv_istore_n (lv' := [(3, .int x2), (0, .ref dq), (1, .int x1), (2, .int x2)]) hx hb d_D_orderOf_30 rfl hl (by decide) rfl (fun ls hl => ?_)
        refine lv_iconst (v := 0) hx hb d_D_orderOf_31 (by decide) ?_
        refine lv_istore (lv' := [(4, .int 0), (3, .int x2), (0, .ref dq), (1, .int x1), (2, .int x2)]) hx hb d_D_orderOf_32 hl (by decide) rfl (fun ls hl => ?_)
        have key34 : ∀ (K : Int32 → Int32 → Int32 → Int32 → Int32 → Option (Int32 × Int32)) (_ : ∀ (y1a : Int32) (y2a : Int32) (y3a : Int32) (y4a : Int32) (d_throwna : Int32) (H : Heap) (locs : List Loc) (ls : Array Slot), lv_has ls 5 [(0, .ref dq), (1, .int y1a), (2, .int y2a), (3, .int y3a), (4, .int y4a)] → va_P (dC, dI) classes [(dq, .inr (5, [.int d_throwna, .int d_today, .int d_cut, .int d_aging, .int d_saleFrom, .int d_pieces, .int d_orders, .ref dq8, .ref dq9, .ref dq10, .ref dq11, .ref dq12, .ref dq13, .ref dq14, .ref dq15, .int d_ran, .int d_sum, .ref dq18, .ref dq19, .ref dq20])), (dq8, .inl (cI, 40, .inl d_piece)), (dq9, .inl (cI, 40, .inl d_order)), (dq10, .inl (cI, 10, .inl d_came)), (dq11, .inl (cI, 100, .inl d_worth)), (dq12, .inl (cZ, 10, .inl d_used)), (dq13, .inl (cI, 10, .inl d_usedBy)), (dq14, .inl (cI, 10, .inl d_reservedFor)), (dq15, .inl (cI, 10, .inl d_reservedTo)), (dq18, .inl (cI, 10, .inl d_pieceDual)), (dq19, .inl (cI, 10, .inl d_orderDual)), (dq20, .inl (cJ, 11264, .inr (.inl d_table)))] H → va_D A [(dq, .inr (5, [.int d_throwna, .int d_today, .int d_cut, .int d_aging, .int d_saleFrom, .int d_pieces, .int d_orders, .ref dq8, .ref dq9, .ref dq10, .ref dq11, .ref dq12, .ref dq13, .ref dq14, .ref dq15, .int d_ran, .int d_sum, .ref dq18, .ref dq19, .ref dq20])), (dq8, .inl (cI, 40, .inl d_piece)), (dq9, .inl (cI, 40, .inl d_order)), (dq10, .inl (cI, 10, .inl d_came)), (dq11, .inl (cI, 100, .inl d_worth)), (dq12, .inl (cZ, 10, .inl d_used)), (dq13, .inl (cI, 10, .inl d_usedBy)), (dq14, .inl (cI, 10, .inl d_reservedFor)), (dq15, .inl (cI, 10, .inl d_reservedTo)), (dq18, .inl (cI, 10, .inl d_pieceDual)), (dq19, .inl (cI, 10, .inl d_orderDual)), (dq20, .inl (cJ, 11264, .inr (.inl d_table)))] → va_S A s.heap H locs → K y1a y2a y3a y4a d_throwna = some res → W p l e (headSpec w_D_orderOf ({ frames := 2, cells := 0, slots := 0, locals := 43 } : Room)).room s m ([.ref dq, .int x1, .int x2] : List Value).toArray below meth c H locs 0 0 (MQ below (va_Qi (fun (x : Int32) (_ : Unit) => res.1 = x) (fun _ t => va_P (dC, dI) classes [(dq, .inr (5, [.int res.2, .int d_today, .int d_cut, .int d_aging, .int d_saleFrom, .int d_pieces, .int d_orders, .ref dq8, .ref dq9, .ref dq10, .ref dq11, .ref dq12, .ref dq13, .ref dq14, .ref dq15, .int d_ran, .int d_sum, .ref dq18, .ref dq19, .ref dq20])), (dq8, .inl (cI, 40, .inl d_piece)), (dq9, .inl (cI, 40, .inl d_order)), (dq10, .inl (cI, 10, .inl d_came)), (dq11, .inl (cI, 100, .inl d_worth)), (dq12, .inl (cZ, 10, .inl d_used)), (dq13, .inl (cI, 10, .inl d_usedBy)), (dq14, .inl (cI, 10, .inl d_reservedFor)), (dq15, .inl (cI, 10, .inl d_reservedTo)), (dq18, .inl (cI, 10, .inl d_pieceDual)), (dq19, .inl (cI, 10, .inl d_orderDual)), (dq20, .inl (cJ, 11264, .inr (.inl d_table)))] t.heap ∧ va_K (dC, dI) classes [(cI, .int), (cZ, .boolean), (cJ, .long)] t ∧ va_D A [(dq, .inr (5, [.int res.2, .int d_today, .int d_cut, .int d_aging, .int d_saleFrom, .int d_pieces, .int d_orders, .ref dq8, .ref dq9, .ref dq10, .ref dq11, .ref dq12, .ref dq13, .ref dq14, .ref dq15, .int d_ran, .int d_sum, .ref dq18, .ref dq19, .ref dq20])), (dq8, .inl (cI, 40, .inl d_piece)), (dq9, .inl (cI, 40, .inl d_order)), (dq10, .inl (cI, 10, .inl d_came)), (dq11, .inl (cI, 100, .inl d_worth)), (dq12, .inl (cZ, 10, .inl d_used)), (dq13, .inl (cI, 10, .inl d_usedBy)), (dq14, .inl (cI, 10, .inl d_reservedFor)), (dq15, .inl (cI, 10, .inl d_reservedTo)), (dq18, .inl (cI, 10, .inl d_pieceDual)), (dq19, .inl (cI, 10, .inl d_orderDual)), (dq20, .inl (cJ, 11264, .inr (.inl d_table)))]) A) ([.ref dq, .int x1, .int x2] : List Value).toArray s 0 0 A) (F0 m 73 ls [])) (n : Nat) (y1a : Int32) (y2a : Int32) (y3a : Int32) (y4a : Int32) (d_throwna : Int32) (H : Heap) (locs : List Loc) (ls : Array Slot), lv_has ls 5 [(0, .ref dq), (1, .int y1a), (2, .int y2a), (3, .int y3a), (4, .int y4a)] → va_P (dC, dI) classes [(dq, .inr (5, [.int d_throwna, .int d_today, .int d_cut, .int d_aging, .int d_saleFrom, .int d_pieces, .int d_orders, .ref dq8, .ref dq9, .ref dq10, .ref dq11, .ref dq12, .ref dq13, .ref dq14, .ref dq15, .int d_ran, .int d_sum, .ref dq18, .ref dq19, .ref dq20])), (dq8, .inl (cI, 40, .inl d_piece)), (dq9, .inl (cI, 40, .inl d_order)), (dq10, .inl (cI, 10, .inl d_came)), (dq11, .inl (cI, 100, .inl d_worth)), (dq12, .inl (cZ, 10, .inl d_used)), (dq13, .inl (cI, 10, .inl d_usedBy)), (dq14, .inl (cI, 10, .inl d_reservedFor)), (dq15, .inl (cI, 10, .inl d_reservedTo)), (dq18, .inl (cI, 10, .inl d_pieceDual)), (dq19, .inl (cI, 10, .inl d_orderDual)), (dq20, .inl (cJ, 11264, .inr (.inl d_table)))] H → va_D A [(dq, .inr (5, [.int d_throwna, .int d_today, .int d_cut, .int d_aging, .int d_saleFrom, .int d_pieces, .int d_orders, .ref dq8, .ref dq9, .ref dq10, .ref dq11, .ref dq12, .ref dq13, .ref dq14, .ref dq15, .int d_ran, .int d_sum, .ref dq18, .ref dq19, .ref dq20])), (dq8, .inl (cI, 40, .inl d_piece)), (dq9, .inl (cI, 40, .inl d_order)), (dq10, .inl (cI, 10, .inl d_came)), (dq11, .inl (cI, 100, .inl d_worth)), (dq12, .inl (cZ, 10, .inl d_used)), (dq13, .inl (cI, 10, .inl d_usedBy)), (dq14, .inl (cI, 10, .inl d_reservedFor)), (dq15, .inl (cI, 10, .inl d_reservedTo)), (dq18, .inl (cI, 10, .inl d_pieceDual)), (dq19, .inl (cI, 10, .inl d_orderDual)), (dq20, .inl (cJ, 11264, .inr (.inl d_table)))] → va_S A s.heap H locs → L_D_orderOf_34 N d_orders d_usedBy K n y1a y2a y3a y4a d_throwna = some res → W p l e (headSpec w_D_orderOf ({ frames := 2, cells := 0, slots := 0, locals := 43 } : Room)).room s m ([.ref dq, .int x1, .int x2] : List Value).toArray below meth c H locs 0 0 (MQ below (va_Qi (fun (x : Int32) (_ : Unit) => res.1 = x) (fun _ t => va_P (dC, dI) classes [(dq, .inr (5, [.int res.2, .int d_today, .int d_cut, .int d_aging, .int d_saleFrom, .int d_pieces, .int d_orders, .ref dq8, .ref dq9, .ref dq10, .ref dq11, .ref dq12, .ref dq13, .ref dq14, .ref dq15, .int d_ran, .int d_sum, .ref dq18, .ref dq19, .ref dq20])), (dq8, .inl (cI, 40, .inl d_piece)), (dq9, .inl (cI, 40, .inl d_order)), (dq10, .inl (cI, 10, .inl d_came)), (dq11, .inl (cI, 100, .inl d_worth)), (dq12, .inl (cZ, 10, .inl d_used)), (dq13, .inl (cI, 10, .inl d_usedBy)), (dq14, .inl (cI, 10, .inl d_reservedFor)), (dq15, .inl (cI, 10, .inl d_reservedTo)), (dq18, .inl (cI, 10, .inl d_pieceDual)), (dq19, .inl (cI, 10, .inl d_orderDual)), (dq20, .inl (cJ, 11264, .inr (.inl d_table)))] t.heap ∧ va_K (dC, dI) classes [(cI, .int), (cZ, .boolean), (cJ, .long)] t ∧ va_D A [(dq, .inr (5, [.int res.2, .int d_today, .int d_cut, .int d_aging, .int d_saleFrom, .int d_pieces, .int d_orders, .ref dq8, .ref dq9, .ref dq10, .ref dq11, .ref dq12, .ref dq13, .ref dq14, .ref dq15, .int d_ran, .int d_sum, .ref dq18, .ref dq19, .ref dq20])), (dq8, .inl (cI, 40, .inl d_piece)), (dq9, .inl (cI, 40, .inl d_order)), (dq10, .inl (cI, 10, .inl d_came)), (dq11, .inl (cI, 100, .inl d_worth)), (dq12, .inl (cZ, 10, .inl d_used)), (dq13, .inl (cI, 10, .inl d_usedBy)), (dq14, .inl (cI, 10, .inl d_reservedFor)), (dq15, .inl (cI, 10, .inl d_reservedTo)), (dq18, .inl (cI, 10, .inl d_pieceDual)), (dq19, .inl (cI, 10, .inl d_orderDual)), (dq20, .inl (cJ, 11264, .inr (.inl d_table)))]) A) ([.ref dq, .int x1, .int x2] : List Value).toArray s 0 0 A) (F0 m 34 ls []) := by
          intro K hK34 n
          induction n with
          | zero => intro y1a y2a y3a y4a d_throwna H locs ls hl hP hD hS hm; exact absurd hm (by simp [L_D_orderOf_34])
          | succ n ih34 =>
            intro y1a y2a y3a y4a d_throwna H locs ls hl hP hD hS hm
            rw [L_D_orderOf_34] at hm
            refine lv_iload hx hb d_D_orderOf_34 (lv_at hl 4 rfl) ?_
            refine lv_aload_n hx hb d_D_orderOf_36 rfl (lv_at hl 0 rfl) ?_
            refine va_get (D := (dC, dI)) (ci := 5) (v := .int d_orders) (C := R_D) (T := F_D) (N := 20) hx hb hts hk1 hown hK hP 0 rfl rfl 6 (by decide) hk0 (fun _ h9 => h9) rfl d_D_orderOf_37 ?_
            refine lv_icmp_ge (tgt := 73) hx hb d_D_orderOf_40 (by decide) (fun c9 => ?_) (fun c9 => ?_)
            · replace hm := if_t c9 hm
              have hl : lv_has ls 5 [(0, .ref dq), (1, .int y1a), (2, .int y2a), (3, .int y3a), (4, .int y4a)] := lv_sub hl [0, 1, 2, 3, 4] rfl
              exact hK34 y1a y2a y3a y4a d_throwna _ _ ls hl hP hD hS hm
            · replace hm := if_f c9 hm
              refine lv_aload_n hx hb d_D_orderOf_43 rfl (lv_at hl 0 rfl) ?_
              refine va_get (D := (dC, dI)) (ci := 5) (v := .ref dq13) (C := R_D) (T := F_D) (N := 20) hx hb hts hk1 hown hK hP 0 rfl rfl 12 (by decide) hk2 (fun _ h9 => h9) rfl d_D_orderOf_44 ?_
              refine lv_iload hx hb d_D_orderOf_47 (lv_at hl 4 rfl) ?_
              obtain ⟨h9, hm⟩ := gd hm
              refine va_iald hx hb hK hP 6 0 rfl rfl h9 d_D_orderOf_49 ?_
              refine lv_iload_n hx hb d_D_orderOf_50 rfl (lv_at hl 1 rfl) ?_
              refine lv_icmp_eq (tgt := 57) hx hb d_D_orderOf_51 (by decide) (fun c9 => ?_) (fun c9 => ?_)
              · replace hm := if_t c9 hm
                refine lv_iload_n hx hb d_D_orderOf_57 rfl (lv_at hl 3 rfl) ?_
                refine lv_if_ne (tgt := 64) hx hb d_D_orderOf_58 (by decide) (fun c9 => ?_) (fun c9 => ?_)
                · replace hm := if_f c9 hm
                  refine lv_iinc (v := (y3a + (-1))) (lv' := [(3, .int (y3a + (-1))), (0, .ref dq), (1, .int y1a), (2, .int y2a), (4, .int y4a)]) hx hb d_D_orderOf_64 hl (k := 3) rfl rfl (by decide) rfl (fun ls hl => ?_)
                  refine lv_iinc (v := (y4a + 1)) (lv' := [(4, .int (y4a + 1)), (3, .int (y3a + (-1))), (0, .ref dq), (1, .int y1a), (2, .int y2a)]) hx hb d_D_orderOf_67 hl (k := 4) rfl rfl (by decide) rfl (fun ls hl => ?_)
                  refine lv_goto (tgt := 34) hx hb d_D_orderOf_70 (by decide) ?_
                  have hl : lv_has ls 5 [(0, .ref dq), (1, .int y1a), (2, .int y2a), (3, .int (y3a + (-1))), (4, .int (y4a + 1))] := lv_sub hl [2, 3, 4, 1, 0] rfl
                  exact ih34 y1a y2a (y3a + (-1)) (y4a + 1) d_throwna _ _ ls hl hP hD hS hm
                · replace hm := if_t c9 hm
                  refine lv_iload hx hb d_D_orderOf_61 (lv_at hl 4 rfl) ?_
                  cases hm
                  refine W.widen (k := 0) (n := 0) (Nat.le_of_ble_eq_true rfl) (Nat.le_of_ble_eq_true rfl) ?_
                  exact W.iret hx hb hr (fun t ht hW => ⟨⟨_, (), rfl, rfl, by rw [ht]; exact hP, va_K.moved hW.alike hK, hD⟩, hS.F ht⟩) hS.2.2 d_D_orderOf_63
              · replace hm := if_f c9 hm
                refine lv_goto (tgt := 67) hx hb d_D_orderOf_54 (by decide) ?_
                refine lv_iinc (v := (y4a + 1)) (lv' := [(4, .int (y4a + 1)), (0, .ref dq), (1, .int y1a), (2, .int y2a), (3, .int y3a)]) hx hb d_D_orderOf_67 hl (k := 4) rfl rfl (by decide) rfl (fun ls hl => ?_)
                refine lv_goto (tgt := 34) hx hb d_D_orderOf_70 (by decide) ?_
                have hl : lv_has ls 5 [(0, .ref dq), (1, .int y1a), (2, .int y2a), (3, .int y3a), (4, .int (y4a + 1))] := lv_sub hl [1, 2, 3, 4, 0] rfl
                exact ih34 y1a y2a y3a (y4a + 1) d_throwna _ _ ls hl hP hD hS hm
        have hl : lv_has ls 5 [(0, .ref dq), (1, .int x1), (2, .int x2), (3, .int x2), (4, .int 0)] := lv_sub hl [2, 3, 4, 1, 0] rfl
        refine key34 _ (fun y1a y2a y3a y4a d_throwna H locs ls hl hP hD hS hm => ?_) N x1 x2 x2 0 u6 _ _ ls hl hP hD hS hm
        try dsimp only at hm
        refine lv_iconst (v := (-1)) hx hb d_D_orderOf_73 (by decide) ?_
        cases hm
        refine W.widen (k := 0) (n := 0) (Nat.le_of_ble_eq_true rfl) (Nat.le_of_ble_eq_true rfl) ?_
        exact W.iret hx hb hr (fun t ht hW => ⟨⟨_, (), rfl, rfl, by rw [ht]; exact hP, va_K.moved hW.alike hK, hD⟩, hS.F ht⟩) hS.2.2 d_D_orderOf_74
      · replace hm := if_t c9 hm
        refine lv_iconst (v := 0) hx hb d_D_orderOf_27 (by decide) ?_
        cases hm
        refine W.widen (k := 0) (n := 0) (Nat.le_of_ble_eq_true rfl) (Nat.le_of_ble_eq_true rfl) ?_
        exact W.iret hx hb hr (fun t ht hW => ⟨⟨_, (), rfl, rfl, by rw [ht]; exact hP, va_K.moved hW.alike hK, hD⟩, hS.F ht⟩) hS.2.2 d_D_orderOf_28
    · replace hm := if_f c9 hm
      refine lv_iconst (v := 1) hx hb d_D_orderOf_13 (by decide) ?_
      refine lv_goto (tgt := 18) hx hb d_D_orderOf_14 (by decide) ?_
      refine lv_iconst (v := 1) hx hb d_D_orderOf_18 (by decide) ?_
      refine lv_iconst (v := 1) hx hb d_D_orderOf_19 (by decide) ?_
      refine lv_iconst (v := 1) hx hb d_D_orderOf_20 (by decide) ?_
      obtain ⟨⟨r8, u9⟩, hc, hm⟩ := bd hm
      try dsimp only at hm
      have hPc := hP.sub (ws' := [(dq, .inr (5, [.int d_thrown, .int d_today, .int d_cut, .int d_aging, .int d_saleFrom, .int d_pieces, .int d_orders, .ref dq8, .ref dq9, .ref dq10, .ref dq11, .ref dq12, .ref dq13, .ref dq14, .ref dq15, .int d_ran, .int d_sum, .ref dq18, .ref dq19, .ref dq20])), (dq8, .inl (cI, 40, .inl d_piece)), (dq9, .inl (cI, 40, .inl d_order)), (dq10, .inl (cI, 10, .inl d_came)), (dq11, .inl (cI, 100, .inl d_worth)), (dq12, .inl (cZ, 10, .inl d_used)), (dq13, .inl (cI, 10, .inl d_usedBy)), (dq14, .inl (cI, 10, .inl d_reservedFor)), (dq15, .inl (cI, 10, .inl d_reservedTo)), (dq18, .inl (cI, 10, .inl d_pieceDual)), (dq19, .inl (cI, 10, .inl d_orderDual)), (dq20, .inl (cJ, 11264, .inr (.inl d_table)))]) [0, 1, 2, 3, 4, 5, 6, 7, 8, 9, 10, 11] rfl
      have hDc := hD.sub (ws' := [(dq, .inr (5, [.int d_thrown, .int d_today, .int d_cut, .int d_aging, .int d_saleFrom, .int d_pieces, .int d_orders, .ref dq8, .ref dq9, .ref dq10, .ref dq11, .ref dq12, .ref dq13, .ref dq14, .ref dq15, .int d_ran, .int d_sum, .ref dq18, .ref dq19, .ref dq20])), (dq8, .inl (cI, 40, .inl d_piece)), (dq9, .inl (cI, 40, .inl d_order)), (dq10, .inl (cI, 10, .inl d_came)), (dq11, .inl (cI, 100, .inl d_worth)), (dq12, .inl (cZ, 10, .inl d_used)), (dq13, .inl (cI, 10, .inl d_usedBy)), (dq14, .inl (cI, 10, .inl d_reservedFor)), (dq15, .inl (cI, 10, .inl d_reservedTo)), (dq18, .inl (cI, 10, .inl d_pieceDual)), (dq19, .inl (cI, 10, .inl d_orderDual)), (dq20, .inl (cJ, 11264, .inr (.inl d_table)))]) [0, 1, 2, 3, 4, 5, 6, 7, 8, 9, 10, 11] (by decide) rfl
      have hFc := va_free (wc := [(dq, .inr (5, [.int d_thrown, .int d_today, .int d_cut, .int d_aging, .int d_saleFrom, .int d_pieces, .int d_orders, .ref dq8, .ref dq9, .ref dq10, .ref dq11, .ref dq12, .ref dq13, .ref dq14, .ref dq15, .int d_ran, .int d_sum, .ref dq18, .ref dq19, .ref dq20])), (dq8, .inl (cI, 40, .inl d_piece)), (dq9, .inl (cI, 40, .inl d_order)), (dq10, .inl (cI, 10, .inl d_came)), (dq11, .inl (cI, 100, .inl d_worth)), (dq12, .inl (cZ, 10, .inl d_used)), (dq13, .inl (cI, 10, .inl d_usedBy)), (dq14, .inl (cI, 10, .inl d_reservedFor)), (dq15, .inl (cI, 10, .inl d_reservedTo)), (dq18, .inl (cI, 10, .inl d_pieceDual)), (dq19, .inl (cI, 10, .inl d_orderDual)), (dq20, .inl (cJ, 11264, .inr (.inl d_table)))]) hD hS hA [0, 1, 2, 3, 4, 5, 6, 7, 8, 9, 10, 11] rfl
      refine va_calli (va_runV (As := [.int 1, .int 1, .int 1, .int 1]) (rest := []) ⟨hx, hb, hml, hown, hts⟩ (c_D_goes l dC dI cI cZ cJ dq dq8 dq9 dq10 dq11 dq12 dq13 dq14 dq15 dq18 dq19 dq20 s.heap.size d_thrown d_today d_cut d_aging d_saleFrom d_pieces d_orders d_piece d_order d_came d_worth d_used d_usedBy d_reservedFor d_reservedTo d_ran d_sum d_pieceDual d_orderDual d_table 1 1 1 1 N (r8, u9) hc) (cwV 4 hts (gV (w0 670 rfl) (w0 671 rfl) (w0 18 rfl) (w0 33 rfl) (w0 672 rfl)) rfl rfl rfl q_D_goes ⟨Nat.le_of_ble_eq_true rfl, Nat.le_of_ble_eq_true rfl⟩) (wr_preV hK hPc hDc hN 5 0 (R_D, F_D, 20) rfl rfl) rfl rfl hl.1 rfl (lv_room (Nat.le_of_ble_eq_true rfl)) d_D_orderOf_21 ⟨Nat.le_of_ble_eq_true rfl, Nat.le_of_ble_eq_true rfl⟩) hS (fun q _ h => hFc q h) hFc (fun r9 u t H1 locs ht hvm hw hB hz1 hk1 hS => ?_)
      subst hw
      obtain ⟨hP1, hK1, hD1⟩ := hB
      rw [ht] at hP1
      obtain ⟨hP, hD⟩ := va_join (wr := []) (w1 := [(dq, .inr (5, [.int u9, .int d_today, .int d_cut, .int d_aging, .int d_saleFrom, .int d_pieces, .int d_orders, .ref dq8, .ref dq9, .ref dq10, .ref dq11, .ref dq12, .ref dq13, .ref dq14, .ref dq15, .int d_ran, .int d_sum, .ref dq18, .ref dq19, .ref dq20])), (dq8, .inl (cI, 40, .inl d_piece)), (dq9, .inl (cI, 40, .inl d_order)), (dq10, .inl (cI, 10, .inl d_came)), (dq11, .inl (cI, 100, .inl d_worth)), (dq12, .inl (cZ, 10, .inl d_used)), (dq13, .inl (cI, 10, .inl d_usedBy)), (dq14, .inl (cI, 10, .inl d_reservedFor)), (dq15, .inl (cI, 10, .inl d_reservedTo)), (dq18, .inl (cI, 10, .inl d_pieceDual)), (dq19, .inl (cI, 10, .inl d_orderDual)), (dq20, .inl (cJ, 11264, .inr (.inl d_table)))]) hP hD [0, 1, 2, 3, 4, 5, 6, 7, 8, 9, 10, 11] [] rfl rfl (by decide) (by decide) hk1 hFc hP1 hD1
      generalize H1 = H at hP hS ⊢
      have hP : va_P (dC, dI) classes [(dq, .inr (5, [.int u9, .int d_today, .int d_cut, .int d_aging, .int d_saleFrom, .int d_pieces, .int d_orders, .ref dq8, .ref dq9, .ref dq10, .ref dq11, .ref dq12, .ref dq13, .ref dq14, .ref dq15, .int d_ran, .int d_sum, .ref dq18, .ref dq19, .ref dq20])), (dq8, .inl (cI, 40, .inl d_piece)), (dq9, .inl (cI, 40, .inl d_order)), (dq10, .inl (cI, 10, .inl d_came)), (dq11, .inl (cI, 100, .inl d_worth)), (dq12, .inl (cZ, 10, .inl d_used)), (dq13, .inl (cI, 10, .inl d_usedBy)), (dq14, .inl (cI, 10, .inl d_reservedFor)), (dq15, .inl (cI, 10, .inl d_reservedTo)), (dq18, .inl (cI, 10, .inl d_pieceDual)), (dq19, .inl (cI, 10, .inl d_orderDual)), (dq20, .inl (cJ, 11264, .inr (.inl d_table)))] H := hP
      have hD : va_D A [(dq, .inr (5, [.int u9, .int d_today, .int d_cut, .int d_aging, .int d_saleFrom, .int d_pieces, .int d_orders, .ref dq8, .ref dq9, .ref dq10, .ref dq11, .ref dq12, .ref dq13, .ref dq14, .ref dq15, .int d_ran, .int d_sum, .ref dq18, .ref dq19, .ref dq20])), (dq8, .inl (cI, 40, .inl d_piece)), (dq9, .inl (cI, 40, .inl d_order)), (dq10, .inl (cI, 10, .inl d_came)), (dq11, .inl (cI, 100, .inl d_worth)), (dq12, .inl (cZ, 10, .inl d_used)), (dq13, .inl (cI, 10, .inl d_usedBy)), (dq14, .inl (cI, 10, .inl d_reservedFor)), (dq15, .inl (cI, 10, .inl d_reservedTo)), (dq18, .inl (cI, 10, .inl d_pieceDual)), (dq19, .inl (cI, 10, .inl d_orderDual)), (dq20, .inl (cJ, 11264, .inr (.inl d_table)))] := hD
      clear hP1 hD1 hPc hDc hFc hk1 hz1
      refine lv_if_ne (tgt := 29) hx hb d_D_orderOf_24 (by decide) (fun c9 => ?_) (fun c9 => ?_)
      · replace hm := if_f c9 hm
        refine lv_iload_n hx hb d_D_orderOf_29 rfl (lv_at hl 2 rfl) ?_
        refine lv_istore_n (lv' := [(3, .int x2), (0, .ref dq), (1, .int x1), (2, .int x2)]) hx hb d_D_orderOf_30 rfl hl (by decide) rfl (fun ls hl => ?_)
        refine lv_iconst (v := 0) hx hb d_D_orderOf_31 (by decide) ?_
        refine lv_istore (lv' := [(4, .int 0), (3, .int x2), (0, .ref dq), (1, .int x1), (2, .int x2)]) hx hb d_D_orderOf_32 hl (by decide) rfl (fun ls hl => ?_)
        have key34 : ∀ (K : Int32 → Int32 → Int32 → Int32 → Int32 → Option (Int32 × Int32)) (_ : ∀ (y1a : Int32) (y2a : Int32) (y3a : Int32) (y4a : Int32) (d_throwna : Int32) (H : Heap) (locs : List Loc) (ls : Array Slot), lv_has ls 5 [(0, .ref dq), (1, .int y1a), (2, .int y2a), (3, .int y3a), (4, .int y4a)] → va_P (dC, dI) classes [(dq, .inr (5, [.int d_throwna, .int d_today, .int d_cut, .int d_aging, .int d_saleFrom, .int d_pieces, .int d_orders, .ref dq8, .ref dq9, .ref dq10, .ref dq11, .ref dq12, .ref dq13, .ref dq14, .ref dq15, .int d_ran, .int d_sum, .ref dq18, .ref dq19, .ref dq20])), (dq8, .inl (cI, 40, .inl d_piece)), (dq9, .inl (cI, 40, .inl d_order)), (dq10, .inl (cI, 10, .inl d_came)), (dq11, .inl (cI, 100, .inl d_worth)), (dq12, .inl (cZ, 10, .inl d_used)), (dq13, .inl (cI, 10, .inl d_usedBy)), (dq14, .inl (cI, 10, .inl d_reservedFor)), (dq15, .inl (cI, 10, .inl d_reservedTo)), (dq18, .inl (cI, 10, .inl d_pieceDual)), (dq19, .inl (cI, 10, .inl d_orderDual)), (dq20, .inl (cJ, 11264, .inr (.inl d_table)))] H → va_D A [(dq, .inr (5, [.int d_throwna, .int d_today, .int d_cut, .int d_aging, .int d_saleFrom, .int d_pieces, .int d_orders, .ref dq8, .ref dq9, .ref dq10, .ref dq11, .ref dq12, .ref dq13, .ref dq14, .ref dq15, .int d_ran, .int d_sum, .ref dq18, .ref dq19, .ref dq20])), (dq8, .inl (cI, 40, .inl d_piece)), (dq9, .inl (cI, 40, .inl d_order)), (dq10, .inl (cI, 10, .inl d_came)), (dq11, .inl (cI, 100, .inl d_worth)), (dq12, .inl (cZ, 10, .inl d_used)), (dq13, .inl (cI, 10, .inl d_usedBy)), (dq14, .inl (cI, 10, .inl d_reservedFor)), (dq15, .inl (cI, 10, .inl d_reservedTo)), (dq18, .inl (cI, 10, .inl d_pieceDual)), (dq19, .inl (cI, 10, .inl d_orderDual)), (dq20, .inl (cJ, 11264, .inr (.inl d_table)))] → va_S A s.heap H locs → K y1a y2a y3a y4a d_throwna = some res → W p l e (headSpec w_D_orderOf ({ frames := 2, cells := 0, slots := 0, locals := 43 } : Room)).room s m ([.ref dq, .int x1, .int x2] : List Value).toArray below meth c H locs 0 0 (MQ below (va_Qi (fun (x : Int32) (_ : Unit) => res.1 = x) (fun _ t => va_P (dC, dI) classes [(dq, .inr (5, [.int res.2, .int d_today, .int d_cut, .int d_aging, .int d_saleFrom, .int d_pieces, .int d_orders, .ref dq8, .ref dq9, .ref dq10, .ref dq11, .ref dq12, .ref dq13, .ref dq14, .ref dq15, .int d_ran, .int d_sum, .ref dq18, .ref dq19, .ref dq20])), (dq8, .inl (cI, 40, .inl d_piece)), (dq9, .inl (cI, 40, .inl d_order)), (dq10, .inl (cI, 10, .inl d_came)), (dq11, .inl (cI, 100, .inl d_worth)), (dq12, .inl (cZ, 10, .inl d_used)), (dq13, .inl (cI, 10, .inl d_usedBy)), (dq14, .inl (cI, 10, .inl d_reservedFor)), (dq15, .inl (cI, 10, .inl d_reservedTo)), (dq18, .inl (cI, 10, .inl d_pieceDual)), (dq19, .inl (cI, 10, .inl d_orderDual)), (dq20, .inl (cJ, 11264, .inr (.inl d_table)))] t.heap ∧ va_K (dC, dI) classes [(cI, .int), (cZ, .boolean), (cJ, .long)] t ∧ va_D A [(dq, .inr (5, [.int res.2, .int d_today, .int d_cut, .int d_aging, .int d_saleFrom, .int d_pieces, .int d_orders, .ref dq8, .ref dq9, .ref dq10, .ref dq11, .ref dq12, .ref dq13, .ref dq14, .ref dq15, .int d_ran, .int d_sum, .ref dq18, .ref dq19, .ref dq20])), (dq8, .inl (cI, 40, .inl d_piece)), (dq9, .inl (cI, 40, .inl d_order)), (dq10, .inl (cI, 10, .inl d_came)), (dq11, .inl (cI, 100, .inl d_worth)), (dq12, .inl (cZ, 10, .inl d_used)), (dq13, .inl (cI, 10, .inl d_usedBy)), (dq14, .inl (cI, 10, .inl d_reservedFor)), (dq15, .inl (cI, 10, .inl d_reservedTo)), (dq18, .inl (cI, 10, .inl d_pieceDual)), (dq19, .inl (cI, 10, .inl d_orderDual)), (dq20, .inl (cJ, 11264, .inr (.inl d_table)))]) A) ([.ref dq, .int x1, .int x2] : List Value).toArray s 0 0 A) (F0 m 73 ls [])) (n : Nat) (y1a : Int32) (y2a : Int32) (y3a : Int32) (y4a : Int32) (d_throwna : Int32) (H : Heap) (locs : List Loc) (ls : Array Slot), lv_has ls 5 [(0, .ref dq), (1, .int y1a), (2, .int y2a), (3, .int y3a), (4, .int y4a)] → va_P (dC, dI) classes [(dq, .inr (5, [.int d_throwna, .int d_today, .int d_cut, .int d_aging, .int d_saleFrom, .int d_pieces, .int d_orders, .ref dq8, .ref dq9, .ref dq10, .ref dq11, .ref dq12, .ref dq13, .ref dq14, .ref dq15, .int d_ran, .int d_sum, .ref dq18, .ref dq19, .ref dq20])), (dq8, .inl (cI, 40, .inl d_piece)), (dq9, .inl (cI, 40, .inl d_order)), (dq10, .inl (cI, 10, .inl d_came)), (dq11, .inl (cI, 100, .inl d_worth)), (dq12, .inl (cZ, 10, .inl d_used)), (dq13, .inl (cI, 10, .inl d_usedBy)), (dq14, .inl (cI, 10, .inl d_reservedFor)), (dq15, .inl (cI, 10, .inl d_reservedTo)), (dq18, .inl (cI, 10, .inl d_pieceDual)), (dq19, .inl (cI, 10, .inl d_orderDual)), (dq20, .inl (cJ, 11264, .inr (.inl d_table)))] H → va_D A [(dq, .inr (5, [.int d_throwna, .int d_today, .int d_cut, .int d_aging, .int d_saleFrom, .int d_pieces, .int d_orders, .ref dq8, .ref dq9, .ref dq10, .ref dq11, .ref dq12, .ref dq13, .ref dq14, .ref dq15, .int d_ran, .int d_sum, .ref dq18, .ref dq19, .ref dq20])), (dq8, .inl (cI, 40, .inl d_piece)), (dq9, .inl (cI, 40, .inl d_order)), (dq10, .inl (cI, 10, .inl d_came)), (dq11, .inl (cI, 100, .inl d_worth)), (dq12, .inl (cZ, 10, .inl d_used)), (dq13, .inl (cI, 10, .inl d_usedBy)), (dq14, .inl (cI, 10, .inl d_reservedFor)), (dq15, .inl (cI, 10, .inl d_reservedTo)), (dq18, .inl (cI, 10, .inl d_pieceDual)), (dq19, .inl (cI, 10, .inl d_orderDual)), (dq20, .inl (cJ, 11264, .inr (.inl d_table)))] → va_S A s.heap H locs → L_D_orderOf_34 N d_orders d_usedBy K n y1a y2a y3a y4a d_throwna = some res → W p l e (headSpec w_D_orderOf ({ frames := 2, cells := 0, slots := 0, locals := 43 } : Room)).room s m ([.ref dq, .int x1, .int x2] : List Value).toArray below meth c H locs 0 0 (MQ below (va_Qi (fun (x : Int32) (_ : Unit) => res.1 = x) (fun _ t => va_P (dC, dI) classes [(dq, .inr (5, [.int res.2, .int d_today, .int d_cut, .int d_aging, .int d_saleFrom, .int d_pieces, .int d_orders, .ref dq8, .ref dq9, .ref dq10, .ref dq11, .ref dq12, .ref dq13, .ref dq14, .ref dq15, .int d_ran, .int d_sum, .ref dq18, .ref dq19, .ref dq20])), (dq8, .inl (cI, 40, .inl d_piece)), (dq9, .inl (cI, 40, .inl d_order)), (dq10, .inl (cI, 10, .inl d_came)), (dq11, .inl (cI, 100, .inl d_worth)), (dq12, .inl (cZ, 10, .inl d_used)), (dq13, .inl (cI, 10, .inl d_usedBy)), (dq14, .inl (cI, 10, .inl d_reservedFor)), (dq15, .inl (cI, 10, .inl d_reservedTo)), (dq18, .inl (cI, 10, .inl d_pieceDual)), (dq19, .inl (cI, 10, .inl d_orderDual)), (dq20, .inl (cJ, 11264, .inr (.inl d_table)))] t.heap ∧ va_K (dC, dI) classes [(cI, .int), (cZ, .boolean), (cJ, .long)] t ∧ va_D A [(dq, .inr (5, [.int res.2, .int d_today, .int d_cut, .int d_aging, .int d_saleFrom, .int d_pieces, .int d_orders, .ref dq8, .ref dq9, .ref dq10, .ref dq11, .ref dq12, .ref dq13, .ref dq14, .ref dq15, .int d_ran, .int d_sum, .ref dq18, .ref dq19, .ref dq20])), (dq8, .inl (cI, 40, .inl d_piece)), (dq9, .inl (cI, 40, .inl d_order)), (dq10, .inl (cI, 10, .inl d_came)), (dq11, .inl (cI, 100, .inl d_worth)), (dq12, .inl (cZ, 10, .inl d_used)), (dq13, .inl (cI, 10, .inl d_usedBy)), (dq14, .inl (cI, 10, .inl d_reservedFor)), (dq15, .inl (cI, 10, .inl d_reservedTo)), (dq18, .inl (cI, 10, .inl d_pieceDual)), (dq19, .inl (cI, 10, .inl d_orderDual)), (dq20, .inl (cJ, 11264, .inr (.inl d_table)))]) A) ([.ref dq, .int x1, .int x2] : List Value).toArray s 0 0 A) (F0 m 34 ls []) := by
          intro K hK34 n
          induction n with
          | zero => intro y1a y2a y3a y4a d_throwna H locs ls hl hP hD hS hm; exact absurd hm (by simp [L_D_orderOf_34])
          | succ n ih34 =>
            intro y1a y2a y3a y4a d_throwna H locs ls hl hP hD hS hm
            rw [L_D_orderOf_34] at hm
            refine lv_iload hx hb d_D_orderOf_34 (lv_at hl 4 rfl) ?_
            refine lv_aload_n hx hb d_D_orderOf_36 rfl (lv_at hl 0 rfl) ?_
            refine va_get (D := (dC, dI)) (ci := 5) (v := .int d_orders) (C := R_D) (T := F_D) (N := 20) hx hb hts hk1 hown hK hP 0 rfl rfl 6 (by decide) hk0 (fun _ h9 => h9) rfl d_D_orderOf_37 ?_
            refine lv_icmp_ge (tgt := 73) hx hb d_D_orderOf_40 (by decide) (fun c9 => ?_) (fun c9 => ?_)
            · replace hm := if_t c9 hm
              have hl : lv_has ls 5 [(0, .ref dq), (1, .int y1a), (2, .int y2a), (3, .int y3a), (4, .int y4a)] := lv_sub hl [0, 1, 2, 3, 4] rfl
              exact hK34 y1a y2a y3a y4a d_throwna _ _ ls hl hP hD hS hm
            · replace hm := if_f c9 hm
              refine lv_aload_n hx hb d_D_orderOf_43 rfl (lv_at hl 0 rfl) ?_
              refine va_get (D := (dC, dI)) (ci := 5) (v := .ref dq13) (C := R_D) (T := F_D) (N := 20) hx hb hts hk1 hown hK hP 0 rfl rfl 12 (by decide) hk2 (fun _ h9 => h9) rfl d_D_orderOf_44 ?_
              refine lv_iload hx hb d_D_orderOf_47 (lv_at hl 4 rfl) ?_
              obtain ⟨h9, hm⟩ := gd hm
              refine va_iald hx hb hK hP 6 0 rfl rfl h9 d_D_orderOf_49 ?_
              refine lv_iload_n hx hb d_D_orderOf_50 rfl (lv_at hl 1 rfl) ?_
              refine lv_icmp_eq (tgt := 57) hx hb d_D_orderOf_51 (by decide) (fun c9 => ?_) (fun c9 => ?_)
              · replace hm := if_t c9 hm
                refine lv_iload_n hx hb d_D_orderOf_57 rfl (lv_at hl 3 rfl) ?_
                refine lv_if_ne (tgt := 64) hx hb d_D_orderOf_58 (by decide) (fun c9 => ?_) (fun c9 => ?_)
                · replace hm := if_f c9 hm
                  refine lv_iinc (v := (y3a + (-1))) (lv' := [(3, .int (y3a + (-1))), (0, .ref dq), (1, .int y1a), (2, .int y2a), (4, .int y4a)]) hx hb d_D_orderOf_64 hl (k := 3) rfl rfl (by decide) rfl (fun ls hl => ?_)
                  refine lv_iinc (v := (y4a + 1)) (lv' := [(4, .int (y4a + 1)), (3, .int (y3a + (-1))), (0, .ref dq), (1, .int y1a), (2, .int y2a)]) hx hb d_D_orderOf_67 hl (k := 4) rfl rfl (by decide) rfl (fun ls hl => ?_)
                  refine lv_goto (tgt := 34) hx hb d_D_orderOf_70 (by decide) ?_
                  have hl : lv_has ls 5 [(0, .ref dq), (1, .int y1a), (2, .int y2a), (3, .int (y3a + (-1))), (4, .int (y4a + 1))] := lv_sub hl [2, 3, 4, 1, 0] rfl
                  exact ih34 y1a y2a (y3a + (-1)) (y4a + 1) d_throwna _ _ ls hl hP hD hS hm
                · replace hm := if_t c9 hm
                  refine lv_iload hx hb d_D_orderOf_61 (lv_at hl 4 rfl) ?_
                  cases hm
                  refine W.widen (k := 0) (n := 0) (Nat.le_of_ble_eq_true rfl) (Nat.le_of_ble_eq_true rfl) ?_
                  exact W.iret hx hb hr (fun t ht hW => ⟨⟨_, (), rfl, rfl, by rw [ht]; exact hP, va_K.moved hW.alike hK, hD⟩, hS.F ht⟩) hS.2.2 d_D_orderOf_63
              · replace hm := if_f c9 hm
                refine lv_goto (tgt := 67) hx hb d_D_orderOf_54 (by decide) ?_
                refine lv_iinc (v := (y4a + 1)) (lv' := [(4, .int (y4a + 1)), (0, .ref dq), (1, .int y1a), (2, .int y2a), (3, .int y3a)]) hx hb d_D_orderOf_67 hl (k := 4) rfl rfl (by decide) rfl (fun ls hl => ?_)
                refine lv_goto (tgt := 34) hx hb d_D_orderOf_70 (by decide) ?_
                have hl : lv_has ls 5 [(0, .ref dq), (1, .int y1a), (2, .int y2a), (3, .int y3a), (4, .int (y4a + 1))] := lv_sub hl [1, 2, 3, 4, 0] rfl
                exact ih34 y1a y2a y3a (y4a + 1) d_throwna _ _ ls hl hP hD hS hm
        have hl : lv_has ls 5 [(0, .ref dq), (1, .int x1), (2, .int x2), (3, .int x2), (4, .int 0)] := lv_sub hl [2, 3, 4, 1, 0] rfl
        refine key34 _ (fun y1a y2a y3a y4a d_throwna H locs ls hl hP hD hS hm => ?_) N x1 x2 x2 0 u9 _ _ ls hl hP hD hS hm
        try dsimp only at hm
        refine lv_iconst (v := (-1)) hx hb d_D_orderOf_73 (by decide) ?_
        cases hm
        refine W.widen (k := 0) (n := 0) (Nat.le_of_ble_eq_true rfl) (Nat.le_of_ble_eq_true rfl) ?_
        exact W.iret hx hb hr (fun t ht hW => ⟨⟨_, (), rfl, rfl, by rw [ht]; exact hP, va_K.moved hW.alike hK, hD⟩, hS.F ht⟩) hS.2.2 d_D_orderOf_74
      · replace hm := if_t c9 hm
        refine lv_iconst (v := 0) hx hb d_D_orderOf_27 (by decide) ?_
        cases hm
        refine W.widen (k := 0) (n := 0) (Nat.le_of_ble_eq_true rfl) (Nat.le_of_ble_eq_true rfl) ?_
        exact W.iret hx hb hr (fun t ht hW => ⟨⟨_, (), rfl, rfl, by rw [ht]; exact hP, va_K.moved hW.alike hK, hD⟩, hS.F ht⟩) hS.2.2 d_D_orderOf_28

def w_D_reserve : List Cond := .code y_D_reserve b_D_reserve 6 none :: W0
theorem q_D_reserve : y_D_reserve.cls = R_D ∧ y_D_reserve.cls ≠ "java/lang/invoke/MethodHandle" ∧ y_D_reserve.cls ≠ "java/lang/invoke/VarHandle" ∧ (parseMethodDescriptor y_D_reserve.desc).map (fun d => d.parameters.length) = some 3 := by decide +kernel
def m_D_reserve (N : Nat) (d_today : Int32) (d_pieces : Int32) (d_orders : Int32) (d_piece : Nat → Int32) (d_order : Nat → Int32) (d_used : Nat → Int32) (d_usedBy : Nat → Int32) (d_reservedFor : Nat → Int32) (d_reservedTo : Nat → Int32) (x1 : Int32) (x2 : Int32) (x3 : Int32) : Option (Int32 × (Nat → Int32) × (Nat → Int32)) :=
  ((m_D_isPiece d_pieces x1).bind fun r1 =>
  (if r1 = 0 then
    ((m_D_in x3 d_today 9999).bind fun r2 =>
      ((m_D_goes 0 0 r2 0).bind fun (r3, u4) =>
        (if r3 = 0 then
          some (u4, d_reservedFor, d_reservedTo)
         else
          (if x1 < 0 ∨ 10 ≤ x1.toNatClampNeg then none else
          (if x1 < 0 ∨ 10 ≤ x1.toNatClampNeg then none else
          some (u4, (upd d_reservedFor x1.toNatClampNeg x2), (upd d_reservedTo x1.toNatClampNeg x3)))))))
   else
    ((m_D_isOrder d_orders x2).bind fun r7 =>
      (if r7 = 0 then
        ((m_D_in x3 d_today 9999).bind fun r8 =>
          ((m_D_goes 0 0 r8 0).bind fun (r9, u10) =>
            (if r9 = 0 then
              some (u10, d_reservedFor, d_reservedTo)
             else
              (if x1 < 0 ∨ 10 ≤ x1.toNatClampNeg then none else
              (if x1 < 0 ∨ 10 ≤ x1.toNatClampNeg then none else
              some (u10, (upd d_reservedFor x1.toNatClampNeg x2), (upd d_reservedTo x1.toNatClampNeg x3)))))))
       else
        (if x1 < 0 ∨ 10 ≤ x1.toNatClampNeg then none else
        (if (d_used x1.toNatClampNeg) = 0 then
          (if x2 < 0 ∨ 10 ≤ x2.toNatClampNeg then none else
          (if 0 ≤ (d_usedBy x2.toNatClampNeg) then
            ((m_D_in x3 d_today 9999).bind fun r23 =>
              ((m_D_isFit d_piece d_order x1 x2).bind fun r24 =>
                (if r24 = 0 then
                  ((m_D_goes 1 0 r23 0).bind fun (r25, u26) =>
                    (if r25 = 0 then
                      some (u26, d_reservedFor, d_reservedTo)
                     else
                      (if x1 < 0 ∨ 10 ≤ x1.toNatClampNeg then none else
                      (if x1 < 0 ∨ 10 ≤ x1.toNatClampNeg then none else
                      some (u26, (upd d_reservedFor x1.toNatClampNeg x2), (upd d_reservedTo x1.toNatClampNeg x3))))))
                 else
                  ((m_D_goes 1 0 r23 1).bind fun (r28, u29) =>
                    (if r28 = 0 then
                      some (u29, d_reservedFor, d_reservedTo)
                     else
                      (if x1 < 0 ∨ 10 ≤ x1.toNatClampNeg then none else
                      (if x1 < 0 ∨ 10 ≤ x1.toNatClampNeg then none else
                      some (u29, (upd d_reservedFor x1.toNatClampNeg x2), (upd d_reservedTo x1.toNatClampNeg x3)))))))))
           else
            ((m_D_reservation d_today d_reservedFor d_reservedTo x1).bind fun r33 =>
              (if 0 ≤ r33 then
                ((m_D_in x3 d_today 9999).bind fun r34 =>
                  ((m_D_isFit d_piece d_order x1 x2).bind fun r35 =>
                    (if r35 = 0 then
                      ((m_D_goes 1 0 r34 0).bind fun (r36, u37) =>
                        (if r36 = 0 then
                          some (u37, d_reservedFor, d_reservedTo)
                         else
                          (if x1 < 0 ∨ 10 ≤ x1.toNatClampNeg then none else
                          (if x1 < 0 ∨ 10 ≤ x1.toNatClampNeg then none else
                          some (u37, (upd d_reservedFor x1.toNatClampNeg x2), (upd d_reservedTo x1.toNatClampNeg x3))))))
                     else
                      ((m_D_goes 1 0 r34 1).bind fun (r39, u40) =>
                        (if r39 = 0 then
                          some (u40, d_reservedFor, d_reservedTo)
                         else
                          (if x1 < 0 ∨ 10 ≤ x1.toNatClampNeg then none else
                          (if x1 < 0 ∨ 10 ≤ x1.toNatClampNeg then none else
                          some (u40, (upd d_reservedFor x1.toNatClampNeg x2), (upd d_reservedTo x1.toNatClampNeg x3)))))))))
               else
                ((m_D_holder N d_today d_pieces d_reservedFor d_reservedTo x2).bind fun r44 =>
                  (if 0 ≤ r44 then
                    ((m_D_in x3 d_today 9999).bind fun r45 =>
                      ((m_D_isFit d_piece d_order x1 x2).bind fun r46 =>
                        (if r46 = 0 then
                          ((m_D_goes 1 0 r45 0).bind fun (r47, u48) =>
                            (if r47 = 0 then
                              some (u48, d_reservedFor, d_reservedTo)
                             else
                              (if x1 < 0 ∨ 10 ≤ x1.toNatClampNeg then none else
                              (if x1 < 0 ∨ 10 ≤ x1.toNatClampNeg then none else
                              some (u48, (upd d_reservedFor x1.toNatClampNeg x2), (upd d_reservedTo x1.toNatClampNeg x3))))))
                         else
                          ((m_D_goes 1 0 r45 1).bind fun (r50, u51) =>
                            (if r50 = 0 then
                              some (u51, d_reservedFor, d_reservedTo)
                             else
                              (if x1 < 0 ∨ 10 ≤ x1.toNatClampNeg then none else
                              (if x1 < 0 ∨ 10 ≤ x1.toNatClampNeg then none else
                              some (u51, (upd d_reservedFor x1.toNatClampNeg x2), (upd d_reservedTo x1.toNatClampNeg x3)))))))))
                   else
                    ((m_D_in x3 d_today 9999).bind fun r55 =>
                      ((m_D_isFit d_piece d_order x1 x2).bind fun r56 =>
                        (if r56 = 0 then
                          ((m_D_goes 1 1 r55 0).bind fun (r57, u58) =>
                            (if r57 = 0 then
                              some (u58, d_reservedFor, d_reservedTo)
                             else
                              (if x1 < 0 ∨ 10 ≤ x1.toNatClampNeg then none else
                              (if x1 < 0 ∨ 10 ≤ x1.toNatClampNeg then none else
                              some (u58, (upd d_reservedFor x1.toNatClampNeg x2), (upd d_reservedTo x1.toNatClampNeg x3))))))
                         else
                          ((m_D_goes 1 1 r55 1).bind fun (r60, u61) =>
                            (if r60 = 0 then
                              some (u61, d_reservedFor, d_reservedTo)
                             else
                              (if x1 < 0 ∨ 10 ≤ x1.toNatClampNeg then none else
                              (if x1 < 0 ∨ 10 ≤ x1.toNatClampNeg then none else
                              some (u61, (upd d_reservedFor x1.toNatClampNeg x2), (upd d_reservedTo x1.toNatClampNeg x3)))))))))))))))
         else
          ((m_D_in x3 d_today 9999).bind fun r13 =>
            ((m_D_isFit d_piece d_order x1 x2).bind fun r14 =>
              (if r14 = 0 then
                ((m_D_goes 1 0 r13 0).bind fun (r15, u16) =>
                  (if r15 = 0 then
                    some (u16, d_reservedFor, d_reservedTo)
                   else
                    (if x1 < 0 ∨ 10 ≤ x1.toNatClampNeg then none else
                    (if x1 < 0 ∨ 10 ≤ x1.toNatClampNeg then none else
                    some (u16, (upd d_reservedFor x1.toNatClampNeg x2), (upd d_reservedTo x1.toNatClampNeg x3))))))
               else
                ((m_D_goes 1 0 r13 1).bind fun (r18, u19) =>
                  (if r18 = 0 then
                    some (u19, d_reservedFor, d_reservedTo)
                   else
                    (if x1 < 0 ∨ 10 ≤ x1.toNatClampNeg then none else
                    (if x1 < 0 ∨ 10 ≤ x1.toNatClampNeg then none else
                    some (u19, (upd d_reservedFor x1.toNatClampNeg x2), (upd d_reservedTo x1.toNatClampNeg x3)))))))))))))))
set_option maxHeartbeats 4000000 in
set_option maxRecDepth 100000 in
theorem c_D_reserve (l : Launch) (dC : Nat → ClassId) (dI : Nat → Nat → Nat) (cI cZ cJ : ClassId) (dq dq8 dq9 dq10 dq11 dq12 dq13 dq14 dq15 dq18 dq19 dq20 : Nat) (sz : Nat) (d_thrown : Int32) (d_today : Int32) (d_cut : Int32) (d_aging : Int32) (d_saleFrom : Int32) (d_pieces : Int32) (d_orders : Int32) (d_piece : Nat → Int32) (d_order : Nat → Int32) (d_came : Nat → Int32) (d_worth : Nat → Int32) (d_used : Nat → Int32) (d_usedBy : Nat → Int32) (d_reservedFor : Nat → Int32) (d_reservedTo : Nat → Int32) (d_ran : Int32) (d_sum : Int32) (d_pieceDual : Nat → Int32) (d_orderDual : Nat → Int32) (d_table : Nat → Int64) (x1 : Int32) (x2 : Int32) (x3 : Int32) (N : Nat) (res : Int32 × (Nat → Int32) × (Nat → Int32)) (hm : m_D_reserve N d_today d_pieces d_orders d_piece d_order d_used d_usedBy d_reservedFor d_reservedTo x1 x2 x3 = some res) : Met l y_D_reserve w_D_reserve ({ frames := 2, cells := 0, slots := 0, locals := 43 } : Room) (va_Pc [.ref dq, .int x1, .int x2, .int x3] (fun U => U.heap.size = sz ∧ va_P (dC, dI) classes [(dq, .inr (5, [.int d_thrown, .int d_today, .int d_cut, .int d_aging, .int d_saleFrom, .int d_pieces, .int d_orders, .ref dq8, .ref dq9, .ref dq10, .ref dq11, .ref dq12, .ref dq13, .ref dq14, .ref dq15, .int d_ran, .int d_sum, .ref dq18, .ref dq19, .ref dq20])), (dq8, .inl (cI, 40, .inl d_piece)), (dq9, .inl (cI, 40, .inl d_order)), (dq10, .inl (cI, 10, .inl d_came)), (dq11, .inl (cI, 100, .inl d_worth)), (dq12, .inl (cZ, 10, .inl d_used)), (dq13, .inl (cI, 10, .inl d_usedBy)), (dq14, .inl (cI, 10, .inl d_reservedFor)), (dq15, .inl (cI, 10, .inl d_reservedTo)), (dq18, .inl (cI, 10, .inl d_pieceDual)), (dq19, .inl (cI, 10, .inl d_orderDual)), (dq20, .inl (cJ, 11264, .inr (.inl d_table)))] U.heap ∧ va_K (dC, dI) classes [(cI, .int), (cZ, .boolean), (cJ, .long)] U ∧ va_D (fun _ => True) [(dq, .inr (5, [.int d_thrown, .int d_today, .int d_cut, .int d_aging, .int d_saleFrom, .int d_pieces, .int d_orders, .ref dq8, .ref dq9, .ref dq10, .ref dq11, .ref dq12, .ref dq13, .ref dq14, .ref dq15, .int d_ran, .int d_sum, .ref dq18, .ref dq19, .ref dq20])), (dq8, .inl (cI, 40, .inl d_piece)), (dq9, .inl (cI, 40, .inl d_order)), (dq10, .inl (cI, 10, .inl d_came)), (dq11, .inl (cI, 100, .inl d_worth)), (dq12, .inl (cZ, 10, .inl d_used)), (dq13, .inl (cI, 10, .inl d_usedBy)), (dq14, .inl (cI, 10, .inl d_reservedFor)), (dq15, .inl (cI, 10, .inl d_reservedTo)), (dq18, .inl (cI, 10, .inl d_pieceDual)), (dq19, .inl (cI, 10, .inl d_orderDual)), (dq20, .inl (cJ, 11264, .inr (.inl d_table)))] ∧ nw U)) (va_Qv (fun _ : Unit => True) (fun _ t => va_P (dC, dI) classes [(dq, .inr (5, [.int res.1, .int d_today, .int d_cut, .int d_aging, .int d_saleFrom, .int d_pieces, .int d_orders, .ref dq8, .ref dq9, .ref dq10, .ref dq11, .ref dq12, .ref dq13, .ref dq14, .ref dq15, .int d_ran, .int d_sum, .ref dq18, .ref dq19, .ref dq20])), (dq8, .inl (cI, 40, .inl d_piece)), (dq9, .inl (cI, 40, .inl d_order)), (dq10, .inl (cI, 10, .inl d_came)), (dq11, .inl (cI, 100, .inl d_worth)), (dq12, .inl (cZ, 10, .inl d_used)), (dq13, .inl (cI, 10, .inl d_usedBy)), (dq14, .inl (cI, 10, .inl res.2.1)), (dq15, .inl (cI, 10, .inl res.2.2)), (dq18, .inl (cI, 10, .inl d_pieceDual)), (dq19, .inl (cI, 10, .inl d_orderDual)), (dq20, .inl (cJ, 11264, .inr (.inl d_table)))] t.heap ∧ va_K (dC, dI) classes [(cI, .int), (cZ, .boolean), (cJ, .long)] t ∧ va_D (va_A [(dq, .inr (5, [.int d_thrown, .int d_today, .int d_cut, .int d_aging, .int d_saleFrom, .int d_pieces, .int d_orders, .ref dq8, .ref dq9, .ref dq10, .ref dq11, .ref dq12, .ref dq13, .ref dq14, .ref dq15, .int d_ran, .int d_sum, .ref dq18, .ref dq19, .ref dq20])), (dq8, .inl (cI, 40, .inl d_piece)), (dq9, .inl (cI, 40, .inl d_order)), (dq10, .inl (cI, 10, .inl d_came)), (dq11, .inl (cI, 100, .inl d_worth)), (dq12, .inl (cZ, 10, .inl d_used)), (dq13, .inl (cI, 10, .inl d_usedBy)), (dq14, .inl (cI, 10, .inl d_reservedFor)), (dq15, .inl (cI, 10, .inl d_reservedTo)), (dq18, .inl (cI, 10, .inl d_pieceDual)), (dq19, .inl (cI, 10, .inl d_orderDual)), (dq20, .inl (cJ, 11264, .inr (.inl d_table)))] sz) [(dq, .inr (5, [.int res.1, .int d_today, .int d_cut, .int d_aging, .int d_saleFrom, .int d_pieces, .int d_orders, .ref dq8, .ref dq9, .ref dq10, .ref dq11, .ref dq12, .ref dq13, .ref dq14, .ref dq15, .int d_ran, .int d_sum, .ref dq18, .ref dq19, .ref dq20])), (dq8, .inl (cI, 40, .inl d_piece)), (dq9, .inl (cI, 40, .inl d_order)), (dq10, .inl (cI, 10, .inl d_came)), (dq11, .inl (cI, 100, .inl d_worth)), (dq12, .inl (cZ, 10, .inl d_used)), (dq13, .inl (cI, 10, .inl d_usedBy)), (dq14, .inl (cI, 10, .inl res.2.1)), (dq15, .inl (cI, 10, .inl res.2.2)), (dq18, .inl (cI, 10, .inl d_pieceDual)), (dq19, .inl (cI, 10, .inl d_orderDual)), (dq20, .inl (cJ, 11264, .inr (.inl d_table)))]) (va_A [(dq, .inr (5, [.int d_thrown, .int d_today, .int d_cut, .int d_aging, .int d_saleFrom, .int d_pieces, .int d_orders, .ref dq8, .ref dq9, .ref dq10, .ref dq11, .ref dq12, .ref dq13, .ref dq14, .ref dq15, .int d_ran, .int d_sum, .ref dq18, .ref dq19, .ref dq20])), (dq8, .inl (cI, 40, .inl d_piece)), (dq9, .inl (cI, 40, .inl d_order)), (dq10, .inl (cI, 10, .inl d_came)), (dq11, .inl (cI, 100, .inl d_worth)), (dq12, .inl (cZ, 10, .inl d_used)), (dq13, .inl (cI, 10, .inl d_usedBy)), (dq14, .inl (cI, 10, .inl d_reservedFor)), (dq15, .inl (cI, 10, .inl d_reservedTo)), (dq18, .inl (cI, 10, .inl d_pieceDual)), (dq19, .inl (cI, 10, .inl d_orderDual)), (dq20, .inl (cJ, 11264, .inr (.inl d_table)))] sz)) 0 0 (va_A [(dq, .inr (5, [.int d_thrown, .int d_today, .int d_cut, .int d_aging, .int d_saleFrom, .int d_pieces, .int d_orders, .ref dq8, .ref dq9, .ref dq10, .ref dq11, .ref dq12, .ref dq13, .ref dq14, .ref dq15, .int d_ran, .int d_sum, .ref dq18, .ref dq19, .ref dq20])), (dq8, .inl (cI, 40, .inl d_piece)), (dq9, .inl (cI, 40, .inl d_order)), (dq10, .inl (cI, 10, .inl d_came)), (dq11, .inl (cI, 100, .inl d_worth)), (dq12, .inl (cZ, 10, .inl d_used)), (dq13, .inl (cI, 10, .inl d_usedBy)), (dq14, .inl (cI, 10, .inl d_reservedFor)), (dq15, .inl (cI, 10, .inl d_reservedTo)), (dq18, .inl (cI, 10, .inl d_pieceDual)), (dq19, .inl (cI, 10, .inl d_orderDual)), (dq20, .inl (cJ, 11264, .inr (.inl d_table)))] sz) := by
  unfold m_D_reserve at hm
  refine Met.ofW (cc := b_D_reserve) (maxL := 6) (ret := none) (by decide) rfl ?_
  intro p e s m args below meth c s₁ B hml hv
  obtain ⟨rfl, hsz, hP, hK, hD0, hN⟩ := hv
  have hx := B.exec
  have hb := B.bytes
  have hr := B.returns
  have hts := atoms_spec (ws := w_D_reserve) B.pre
  have hown : s.vm.findClass R_D = some m.cls := findClass_of_methodNamed B.named
  have hlocks := B.notSynchronized
  subst hsz
  have hD := hD0.self (sz := s.heap.size)
  generalize hAe : va_A [(dq, .inr (5, [.int d_thrown, .int d_today, .int d_cut, .int d_aging, .int d_saleFrom, .int d_pieces, .int d_orders, .ref dq8, .ref dq9, .ref dq10, .ref dq11, .ref dq12, .ref dq13, .ref dq14, .ref dq15, .int d_ran, .int d_sum, .ref dq18, .ref dq19, .ref dq20])), (dq8, .inl (cI, 40, .inl d_piece)), (dq9, .inl (cI, 40, .inl d_order)), (dq10, .inl (cI, 10, .inl d_came)), (dq11, .inl (cI, 100, .inl d_worth)), (dq12, .inl (cZ, 10, .inl d_used)), (dq13, .inl (cI, 10, .inl d_usedBy)), (dq14, .inl (cI, 10, .inl d_reservedFor)), (dq15, .inl (cI, 10, .inl d_reservedTo)), (dq18, .inl (cI, 10, .inl d_pieceDual)), (dq19, .inl (cI, 10, .inl d_orderDual)), (dq20, .inl (cJ, 11264, .inr (.inl d_table)))] s.heap.size = A at hD ⊢
  have hA : ∀ q : Nat, s.heap.size ≤ q → A q := fun q h => by rw [← hAe]; exact Or.inr h
  have hS : va_S A s.heap s.heap [] := va_S.rf
  have hk0 := hts (.fieldLink R_D 70 "SurplusMatchModel" "today" "I") (List.mem_cons_of_mem _ (w0 594 rfl))
  have hk1 : ∀ w ∈ w_D, w ∈ w_D_reserve := fun w h => List.mem_cons_of_mem _ (i_D w h)
  have hk2 := hts (.fieldLink R_D 33 "SurplusMatchModel" "reservedFor" "[I") (List.mem_cons_of_mem _ (w0 606 rfl))
  have hk3 := hts (.fieldLink R_D 36 "SurplusMatchModel" "reservedTo" "[I") (List.mem_cons_of_mem _ (w0 607 rfl))
  have hk4 := hts (.fieldLink R_D 26 "SurplusMatchModel" "used" "[Z") (List.mem_cons_of_mem _ (w0 604 rfl))
  have hk5 := hts (.fieldLink R_D 30 "SurplusMatchModel" "usedBy" "[I") (List.mem_cons_of_mem _ (w0 605 rfl))
  have hl := lv_entry ([.ref dq, .int x1, .int x2, .int x3]) (n := 6) (Nat.le_of_ble_eq_true rfl)
  rw [lg_entry_eq]
  generalize (lg_sl ([.ref dq, .int x1, .int x2, .int x3]) ++ List.replicate (6 - (lg_sl ([.ref dq, .int x1, .int x2, .int x3])).length) Slot.unset).toArray = ls at hl ⊢
  have hl : lv_has ls 6 [(0, .ref dq), (1, .int x1), (2, .int x2), (3, .int x3)] := hl
  refine lv_aload_n hx hb d_D_reserve_0 rfl (lv_at hl 0 rfl) ?_
  refine lv_iload_n hx hb d_D_reserve_1 rfl (lv_at hl 1 rfl) ?_
  obtain ⟨r1, hc, hm⟩ := bd hm
  try dsimp only at hm
  refine vp_callSi (W.runV (As := [.int x1]) (rest := []) ⟨hx, hb, hml, hown, hts⟩ (c_D_isPiece l dC dI cI cZ cJ dq dq8 dq9 dq10 dq11 dq12 dq13 dq14 dq15 dq18 dq19 dq20 d_thrown d_today d_cut d_aging d_saleFrom d_pieces d_orders d_piece d_order d_came d_worth d_used d_usedBy d_reservedFor d_reservedTo d_ran d_sum d_pieceDual d_orderDual d_table x1 N r1 hc) (cwV 1 hts (gV (w0 681 rfl) (w0 682 rfl) (w0 19 rfl) (w0 33 rfl) (w0 683 rfl)) rfl rfl rfl q_D_isPiece ⟨Nat.le_of_ble_eq_true rfl, Nat.le_of_ble_eq_true rfl⟩) (ro_preV [0, 1, 2, 3, 4, 5, 6, 7, 8, 9, 10, 11] rfl hK hP hN 5 0 (R_D, F_D, 20) rfl rfl) rfl rfl hl.1 rfl (lv_room (Nat.le_of_ble_eq_true rfl)) d_D_reserve_2 ⟨Nat.le_of_ble_eq_true rfl, Nat.le_of_ble_eq_true rfl⟩) (fun r9 hr9 => ?_)
  subst hr9
  refine lv_if_eq (tgt := 20) hx hb d_D_reserve_5 (by decide) (fun c9 => ?_) (fun c9 => ?_)
  · replace hm := if_t c9 hm
    refine lv_iconst (v := 0) hx hb d_D_reserve_20 (by decide) ?_
    refine lv_istore (lv' := [(4, .int 0), (0, .ref dq), (1, .int x1), (2, .int x2), (3, .int x3)]) hx hb d_D_reserve_21 hl (by decide) rfl (fun ls hl => ?_)
    refine lv_iload hx hb d_D_reserve_23 (lv_at hl 0 rfl) ?_
    refine lv_if_eq (tgt := 66) hx hb d_D_reserve_25 (by decide) (fun c9 => ?_) (fun c9 => absurd (by decide) c9)
    clear c9
    refine lv_iconst (v := 0) hx hb d_D_reserve_66 (by decide) ?_
    refine lv_istore (lv' := [(5, .int 0), (4, .int 0), (0, .ref dq), (1, .int x1), (2, .int x2), (3, .int x3)]) hx hb d_D_reserve_67 hl (by decide) rfl (fun ls hl => ?_)
    refine lv_aload_n hx hb d_D_reserve_69 rfl (lv_at hl 2 rfl) ?_
    refine lv_iload hx hb d_D_reserve_70 (lv_at hl 1 rfl) ?_
    refine lv_iload hx hb d_D_reserve_72 (lv_at hl 0 rfl) ?_
    refine lv_iload_n hx hb d_D_reserve_74 rfl (lv_at hl 5 rfl) ?_
    refine lv_aload_n hx hb d_D_reserve_75 rfl (lv_at hl 2 rfl) ?_
    refine va_get (D := (dC, dI)) (ci := 5) (v := .int d_today) (C := R_D) (T := F_D) (N := 20) hx hb hts hk1 hown hK hP 0 rfl rfl 1 (by decide) hk0 (fun _ h9 => h9) rfl d_D_reserve_76 ?_
    refine lv_sipush (v := 9999) hx hb d_D_reserve_79 (by decide) ?_
    obtain ⟨r2, hc, hm⟩ := bd hm
    try dsimp only at hm
    refine vp_callSi (W.runS (As := [.int x3, .int d_today, .int 9999]) (rest := [.int 0, .int 0, .ref dq]) ⟨hx, hb, hml, hown, hts⟩ (c_D_in l dC dI cI x3 d_today 9999 N r2 hc) (cwS 3 hts (gS (w0 667 rfl) (w0 668 rfl) (w0 33 rfl) (w0 669 rfl)) rfl rfl rfl q_D_in ⟨Nat.le_of_ble_eq_true rfl, Nat.le_of_ble_eq_true rfl⟩) ro_pre0 rfl rfl hl.1 rfl (lv_room (Nat.le_of_ble_eq_true rfl)) d_D_reserve_82 ⟨Nat.le_of_ble_eq_true rfl, Nat.le_of_ble_eq_true rfl⟩) (fun r9 hr9 => ?_)
    subst hr9
    refine lv_iload hx hb d_D_reserve_85 (lv_at hl 1 rfl) ?_
    refine lv_if_eq (tgt := 103) hx hb d_D_reserve_87 (by decide) (fun c9 => ?_) (fun c9 => absurd (by decide) c9)
    clear c9
    refine lv_iconst (v := 0) hx hb d_D_reserve_103 (by decide) ?_
    obtain ⟨⟨r3, u4⟩, hc, hm⟩ := bd hm
    try dsimp only at hm
    have hPc := hP.sub (ws' := [(dq, .inr (5, [.int d_thrown, .int d_today, .int d_cut, .int d_aging, .int d_saleFrom, .int d_pieces, .int d_orders, .ref dq8, .ref dq9, .ref dq10, .ref dq11, .ref dq12, .ref dq13, .ref dq14, .ref dq15, .int d_ran, .int d_sum, .ref dq18, .ref dq19, .ref dq20])), (dq8, .inl (cI, 40, .inl d_piece)), (dq9, .inl (cI, 40, .inl d_order)), (dq10, .inl (cI, 10, .inl d_came)), (dq11, .inl (cI, 100, .inl d_worth)), (dq12, .inl (cZ, 10, .inl d_used)), (dq13, .inl (cI, 10, .inl d_usedBy)), (dq14, .inl (cI, 10, .inl d_reservedFor)), (dq15, .inl (cI, 10, .inl d_reservedTo)), (dq18, .inl (cI, 10, .inl d_pieceDual)), (dq19, .inl (cI, 10, .inl d_orderDual)), (dq20, .inl (cJ, 11264, .inr (.inl d_table)))]) [0, 1, 2, 3, 4, 5, 6, 7, 8, 9, 10, 11] rfl
    have hDc := hD.sub (ws' := [(dq, .inr (5, [.int d_thrown, .int d_today, .int d_cut, .int d_aging, .int d_saleFrom, .int d_pieces, .int d_orders, .ref dq8, .ref dq9, .ref dq10, .ref dq11, .ref dq12, .ref dq13, .ref dq14, .ref dq15, .int d_ran, .int d_sum, .ref dq18, .ref dq19, .ref dq20])), (dq8, .inl (cI, 40, .inl d_piece)), (dq9, .inl (cI, 40, .inl d_order)), (dq10, .inl (cI, 10, .inl d_came)), (dq11, .inl (cI, 100, .inl d_worth)), (dq12, .inl (cZ, 10, .inl d_used)), (dq13, .inl (cI, 10, .inl d_usedBy)), (dq14, .inl (cI, 10, .inl d_reservedFor)), (dq15, .inl (cI, 10, .inl d_reservedTo)), (dq18, .inl (cI, 10, .inl d_pieceDual)), (dq19, .inl (cI, 10, .inl d_orderDual)), (dq20, .inl (cJ, 11264, .inr (.inl d_table)))]) [0, 1, 2, 3, 4, 5, 6, 7, 8, 9, 10, 11] (by decide) rfl
    have hFc := va_free (wc := [(dq, .inr (5, [.int d_thrown, .int d_today, .int d_cut, .int d_aging, .int d_saleFrom, .int d_pieces, .int d_orders, .ref dq8, .ref dq9, .ref dq10, .ref dq11, .ref dq12, .ref dq13, .ref dq14, .ref dq15, .int d_ran, .int d_sum, .ref dq18, .ref dq19, .ref dq20])), (dq8, .inl (cI, 40, .inl d_piece)), (dq9, .inl (cI, 40, .inl d_order)), (dq10, .inl (cI, 10, .inl d_came)), (dq11, .inl (cI, 100, .inl d_worth)), (dq12, .inl (cZ, 10, .inl d_used)), (dq13, .inl (cI, 10, .inl d_usedBy)), (dq14, .inl (cI, 10, .inl d_reservedFor)), (dq15, .inl (cI, 10, .inl d_reservedTo)), (dq18, .inl (cI, 10, .inl d_pieceDual)), (dq19, .inl (cI, 10, .inl d_orderDual)), (dq20, .inl (cJ, 11264, .inr (.inl d_table)))]) hD hS hA [0, 1, 2, 3, 4, 5, 6, 7, 8, 9, 10, 11] rfl
    refine va_calli (va_runV (As := [.int 0, .int 0, .int r2, .int 0]) (rest := []) ⟨hx, hb, hml, hown, hts⟩ (c_D_goes l dC dI cI cZ cJ dq dq8 dq9 dq10 dq11 dq12 dq13 dq14 dq15 dq18 dq19 dq20 s.heap.size d_thrown d_today d_cut d_aging d_saleFrom d_pieces d_orders d_piece d_order d_came d_worth d_used d_usedBy d_reservedFor d_reservedTo d_ran d_sum d_pieceDual d_orderDual d_table 0 0 r2 0 N (r3, u4) hc) (cwV 4 hts (gV (w0 670 rfl) (w0 671 rfl) (w0 18 rfl) (w0 33 rfl) (w0 672 rfl)) rfl rfl rfl q_D_goes ⟨Nat.le_of_ble_eq_true rfl, Nat.le_of_ble_eq_true rfl⟩) (wr_preV hK hPc hDc hN 5 0 (R_D, F_D, 20) rfl rfl) rfl rfl hl.1 rfl (lv_room (Nat.le_of_ble_eq_true rfl)) d_D_reserve_104 ⟨Nat.le_of_ble_eq_true rfl, Nat.le_of_ble_eq_true rfl⟩) hS (fun q _ h => hFc q h) hFc (fun r9 u t H1 locs ht hvm hw hB hz1 hk1 hS => ?_)
    subst hw
    obtain ⟨hP1, hK1, hD1⟩ := hB
    rw [ht] at hP1
    obtain ⟨hP, hD⟩ := va_join (wr := []) (w1 := [(dq, .inr (5, [.int u4, .int d_today, .int d_cut, .int d_aging, .int d_saleFrom, .int d_pieces, .int d_orders, .ref dq8, .ref dq9, .ref dq10, .ref dq11, .ref dq12, .ref dq13, .ref dq14, .ref dq15, .int d_ran, .int d_sum, .ref dq18, .ref dq19, .ref dq20])), (dq8, .inl (cI, 40, .inl d_piece)), (dq9, .inl (cI, 40, .inl d_order)), (dq10, .inl (cI, 10, .inl d_came)), (dq11, .inl (cI, 100, .inl d_worth)), (dq12, .inl (cZ, 10, .inl d_used)), (dq13, .inl (cI, 10, .inl d_usedBy)), (dq14, .inl (cI, 10, .inl d_reservedFor)), (dq15, .inl (cI, 10, .inl d_reservedTo)), (dq18, .inl (cI, 10, .inl d_pieceDual)), (dq19, .inl (cI, 10, .inl d_orderDual)), (dq20, .inl (cJ, 11264, .inr (.inl d_table)))]) hP hD [0, 1, 2, 3, 4, 5, 6, 7, 8, 9, 10, 11] [] rfl rfl (by decide) (by decide) hk1 hFc hP1 hD1
    generalize H1 = H at hP hS ⊢
    have hP : va_P (dC, dI) classes [(dq, .inr (5, [.int u4, .int d_today, .int d_cut, .int d_aging, .int d_saleFrom, .int d_pieces, .int d_orders, .ref dq8, .ref dq9, .ref dq10, .ref dq11, .ref dq12, .ref dq13, .ref dq14, .ref dq15, .int d_ran, .int d_sum, .ref dq18, .ref dq19, .ref dq20])), (dq8, .inl (cI, 40, .inl d_piece)), (dq9, .inl (cI, 40, .inl d_order)), (dq10, .inl (cI, 10, .inl d_came)), (dq11, .inl (cI, 100, .inl d_worth)), (dq12, .inl (cZ, 10, .inl d_used)), (dq13, .inl (cI, 10, .inl d_usedBy)), (dq14, .inl (cI, 10, .inl d_reservedFor)), (dq15, .inl (cI, 10, .inl d_reservedTo)), (dq18, .inl (cI, 10, .inl d_pieceDual)), (dq19, .inl (cI, 10, .inl d_orderDual)), (dq20, .inl (cJ, 11264, .inr (.inl d_table)))] H := hP
    have hD : va_D A [(dq, .inr (5, [.int u4, .int d_today, .int d_cut, .int d_aging, .int d_saleFrom, .int d_pieces, .int d_orders, .ref dq8, .ref dq9, .ref dq10, .ref dq11, .ref dq12, .ref dq13, .ref dq14, .ref dq15, .int d_ran, .int d_sum, .ref dq18, .ref dq19, .ref dq20])), (dq8, .inl (cI, 40, .inl d_piece)), (dq9, .inl (cI, 40, .inl d_order)), (dq10, .inl (cI, 10, .inl d_came)), (dq11, .inl (cI, 100, .inl d_worth)), (dq12, .inl (cZ, 10, .inl d_used)), (dq13, .inl (cI, 10, .inl d_usedBy)), (dq14, .inl (cI, 10, .inl d_reservedFor)), (dq15, .inl (cI, 10, .inl d_reservedTo)), (dq18, .inl (cI, 10, .inl d_pieceDual)), (dq19, .inl (cI, 10, .inl d_orderDual)), (dq20, .inl (cJ, 11264, .inr (.inl d_table)))] := hD
    clear hP1 hD1 hPc hDc hFc hk1 hz1
    refine lv_if_ne (tgt := 111) hx hb d_D_reserve_107 (by decide) (fun c9 => ?_) (fun c9 => ?_)
    · replace hm := if_f c9 hm
      refine lv_aload_n hx hb d_D_reserve_111 rfl (lv_at hl 2 rfl) ?_
      refine va_get (D := (dC, dI)) (ci := 5) (v := .ref dq14) (C := R_D) (T := F_D) (N := 20) hx hb hts hk1 hown hK hP 0 rfl rfl 13 (by decide) hk2 (fun _ h9 => h9) rfl d_D_reserve_112 ?_
      refine lv_iload_n hx hb d_D_reserve_115 rfl (lv_at hl 3 rfl) ?_
      refine lv_iload_n hx hb d_D_reserve_116 rfl (lv_at hl 4 rfl) ?_
      obtain ⟨h9, hm⟩ := gd hm
      refine va_iast hx hb hK hP hD hS 7 0 rfl rfl h9 d_D_reserve_117 (fun H locs hP hD hS => ?_)
      have hP : va_P (dC, dI) classes [(dq, .inr (5, [.int u4, .int d_today, .int d_cut, .int d_aging, .int d_saleFrom, .int d_pieces, .int d_orders, .ref dq8, .ref dq9, .ref dq10, .ref dq11, .ref dq12, .ref dq13, .ref dq14, .ref dq15, .int d_ran, .int d_sum, .ref dq18, .ref dq19, .ref dq20])), (dq8, .inl (cI, 40, .inl d_piece)), (dq9, .inl (cI, 40, .inl d_order)), (dq10, .inl (cI, 10, .inl d_came)), (dq11, .inl (cI, 100, .inl d_worth)), (dq12, .inl (cZ, 10, .inl d_used)), (dq13, .inl (cI, 10, .inl d_usedBy)), (dq14, .inl (cI, 10, .inl (upd d_reservedFor x1.toNatClampNeg x2))), (dq15, .inl (cI, 10, .inl d_reservedTo)), (dq18, .inl (cI, 10, .inl d_pieceDual)), (dq19, .inl (cI, 10, .inl d_orderDual)), (dq20, .inl (cJ, 11264, .inr (.inl d_table)))] H := hP
      have hD : va_D A [(dq, .inr (5, [.int u4, .int d_today, .int d_cut, .int d_aging, .int d_saleFrom, .int d_pieces, .int d_orders, .ref dq8, .ref dq9, .ref dq10, .ref dq11, .ref dq12, .ref dq13, .ref dq14, .ref dq15, .int d_ran, .int d_sum, .ref dq18, .ref dq19, .ref dq20])), (dq8, .inl (cI, 40, .inl d_piece)), (dq9, .inl (cI, 40, .inl d_order)), (dq10, .inl (cI, 10, .inl d_came)), (dq11, .inl (cI, 100, .inl d_worth)), (dq12, .inl (cZ, 10, .inl d_used)), (dq13, .inl (cI, 10, .inl d_usedBy)), (dq14, .inl (cI, 10, .inl (upd d_reservedFor x1.toNatClampNeg x2))), (dq15, .inl (cI, 10, .inl d_reservedTo)), (dq18, .inl (cI, 10, .inl d_pieceDual)), (dq19, .inl (cI, 10, .inl d_orderDual)), (dq20, .inl (cJ, 11264, .inr (.inl d_table)))] := hD
      refine lv_aload_n hx hb d_D_reserve_118 rfl (lv_at hl 2 rfl) ?_
      refine va_get (D := (dC, dI)) (ci := 5) (v := .ref dq15) (C := R_D) (T := F_D) (N := 20) hx hb hts hk1 hown hK hP 0 rfl rfl 14 (by decide) hk3 (fun _ h9 => h9) rfl d_D_reserve_119 ?_
      refine lv_iload_n hx hb d_D_reserve_122 rfl (lv_at hl 3 rfl) ?_
      refine lv_iload_n hx hb d_D_reserve_123 rfl (lv_at hl 5 rfl) ?_
      obtain ⟨h9, hm⟩ := gd hm
      refine va_iast hx hb hK hP hD hS 8 0 rfl rfl h9 d_D_reserve_124 (fun H locs hP hD hS => ?_)
      have hP : va_P (dC, dI) classes [(dq, .inr (5, [.int u4, .int d_today, .int d_cut, .int d_aging, .int d_saleFrom, .int d_pieces, .int d_orders, .ref dq8, .ref dq9, .ref dq10, .ref dq11, .ref dq12, .ref dq13, .ref dq14, .ref dq15, .int d_ran, .int d_sum, .ref dq18, .ref dq19, .ref dq20])), (dq8, .inl (cI, 40, .inl d_piece)), (dq9, .inl (cI, 40, .inl d_order)), (dq10, .inl (cI, 10, .inl d_came)), (dq11, .inl (cI, 100, .inl d_worth)), (dq12, .inl (cZ, 10, .inl d_used)), (dq13, .inl (cI, 10, .inl d_usedBy)), (dq14, .inl (cI, 10, .inl (upd d_reservedFor x1.toNatClampNeg x2))), (dq15, .inl (cI, 10, .inl (upd d_reservedTo x1.toNatClampNeg x3))), (dq18, .inl (cI, 10, .inl d_pieceDual)), (dq19, .inl (cI, 10, .inl d_orderDual)), (dq20, .inl (cJ, 11264, .inr (.inl d_table)))] H := hP
      have hD : va_D A [(dq, .inr (5, [.int u4, .int d_today, .int d_cut, .int d_aging, .int d_saleFrom, .int d_pieces, .int d_orders, .ref dq8, .ref dq9, .ref dq10, .ref dq11, .ref dq12, .ref dq13, .ref dq14, .ref dq15, .int d_ran, .int d_sum, .ref dq18, .ref dq19, .ref dq20])), (dq8, .inl (cI, 40, .inl d_piece)), (dq9, .inl (cI, 40, .inl d_order)), (dq10, .inl (cI, 10, .inl d_came)), (dq11, .inl (cI, 100, .inl d_worth)), (dq12, .inl (cZ, 10, .inl d_used)), (dq13, .inl (cI, 10, .inl d_usedBy)), (dq14, .inl (cI, 10, .inl (upd d_reservedFor x1.toNatClampNeg x2))), (dq15, .inl (cI, 10, .inl (upd d_reservedTo x1.toNatClampNeg x3))), (dq18, .inl (cI, 10, .inl d_pieceDual)), (dq19, .inl (cI, 10, .inl d_orderDual)), (dq20, .inl (cJ, 11264, .inr (.inl d_table)))] := hD
      cases hm
      refine W.widen (k := 0) (n := 0) (Nat.le_of_ble_eq_true rfl) (Nat.le_of_ble_eq_true rfl) ?_
      exact W.vret hx hb hr (fun t ht hW => ⟨⟨(), rfl, trivial, by rw [ht]; exact hP, va_K.moved hW.alike hK, hD⟩, hS.F ht⟩) hS.2.2 d_D_reserve_125
    · replace hm := if_t c9 hm
      cases hm
      refine W.widen (k := 0) (n := 0) (Nat.le_of_ble_eq_true rfl) (Nat.le_of_ble_eq_true rfl) ?_
      exact W.vret hx hb hr (fun t ht hW => ⟨⟨(), rfl, trivial, by rw [ht]; exact hP, va_K.moved hW.alike hK, hD⟩, hS.F ht⟩) hS.2.2 d_D_reserve_110
  · replace hm := if_f c9 hm
    refine lv_aload_n hx hb d_D_reserve_8 rfl (lv_at hl 0 rfl) ?_
    refine lv_iload_n hx hb d_D_reserve_9 rfl (lv_at hl 2 rfl) ?_
    obtain ⟨r7, hc, hm⟩ := bd hm
    try dsimp only at hm
    refine vp_callSi (W.runV (As := [.int x2]) (rest := []) ⟨hx, hb, hml, hown, hts⟩ (c_D_isOrder l dC dI cI cZ cJ dq dq8 dq9 dq10 dq11 dq12 dq13 dq14 dq15 dq18 dq19 dq20 d_thrown d_today d_cut d_aging d_saleFrom d_pieces d_orders d_piece d_order d_came d_worth d_used d_usedBy d_reservedFor d_reservedTo d_ran d_sum d_pieceDual d_orderDual d_table x2 N r7 hc) (cwV 1 hts (gV (w0 684 rfl) (w0 685 rfl) (w0 20 rfl) (w0 33 rfl) (w0 686 rfl)) rfl rfl rfl q_D_isOrder ⟨Nat.le_of_ble_eq_true rfl, Nat.le_of_ble_eq_true rfl⟩) (ro_preV [0, 1, 2, 3, 4, 5, 6, 7, 8, 9, 10, 11] rfl hK hP hN 5 0 (R_D, F_D, 20) rfl rfl) rfl rfl hl.1 rfl (lv_room (Nat.le_of_ble_eq_true rfl)) d_D_reserve_10 ⟨Nat.le_of_ble_eq_true rfl, Nat.le_of_ble_eq_true rfl⟩) (fun r9 hr9 => ?_)
    subst hr9
    refine lv_if_eq (tgt := 20) hx hb d_D_reserve_13 (by decide) (fun c9 => ?_) (fun c9 => ?_)
    · replace hm := if_t c9 hm
      refine lv_iconst (v := 0) hx hb d_D_reserve_20 (by decide) ?_
      refine lv_istore (lv' := [(4, .int 0), (0, .ref dq), (1, .int x1), (2, .int x2), (3, .int x3)]) hx hb d_D_reserve_21 hl (by decide) rfl (fun ls hl => ?_)
      refine lv_iload hx hb d_D_reserve_23 (lv_at hl 0 rfl) ?_
      refine lv_if_eq (tgt := 66) hx hb d_D_reserve_25 (by decide) (fun c9 => ?_) (fun c9 => absurd (by decide) c9)
      clear c9
      refine lv_iconst (v := 0) hx hb d_D_reserve_66 (by decide) ?_
      refine lv_istore (lv' := [(5, .int 0), (4, .int 0), (0, .ref dq), (1, .int x1), (2, .int x2), (3, .int x3)]) hx hb d_D_reserve_67 hl (by decide) rfl (fun ls hl => ?_)
      refine lv_aload_n hx hb d_D_reserve_69 rfl (lv_at hl 2 rfl) ?_
      refine lv_iload hx hb d_D_reserve_70 (lv_at hl 1 rfl) ?_
      refine lv_iload hx hb d_D_reserve_72 (lv_at hl 0 rfl) ?_
      refine lv_iload_n hx hb d_D_reserve_74 rfl (lv_at hl 5 rfl) ?_
      refine lv_aload_n hx hb d_D_reserve_75 rfl (lv_at hl 2 rfl) ?_
      refine va_get (D := (dC, dI)) (ci := 5) (v := .int d_today) (C := R_D) (T := F_D) (N := 20) hx hb hts hk1 hown hK hP 0 rfl rfl 1 (by decide) hk0 (fun _ h9 => h9) rfl d_D_reserve_76 ?_
      refine lv_sipush (v := 9999) hx hb d_D_reserve_79 (by decide) ?_
      obtain ⟨r8, hc, hm⟩ := bd hm
      try dsimp only at hm
      refine vp_callSi (W.runS (As := [.int x3, .int d_today, .int 9999]) (rest := [.int 0, .int 0, .ref dq]) ⟨hx, hb, hml, hown, hts⟩ (c_D_in l dC dI cI x3 d_today 9999 N r8 hc) (cwS 3 hts (gS (w0 667 rfl) (w0 668 rfl) (w0 33 rfl) (w0 669 rfl)) rfl rfl rfl q_D_in ⟨Nat.le_of_ble_eq_true rfl, Nat.le_of_ble_eq_true rfl⟩) ro_pre0 rfl rfl hl.1 rfl (lv_room (Nat.le_of_ble_eq_true rfl)) d_D_reserve_82 ⟨Nat.le_of_ble_eq_true rfl, Nat.le_of_ble_eq_true rfl⟩) (fun r9 hr9 => ?_)
      subst hr9
      refine lv_iload hx hb d_D_reserve_85 (lv_at hl 1 rfl) ?_
      refine lv_if_eq (tgt := 103) hx hb d_D_reserve_87 (by decide) (fun c9 => ?_) (fun c9 => absurd (by decide) c9)
      clear c9
      refine lv_iconst (v := 0) hx hb d_D_reserve_103 (by decide) ?_
      obtain ⟨⟨r9, u10⟩, hc, hm⟩ := bd hm
      try dsimp only at hm
      have hPc := hP.sub (ws' := [(dq, .inr (5, [.int d_thrown, .int d_today, .int d_cut, .int d_aging, .int d_saleFrom, .int d_pieces, .int d_orders, .ref dq8, .ref dq9, .ref dq10, .ref dq11, .ref dq12, .ref dq13, .ref dq14, .ref dq15, .int d_ran, .int d_sum, .ref dq18, .ref dq19, .ref dq20])), (dq8, .inl (cI, 40, .inl d_piece)), (dq9, .inl (cI, 40, .inl d_order)), (dq10, .inl (cI, 10, .inl d_came)), (dq11, .inl (cI, 100, .inl d_worth)), (dq12, .inl (cZ, 10, .inl d_used)), (dq13, .inl (cI, 10, .inl d_usedBy)), (dq14, .inl (cI, 10, .inl d_reservedFor)), (dq15, .inl (cI, 10, .inl d_reservedTo)), (dq18, .inl (cI, 10, .inl d_pieceDual)), (dq19, .inl (cI, 10, .inl d_orderDual)), (dq20, .inl (cJ, 11264, .inr (.inl d_table)))]) [0, 1, 2, 3, 4, 5, 6, 7, 8, 9, 10, 11] rfl
      have hDc := hD.sub (ws' := [(dq, .inr (5, [.int d_thrown, .int d_today, .int d_cut, .int d_aging, .int d_saleFrom, .int d_pieces, .int d_orders, .ref dq8, .ref dq9, .ref dq10, .ref dq11, .ref dq12, .ref dq13, .ref dq14, .ref dq15, .int d_ran, .int d_sum, .ref dq18, .ref dq19, .ref dq20])), (dq8, .inl (cI, 40, .inl d_piece)), (dq9, .inl (cI, 40, .inl d_order)), (dq10, .inl (cI, 10, .inl d_came)), (dq11, .inl (cI, 100, .inl d_worth)), (dq12, .inl (cZ, 10, .inl d_used)), (dq13, .inl (cI, 10, .inl d_usedBy)), (dq14, .inl (cI, 10, .inl d_reservedFor)), (dq15, .inl (cI, 10, .inl d_reservedTo)), (dq18, .inl (cI, 10, .inl d_pieceDual)), (dq19, .inl (cI, 10, .inl d_orderDual)), (dq20, .inl (cJ, 11264, .inr (.inl d_table)))]) [0, 1, 2, 3, 4, 5, 6, 7, 8, 9, 10, 11] (by decide) rfl
      have hFc := va_free (wc := [(dq, .inr (5, [.int d_thrown, .int d_today, .int d_cut, .int d_aging, .int d_saleFrom, .int d_pieces, .int d_orders, .ref dq8, .ref dq9, .ref dq10, .ref dq11, .ref dq12, .ref dq13, .ref dq14, .ref dq15, .int d_ran, .int d_sum, .ref dq18, .ref dq19, .ref dq20])), (dq8, .inl (cI, 40, .inl d_piece)), (dq9, .inl (cI, 40, .inl d_order)), (dq10, .inl (cI, 10, .inl d_came)), (dq11, .inl (cI, 100, .inl d_worth)), (dq12, .inl (cZ, 10, .inl d_used)), (dq13, .inl (cI, 10, .inl d_usedBy)), (dq14, .inl (cI, 10, .inl d_reservedFor)), (dq15, .inl (cI, 10, .inl d_reservedTo)), (dq18, .inl (cI, 10, .inl d_pieceDual)), (dq19, .inl (cI, 10, .inl d_orderDual)), (dq20, .inl (cJ, 11264, .inr (.inl d_table)))]) hD hS hA [0, 1, 2, 3, 4, 5, 6, 7, 8, 9, 10, 11] rfl
      refine va_calli (va_runV (As := [.int 0, .int 0, .int r8, .int 0]) (rest := []) ⟨hx, hb, hml, hown, hts⟩ (c_D_goes l dC dI cI cZ cJ dq dq8 dq9 dq10 dq11 dq12 dq13 dq14 dq15 dq18 dq19 dq20 s.heap.size d_thrown d_today d_cut d_aging d_saleFrom d_pieces d_orders d_piece d_order d_came d_worth d_used d_usedBy d_reservedFor d_reservedTo d_ran d_sum d_pieceDual d_orderDual d_table 0 0 r8 0 N (r9, u10) hc) (cwV 4 hts (gV (w0 670 rfl) (w0 671 rfl) (w0 18 rfl) (w0 33 rfl) (w0 672 rfl)) rfl rfl rfl q_D_goes ⟨Nat.le_of_ble_eq_true rfl, Nat.le_of_ble_eq_true rfl⟩) (wr_preV hK hPc hDc hN 5 0 (R_D, F_D, 20) rfl rfl) rfl rfl hl.1 rfl (lv_room (Nat.le_of_ble_eq_true rfl)) d_D_reserve_104 ⟨Nat.le_of_ble_eq_true rfl, Nat.le_of_ble_eq_true rfl⟩) hS (fun q _ h => hFc q h) hFc (fun r9 u t H1 locs ht hvm hw hB hz1 hk1 hS => ?_)
      subst hw
      obtain ⟨hP1, hK1, hD1⟩ := hB
      rw [ht] at hP1
      obtain ⟨hP, hD⟩ := va_join (wr := []) (w1 := [(dq, .inr (5, [.int u10, .int d_today, .int d_cut, .int d_aging, .int d_saleFrom, .int d_pieces, .int d_orders, .ref dq8, .ref dq9, .ref dq10, .ref dq11, .ref dq12, .ref dq13, .ref dq14, .ref dq15, .int d_ran, .int d_sum, .ref dq18, .ref dq19, .ref dq20])), (dq8, .inl (cI, 40, .inl d_piece)), (dq9, .inl (cI, 40, .inl d_order)), (dq10, .inl (cI, 10, .inl d_came)), (dq11, .inl (cI, 100, .inl d_worth)), (dq12, .inl (cZ, 10, .inl d_used)), (dq13, .inl (cI, 10, .inl d_usedBy)), (dq14, .inl (cI, 10, .inl d_reservedFor)), (dq15, .inl (cI, 10, .inl d_reservedTo)), (dq18, .inl (cI, 10, .inl d_pieceDual)), (dq19, .inl (cI, 10, .inl d_orderDual)), (dq20, .inl (cJ, 11264, .inr (.inl d_table)))]) hP hD [0, 1, 2, 3, 4, 5, 6, 7, 8, 9, 10, 11] [] rfl rfl (by decide) (by decide) hk1 hFc hP1 hD1
      generalize H1 = H at hP hS ⊢
      have hP : va_P (dC, dI) classes [(dq, .inr (5, [.int u10, .int d_today, .int d_cut, .int d_aging, .int d_saleFrom, .int d_pieces, .int d_orders, .ref dq8, .ref dq9, .ref dq10, .ref dq11, .ref dq12, .ref dq13, .ref dq14, .ref dq15, .int d_ran, .int d_sum, .ref dq18, .ref dq19, .ref dq20])), (dq8, .inl (cI, 40, .inl d_piece)), (dq9, .inl (cI, 40, .inl d_order)), (dq10, .inl (cI, 10, .inl d_came)), (dq11, .inl (cI, 100, .inl d_worth)), (dq12, .inl (cZ, 10, .inl d_used)), (dq13, .inl (cI, 10, .inl d_usedBy)), (dq14, .inl (cI, 10, .inl d_reservedFor)), (dq15, .inl (cI, 10, .inl d_reservedTo)), (dq18, .inl (cI, 10, .inl d_pieceDual)), (dq19, .inl (cI, 10, .inl d_orderDual)), (dq20, .inl (cJ, 11264, .inr (.inl d_table)))] H := hP
      have hD : va_D A [(dq, .inr (5, [.int u10, .int d_today, .int d_cut, .int d_aging, .int d_saleFrom, .int d_pieces, .int d_orders, .ref dq8, .ref dq9, .ref dq10, .ref dq11, .ref dq12, .ref dq13, .ref dq14, .ref dq15, .int d_ran, .int d_sum, .ref dq18, .ref dq19, .ref dq20])), (dq8, .inl (cI, 40, .inl d_piece)), (dq9, .inl (cI, 40, .inl d_order)), (dq10, .inl (cI, 10, .inl d_came)), (dq11, .inl (cI, 100, .inl d_worth)), (dq12, .inl (cZ, 10, .inl d_used)), (dq13, .inl (cI, 10, .inl d_usedBy)), (dq14, .inl (cI, 10, .inl d_reservedFor)), (dq15, .inl (cI, 10, .inl d_reservedTo)), (dq18, .inl (cI, 10, .inl d_pieceDual)), (dq19, .inl (cI, 10, .inl d_orderDual)), (dq20, .inl (cJ, 11264, .inr (.inl d_table)))] := hD
      clear hP1 hD1 hPc hDc hFc hk1 hz1
      refine lv_if_ne (tgt := 111) hx hb d_D_reserve_107 (by decide) (fun c9 => ?_) (fun c9 => ?_)
      · replace hm := if_f c9 hm
        refine lv_aload_n hx hb d_D_reserve_111 rfl (lv_at hl 2 rfl) ?_
        refine va_get (D := (dC, dI)) (ci := 5) (v := .ref dq14) (C := R_D) (T := F_D) (N := 20) hx hb hts hk1 hown hK hP 0 rfl rfl 13 (by decide) hk2 (fun _ h9 => h9) rfl d_D_reserve_112 ?_
        refine lv_iload_n hx hb d_D_reserve_115 rfl (lv_at hl 3 rfl) ?_
        refine lv_iload_n hx hb d_D_reserve_116 rfl (lv_at hl 4 rfl) ?_
        obtain ⟨h9, hm⟩ := gd hm
        refine va_iast hx hb hK hP hD hS 7 0 rfl rfl h9 d_D_reserve_117 (fun H locs hP hD hS => ?_)
        have hP : va_P (dC, dI) classes [(dq, .inr (5, [.int u10, .int d_today, .int d_cut, .int d_aging, .int d_saleFrom, .int d_pieces, .int d_orders, .ref dq8, .ref dq9, .ref dq10, .ref dq11, .ref dq12, .ref dq13, .ref dq14, .ref dq15, .int d_ran, .int d_sum, .ref dq18, .ref dq19, .ref dq20])), (dq8, .inl (cI, 40, .inl d_piece)), (dq9, .inl (cI, 40, .inl d_order)), (dq10, .inl (cI, 10, .inl d_came)), (dq11, .inl (cI, 100, .inl d_worth)), (dq12, .inl (cZ, 10, .inl d_used)), (dq13, .inl (cI, 10, .inl d_usedBy)), (dq14, .inl (cI, 10, .inl (upd d_reservedFor x1.toNatClampNeg x2))), (dq15, .inl (cI, 10, .inl d_reservedTo)), (dq18, .inl (cI, 10, .inl d_pieceDual)), (dq19, .inl (cI, 10, .inl d_orderDual)), (dq20, .inl (cJ, 11264, .inr (.inl d_table)))] H := hP
        have hD : va_D A [(dq, .inr (5, [.int u10, .int d_today, .int d_cut, .int d_aging, .int d_saleFrom, .int d_pieces, .int d_orders, .ref dq8, .ref dq9, .ref dq10, .ref dq11, .ref dq12, .ref dq13, .ref dq14, .ref dq15, .int d_ran, .int d_sum, .ref dq18, .ref dq19, .ref dq20])), (dq8, .inl (cI, 40, .inl d_piece)), (dq9, .inl (cI, 40, .inl d_order)), (dq10, .inl (cI, 10, .inl d_came)), (dq11, .inl (cI, 100, .inl d_worth)), (dq12, .inl (cZ, 10, .inl d_used)), (dq13, .inl (cI, 10, .inl d_usedBy)), (dq14, .inl (cI, 10, .inl (upd d_reservedFor x1.toNatClampNeg x2))), (dq15, .inl (cI, 10, .inl d_reservedTo)), (dq18, .inl (cI, 10, .inl d_pieceDual)), (dq19, .inl (cI, 10, .inl d_orderDual)), (dq20, .inl (cJ, 11264, .inr (.inl d_table)))] := hD
        refine lv_aload_n hx hb d_D_reserve_118 rfl (lv_at hl 2 rfl) ?_
        refine va_get (D := (dC, dI)) (ci := 5) (v := .ref dq15) (C := R_D) (T := F_D) (N := 20) hx hb hts hk1 hown hK hP 0 rfl rfl 14 (by decide) hk3 (fun _ h9 => h9) rfl d_D_reserve_119 ?_
        refine lv_iload_n hx hb d_D_reserve_122 rfl (lv_at hl 3 rfl) ?_
        refine lv_iload_n hx hb d_D_reserve_123 rfl (lv_at hl 5 rfl) ?_
        obtain ⟨h9, hm⟩ := gd hm
        refine va_iast hx hb hK hP hD hS 8 0 rfl rfl h9 d_D_reserve_124 (fun H locs hP hD hS => ?_)
        have hP : va_P (dC, dI) classes [(dq, .inr (5, [.int u10, .int d_today, .int d_cut, .int d_aging, .int d_saleFrom, .int d_pieces, .int d_orders, .ref dq8, .ref dq9, .ref dq10, .ref dq11, .ref dq12, .ref dq13, .ref dq14, .ref dq15, .int d_ran, .int d_sum, .ref dq18, .ref dq19, .ref dq20])), (dq8, .inl (cI, 40, .inl d_piece)), (dq9, .inl (cI, 40, .inl d_order)), (dq10, .inl (cI, 10, .inl d_came)), (dq11, .inl (cI, 100, .inl d_worth)), (dq12, .inl (cZ, 10, .inl d_used)), (dq13, .inl (cI, 10, .inl d_usedBy)), (dq14, .inl (cI, 10, .inl (upd d_reservedFor x1.toNatClampNeg x2))), (dq15, .inl (cI, 10, .inl (upd d_reservedTo x1.toNatClampNeg x3))), (dq18, .inl (cI, 10, .inl d_pieceDual)), (dq19, .inl (cI, 10, .inl d_orderDual)), (dq20, .inl (cJ, 11264, .inr (.inl d_table)))] H := hP
        have hD : va_D A [(dq, .inr (5, [.int u10, .int d_today, .int d_cut, .int d_aging, .int d_saleFrom, .int d_pieces, .int d_orders, .ref dq8, .ref dq9, .ref dq10, .ref dq11, .ref dq12, .ref dq13, .ref dq14, .ref dq15, .int d_ran, .int d_sum, .ref dq18, .ref dq19, .ref dq20])), (dq8, .inl (cI, 40, .inl d_piece)), (dq9, .inl (cI, 40, .inl d_order)), (dq10, .inl (cI, 10, .inl d_came)), (dq11, .inl (cI, 100, .inl d_worth)), (dq12, .inl (cZ, 10, .inl d_used)), (dq13, .inl (cI, 10, .inl d_usedBy)), (dq14, .inl (cI, 10, .inl (upd d_reservedFor x1.toNatClampNeg x2))), (dq15, .inl (cI, 10, .inl (upd d_reservedTo x1.toNatClampNeg x3))), (dq18, .inl (cI, 10, .inl d_pieceDual)), (dq19, .inl (cI, 10, .inl d_orderDual)), (dq20, .inl (cJ, 11264, .inr (.inl d_table)))] := hD
        cases hm
        refine W.widen (k := 0) (n := 0) (Nat.le_of_ble_eq_true rfl) (Nat.le_of_ble_eq_true rfl) ?_
        exact W.vret hx hb hr (fun t ht hW => ⟨⟨(), rfl, trivial, by rw [ht]; exact hP, va_K.moved hW.alike hK, hD⟩, hS.F ht⟩) hS.2.2 d_D_reserve_125
      · replace hm := if_t c9 hm
        cases hm
        refine W.widen (k := 0) (n := 0) (Nat.le_of_ble_eq_true rfl) (Nat.le_of_ble_eq_true rfl) ?_
        exact W.vret hx hb hr (fun t ht hW => ⟨⟨(), rfl, trivial, by rw [ht]; exact hP, va_K.moved hW.alike hK, hD⟩, hS.F ht⟩) hS.2.2 d_D_reserve_110
    · replace hm := if_f c9 hm
      refine lv_iconst (v := 1) hx hb d_D_reserve_16 (by decide) ?_
      refine lv_goto (tgt := 21) hx hb d_D_reserve_17 (by decide) ?_
      refine lv_istore (lv' := [(4, .int 1), (0, .ref dq), (1, .int x1), (2, .int x2), (3, .int x3)]) hx hb d_D_reserve_21 hl (by decide) rfl (fun ls hl => ?_)
      refine lv_iload hx hb d_D_reserve_23 (lv_at hl 0 rfl) ?_
      refine lv_if_eq (tgt := 66) hx hb d_D_reserve_25 (by decide) (fun c9 => absurd c9 (by decide)) (fun c9 => ?_)
      clear c9
      refine lv_aload_n hx hb d_D_reserve_28 rfl (lv_at hl 1 rfl) ?_
      refine va_get (D := (dC, dI)) (ci := 5) (v := .ref dq12) (C := R_D) (T := F_D) (N := 20) hx hb hts hk1 hown hK hP 0 rfl rfl 11 (by decide) hk4 (fun _ h9 => h9) rfl d_D_reserve_29 ?_
      refine lv_iload_n hx hb d_D_reserve_32 rfl (lv_at hl 2 rfl) ?_
      obtain ⟨h9, hm⟩ := gd hm
      refine va_zald hx hb hK hP 5 1 rfl rfl h9 d_D_reserve_33 ?_
      refine lv_if_ne (tgt := 66) hx hb d_D_reserve_34 (by decide) (fun c9 => ?_) (fun c9 => ?_)
      · replace hm := if_f c9 hm
        refine lv_iconst (v := 0) hx hb d_D_reserve_66 (by decide) ?_
        refine lv_istore (lv' := [(5, .int 0), (4, .int 1), (0, .ref dq), (1, .int x1), (2, .int x2), (3, .int x3)]) hx hb d_D_reserve_67 hl (by decide) rfl (fun ls hl => ?_)
        refine lv_aload_n hx hb d_D_reserve_69 rfl (lv_at hl 2 rfl) ?_
        refine lv_iload hx hb d_D_reserve_70 (lv_at hl 1 rfl) ?_
        refine lv_iload hx hb d_D_reserve_72 (lv_at hl 0 rfl) ?_
        refine lv_iload_n hx hb d_D_reserve_74 rfl (lv_at hl 5 rfl) ?_
        refine lv_aload_n hx hb d_D_reserve_75 rfl (lv_at hl 2 rfl) ?_
        refine va_get (D := (dC, dI)) (ci := 5) (v := .int d_today) (C := R_D) (T := F_D) (N := 20) hx hb hts hk1 hown hK hP 0 rfl rfl 1 (by decide) hk0 (fun _ h9 => h9) rfl d_D_reserve_76 ?_
        refine lv_sipush (v := 9999) hx hb d_D_reserve_79 (by decide) ?_
        obtain ⟨r13, hc, hm⟩ := bd hm
        try dsimp only at hm
        refine vp_callSi (W.runS (As := [.int x3, .int d_today, .int 9999]) (rest := [.int 0, .int 1, .ref dq]) ⟨hx, hb, hml, hown, hts⟩ (c_D_in l dC dI cI x3 d_today 9999 N r13 hc) (cwS 3 hts (gS (w0 667 rfl) (w0 668 rfl) (w0 33 rfl) (w0 669 rfl)) rfl rfl rfl q_D_in ⟨Nat.le_of_ble_eq_true rfl, Nat.le_of_ble_eq_true rfl⟩) ro_pre0 rfl rfl hl.1 rfl (lv_room (Nat.le_of_ble_eq_true rfl)) d_D_reserve_82 ⟨Nat.le_of_ble_eq_true rfl, Nat.le_of_ble_eq_true rfl⟩) (fun r9 hr9 => ?_)
        subst hr9
        refine lv_iload hx hb d_D_reserve_85 (lv_at hl 1 rfl) ?_
        refine lv_if_eq (tgt := 103) hx hb d_D_reserve_87 (by decide) (fun c9 => absurd c9 (by decide)) (fun c9 => ?_)
        clear c9
        refine lv_aload_n hx hb d_D_reserve_90 rfl (lv_at hl 2 rfl) ?_
        refine lv_iload_n hx hb d_D_reserve_91 rfl (lv_at hl 3 rfl) ?_
        refine lv_iload_n hx hb d_D_reserve_92 rfl (lv_at hl 4 rfl) ?_
        obtain ⟨r14, hc, hm⟩ := bd hm
        try dsimp only at hm
        refine vp_callSi (W.runV (As := [.int x1, .int x2]) (rest := [.int r13, .int 0, .int 1, .ref dq]) ⟨hx, hb, hml, hown, hts⟩ (c_D_isFit l dC dI cI cZ cJ dq dq8 dq9 dq10 dq11 dq12 dq13 dq14 dq15 dq18 dq19 dq20 d_thrown d_today d_cut d_aging d_saleFrom d_pieces d_orders d_piece d_order d_came d_worth d_used d_usedBy d_reservedFor d_reservedTo d_ran d_sum d_pieceDual d_orderDual d_table x1 x2 N r14 hc) (cwV 2 hts (gV (w0 688 rfl) (w0 689 rfl) (w0 21 rfl) (w0 33 rfl) (w0 690 rfl)) rfl rfl rfl q_D_isFit ⟨Nat.le_of_ble_eq_true rfl, Nat.le_of_ble_eq_true rfl⟩) (ro_preV [0, 1, 2, 3, 4, 5, 6, 7, 8, 9, 10, 11] rfl hK hP hN 5 0 (R_D, F_D, 20) rfl rfl) rfl rfl hl.1 rfl (lv_room (Nat.le_of_ble_eq_true rfl)) d_D_reserve_93 ⟨Nat.le_of_ble_eq_true rfl, Nat.le_of_ble_eq_true rfl⟩) (fun r9 hr9 => ?_)
        subst hr9
        refine lv_if_eq (tgt := 103) hx hb d_D_reserve_96 (by decide) (fun c9 => ?_) (fun c9 => ?_)
        · replace hm := if_t c9 hm
          refine lv_iconst (v := 0) hx hb d_D_reserve_103 (by decide) ?_
          obtain ⟨⟨r15, u16⟩, hc, hm⟩ := bd hm
          try dsimp only at hm
          have hPc := hP.sub (ws' := [(dq, .inr (5, [.int d_thrown, .int d_today, .int d_cut, .int d_aging, .int d_saleFrom, .int d_pieces, .int d_orders, .ref dq8, .ref dq9, .ref dq10, .ref dq11, .ref dq12, .ref dq13, .ref dq14, .ref dq15, .int d_ran, .int d_sum, .ref dq18, .ref dq19, .ref dq20])), (dq8, .inl (cI, 40, .inl d_piece)), (dq9, .inl (cI, 40, .inl d_order)), (dq10, .inl (cI, 10, .inl d_came)), (dq11, .inl (cI, 100, .inl d_worth)), (dq12, .inl (cZ, 10, .inl d_used)), (dq13, .inl (cI, 10, .inl d_usedBy)), (dq14, .inl (cI, 10, .inl d_reservedFor)), (dq15, .inl (cI, 10, .inl d_reservedTo)), (dq18, .inl (cI, 10, .inl d_pieceDual)), (dq19, .inl (cI, 10, .inl d_orderDual)), (dq20, .inl (cJ, 11264, .inr (.inl d_table)))]) [0, 1, 2, 3, 4, 5, 6, 7, 8, 9, 10, 11] rfl
          have hDc := hD.sub (ws' := [(dq, .inr (5, [.int d_thrown, .int d_today, .int d_cut, .int d_aging, .int d_saleFrom, .int d_pieces, .int d_orders, .ref dq8, .ref dq9, .ref dq10, .ref dq11, .ref dq12, .ref dq13, .ref dq14, .ref dq15, .int d_ran, .int d_sum, .ref dq18, .ref dq19, .ref dq20])), (dq8, .inl (cI, 40, .inl d_piece)), (dq9, .inl (cI, 40, .inl d_order)), (dq10, .inl (cI, 10, .inl d_came)), (dq11, .inl (cI, 100, .inl d_worth)), (dq12, .inl (cZ, 10, .inl d_used)), (dq13, .inl (cI, 10, .inl d_usedBy)), (dq14, .inl (cI, 10, .inl d_reservedFor)), (dq15, .inl (cI, 10, .inl d_reservedTo)), (dq18, .inl (cI, 10, .inl d_pieceDual)), (dq19, .inl (cI, 10, .inl d_orderDual)), (dq20, .inl (cJ, 11264, .inr (.inl d_table)))]) [0, 1, 2, 3, 4, 5, 6, 7, 8, 9, 10, 11] (by decide) rfl
          have hFc := va_free (wc := [(dq, .inr (5, [.int d_thrown, .int d_today, .int d_cut, .int d_aging, .int d_saleFrom, .int d_pieces, .int d_orders, .ref dq8, .ref dq9, .ref dq10, .ref dq11, .ref dq12, .ref dq13, .ref dq14, .ref dq15, .int d_ran, .int d_sum, .ref dq18, .ref dq19, .ref dq20])), (dq8, .inl (cI, 40, .inl d_piece)), (dq9, .inl (cI, 40, .inl d_order)), (dq10, .inl (cI, 10, .inl d_came)), (dq11, .inl (cI, 100, .inl d_worth)), (dq12, .inl (cZ, 10, .inl d_used)), (dq13, .inl (cI, 10, .inl d_usedBy)), (dq14, .inl (cI, 10, .inl d_reservedFor)), (dq15, .inl (cI, 10, .inl d_reservedTo)), (dq18, .inl (cI, 10, .inl d_pieceDual)), (dq19, .inl (cI, 10, .inl d_orderDual)), (dq20, .inl (cJ, 11264, .inr (.inl d_table)))]) hD hS hA [0, 1, 2, 3, 4, 5, 6, 7, 8, 9, 10, 11] rfl
          refine va_calli (va_runV (As := [.int 1, .int 0, .int r13, .int 0]) (rest := []) ⟨hx, hb, hml, hown, hts⟩ (c_D_goes l dC dI cI cZ cJ dq dq8 dq9 dq10 dq11 dq12 dq13 dq14 dq15 dq18 dq19 dq20 s.heap.size d_thrown d_today d_cut d_aging d_saleFrom d_pieces d_orders d_piece d_order d_came d_worth d_used d_usedBy d_reservedFor d_reservedTo d_ran d_sum d_pieceDual d_orderDual d_table 1 0 r13 0 N (r15, u16) hc) (cwV 4 hts (gV (w0 670 rfl) (w0 671 rfl) (w0 18 rfl) (w0 33 rfl) (w0 672 rfl)) rfl rfl rfl q_D_goes ⟨Nat.le_of_ble_eq_true rfl, Nat.le_of_ble_eq_true rfl⟩) (wr_preV hK hPc hDc hN 5 0 (R_D, F_D, 20) rfl rfl) rfl rfl hl.1 rfl (lv_room (Nat.le_of_ble_eq_true rfl)) d_D_reserve_104 ⟨Nat.le_of_ble_eq_true rfl, Nat.le_of_ble_eq_true rfl⟩) hS (fun q _ h => hFc q h) hFc (fun r9 u t H1 locs ht hvm hw hB hz1 hk1 hS => ?_)
          subst hw
          obtain ⟨hP1, hK1, hD1⟩ := hB
          rw [ht] at hP1
          obtain ⟨hP, hD⟩ := va_join (wr := []) (w1 := [(dq, .inr (5, [.int u16, .int d_today, .int d_cut, .int d_aging, .int d_saleFrom, .int d_pieces, .int d_orders, .ref dq8, .ref dq9, .ref dq10, .ref dq11, .ref dq12, .ref dq13, .ref dq14, .ref dq15, .int d_ran, .int d_sum, .ref dq18, .ref dq19, .ref dq20])), (dq8, .inl (cI, 40, .inl d_piece)), (dq9, .inl (cI, 40, .inl d_order)), (dq10, .inl (cI, 10, .inl d_came)), (dq11, .inl (cI, 100, .inl d_worth)), (dq12, .inl (cZ, 10, .inl d_used)), (dq13, .inl (cI, 10, .inl d_usedBy)), (dq14, .inl (cI, 10, .inl d_reservedFor)), (dq15, .inl (cI, 10, .inl d_reservedTo)), (dq18, .inl (cI, 10, .inl d_pieceDual)), (dq19, .inl (cI, 10, .inl d_orderDual)), (dq20, .inl (cJ, 11264, .inr (.inl d_table)))]) hP hD [0, 1, 2, 3, 4, 5, 6, 7, 8, 9, 10, 11] [] rfl rfl (by decide) (by decide) hk1 hFc hP1 hD1
          generalize H1 = H at hP hS ⊢
          have hP : va_P (dC, dI) classes [(dq, .inr (5, [.int u16, .int d_today, .int d_cut, .int d_aging, .int d_saleFrom, .int d_pieces, .int d_orders, .ref dq8, .ref dq9, .ref dq10, .ref dq11, .ref dq12, .ref dq13, .ref dq14, .ref dq15, .int d_ran, .int d_sum, .ref dq18, .ref dq19, .ref dq20])), (dq8, .inl (cI, 40, .inl d_piece)), (dq9, .inl (cI, 40, .inl d_order)), (dq10, .inl (cI, 10, .inl d_came)), (dq11, .inl (cI, 100, .inl d_worth)), (dq12, .inl (cZ, 10, .inl d_used)), (dq13, .inl (cI, 10, .inl d_usedBy)), (dq14, .inl (cI, 10, .inl d_reservedFor)), (dq15, .inl (cI, 10, .inl d_reservedTo)), (dq18, .inl (cI, 10, .inl d_pieceDual)), (dq19, .inl (cI, 10, .inl d_orderDual)), (dq20, .inl (cJ, 11264, .inr (.inl d_table)))] H := hP
          have hD : va_D A [(dq, .inr (5, [.int u16, .int d_today, .int d_cut, .int d_aging, .int d_saleFrom, .int d_pieces, .int d_orders, .ref dq8, .ref dq9, .ref dq10, .ref dq11, .ref dq12, .ref dq13, .ref dq14, .ref dq15, .int d_ran, .int d_sum, .ref dq18, .ref dq19, .ref dq20])), (dq8, .inl (cI, 40, .inl d_piece)), (dq9, .inl (cI, 40, .inl d_order)), (dq10, .inl (cI, 10, .inl d_came)), (dq11, .inl (cI, 100, .inl d_worth)), (dq12, .inl (cZ, 10, .inl d_used)), (dq13, .inl (cI, 10, .inl d_usedBy)), (dq14, .inl (cI, 10, .inl d_reservedFor)), (dq15, .inl (cI, 10, .inl d_reservedTo)), (dq18, .inl (cI, 10, .inl d_pieceDual)), (dq19, .inl (cI, 10, .inl d_orderDual)), (dq20, .inl (cJ, 11264, .inr (.inl d_table)))] := hD
          clear hP1 hD1 hPc hDc hFc hk1 hz1
          refine lv_if_ne (tgt := 111) hx hb d_D_reserve_107 (by decide) (fun c9 => ?_) (fun c9 => ?_)
          · replace hm := if_f c9 hm
            refine lv_aload_n hx hb d_D_reserve_111 rfl (lv_at hl 2 rfl) ?_
            refine va_get (D := (dC, dI)) (ci := 5) (v := .ref dq14) (C := R_D) (T := F_D) (N := 20) hx hb hts hk1 hown hK hP 0 rfl rfl 13 (by decide) hk2 (fun _ h9 => h9) rfl d_D_reserve_112 ?_
            refine lv_iload_n hx hb d_D_reserve_115 rfl (lv_at hl 3 rfl) ?_
            refine lv_iload_n hx hb d_D_reserve_116 rfl (lv_at hl 4 rfl) ?_
            obtain ⟨h9, hm⟩ := gd hm
            refine va_iast hx hb hK hP hD hS 7 0 rfl rfl h9 d_D_reserve_117 (fun H locs hP hD hS => ?_)
            have hP : va_P (dC, dI) classes [(dq, .inr (5, [.int u16, .int d_today, .int d_cut, .int d_aging, .int d_saleFrom, .int d_pieces, .int d_orders, .ref dq8, .ref dq9, .ref dq10, .ref dq11, .ref dq12, .ref dq13, .ref dq14, .ref dq15, .int d_ran, .int d_sum, .ref dq18, .ref dq19, .ref dq20])), (dq8, .inl (cI, 40, .inl d_piece)), (dq9, .inl (cI, 40, .inl d_order)), (dq10, .inl (cI, 10, .inl d_came)), (dq11, .inl (cI, 100, .inl d_worth)), (dq12, .inl (cZ, 10, .inl d_used)), (dq13, .inl (cI, 10, .inl d_usedBy)), (dq14, .inl (cI, 10, .inl (upd d_reservedFor x1.toNatClampNeg x2))), (dq15, .inl (cI, 10, .inl d_reservedTo)), (dq18, .inl (cI, 10, .inl d_pieceDual)), (dq19, .inl (cI, 10, .inl d_orderDual)), (dq20, .inl (cJ, 11264, .inr (.inl d_table)))] H := hP
            have hD : va_D A [(dq, .inr (5, [.int u16, .int d_today, .int d_cut, .int d_aging, .int d_saleFrom, .int d_pieces, .int d_orders, .ref dq8, .ref dq9, .ref dq10, .ref dq11, .ref dq12, .ref dq13, .ref dq14, .ref dq15, .int d_ran, .int d_sum, .ref dq18, .ref dq19, .ref dq20])), (dq8, .inl (cI, 40, .inl d_piece)), (dq9, .inl (cI, 40, .inl d_order)), (dq10, .inl (cI, 10, .inl d_came)), (dq11, .inl (cI, 100, .inl d_worth)), (dq12, .inl (cZ, 10, .inl d_used)), (dq13, .inl (cI, 10, .inl d_usedBy)), (dq14, .inl (cI, 10, .inl (upd d_reservedFor x1.toNatClampNeg x2))), (dq15, .inl (cI, 10, .inl d_reservedTo)), (dq18, .inl (cI, 10, .inl d_pieceDual)), (dq19, .inl (cI, 10, .inl d_orderDual)), (dq20, .inl (cJ, 11264, .inr (.inl d_table)))] := hD
            refine lv_aload_n hx hb d_D_reserve_118 rfl (lv_at hl 2 rfl) ?_
            refine va_get (D := (dC, dI)) (ci := 5) (v := .ref dq15) (C := R_D) (T := F_D) (N := 20) hx hb hts hk1 hown hK hP 0 rfl rfl 14 (by decide) hk3 (fun _ h9 => h9) rfl d_D_reserve_119 ?_
            refine lv_iload_n hx hb d_D_reserve_122 rfl (lv_at hl 3 rfl) ?_
            refine lv_iload_n hx hb d_D_reserve_123 rfl (lv_at hl 5 rfl) ?_
            obtain ⟨h9, hm⟩ := gd hm
            refine va_iast hx hb hK hP hD hS 8 0 rfl rfl h9 d_D_reserve_124 (fun H locs hP hD hS => ?_)
            have hP : va_P (dC, dI) classes [(dq, .inr (5, [.int u16, .int d_today, .int d_cut, .int d_aging, .int d_saleFrom, .int d_pieces, .int d_orders, .ref dq8, .ref dq9, .ref dq10, .ref dq11, .ref dq12, .ref dq13, .ref dq14, .ref dq15, .int d_ran, .int d_sum, .ref dq18, .ref dq19, .ref dq20])), (dq8, .inl (cI, 40, .inl d_piece)), (dq9, .inl (cI, 40, .inl d_order)), (dq10, .inl (cI, 10, .inl d_came)), (dq11, .inl (cI, 100, .inl d_worth)), (dq12, .inl (cZ, 10, .inl d_used)), (dq13, .inl (cI, 10, .inl d_usedBy)), (dq14, .inl (cI, 10, .inl (upd d_reservedFor x1.toNatClampNeg x2))), (dq15, .inl (cI, 10, .inl (upd d_reservedTo x1.toNatClampNeg x3))), (dq18, .inl (cI, 10, .inl d_pieceDual)), (dq19, .inl (cI, 10, .inl d_orderDual)), (dq20, .inl (cJ, 11264, .inr (.inl d_table)))] H := hP
            have hD : va_D A [(dq, .inr (5, [.int u16, .int d_today, .int d_cut, .int d_aging, .int d_saleFrom, .int d_pieces, .int d_orders, .ref dq8, .ref dq9, .ref dq10, .ref dq11, .ref dq12, .ref dq13, .ref dq14, .ref dq15, .int d_ran, .int d_sum, .ref dq18, .ref dq19, .ref dq20])), (dq8, .inl (cI, 40, .inl d_piece)), (dq9, .inl (cI, 40, .inl d_order)), (dq10, .inl (cI, 10, .inl d_came)), (dq11, .inl (cI, 100, .inl d_worth)), (dq12, .inl (cZ, 10, .inl d_used)), (dq13, .inl (cI, 10, .inl d_usedBy)), (dq14, .inl (cI, 10, .inl (upd d_reservedFor x1.toNatClampNeg x2))), (dq15, .inl (cI, 10, .inl (upd d_reservedTo x1.toNatClampNeg x3))), (dq18, .inl (cI, 10, .inl d_pieceDual)), (dq19, .inl (cI, 10, .inl d_orderDual)), (dq20, .inl (cJ, 11264, .inr (.inl d_table)))] := hD
            cases hm
            refine W.widen (k := 0) (n := 0) (Nat.le_of_ble_eq_true rfl) (Nat.le_of_ble_eq_true rfl) ?_
            exact W.vret hx hb hr (fun t ht hW => ⟨⟨(), rfl, trivial, by rw [ht]; exact hP, va_K.moved hW.alike hK, hD⟩, hS.F ht⟩) hS.2.2 d_D_reserve_125
          · replace hm := if_t c9 hm
            cases hm
            refine W.widen (k := 0) (n := 0) (Nat.le_of_ble_eq_true rfl) (Nat.le_of_ble_eq_true rfl) ?_
            exact W.vret hx hb hr (fun t ht hW => ⟨⟨(), rfl, trivial, by rw [ht]; exact hP, va_K.moved hW.alike hK, hD⟩, hS.F ht⟩) hS.2.2 d_D_reserve_110
        · replace hm := if_f c9 hm
          refine lv_iconst (v := 1) hx hb d_D_reserve_99 (by decide) ?_
          refine lv_goto (tgt := 104) hx hb d_D_reserve_100 (by decide) ?_
          obtain ⟨⟨r18, u19⟩, hc, hm⟩ := bd hm
          try dsimp only at hm
          have hPc := hP.sub (ws' := [(dq, .inr (5, [.int d_thrown, .int d_today, .int d_cut, .int d_aging, .int d_saleFrom, .int d_pieces, .int d_orders, .ref dq8, .ref dq9, .ref dq10, .ref dq11, .ref dq12, .ref dq13, .ref dq14, .ref dq15, .int d_ran, .int d_sum, .ref dq18, .ref dq19, .ref dq20])), (dq8, .inl (cI, 40, .inl d_piece)), (dq9, .inl (cI, 40, .inl d_order)), (dq10, .inl (cI, 10, .inl d_came)), (dq11, .inl (cI, 100, .inl d_worth)), (dq12, .inl (cZ, 10, .inl d_used)), (dq13, .inl (cI, 10, .inl d_usedBy)), (dq14, .inl (cI, 10, .inl d_reservedFor)), (dq15, .inl (cI, 10, .inl d_reservedTo)), (dq18, .inl (cI, 10, .inl d_pieceDual)), (dq19, .inl (cI, 10, .inl d_orderDual)), (dq20, .inl (cJ, 11264, .inr (.inl d_table)))]) [0, 1, 2, 3, 4, 5, 6, 7, 8, 9, 10, 11] rfl
          have hDc := hD.sub (ws' := [(dq, .inr (5, [.int d_thrown, .int d_today, .int d_cut, .int d_aging, .int d_saleFrom, .int d_pieces, .int d_orders, .ref dq8, .ref dq9, .ref dq10, .ref dq11, .ref dq12, .ref dq13, .ref dq14, .ref dq15, .int d_ran, .int d_sum, .ref dq18, .ref dq19, .ref dq20])), (dq8, .inl (cI, 40, .inl d_piece)), (dq9, .inl (cI, 40, .inl d_order)), (dq10, .inl (cI, 10, .inl d_came)), (dq11, .inl (cI, 100, .inl d_worth)), (dq12, .inl (cZ, 10, .inl d_used)), (dq13, .inl (cI, 10, .inl d_usedBy)), (dq14, .inl (cI, 10, .inl d_reservedFor)), (dq15, .inl (cI, 10, .inl d_reservedTo)), (dq18, .inl (cI, 10, .inl d_pieceDual)), (dq19, .inl (cI, 10, .inl d_orderDual)), (dq20, .inl (cJ, 11264, .inr (.inl d_table)))]) [0, 1, 2, 3, 4, 5, 6, 7, 8, 9, 10, 11] (by decide) rfl
          have hFc := va_free (wc := [(dq, .inr (5, [.int d_thrown, .int d_today, .int d_cut, .int d_aging, .int d_saleFrom, .int d_pieces, .int d_orders, .ref dq8, .ref dq9, .ref dq10, .ref dq11, .ref dq12, .ref dq13, .ref dq14, .ref dq15, .int d_ran, .int d_sum, .ref dq18, .ref dq19, .ref dq20])), (dq8, .inl (cI, 40, .inl d_piece)), (dq9, .inl (cI, 40, .inl d_order)), (dq10, .inl (cI, 10, .inl d_came)), (dq11, .inl (cI, 100, .inl d_worth)), (dq12, .inl (cZ, 10, .inl d_used)), (dq13, .inl (cI, 10, .inl d_usedBy)), (dq14, .inl (cI, 10, .inl d_reservedFor)), (dq15, .inl (cI, 10, .inl d_reservedTo)), (dq18, .inl (cI, 10, .inl d_pieceDual)), (dq19, .inl (cI, 10, .inl d_orderDual)), (dq20, .inl (cJ, 11264, .inr (.inl d_table)))]) hD hS hA [0, 1, 2, 3, 4, 5, 6, 7, 8, 9, 10, 11] rfl
          refine va_calli (va_runV (As := [.int 1, .int 0, .int r13, .int 1]) (rest := []) ⟨hx, hb, hml, hown, hts⟩ (c_D_goes l dC dI cI cZ cJ dq dq8 dq9 dq10 dq11 dq12 dq13 dq14 dq15 dq18 dq19 dq20 s.heap.size d_thrown d_today d_cut d_aging d_saleFrom d_pieces d_orders d_piece d_order d_came d_worth d_used d_usedBy d_reservedFor d_reservedTo d_ran d_sum d_pieceDual d_orderDual d_table 1 0 r13 1 N (r18, u19) hc) (cwV 4 hts (gV (w0 670 rfl) (w0 671 rfl) (w0 18 rfl) (w0 33 rfl) (w0 672 rfl)) rfl rfl rfl q_D_goes ⟨Nat.le_of_ble_eq_true rfl, Nat.le_of_ble_eq_true rfl⟩) (wr_preV hK hPc hDc hN 5 0 (R_D, F_D, 20) rfl rfl) rfl rfl hl.1 rfl (lv_room (Nat.le_of_ble_eq_true rfl)) d_D_reserve_104 ⟨Nat.le_of_ble_eq_true rfl, Nat.le_of_ble_eq_true rfl⟩) hS (fun q _ h => hFc q h) hFc (fun r9 u t H1 locs ht hvm hw hB hz1 hk1 hS => ?_)
          subst hw
          obtain ⟨hP1, hK1, hD1⟩ := hB
          rw [ht] at hP1
          obtain ⟨hP, hD⟩ := va_join (wr := []) (w1 := [(dq, .inr (5, [.int u19, .int d_today, .int d_cut, .int d_aging, .int d_saleFrom, .int d_pieces, .int d_orders, .ref dq8, .ref dq9, .ref dq10, .ref dq11, .ref dq12, .ref dq13, .ref dq14, .ref dq15, .int d_ran, .int d_sum, .ref dq18, .ref dq19, .ref dq20])), (dq8, .inl (cI, 40, .inl d_piece)), (dq9, .inl (cI, 40, .inl d_order)), (dq10, .inl (cI, 10, .inl d_came)), (dq11, .inl (cI, 100, .inl d_worth)), (dq12, .inl (cZ, 10, .inl d_used)), (dq13, .inl (cI, 10, .inl d_usedBy)), (dq14, .inl (cI, 10, .inl d_reservedFor)), (dq15, .inl (cI, 10, .inl d_reservedTo)), (dq18, .inl (cI, 10, .inl d_pieceDual)), (dq19, .inl (cI, 10, .inl d_orderDual)), (dq20, .inl (cJ, 11264, .inr (.inl d_table)))]) hP hD [0, 1, 2, 3, 4, 5, 6, 7, 8, 9, 10, 11] [] rfl rfl (by decide) (by decide) hk1 hFc hP1 hD1
          generalize H1 = H at hP hS ⊢
          have hP : va_P (dC, dI) classes [(dq, .inr (5, [.int u19, .int d_today, .int d_cut, .int d_aging, .int d_saleFrom, .int d_pieces, .int d_orders, .ref dq8, .ref dq9, .ref dq10, .ref dq11, .ref dq12, .ref dq13, .ref dq14, .ref dq15, .int d_ran, .int d_sum, .ref dq18, .ref dq19, .ref dq20])), (dq8, .inl (cI, 40, .inl d_piece)), (dq9, .inl (cI, 40, .inl d_order)), (dq10, .inl (cI, 10, .inl d_came)), (dq11, .inl (cI, 100, .inl d_worth)), (dq12, .inl (cZ, 10, .inl d_used)), (dq13, .inl (cI, 10, .inl d_usedBy)), (dq14, .inl (cI, 10, .inl d_reservedFor)), (dq15, .inl (cI, 10, .inl d_reservedTo)), (dq18, .inl (cI, 10, .inl d_pieceDual)), (dq19, .inl (cI, 10, .inl d_orderDual)), (dq20, .inl (cJ, 11264, .inr (.inl d_table)))] H := hP
          have hD : va_D A [(dq, .inr (5, [.int u19, .int d_today, .int d_cut, .int d_aging, .int d_saleFrom, .int d_pieces, .int d_orders, .ref dq8, .ref dq9, .ref dq10, .ref dq11, .ref dq12, .ref dq13, .ref dq14, .ref dq15, .int d_ran, .int d_sum, .ref dq18, .ref dq19, .ref dq20])), (dq8, .inl (cI, 40, .inl d_piece)), (dq9, .inl (cI, 40, .inl d_order)), (dq10, .inl (cI, 10, .inl d_came)), (dq11, .inl (cI, 100, .inl d_worth)), (dq12, .inl (cZ, 10, .inl d_used)), (dq13, .inl (cI, 10, .inl d_usedBy)), (dq14, .inl (cI, 10, .inl d_reservedFor)), (dq15, .inl (cI, 10, .inl d_reservedTo)), (dq18, .inl (cI, 10, .inl d_pieceDual)), (dq19, .inl (cI, 10, .inl d_orderDual)), (dq20, .inl (cJ, 11264, .inr (.inl d_table)))] := hD
          clear hP1 hD1 hPc hDc hFc hk1 hz1
          refine lv_if_ne (tgt := 111) hx hb d_D_reserve_107 (by decide) (fun c9 => ?_) (fun c9 => ?_)
          · replace hm := if_f c9 hm
            refine lv_aload_n hx hb d_D_reserve_111 rfl (lv_at hl 2 rfl) ?_
            refine va_get (D := (dC, dI)) (ci := 5) (v := .ref dq14) (C := R_D) (T := F_D) (N := 20) hx hb hts hk1 hown hK hP 0 rfl rfl 13 (by decide) hk2 (fun _ h9 => h9) rfl d_D_reserve_112 ?_
            refine lv_iload_n hx hb d_D_reserve_115 rfl (lv_at hl 3 rfl) ?_
            refine lv_iload_n hx hb d_D_reserve_116 rfl (lv_at hl 4 rfl) ?_
            obtain ⟨h9, hm⟩ := gd hm
            refine va_iast hx hb hK hP hD hS 7 0 rfl rfl h9 d_D_reserve_117 (fun H locs hP hD hS => ?_)
            have hP : va_P (dC, dI) classes [(dq, .inr (5, [.int u19, .int d_today, .int d_cut, .int d_aging, .int d_saleFrom, .int d_pieces, .int d_orders, .ref dq8, .ref dq9, .ref dq10, .ref dq11, .ref dq12, .ref dq13, .ref dq14, .ref dq15, .int d_ran, .int d_sum, .ref dq18, .ref dq19, .ref dq20])), (dq8, .inl (cI, 40, .inl d_piece)), (dq9, .inl (cI, 40, .inl d_order)), (dq10, .inl (cI, 10, .inl d_came)), (dq11, .inl (cI, 100, .inl d_worth)), (dq12, .inl (cZ, 10, .inl d_used)), (dq13, .inl (cI, 10, .inl d_usedBy)), (dq14, .inl (cI, 10, .inl (upd d_reservedFor x1.toNatClampNeg x2))), (dq15, .inl (cI, 10, .inl d_reservedTo)), (dq18, .inl (cI, 10, .inl d_pieceDual)), (dq19, .inl (cI, 10, .inl d_orderDual)), (dq20, .inl (cJ, 11264, .inr (.inl d_table)))] H := hP
            have hD : va_D A [(dq, .inr (5, [.int u19, .int d_today, .int d_cut, .int d_aging, .int d_saleFrom, .int d_pieces, .int d_orders, .ref dq8, .ref dq9, .ref dq10, .ref dq11, .ref dq12, .ref dq13, .ref dq14, .ref dq15, .int d_ran, .int d_sum, .ref dq18, .ref dq19, .ref dq20])), (dq8, .inl (cI, 40, .inl d_piece)), (dq9, .inl (cI, 40, .inl d_order)), (dq10, .inl (cI, 10, .inl d_came)), (dq11, .inl (cI, 100, .inl d_worth)), (dq12, .inl (cZ, 10, .inl d_used)), (dq13, .inl (cI, 10, .inl d_usedBy)), (dq14, .inl (cI, 10, .inl (upd d_reservedFor x1.toNatClampNeg x2))), (dq15, .inl (cI, 10, .inl d_reservedTo)), (dq18, .inl (cI, 10, .inl d_pieceDual)), (dq19, .inl (cI, 10, .inl d_orderDual)), (dq20, .inl (cJ, 11264, .inr (.inl d_table)))] := hD
            refine lv_aload_n hx hb d_D_reserve_118 rfl (lv_at hl 2 rfl) ?_
            refine va_get (D := (dC, dI)) (ci := 5) (v := .ref dq15) (C := R_D) (T := F_D) (N := 20) hx hb hts hk1 hown hK hP 0 rfl rfl 14 (by decide) hk3 (fun _ h9 => h9) rfl d_D_reserve_119 ?_
            refine lv_iload_n hx hb d_D_reserve_122 rfl (lv_at hl 3 rfl) ?_
            refine lv_iload_n hx hb d_D_reserve_123 rfl (lv_at hl 5 rfl) ?_
            obtain ⟨h9, hm⟩ := gd hm
            refine va_iast hx hb hK hP hD hS 8 0 rfl rfl h9 d_D_reserve_124 (fun H locs hP hD hS => ?_)
            have hP : va_P (dC, dI) classes [(dq, .inr (5, [.int u19, .int d_today, .int d_cut, .int d_aging, .int d_saleFrom, .int d_pieces, .int d_orders, .ref dq8, .ref dq9, .ref dq10, .ref dq11, .ref dq12, .ref dq13, .ref dq14, .ref dq15, .int d_ran, .int d_sum, .ref dq18, .ref dq19, .ref dq20])), (dq8, .inl (cI, 40, .inl d_piece)), (dq9, .inl (cI, 40, .inl d_order)), (dq10, .inl (cI, 10, .inl d_came)), (dq11, .inl (cI, 100, .inl d_worth)), (dq12, .inl (cZ, 10, .inl d_used)), (dq13, .inl (cI, 10, .inl d_usedBy)), (dq14, .inl (cI, 10, .inl (upd d_reservedFor x1.toNatClampNeg x2))), (dq15, .inl (cI, 10, .inl (upd d_reservedTo x1.toNatClampNeg x3))), (dq18, .inl (cI, 10, .inl d_pieceDual)), (dq19, .inl (cI, 10, .inl d_orderDual)), (dq20, .inl (cJ, 11264, .inr (.inl d_table)))] H := hP
            have hD : va_D A [(dq, .inr (5, [.int u19, .int d_today, .int d_cut, .int d_aging, .int d_saleFrom, .int d_pieces, .int d_orders, .ref dq8, .ref dq9, .ref dq10, .ref dq11, .ref dq12, .ref dq13, .ref dq14, .ref dq15, .int d_ran, .int d_sum, .ref dq18, .ref dq19, .ref dq20])), (dq8, .inl (cI, 40, .inl d_piece)), (dq9, .inl (cI, 40, .inl d_order)), (dq10, .inl (cI, 10, .inl d_came)), (dq11, .inl (cI, 100, .inl d_worth)), (dq12, .inl (cZ, 10, .inl d_used)), (dq13, .inl (cI, 10, .inl d_usedBy)), (dq14, .inl (cI, 10, .inl (upd d_reservedFor x1.toNatClampNeg x2))), (dq15, .inl (cI, 10, .inl (upd d_reservedTo x1.toNatClampNeg x3))), (dq18, .inl (cI, 10, .inl d_pieceDual)), (dq19, .inl (cI, 10, .inl d_orderDual)), (dq20, .inl (cJ, 11264, .inr (.inl d_table)))] := hD
            cases hm
            refine W.widen (k := 0) (n := 0) (Nat.le_of_ble_eq_true rfl) (Nat.le_of_ble_eq_true rfl) ?_
            exact W.vret hx hb hr (fun t ht hW => ⟨⟨(), rfl, trivial, by rw [ht]; exact hP, va_K.moved hW.alike hK, hD⟩, hS.F ht⟩) hS.2.2 d_D_reserve_125
          · replace hm := if_t c9 hm
            cases hm
            refine W.widen (k := 0) (n := 0) (Nat.le_of_ble_eq_true rfl) (Nat.le_of_ble_eq_true rfl) ?_
            exact W.vret hx hb hr (fun t ht hW => ⟨⟨(), rfl, trivial, by rw [ht]; exact hP, va_K.moved hW.alike hK, hD⟩, hS.F ht⟩) hS.2.2 d_D_reserve_110
      · replace hm := if_t c9 hm
        refine lv_aload_n hx hb d_D_reserve_37 rfl (lv_at hl 1 rfl) ?_
        refine va_get (D := (dC, dI)) (ci := 5) (v := .ref dq13) (C := R_D) (T := F_D) (N := 20) hx hb hts hk1 hown hK hP 0 rfl rfl 12 (by decide) hk5 (fun _ h9 => h9) rfl d_D_reserve_38 ?_
        refine lv_iload_n hx hb d_D_reserve_41 rfl (lv_at hl 3 rfl) ?_
        obtain ⟨h9, hm⟩ := gd hm
        refine va_iald hx hb hK hP 6 0 rfl rfl h9 d_D_reserve_42 ?_
        refine lv_if_ge (tgt := 66) hx hb d_D_reserve_43 (by decide) (fun c9 => ?_) (fun c9 => ?_)
        · replace hm := if_t c9 hm
          refine lv_iconst (v := 0) hx hb d_D_reserve_66 (by decide) ?_
          refine lv_istore (lv' := [(5, .int 0), (4, .int 1), (0, .ref dq), (1, .int x1), (2, .int x2), (3, .int x3)]) hx hb d_D_reserve_67 hl (by decide) rfl (fun ls hl => ?_)
          refine lv_aload_n hx hb d_D_reserve_69 rfl (lv_at hl 2 rfl) ?_
          refine lv_iload hx hb d_D_reserve_70 (lv_at hl 1 rfl) ?_
          refine lv_iload hx hb d_D_reserve_72 (lv_at hl 0 rfl) ?_
          refine lv_iload_n hx hb d_D_reserve_74 rfl (lv_at hl 5 rfl) ?_
          refine lv_aload_n hx hb d_D_reserve_75 rfl (lv_at hl 2 rfl) ?_
          refine va_get (D := (dC, dI)) (ci := 5) (v := .int d_today) (C := R_D) (T := F_D) (N := 20) hx hb hts hk1 hown hK hP 0 rfl rfl 1 (by decide) hk0 (fun _ h9 => h9) rfl d_D_reserve_76 ?_
          refine lv_sipush (v := 9999) hx hb d_D_reserve_79 (by decide) ?_
          obtain ⟨r23, hc, hm⟩ := bd hm
          try dsimp only at hm
          refine vp_callSi (W.runS (As := [.int x3, .int d_today, .int 9999]) (rest := [.int 0, .int 1, .ref dq]) ⟨hx, hb, hml, hown, hts⟩ (c_D_in l dC dI cI x3 d_today 9999 N r23 hc) (cwS 3 hts (gS (w0 667 rfl) (w0 668 rfl) (w0 33 rfl) (w0 669 rfl)) rfl rfl rfl q_D_in ⟨Nat.le_of_ble_eq_true rfl, Nat.le_of_ble_eq_true rfl⟩) ro_pre0 rfl rfl hl.1 rfl (lv_room (Nat.le_of_ble_eq_true rfl)) d_D_reserve_82 ⟨Nat.le_of_ble_eq_true rfl, Nat.le_of_ble_eq_true rfl⟩) (fun r9 hr9 => ?_)
          subst hr9
          refine lv_iload hx hb d_D_reserve_85 (lv_at hl 1 rfl) ?_
          refine lv_if_eq (tgt := 103) hx hb d_D_reserve_87 (by decide) (fun c9 => absurd c9 (by decide)) (fun c9 => ?_)
          clear c9
          refine lv_aload_n hx hb d_D_reserve_90 rfl (lv_at hl 2 rfl) ?_
          refine lv_iload_n hx hb d_D_reserve_91 rfl (lv_at hl 3 rfl) ?_
          refine lv_iload_n hx hb d_D_reserve_92 rfl (lv_at hl 4 rfl) ?_
          obtain ⟨r24, hc, hm⟩ := bd hm
          try dsimp only at hm
          refine vp_callSi (W.runV (As := [.int x1, .int x2]) (rest := [.int r23, .int 0, .int 1, .ref dq]) ⟨hx, hb, hml, hown, hts⟩ (c_D_isFit l dC dI cI cZ cJ dq dq8 dq9 dq10 dq11 dq12 dq13 dq14 dq15 dq18 dq19 dq20 d_thrown d_today d_cut d_aging d_saleFrom d_pieces d_orders d_piece d_order d_came d_worth d_used d_usedBy d_reservedFor d_reservedTo d_ran d_sum d_pieceDual d_orderDual d_table x1 x2 N r24 hc) (cwV 2 hts (gV (w0 688 rfl) (w0 689 rfl) (w0 21 rfl) (w0 33 rfl) (w0 690 rfl)) rfl rfl rfl q_D_isFit ⟨Nat.le_of_ble_eq_true rfl, Nat.le_of_ble_eq_true rfl⟩) (ro_preV [0, 1, 2, 3, 4, 5, 6, 7, 8, 9, 10, 11] rfl hK hP hN 5 0 (R_D, F_D, 20) rfl rfl) rfl rfl hl.1 rfl (lv_room (Nat.le_of_ble_eq_true rfl)) d_D_reserve_93 ⟨Nat.le_of_ble_eq_true rfl, Nat.le_of_ble_eq_true rfl⟩) (fun r9 hr9 => ?_)
          subst hr9
          refine lv_if_eq (tgt := 103) hx hb d_D_reserve_96 (by decide) (fun c9 => ?_) (fun c9 => ?_)
          · replace hm := if_t c9 hm
            refine lv_iconst (v := 0) hx hb d_D_reserve_103 (by decide) ?_
            obtain ⟨⟨r25, u26⟩, hc, hm⟩ := bd hm
            try dsimp only at hm
            have hPc := hP.sub (ws' := [(dq, .inr (5, [.int d_thrown, .int d_today, .int d_cut, .int d_aging, .int d_saleFrom, .int d_pieces, .int d_orders, .ref dq8, .ref dq9, .ref dq10, .ref dq11, .ref dq12, .ref dq13, .ref dq14, .ref dq15, .int d_ran, .int d_sum, .ref dq18, .ref dq19, .ref dq20])), (dq8, .inl (cI, 40, .inl d_piece)), (dq9, .inl (cI, 40, .inl d_order)), (dq10, .inl (cI, 10, .inl d_came)), (dq11, .inl (cI, 100, .inl d_worth)), (dq12, .inl (cZ, 10, .inl d_used)), (dq13, .inl (cI, 10, .inl d_usedBy)), (dq14, .inl (cI, 10, .inl d_reservedFor)), (dq15, .inl (cI, 10, .inl d_reservedTo)), (dq18, .inl (cI, 10, .inl d_pieceDual)), (dq19, .inl (cI, 10, .inl d_orderDual)), (dq20, .inl (cJ, 11264, .inr (.inl d_table)))]) [0, 1, 2, 3, 4, 5, 6, 7, 8, 9, 10, 11] rfl
            have hDc := hD.sub (ws' := [(dq, .inr (5, [.int d_thrown, .int d_today, .int d_cut, .int d_aging, .int d_saleFrom, .int d_pieces, .int d_orders, .ref dq8, .ref dq9, .ref dq10, .ref dq11, .ref dq12, .ref dq13, .ref dq14, .ref dq15, .int d_ran, .int d_sum, .ref dq18, .ref dq19, .ref dq20])), (dq8, .inl (cI, 40, .inl d_piece)), (dq9, .inl (cI, 40, .inl d_order)), (dq10, .inl (cI, 10, .inl d_came)), (dq11, .inl (cI, 100, .inl d_worth)), (dq12, .inl (cZ, 10, .inl d_used)), (dq13, .inl (cI, 10, .inl d_usedBy)), (dq14, .inl (cI, 10, .inl d_reservedFor)), (dq15, .inl (cI, 10, .inl d_reservedTo)), (dq18, .inl (cI, 10, .inl d_pieceDual)), (dq19, .inl (cI, 10, .inl d_orderDual)), (dq20, .inl (cJ, 11264, .inr (.inl d_table)))]) [0, 1, 2, 3, 4, 5, 6, 7, 8, 9, 10, 11] (by decide) rfl
            have hFc := va_free (wc := [(dq, .inr (5, [.int d_thrown, .int d_today, .int d_cut, .int d_aging, .int d_saleFrom, .int d_pieces, .int d_orders, .ref dq8, .ref dq9, .ref dq10, .ref dq11, .ref dq12, .ref dq13, .ref dq14, .ref dq15, .int d_ran, .int d_sum, .ref dq18, .ref dq19, .ref dq20])), (dq8, .inl (cI, 40, .inl d_piece)), (dq9, .inl (cI, 40, .inl d_order)), (dq10, .inl (cI, 10, .inl d_came)), (dq11, .inl (cI, 100, .inl d_worth)), (dq12, .inl (cZ, 10, .inl d_used)), (dq13, .inl (cI, 10, .inl d_usedBy)), (dq14, .inl (cI, 10, .inl d_reservedFor)), (dq15, .inl (cI, 10, .inl d_reservedTo)), (dq18, .inl (cI, 10, .inl d_pieceDual)), (dq19, .inl (cI, 10, .inl d_orderDual)), (dq20, .inl (cJ, 11264, .inr (.inl d_table)))]) hD hS hA [0, 1, 2, 3, 4, 5, 6, 7, 8, 9, 10, 11] rfl
            refine va_calli (va_runV (As := [.int 1, .int 0, .int r23, .int 0]) (rest := []) ⟨hx, hb, hml, hown, hts⟩ (c_D_goes l dC dI cI cZ cJ dq dq8 dq9 dq10 dq11 dq12 dq13 dq14 dq15 dq18 dq19 dq20 s.heap.size d_thrown d_today d_cut d_aging d_saleFrom d_pieces d_orders d_piece d_order d_came d_worth d_used d_usedBy d_reservedFor d_reservedTo d_ran d_sum d_pieceDual d_orderDual d_table 1 0 r23 0 N (r25, u26) hc) (cwV 4 hts (gV (w0 670 rfl) (w0 671 rfl) (w0 18 rfl) (w0 33 rfl) (w0 672 rfl)) rfl rfl rfl q_D_goes ⟨Nat.le_of_ble_eq_true rfl, Nat.le_of_ble_eq_true rfl⟩) (wr_preV hK hPc hDc hN 5 0 (R_D, F_D, 20) rfl rfl) rfl rfl hl.1 rfl (lv_room (Nat.le_of_ble_eq_true rfl)) d_D_reserve_104 ⟨Nat.le_of_ble_eq_true rfl, Nat.le_of_ble_eq_true rfl⟩) hS (fun q _ h => hFc q h) hFc (fun r9 u t H1 locs ht hvm hw hB hz1 hk1 hS => ?_)
            subst hw
            obtain ⟨hP1, hK1, hD1⟩ := hB
            rw [ht] at hP1
            obtain ⟨hP, hD⟩ := va_join (wr := []) (w1 := [(dq, .inr (5, [.int u26, .int d_today, .int d_cut, .int d_aging, .int d_saleFrom, .int d_pieces, .int d_orders, .ref dq8, .ref dq9, .ref dq10, .ref dq11, .ref dq12, .ref dq13, .ref dq14, .ref dq15, .int d_ran, .int d_sum, .ref dq18, .ref dq19, .ref dq20])), (dq8, .inl (cI, 40, .inl d_piece)), (dq9, .inl (cI, 40, .inl d_order)), (dq10, .inl (cI, 10, .inl d_came)), (dq11, .inl (cI, 100, .inl d_worth)), (dq12, .inl (cZ, 10, .inl d_used)), (dq13, .inl (cI, 10, .inl d_usedBy)), (dq14, .inl (cI, 10, .inl d_reservedFor)), (dq15, .inl (cI, 10, .inl d_reservedTo)), (dq18, .inl (cI, 10, .inl d_pieceDual)), (dq19, .inl (cI, 10, .inl d_orderDual)), (dq20, .inl (cJ, 11264, .inr (.inl d_table)))]) hP hD [0, 1, 2, 3, 4, 5, 6, 7, 8, 9, 10, 11] [] rfl rfl (by decide) (by decide) hk1 hFc hP1 hD1
            generalize H1 = H at hP hS ⊢
            have hP : va_P (dC, dI) classes [(dq, .inr (5, [.int u26, .int d_today, .int d_cut, .int d_aging, .int d_saleFrom, .int d_pieces, .int d_orders, .ref dq8, .ref dq9, .ref dq10, .ref dq11, .ref dq12, .ref dq13, .ref dq14, .ref dq15, .int d_ran, .int d_sum, .ref dq18, .ref dq19, .ref dq20])), (dq8, .inl (cI, 40, .inl d_piece)), (dq9, .inl (cI, 40, .inl d_order)), (dq10, .inl (cI, 10, .inl d_came)), (dq11, .inl (cI, 100, .inl d_worth)), (dq12, .inl (cZ, 10, .inl d_used)), (dq13, .inl (cI, 10, .inl d_usedBy)), (dq14, .inl (cI, 10, .inl d_reservedFor)), (dq15, .inl (cI, 10, .inl d_reservedTo)), (dq18, .inl (cI, 10, .inl d_pieceDual)), (dq19, .inl (cI, 10, .inl d_orderDual)), (dq20, .inl (cJ, 11264, .inr (.inl d_table)))] H := hP
            have hD : va_D A [(dq, .inr (5, [.int u26, .int d_today, .int d_cut, .int d_aging, .int d_saleFrom, .int d_pieces, .int d_orders, .ref dq8, .ref dq9, .ref dq10, .ref dq11, .ref dq12, .ref dq13, .ref dq14, .ref dq15, .int d_ran, .int d_sum, .ref dq18, .ref dq19, .ref dq20])), (dq8, .inl (cI, 40, .inl d_piece)), (dq9, .inl (cI, 40, .inl d_order)), (dq10, .inl (cI, 10, .inl d_came)), (dq11, .inl (cI, 100, .inl d_worth)), (dq12, .inl (cZ, 10, .inl d_used)), (dq13, .inl (cI, 10, .inl d_usedBy)), (dq14, .inl (cI, 10, .inl d_reservedFor)), (dq15, .inl (cI, 10, .inl d_reservedTo)), (dq18, .inl (cI, 10, .inl d_pieceDual)), (dq19, .inl (cI, 10, .inl d_orderDual)), (dq20, .inl (cJ, 11264, .inr (.inl d_table)))] := hD
            clear hP1 hD1 hPc hDc hFc hk1 hz1
            refine lv_if_ne (tgt := 111) hx hb d_D_reserve_107 (by decide) (fun c9 => ?_) (fun c9 => ?_)
            · replace hm := if_f c9 hm
              refine lv_aload_n hx hb d_D_reserve_111 rfl (lv_at hl 2 rfl) ?_
              refine va_get (D := (dC, dI)) (ci := 5) (v := .ref dq14) (C := R_D) (T := F_D) (N := 20) hx hb hts hk1 hown hK hP 0 rfl rfl 13 (by decide) hk2 (fun _ h9 => h9) rfl d_D_reserve_112 ?_
              refine lv_iload_n hx hb d_D_reserve_115 rfl (lv_at hl 3 rfl) ?_
              refine lv_iload_n hx hb d_D_reserve_116 rfl (lv_at hl 4 rfl) ?_
              obtain ⟨h9, hm⟩ := gd hm
              refine va_iast hx hb hK hP hD hS 7 0 rfl rfl h9 d_D_reserve_117 (fun H locs hP hD hS => ?_)
              have hP : va_P (dC, dI) classes [(dq, .inr (5, [.int u26, .int d_today, .int d_cut, .int d_aging, .int d_saleFrom, .int d_pieces, .int d_orders, .ref dq8, .ref dq9, .ref dq10, .ref dq11, .ref dq12, .ref dq13, .ref dq14, .ref dq15, .int d_ran, .int d_sum, .ref dq18, .ref dq19, .ref dq20])), (dq8, .inl (cI, 40, .inl d_piece)), (dq9, .inl (cI, 40, .inl d_order)), (dq10, .inl (cI, 10, .inl d_came)), (dq11, .inl (cI, 100, .inl d_worth)), (dq12, .inl (cZ, 10, .inl d_used)), (dq13, .inl (cI, 10, .inl d_usedBy)), (dq14, .inl (cI, 10, .inl (upd d_reservedFor x1.toNatClampNeg x2))), (dq15, .inl (cI, 10, .inl d_reservedTo)), (dq18, .inl (cI, 10, .inl d_pieceDual)), (dq19, .inl (cI, 10, .inl d_orderDual)), (dq20, .inl (cJ, 11264, .inr (.inl d_table)))] H := hP
              have hD : va_D A [(dq, .inr (5, [.int u26, .int d_today, .int d_cut, .int d_aging, .int d_saleFrom, .int d_pieces, .int d_orders, .ref dq8, .ref dq9, .ref dq10, .ref dq11, .ref dq12, .ref dq13, .ref dq14, .ref dq15, .int d_ran, .int d_sum, .ref dq18, .ref dq19, .ref dq20])), (dq8, .inl (cI, 40, .inl d_piece)), (dq9, .inl (cI, 40, .inl d_order)), (dq10, .inl (cI, 10, .inl d_came)), (dq11, .inl (cI, 100, .inl d_worth)), (dq12, .inl (cZ, 10, .inl d_used)), (dq13, .inl (cI, 10, .inl d_usedBy)), (dq14, .inl (cI, 10, .inl (upd d_reservedFor x1.toNatClampNeg x2))), (dq15, .inl (cI, 10, .inl d_reservedTo)), (dq18, .inl (cI, 10, .inl d_pieceDual)), (dq19, .inl (cI, 10, .inl d_orderDual)), (dq20, .inl (cJ, 11264, .inr (.inl d_table)))] := hD
              refine lv_aload_n hx hb d_D_reserve_118 rfl (lv_at hl 2 rfl) ?_
              refine va_get (D := (dC, dI)) (ci := 5) (v := .ref dq15) (C := R_D) (T := F_D) (N := 20) hx hb hts hk1 hown hK hP 0 rfl rfl 14 (by decide) hk3 (fun _ h9 => h9) rfl d_D_reserve_119 ?_
              refine lv_iload_n hx hb d_D_reserve_122 rfl (lv_at hl 3 rfl) ?_
              refine lv_iload_n hx hb d_D_reserve_123 rfl (lv_at hl 5 rfl) ?_
              obtain ⟨h9, hm⟩ := gd hm
              refine va_iast hx hb hK hP hD hS 8 0 rfl rfl h9 d_D_reserve_124 (fun H locs hP hD hS => ?_)
              have hP : va_P (dC, dI) classes [(dq, .inr (5, [.int u26, .int d_today, .int d_cut, .int d_aging, .int d_saleFrom, .int d_pieces, .int d_orders, .ref dq8, .ref dq9, .ref dq10, .ref dq11, .ref dq12, .ref dq13, .ref dq14, .ref dq15, .int d_ran, .int d_sum, .ref dq18, .ref dq19, .ref dq20])), (dq8, .inl (cI, 40, .inl d_piece)), (dq9, .inl (cI, 40, .inl d_order)), (dq10, .inl (cI, 10, .inl d_came)), (dq11, .inl (cI, 100, .inl d_worth)), (dq12, .inl (cZ, 10, .inl d_used)), (dq13, .inl (cI, 10, .inl d_usedBy)), (dq14, .inl (cI, 10, .inl (upd d_reservedFor x1.toNatClampNeg x2))), (dq15, .inl (cI, 10, .inl (upd d_reservedTo x1.toNatClampNeg x3))), (dq18, .inl (cI, 10, .inl d_pieceDual)), (dq19, .inl (cI, 10, .inl d_orderDual)), (dq20, .inl (cJ, 11264, .inr (.inl d_table)))] H := hP
              have hD : va_D A [(dq, .inr (5, [.int u26, .int d_today, .int d_cut, .int d_aging, .int d_saleFrom, .int d_pieces, .int d_orders, .ref dq8, .ref dq9, .ref dq10, .ref dq11, .ref dq12, .ref dq13, .ref dq14, .ref dq15, .int d_ran, .int d_sum, .ref dq18, .ref dq19, .ref dq20])), (dq8, .inl (cI, 40, .inl d_piece)), (dq9, .inl (cI, 40, .inl d_order)), (dq10, .inl (cI, 10, .inl d_came)), (dq11, .inl (cI, 100, .inl d_worth)), (dq12, .inl (cZ, 10, .inl d_used)), (dq13, .inl (cI, 10, .inl d_usedBy)), (dq14, .inl (cI, 10, .inl (upd d_reservedFor x1.toNatClampNeg x2))), (dq15, .inl (cI, 10, .inl (upd d_reservedTo x1.toNatClampNeg x3))), (dq18, .inl (cI, 10, .inl d_pieceDual)), (dq19, .inl (cI, 10, .inl d_orderDual)), (dq20, .inl (cJ, 11264, .inr (.inl d_table)))] := hD
              cases hm
              refine W.widen (k := 0) (n := 0) (Nat.le_of_ble_eq_true rfl) (Nat.le_of_ble_eq_true rfl) ?_
              exact W.vret hx hb hr (fun t ht hW => ⟨⟨(), rfl, trivial, by rw [ht]; exact hP, va_K.moved hW.alike hK, hD⟩, hS.F ht⟩) hS.2.2 d_D_reserve_125
            · replace hm := if_t c9 hm
              cases hm
              refine W.widen (k := 0) (n := 0) (Nat.le_of_ble_eq_true rfl) (Nat.le_of_ble_eq_true rfl) ?_
              exact W.vret hx hb hr (fun t ht hW => ⟨⟨(), rfl, trivial, by rw [ht]; exact hP, va_K.moved hW.alike hK, hD⟩, hS.F ht⟩) hS.2.2 d_D_reserve_110
          · replace hm := if_f c9 hm
            refine lv_iconst (v := 1) hx hb d_D_reserve_99 (by decide) ?_
            refine lv_goto (tgt := 104) hx hb d_D_reserve_100 (by decide) ?_
            obtain ⟨⟨r28, u29⟩, hc, hm⟩ := bd hm
            try dsimp only at hm
            have hPc := hP.sub (ws' := [(dq, .inr (5, [.int d_thrown, .int d_today, .int d_cut, .int d_aging, .int d_saleFrom, .int d_pieces, .int d_orders, .ref dq8, .ref dq9, .ref dq10, .ref dq11, .ref dq12, .ref dq13, .ref dq14, .ref dq15, .int d_ran, .int d_sum, .ref dq18, .ref dq19, .ref dq20])), (dq8, .inl (cI, 40, .inl d_piece)), (dq9, .inl (cI, 40, .inl d_order)), (dq10, .inl (cI, 10, .inl d_came)), (dq11, .inl (cI, 100, .inl d_worth)), (dq12, .inl (cZ, 10, .inl d_used)), (dq13, .inl (cI, 10, .inl d_usedBy)), (dq14, .inl (cI, 10, .inl d_reservedFor)), (dq15, .inl (cI, 10, .inl d_reservedTo)), (dq18, .inl (cI, 10, .inl d_pieceDual)), (dq19, .inl (cI, 10, .inl d_orderDual)), (dq20, .inl (cJ, 11264, .inr (.inl d_table)))]) [0, 1, 2, 3, 4, 5, 6, 7, 8, 9, 10, 11] rfl
            have hDc := hD.sub (ws' := [(dq, .inr (5, [.int d_thrown, .int d_today, .int d_cut, .int d_aging, .int d_saleFrom, .int d_pieces, .int d_orders, .ref dq8, .ref dq9, .ref dq10, .ref dq11, .ref dq12, .ref dq13, .ref dq14, .ref dq15, .int d_ran, .int d_sum, .ref dq18, .ref dq19, .ref dq20])), (dq8, .inl (cI, 40, .inl d_piece)), (dq9, .inl (cI, 40, .inl d_order)), (dq10, .inl (cI, 10, .inl d_came)), (dq11, .inl (cI, 100, .inl d_worth)), (dq12, .inl (cZ, 10, .inl d_used)), (dq13, .inl (cI, 10, .inl d_usedBy)), (dq14, .inl (cI, 10, .inl d_reservedFor)), (dq15, .inl (cI, 10, .inl d_reservedTo)), (dq18, .inl (cI, 10, .inl d_pieceDual)), (dq19, .inl (cI, 10, .inl d_orderDual)), (dq20, .inl (cJ, 11264, .inr (.inl d_table)))]) [0, 1, 2, 3, 4, 5, 6, 7, 8, 9, 10, 11] (by decide) rfl
            have hFc := va_free (wc := [(dq, .inr (5, [.int d_thrown, .int d_today, .int d_cut, .int d_aging, .int d_saleFrom, .int d_pieces, .int d_orders, .ref dq8, .ref dq9, .ref dq10, .ref dq11, .ref dq12, .ref dq13, .ref dq14, .ref dq15, .int d_ran, .int d_sum, .ref dq18, .ref dq19, .ref dq20])), (dq8, .inl (cI, 40, .inl d_piece)), (dq9, .inl (cI, 40, .inl d_order)), (dq10, .inl (cI, 10, .inl d_came)), (dq11, .inl (cI, 100, .inl d_worth)), (dq12, .inl (cZ, 10, .inl d_used)), (dq13, .inl (cI, 10, .inl d_usedBy)), (dq14, .inl (cI, 10, .inl d_reservedFor)), (dq15, .inl (cI, 10, .inl d_reservedTo)), (dq18, .inl (cI, 10, .inl d_pieceDual)), (dq19, .inl (cI, 10, .inl d_orderDual)), (dq20, .inl (cJ, 11264, .inr (.inl d_table)))]) hD hS hA [0, 1, 2, 3, 4, 5, 6, 7, 8, 9, 10, 11] rfl
            refine va_calli (va_runV (As := [.int 1, .int 0, .int r23, .int 1]) (rest := []) ⟨hx, hb, hml, hown, hts⟩ (c_D_goes l dC dI cI cZ cJ dq dq8 dq9 dq10 dq11 dq12 dq13 dq14 dq15 dq18 dq19 dq20 s.heap.size d_thrown d_today d_cut d_aging d_saleFrom d_pieces d_orders d_piece d_order d_came d_worth d_used d_usedBy d_reservedFor d_reservedTo d_ran d_sum d_pieceDual d_orderDual d_table 1 0 r23 1 N (r28, u29) hc) (cwV 4 hts (gV (w0 670 rfl) (w0 671 rfl) (w0 18 rfl) (w0 33 rfl) (w0 672 rfl)) rfl rfl rfl q_D_goes ⟨Nat.le_of_ble_eq_true rfl, Nat.le_of_ble_eq_true rfl⟩) (wr_preV hK hPc hDc hN 5 0 (R_D, F_D, 20) rfl rfl) rfl rfl hl.1 rfl (lv_room (Nat.le_of_ble_eq_true rfl)) d_D_reserve_104 ⟨Nat.le_of_ble_eq_true rfl, Nat.le_of_ble_eq_true rfl⟩) hS (fun q _ h => hFc q h) hFc (fun r9 u t H1 locs ht hvm hw hB hz1 hk1 hS => ?_)
            subst hw
            obtain ⟨hP1, hK1, hD1⟩ := hB
            rw [ht] at hP1
            obtain ⟨hP, hD⟩ := va_join (wr := []) (w1 := [(dq, .inr (5, [.int u29, .int d_today, .int d_cut, .int d_aging, .int d_saleFrom, .int d_pieces, .int d_orders, .ref dq8, .ref dq9, .ref dq10, .ref dq11, .ref dq12, .ref dq13, .ref dq14, .ref dq15, .int d_ran, .int d_sum, .ref dq18, .ref dq19, .ref dq20])), (dq8, .inl (cI, 40, .inl d_piece)), (dq9, .inl (cI, 40, .inl d_order)), (dq10, .inl (cI, 10, .inl d_came)), (dq11, .inl (cI, 100, .inl d_worth)), (dq12, .inl (cZ, 10, .inl d_used)), (dq13, .inl (cI, 10, .inl d_usedBy)), (dq14, .inl (cI, 10, .inl d_reservedFor)), (dq15, .inl (cI, 10, .inl d_reservedTo)), (dq18, .inl (cI, 10, .inl d_pieceDual)), (dq19, .inl (cI, 10, .inl d_orderDual)), (dq20, .inl (cJ, 11264, .inr (.inl d_table)))]) hP hD [0, 1, 2, 3, 4, 5, 6, 7, 8, 9, 10, 11] [] rfl rfl (by decide) (by decide) hk1 hFc hP1 hD1
            generalize H1 = H at hP hS ⊢
            have hP : va_P (dC, dI) classes [(dq, .inr (5, [.int u29, .int d_today, .int d_cut, .int d_aging, .int d_saleFrom, .int d_pieces, .int d_orders, .ref dq8, .ref dq9, .ref dq10, .ref dq11, .ref dq12, .ref dq13, .ref dq14, .ref dq15, .int d_ran, .int d_sum, .ref dq18, .ref dq19, .ref dq20])), (dq8, .inl (cI, 40, .inl d_piece)), (dq9, .inl (cI, 40, .inl d_order)), (dq10, .inl (cI, 10, .inl d_came)), (dq11, .inl (cI, 100, .inl d_worth)), (dq12, .inl (cZ, 10, .inl d_used)), (dq13, .inl (cI, 10, .inl d_usedBy)), (dq14, .inl (cI, 10, .inl d_reservedFor)), (dq15, .inl (cI, 10, .inl d_reservedTo)), (dq18, .inl (cI, 10, .inl d_pieceDual)), (dq19, .inl (cI, 10, .inl d_orderDual)), (dq20, .inl (cJ, 11264, .inr (.inl d_table)))] H := hP
            have hD : va_D A [(dq, .inr (5, [.int u29, .int d_today, .int d_cut, .int d_aging, .int d_saleFrom, .int d_pieces, .int d_orders, .ref dq8, .ref dq9, .ref dq10, .ref dq11, .ref dq12, .ref dq13, .ref dq14, .ref dq15, .int d_ran, .int d_sum, .ref dq18, .ref dq19, .ref dq20])), (dq8, .inl (cI, 40, .inl d_piece)), (dq9, .inl (cI, 40, .inl d_order)), (dq10, .inl (cI, 10, .inl d_came)), (dq11, .inl (cI, 100, .inl d_worth)), (dq12, .inl (cZ, 10, .inl d_used)), (dq13, .inl (cI, 10, .inl d_usedBy)), (dq14, .inl (cI, 10, .inl d_reservedFor)), (dq15, .inl (cI, 10, .inl d_reservedTo)), (dq18, .inl (cI, 10, .inl d_pieceDual)), (dq19, .inl (cI, 10, .inl d_orderDual)), (dq20, .inl (cJ, 11264, .inr (.inl d_table)))] := hD
            clear hP1 hD1 hPc hDc hFc hk1 hz1
            refine lv_if_ne (tgt := 111) hx hb d_D_reserve_107 (by decide) (fun c9 => ?_) (fun c9 => ?_)
            · replace hm := if_f c9 hm
              refine lv_aload_n hx hb d_D_reserve_111 rfl (lv_at hl 2 rfl) ?_
              refine va_get (D := (dC, dI)) (ci := 5) (v := .ref dq14) (C := R_D) (T := F_D) (N := 20) hx hb hts hk1 hown hK hP 0 rfl rfl 13 (by decide) hk2 (fun _ h9 => h9) rfl d_D_reserve_112 ?_
              refine lv_iload_n hx hb d_D_reserve_115 rfl (lv_at hl 3 rfl) ?_
              refine lv_iload_n hx hb d_D_reserve_116 rfl (lv_at hl 4 rfl) ?_
              obtain ⟨h9, hm⟩ := gd hm
              refine va_iast hx hb hK hP hD hS 7 0 rfl rfl h9 d_D_reserve_117 (fun H locs hP hD hS => ?_)
              have hP : va_P (dC, dI) classes [(dq, .inr (5, [.int u29, .int d_today, .int d_cut, .int d_aging, .int d_saleFrom, .int d_pieces, .int d_orders, .ref dq8, .ref dq9, .ref dq10, .ref dq11, .ref dq12, .ref dq13, .ref dq14, .ref dq15, .int d_ran, .int d_sum, .ref dq18, .ref dq19, .ref dq20])), (dq8, .inl (cI, 40, .inl d_piece)), (dq9, .inl (cI, 40, .inl d_order)), (dq10, .inl (cI, 10, .inl d_came)), (dq11, .inl (cI, 100, .inl d_worth)), (dq12, .inl (cZ, 10, .inl d_used)), (dq13, .inl (cI, 10, .inl d_usedBy)), (dq14, .inl (cI, 10, .inl (upd d_reservedFor x1.toNatClampNeg x2))), (dq15, .inl (cI, 10, .inl d_reservedTo)), (dq18, .inl (cI, 10, .inl d_pieceDual)), (dq19, .inl (cI, 10, .inl d_orderDual)), (dq20, .inl (cJ, 11264, .inr (.inl d_table)))] H := hP
              have hD : va_D A [(dq, .inr (5, [.int u29, .int d_today, .int d_cut, .int d_aging, .int d_saleFrom, .int d_pieces, .int d_orders, .ref dq8, .ref dq9, .ref dq10, .ref dq11, .ref dq12, .ref dq13, .ref dq14, .ref dq15, .int d_ran, .int d_sum, .ref dq18, .ref dq19, .ref dq20])), (dq8, .inl (cI, 40, .inl d_piece)), (dq9, .inl (cI, 40, .inl d_order)), (dq10, .inl (cI, 10, .inl d_came)), (dq11, .inl (cI, 100, .inl d_worth)), (dq12, .inl (cZ, 10, .inl d_used)), (dq13, .inl (cI, 10, .inl d_usedBy)), (dq14, .inl (cI, 10, .inl (upd d_reservedFor x1.toNatClampNeg x2))), (dq15, .inl (cI, 10, .inl d_reservedTo)), (dq18, .inl (cI, 10, .inl d_pieceDual)), (dq19, .inl (cI, 10, .inl d_orderDual)), (dq20, .inl (cJ, 11264, .inr (.inl d_table)))] := hD
              refine lv_aload_n hx hb d_D_reserve_118 rfl (lv_at hl 2 rfl) ?_
              refine va_get (D := (dC, dI)) (ci := 5) (v := .ref dq15) (C := R_D) (T := F_D) (N := 20) hx hb hts hk1 hown hK hP 0 rfl rfl 14 (by decide) hk3 (fun _ h9 => h9) rfl d_D_reserve_119 ?_
              refine lv_iload_n hx hb d_D_reserve_122 rfl (lv_at hl 3 rfl) ?_
              refine lv_iload_n hx hb d_D_reserve_123 rfl (lv_at hl 5 rfl) ?_
              obtain ⟨h9, hm⟩ := gd hm
              refine va_iast hx hb hK hP hD hS 8 0 rfl rfl h9 d_D_reserve_124 (fun H locs hP hD hS => ?_)
              have hP : va_P (dC, dI) classes [(dq, .inr (5, [.int u29, .int d_today, .int d_cut, .int d_aging, .int d_saleFrom, .int d_pieces, .int d_orders, .ref dq8, .ref dq9, .ref dq10, .ref dq11, .ref dq12, .ref dq13, .ref dq14, .ref dq15, .int d_ran, .int d_sum, .ref dq18, .ref dq19, .ref dq20])), (dq8, .inl (cI, 40, .inl d_piece)), (dq9, .inl (cI, 40, .inl d_order)), (dq10, .inl (cI, 10, .inl d_came)), (dq11, .inl (cI, 100, .inl d_worth)), (dq12, .inl (cZ, 10, .inl d_used)), (dq13, .inl (cI, 10, .inl d_usedBy)), (dq14, .inl (cI, 10, .inl (upd d_reservedFor x1.toNatClampNeg x2))), (dq15, .inl (cI, 10, .inl (upd d_reservedTo x1.toNatClampNeg x3))), (dq18, .inl (cI, 10, .inl d_pieceDual)), (dq19, .inl (cI, 10, .inl d_orderDual)), (dq20, .inl (cJ, 11264, .inr (.inl d_table)))] H := hP
              have hD : va_D A [(dq, .inr (5, [.int u29, .int d_today, .int d_cut, .int d_aging, .int d_saleFrom, .int d_pieces, .int d_orders, .ref dq8, .ref dq9, .ref dq10, .ref dq11, .ref dq12, .ref dq13, .ref dq14, .ref dq15, .int d_ran, .int d_sum, .ref dq18, .ref dq19, .ref dq20])), (dq8, .inl (cI, 40, .inl d_piece)), (dq9, .inl (cI, 40, .inl d_order)), (dq10, .inl (cI, 10, .inl d_came)), (dq11, .inl (cI, 100, .inl d_worth)), (dq12, .inl (cZ, 10, .inl d_used)), (dq13, .inl (cI, 10, .inl d_usedBy)), (dq14, .inl (cI, 10, .inl (upd d_reservedFor x1.toNatClampNeg x2))), (dq15, .inl (cI, 10, .inl (upd d_reservedTo x1.toNatClampNeg x3))), (dq18, .inl (cI, 10, .inl d_pieceDual)), (dq19, .inl (cI, 10, .inl d_orderDual)), (dq20, .inl (cJ, 11264, .inr (.inl d_table)))] := hD
              cases hm
              refine W.widen (k := 0) (n := 0) (Nat.le_of_ble_eq_true rfl) (Nat.le_of_ble_eq_true rfl) ?_
              exact W.vret hx hb hr (fun t ht hW => ⟨⟨(), rfl, trivial, by rw [ht]; exact hP, va_K.moved hW.alike hK, hD⟩, hS.F ht⟩) hS.2.2 d_D_reserve_125
            · replace hm := if_t c9 hm
              cases hm
              refine W.widen (k := 0) (n := 0) (Nat.le_of_ble_eq_true rfl) (Nat.le_of_ble_eq_true rfl) ?_
              exact W.vret hx hb hr (fun t ht hW => ⟨⟨(), rfl, trivial, by rw [ht]; exact hP, va_K.moved hW.alike hK, hD⟩, hS.F ht⟩) hS.2.2 d_D_reserve_110
        · replace hm := if_f c9 hm
          refine lv_aload_n hx hb d_D_reserve_46 rfl (lv_at hl 1 rfl) ?_
          refine lv_iload_n hx hb d_D_reserve_47 rfl (lv_at hl 2 rfl) ?_
          obtain ⟨r33, hc, hm⟩ := bd hm
          try dsimp only at hm
          refine vp_callSi (W.runV (As := [.int x1]) (rest := []) ⟨hx, hb, hml, hown, hts⟩ (c_D_reservation l dC dI cI cZ cJ dq dq8 dq9 dq10 dq11 dq12 dq13 dq14 dq15 dq18 dq19 dq20 d_thrown d_today d_cut d_aging d_saleFrom d_pieces d_orders d_piece d_order d_came d_worth d_used d_usedBy d_reservedFor d_reservedTo d_ran d_sum d_pieceDual d_orderDual d_table x1 N r33 hc) (cwV 1 hts (gV (w0 716 rfl) (w0 717 rfl) (w0 25 rfl) (w0 33 rfl) (w0 718 rfl)) rfl rfl rfl q_D_reservation ⟨Nat.le_of_ble_eq_true rfl, Nat.le_of_ble_eq_true rfl⟩) (ro_preV [0, 1, 2, 3, 4, 5, 6, 7, 8, 9, 10, 11] rfl hK hP hN 5 0 (R_D, F_D, 20) rfl rfl) rfl rfl hl.1 rfl (lv_room (Nat.le_of_ble_eq_true rfl)) d_D_reserve_48 ⟨Nat.le_of_ble_eq_true rfl, Nat.le_of_ble_eq_true rfl⟩) (fun r9 hr9 => ?_)
          subst hr9
          refine lv_if_ge (tgt := 66) hx hb d_D_reserve_51 (by decide) (fun c9 => ?_) (fun c9 => ?_)
          · replace hm := if_t c9 hm
            refine lv_iconst (v := 0) hx hb d_D_reserve_66 (by decide) ?_
            refine lv_istore (lv' := [(5, .int 0), (4, .int 1), (0, .ref dq), (1, .int x1), (2, .int x2), (3, .int x3)]) hx hb d_D_reserve_67 hl (by decide) rfl (fun ls hl => ?_)
            refine lv_aload_n hx hb d_D_reserve_69 rfl (lv_at hl 2 rfl) ?_
            refine lv_iload hx hb d_D_reserve_70 (lv_at hl 1 rfl) ?_
            refine lv_iload hx hb d_D_reserve_72 (lv_at hl 0 rfl) ?_
            refine lv_iload_n hx hb d_D_reserve_74 rfl (lv_at hl 5 rfl) ?_
            refine lv_aload_n hx hb d_D_reserve_75 rfl (lv_at hl 2 rfl) ?_
            refine va_get (D := (dC, dI)) (ci := 5) (v := .int d_today) (C := R_D) (T := F_D) (N := 20) hx hb hts hk1 hown hK hP 0 rfl rfl 1 (by decide) hk0 (fun _ h9 => h9) rfl d_D_reserve_76 ?_
            refine lv_sipush (v := 9999) hx hb d_D_reserve_79 (by decide) ?_
            obtain ⟨r34, hc, hm⟩ := bd hm
            try dsimp only at hm
            refine vp_callSi (W.runS (As := [.int x3, .int d_today, .int 9999]) (rest := [.int 0, .int 1, .ref dq]) ⟨hx, hb, hml, hown, hts⟩ (c_D_in l dC dI cI x3 d_today 9999 N r34 hc) (cwS 3 hts (gS (w0 667 rfl) (w0 668 rfl) (w0 33 rfl) (w0 669 rfl)) rfl rfl rfl q_D_in ⟨Nat.le_of_ble_eq_true rfl, Nat.le_of_ble_eq_true rfl⟩) ro_pre0 rfl rfl hl.1 rfl (lv_room (Nat.le_of_ble_eq_true rfl)) d_D_reserve_82 ⟨Nat.le_of_ble_eq_true rfl, Nat.le_of_ble_eq_true rfl⟩) (fun r9 hr9 => ?_)
            subst hr9
            refine lv_iload hx hb d_D_reserve_85 (lv_at hl 1 rfl) ?_
            refine lv_if_eq (tgt := 103) hx hb d_D_reserve_87 (by decide) (fun c9 => absurd c9 (by decide)) (fun c9 => ?_)
            clear c9
            refine lv_aload_n hx hb d_D_reserve_90 rfl (lv_at hl 2 rfl) ?_
            refine lv_iload_n hx hb d_D_reserve_91 rfl (lv_at hl 3 rfl) ?_
            refine lv_iload_n hx hb d_D_reserve_92 rfl (lv_at hl 4 rfl) ?_
            obtain ⟨r35, hc, hm⟩ := bd hm
            try dsimp only at hm
            refine vp_callSi (W.runV (As := [.int x1, .int x2]) (rest := [.int r34, .int 0, .int 1, .ref dq]) ⟨hx, hb, hml, hown, hts⟩ (c_D_isFit l dC dI cI cZ cJ dq dq8 dq9 dq10 dq11 dq12 dq13 dq14 dq15 dq18 dq19 dq20 d_thrown d_today d_cut d_aging d_saleFrom d_pieces d_orders d_piece d_order d_came d_worth d_used d_usedBy d_reservedFor d_reservedTo d_ran d_sum d_pieceDual d_orderDual d_table x1 x2 N r35 hc) (cwV 2 hts (gV (w0 688 rfl) (w0 689 rfl) (w0 21 rfl) (w0 33 rfl) (w0 690 rfl)) rfl rfl rfl q_D_isFit ⟨Nat.le_of_ble_eq_true rfl, Nat.le_of_ble_eq_true rfl⟩) (ro_preV [0, 1, 2, 3, 4, 5, 6, 7, 8, 9, 10, 11] rfl hK hP hN 5 0 (R_D, F_D, 20) rfl rfl) rfl rfl hl.1 rfl (lv_room (Nat.le_of_ble_eq_true rfl)) d_D_reserve_93 ⟨Nat.le_of_ble_eq_true rfl, Nat.le_of_ble_eq_true rfl⟩) (fun r9 hr9 => ?_)
            subst hr9
            refine lv_if_eq (tgt := 103) hx hb d_D_reserve_96 (by decide) (fun c9 => ?_) (fun c9 => ?_)
            · replace hm := if_t c9 hm
              refine lv_iconst (v := 0) hx hb d_D_reserve_103 (by decide) ?_
              obtain ⟨⟨r36, u37⟩, hc, hm⟩ := bd hm
              try dsimp only at hm
              have hPc := hP.sub (ws' := [(dq, .inr (5, [.int d_thrown, .int d_today, .int d_cut, .int d_aging, .int d_saleFrom, .int d_pieces, .int d_orders, .ref dq8, .ref dq9, .ref dq10, .ref dq11, .ref dq12, .ref dq13, .ref dq14, .ref dq15, .int d_ran, .int d_sum, .ref dq18, .ref dq19, .ref dq20])), (dq8, .inl (cI, 40, .inl d_piece)), (dq9, .inl (cI, 40, .inl d_order)), (dq10, .inl (cI, 10, .inl d_came)), (dq11, .inl (cI, 100, .inl d_worth)), (dq12, .inl (cZ, 10, .inl d_used)), (dq13, .inl (cI, 10, .inl d_usedBy)), (dq14, .inl (cI, 10, .inl d_reservedFor)), (dq15, .inl (cI, 10, .inl d_reservedTo)), (dq18, .inl (cI, 10, .inl d_pieceDual)), (dq19, .inl (cI, 10, .inl d_orderDual)), (dq20, .inl (cJ, 11264, .inr (.inl d_table)))]) [0, 1, 2, 3, 4, 5, 6, 7, 8, 9, 10, 11] rfl
              have hDc := hD.sub (ws' := [(dq, .inr (5, [.int d_thrown, .int d_today, .int d_cut, .int d_aging, .int d_saleFrom, .int d_pieces, .int d_orders, .ref dq8, .ref dq9, .ref dq10, .ref dq11, .ref dq12, .ref dq13, .ref dq14, .ref dq15, .int d_ran, .int d_sum, .ref dq18, .ref dq19, .ref dq20])), (dq8, .inl (cI, 40, .inl d_piece)), (dq9, .inl (cI, 40, .inl d_order)), (dq10, .inl (cI, 10, .inl d_came)), (dq11, .inl (cI, 100, .inl d_worth)), (dq12, .inl (cZ, 10, .inl d_used)), (dq13, .inl (cI, 10, .inl d_usedBy)), (dq14, .inl (cI, 10, .inl d_reservedFor)), (dq15, .inl (cI, 10, .inl d_reservedTo)), (dq18, .inl (cI, 10, .inl d_pieceDual)), (dq19, .inl (cI, 10, .inl d_orderDual)), (dq20, .inl (cJ, 11264, .inr (.inl d_table)))]) [0, 1, 2, 3, 4, 5, 6, 7, 8, 9, 10, 11] (by decide) rfl
              have hFc := va_free (wc := [(dq, .inr (5, [.int d_thrown, .int d_today, .int d_cut, .int d_aging, .int d_saleFrom, .int d_pieces, .int d_orders, .ref dq8, .ref dq9, .ref dq10, .ref dq11, .ref dq12, .ref dq13, .ref dq14, .ref dq15, .int d_ran, .int d_sum, .ref dq18, .ref dq19, .ref dq20])), (dq8, .inl (cI, 40, .inl d_piece)), (dq9, .inl (cI, 40, .inl d_order)), (dq10, .inl (cI, 10, .inl d_came)), (dq11, .inl (cI, 100, .inl d_worth)), (dq12, .inl (cZ, 10, .inl d_used)), (dq13, .inl (cI, 10, .inl d_usedBy)), (dq14, .inl (cI, 10, .inl d_reservedFor)), (dq15, .inl (cI, 10, .inl d_reservedTo)), (dq18, .inl (cI, 10, .inl d_pieceDual)), (dq19, .inl (cI, 10, .inl d_orderDual)), (dq20, .inl (cJ, 11264, .inr (.inl d_table)))]) hD hS hA [0, 1, 2, 3, 4, 5, 6, 7, 8, 9, 10, 11] rfl
              refine va_calli (va_runV (As := [.int 1, .int 0, .int r34, .int 0]) (rest := []) ⟨hx, hb, hml, hown, hts⟩ (c_D_goes l dC dI cI cZ cJ dq dq8 dq9 dq10 dq11 dq12 dq13 dq14 dq15 dq18 dq19 dq20 s.heap.size d_thrown d_today d_cut d_aging d_saleFrom d_pieces d_orders d_piece d_order d_came d_worth d_used d_usedBy d_reservedFor d_reservedTo d_ran d_sum d_pieceDual d_orderDual d_table 1 0 r34 0 N (r36, u37) hc) (cwV 4 hts (gV (w0 670 rfl) (w0 671 rfl) (w0 18 rfl) (w0 33 rfl) (w0 672 rfl)) rfl rfl rfl q_D_goes ⟨Nat.le_of_ble_eq_true rfl, Nat.le_of_ble_eq_true rfl⟩) (wr_preV hK hPc hDc hN 5 0 (R_D, F_D, 20) rfl rfl) rfl rfl hl.1 rfl (lv_room (Nat.le_of_ble_eq_true rfl)) d_D_reserve_104 ⟨Nat.le_of_ble_eq_true rfl, Nat.le_of_ble_eq_true rfl⟩) hS (fun q _ h => hFc q h) hFc (fun r9 u t H1 locs ht hvm hw hB hz1 hk1 hS => ?_)
              subst hw
              obtain ⟨hP1, hK1, hD1⟩ := hB
              rw [ht] at hP1
              obtain ⟨hP, hD⟩ := va_join (wr := []) (w1 := [(dq, .inr (5, [.int u37, .int d_today, .int d_cut, .int d_aging, .int d_saleFrom, .int d_pieces, .int d_orders, .ref dq8, .ref dq9, .ref dq10, .ref dq11, .ref dq12, .ref dq13, .ref dq14, .ref dq15, .int d_ran, .int d_sum, .ref dq18, .ref dq19, .ref dq20])), (dq8, .inl (cI, 40, .inl d_piece)), (dq9, .inl (cI, 40, .inl d_order)), (dq10, .inl (cI, 10, .inl d_came)), (dq11, .inl (cI, 100, .inl d_worth)), (dq12, .inl (cZ, 10, .inl d_used)), (dq13, .inl (cI, 10, .inl d_usedBy)), (dq14, .inl (cI, 10, .inl d_reservedFor)), (dq15, .inl (cI, 10, .inl d_reservedTo)), (dq18, .inl (cI, 10, .inl d_pieceDual)), (dq19, .inl (cI, 10, .inl d_orderDual)), (dq20, .inl (cJ, 11264, .inr (.inl d_table)))]) hP hD [0, 1, 2, 3, 4, 5, 6, 7, 8, 9, 10, 11] [] rfl rfl (by decide) (by decide) hk1 hFc hP1 hD1
              generalize H1 = H at hP hS ⊢
              have hP : va_P (dC, dI) classes [(dq, .inr (5, [.int u37, .int d_today, .int d_cut, .int d_aging, .int d_saleFrom, .int d_pieces, .int d_orders, .ref dq8, .ref dq9, .ref dq10, .ref dq11, .ref dq12, .ref dq13, .ref dq14, .ref dq15, .int d_ran, .int d_sum, .ref dq18, .ref dq19, .ref dq20])), (dq8, .inl (cI, 40, .inl d_piece)), (dq9, .inl (cI, 40, .inl d_order)), (dq10, .inl (cI, 10, .inl d_came)), (dq11, .inl (cI, 100, .inl d_worth)), (dq12, .inl (cZ, 10, .inl d_used)), (dq13, .inl (cI, 10, .inl d_usedBy)), (dq14, .inl (cI, 10, .inl d_reservedFor)), (dq15, .inl (cI, 10, .inl d_reservedTo)), (dq18, .inl (cI, 10, .inl d_pieceDual)), (dq19, .inl (cI, 10, .inl d_orderDual)), (dq20, .inl (cJ, 11264, .inr (.inl d_table)))] H := hP
              have hD : va_D A [(dq, .inr (5, [.int u37, .int d_today, .int d_cut, .int d_aging, .int d_saleFrom, .int d_pieces, .int d_orders, .ref dq8, .ref dq9, .ref dq10, .ref dq11, .ref dq12, .ref dq13, .ref dq14, .ref dq15, .int d_ran, .int d_sum, .ref dq18, .ref dq19, .ref dq20])), (dq8, .inl (cI, 40, .inl d_piece)), (dq9, .inl (cI, 40, .inl d_order)), (dq10, .inl (cI, 10, .inl d_came)), (dq11, .inl (cI, 100, .inl d_worth)), (dq12, .inl (cZ, 10, .inl d_used)), (dq13, .inl (cI, 10, .inl d_usedBy)), (dq14, .inl (cI, 10, .inl d_reservedFor)), (dq15, .inl (cI, 10, .inl d_reservedTo)), (dq18, .inl (cI, 10, .inl d_pieceDual)), (dq19, .inl (cI, 10, .inl d_orderDual)), (dq20, .inl (cJ, 11264, .inr (.inl d_table)))] := hD
              clear hP1 hD1 hPc hDc hFc hk1 hz1
              refine lv_if_ne (tgt := 111) hx hb d_D_reserve_107 (by decide) (fun c9 => ?_) (fun c9 => ?_)
              · replace hm := if_f c9 hm
                refine lv_aload_n hx hb d_D_reserve_111 rfl (lv_at hl 2 rfl) ?_
                refine va_get (D := (dC, dI)) (ci := 5) (v := .ref dq14) (C := R_D) (T := F_D) (N := 20) hx hb hts hk1 hown hK hP 0 rfl rfl 13 (by decide) hk2 (fun _ h9 => h9) rfl d_D_reserve_112 ?_
                refine lv_iload_n hx hb d_D_reserve_115 rfl (lv_at hl 3 rfl) ?_
                refine lv_iload_n hx hb d_D_reserve_116 rfl (lv_at hl 4 rfl) ?_
                obtain ⟨h9, hm⟩ := gd hm
                refine va_iast hx hb hK hP hD hS 7 0 rfl rfl h9 d_D_reserve_117 (fun H locs hP hD hS => ?_)
                have hP : va_P (dC, dI) classes [(dq, .inr (5, [.int u37, .int d_today, .int d_cut, .int d_aging, .int d_saleFrom, .int d_pieces, .int d_orders, .ref dq8, .ref dq9, .ref dq10, .ref dq11, .ref dq12, .ref dq13, .ref dq14, .ref dq15, .int d_ran, .int d_sum, .ref dq18, .ref dq19, .ref dq20])), (dq8, .inl (cI, 40, .inl d_piece)), (dq9, .inl (cI, 40, .inl d_order)), (dq10, .inl (cI, 10, .inl d_came)), (dq11, .inl (cI, 100, .inl d_worth)), (dq12, .inl (cZ, 10, .inl d_used)), (dq13, .inl (cI, 10, .inl d_usedBy)), (dq14, .inl (cI, 10, .inl (upd d_reservedFor x1.toNatClampNeg x2))), (dq15, .inl (cI, 10, .inl d_reservedTo)), (dq18, .inl (cI, 10, .inl d_pieceDual)), (dq19, .inl (cI, 10, .inl d_orderDual)), (dq20, .inl (cJ, 11264, .inr (.inl d_table)))] H := hP
                have hD : va_D A [(dq, .inr (5, [.int u37, .int d_today, .int d_cut, .int d_aging, .int d_saleFrom, .int d_pieces, .int d_orders, .ref dq8, .ref dq9, .ref dq10, .ref dq11, .ref dq12, .ref dq13, .ref dq14, .ref dq15, .int d_ran, .int d_sum, .ref dq18, .ref dq19, .ref dq20])), (dq8, .inl (cI, 40, .inl d_piece)), (dq9, .inl (cI, 40, .inl d_order)), (dq10, .inl (cI, 10, .inl d_came)), (dq11, .inl (cI, 100, .inl d_worth)), (dq12, .inl (cZ, 10, .inl d_used)), (dq13, .inl (cI, 10, .inl d_usedBy)), (dq14, .inl (cI, 10, .inl (upd d_reservedFor x1.toNatClampNeg x2))), (dq15, .inl (cI, 10, .inl d_reservedTo)), (dq18, .inl (cI, 10, .inl d_pieceDual)), (dq19, .inl (cI, 10, .inl d_orderDual)), (dq20, .inl (cJ, 11264, .inr (.inl d_table)))] := hD
                refine lv_aload_n hx hb d_D_reserve_118 rfl (lv_at hl 2 rfl) ?_
                refine va_get (D := (dC, dI)) (ci := 5) (v := .ref dq15) (C := R_D) (T := F_D) (N := 20) hx hb hts hk1 hown hK hP 0 rfl rfl 14 (by decide) hk3 (fun _ h9 => h9) rfl d_D_reserve_119 ?_
                refine lv_iload_n hx hb d_D_reserve_122 rfl (lv_at hl 3 rfl) ?_
                refine lv_iload_n hx hb d_D_reserve_123 rfl (lv_at hl 5 rfl) ?_
                obtain ⟨h9, hm⟩ := gd hm
                refine va_iast hx hb hK hP hD hS 8 0 rfl rfl h9 d_D_reserve_124 (fun H locs hP hD hS => ?_)
                have hP : va_P (dC, dI) classes [(dq, .inr (5, [.int u37, .int d_today, .int d_cut, .int d_aging, .int d_saleFrom, .int d_pieces, .int d_orders, .ref dq8, .ref dq9, .ref dq10, .ref dq11, .ref dq12, .ref dq13, .ref dq14, .ref dq15, .int d_ran, .int d_sum, .ref dq18, .ref dq19, .ref dq20])), (dq8, .inl (cI, 40, .inl d_piece)), (dq9, .inl (cI, 40, .inl d_order)), (dq10, .inl (cI, 10, .inl d_came)), (dq11, .inl (cI, 100, .inl d_worth)), (dq12, .inl (cZ, 10, .inl d_used)), (dq13, .inl (cI, 10, .inl d_usedBy)), (dq14, .inl (cI, 10, .inl (upd d_reservedFor x1.toNatClampNeg x2))), (dq15, .inl (cI, 10, .inl (upd d_reservedTo x1.toNatClampNeg x3))), (dq18, .inl (cI, 10, .inl d_pieceDual)), (dq19, .inl (cI, 10, .inl d_orderDual)), (dq20, .inl (cJ, 11264, .inr (.inl d_table)))] H := hP
                have hD : va_D A [(dq, .inr (5, [.int u37, .int d_today, .int d_cut, .int d_aging, .int d_saleFrom, .int d_pieces, .int d_orders, .ref dq8, .ref dq9, .ref dq10, .ref dq11, .ref dq12, .ref dq13, .ref dq14, .ref dq15, .int d_ran, .int d_sum, .ref dq18, .ref dq19, .ref dq20])), (dq8, .inl (cI, 40, .inl d_piece)), (dq9, .inl (cI, 40, .inl d_order)), (dq10, .inl (cI, 10, .inl d_came)), (dq11, .inl (cI, 100, .inl d_worth)), (dq12, .inl (cZ, 10, .inl d_used)), (dq13, .inl (cI, 10, .inl d_usedBy)), (dq14, .inl (cI, 10, .inl (upd d_reservedFor x1.toNatClampNeg x2))), (dq15, .inl (cI, 10, .inl (upd d_reservedTo x1.toNatClampNeg x3))), (dq18, .inl (cI, 10, .inl d_pieceDual)), (dq19, .inl (cI, 10, .inl d_orderDual)), (dq20, .inl (cJ, 11264, .inr (.inl d_table)))] := hD
                cases hm
                refine W.widen (k := 0) (n := 0) (Nat.le_of_ble_eq_true rfl) (Nat.le_of_ble_eq_true rfl) ?_
                exact W.vret hx hb hr (fun t ht hW => ⟨⟨(), rfl, trivial, by rw [ht]; exact hP, va_K.moved hW.alike hK, hD⟩, hS.F ht⟩) hS.2.2 d_D_reserve_125
              · replace hm := if_t c9 hm
                cases hm
                refine W.widen (k := 0) (n := 0) (Nat.le_of_ble_eq_true rfl) (Nat.le_of_ble_eq_true rfl) ?_
                exact W.vret hx hb hr (fun t ht hW => ⟨⟨(), rfl, trivial, by rw [ht]; exact hP, va_K.moved hW.alike hK, hD⟩, hS.F ht⟩) hS.2.2 d_D_reserve_110
            · replace hm := if_f c9 hm
              refine lv_iconst (v := 1) hx hb d_D_reserve_99 (by decide) ?_
              refine lv_goto (tgt := 104) hx hb d_D_reserve_100 (by decide) ?_
              obtain ⟨⟨r39, u40⟩, hc, hm⟩ := bd hm
              try dsimp only at hm
              have hPc := hP.sub (ws' := [(dq, .inr (5, [.int d_thrown, .int d_today, .int d_cut, .int d_aging, .int d_saleFrom, .int d_pieces, .int d_orders, .ref dq8, .ref dq9, .ref dq10, .ref dq11, .ref dq12, .ref dq13, .ref dq14, .ref dq15, .int d_ran, .int d_sum, .ref dq18, .ref dq19, .ref dq20])), (dq8, .inl (cI, 40, .inl d_piece)), (dq9, .inl (cI, 40, .inl d_order)), (dq10, .inl (cI, 10, .inl d_came)), (dq11, .inl (cI, 100, .inl d_worth)), (dq12, .inl (cZ, 10, .inl d_used)), (dq13, .inl (cI, 10, .inl d_usedBy)), (dq14, .inl (cI, 10, .inl d_reservedFor)), (dq15, .inl (cI, 10, .inl d_reservedTo)), (dq18, .inl (cI, 10, .inl d_pieceDual)), (dq19, .inl (cI, 10, .inl d_orderDual)), (dq20, .inl (cJ, 11264, .inr (.inl d_table)))]) [0, 1, 2, 3, 4, 5, 6, 7, 8, 9, 10, 11] rfl
              have hDc := hD.sub (ws' := [(dq, .inr (5, [.int d_thrown, .int d_today, .int d_cut, .int d_aging, .int d_saleFrom, .int d_pieces, .int d_orders, .ref dq8, .ref dq9, .ref dq10, .ref dq11, .ref dq12, .ref dq13, .ref dq14, .ref dq15, .int d_ran, .int d_sum, .ref dq18, .ref dq19, .ref dq20])), (dq8, .inl (cI, 40, .inl d_piece)), (dq9, .inl (cI, 40, .inl d_order)), (dq10, .inl (cI, 10, .inl d_came)), (dq11, .inl (cI, 100, .inl d_worth)), (dq12, .inl (cZ, 10, .inl d_used)), (dq13, .inl (cI, 10, .inl d_usedBy)), (dq14, .inl (cI, 10, .inl d_reservedFor)), (dq15, .inl (cI, 10, .inl d_reservedTo)), (dq18, .inl (cI, 10, .inl d_pieceDual)), (dq19, .inl (cI, 10, .inl d_orderDual)), (dq20, .inl (cJ, 11264, .inr (.inl d_table)))]) [0, 1, 2, 3, 4, 5, 6, 7, 8, 9, 10, 11] (by decide) rfl
              have hFc := va_free (wc := [(dq, .inr (5, [.int d_thrown, .int d_today, .int d_cut, .int d_aging, .int d_saleFrom, .int d_pieces, .int d_orders, .ref dq8, .ref dq9, .ref dq10, .ref dq11, .ref dq12, .ref dq13, .ref dq14, .ref dq15, .int d_ran, .int d_sum, .ref dq18, .ref dq19, .ref dq20])), (dq8, .inl (cI, 40, .inl d_piece)), (dq9, .inl (cI, 40, .inl d_order)), (dq10, .inl (cI, 10, .inl d_came)), (dq11, .inl (cI, 100, .inl d_worth)), (dq12, .inl (cZ, 10, .inl d_used)), (dq13, .inl (cI, 10, .inl d_usedBy)), (dq14, .inl (cI, 10, .inl d_reservedFor)), (dq15, .inl (cI, 10, .inl d_reservedTo)), (dq18, .inl (cI, 10, .inl d_pieceDual)), (dq19, .inl (cI, 10, .inl d_orderDual)), (dq20, .inl (cJ, 11264, .inr (.inl d_table)))]) hD hS hA [0, 1, 2, 3, 4, 5, 6, 7, 8, 9, 10, 11] rfl
              refine va_calli (va_runV (As := [.int 1, .int 0, .int r34, .int 1]) (rest := []) ⟨hx, hb, hml, hown, hts⟩ (c_D_goes l dC dI cI cZ cJ dq dq8 dq9 dq10 dq11 dq12 dq13 dq14 dq15 dq18 dq19 dq20 s.heap.size d_thrown d_today d_cut d_aging d_saleFrom d_pieces d_orders d_piece d_order d_came d_worth d_used d_usedBy d_reservedFor d_reservedTo d_ran d_sum d_pieceDual d_orderDual d_table 1 0 r34 1 N (r39, u40) hc) (cwV 4 hts (gV (w0 670 rfl) (w0 671 rfl) (w0 18 rfl) (w0 33 rfl) (w0 672 rfl)) rfl rfl rfl q_D_goes ⟨Nat.le_of_ble_eq_true rfl, Nat.le_of_ble_eq_true rfl⟩) (wr_preV hK hPc hDc hN 5 0 (R_D, F_D, 20) rfl rfl) rfl rfl hl.1 rfl (lv_room (Nat.le_of_ble_eq_true rfl)) d_D_reserve_104 ⟨Nat.le_of_ble_eq_true rfl, Nat.le_of_ble_eq_true rfl⟩) hS (fun q _ h => hFc q h) hFc (fun r9 u t H1 locs ht hvm hw hB hz1 hk1 hS => ?_)
              subst hw
              obtain ⟨hP1, hK1, hD1⟩ := hB
              rw [ht] at hP1
              obtain ⟨hP, hD⟩ := va_join (wr := []) (w1 := [(dq, .inr (5, [.int u40, .int d_today, .int d_cut, .int d_aging, .int d_saleFrom, .int d_pieces, .int d_orders, .ref dq8, .ref dq9, .ref dq10, .ref dq11, .ref dq12, .ref dq13, .ref dq14, .ref dq15, .int d_ran, .int d_sum, .ref dq18, .ref dq19, .ref dq20])), (dq8, .inl (cI, 40, .inl d_piece)), (dq9, .inl (cI, 40, .inl d_order)), (dq10, .inl (cI, 10, .inl d_came)), (dq11, .inl (cI, 100, .inl d_worth)), (dq12, .inl (cZ, 10, .inl d_used)), (dq13, .inl (cI, 10, .inl d_usedBy)), (dq14, .inl (cI, 10, .inl d_reservedFor)), (dq15, .inl (cI, 10, .inl d_reservedTo)), (dq18, .inl (cI, 10, .inl d_pieceDual)), (dq19, .inl (cI, 10, .inl d_orderDual)), (dq20, .inl (cJ, 11264, .inr (.inl d_table)))]) hP hD [0, 1, 2, 3, 4, 5, 6, 7, 8, 9, 10, 11] [] rfl rfl (by decide) (by decide) hk1 hFc hP1 hD1
              generalize H1 = H at hP hS ⊢
              have hP : va_P (dC, dI) classes [(dq, .inr (5, [.int u40, .int d_today, .int d_cut, .int d_aging, .int d_saleFrom, .int d_pieces, .int d_orders, .ref dq8, .ref dq9, .ref dq10, .ref dq11, .ref dq12, .ref dq13, .ref dq14, .ref dq15, .int d_ran, .int d_sum, .ref dq18, .ref dq19, .ref dq20])), (dq8, .inl (cI, 40, .inl d_piece)), (dq9, .inl (cI, 40, .inl d_order)), (dq10, .inl (cI, 10, .inl d_came)), (dq11, .inl (cI, 100, .inl d_worth)), (dq12, .inl (cZ, 10, .inl d_used)), (dq13, .inl (cI, 10, .inl d_usedBy)), (dq14, .inl (cI, 10, .inl d_reservedFor)), (dq15, .inl (cI, 10, .inl d_reservedTo)), (dq18, .inl (cI, 10, .inl d_pieceDual)), (dq19, .inl (cI, 10, .inl d_orderDual)), (dq20, .inl (cJ, 11264, .inr (.inl d_table)))] H := hP
              have hD : va_D A [(dq, .inr (5, [.int u40, .int d_today, .int d_cut, .int d_aging, .int d_saleFrom, .int d_pieces, .int d_orders, .ref dq8, .ref dq9, .ref dq10, .ref dq11, .ref dq12, .ref dq13, .ref dq14, .ref dq15, .int d_ran, .int d_sum, .ref dq18, .ref dq19, .ref dq20])), (dq8, .inl (cI, 40, .inl d_piece)), (dq9, .inl (cI, 40, .inl d_order)), (dq10, .inl (cI, 10, .inl d_came)), (dq11, .inl (cI, 100, .inl d_worth)), (dq12, .inl (cZ, 10, .inl d_used)), (dq13, .inl (cI, 10, .inl d_usedBy)), (dq14, .inl (cI, 10, .inl d_reservedFor)), (dq15, .inl (cI, 10, .inl d_reservedTo)), (dq18, .inl (cI, 10, .inl d_pieceDual)), (dq19, .inl (cI, 10, .inl d_orderDual)), (dq20, .inl (cJ, 11264, .inr (.inl d_table)))] := hD
              clear hP1 hD1 hPc hDc hFc hk1 hz1
              refine lv_if_ne (tgt := 111) hx hb d_D_reserve_107 (by decide) (fun c9 => ?_) (fun c9 => ?_)
              · replace hm := if_f c9 hm
                refine lv_aload_n hx hb d_D_reserve_111 rfl (lv_at hl 2 rfl) ?_
                refine va_get (D := (dC, dI)) (ci := 5) (v := .ref dq14) (C := R_D) (T := F_D) (N := 20) hx hb hts hk1 hown hK hP 0 rfl rfl 13 (by decide) hk2 (fun _ h9 => h9) rfl d_D_reserve_112 ?_
                refine lv_iload_n hx hb d_D_reserve_115 rfl (lv_at hl 3 rfl) ?_
                refine lv_iload_n hx hb d_D_reserve_116 rfl (lv_at hl 4 rfl) ?_
                obtain ⟨h9, hm⟩ := gd hm
                refine va_iast hx hb hK hP hD hS 7 0 rfl rfl h9 d_D_reserve_117 (fun H locs hP hD hS => ?_)
                have hP : va_P (dC, dI) classes [(dq, .inr (5, [.int u40, .int d_today, .int d_cut, .int d_aging, .int d_saleFrom, .int d_pieces, .int d_orders, .ref dq8, .ref dq9, .ref dq10, .ref dq11, .ref dq12, .ref dq13, .ref dq14, .ref dq15, .int d_ran, .int d_sum, .ref dq18, .ref dq19, .ref dq20])), (dq8, .inl (cI, 40, .inl d_piece)), (dq9, .inl (cI, 40, .inl d_order)), (dq10, .inl (cI, 10, .inl d_came)), (dq11, .inl (cI, 100, .inl d_worth)), (dq12, .inl (cZ, 10, .inl d_used)), (dq13, .inl (cI, 10, .inl d_usedBy)), (dq14, .inl (cI, 10, .inl (upd d_reservedFor x1.toNatClampNeg x2))), (dq15, .inl (cI, 10, .inl d_reservedTo)), (dq18, .inl (cI, 10, .inl d_pieceDual)), (dq19, .inl (cI, 10, .inl d_orderDual)), (dq20, .inl (cJ, 11264, .inr (.inl d_table)))] H := hP
                have hD : va_D A [(dq, .inr (5, [.int u40, .int d_today, .int d_cut, .int d_aging, .int d_saleFrom, .int d_pieces, .int d_orders, .ref dq8, .ref dq9, .ref dq10, .ref dq11, .ref dq12, .ref dq13, .ref dq14, .ref dq15, .int d_ran, .int d_sum, .ref dq18, .ref dq19, .ref dq20])), (dq8, .inl (cI, 40, .inl d_piece)), (dq9, .inl (cI, 40, .inl d_order)), (dq10, .inl (cI, 10, .inl d_came)), (dq11, .inl (cI, 100, .inl d_worth)), (dq12, .inl (cZ, 10, .inl d_used)), (dq13, .inl (cI, 10, .inl d_usedBy)), (dq14, .inl (cI, 10, .inl (upd d_reservedFor x1.toNatClampNeg x2))), (dq15, .inl (cI, 10, .inl d_reservedTo)), (dq18, .inl (cI, 10, .inl d_pieceDual)), (dq19, .inl (cI, 10, .inl d_orderDual)), (dq20, .inl (cJ, 11264, .inr (.inl d_table)))] := hD
                refine lv_aload_n hx hb d_D_reserve_118 rfl (lv_at hl 2 rfl) ?_
                refine va_get (D := (dC, dI)) (ci := 5) (v := .ref dq15) (C := R_D) (T := F_D) (N := 20) hx hb hts hk1 hown hK hP 0 rfl rfl 14 (by decide) hk3 (fun _ h9 => h9) rfl d_D_reserve_119 ?_
                refine lv_iload_n hx hb d_D_reserve_122 rfl (lv_at hl 3 rfl) ?_
                refine lv_iload_n hx hb d_D_reserve_123 rfl (lv_at hl 5 rfl) ?_
                obtain ⟨h9, hm⟩ := gd hm
                refine va_iast hx hb hK hP hD hS 8 0 rfl rfl h9 d_D_reserve_124 (fun H locs hP hD hS => ?_)
                have hP : va_P (dC, dI) classes [(dq, .inr (5, [.int u40, .int d_today, .int d_cut, .int d_aging, .int d_saleFrom, .int d_pieces, .int d_orders, .ref dq8, .ref dq9, .ref dq10, .ref dq11, .ref dq12, .ref dq13, .ref dq14, .ref dq15, .int d_ran, .int d_sum, .ref dq18, .ref dq19, .ref dq20])), (dq8, .inl (cI, 40, .inl d_piece)), (dq9, .inl (cI, 40, .inl d_order)), (dq10, .inl (cI, 10, .inl d_came)), (dq11, .inl (cI, 100, .inl d_worth)), (dq12, .inl (cZ, 10, .inl d_used)), (dq13, .inl (cI, 10, .inl d_usedBy)), (dq14, .inl (cI, 10, .inl (upd d_reservedFor x1.toNatClampNeg x2))), (dq15, .inl (cI, 10, .inl (upd d_reservedTo x1.toNatClampNeg x3))), (dq18, .inl (cI, 10, .inl d_pieceDual)), (dq19, .inl (cI, 10, .inl d_orderDual)), (dq20, .inl (cJ, 11264, .inr (.inl d_table)))] H := hP
                have hD : va_D A [(dq, .inr (5, [.int u40, .int d_today, .int d_cut, .int d_aging, .int d_saleFrom, .int d_pieces, .int d_orders, .ref dq8, .ref dq9, .ref dq10, .ref dq11, .ref dq12, .ref dq13, .ref dq14, .ref dq15, .int d_ran, .int d_sum, .ref dq18, .ref dq19, .ref dq20])), (dq8, .inl (cI, 40, .inl d_piece)), (dq9, .inl (cI, 40, .inl d_order)), (dq10, .inl (cI, 10, .inl d_came)), (dq11, .inl (cI, 100, .inl d_worth)), (dq12, .inl (cZ, 10, .inl d_used)), (dq13, .inl (cI, 10, .inl d_usedBy)), (dq14, .inl (cI, 10, .inl (upd d_reservedFor x1.toNatClampNeg x2))), (dq15, .inl (cI, 10, .inl (upd d_reservedTo x1.toNatClampNeg x3))), (dq18, .inl (cI, 10, .inl d_pieceDual)), (dq19, .inl (cI, 10, .inl d_orderDual)), (dq20, .inl (cJ, 11264, .inr (.inl d_table)))] := hD
                cases hm
                refine W.widen (k := 0) (n := 0) (Nat.le_of_ble_eq_true rfl) (Nat.le_of_ble_eq_true rfl) ?_
                exact W.vret hx hb hr (fun t ht hW => ⟨⟨(), rfl, trivial, by rw [ht]; exact hP, va_K.moved hW.alike hK, hD⟩, hS.F ht⟩) hS.2.2 d_D_reserve_125
              · replace hm := if_t c9 hm
                cases hm
                refine W.widen (k := 0) (n := 0) (Nat.le_of_ble_eq_true rfl) (Nat.le_of_ble_eq_true rfl) ?_
                exact W.vret hx hb hr (fun t ht hW => ⟨⟨(), rfl, trivial, by rw [ht]; exact hP, va_K.moved hW.alike hK, hD⟩, hS.F ht⟩) hS.2.2 d_D_reserve_110
          · replace hm := if_f c9 hm
            refine lv_aload_n hx hb d_D_reserve_54 rfl (lv_at hl 1 rfl) ?_
            refine lv_iload_n hx hb d_D_reserve_55 rfl (lv_at hl 3 rfl) ?_
            obtain ⟨r44, hc, hm⟩ := bd hm
            try dsimp only at hm
            refine vp_callSi (W.runV (As := [.int x2]) (rest := []) ⟨hx, hb, hml, hown, hts⟩ (c_D_holder l dC dI cI cZ cJ dq dq8 dq9 dq10 dq11 dq12 dq13 dq14 dq15 dq18 dq19 dq20 d_thrown d_today d_cut d_aging d_saleFrom d_pieces d_orders d_piece d_order d_came d_worth d_used d_usedBy d_reservedFor d_reservedTo d_ran d_sum d_pieceDual d_orderDual d_table x2 N r44 hc) (cwV 1 hts (gV (w0 719 rfl) (w0 720 rfl) (w0 26 rfl) (w0 33 rfl) (w0 721 rfl)) rfl rfl rfl q_D_holder ⟨Nat.le_of_ble_eq_true rfl, Nat.le_of_ble_eq_true rfl⟩) (ro_preV [0, 1, 2, 3, 4, 5, 6, 7, 8, 9, 10, 11] rfl hK hP hN 5 0 (R_D, F_D, 20) rfl rfl) rfl rfl hl.1 rfl (lv_room (Nat.le_of_ble_eq_true rfl)) d_D_reserve_56 ⟨Nat.le_of_ble_eq_true rfl, Nat.le_of_ble_eq_true rfl⟩) (fun r9 hr9 => ?_)
            subst hr9
            refine lv_if_ge (tgt := 66) hx hb d_D_reserve_59 (by decide) (fun c9 => ?_) (fun c9 => ?_)
            · replace hm := if_t c9 hm
              refine lv_iconst (v := 0) hx hb d_D_reserve_66 (by decide) ?_
              refine lv_istore (lv' := [(5, .int 0), (4, .int 1), (0, .ref dq), (1, .int x1), (2, .int x2), (3, .int x3)]) hx hb d_D_reserve_67 hl (by decide) rfl (fun ls hl => ?_)
              refine lv_aload_n hx hb d_D_reserve_69 rfl (lv_at hl 2 rfl) ?_
              refine lv_iload hx hb d_D_reserve_70 (lv_at hl 1 rfl) ?_
              refine lv_iload hx hb d_D_reserve_72 (lv_at hl 0 rfl) ?_
              refine lv_iload_n hx hb d_D_reserve_74 rfl (lv_at hl 5 rfl) ?_
              refine lv_aload_n hx hb d_D_reserve_75 rfl (lv_at hl 2 rfl) ?_
              refine va_get (D := (dC, dI)) (ci := 5) (v := .int d_today) (C := R_D) (T := F_D) (N := 20) hx hb hts hk1 hown hK hP 0 rfl rfl 1 (by decide) hk0 (fun _ h9 => h9) rfl d_D_reserve_76 ?_
              refine lv_sipush (v := 9999) hx hb d_D_reserve_79 (by decide) ?_
              obtain ⟨r45, hc, hm⟩ := bd hm
              try dsimp only at hm
              refine vp_callSi (W.runS (As := [.int x3, .int d_today, .int 9999]) (rest := [.int 0, .int 1, .ref dq]) ⟨hx, hb, hml, hown, hts⟩ (c_D_in l dC dI cI x3 d_today 9999 N r45 hc) (cwS 3 hts (gS (w0 667 rfl) (w0 668 rfl) (w0 33 rfl) (w0 669 rfl)) rfl rfl rfl q_D_in ⟨Nat.le_of_ble_eq_true rfl, Nat.le_of_ble_eq_true rfl⟩) ro_pre0 rfl rfl hl.1 rfl (lv_room (Nat.le_of_ble_eq_true rfl)) d_D_reserve_82 ⟨Nat.le_of_ble_eq_true rfl, Nat.le_of_ble_eq_true rfl⟩) (fun r9 hr9 => ?_)
              subst hr9
              refine lv_iload hx hb d_D_reserve_85 (lv_at hl 1 rfl) ?_
              refine lv_if_eq (tgt := 103) hx hb d_D_reserve_87 (by decide) (fun c9 => absurd c9 (by decide)) (fun c9 => ?_)
              clear c9
              refine lv_aload_n hx hb d_D_reserve_90 rfl (lv_at hl 2 rfl) ?_
              refine lv_iload_n hx hb d_D_reserve_91 rfl (lv_at hl 3 rfl) ?_
              refine lv_iload_n hx hb d_D_reserve_92 rfl (lv_at hl 4 rfl) ?_
              obtain ⟨r46, hc, hm⟩ := bd hm
              try dsimp only at hm
              refine vp_callSi (W.runV (As := [.int x1, .int x2]) (rest := [.int r45, .int 0, .int 1, .ref dq]) ⟨hx, hb, hml, hown, hts⟩ (c_D_isFit l dC dI cI cZ cJ dq dq8 dq9 dq10 dq11 dq12 dq13 dq14 dq15 dq18 dq19 dq20 d_thrown d_today d_cut d_aging d_saleFrom d_pieces d_orders d_piece d_order d_came d_worth d_used d_usedBy d_reservedFor d_reservedTo d_ran d_sum d_pieceDual d_orderDual d_table x1 x2 N r46 hc) (cwV 2 hts (gV (w0 688 rfl) (w0 689 rfl) (w0 21 rfl) (w0 33 rfl) (w0 690 rfl)) rfl rfl rfl q_D_isFit ⟨Nat.le_of_ble_eq_true rfl, Nat.le_of_ble_eq_true rfl⟩) (ro_preV [0, 1, 2, 3, 4, 5, 6, 7, 8, 9, 10, 11] rfl hK hP hN 5 0 (R_D, F_D, 20) rfl rfl) rfl rfl hl.1 rfl (lv_room (Nat.le_of_ble_eq_true rfl)) d_D_reserve_93 ⟨Nat.le_of_ble_eq_true rfl, Nat.le_of_ble_eq_true rfl⟩) (fun r9 hr9 => ?_)
              subst hr9
              refine lv_if_eq (tgt := 103) hx hb d_D_reserve_96 (by decide) (fun c9 => ?_) (fun c9 => ?_)
              · replace hm := if_t c9 hm
                refine lv_iconst (v := 0) hx hb d_D_reserve_103 (by decide) ?_
                obtain ⟨⟨r47, u48⟩, hc, hm⟩ := bd hm
                try dsimp only at hm
                have hPc := hP.sub (ws' := [(dq, .inr (5, [.int d_thrown, .int d_today, .int d_cut, .int d_aging, .int d_saleFrom, .int d_pieces, .int d_orders, .ref dq8, .ref dq9, .ref dq10, .ref dq11, .ref dq12, .ref dq13, .ref dq14, .ref dq15, .int d_ran, .int d_sum, .ref dq18, .ref dq19, .ref dq20])), (dq8, .inl (cI, 40, .inl d_piece)), (dq9, .inl (cI, 40, .inl d_order)), (dq10, .inl (cI, 10, .inl d_came)), (dq11, .inl (cI, 100, .inl d_worth)), (dq12, .inl (cZ, 10, .inl d_used)), (dq13, .inl (cI, 10, .inl d_usedBy)), (dq14, .inl (cI, 10, .inl d_reservedFor)), (dq15, .inl (cI, 10, .inl d_reservedTo)), (dq18, .inl (cI, 10, .inl d_pieceDual)), (dq19, .inl (cI, 10, .inl d_orderDual)), (dq20, .inl (cJ, 11264, .inr (.inl d_table)))]) [0, 1, 2, 3, 4, 5, 6, 7, 8, 9, 10, 11] rfl
                have hDc := hD.sub (ws' := [(dq, .inr (5, [.int d_thrown, .int d_today, .int d_cut, .int d_aging, .int d_saleFrom, .int d_pieces, .int d_orders, .ref dq8, .ref dq9, .ref dq10, .ref dq11, .ref dq12, .ref dq13, .ref dq14, .ref dq15, .int d_ran, .int d_sum, .ref dq18, .ref dq19, .ref dq20])), (dq8, .inl (cI, 40, .inl d_piece)), (dq9, .inl (cI, 40, .inl d_order)), (dq10, .inl (cI, 10, .inl d_came)), (dq11, .inl (cI, 100, .inl d_worth)), (dq12, .inl (cZ, 10, .inl d_used)), (dq13, .inl (cI, 10, .inl d_usedBy)), (dq14, .inl (cI, 10, .inl d_reservedFor)), (dq15, .inl (cI, 10, .inl d_reservedTo)), (dq18, .inl (cI, 10, .inl d_pieceDual)), (dq19, .inl (cI, 10, .inl d_orderDual)), (dq20, .inl (cJ, 11264, .inr (.inl d_table)))]) [0, 1, 2, 3, 4, 5, 6, 7, 8, 9, 10, 11] (by decide) rfl
                have hFc := va_free (wc := [(dq, .inr (5, [.int d_thrown, .int d_today, .int d_cut, .int d_aging, .int d_saleFrom, .int d_pieces, .int d_orders, .ref dq8, .ref dq9, .ref dq10, .ref dq11, .ref dq12, .ref dq13, .ref dq14, .ref dq15, .int d_ran, .int d_sum, .ref dq18, .ref dq19, .ref dq20])), (dq8, .inl (cI, 40, .inl d_piece)), (dq9, .inl (cI, 40, .inl d_order)), (dq10, .inl (cI, 10, .inl d_came)), (dq11, .inl (cI, 100, .inl d_worth)), (dq12, .inl (cZ, 10, .inl d_used)), (dq13, .inl (cI, 10, .inl d_usedBy)), (dq14, .inl (cI, 10, .inl d_reservedFor)), (dq15, .inl (cI, 10, .inl d_reservedTo)), (dq18, .inl (cI, 10, .inl d_pieceDual)), (dq19, .inl (cI, 10, .inl d_orderDual)), (dq20, .inl (cJ, 11264, .inr (.inl d_table)))]) hD hS hA [0, 1, 2, 3, 4, 5, 6, 7, 8, 9, 10, 11] rfl
                refine va_calli (va_runV (As := [.int 1, .int 0, .int r45, .int 0]) (rest := []) ⟨hx, hb, hml, hown, hts⟩ (c_D_goes l dC dI cI cZ cJ dq dq8 dq9 dq10 dq11 dq12 dq13 dq14 dq15 dq18 dq19 dq20 s.heap.size d_thrown d_today d_cut d_aging d_saleFrom d_pieces d_orders d_piece d_order d_came d_worth d_used d_usedBy d_reservedFor d_reservedTo d_ran d_sum d_pieceDual d_orderDual d_table 1 0 r45 0 N (r47, u48) hc) (cwV 4 hts (gV (w0 670 rfl) (w0 671 rfl) (w0 18 rfl) (w0 33 rfl) (w0 672 rfl)) rfl rfl rfl q_D_goes ⟨Nat.le_of_ble_eq_true rfl, Nat.le_of_ble_eq_true rfl⟩) (wr_preV hK hPc hDc hN 5 0 (R_D, F_D, 20) rfl rfl) rfl rfl hl.1 rfl (lv_room (Nat.le_of_ble_eq_true rfl)) d_D_reserve_104 ⟨Nat.le_of_ble_eq_true rfl, Nat.le_of_ble_eq_true rfl⟩) hS (fun q _ h => hFc q h) hFc (fun r9 u t H1 locs ht hvm hw hB hz1 hk1 hS => ?_)
                subst hw
                obtain ⟨hP1, hK1, hD1⟩ := hB
                rw [ht] at hP1
                obtain ⟨hP, hD⟩ := va_join (wr := []) (w1 := [(dq, .inr (5, [.int u48, .int d_today, .int d_cut, .int d_aging, .int d_saleFrom, .int d_pieces, .int d_orders, .ref dq8, .ref dq9, .ref dq10, .ref dq11, .ref dq12, .ref dq13, .ref dq14, .ref dq15, .int d_ran, .int d_sum, .ref dq18, .ref dq19, .ref dq20])), (dq8, .inl (cI, 40, .inl d_piece)), (dq9, .inl (cI, 40, .inl d_order)), (dq10, .inl (cI, 10, .inl d_came)), (dq11, .inl (cI, 100, .inl d_worth)), (dq12, .inl (cZ, 10, .inl d_used)), (dq13, .inl (cI, 10, .inl d_usedBy)), (dq14, .inl (cI, 10, .inl d_reservedFor)), (dq15, .inl (cI, 10, .inl d_reservedTo)), (dq18, .inl (cI, 10, .inl d_pieceDual)), (dq19, .inl (cI, 10, .inl d_orderDual)), (dq20, .inl (cJ, 11264, .inr (.inl d_table)))]) hP hD [0, 1, 2, 3, 4, 5, 6, 7, 8, 9, 10, 11] [] rfl rfl (by decide) (by decide) hk1 hFc hP1 hD1
                generalize H1 = H at hP hS ⊢
                have hP : va_P (dC, dI) classes [(dq, .inr (5, [.int u48, .int d_today, .int d_cut, .int d_aging, .int d_saleFrom, .int d_pieces, .int d_orders, .ref dq8, .ref dq9, .ref dq10, .ref dq11, .ref dq12, .ref dq13, .ref dq14, .ref dq15, .int d_ran, .int d_sum, .ref dq18, .ref dq19, .ref dq20])), (dq8, .inl (cI, 40, .inl d_piece)), (dq9, .inl (cI, 40, .inl d_order)), (dq10, .inl (cI, 10, .inl d_came)), (dq11, .inl (cI, 100, .inl d_worth)), (dq12, .inl (cZ, 10, .inl d_used)), (dq13, .inl (cI, 10, .inl d_usedBy)), (dq14, .inl (cI, 10, .inl d_reservedFor)), (dq15, .inl (cI, 10, .inl d_reservedTo)), (dq18, .inl (cI, 10, .inl d_pieceDual)), (dq19, .inl (cI, 10, .inl d_orderDual)), (dq20, .inl (cJ, 11264, .inr (.inl d_table)))] H := hP
                have hD : va_D A [(dq, .inr (5, [.int u48, .int d_today, .int d_cut, .int d_aging, .int d_saleFrom, .int d_pieces, .int d_orders, .ref dq8, .ref dq9, .ref dq10, .ref dq11, .ref dq12, .ref dq13, .ref dq14, .ref dq15, .int d_ran, .int d_sum, .ref dq18, .ref dq19, .ref dq20])), (dq8, .inl (cI, 40, .inl d_piece)), (dq9, .inl (cI, 40, .inl d_order)), (dq10, .inl (cI, 10, .inl d_came)), (dq11, .inl (cI, 100, .inl d_worth)), (dq12, .inl (cZ, 10, .inl d_used)), (dq13, .inl (cI, 10, .inl d_usedBy)), (dq14, .inl (cI, 10, .inl d_reservedFor)), (dq15, .inl (cI, 10, .inl d_reservedTo)), (dq18, .inl (cI, 10, .inl d_pieceDual)), (dq19, .inl (cI, 10, .inl d_orderDual)), (dq20, .inl (cJ, 11264, .inr (.inl d_table)))] := hD
                clear hP1 hD1 hPc hDc hFc hk1 hz1
                refine lv_if_ne (tgt := 111) hx hb d_D_reserve_107 (by decide) (fun c9 => ?_) (fun c9 => ?_)
                · replace hm := if_f c9 hm
                  refine lv_aload_n hx hb d_D_reserve_111 rfl (lv_at hl 2 rfl) ?_
                  refine va_get (D := (dC, dI)) (ci := 5) (v := .ref dq14) (C := R_D) (T := F_D) (N := 20) hx hb hts hk1 hown hK hP 0 rfl rfl 13 (by decide) hk2 (fun _ h9 => h9) rfl d_D_reserve_112 ?_
                  refine lv_iload_n hx hb d_D_reserve_115 rfl (lv_at hl 3 rfl) ?_
                  refine lv_iload_n hx hb d_D_reserve_116 rfl (lv_at hl 4 rfl) ?_
                  obtain ⟨h9, hm⟩ := gd hm
                  refine va_iast hx hb hK hP hD hS 7 0 rfl rfl h9 d_D_reserve_117 (fun H locs hP hD hS => ?_)
                  have hP : va_P (dC, dI) classes [(dq, .inr (5, [.int u48, .int d_today, .int d_cut, .int d_aging, .int d_saleFrom, .int d_pieces, .int d_orders, .ref dq8, .ref dq9, .ref dq10, .ref dq11, .ref dq12, .ref dq13, .ref dq14, .ref dq15, .int d_ran, .int d_sum, .ref dq18, .ref dq19, .ref dq20])), (dq8, .inl (cI, 40, .inl d_piece)), (dq9, .inl (cI, 40, .inl d_order)), (dq10, .inl (cI, 10, .inl d_came)), (dq11, .inl (cI, 100, .inl d_worth)), (dq12, .inl (cZ, 10, .inl d_used)), (dq13, .inl (cI, 10, .inl d_usedBy)), (dq14, .inl (cI, 10, .inl (upd d_reservedFor x1.toNatClampNeg x2))), (dq15, .inl (cI, 10, .inl d_reservedTo)), (dq18, .inl (cI, 10, .inl d_pieceDual)), (dq19, .inl (cI, 10, .inl d_orderDual)), (dq20, .inl (cJ, 11264, .inr (.inl d_table)))] H := hP
                  have hD : va_D A [(dq, .inr (5, [.int u48, .int d_today, .int d_cut, .int d_aging, .int d_saleFrom, .int d_pieces, .int d_orders, .ref dq8, .ref dq9, .ref dq10, .ref dq11, .ref dq12, .ref dq13, .ref dq14, .ref dq15, .int d_ran, .int d_sum, .ref dq18, .ref dq19, .ref dq20])), (dq8, .inl (cI, 40, .inl d_piece)), (dq9, .inl (cI, 40, .inl d_order)), (dq10, .inl (cI, 10, .inl d_came)), (dq11, .inl (cI, 100, .inl d_worth)), (dq12, .inl (cZ, 10, .inl d_used)), (dq13, .inl (cI, 10, .inl d_usedBy)), (dq14, .inl (cI, 10, .inl (upd d_reservedFor x1.toNatClampNeg x2))), (dq15, .inl (cI, 10, .inl d_reservedTo)), (dq18, .inl (cI, 10, .inl d_pieceDual)), (dq19, .inl (cI, 10, .inl d_orderDual)), (dq20, .inl (cJ, 11264, .inr (.inl d_table)))] := hD
                  refine lv_aload_n hx hb d_D_reserve_118 rfl (lv_at hl 2 rfl) ?_
                  refine va_get (D := (dC, dI)) (ci := 5) (v := .ref dq15) (C := R_D) (T := F_D) (N := 20) hx hb hts hk1 hown hK hP 0 rfl rfl 14 (by decide) hk3 (fun _ h9 => h9) rfl d_D_reserve_119 ?_
                  refine lv_iload_n hx hb d_D_reserve_122 rfl (lv_at hl 3 rfl) ?_
                  refine lv_iload_n hx hb d_D_reserve_123 rfl (lv_at hl 5 rfl) ?_
                  obtain ⟨h9, hm⟩ := gd hm
                  refine va_iast hx hb hK hP hD hS 8 0 rfl rfl h9 d_D_reserve_124 (fun H locs hP hD hS => ?_)
                  have hP : va_P (dC, dI) classes [(dq, .inr (5, [.int u48, .int d_today, .int d_cut, .int d_aging, .int d_saleFrom, .int d_pieces, .int d_orders, .ref dq8, .ref dq9, .ref dq10, .ref dq11, .ref dq12, .ref dq13, .ref dq14, .ref dq15, .int d_ran, .int d_sum, .ref dq18, .ref dq19, .ref dq20])), (dq8, .inl (cI, 40, .inl d_piece)), (dq9, .inl (cI, 40, .inl d_order)), (dq10, .inl (cI, 10, .inl d_came)), (dq11, .inl (cI, 100, .inl d_worth)), (dq12, .inl (cZ, 10, .inl d_used)), (dq13, .inl (cI, 10, .inl d_usedBy)), (dq14, .inl (cI, 10, .inl (upd d_reservedFor x1.toNatClampNeg x2))), (dq15, .inl (cI, 10, .inl (upd d_reservedTo x1.toNatClampNeg x3))), (dq18, .inl (cI, 10, .inl d_pieceDual)), (dq19, .inl (cI, 10, .inl d_orderDual)), (dq20, .inl (cJ, 11264, .inr (.inl d_table)))] H := hP
                  have hD : va_D A [(dq, .inr (5, [.int u48, .int d_today, .int d_cut, .int d_aging, .int d_saleFrom, .int d_pieces, .int d_orders, .ref dq8, .ref dq9, .ref dq10, .ref dq11, .ref dq12, .ref dq13, .ref dq14, .ref dq15, .int d_ran, .int d_sum, .ref dq18, .ref dq19, .ref dq20])), (dq8, .inl (cI, 40, .inl d_piece)), (dq9, .inl (cI, 40, .inl d_order)), (dq10, .inl (cI, 10, .inl d_came)), (dq11, .inl (cI, 100, .inl d_worth)), (dq12, .inl (cZ, 10, .inl d_used)), (dq13, .inl (cI, 10, .inl d_usedBy)), (dq14, .inl (cI, 10, .inl (upd d_reservedFor x1.toNatClampNeg x2))), (dq15, .inl (cI, 10, .inl (upd d_reservedTo x1.toNatClampNeg x3))), (dq18, .inl (cI, 10, .inl d_pieceDual)), (dq19, .inl (cI, 10, .inl d_orderDual)), (dq20, .inl (cJ, 11264, .inr (.inl d_table)))] := hD
                  cases hm
                  refine W.widen (k := 0) (n := 0) (Nat.le_of_ble_eq_true rfl) (Nat.le_of_ble_eq_true rfl) ?_
                  exact W.vret hx hb hr (fun t ht hW => ⟨⟨(), rfl, trivial, by rw [ht]; exact hP, va_K.moved hW.alike hK, hD⟩, hS.F ht⟩) hS.2.2 d_D_reserve_125
                · replace hm := if_t c9 hm
                  cases hm
                  refine W.widen (k := 0) (n := 0) (Nat.le_of_ble_eq_true rfl) (Nat.le_of_ble_eq_true rfl) ?_
                  exact W.vret hx hb hr (fun t ht hW => ⟨⟨(), rfl, trivial, by rw [ht]; exact hP, va_K.moved hW.alike hK, hD⟩, hS.F ht⟩) hS.2.2 d_D_reserve_110
              · replace hm := if_f c9 hm
                refine lv_iconst (v := 1) hx hb d_D_reserve_99 (by decide) ?_
                refine lv_goto (tgt := 104) hx hb d_D_reserve_100 (by decide) ?_
                obtain ⟨⟨r50, u51⟩, hc, hm⟩ := bd hm
                try dsimp only at hm
                have hPc := hP.sub (ws' := [(dq, .inr (5, [.int d_thrown, .int d_today, .int d_cut, .int d_aging, .int d_saleFrom, .int d_pieces, .int d_orders, .ref dq8, .ref dq9, .ref dq10, .ref dq11, .ref dq12, .ref dq13, .ref dq14, .ref dq15, .int d_ran, .int d_sum, .ref dq18, .ref dq19, .ref dq20])), (dq8, .inl (cI, 40, .inl d_piece)), (dq9, .inl (cI, 40, .inl d_order)), (dq10, .inl (cI, 10, .inl d_came)), (dq11, .inl (cI, 100, .inl d_worth)), (dq12, .inl (cZ, 10, .inl d_used)), (dq13, .inl (cI, 10, .inl d_usedBy)), (dq14, .inl (cI, 10, .inl d_reservedFor)), (dq15, .inl (cI, 10, .inl d_reservedTo)), (dq18, .inl (cI, 10, .inl d_pieceDual)), (dq19, .inl (cI, 10, .inl d_orderDual)), (dq20, .inl (cJ, 11264, .inr (.inl d_table)))]) [0, 1, 2, 3, 4, 5, 6, 7, 8, 9, 10, 11] rfl
                have hDc := hD.sub (ws' := [(dq, .inr (5, [.int d_thrown, .int d_today, .int d_cut, .int d_aging, .int d_saleFrom, .int d_pieces, .int d_orders, .ref dq8, .ref dq9, .ref dq10, .ref dq11, .ref dq12, .ref dq13, .ref dq14, .ref dq15, .int d_ran, .int d_sum, .ref dq18, .ref dq19, .ref dq20])), (dq8, .inl (cI, 40, .inl d_piece)), (dq9, .inl (cI, 40, .inl d_order)), (dq10, .inl (cI, 10, .inl d_came)), (dq11, .inl (cI, 100, .inl d_worth)), (dq12, .inl (cZ, 10, .inl d_used)), (dq13, .inl (cI, 10, .inl d_usedBy)), (dq14, .inl (cI, 10, .inl d_reservedFor)), (dq15, .inl (cI, 10, .inl d_reservedTo)), (dq18, .inl (cI, 10, .inl d_pieceDual)), (dq19, .inl (cI, 10, .inl d_orderDual)), (dq20, .inl (cJ, 11264, .inr (.inl d_table)))]) [0, 1, 2, 3, 4, 5, 6, 7, 8, 9, 10, 11] (by decide) rfl
                have hFc := va_free (wc := [(dq, .inr (5, [.int d_thrown, .int d_today, .int d_cut, .int d_aging, .int d_saleFrom, .int d_pieces, .int d_orders, .ref dq8, .ref dq9, .ref dq10, .ref dq11, .ref dq12, .ref dq13, .ref dq14, .ref dq15, .int d_ran, .int d_sum, .ref dq18, .ref dq19, .ref dq20])), (dq8, .inl (cI, 40, .inl d_piece)), (dq9, .inl (cI, 40, .inl d_order)), (dq10, .inl (cI, 10, .inl d_came)), (dq11, .inl (cI, 100, .inl d_worth)), (dq12, .inl (cZ, 10, .inl d_used)), (dq13, .inl (cI, 10, .inl d_usedBy)), (dq14, .inl (cI, 10, .inl d_reservedFor)), (dq15, .inl (cI, 10, .inl d_reservedTo)), (dq18, .inl (cI, 10, .inl d_pieceDual)), (dq19, .inl (cI, 10, .inl d_orderDual)), (dq20, .inl (cJ, 11264, .inr (.inl d_table)))]) hD hS hA [0, 1, 2, 3, 4, 5, 6, 7, 8, 9, 10, 11] rfl
                refine va_calli (va_runV (As := [.int 1, .int 0, .int r45, .int 1]) (rest := []) ⟨hx, hb, hml, hown, hts⟩ (c_D_goes l dC dI cI cZ cJ dq dq8 dq9 dq10 dq11 dq12 dq13 dq14 dq15 dq18 dq19 dq20 s.heap.size d_thrown d_today d_cut d_aging d_saleFrom d_pieces d_orders d_piece d_order d_came d_worth d_used d_usedBy d_reservedFor d_reservedTo d_ran d_sum d_pieceDual d_orderDual d_table 1 0 r45 1 N (r50, u51) hc) (cwV 4 hts (gV (w0 670 rfl) (w0 671 rfl) (w0 18 rfl) (w0 33 rfl) (w0 672 rfl)) rfl rfl rfl q_D_goes ⟨Nat.le_of_ble_eq_true rfl, Nat.le_of_ble_eq_true rfl⟩) (wr_preV hK hPc hDc hN 5 0 (R_D, F_D, 20) rfl rfl) rfl rfl hl.1 rfl (lv_room (Nat.le_of_ble_eq_true rfl)) d_D_reserve_104 ⟨Nat.le_of_ble_eq_true rfl, Nat.le_of_ble_eq_true rfl⟩) hS (fun q _ h => hFc q h) hFc (fun r9 u t H1 locs ht hvm hw hB hz1 hk1 hS => ?_)
                subst hw
                obtain ⟨hP1, hK1, hD1⟩ := hB
                rw [ht] at hP1
                obtain ⟨hP, hD⟩ := va_join (wr := []) (w1 := [(dq, .inr (5, [.int u51, .int d_today, .int d_cut, .int d_aging, .int d_saleFrom, .int d_pieces, .int d_orders, .ref dq8, .ref dq9, .ref dq10, .ref dq11, .ref dq12, .ref dq13, .ref dq14, .ref dq15, .int d_ran, .int d_sum, .ref dq18, .ref dq19, .ref dq20])), (dq8, .inl (cI, 40, .inl d_piece)), (dq9, .inl (cI, 40, .inl d_order)), (dq10, .inl (cI, 10, .inl d_came)), (dq11, .inl (cI, 100, .inl d_worth)), (dq12, .inl (cZ, 10, .inl d_used)), (dq13, .inl (cI, 10, .inl d_usedBy)), (dq14, .inl (cI, 10, .inl d_reservedFor)), (dq15, .inl (cI, 10, .inl d_reservedTo)), (dq18, .inl (cI, 10, .inl d_pieceDual)), (dq19, .inl (cI, 10, .inl d_orderDual)), (dq20, .inl (cJ, 11264, .inr (.inl d_table)))]) hP hD [0, 1, 2, 3, 4, 5, 6, 7, 8, 9, 10, 11] [] rfl rfl (by decide) (by decide) hk1 hFc hP1 hD1
                generalize H1 = H at hP hS ⊢
                have hP : va_P (dC, dI) classes [(dq, .inr (5, [.int u51, .int d_today, .int d_cut, .int d_aging, .int d_saleFrom, .int d_pieces, .int d_orders, .ref dq8, .ref dq9, .ref dq10, .ref dq11, .ref dq12, .ref dq13, .ref dq14, .ref dq15, .int d_ran, .int d_sum, .ref dq18, .ref dq19, .ref dq20])), (dq8, .inl (cI, 40, .inl d_piece)), (dq9, .inl (cI, 40, .inl d_order)), (dq10, .inl (cI, 10, .inl d_came)), (dq11, .inl (cI, 100, .inl d_worth)), (dq12, .inl (cZ, 10, .inl d_used)), (dq13, .inl (cI, 10, .inl d_usedBy)), (dq14, .inl (cI, 10, .inl d_reservedFor)), (dq15, .inl (cI, 10, .inl d_reservedTo)), (dq18, .inl (cI, 10, .inl d_pieceDual)), (dq19, .inl (cI, 10, .inl d_orderDual)), (dq20, .inl (cJ, 11264, .inr (.inl d_table)))] H := hP
                have hD : va_D A [(dq, .inr (5, [.int u51, .int d_today, .int d_cut, .int d_aging, .int d_saleFrom, .int d_pieces, .int d_orders, .ref dq8, .ref dq9, .ref dq10, .ref dq11, .ref dq12, .ref dq13, .ref dq14, .ref dq15, .int d_ran, .int d_sum, .ref dq18, .ref dq19, .ref dq20])), (dq8, .inl (cI, 40, .inl d_piece)), (dq9, .inl (cI, 40, .inl d_order)), (dq10, .inl (cI, 10, .inl d_came)), (dq11, .inl (cI, 100, .inl d_worth)), (dq12, .inl (cZ, 10, .inl d_used)), (dq13, .inl (cI, 10, .inl d_usedBy)), (dq14, .inl (cI, 10, .inl d_reservedFor)), (dq15, .inl (cI, 10, .inl d_reservedTo)), (dq18, .inl (cI, 10, .inl d_pieceDual)), (dq19, .inl (cI, 10, .inl d_orderDual)), (dq20, .inl (cJ, 11264, .inr (.inl d_table)))] := hD
                clear hP1 hD1 hPc hDc hFc hk1 hz1
                refine lv_if_ne (tgt := 111) hx hb d_D_reserve_107 (by decide) (fun c9 => ?_) (fun c9 => ?_)
                · replace hm := if_f c9 hm
                  refine lv_aload_n hx hb d_D_reserve_111 rfl (lv_at hl 2 rfl) ?_
                  refine va_get (D := (dC, dI)) (ci := 5) (v := .ref dq14) (C := R_D) (T := F_D) (N := 20) hx hb hts hk1 hown hK hP 0 rfl rfl 13 (by decide) hk2 (fun _ h9 => h9) rfl d_D_reserve_112 ?_
                  refine lv_iload_n hx hb d_D_reserve_115 rfl (lv_at hl 3 rfl) ?_
                  refine lv_iload_n hx hb d_D_reserve_116 rfl (lv_at hl 4 rfl) ?_
                  obtain ⟨h9, hm⟩ := gd hm
                  refine va_iast hx hb hK hP hD hS 7 0 rfl rfl h9 d_D_reserve_117 (fun H locs hP hD hS => ?_)
                  have hP : va_P (dC, dI) classes [(dq, .inr (5, [.int u51, .int d_today, .int d_cut, .int d_aging, .int d_saleFrom, .int d_pieces, .int d_orders, .ref dq8, .ref dq9, .ref dq10, .ref dq11, .ref dq12, .ref dq13, .ref dq14, .ref dq15, .int d_ran, .int d_sum, .ref dq18, .ref dq19, .ref dq20])), (dq8, .inl (cI, 40, .inl d_piece)), (dq9, .inl (cI, 40, .inl d_order)), (dq10, .inl (cI, 10, .inl d_came)), (dq11, .inl (cI, 100, .inl d_worth)), (dq12, .inl (cZ, 10, .inl d_used)), (dq13, .inl (cI, 10, .inl d_usedBy)), (dq14, .inl (cI, 10, .inl (upd d_reservedFor x1.toNatClampNeg x2))), (dq15, .inl (cI, 10, .inl d_reservedTo)), (dq18, .inl (cI, 10, .inl d_pieceDual)), (dq19, .inl (cI, 10, .inl d_orderDual)), (dq20, .inl (cJ, 11264, .inr (.inl d_table)))] H := hP
                  have hD : va_D A [(dq, .inr (5, [.int u51, .int d_today, .int d_cut, .int d_aging, .int d_saleFrom, .int d_pieces, .int d_orders, .ref dq8, .ref dq9, .ref dq10, .ref dq11, .ref dq12, .ref dq13, .ref dq14, .ref dq15, .int d_ran, .int d_sum, .ref dq18, .ref dq19, .ref dq20])), (dq8, .inl (cI, 40, .inl d_piece)), (dq9, .inl (cI, 40, .inl d_order)), (dq10, .inl (cI, 10, .inl d_came)), (dq11, .inl (cI, 100, .inl d_worth)), (dq12, .inl (cZ, 10, .inl d_used)), (dq13, .inl (cI, 10, .inl d_usedBy)), (dq14, .inl (cI, 10, .inl (upd d_reservedFor x1.toNatClampNeg x2))), (dq15, .inl (cI, 10, .inl d_reservedTo)), (dq18, .inl (cI, 10, .inl d_pieceDual)), (dq19, .inl (cI, 10, .inl d_orderDual)), (dq20, .inl (cJ, 11264, .inr (.inl d_table)))] := hD
                  refine lv_aload_n hx hb d_D_reserve_118 rfl (lv_at hl 2 rfl) ?_
                  refine va_get (D := (dC, dI)) (ci := 5) (v := .ref dq15) (C := R_D) (T := F_D) (N := 20) hx hb hts hk1 hown hK hP 0 rfl rfl 14 (by decide) hk3 (fun _ h9 => h9) rfl d_D_reserve_119 ?_
                  refine lv_iload_n hx hb d_D_reserve_122 rfl (lv_at hl 3 rfl) ?_
                  refine lv_iload_n hx hb d_D_reserve_123 rfl (lv_at hl 5 rfl) ?_
                  obtain ⟨h9, hm⟩ := gd hm
                  refine va_iast hx hb hK hP hD hS 8 0 rfl rfl h9 d_D_reserve_124 (fun H locs hP hD hS => ?_)
                  have hP : va_P (dC, dI) classes [(dq, .inr (5, [.int u51, .int d_today, .int d_cut, .int d_aging, .int d_saleFrom, .int d_pieces, .int d_orders, .ref dq8, .ref dq9, .ref dq10, .ref dq11, .ref dq12, .ref dq13, .ref dq14, .ref dq15, .int d_ran, .int d_sum, .ref dq18, .ref dq19, .ref dq20])), (dq8, .inl (cI, 40, .inl d_piece)), (dq9, .inl (cI, 40, .inl d_order)), (dq10, .inl (cI, 10, .inl d_came)), (dq11, .inl (cI, 100, .inl d_worth)), (dq12, .inl (cZ, 10, .inl d_used)), (dq13, .inl (cI, 10, .inl d_usedBy)), (dq14, .inl (cI, 10, .inl (upd d_reservedFor x1.toNatClampNeg x2))), (dq15, .inl (cI, 10, .inl (upd d_reservedTo x1.toNatClampNeg x3))), (dq18, .inl (cI, 10, .inl d_pieceDual)), (dq19, .inl (cI, 10, .inl d_orderDual)), (dq20, .inl (cJ, 11264, .inr (.inl d_table)))] H := hP
                  have hD : va_D A [(dq, .inr (5, [.int u51, .int d_today, .int d_cut, .int d_aging, .int d_saleFrom, .int d_pieces, .int d_orders, .ref dq8, .ref dq9, .ref dq10, .ref dq11, .ref dq12, .ref dq13, .ref dq14, .ref dq15, .int d_ran, .int d_sum, .ref dq18, .ref dq19, .ref dq20])), (dq8, .inl (cI, 40, .inl d_piece)), (dq9, .inl (cI, 40, .inl d_order)), (dq10, .inl (cI, 10, .inl d_came)), (dq11, .inl (cI, 100, .inl d_worth)), (dq12, .inl (cZ, 10, .inl d_used)), (dq13, .inl (cI, 10, .inl d_usedBy)), (dq14, .inl (cI, 10, .inl (upd d_reservedFor x1.toNatClampNeg x2))), (dq15, .inl (cI, 10, .inl (upd d_reservedTo x1.toNatClampNeg x3))), (dq18, .inl (cI, 10, .inl d_pieceDual)), (dq19, .inl (cI, 10, .inl d_orderDual)), (dq20, .inl (cJ, 11264, .inr (.inl d_table)))] := hD
                  cases hm
                  refine W.widen (k := 0) (n := 0) (Nat.le_of_ble_eq_true rfl) (Nat.le_of_ble_eq_true rfl) ?_
                  exact W.vret hx hb hr (fun t ht hW => ⟨⟨(), rfl, trivial, by rw [ht]; exact hP, va_K.moved hW.alike hK, hD⟩, hS.F ht⟩) hS.2.2 d_D_reserve_125
                · replace hm := if_t c9 hm
                  cases hm
                  refine W.widen (k := 0) (n := 0) (Nat.le_of_ble_eq_true rfl) (Nat.le_of_ble_eq_true rfl) ?_
                  exact W.vret hx hb hr (fun t ht hW => ⟨⟨(), rfl, trivial, by rw [ht]; exact hP, va_K.moved hW.alike hK, hD⟩, hS.F ht⟩) hS.2.2 d_D_reserve_110
            · replace hm := if_f c9 hm
              refine lv_iconst (v := 1) hx hb d_D_reserve_62 (by decide) ?_
              refine lv_goto (tgt := 67) hx hb d_D_reserve_63 (by decide) ?_
              refine lv_istore (lv' := [(5, .int 1), (4, .int 1), (0, .ref dq), (1, .int x1), (2, .int x2), (3, .int x3)]) hx hb d_D_reserve_67 hl (by decide) rfl (fun ls hl => ?_)
              refine lv_aload_n hx hb d_D_reserve_69 rfl (lv_at hl 2 rfl) ?_
              refine lv_iload hx hb d_D_reserve_70 (lv_at hl 1 rfl) ?_
              refine lv_iload hx hb d_D_reserve_72 (lv_at hl 0 rfl) ?_
              refine lv_iload_n hx hb d_D_reserve_74 rfl (lv_at hl 5 rfl) ?_
              refine lv_aload_n hx hb d_D_reserve_75 rfl (lv_at hl 2 rfl) ?_
              refine va_get (D := (dC, dI)) (ci := 5) (v := .int d_today) (C := R_D) (T := F_D) (N := 20) hx hb hts hk1 hown hK hP 0 rfl rfl 1 (by decide) hk0 (fun _ h9 => h9) rfl d_D_reserve_76 ?_
              refine lv_sipush (v := 9999) hx hb d_D_reserve_79 (by decide) ?_
              obtain ⟨r55, hc, hm⟩ := bd hm
              try dsimp only at hm
              refine vp_callSi (W.runS (As := [.int x3, .int d_today, .int 9999]) (rest := [.int 1, .int 1, .ref dq]) ⟨hx, hb, hml, hown, hts⟩ (c_D_in l dC dI cI x3 d_today 9999 N r55 hc) (cwS 3 hts (gS (w0 667 rfl) (w0 668 rfl) (w0 33 rfl) (w0 669 rfl)) rfl rfl rfl q_D_in ⟨Nat.le_of_ble_eq_true rfl, Nat.le_of_ble_eq_true rfl⟩) ro_pre0 rfl rfl hl.1 rfl (lv_room (Nat.le_of_ble_eq_true rfl)) d_D_reserve_82 ⟨Nat.le_of_ble_eq_true rfl, Nat.le_of_ble_eq_true rfl⟩) (fun r9 hr9 => ?_)
              subst hr9
              refine lv_iload hx hb d_D_reserve_85 (lv_at hl 1 rfl) ?_
              refine lv_if_eq (tgt := 103) hx hb d_D_reserve_87 (by decide) (fun c9 => absurd c9 (by decide)) (fun c9 => ?_)
              clear c9
              refine lv_aload_n hx hb d_D_reserve_90 rfl (lv_at hl 2 rfl) ?_
              refine lv_iload_n hx hb d_D_reserve_91 rfl (lv_at hl 3 rfl) ?_
              refine lv_iload_n hx hb d_D_reserve_92 rfl (lv_at hl 4 rfl) ?_
              obtain ⟨r56, hc, hm⟩ := bd hm
              try dsimp only at hm
              refine vp_callSi (W.runV (As := [.int x1, .int x2]) (rest := [.int r55, .int 1, .int 1, .ref dq]) ⟨hx, hb, hml, hown, hts⟩ (c_D_isFit l dC dI cI cZ cJ dq dq8 dq9 dq10 dq11 dq12 dq13 dq14 dq15 dq18 dq19 dq20 d_thrown d_today d_cut d_aging d_saleFrom d_pieces d_orders d_piece d_order d_came d_worth d_used d_usedBy d_reservedFor d_reservedTo d_ran d_sum d_pieceDual d_orderDual d_table x1 x2 N r56 hc) (cwV 2 hts (gV (w0 688 rfl) (w0 689 rfl) (w0 21 rfl) (w0 33 rfl) (w0 690 rfl)) rfl rfl rfl q_D_isFit ⟨Nat.le_of_ble_eq_true rfl, Nat.le_of_ble_eq_true rfl⟩) (ro_preV [0, 1, 2, 3, 4, 5, 6, 7, 8, 9, 10, 11] rfl hK hP hN 5 0 (R_D, F_D, 20) rfl rfl) rfl rfl hl.1 rfl (lv_room (Nat.le_of_ble_eq_true rfl)) d_D_reserve_93 ⟨Nat.le_of_ble_eq_true rfl, Nat.le_of_ble_eq_true rfl⟩) (fun r9 hr9 => ?_)
              subst hr9
              refine lv_if_eq (tgt := 103) hx hb d_D_reserve_96 (by decide) (fun c9 => ?_) (fun c9 => ?_)
              · replace hm := if_t c9 hm
                refine lv_iconst (v := 0) hx hb d_D_reserve_103 (by decide) ?_
                obtain ⟨⟨r57, u58⟩, hc, hm⟩ := bd hm
                try dsimp only at hm
                have hPc := hP.sub (ws' := [(dq, .inr (5, [.int d_thrown, .int d_today, .int d_cut, .int d_aging, .int d_saleFrom, .int d_pieces, .int d_orders, .ref dq8, .ref dq9, .ref dq10, .ref dq11, .ref dq12, .ref dq13, .ref dq14, .ref dq15, .int d_ran, .int d_sum, .ref dq18, .ref dq19, .ref dq20])), (dq8, .inl (cI, 40, .inl d_piece)), (dq9, .inl (cI, 40, .inl d_order)), (dq10, .inl (cI, 10, .inl d_came)), (dq11, .inl (cI, 100, .inl d_worth)), (dq12, .inl (cZ, 10, .inl d_used)), (dq13, .inl (cI, 10, .inl d_usedBy)), (dq14, .inl (cI, 10, .inl d_reservedFor)), (dq15, .inl (cI, 10, .inl d_reservedTo)), (dq18, .inl (cI, 10, .inl d_pieceDual)), (dq19, .inl (cI, 10, .inl d_orderDual)), (dq20, .inl (cJ, 11264, .inr (.inl d_table)))]) [0, 1, 2, 3, 4, 5, 6, 7, 8, 9, 10, 11] rfl
                have hDc := hD.sub (ws' := [(dq, .inr (5, [.int d_thrown, .int d_today, .int d_cut, .int d_aging, .int d_saleFrom, .int d_pieces, .int d_orders, .ref dq8, .ref dq9, .ref dq10, .ref dq11, .ref dq12, .ref dq13, .ref dq14, .ref dq15, .int d_ran, .int d_sum, .ref dq18, .ref dq19, .ref dq20])), (dq8, .inl (cI, 40, .inl d_piece)), (dq9, .inl (cI, 40, .inl d_order)), (dq10, .inl (cI, 10, .inl d_came)), (dq11, .inl (cI, 100, .inl d_worth)), (dq12, .inl (cZ, 10, .inl d_used)), (dq13, .inl (cI, 10, .inl d_usedBy)), (dq14, .inl (cI, 10, .inl d_reservedFor)), (dq15, .inl (cI, 10, .inl d_reservedTo)), (dq18, .inl (cI, 10, .inl d_pieceDual)), (dq19, .inl (cI, 10, .inl d_orderDual)), (dq20, .inl (cJ, 11264, .inr (.inl d_table)))]) [0, 1, 2, 3, 4, 5, 6, 7, 8, 9, 10, 11] (by decide) rfl
                have hFc := va_free (wc := [(dq, .inr (5, [.int d_thrown, .int d_today, .int d_cut, .int d_aging, .int d_saleFrom, .int d_pieces, .int d_orders, .ref dq8, .ref dq9, .ref dq10, .ref dq11, .ref dq12, .ref dq13, .ref dq14, .ref dq15, .int d_ran, .int d_sum, .ref dq18, .ref dq19, .ref dq20])), (dq8, .inl (cI, 40, .inl d_piece)), (dq9, .inl (cI, 40, .inl d_order)), (dq10, .inl (cI, 10, .inl d_came)), (dq11, .inl (cI, 100, .inl d_worth)), (dq12, .inl (cZ, 10, .inl d_used)), (dq13, .inl (cI, 10, .inl d_usedBy)), (dq14, .inl (cI, 10, .inl d_reservedFor)), (dq15, .inl (cI, 10, .inl d_reservedTo)), (dq18, .inl (cI, 10, .inl d_pieceDual)), (dq19, .inl (cI, 10, .inl d_orderDual)), (dq20, .inl (cJ, 11264, .inr (.inl d_table)))]) hD hS hA [0, 1, 2, 3, 4, 5, 6, 7, 8, 9, 10, 11] rfl
                refine va_calli (va_runV (As := [.int 1, .int 1, .int r55, .int 0]) (rest := []) ⟨hx, hb, hml, hown, hts⟩ (c_D_goes l dC dI cI cZ cJ dq dq8 dq9 dq10 dq11 dq12 dq13 dq14 dq15 dq18 dq19 dq20 s.heap.size d_thrown d_today d_cut d_aging d_saleFrom d_pieces d_orders d_piece d_order d_came d_worth d_used d_usedBy d_reservedFor d_reservedTo d_ran d_sum d_pieceDual d_orderDual d_table 1 1 r55 0 N (r57, u58) hc) (cwV 4 hts (gV (w0 670 rfl) (w0 671 rfl) (w0 18 rfl) (w0 33 rfl) (w0 672 rfl)) rfl rfl rfl q_D_goes ⟨Nat.le_of_ble_eq_true rfl, Nat.le_of_ble_eq_true rfl⟩) (wr_preV hK hPc hDc hN 5 0 (R_D, F_D, 20) rfl rfl) rfl rfl hl.1 rfl (lv_room (Nat.le_of_ble_eq_true rfl)) d_D_reserve_104 ⟨Nat.le_of_ble_eq_true rfl, Nat.le_of_ble_eq_true rfl⟩) hS (fun q _ h => hFc q h) hFc (fun r9 u t H1 locs ht hvm hw hB hz1 hk1 hS => ?_)
                subst hw
                obtain ⟨hP1, hK1, hD1⟩ := hB
                rw [ht] at hP1
                obtain ⟨hP, hD⟩ := va_join (wr := []) (w1 := [(dq, .inr (5, [.int u58, .int d_today, .int d_cut, .int d_aging, .int d_saleFrom, .int d_pieces, .int d_orders, .ref dq8, .ref dq9, .ref dq10, .ref dq11, .ref dq12, .ref dq13, .ref dq14, .ref dq15, .int d_ran, .int d_sum, .ref dq18, .ref dq19, .ref dq20])), (dq8, .inl (cI, 40, .inl d_piece)), (dq9, .inl (cI, 40, .inl d_order)), (dq10, .inl (cI, 10, .inl d_came)), (dq11, .inl (cI, 100, .inl d_worth)), (dq12, .inl (cZ, 10, .inl d_used)), (dq13, .inl (cI, 10, .inl d_usedBy)), (dq14, .inl (cI, 10, .inl d_reservedFor)), (dq15, .inl (cI, 10, .inl d_reservedTo)), (dq18, .inl (cI, 10, .inl d_pieceDual)), (dq19, .inl (cI, 10, .inl d_orderDual)), (dq20, .inl (cJ, 11264, .inr (.inl d_table)))]) hP hD [0, 1, 2, 3, 4, 5, 6, 7, 8, 9, 10, 11] [] rfl rfl (by decide) (by decide) hk1 hFc hP1 hD1
                generalize H1 = H at hP hS ⊢
                have hP : va_P (dC, dI) classes [(dq, .inr (5, [.int u58, .int d_today, .int d_cut, .int d_aging, .int d_saleFrom, .int d_pieces, .int d_orders, .ref dq8, .ref dq9, .ref dq10, .ref dq11, .ref dq12, .ref dq13, .ref dq14, .ref dq15, .int d_ran, .int d_sum, .ref dq18, .ref dq19, .ref dq20])), (dq8, .inl (cI, 40, .inl d_piece)), (dq9, .inl (cI, 40, .inl d_order)), (dq10, .inl (cI, 10, .inl d_came)), (dq11, .inl (cI, 100, .inl d_worth)), (dq12, .inl (cZ, 10, .inl d_used)), (dq13, .inl (cI, 10, .inl d_usedBy)), (dq14, .inl (cI, 10, .inl d_reservedFor)), (dq15, .inl (cI, 10, .inl d_reservedTo)), (dq18, .inl (cI, 10, .inl d_pieceDual)), (dq19, .inl (cI, 10, .inl d_orderDual)), (dq20, .inl (cJ, 11264, .inr (.inl d_table)))] H := hP
                have hD : va_D A [(dq, .inr (5, [.int u58, .int d_today, .int d_cut, .int d_aging, .int d_saleFrom, .int d_pieces, .int d_orders, .ref dq8, .ref dq9, .ref dq10, .ref dq11, .ref dq12, .ref dq13, .ref dq14, .ref dq15, .int d_ran, .int d_sum, .ref dq18, .ref dq19, .ref dq20])), (dq8, .inl (cI, 40, .inl d_piece)), (dq9, .inl (cI, 40, .inl d_order)), (dq10, .inl (cI, 10, .inl d_came)), (dq11, .inl (cI, 100, .inl d_worth)), (dq12, .inl (cZ, 10, .inl d_used)), (dq13, .inl (cI, 10, .inl d_usedBy)), (dq14, .inl (cI, 10, .inl d_reservedFor)), (dq15, .inl (cI, 10, .inl d_reservedTo)), (dq18, .inl (cI, 10, .inl d_pieceDual)), (dq19, .inl (cI, 10, .inl d_orderDual)), (dq20, .inl (cJ, 11264, .inr (.inl d_table)))] := hD
                clear hP1 hD1 hPc hDc hFc hk1 hz1
                refine lv_if_ne (tgt := 111) hx hb d_D_reserve_107 (by decide) (fun c9 => ?_) (fun c9 => ?_)
                · replace hm := if_f c9 hm
                  refine lv_aload_n hx hb d_D_reserve_111 rfl (lv_at hl 2 rfl) ?_
                  refine va_get (D := (dC, dI)) (ci := 5) (v := .ref dq14) (C := R_D) (T := F_D) (N := 20) hx hb hts hk1 hown hK hP 0 rfl rfl 13 (by decide) hk2 (fun _ h9 => h9) rfl d_D_reserve_112 ?_
                  refine lv_iload_n hx hb d_D_reserve_115 rfl (lv_at hl 3 rfl) ?_
                  refine lv_iload_n hx hb d_D_reserve_116 rfl (lv_at hl 4 rfl) ?_
                  obtain ⟨h9, hm⟩ := gd hm
                  refine va_iast hx hb hK hP hD hS 7 0 rfl rfl h9 d_D_reserve_117 (fun H locs hP hD hS => ?_)
                  have hP : va_P (dC, dI) classes [(dq, .inr (5, [.int u58, .int d_today, .int d_cut, .int d_aging, .int d_saleFrom, .int d_pieces, .int d_orders, .ref dq8, .ref dq9, .ref dq10, .ref dq11, .ref dq12, .ref dq13, .ref dq14, .ref dq15, .int d_ran, .int d_sum, .ref dq18, .ref dq19, .ref dq20])), (dq8, .inl (cI, 40, .inl d_piece)), (dq9, .inl (cI, 40, .inl d_order)), (dq10, .inl (cI, 10, .inl d_came)), (dq11, .inl (cI, 100, .inl d_worth)), (dq12, .inl (cZ, 10, .inl d_used)), (dq13, .inl (cI, 10, .inl d_usedBy)), (dq14, .inl (cI, 10, .inl (upd d_reservedFor x1.toNatClampNeg x2))), (dq15, .inl (cI, 10, .inl d_reservedTo)), (dq18, .inl (cI, 10, .inl d_pieceDual)), (dq19, .inl (cI, 10, .inl d_orderDual)), (dq20, .inl (cJ, 11264, .inr (.inl d_table)))] H := hP
                  have hD : va_D A [(dq, .inr (5, [.int u58, .int d_today, .int d_cut, .int d_aging, .int d_saleFrom, .int d_pieces, .int d_orders, .ref dq8, .ref dq9, .ref dq10, .ref dq11, .ref dq12, .ref dq13, .ref dq14, .ref dq15, .int d_ran, .int d_sum, .ref dq18, .ref dq19, .ref dq20])), (dq8, .inl (cI, 40, .inl d_piece)), (dq9, .inl (cI, 40, .inl d_order)), (dq10, .inl (cI, 10, .inl d_came)), (dq11, .inl (cI, 100, .inl d_worth)), (dq12, .inl (cZ, 10, .inl d_used)), (dq13, .inl (cI, 10, .inl d_usedBy)), (dq14, .inl (cI, 10, .inl (upd d_reservedFor x1.toNatClampNeg x2))), (dq15, .inl (cI, 10, .inl d_reservedTo)), (dq18, .inl (cI, 10, .inl d_pieceDual)), (dq19, .inl (cI, 10, .inl d_orderDual)), (dq20, .inl (cJ, 11264, .inr (.inl d_table)))] := hD
                  refine lv_aload_n hx hb d_D_reserve_118 rfl (lv_at hl 2 rfl) ?_
                  refine va_get (D := (dC, dI)) (ci := 5) (v := .ref dq15) (C := R_D) (T := F_D) (N := 20) hx hb hts hk1 hown hK hP 0 rfl rfl 14 (by decide) hk3 (fun _ h9 => h9) rfl d_D_reserve_119 ?_
                  refine lv_iload_n hx hb d_D_reserve_122 rfl (lv_at hl 3 rfl) ?_
                  refine lv_iload_n hx hb d_D_reserve_123 rfl (lv_at hl 5 rfl) ?_
                  obtain ⟨h9, hm⟩ := gd hm
                  refine va_iast hx hb hK hP hD hS 8 0 rfl rfl h9 d_D_reserve_124 (fun H locs hP hD hS => ?_)
                  have hP : va_P (dC, dI) classes [(dq, .inr (5, [.int u58, .int d_today, .int d_cut, .int d_aging, .int d_saleFrom, .int d_pieces, .int d_orders, .ref dq8, .ref dq9, .ref dq10, .ref dq11, .ref dq12, .ref dq13, .ref dq14, .ref dq15, .int d_ran, .int d_sum, .ref dq18, .ref dq19, .ref dq20])), (dq8, .inl (cI, 40, .inl d_piece)), (dq9, .inl (cI, 40, .inl d_order)), (dq10, .inl (cI, 10, .inl d_came)), (dq11, .inl (cI, 100, .inl d_worth)), (dq12, .inl (cZ, 10, .inl d_used)), (dq13, .inl (cI, 10, .inl d_usedBy)), (dq14, .inl (cI, 10, .inl (upd d_reservedFor x1.toNatClampNeg x2))), (dq15, .inl (cI, 10, .inl (upd d_reservedTo x1.toNatClampNeg x3))), (dq18, .inl (cI, 10, .inl d_pieceDual)), (dq19, .inl (cI, 10, .inl d_orderDual)), (dq20, .inl (cJ, 11264, .inr (.inl d_table)))] H := hP
                  have hD : va_D A [(dq, .inr (5, [.int u58, .int d_today, .int d_cut, .int d_aging, .int d_saleFrom, .int d_pieces, .int d_orders, .ref dq8, .ref dq9, .ref dq10, .ref dq11, .ref dq12, .ref dq13, .ref dq14, .ref dq15, .int d_ran, .int d_sum, .ref dq18, .ref dq19, .ref dq20])), (dq8, .inl (cI, 40, .inl d_piece)), (dq9, .inl (cI, 40, .inl d_order)), (dq10, .inl (cI, 10, .inl d_came)), (dq11, .inl (cI, 100, .inl d_worth)), (dq12, .inl (cZ, 10, .inl d_used)), (dq13, .inl (cI, 10, .inl d_usedBy)), (dq14, .inl (cI, 10, .inl (upd d_reservedFor x1.toNatClampNeg x2))), (dq15, .inl (cI, 10, .inl (upd d_reservedTo x1.toNatClampNeg x3))), (dq18, .inl (cI, 10, .inl d_pieceDual)), (dq19, .inl (cI, 10, .inl d_orderDual)), (dq20, .inl (cJ, 11264, .inr (.inl d_table)))] := hD
                  cases hm
                  refine W.widen (k := 0) (n := 0) (Nat.le_of_ble_eq_true rfl) (Nat.le_of_ble_eq_true rfl) ?_
                  exact W.vret hx hb hr (fun t ht hW => ⟨⟨(), rfl, trivial, by rw [ht]; exact hP, va_K.moved hW.alike hK, hD⟩, hS.F ht⟩) hS.2.2 d_D_reserve_125
                · replace hm := if_t c9 hm
                  cases hm
                  refine W.widen (k := 0) (n := 0) (Nat.le_of_ble_eq_true rfl) (Nat.le_of_ble_eq_true rfl) ?_
                  exact W.vret hx hb hr (fun t ht hW => ⟨⟨(), rfl, trivial, by rw [ht]; exact hP, va_K.moved hW.alike hK, hD⟩, hS.F ht⟩) hS.2.2 d_D_reserve_110
              · replace hm := if_f c9 hm
                refine lv_iconst (v := 1) hx hb d_D_reserve_99 (by decide) ?_
                refine lv_goto (tgt := 104) hx hb d_D_reserve_100 (by decide) ?_
                obtain ⟨⟨r60, u61⟩, hc, hm⟩ := bd hm
                try dsimp only at hm
                have hPc := hP.sub (ws' := [(dq, .inr (5, [.int d_thrown, .int d_today, .int d_cut, .int d_aging, .int d_saleFrom, .int d_pieces, .int d_orders, .ref dq8, .ref dq9, .ref dq10, .ref dq11, .ref dq12, .ref dq13, .ref dq14, .ref dq15, .int d_ran, .int d_sum, .ref dq18, .ref dq19, .ref dq20])), (dq8, .inl (cI, 40, .inl d_piece)), (dq9, .inl (cI, 40, .inl d_order)), (dq10, .inl (cI, 10, .inl d_came)), (dq11, .inl (cI, 100, .inl d_worth)), (dq12, .inl (cZ, 10, .inl d_used)), (dq13, .inl (cI, 10, .inl d_usedBy)), (dq14, .inl (cI, 10, .inl d_reservedFor)), (dq15, .inl (cI, 10, .inl d_reservedTo)), (dq18, .inl (cI, 10, .inl d_pieceDual)), (dq19, .inl (cI, 10, .inl d_orderDual)), (dq20, .inl (cJ, 11264, .inr (.inl d_table)))]) [0, 1, 2, 3, 4, 5, 6, 7, 8, 9, 10, 11] rfl
                have hDc := hD.sub (ws' := [(dq, .inr (5, [.int d_thrown, .int d_today, .int d_cut, .int d_aging, .int d_saleFrom, .int d_pieces, .int d_orders, .ref dq8, .ref dq9, .ref dq10, .ref dq11, .ref dq12, .ref dq13, .ref dq14, .ref dq15, .int d_ran, .int d_sum, .ref dq18, .ref dq19, .ref dq20])), (dq8, .inl (cI, 40, .inl d_piece)), (dq9, .inl (cI, 40, .inl d_order)), (dq10, .inl (cI, 10, .inl d_came)), (dq11, .inl (cI, 100, .inl d_worth)), (dq12, .inl (cZ, 10, .inl d_used)), (dq13, .inl (cI, 10, .inl d_usedBy)), (dq14, .inl (cI, 10, .inl d_reservedFor)), (dq15, .inl (cI, 10, .inl d_reservedTo)), (dq18, .inl (cI, 10, .inl d_pieceDual)), (dq19, .inl (cI, 10, .inl d_orderDual)), (dq20, .inl (cJ, 11264, .inr (.inl d_table)))]) [0, 1, 2, 3, 4, 5, 6, 7, 8, 9, 10, 11] (by decide) rfl
                have hFc := va_free (wc := [(dq, .inr (5, [.int d_thrown, .int d_today, .int d_cut, .int d_aging, .int d_saleFrom, .int d_pieces, .int d_orders, .ref dq8, .ref dq9, .ref dq10, .ref dq11, .ref dq12, .ref dq13, .ref dq14, .ref dq15, .int d_ran, .int d_sum, .ref dq18, .ref dq19, .ref dq20])), (dq8, .inl (cI, 40, .inl d_piece)), (dq9, .inl (cI, 40, .inl d_order)), (dq10, .inl (cI, 10, .inl d_came)), (dq11, .inl (cI, 100, .inl d_worth)), (dq12, .inl (cZ, 10, .inl d_used)), (dq13, .inl (cI, 10, .inl d_usedBy)), (dq14, .inl (cI, 10, .inl d_reservedFor)), (dq15, .inl (cI, 10, .inl d_reservedTo)), (dq18, .inl (cI, 10, .inl d_pieceDual)), (dq19, .inl (cI, 10, .inl d_orderDual)), (dq20, .inl (cJ, 11264, .inr (.inl d_table)))]) hD hS hA [0, 1, 2, 3, 4, 5, 6, 7, 8, 9, 10, 11] rfl
                refine va_calli (va_runV (As := [.int 1, .int 1, .int r55, .int 1]) (rest := []) ⟨hx, hb, hml, hown, hts⟩ (c_D_goes l dC dI cI cZ cJ dq dq8 dq9 dq10 dq11 dq12 dq13 dq14 dq15 dq18 dq19 dq20 s.heap.size d_thrown d_today d_cut d_aging d_saleFrom d_pieces d_orders d_piece d_order d_came d_worth d_used d_usedBy d_reservedFor d_reservedTo d_ran d_sum d_pieceDual d_orderDual d_table 1 1 r55 1 N (r60, u61) hc) (cwV 4 hts (gV (w0 670 rfl) (w0 671 rfl) (w0 18 rfl) (w0 33 rfl) (w0 672 rfl)) rfl rfl rfl q_D_goes ⟨Nat.le_of_ble_eq_true rfl, Nat.le_of_ble_eq_true rfl⟩) (wr_preV hK hPc hDc hN 5 0 (R_D, F_D, 20) rfl rfl) rfl rfl hl.1 rfl (lv_room (Nat.le_of_ble_eq_true rfl)) d_D_reserve_104 ⟨Nat.le_of_ble_eq_true rfl, Nat.le_of_ble_eq_true rfl⟩) hS (fun q _ h => hFc q h) hFc (fun r9 u t H1 locs ht hvm hw hB hz1 hk1 hS => ?_)
                subst hw
                obtain ⟨hP1, hK1, hD1⟩ := hB
                rw [ht] at hP1
                obtain ⟨hP, hD⟩ := va_join (wr := []) (w1 := [(dq, .inr (5, [.int u61, .int d_today, .int d_cut, .int d_aging, .int d_saleFrom, .int d_pieces, .int d_orders, .ref dq8, .ref dq9, .ref dq10, .ref dq11, .ref dq12, .ref dq13, .ref dq14, .ref dq15, .int d_ran, .int d_sum, .ref dq18, .ref dq19, .ref dq20])), (dq8, .inl (cI, 40, .inl d_piece)), (dq9, .inl (cI, 40, .inl d_order)), (dq10, .inl (cI, 10, .inl d_came)), (dq11, .inl (cI, 100, .inl d_worth)), (dq12, .inl (cZ, 10, .inl d_used)), (dq13, .inl (cI, 10, .inl d_usedBy)), (dq14, .inl (cI, 10, .inl d_reservedFor)), (dq15, .inl (cI, 10, .inl d_reservedTo)), (dq18, .inl (cI, 10, .inl d_pieceDual)), (dq19, .inl (cI, 10, .inl d_orderDual)), (dq20, .inl (cJ, 11264, .inr (.inl d_table)))]) hP hD [0, 1, 2, 3, 4, 5, 6, 7, 8, 9, 10, 11] [] rfl rfl (by decide) (by decide) hk1 hFc hP1 hD1
                generalize H1 = H at hP hS ⊢
                have hP : va_P (dC, dI) classes [(dq, .inr (5, [.int u61, .int d_today, .int d_cut, .int d_aging, .int d_saleFrom, .int d_pieces, .int d_orders, .ref dq8, .ref dq9, .ref dq10, .ref dq11, .ref dq12, .ref dq13, .ref dq14, .ref dq15, .int d_ran, .int d_sum, .ref dq18, .ref dq19, .ref dq20])), (dq8, .inl (cI, 40, .inl d_piece)), (dq9, .inl (cI, 40, .inl d_order)), (dq10, .inl (cI, 10, .inl d_came)), (dq11, .inl (cI, 100, .inl d_worth)), (dq12, .inl (cZ, 10, .inl d_used)), (dq13, .inl (cI, 10, .inl d_usedBy)), (dq14, .inl (cI, 10, .inl d_reservedFor)), (dq15, .inl (cI, 10, .inl d_reservedTo)), (dq18, .inl (cI, 10, .inl d_pieceDual)), (dq19, .inl (cI, 10, .inl d_orderDual)), (dq20, .inl (cJ, 11264, .inr (.inl d_table)))] H := hP
                have hD : va_D A [(dq, .inr (5, [.int u61, .int d_today, .int d_cut, .int d_aging, .int d_saleFrom, .int d_pieces, .int d_orders, .ref dq8, .ref dq9, .ref dq10, .ref dq11, .ref dq12, .ref dq13, .ref dq14, .ref dq15, .int d_ran, .int d_sum, .ref dq18, .ref dq19, .ref dq20])), (dq8, .inl (cI, 40, .inl d_piece)), (dq9, .inl (cI, 40, .inl d_order)), (dq10, .inl (cI, 10, .inl d_came)), (dq11, .inl (cI, 100, .inl d_worth)), (dq12, .inl (cZ, 10, .inl d_used)), (dq13, .inl (cI, 10, .inl d_usedBy)), (dq14, .inl (cI, 10, .inl d_reservedFor)), (dq15, .inl (cI, 10, .inl d_reservedTo)), (dq18, .inl (cI, 10, .inl d_pieceDual)), (dq19, .inl (cI, 10, .inl d_orderDual)), (dq20, .inl (cJ, 11264, .inr (.inl d_table)))] := hD
                clear hP1 hD1 hPc hDc hFc hk1 hz1
                refine lv_if_ne (tgt := 111) hx hb d_D_reserve_107 (by decide) (fun c9 => ?_) (fun c9 => ?_)
                · replace hm := if_f c9 hm
                  refine lv_aload_n hx hb d_D_reserve_111 rfl (lv_at hl 2 rfl) ?_
                  refine va_get (D := (dC, dI)) (ci := 5) (v := .ref dq14) (C := R_D) (T := F_D) (N := 20) hx hb hts hk1 hown hK hP 0 rfl rfl 13 (by decide) hk2 (fun _ h9 => h9) rfl d_D_reserve_112 ?_
                  refine lv_iload_n hx hb d_D_reserve_115 rfl (lv_at hl 3 rfl) ?_
                  refine lv_iload_n hx hb d_D_reserve_116 rfl (lv_at hl 4 rfl) ?_
                  obtain ⟨h9, hm⟩ := gd hm
                  refine va_iast hx hb hK hP hD hS 7 0 rfl rfl h9 d_D_reserve_117 (fun H locs hP hD hS => ?_)
                  have hP : va_P (dC, dI) classes [(dq, .inr (5, [.int u61, .int d_today, .int d_cut, .int d_aging, .int d_saleFrom, .int d_pieces, .int d_orders, .ref dq8, .ref dq9, .ref dq10, .ref dq11, .ref dq12, .ref dq13, .ref dq14, .ref dq15, .int d_ran, .int d_sum, .ref dq18, .ref dq19, .ref dq20])), (dq8, .inl (cI, 40, .inl d_piece)), (dq9, .inl (cI, 40, .inl d_order)), (dq10, .inl (cI, 10, .inl d_came)), (dq11, .inl (cI, 100, .inl d_worth)), (dq12, .inl (cZ, 10, .inl d_used)), (dq13, .inl (cI, 10, .inl d_usedBy)), (dq14, .inl (cI, 10, .inl (upd d_reservedFor x1.toNatClampNeg x2))), (dq15, .inl (cI, 10, .inl d_reservedTo)), (dq18, .inl (cI, 10, .inl d_pieceDual)), (dq19, .inl (cI, 10, .inl d_orderDual)), (dq20, .inl (cJ, 11264, .inr (.inl d_table)))] H := hP
                  have hD : va_D A [(dq, .inr (5, [.int u61, .int d_today, .int d_cut, .int d_aging, .int d_saleFrom, .int d_pieces, .int d_orders, .ref dq8, .ref dq9, .ref dq10, .ref dq11, .ref dq12, .ref dq13, .ref dq14, .ref dq15, .int d_ran, .int d_sum, .ref dq18, .ref dq19, .ref dq20])), (dq8, .inl (cI, 40, .inl d_piece)), (dq9, .inl (cI, 40, .inl d_order)), (dq10, .inl (cI, 10, .inl d_came)), (dq11, .inl (cI, 100, .inl d_worth)), (dq12, .inl (cZ, 10, .inl d_used)), (dq13, .inl (cI, 10, .inl d_usedBy)), (dq14, .inl (cI, 10, .inl (upd d_reservedFor x1.toNatClampNeg x2))), (dq15, .inl (cI, 10, .inl d_reservedTo)), (dq18, .inl (cI, 10, .inl d_pieceDual)), (dq19, .inl (cI, 10, .inl d_orderDual)), (dq20, .inl (cJ, 11264, .inr (.inl d_table)))] := hD
                  refine lv_aload_n hx hb d_D_reserve_118 rfl (lv_at hl 2 rfl) ?_
                  refine va_get (D := (dC, dI)) (ci := 5) (v := .ref dq15) (C := R_D) (T := F_D) (N := 20) hx hb hts hk1 hown hK hP 0 rfl rfl 14 (by decide) hk3 (fun _ h9 => h9) rfl d_D_reserve_119 ?_
                  refine lv_iload_n hx hb d_D_reserve_122 rfl (lv_at hl 3 rfl) ?_
                  refine lv_iload_n hx hb d_D_reserve_123 rfl (lv_at hl 5 rfl) ?_
                  obtain ⟨h9, hm⟩ := gd hm
                  refine va_iast hx hb hK hP hD hS 8 0 rfl rfl h9 d_D_reserve_124 (fun H locs hP hD hS => ?_)
                  have hP : va_P (dC, dI) classes [(dq, .inr (5, [.int u61, .int d_today, .int d_cut, .int d_aging, .int d_saleFrom, .int d_pieces, .int d_orders, .ref dq8, .ref dq9, .ref dq10, .ref dq11, .ref dq12, .ref dq13, .ref dq14, .ref dq15, .int d_ran, .int d_sum, .ref dq18, .ref dq19, .ref dq20])), (dq8, .inl (cI, 40, .inl d_piece)), (dq9, .inl (cI, 40, .inl d_order)), (dq10, .inl (cI, 10, .inl d_came)), (dq11, .inl (cI, 100, .inl d_worth)), (dq12, .inl (cZ, 10, .inl d_used)), (dq13, .inl (cI, 10, .inl d_usedBy)), (dq14, .inl (cI, 10, .inl (upd d_reservedFor x1.toNatClampNeg x2))), (dq15, .inl (cI, 10, .inl (upd d_reservedTo x1.toNatClampNeg x3))), (dq18, .inl (cI, 10, .inl d_pieceDual)), (dq19, .inl (cI, 10, .inl d_orderDual)), (dq20, .inl (cJ, 11264, .inr (.inl d_table)))] H := hP
                  have hD : va_D A [(dq, .inr (5, [.int u61, .int d_today, .int d_cut, .int d_aging, .int d_saleFrom, .int d_pieces, .int d_orders, .ref dq8, .ref dq9, .ref dq10, .ref dq11, .ref dq12, .ref dq13, .ref dq14, .ref dq15, .int d_ran, .int d_sum, .ref dq18, .ref dq19, .ref dq20])), (dq8, .inl (cI, 40, .inl d_piece)), (dq9, .inl (cI, 40, .inl d_order)), (dq10, .inl (cI, 10, .inl d_came)), (dq11, .inl (cI, 100, .inl d_worth)), (dq12, .inl (cZ, 10, .inl d_used)), (dq13, .inl (cI, 10, .inl d_usedBy)), (dq14, .inl (cI, 10, .inl (upd d_reservedFor x1.toNatClampNeg x2))), (dq15, .inl (cI, 10, .inl (upd d_reservedTo x1.toNatClampNeg x3))), (dq18, .inl (cI, 10, .inl d_pieceDual)), (dq19, .inl (cI, 10, .inl d_orderDual)), (dq20, .inl (cJ, 11264, .inr (.inl d_table)))] := hD
                  cases hm
                  refine W.widen (k := 0) (n := 0) (Nat.le_of_ble_eq_true rfl) (Nat.le_of_ble_eq_true rfl) ?_
                  exact W.vret hx hb hr (fun t ht hW => ⟨⟨(), rfl, trivial, by rw [ht]; exact hP, va_K.moved hW.alike hK, hD⟩, hS.F ht⟩) hS.2.2 d_D_reserve_125
                · replace hm := if_t c9 hm
                  cases hm
                  refine W.widen (k := 0) (n := 0) (Nat.le_of_ble_eq_true rfl) (Nat.le_of_ble_eq_true rfl) ?_
                  exact W.vret hx hb hr (fun t ht hW => ⟨⟨(), rfl, trivial, by rw [ht]; exact hP, va_K.moved hW.alike hK, hD⟩, hS.F ht⟩) hS.2.2 d_D_reserve_110

def w_D_reserved : List Cond := .code y_D_reserved b_D_reserved 2 (some .int) :: W0
theorem q_D_reserved : y_D_reserved.cls = R_D ∧ y_D_reserved.cls ≠ "java/lang/invoke/MethodHandle" ∧ y_D_reserved.cls ≠ "java/lang/invoke/VarHandle" ∧ (parseMethodDescriptor y_D_reserved.desc).map (fun d => d.parameters.length) = some 1 := by decide +kernel
def m_D_reserved (d_today : Int32) (d_pieces : Int32) (d_reservedFor : Nat → Int32) (d_reservedTo : Nat → Int32) (x1 : Int32) : Option (Int32 × Int32) :=
  ((m_D_isPiece d_pieces x1).bind fun r1 =>
  ((m_D_goes r1 1 1 1).bind fun (r2, u3) =>
    (if r2 = 0 then
      some (0, u3)
     else
      ((m_D_reservation d_today d_reservedFor d_reservedTo x1).bind fun r4 =>
        some (r4, u3)))))
set_option maxHeartbeats 4000000 in
set_option maxRecDepth 100000 in
theorem c_D_reserved (l : Launch) (dC : Nat → ClassId) (dI : Nat → Nat → Nat) (cI cZ cJ : ClassId) (dq dq8 dq9 dq10 dq11 dq12 dq13 dq14 dq15 dq18 dq19 dq20 : Nat) (sz : Nat) (d_thrown : Int32) (d_today : Int32) (d_cut : Int32) (d_aging : Int32) (d_saleFrom : Int32) (d_pieces : Int32) (d_orders : Int32) (d_piece : Nat → Int32) (d_order : Nat → Int32) (d_came : Nat → Int32) (d_worth : Nat → Int32) (d_used : Nat → Int32) (d_usedBy : Nat → Int32) (d_reservedFor : Nat → Int32) (d_reservedTo : Nat → Int32) (d_ran : Int32) (d_sum : Int32) (d_pieceDual : Nat → Int32) (d_orderDual : Nat → Int32) (d_table : Nat → Int64) (x1 : Int32) (N : Nat) (res : Int32 × Int32) (hm : m_D_reserved d_today d_pieces d_reservedFor d_reservedTo x1 = some res) : Met l y_D_reserved w_D_reserved ({ frames := 2, cells := 0, slots := 0, locals := 43 } : Room) (va_Pc [.ref dq, .int x1] (fun U => U.heap.size = sz ∧ va_P (dC, dI) classes [(dq, .inr (5, [.int d_thrown, .int d_today, .int d_cut, .int d_aging, .int d_saleFrom, .int d_pieces, .int d_orders, .ref dq8, .ref dq9, .ref dq10, .ref dq11, .ref dq12, .ref dq13, .ref dq14, .ref dq15, .int d_ran, .int d_sum, .ref dq18, .ref dq19, .ref dq20])), (dq8, .inl (cI, 40, .inl d_piece)), (dq9, .inl (cI, 40, .inl d_order)), (dq10, .inl (cI, 10, .inl d_came)), (dq11, .inl (cI, 100, .inl d_worth)), (dq12, .inl (cZ, 10, .inl d_used)), (dq13, .inl (cI, 10, .inl d_usedBy)), (dq14, .inl (cI, 10, .inl d_reservedFor)), (dq15, .inl (cI, 10, .inl d_reservedTo)), (dq18, .inl (cI, 10, .inl d_pieceDual)), (dq19, .inl (cI, 10, .inl d_orderDual)), (dq20, .inl (cJ, 11264, .inr (.inl d_table)))] U.heap ∧ va_K (dC, dI) classes [(cI, .int), (cZ, .boolean), (cJ, .long)] U ∧ va_D (fun _ => True) [(dq, .inr (5, [.int d_thrown, .int d_today, .int d_cut, .int d_aging, .int d_saleFrom, .int d_pieces, .int d_orders, .ref dq8, .ref dq9, .ref dq10, .ref dq11, .ref dq12, .ref dq13, .ref dq14, .ref dq15, .int d_ran, .int d_sum, .ref dq18, .ref dq19, .ref dq20])), (dq8, .inl (cI, 40, .inl d_piece)), (dq9, .inl (cI, 40, .inl d_order)), (dq10, .inl (cI, 10, .inl d_came)), (dq11, .inl (cI, 100, .inl d_worth)), (dq12, .inl (cZ, 10, .inl d_used)), (dq13, .inl (cI, 10, .inl d_usedBy)), (dq14, .inl (cI, 10, .inl d_reservedFor)), (dq15, .inl (cI, 10, .inl d_reservedTo)), (dq18, .inl (cI, 10, .inl d_pieceDual)), (dq19, .inl (cI, 10, .inl d_orderDual)), (dq20, .inl (cJ, 11264, .inr (.inl d_table)))] ∧ nw U)) (va_Qi (fun (x : Int32) (_ : Unit) => res.1 = x) (fun _ t => va_P (dC, dI) classes [(dq, .inr (5, [.int res.2, .int d_today, .int d_cut, .int d_aging, .int d_saleFrom, .int d_pieces, .int d_orders, .ref dq8, .ref dq9, .ref dq10, .ref dq11, .ref dq12, .ref dq13, .ref dq14, .ref dq15, .int d_ran, .int d_sum, .ref dq18, .ref dq19, .ref dq20])), (dq8, .inl (cI, 40, .inl d_piece)), (dq9, .inl (cI, 40, .inl d_order)), (dq10, .inl (cI, 10, .inl d_came)), (dq11, .inl (cI, 100, .inl d_worth)), (dq12, .inl (cZ, 10, .inl d_used)), (dq13, .inl (cI, 10, .inl d_usedBy)), (dq14, .inl (cI, 10, .inl d_reservedFor)), (dq15, .inl (cI, 10, .inl d_reservedTo)), (dq18, .inl (cI, 10, .inl d_pieceDual)), (dq19, .inl (cI, 10, .inl d_orderDual)), (dq20, .inl (cJ, 11264, .inr (.inl d_table)))] t.heap ∧ va_K (dC, dI) classes [(cI, .int), (cZ, .boolean), (cJ, .long)] t ∧ va_D (va_A [(dq, .inr (5, [.int d_thrown, .int d_today, .int d_cut, .int d_aging, .int d_saleFrom, .int d_pieces, .int d_orders, .ref dq8, .ref dq9, .ref dq10, .ref dq11, .ref dq12, .ref dq13, .ref dq14, .ref dq15, .int d_ran, .int d_sum, .ref dq18, .ref dq19, .ref dq20])), (dq8, .inl (cI, 40, .inl d_piece)), (dq9, .inl (cI, 40, .inl d_order)), (dq10, .inl (cI, 10, .inl d_came)), (dq11, .inl (cI, 100, .inl d_worth)), (dq12, .inl (cZ, 10, .inl d_used)), (dq13, .inl (cI, 10, .inl d_usedBy)), (dq14, .inl (cI, 10, .inl d_reservedFor)), (dq15, .inl (cI, 10, .inl d_reservedTo)), (dq18, .inl (cI, 10, .inl d_pieceDual)), (dq19, .inl (cI, 10, .inl d_orderDual)), (dq20, .inl (cJ, 11264, .inr (.inl d_table)))] sz) [(dq, .inr (5, [.int res.2, .int d_today, .int d_cut, .int d_aging, .int d_saleFrom, .int d_pieces, .int d_orders, .ref dq8, .ref dq9, .ref dq10, .ref dq11, .ref dq12, .ref dq13, .ref dq14, .ref dq15, .int d_ran, .int d_sum, .ref dq18, .ref dq19, .ref dq20])), (dq8, .inl (cI, 40, .inl d_piece)), (dq9, .inl (cI, 40, .inl d_order)), (dq10, .inl (cI, 10, .inl d_came)), (dq11, .inl (cI, 100, .inl d_worth)), (dq12, .inl (cZ, 10, .inl d_used)), (dq13, .inl (cI, 10, .inl d_usedBy)), (dq14, .inl (cI, 10, .inl d_reservedFor)), (dq15, .inl (cI, 10, .inl d_reservedTo)), (dq18, .inl (cI, 10, .inl d_pieceDual)), (dq19, .inl (cI, 10, .inl d_orderDual)), (dq20, .inl (cJ, 11264, .inr (.inl d_table)))]) (va_A [(dq, .inr (5, [.int d_thrown, .int d_today, .int d_cut, .int d_aging, .int d_saleFrom, .int d_pieces, .int d_orders, .ref dq8, .ref dq9, .ref dq10, .ref dq11, .ref dq12, .ref dq13, .ref dq14, .ref dq15, .int d_ran, .int d_sum, .ref dq18, .ref dq19, .ref dq20])), (dq8, .inl (cI, 40, .inl d_piece)), (dq9, .inl (cI, 40, .inl d_order)), (dq10, .inl (cI, 10, .inl d_came)), (dq11, .inl (cI, 100, .inl d_worth)), (dq12, .inl (cZ, 10, .inl d_used)), (dq13, .inl (cI, 10, .inl d_usedBy)), (dq14, .inl (cI, 10, .inl d_reservedFor)), (dq15, .inl (cI, 10, .inl d_reservedTo)), (dq18, .inl (cI, 10, .inl d_pieceDual)), (dq19, .inl (cI, 10, .inl d_orderDual)), (dq20, .inl (cJ, 11264, .inr (.inl d_table)))] sz)) 0 0 (va_A [(dq, .inr (5, [.int d_thrown, .int d_today, .int d_cut, .int d_aging, .int d_saleFrom, .int d_pieces, .int d_orders, .ref dq8, .ref dq9, .ref dq10, .ref dq11, .ref dq12, .ref dq13, .ref dq14, .ref dq15, .int d_ran, .int d_sum, .ref dq18, .ref dq19, .ref dq20])), (dq8, .inl (cI, 40, .inl d_piece)), (dq9, .inl (cI, 40, .inl d_order)), (dq10, .inl (cI, 10, .inl d_came)), (dq11, .inl (cI, 100, .inl d_worth)), (dq12, .inl (cZ, 10, .inl d_used)), (dq13, .inl (cI, 10, .inl d_usedBy)), (dq14, .inl (cI, 10, .inl d_reservedFor)), (dq15, .inl (cI, 10, .inl d_reservedTo)), (dq18, .inl (cI, 10, .inl d_pieceDual)), (dq19, .inl (cI, 10, .inl d_orderDual)), (dq20, .inl (cJ, 11264, .inr (.inl d_table)))] sz) := by
  unfold m_D_reserved at hm
  refine Met.ofW (cc := b_D_reserved) (maxL := 2) (ret := (some .int)) (by decide) rfl ?_
  intro p e s m args below meth c s₁ B hml hv
  obtain ⟨rfl, hsz, hP, hK, hD0, hN⟩ := hv
  have hx := B.exec
  have hb := B.bytes
  have hr := B.returns
  have hts := atoms_spec (ws := w_D_reserved) B.pre
  have hown : s.vm.findClass R_D = some m.cls := findClass_of_methodNamed B.named
  have hlocks := B.notSynchronized
  subst hsz
  have hD := hD0.self (sz := s.heap.size)
  generalize hAe : va_A [(dq, .inr (5, [.int d_thrown, .int d_today, .int d_cut, .int d_aging, .int d_saleFrom, .int d_pieces, .int d_orders, .ref dq8, .ref dq9, .ref dq10, .ref dq11, .ref dq12, .ref dq13, .ref dq14, .ref dq15, .int d_ran, .int d_sum, .ref dq18, .ref dq19, .ref dq20])), (dq8, .inl (cI, 40, .inl d_piece)), (dq9, .inl (cI, 40, .inl d_order)), (dq10, .inl (cI, 10, .inl d_came)), (dq11, .inl (cI, 100, .inl d_worth)), (dq12, .inl (cZ, 10, .inl d_used)), (dq13, .inl (cI, 10, .inl d_usedBy)), (dq14, .inl (cI, 10, .inl d_reservedFor)), (dq15, .inl (cI, 10, .inl d_reservedTo)), (dq18, .inl (cI, 10, .inl d_pieceDual)), (dq19, .inl (cI, 10, .inl d_orderDual)), (dq20, .inl (cJ, 11264, .inr (.inl d_table)))] s.heap.size = A at hD ⊢
  have hA : ∀ q : Nat, s.heap.size ≤ q → A q := fun q h => by rw [← hAe]; exact Or.inr h
  have hS : va_S A s.heap s.heap [] := va_S.rf
  have hl := lv_entry ([.ref dq, .int x1]) (n := 2) (Nat.le_of_ble_eq_true rfl)
  rw [lg_entry_eq]
  generalize (lg_sl ([.ref dq, .int x1]) ++ List.replicate (2 - (lg_sl ([.ref dq, .int x1])).length) Slot.unset).toArray = ls at hl ⊢
  have hl : lv_has ls 2 [(0, .ref dq), (1, .int x1)] := hl
  refine lv_aload_n hx hb d_D_reserved_0 rfl (lv_at hl 0 rfl) ?_
  refine lv_aload_n hx hb d_D_reserved_1 rfl (lv_at hl 0 rfl) ?_
  refine lv_iload_n hx hb d_D_reserved_2 rfl (lv_at hl 1 rfl) ?_
  obtain ⟨r1, hc, hm⟩ := bd hm
  try dsimp only at hm
  refine vp_callSi (W.runV (As := [.int x1]) (rest := [.ref dq]) ⟨hx, hb, hml, hown, hts⟩ (c_D_isPiece l dC dI cI cZ cJ dq dq8 dq9 dq10 dq11 dq12 dq13 dq14 dq15 dq18 dq19 dq20 d_thrown d_today d_cut d_aging d_saleFrom d_pieces d_orders d_piece d_order d_came d_worth d_used d_usedBy d_reservedFor d_reservedTo d_ran d_sum d_pieceDual d_orderDual d_table x1 N r1 hc) (cwV 1 hts (gV (w0 681 rfl) (w0 682 rfl) (w0 19 rfl) (w0 33 rfl) (w0 683 rfl)) rfl rfl rfl q_D_isPiece ⟨Nat.le_of_ble_eq_true rfl, Nat.le_of_ble_eq_true rfl⟩) (ro_preV [0, 1, 2, 3, 4, 5, 6, 7, 8, 9, 10, 11] rfl hK hP hN 5 0 (R_D, F_D, 20) rfl rfl) rfl rfl hl.1 rfl (lv_room (Nat.le_of_ble_eq_true rfl)) d_D_reserved_3 ⟨Nat.le_of_ble_eq_true rfl, Nat.le_of_ble_eq_true rfl⟩) (fun r9 hr9 => ?_)
  subst hr9
  refine lv_iconst (v := 1) hx hb d_D_reserved_6 (by decide) ?_
  refine lv_iconst (v := 1) hx hb d_D_reserved_7 (by decide) ?_
  refine lv_iconst (v := 1) hx hb d_D_reserved_8 (by decide) ?_
  obtain ⟨⟨r2, u3⟩, hc, hm⟩ := bd hm
  try dsimp only at hm
  have hPc := hP.sub (ws' := [(dq, .inr (5, [.int d_thrown, .int d_today, .int d_cut, .int d_aging, .int d_saleFrom, .int d_pieces, .int d_orders, .ref dq8, .ref dq9, .ref dq10, .ref dq11, .ref dq12, .ref dq13, .ref dq14, .ref dq15, .int d_ran, .int d_sum, .ref dq18, .ref dq19, .ref dq20])), (dq8, .inl (cI, 40, .inl d_piece)), (dq9, .inl (cI, 40, .inl d_order)), (dq10, .inl (cI, 10, .inl d_came)), (dq11, .inl (cI, 100, .inl d_worth)), (dq12, .inl (cZ, 10, .inl d_used)), (dq13, .inl (cI, 10, .inl d_usedBy)), (dq14, .inl (cI, 10, .inl d_reservedFor)), (dq15, .inl (cI, 10, .inl d_reservedTo)), (dq18, .inl (cI, 10, .inl d_pieceDual)), (dq19, .inl (cI, 10, .inl d_orderDual)), (dq20, .inl (cJ, 11264, .inr (.inl d_table)))]) [0, 1, 2, 3, 4, 5, 6, 7, 8, 9, 10, 11] rfl
  have hDc := hD.sub (ws' := [(dq, .inr (5, [.int d_thrown, .int d_today, .int d_cut, .int d_aging, .int d_saleFrom, .int d_pieces, .int d_orders, .ref dq8, .ref dq9, .ref dq10, .ref dq11, .ref dq12, .ref dq13, .ref dq14, .ref dq15, .int d_ran, .int d_sum, .ref dq18, .ref dq19, .ref dq20])), (dq8, .inl (cI, 40, .inl d_piece)), (dq9, .inl (cI, 40, .inl d_order)), (dq10, .inl (cI, 10, .inl d_came)), (dq11, .inl (cI, 100, .inl d_worth)), (dq12, .inl (cZ, 10, .inl d_used)), (dq13, .inl (cI, 10, .inl d_usedBy)), (dq14, .inl (cI, 10, .inl d_reservedFor)), (dq15, .inl (cI, 10, .inl d_reservedTo)), (dq18, .inl (cI, 10, .inl d_pieceDual)), (dq19, .inl (cI, 10, .inl d_orderDual)), (dq20, .inl (cJ, 11264, .inr (.inl d_table)))]) [0, 1, 2, 3, 4, 5, 6, 7, 8, 9, 10, 11] (by decide) rfl
  have hFc := va_free (wc := [(dq, .inr (5, [.int d_thrown, .int d_today, .int d_cut, .int d_aging, .int d_saleFrom, .int d_pieces, .int d_orders, .ref dq8, .ref dq9, .ref dq10, .ref dq11, .ref dq12, .ref dq13, .ref dq14, .ref dq15, .int d_ran, .int d_sum, .ref dq18, .ref dq19, .ref dq20])), (dq8, .inl (cI, 40, .inl d_piece)), (dq9, .inl (cI, 40, .inl d_order)), (dq10, .inl (cI, 10, .inl d_came)), (dq11, .inl (cI, 100, .inl d_worth)), (dq12, .inl (cZ, 10, .inl d_used)), (dq13, .inl (cI, 10, .inl d_usedBy)), (dq14, .inl (cI, 10, .inl d_reservedFor)), (dq15, .inl (cI, 10, .inl d_reservedTo)), (dq18, .inl (cI, 10, .inl d_pieceDual)), (dq19, .inl (cI, 10, .inl d_orderDual)), (dq20, .inl (cJ, 11264, .inr (.inl d_table)))]) hD hS hA [0, 1, 2, 3, 4, 5, 6, 7, 8, 9, 10, 11] rfl
  refine va_calli (va_runV (As := [.int r1, .int 1, .int 1, .int 1]) (rest := []) ⟨hx, hb, hml, hown, hts⟩ (c_D_goes l dC dI cI cZ cJ dq dq8 dq9 dq10 dq11 dq12 dq13 dq14 dq15 dq18 dq19 dq20 s.heap.size d_thrown d_today d_cut d_aging d_saleFrom d_pieces d_orders d_piece d_order d_came d_worth d_used d_usedBy d_reservedFor d_reservedTo d_ran d_sum d_pieceDual d_orderDual d_table r1 1 1 1 N (r2, u3) hc) (cwV 4 hts (gV (w0 670 rfl) (w0 671 rfl) (w0 18 rfl) (w0 33 rfl) (w0 672 rfl)) rfl rfl rfl q_D_goes ⟨Nat.le_of_ble_eq_true rfl, Nat.le_of_ble_eq_true rfl⟩) (wr_preV hK hPc hDc hN 5 0 (R_D, F_D, 20) rfl rfl) rfl rfl hl.1 rfl (lv_room (Nat.le_of_ble_eq_true rfl)) d_D_reserved_9 ⟨Nat.le_of_ble_eq_true rfl, Nat.le_of_ble_eq_true rfl⟩) hS (fun q _ h => hFc q h) hFc (fun r9 u t H1 locs ht hvm hw hB hz1 hk1 hS => ?_)
  subst hw
  obtain ⟨hP1, hK1, hD1⟩ := hB
  rw [ht] at hP1
  obtain ⟨hP, hD⟩ := va_join (wr := []) (w1 := [(dq, .inr (5, [.int u3, .int d_today, .int d_cut, .int d_aging, .int d_saleFrom, .int d_pieces, .int d_orders, .ref dq8, .ref dq9, .ref dq10, .ref dq11, .ref dq12, .ref dq13, .ref dq14, .ref dq15, .int d_ran, .int d_sum, .ref dq18, .ref dq19, .ref dq20])), (dq8, .inl (cI, 40, .inl d_piece)), (dq9, .inl (cI, 40, .inl d_order)), (dq10, .inl (cI, 10, .inl d_came)), (dq11, .inl (cI, 100, .inl d_worth)), (dq12, .inl (cZ, 10, .inl d_used)), (dq13, .inl (cI, 10, .inl d_usedBy)), (dq14, .inl (cI, 10, .inl d_reservedFor)), (dq15, .inl (cI, 10, .inl d_reservedTo)), (dq18, .inl (cI, 10, .inl d_pieceDual)), (dq19, .inl (cI, 10, .inl d_orderDual)), (dq20, .inl (cJ, 11264, .inr (.inl d_table)))]) hP hD [0, 1, 2, 3, 4, 5, 6, 7, 8, 9, 10, 11] [] rfl rfl (by decide) (by decide) hk1 hFc hP1 hD1
  generalize H1 = H at hP hS ⊢
  have hP : va_P (dC, dI) classes [(dq, .inr (5, [.int u3, .int d_today, .int d_cut, .int d_aging, .int d_saleFrom, .int d_pieces, .int d_orders, .ref dq8, .ref dq9, .ref dq10, .ref dq11, .ref dq12, .ref dq13, .ref dq14, .ref dq15, .int d_ran, .int d_sum, .ref dq18, .ref dq19, .ref dq20])), (dq8, .inl (cI, 40, .inl d_piece)), (dq9, .inl (cI, 40, .inl d_order)), (dq10, .inl (cI, 10, .inl d_came)), (dq11, .inl (cI, 100, .inl d_worth)), (dq12, .inl (cZ, 10, .inl d_used)), (dq13, .inl (cI, 10, .inl d_usedBy)), (dq14, .inl (cI, 10, .inl d_reservedFor)), (dq15, .inl (cI, 10, .inl d_reservedTo)), (dq18, .inl (cI, 10, .inl d_pieceDual)), (dq19, .inl (cI, 10, .inl d_orderDual)), (dq20, .inl (cJ, 11264, .inr (.inl d_table)))] H := hP
  have hD : va_D A [(dq, .inr (5, [.int u3, .int d_today, .int d_cut, .int d_aging, .int d_saleFrom, .int d_pieces, .int d_orders, .ref dq8, .ref dq9, .ref dq10, .ref dq11, .ref dq12, .ref dq13, .ref dq14, .ref dq15, .int d_ran, .int d_sum, .ref dq18, .ref dq19, .ref dq20])), (dq8, .inl (cI, 40, .inl d_piece)), (dq9, .inl (cI, 40, .inl d_order)), (dq10, .inl (cI, 10, .inl d_came)), (dq11, .inl (cI, 100, .inl d_worth)), (dq12, .inl (cZ, 10, .inl d_used)), (dq13, .inl (cI, 10, .inl d_usedBy)), (dq14, .inl (cI, 10, .inl d_reservedFor)), (dq15, .inl (cI, 10, .inl d_reservedTo)), (dq18, .inl (cI, 10, .inl d_pieceDual)), (dq19, .inl (cI, 10, .inl d_orderDual)), (dq20, .inl (cJ, 11264, .inr (.inl d_table)))] := hD
  clear hP1 hD1 hPc hDc hFc hk1 hz1
  refine lv_if_ne (tgt := 17) hx hb d_D_reserved_12 (by decide) (fun c9 => ?_) (fun c9 => ?_)
  · replace hm := if_f c9 hm
    refine lv_aload_n hx hb d_D_reserved_17 rfl (lv_at hl 0 rfl) ?_
    refine lv_iload_n hx hb d_D_reserved_18 rfl (lv_at hl 1 rfl) ?_
    obtain ⟨r4, hc, hm⟩ := bd hm
    try dsimp only at hm
    refine vp_callSi (W.runV (As := [.int x1]) (rest := []) ⟨hx, hb, hml, hown, hts⟩ (c_D_reservation l dC dI cI cZ cJ dq dq8 dq9 dq10 dq11 dq12 dq13 dq14 dq15 dq18 dq19 dq20 u3 d_today d_cut d_aging d_saleFrom d_pieces d_orders d_piece d_order d_came d_worth d_used d_usedBy d_reservedFor d_reservedTo d_ran d_sum d_pieceDual d_orderDual d_table x1 N r4 hc) (cwV 1 hts (gV (w0 716 rfl) (w0 717 rfl) (w0 25 rfl) (w0 33 rfl) (w0 718 rfl)) rfl rfl rfl q_D_reservation ⟨Nat.le_of_ble_eq_true rfl, Nat.le_of_ble_eq_true rfl⟩) (ro_preV [0, 1, 2, 3, 4, 5, 6, 7, 8, 9, 10, 11] rfl hK hP hN 5 0 (R_D, F_D, 20) rfl rfl) rfl rfl hl.1 rfl (lv_room (Nat.le_of_ble_eq_true rfl)) d_D_reserved_19 ⟨Nat.le_of_ble_eq_true rfl, Nat.le_of_ble_eq_true rfl⟩) (fun r9 hr9 => ?_)
    subst hr9
    cases hm
    refine W.widen (k := 0) (n := 0) (Nat.le_of_ble_eq_true rfl) (Nat.le_of_ble_eq_true rfl) ?_
    exact W.iret hx hb hr (fun t ht hW => ⟨⟨_, (), rfl, rfl, by rw [ht]; exact hP, va_K.moved hW.alike hK, hD⟩, hS.F ht⟩) hS.2.2 d_D_reserved_22
  · replace hm := if_t c9 hm
    refine lv_iconst (v := 0) hx hb d_D_reserved_15 (by decide) ?_
    cases hm
    refine W.widen (k := 0) (n := 0) (Nat.le_of_ble_eq_true rfl) (Nat.le_of_ble_eq_true rfl) ?_
    exact W.iret hx hb hr (fun t ht hW => ⟨⟨_, (), rfl, rfl, by rw [ht]; exact hP, va_K.moved hW.alike hK, hD⟩, hS.F ht⟩) hS.2.2 d_D_reserved_16

def w_D_undo : List Cond := .code y_D_undo b_D_undo 3 none :: W0
theorem q_D_undo : y_D_undo.cls = R_D ∧ y_D_undo.cls ≠ "java/lang/invoke/MethodHandle" ∧ y_D_undo.cls ≠ "java/lang/invoke/VarHandle" ∧ (parseMethodDescriptor y_D_undo.desc).map (fun d => d.parameters.length) = some 1 := by decide +kernel
def L_D_undo_46 (N : Nat) (d_orders : Int32) (K : Int32 → Int32 → Int32 → (Nat → Int32) → (Nat → Int32) → Option (Int32 × (Nat → Int32) × (Nat → Int32))) : Nat → Int32 → Int32 → Int32 → (Nat → Int32) → (Nat → Int32) → Option (Int32 × (Nat → Int32) × (Nat → Int32))
  | 0, _, _, _, _, _ => none
  | n + 1, y1a, y2a, d_throwna, d_useda, d_usedBya =>
    (if d_orders ≤ y2a then
    K y1a y2a d_throwna d_useda d_usedBya
   else
    (if y2a < 0 ∨ 10 ≤ y2a.toNatClampNeg then none else
    (if (d_usedBya y2a.toNatClampNeg) = y1a then
      (if y2a < 0 ∨ 10 ≤ y2a.toNatClampNeg then none else
      L_D_undo_46 N d_orders K n y1a (y2a + 1) d_throwna d_useda (upd d_usedBya y2a.toNatClampNeg (-1)))
     else
      L_D_undo_46 N d_orders K n y1a (y2a + 1) d_throwna d_useda d_usedBya)))
def m_D_undo (N : Nat) (d_pieces : Int32) (d_orders : Int32) (d_used : Nat → Int32) (d_usedBy : Nat → Int32) (x1 : Int32) : Option (Int32 × (Nat → Int32) × (Nat → Int32)) :=
  ((m_D_isPiece d_pieces x1).bind fun r1 =>
  ((m_D_isPiece d_pieces x1).bind fun r2 =>
    (if r2 = 0 then
      ((m_D_goes r1 0 1 1).bind fun (r3, u4) =>
        (if r3 = 0 then
          some (u4, d_used, d_usedBy)
         else
          (if x1 < 0 ∨ 10 ≤ x1.toNatClampNeg then none else
          L_D_undo_46 N d_orders (fun y1a y2a d_throwna d_useda d_usedBya =>
            some (d_throwna, d_useda, d_usedBya)) N x1 0 u4 (upd d_used x1.toNatClampNeg (vp_nar .boolean 0)) d_usedBy)))
     else
      (if x1 < 0 ∨ 10 ≤ x1.toNatClampNeg then none else
      (if (d_used x1.toNatClampNeg) = 0 then
        ((m_D_goes r1 0 1 1).bind fun (r6, u7) =>
          (if r6 = 0 then
            some (u7, d_used, d_usedBy)
           else
            (if x1 < 0 ∨ 10 ≤ x1.toNatClampNeg then none else
            L_D_undo_46 N d_orders (fun y1a y2a d_throwna d_useda d_usedBya =>
              some (d_throwna, d_useda, d_usedBya)) N x1 0 u7 (upd d_used x1.toNatClampNeg (vp_nar .boolean 0)) d_usedBy)))
       else
        ((m_D_goes r1 1 1 1).bind fun (r9, u10) =>
          (if r9 = 0 then
            some (u10, d_used, d_usedBy)
           else
            (if x1 < 0 ∨ 10 ≤ x1.toNatClampNeg then none else
            L_D_undo_46 N d_orders (fun y1a y2a d_throwna d_useda d_usedBya =>
              some (d_throwna, d_useda, d_usedBya)) N x1 0 u10 (upd d_used x1.toNatClampNeg (vp_nar .boolean 0)) d_usedBy))))))))
set_option maxHeartbeats 4000000 in
set_option maxRecDepth 100000 in
theorem c_D_undo (l : Launch) (dC : Nat → ClassId) (dI : Nat → Nat → Nat) (cI cZ cJ : ClassId) (dq dq8 dq9 dq10 dq11 dq12 dq13 dq14 dq15 dq18 dq19 dq20 : Nat) (sz : Nat) (d_thrown : Int32) (d_today : Int32) (d_cut : Int32) (d_aging : Int32) (d_saleFrom : Int32) (d_pieces : Int32) (d_orders : Int32) (d_piece : Nat → Int32) (d_order : Nat → Int32) (d_came : Nat → Int32) (d_worth : Nat → Int32) (d_used : Nat → Int32) (d_usedBy : Nat → Int32) (d_reservedFor : Nat → Int32) (d_reservedTo : Nat → Int32) (d_ran : Int32) (d_sum : Int32) (d_pieceDual : Nat → Int32) (d_orderDual : Nat → Int32) (d_table : Nat → Int64) (x1 : Int32) (N : Nat) (res : Int32 × (Nat → Int32) × (Nat → Int32)) (hm : m_D_undo N d_pieces d_orders d_used d_usedBy x1 = some res) : Met l y_D_undo w_D_undo ({ frames := 2, cells := 0, slots := 0, locals := 43 } : Room) (va_Pc [.ref dq, .int x1] (fun U => U.heap.size = sz ∧ va_P (dC, dI) classes [(dq, .inr (5, [.int d_thrown, .int d_today, .int d_cut, .int d_aging, .int d_saleFrom, .int d_pieces, .int d_orders, .ref dq8, .ref dq9, .ref dq10, .ref dq11, .ref dq12, .ref dq13, .ref dq14, .ref dq15, .int d_ran, .int d_sum, .ref dq18, .ref dq19, .ref dq20])), (dq8, .inl (cI, 40, .inl d_piece)), (dq9, .inl (cI, 40, .inl d_order)), (dq10, .inl (cI, 10, .inl d_came)), (dq11, .inl (cI, 100, .inl d_worth)), (dq12, .inl (cZ, 10, .inl d_used)), (dq13, .inl (cI, 10, .inl d_usedBy)), (dq14, .inl (cI, 10, .inl d_reservedFor)), (dq15, .inl (cI, 10, .inl d_reservedTo)), (dq18, .inl (cI, 10, .inl d_pieceDual)), (dq19, .inl (cI, 10, .inl d_orderDual)), (dq20, .inl (cJ, 11264, .inr (.inl d_table)))] U.heap ∧ va_K (dC, dI) classes [(cI, .int), (cZ, .boolean), (cJ, .long)] U ∧ va_D (fun _ => True) [(dq, .inr (5, [.int d_thrown, .int d_today, .int d_cut, .int d_aging, .int d_saleFrom, .int d_pieces, .int d_orders, .ref dq8, .ref dq9, .ref dq10, .ref dq11, .ref dq12, .ref dq13, .ref dq14, .ref dq15, .int d_ran, .int d_sum, .ref dq18, .ref dq19, .ref dq20])), (dq8, .inl (cI, 40, .inl d_piece)), (dq9, .inl (cI, 40, .inl d_order)), (dq10, .inl (cI, 10, .inl d_came)), (dq11, .inl (cI, 100, .inl d_worth)), (dq12, .inl (cZ, 10, .inl d_used)), (dq13, .inl (cI, 10, .inl d_usedBy)), (dq14, .inl (cI, 10, .inl d_reservedFor)), (dq15, .inl (cI, 10, .inl d_reservedTo)), (dq18, .inl (cI, 10, .inl d_pieceDual)), (dq19, .inl (cI, 10, .inl d_orderDual)), (dq20, .inl (cJ, 11264, .inr (.inl d_table)))] ∧ nw U)) (va_Qv (fun _ : Unit => True) (fun _ t => va_P (dC, dI) classes [(dq, .inr (5, [.int res.1, .int d_today, .int d_cut, .int d_aging, .int d_saleFrom, .int d_pieces, .int d_orders, .ref dq8, .ref dq9, .ref dq10, .ref dq11, .ref dq12, .ref dq13, .ref dq14, .ref dq15, .int d_ran, .int d_sum, .ref dq18, .ref dq19, .ref dq20])), (dq8, .inl (cI, 40, .inl d_piece)), (dq9, .inl (cI, 40, .inl d_order)), (dq10, .inl (cI, 10, .inl d_came)), (dq11, .inl (cI, 100, .inl d_worth)), (dq12, .inl (cZ, 10, .inl res.2.1)), (dq13, .inl (cI, 10, .inl res.2.2)), (dq14, .inl (cI, 10, .inl d_reservedFor)), (dq15, .inl (cI, 10, .inl d_reservedTo)), (dq18, .inl (cI, 10, .inl d_pieceDual)), (dq19, .inl (cI, 10, .inl d_orderDual)), (dq20, .inl (cJ, 11264, .inr (.inl d_table)))] t.heap ∧ va_K (dC, dI) classes [(cI, .int), (cZ, .boolean), (cJ, .long)] t ∧ va_D (va_A [(dq, .inr (5, [.int d_thrown, .int d_today, .int d_cut, .int d_aging, .int d_saleFrom, .int d_pieces, .int d_orders, .ref dq8, .ref dq9, .ref dq10, .ref dq11, .ref dq12, .ref dq13, .ref dq14, .ref dq15, .int d_ran, .int d_sum, .ref dq18, .ref dq19, .ref dq20])), (dq8, .inl (cI, 40, .inl d_piece)), (dq9, .inl (cI, 40, .inl d_order)), (dq10, .inl (cI, 10, .inl d_came)), (dq11, .inl (cI, 100, .inl d_worth)), (dq12, .inl (cZ, 10, .inl d_used)), (dq13, .inl (cI, 10, .inl d_usedBy)), (dq14, .inl (cI, 10, .inl d_reservedFor)), (dq15, .inl (cI, 10, .inl d_reservedTo)), (dq18, .inl (cI, 10, .inl d_pieceDual)), (dq19, .inl (cI, 10, .inl d_orderDual)), (dq20, .inl (cJ, 11264, .inr (.inl d_table)))] sz) [(dq, .inr (5, [.int res.1, .int d_today, .int d_cut, .int d_aging, .int d_saleFrom, .int d_pieces, .int d_orders, .ref dq8, .ref dq9, .ref dq10, .ref dq11, .ref dq12, .ref dq13, .ref dq14, .ref dq15, .int d_ran, .int d_sum, .ref dq18, .ref dq19, .ref dq20])), (dq8, .inl (cI, 40, .inl d_piece)), (dq9, .inl (cI, 40, .inl d_order)), (dq10, .inl (cI, 10, .inl d_came)), (dq11, .inl (cI, 100, .inl d_worth)), (dq12, .inl (cZ, 10, .inl res.2.1)), (dq13, .inl (cI, 10, .inl res.2.2)), (dq14, .inl (cI, 10, .inl d_reservedFor)), (dq15, .inl (cI, 10, .inl d_reservedTo)), (dq18, .inl (cI, 10, .inl d_pieceDual)), (dq19, .inl (cI, 10, .inl d_orderDual)), (dq20, .inl (cJ, 11264, .inr (.inl d_table)))]) (va_A [(dq, .inr (5, [.int d_thrown, .int d_today, .int d_cut, .int d_aging, .int d_saleFrom, .int d_pieces, .int d_orders, .ref dq8, .ref dq9, .ref dq10, .ref dq11, .ref dq12, .ref dq13, .ref dq14, .ref dq15, .int d_ran, .int d_sum, .ref dq18, .ref dq19, .ref dq20])), (dq8, .inl (cI, 40, .inl d_piece)), (dq9, .inl (cI, 40, .inl d_order)), (dq10, .inl (cI, 10, .inl d_came)), (dq11, .inl (cI, 100, .inl d_worth)), (dq12, .inl (cZ, 10, .inl d_used)), (dq13, .inl (cI, 10, .inl d_usedBy)), (dq14, .inl (cI, 10, .inl d_reservedFor)), (dq15, .inl (cI, 10, .inl d_reservedTo)), (dq18, .inl (cI, 10, .inl d_pieceDual)), (dq19, .inl (cI, 10, .inl d_orderDual)), (dq20, .inl (cJ, 11264, .inr (.inl d_table)))] sz)) 0 0 (va_A [(dq, .inr (5, [.int d_thrown, .int d_today, .int d_cut, .int d_aging, .int d_saleFrom, .int d_pieces, .int d_orders, .ref dq8, .ref dq9, .ref dq10, .ref dq11, .ref dq12, .ref dq13, .ref dq14, .ref dq15, .int d_ran, .int d_sum, .ref dq18, .ref dq19, .ref dq20])), (dq8, .inl (cI, 40, .inl d_piece)), (dq9, .inl (cI, 40, .inl d_order)), (dq10, .inl (cI, 10, .inl d_came)), (dq11, .inl (cI, 100, .inl d_worth)), (dq12, .inl (cZ, 10, .inl d_used)), (dq13, .inl (cI, 10, .inl d_usedBy)), (dq14, .inl (cI, 10, .inl d_reservedFor)), (dq15, .inl (cI, 10, .inl d_reservedTo)), (dq18, .inl (cI, 10, .inl d_pieceDual)), (dq19, .inl (cI, 10, .inl d_orderDual)), (dq20, .inl (cJ, 11264, .inr (.inl d_table)))] sz) := by
  unfold m_D_undo at hm
  refine Met.ofW (cc := b_D_undo) (maxL := 3) (ret := none) (by decide) rfl ?_
  intro p e s m args below meth c s₁ B hml hv
  obtain ⟨rfl, hsz, hP, hK, hD0, hN⟩ := hv
  have hx := B.exec
  have hb := B.bytes
  have hr := B.returns
  have hts := atoms_spec (ws := w_D_undo) B.pre
  have hown : s.vm.findClass R_D = some m.cls := findClass_of_methodNamed B.named
  have hlocks := B.notSynchronized
  subst hsz
  have hD := hD0.self (sz := s.heap.size)
  generalize hAe : va_A [(dq, .inr (5, [.int d_thrown, .int d_today, .int d_cut, .int d_aging, .int d_saleFrom, .int d_pieces, .int d_orders, .ref dq8, .ref dq9, .ref dq10, .ref dq11, .ref dq12, .ref dq13, .ref dq14, .ref dq15, .int d_ran, .int d_sum, .ref dq18, .ref dq19, .ref dq20])), (dq8, .inl (cI, 40, .inl d_piece)), (dq9, .inl (cI, 40, .inl d_order)), (dq10, .inl (cI, 10, .inl d_came)), (dq11, .inl (cI, 100, .inl d_worth)), (dq12, .inl (cZ, 10, .inl d_used)), (dq13, .inl (cI, 10, .inl d_usedBy)), (dq14, .inl (cI, 10, .inl d_reservedFor)), (dq15, .inl (cI, 10, .inl d_reservedTo)), (dq18, .inl (cI, 10, .inl d_pieceDual)), (dq19, .inl (cI, 10, .inl d_orderDual)), (dq20, .inl (cJ, 11264, .inr (.inl d_table)))] s.heap.size = A at hD ⊢
  have hA : ∀ q : Nat, s.heap.size ≤ q → A q := fun q h => by rw [← hAe]; exact Or.inr h
  have hS : va_S A s.heap s.heap [] := va_S.rf
  have hk0 := hts (.fieldLink R_D 26 "SurplusMatchModel" "used" "[Z") (List.mem_cons_of_mem _ (w0 604 rfl))
  have hk1 : ∀ w ∈ w_D, w ∈ w_D_undo := fun w h => List.mem_cons_of_mem _ (i_D w h)
  have hk2 := hts (.fieldLink R_D 59 "SurplusMatchModel" "orders" "I") (List.mem_cons_of_mem _ (w0 599 rfl))
  have hk3 := hts (.fieldLink R_D 30 "SurplusMatchModel" "usedBy" "[I") (List.mem_cons_of_mem _ (w0 605 rfl))
  have hl := lv_entry ([.ref dq, .int x1]) (n := 3) (Nat.le_of_ble_eq_true rfl)
  rw [lg_entry_eq]
  generalize (lg_sl ([.ref dq, .int x1]) ++ List.replicate (3 - (lg_sl ([.ref dq, .int x1])).length) Slot.unset).toArray = ls at hl ⊢
  have hl : lv_has ls 3 [(0, .ref dq), (1, .int x1)] := hl
  refine lv_aload_n hx hb d_D_undo_0 rfl (lv_at hl 0 rfl) ?_
  refine lv_aload_n hx hb d_D_undo_1 rfl (lv_at hl 0 rfl) ?_
  refine lv_iload_n hx hb d_D_undo_2 rfl (lv_at hl 1 rfl) ?_
  obtain ⟨r1, hc, hm⟩ := bd hm
  try dsimp only at hm
  refine vp_callSi (W.runV (As := [.int x1]) (rest := [.ref dq]) ⟨hx, hb, hml, hown, hts⟩ (c_D_isPiece l dC dI cI cZ cJ dq dq8 dq9 dq10 dq11 dq12 dq13 dq14 dq15 dq18 dq19 dq20 d_thrown d_today d_cut d_aging d_saleFrom d_pieces d_orders d_piece d_order d_came d_worth d_used d_usedBy d_reservedFor d_reservedTo d_ran d_sum d_pieceDual d_orderDual d_table x1 N r1 hc) (cwV 1 hts (gV (w0 681 rfl) (w0 682 rfl) (w0 19 rfl) (w0 33 rfl) (w0 683 rfl)) rfl rfl rfl q_D_isPiece ⟨Nat.le_of_ble_eq_true rfl, Nat.le_of_ble_eq_true rfl⟩) (ro_preV [0, 1, 2, 3, 4, 5, 6, 7, 8, 9, 10, 11] rfl hK hP hN 5 0 (R_D, F_D, 20) rfl rfl) rfl rfl hl.1 rfl (lv_room (Nat.le_of_ble_eq_true rfl)) d_D_undo_3 ⟨Nat.le_of_ble_eq_true rfl, Nat.le_of_ble_eq_true rfl⟩) (fun r9 hr9 => ?_)
  subst hr9
  refine lv_aload_n hx hb d_D_undo_6 rfl (lv_at hl 0 rfl) ?_
  refine lv_iload_n hx hb d_D_undo_7 rfl (lv_at hl 1 rfl) ?_
  obtain ⟨r2, hc, hm⟩ := bd hm
  try dsimp only at hm
  refine vp_callSi (W.runV (As := [.int x1]) (rest := [.int r1, .ref dq]) ⟨hx, hb, hml, hown, hts⟩ (c_D_isPiece l dC dI cI cZ cJ dq dq8 dq9 dq10 dq11 dq12 dq13 dq14 dq15 dq18 dq19 dq20 d_thrown d_today d_cut d_aging d_saleFrom d_pieces d_orders d_piece d_order d_came d_worth d_used d_usedBy d_reservedFor d_reservedTo d_ran d_sum d_pieceDual d_orderDual d_table x1 N r2 hc) (cwV 1 hts (gV (w0 681 rfl) (w0 682 rfl) (w0 19 rfl) (w0 33 rfl) (w0 683 rfl)) rfl rfl rfl q_D_isPiece ⟨Nat.le_of_ble_eq_true rfl, Nat.le_of_ble_eq_true rfl⟩) (ro_preV [0, 1, 2, 3, 4, 5, 6, 7, 8, 9, 10, 11] rfl hK hP hN 5 0 (R_D, F_D, 20) rfl rfl) rfl rfl hl.1 rfl (lv_room (Nat.le_of_ble_eq_true rfl)) d_D_undo_8 ⟨Nat.le_of_ble_eq_true rfl, Nat.le_of_ble_eq_true rfl⟩) (fun r9 hr9 => ?_)
  subst hr9
  refine lv_if_eq (tgt := 27) hx hb d_D_undo_11 (by decide) (fun c9 => ?_) (fun c9 => ?_)
  · replace hm := if_t c9 hm
    refine lv_iconst (v := 0) hx hb d_D_undo_27 (by decide) ?_
    refine lv_iconst (v := 1) hx hb d_D_undo_28 (by decide) ?_
    refine lv_iconst (v := 1) hx hb d_D_undo_29 (by decide) ?_
    obtain ⟨⟨r3, u4⟩, hc, hm⟩ := bd hm
    try dsimp only at hm
    have hPc := hP.sub (ws' := [(dq, .inr (5, [.int d_thrown, .int d_today, .int d_cut, .int d_aging, .int d_saleFrom, .int d_pieces, .int d_orders, .ref dq8, .ref dq9, .ref dq10, .ref dq11, .ref dq12, .ref dq13, .ref dq14, .ref dq15, .int d_ran, .int d_sum, .ref dq18, .ref dq19, .ref dq20])), (dq8, .inl (cI, 40, .inl d_piece)), (dq9, .inl (cI, 40, .inl d_order)), (dq10, .inl (cI, 10, .inl d_came)), (dq11, .inl (cI, 100, .inl d_worth)), (dq12, .inl (cZ, 10, .inl d_used)), (dq13, .inl (cI, 10, .inl d_usedBy)), (dq14, .inl (cI, 10, .inl d_reservedFor)), (dq15, .inl (cI, 10, .inl d_reservedTo)), (dq18, .inl (cI, 10, .inl d_pieceDual)), (dq19, .inl (cI, 10, .inl d_orderDual)), (dq20, .inl (cJ, 11264, .inr (.inl d_table)))]) [0, 1, 2, 3, 4, 5, 6, 7, 8, 9, 10, 11] rfl
    have hDc := hD.sub (ws' := [(dq, .inr (5, [.int d_thrown, .int d_today, .int d_cut, .int d_aging, .int d_saleFrom, .int d_pieces, .int d_orders, .ref dq8, .ref dq9, .ref dq10, .ref dq11, .ref dq12, .ref dq13, .ref dq14, .ref dq15, .int d_ran, .int d_sum, .ref dq18, .ref dq19, .ref dq20])), (dq8, .inl (cI, 40, .inl d_piece)), (dq9, .inl (cI, 40, .inl d_order)), (dq10, .inl (cI, 10, .inl d_came)), (dq11, .inl (cI, 100, .inl d_worth)), (dq12, .inl (cZ, 10, .inl d_used)), (dq13, .inl (cI, 10, .inl d_usedBy)), (dq14, .inl (cI, 10, .inl d_reservedFor)), (dq15, .inl (cI, 10, .inl d_reservedTo)), (dq18, .inl (cI, 10, .inl d_pieceDual)), (dq19, .inl (cI, 10, .inl d_orderDual)), (dq20, .inl (cJ, 11264, .inr (.inl d_table)))]) [0, 1, 2, 3, 4, 5, 6, 7, 8, 9, 10, 11] (by decide) rfl
    have hFc := va_free (wc := [(dq, .inr (5, [.int d_thrown, .int d_today, .int d_cut, .int d_aging, .int d_saleFrom, .int d_pieces, .int d_orders, .ref dq8, .ref dq9, .ref dq10, .ref dq11, .ref dq12, .ref dq13, .ref dq14, .ref dq15, .int d_ran, .int d_sum, .ref dq18, .ref dq19, .ref dq20])), (dq8, .inl (cI, 40, .inl d_piece)), (dq9, .inl (cI, 40, .inl d_order)), (dq10, .inl (cI, 10, .inl d_came)), (dq11, .inl (cI, 100, .inl d_worth)), (dq12, .inl (cZ, 10, .inl d_used)), (dq13, .inl (cI, 10, .inl d_usedBy)), (dq14, .inl (cI, 10, .inl d_reservedFor)), (dq15, .inl (cI, 10, .inl d_reservedTo)), (dq18, .inl (cI, 10, .inl d_pieceDual)), (dq19, .inl (cI, 10, .inl d_orderDual)), (dq20, .inl (cJ, 11264, .inr (.inl d_table)))]) hD hS hA [0, 1, 2, 3, 4, 5, 6, 7, 8, 9, 10, 11] rfl
    refine va_calli (va_runV (As := [.int r1, .int 0, .int 1, .int 1]) (rest := []) ⟨hx, hb, hml, hown, hts⟩ (c_D_goes l dC dI cI cZ cJ dq dq8 dq9 dq10 dq11 dq12 dq13 dq14 dq15 dq18 dq19 dq20 s.heap.size d_thrown d_today d_cut d_aging d_saleFrom d_pieces d_orders d_piece d_order d_came d_worth d_used d_usedBy d_reservedFor d_reservedTo d_ran d_sum d_pieceDual d_orderDual d_table r1 0 1 1 N (r3, u4) hc) (cwV 4 hts (gV (w0 670 rfl) (w0 671 rfl) (w0 18 rfl) (w0 33 rfl) (w0 672 rfl)) rfl rfl rfl q_D_goes ⟨Nat.le_of_ble_eq_true rfl, Nat.le_of_ble_eq_true rfl⟩) (wr_preV hK hPc hDc hN 5 0 (R_D, F_D, 20) rfl rfl) rfl rfl hl.1 rfl (lv_room (Nat.le_of_ble_eq_true rfl)) d_D_undo_30 ⟨Nat.le_of_ble_eq_true rfl, Nat.le_of_ble_eq_true rfl⟩) hS (fun q _ h => hFc q h) hFc (fun r9 u t H1 locs ht hvm hw hB hz1 hk1 hS => ?_)
    subst hw
    obtain ⟨hP1, hK1, hD1⟩ := hB
    rw [ht] at hP1
    obtain ⟨hP, hD⟩ := va_join (wr := []) (w1 := [(dq, .inr (5, [.int u4, .int d_today, .int d_cut, .int d_aging, .int d_saleFrom, .int d_pieces, .int d_orders, .ref dq8, .ref dq9, .ref dq10, .ref dq11, .ref dq12, .ref dq13, .ref dq14, .ref dq15, .int d_ran, .int d_sum, .ref dq18, .ref dq19, .ref dq20])), (dq8, .inl (cI, 40, .inl d_piece)), (dq9, .inl (cI, 40, .inl d_order)), (dq10, .inl (cI, 10, .inl d_came)), (dq11, .inl (cI, 100, .inl d_worth)), (dq12, .inl (cZ, 10, .inl d_used)), (dq13, .inl (cI, 10, .inl d_usedBy)), (dq14, .inl (cI, 10, .inl d_reservedFor)), (dq15, .inl (cI, 10, .inl d_reservedTo)), (dq18, .inl (cI, 10, .inl d_pieceDual)), (dq19, .inl (cI, 10, .inl d_orderDual)), (dq20, .inl (cJ, 11264, .inr (.inl d_table)))]) hP hD [0, 1, 2, 3, 4, 5, 6, 7, 8, 9, 10, 11] [] rfl rfl (by decide) (by decide) hk1 hFc hP1 hD1
    generalize H1 = H at hP hS ⊢
    have hP : va_P (dC, dI) classes [(dq, .inr (5, [.int u4, .int d_today, .int d_cut, .int d_aging, .int d_saleFrom, .int d_pieces, .int d_orders, .ref dq8, .ref dq9, .ref dq10, .ref dq11, .ref dq12, .ref dq13, .ref dq14, .ref dq15, .int d_ran, .int d_sum, .ref dq18, .ref dq19, .ref dq20])), (dq8, .inl (cI, 40, .inl d_piece)), (dq9, .inl (cI, 40, .inl d_order)), (dq10, .inl (cI, 10, .inl d_came)), (dq11, .inl (cI, 100, .inl d_worth)), (dq12, .inl (cZ, 10, .inl d_used)), (dq13, .inl (cI, 10, .inl d_usedBy)), (dq14, .inl (cI, 10, .inl d_reservedFor)), (dq15, .inl (cI, 10, .inl d_reservedTo)), (dq18, .inl (cI, 10, .inl d_pieceDual)), (dq19, .inl (cI, 10, .inl d_orderDual)), (dq20, .inl (cJ, 11264, .inr (.inl d_table)))] H := hP
    have hD : va_D A [(dq, .inr (5, [.int u4, .int d_today, .int d_cut, .int d_aging, .int d_saleFrom, .int d_pieces, .int d_orders, .ref dq8, .ref dq9, .ref dq10, .ref dq11, .ref dq12, .ref dq13, .ref dq14, .ref dq15, .int d_ran, .int d_sum, .ref dq18, .ref dq19, .ref dq20])), (dq8, .inl (cI, 40, .inl d_piece)), (dq9, .inl (cI, 40, .inl d_order)), (dq10, .inl (cI, 10, .inl d_came)), (dq11, .inl (cI, 100, .inl d_worth)), (dq12, .inl (cZ, 10, .inl d_used)), (dq13, .inl (cI, 10, .inl d_usedBy)), (dq14, .inl (cI, 10, .inl d_reservedFor)), (dq15, .inl (cI, 10, .inl d_reservedTo)), (dq18, .inl (cI, 10, .inl d_pieceDual)), (dq19, .inl (cI, 10, .inl d_orderDual)), (dq20, .inl (cJ, 11264, .inr (.inl d_table)))] := hD
    clear hP1 hD1 hPc hDc hFc hk1 hz1
    refine lv_if_ne (tgt := 37) hx hb d_D_undo_33 (by decide) (fun c9 => ?_) (fun c9 => ?_)
    · replace hm := if_f c9 hm
      refine lv_aload_n hx hb d_D_undo_37 rfl (lv_at hl 0 rfl) ?_
      refine va_get (D := (dC, dI)) (ci := 5) (v := .ref dq12) (C := R_D) (T := F_D) (N := 20) hx hb hts hk1 hown hK hP 0 rfl rfl 11 (by decide) hk0 (fun _ h9 => h9) rfl d_D_undo_38 ?_
      refine lv_iload_n hx hb d_D_undo_41 rfl (lv_at hl 1 rfl) ?_
      refine lv_iconst (v := 0) hx hb d_D_undo_42 (by decide) ?_
      obtain ⟨h9, hm⟩ := gd hm
      refine va_zast hx hb hK hP hD hS 5 1 rfl rfl h9 d_D_undo_43 (fun H locs hP hD hS => ?_)
      have hP : va_P (dC, dI) classes [(dq, .inr (5, [.int u4, .int d_today, .int d_cut, .int d_aging, .int d_saleFrom, .int d_pieces, .int d_orders, .ref dq8, .ref dq9, .ref dq10, .ref dq11, .ref dq12, .ref dq13, .ref dq14, .ref dq15, .int d_ran, .int d_sum, .ref dq18, .ref dq19, .ref dq20])), (dq8, .inl (cI, 40, .inl d_piece)), (dq9, .inl (cI, 40, .inl d_order)), (dq10, .inl (cI, 10, .inl d_came)), (dq11, .inl (cI, 100, .inl d_worth)), (dq12, .inl (cZ, 10, .inl (upd d_used x1.toNatClampNeg (vp_nar .boolean 0)))), (dq13, .inl (cI, 10, .inl d_usedBy)), (dq14, .inl (cI, 10, .inl d_reservedFor)), (dq15, .inl (cI, 10, .inl d_reservedTo)), (dq18, .inl (cI, 10, .inl d_pieceDual)), (dq19, .inl (cI, 10, .inl d_orderDual)), (dq20, .inl (cJ, 11264, .inr (.inl d_table)))] H := hP
      have hD : va_D A [(dq, .inr (5, [.int u4, .int d_today, .int d_cut, .int d_aging, .int d_saleFrom, .int d_pieces, .int d_orders, .ref dq8, .ref dq9, .ref dq10, .ref dq11, .ref dq12, .ref dq13, .ref dq14, .ref dq15, .int d_ran, .int d_sum, .ref dq18, .ref dq19, .ref dq20])), (dq8, .inl (cI, 40, .inl d_piece)), (dq9, .inl (cI, 40, .inl d_order)), (dq10, .inl (cI, 10, .inl d_came)), (dq11, .inl (cI, 100, .inl d_worth)), (dq12, .inl (cZ, 10, .inl (upd d_used x1.toNatClampNeg (vp_nar .boolean 0)))), (dq13, .inl (cI, 10, .inl d_usedBy)), (dq14, .inl (cI, 10, .inl d_reservedFor)), (dq15, .inl (cI, 10, .inl d_reservedTo)), (dq18, .inl (cI, 10, .inl d_pieceDual)), (dq19, .inl (cI, 10, .inl d_orderDual)), (dq20, .inl (cJ, 11264, .inr (.inl d_table)))] := hD
      refine lv_iconst (v := 0) hx hb d_D_undo_44 (by decide) ?_
      refine lv_istore_n (lv' := [(2, .int 0), (0, .ref dq), (1, .int x1)]) hx hb d_D_undo_45 rfl hl (by decide) rfl (fun ls hl => ?_)
      have key46 : ∀ (K : Int32 → Int32 → Int32 → (Nat → Int32) → (Nat → Int32) → Option (Int32 × (Nat → Int32) × (Nat → Int32))) (_ : ∀ (y1a : Int32) (y2a : Int32) (d_throwna : Int32) (d_useda : Nat → Int32) (d_usedBya : Nat → Int32) (H : Heap) (locs : List Loc) (ls : Array Slot), lv_has ls 3 [(0, .ref dq), (1, .int y1a), (2, .int y2a)] → va_P (dC, dI) classes [(dq, .inr (5, [.int d_throwna, .int d_today, .int d_cut, .int d_aging, .int d_saleFrom, .int d_pieces, .int d_orders, .ref dq8, .ref dq9, .ref dq10, .ref dq11, .ref dq12, .ref dq13, .ref dq14, .ref dq15, .int d_ran, .int d_sum, .ref dq18, .ref dq19, .ref dq20])), (dq8, .inl (cI, 40, .inl d_piece)), (dq9, .inl (cI, 40, .inl d_order)), (dq10, .inl (cI, 10, .inl d_came)), (dq11, .inl (cI, 100, .inl d_worth)), (dq12, .inl (cZ, 10, .inl d_useda)), (dq13, .inl (cI, 10, .inl d_usedBya)), (dq14, .inl (cI, 10, .inl d_reservedFor)), (dq15, .inl (cI, 10, .inl d_reservedTo)), (dq18, .inl (cI, 10, .inl d_pieceDual)), (dq19, .inl (cI, 10, .inl d_orderDual)), (dq20, .inl (cJ, 11264, .inr (.inl d_table)))] H → va_D A [(dq, .inr (5, [.int d_throwna, .int d_today, .int d_cut, .int d_aging, .int d_saleFrom, .int d_pieces, .int d_orders, .ref dq8, .ref dq9, .ref dq10, .ref dq11, .ref dq12, .ref dq13, .ref dq14, .ref dq15, .int d_ran, .int d_sum, .ref dq18, .ref dq19, .ref dq20])), (dq8, .inl (cI, 40, .inl d_piece)), (dq9, .inl (cI, 40, .inl d_order)), (dq10, .inl (cI, 10, .inl d_came)), (dq11, .inl (cI, 100, .inl d_worth)), (dq12, .inl (cZ, 10, .inl d_useda)), (dq13, .inl (cI, 10, .inl d_usedBya)), (dq14, .inl (cI, 10, .inl d_reservedFor)), (dq15, .inl (cI, 10, .inl d_reservedTo)), (dq18, .inl (cI, 10, .inl d_pieceDual)), (dq19, .inl (cI, 10, .inl d_orderDual)), (dq20, .inl (cJ, 11264, .inr (.inl d_table)))] → va_S A s.heap H locs → K y1a y2a d_throwna d_useda d_usedBya = some res → W p l e (headSpec w_D_undo ({ frames := 2, cells := 0, slots := 0, locals := 43 } : Room)).room s m ([.ref dq, .int x1] : List Value).toArray below meth c H locs 0 0 (MQ below (va_Qv (fun _ : Unit => True) (fun _ t => va_P (dC, dI) classes [(dq, .inr (5, [.int res.1, .int d_today, .int d_cut, .int d_aging, .int d_saleFrom, .int d_pieces, .int d_orders, .ref dq8, .ref dq9, .ref dq10, .ref dq11, .ref dq12, .ref dq13, .ref dq14, .ref dq15, .int d_ran, .int d_sum, .ref dq18, .ref dq19, .ref dq20])), (dq8, .inl (cI, 40, .inl d_piece)), (dq9, .inl (cI, 40, .inl d_order)), (dq10, .inl (cI, 10, .inl d_came)), (dq11, .inl (cI, 100, .inl d_worth)), (dq12, .inl (cZ, 10, .inl res.2.1)), (dq13, .inl (cI, 10, .inl res.2.2)), (dq14, .inl (cI, 10, .inl d_reservedFor)), (dq15, .inl (cI, 10, .inl d_reservedTo)), (dq18, .inl (cI, 10, .inl d_pieceDual)), (dq19, .inl (cI, 10, .inl d_orderDual)), (dq20, .inl (cJ, 11264, .inr (.inl d_table)))] t.heap ∧ va_K (dC, dI) classes [(cI, .int), (cZ, .boolean), (cJ, .long)] t ∧ va_D A [(dq, .inr (5, [.int res.1, .int d_today, .int d_cut, .int d_aging, .int d_saleFrom, .int d_pieces, .int d_orders, .ref dq8, .ref dq9, .ref dq10, .ref dq11, .ref dq12, .ref dq13, .ref dq14, .ref dq15, .int d_ran, .int d_sum, .ref dq18, .ref dq19, .ref dq20])), (dq8, .inl (cI, 40, .inl d_piece)), (dq9, .inl (cI, 40, .inl d_order)), (dq10, .inl (cI, 10, .inl d_came)), (dq11, .inl (cI, 100, .inl d_worth)), (dq12, .inl (cZ, 10, .inl res.2.1)), (dq13, .inl (cI, 10, .inl res.2.2)), (dq14, .inl (cI, 10, .inl d_reservedFor)), (dq15, .inl (cI, 10, .inl d_reservedTo)), (dq18, .inl (cI, 10, .inl d_pieceDual)), (dq19, .inl (cI, 10, .inl d_orderDual)), (dq20, .inl (cJ, 11264, .inr (.inl d_table)))]) A) ([.ref dq, .int x1] : List Value).toArray s 0 0 A) (F0 m 77 ls [])) (n : Nat) (y1a : Int32) (y2a : Int32) (d_throwna : Int32) (d_useda : Nat → Int32) (d_usedBya : Nat → Int32) (H : Heap) (locs : List Loc) (ls : Array Slot), lv_has ls 3 [(0, .ref dq), (1, .int y1a), (2, .int y2a)] → va_P (dC, dI) classes [(dq, .inr (5, [.int d_throwna, .int d_today, .int d_cut, .int d_aging, .int d_saleFrom, .int d_pieces, .int d_orders, .ref dq8, .ref dq9, .ref dq10, .ref dq11, .ref dq12, .ref dq13, .ref dq14, .ref dq15, .int d_ran, .int d_sum, .ref dq18, .ref dq19, .ref dq20])), (dq8, .inl (cI, 40, .inl d_piece)), (dq9, .inl (cI, 40, .inl d_order)), (dq10, .inl (cI, 10, .inl d_came)), (dq11, .inl (cI, 100, .inl d_worth)), (dq12, .inl (cZ, 10, .inl d_useda)), (dq13, .inl (cI, 10, .inl d_usedBya)), (dq14, .inl (cI, 10, .inl d_reservedFor)), (dq15, .inl (cI, 10, .inl d_reservedTo)), (dq18, .inl (cI, 10, .inl d_pieceDual)), (dq19, .inl (cI, 10, .inl d_orderDual)), (dq20, .inl (cJ, 11264, .inr (.inl d_table)))] H → va_D A [(dq, .inr (5, [.int d_throwna, .int d_today, .int d_cut, .int d_aging, .int d_saleFrom, .int d_pieces, .int d_orders, .ref dq8, .ref dq9, .ref dq10, .ref dq11, .ref dq12, .ref dq13, .ref dq14, .ref dq15, .int d_ran, .int d_sum, .ref dq18, .ref dq19, .ref dq20])), (dq8, .inl (cI, 40, .inl d_piece)), (dq9, .inl (cI, 40, .inl d_order)), (dq10, .inl (cI, 10, .inl d_came)), (dq11, .inl (cI, 100, .inl d_worth)), (dq12, .inl (cZ, 10, .inl d_useda)), (dq13, .inl (cI, 10, .inl d_usedBya)), (dq14, .inl (cI, 10, .inl d_reservedFor)), (dq15, .inl (cI, 10, .inl d_reservedTo)), (dq18, .inl (cI, 10, .inl d_pieceDual)), (dq19, .inl (cI, 10, .inl d_orderDual)), (dq20, .inl (cJ, 11264, .inr (.inl d_table)))] → va_S A s.heap H locs → L_D_undo_46 N d_orders K n y1a y2a d_throwna d_useda d_usedBya = some res → W p l e (headSpec w_D_undo ({ frames := 2, cells := 0, slots := 0, locals := 43 } : Room)).room s m ([.ref dq, .int x1] : List Value).toArray below meth c H locs 0 0 (MQ below (va_Qv (fun _ : Unit => True) (fun _ t => va_P (dC, dI) classes [(dq, .inr (5, [.int res.1, .int d_today, .int d_cut, .int d_aging, .int d_saleFrom, .int d_pieces, .int d_orders, .ref dq8, .ref dq9, .ref dq10, .ref dq11, .ref dq12, .ref dq13, .ref dq14, .ref dq15, .int d_ran, .int d_sum, .ref dq18, .ref dq19, .ref dq20])), (dq8, .inl (cI, 40, .inl d_piece)), (dq9, .inl (cI, 40, .inl d_order)), (dq10, .inl (cI, 10, .inl d_came)), (dq11, .inl (cI, 100, .inl d_worth)), (dq12, .inl (cZ, 10, .inl res.2.1)), (dq13, .inl (cI, 10, .inl res.2.2)), (dq14, .inl (cI, 10, .inl d_reservedFor)), (dq15, .inl (cI, 10, .inl d_reservedTo)), (dq18, .inl (cI, 10, .inl d_pieceDual)), (dq19, .inl (cI, 10, .inl d_orderDual)), (dq20, .inl (cJ, 11264, .inr (.inl d_table)))] t.heap ∧ va_K (dC, dI) classes [(cI, .int), (cZ, .boolean), (cJ, .long)] t ∧ va_D A [(dq, .inr (5, [.int res.1, .int d_today, .int d_cut, .int d_aging, .int d_saleFrom, .int d_pieces, .int d_orders, .ref dq8, .ref dq9, .ref dq10, .ref dq11, .ref dq12, .ref dq13, .ref dq14, .ref dq15, .int d_ran, .int d_sum, .ref dq18, .ref dq19, .ref dq20])), (dq8, .inl (cI, 40, .inl d_piece)), (dq9, .inl (cI, 40, .inl d_order)), (dq10, .inl (cI, 10, .inl d_came)), (dq11, .inl (cI, 100, .inl d_worth)), (dq12, .inl (cZ, 10, .inl res.2.1)), (dq13, .inl (cI, 10, .inl res.2.2)), (dq14, .inl (cI, 10, .inl d_reservedFor)), (dq15, .inl (cI, 10, .inl d_reservedTo)), (dq18, .inl (cI, 10, .inl d_pieceDual)), (dq19, .inl (cI, 10, .inl d_orderDual)), (dq20, .inl (cJ, 11264, .inr (.inl d_table)))]) A) ([.ref dq, .int x1] : List Value).toArray s 0 0 A) (F0 m 46 ls []) := by
        intro K hK46 n
        induction n with
        | zero => intro y1a y2a d_throwna d_useda d_usedBya H locs ls hl hP hD hS hm; exact absurd hm (by simp [L_D_undo_46])
        | succ n ih46 =>
          intro y1a y2a d_throwna d_useda d_usedBya H locs ls hl hP hD hS hm
          rw [L_D_undo_46] at hm
          refine lv_iload_n hx hb d_D_undo_46 rfl (lv_at hl 2 rfl) ?_
          refine lv_aload_n hx hb d_D_undo_47 rfl (lv_at hl 0 rfl) ?_
          refine va_get (D := (dC, dI)) (ci := 5) (v := .int d_orders) (C := R_D) (T := F_D) (N := 20) hx hb hts hk1 hown hK hP 0 rfl rfl 6 (by decide) hk2 (fun _ h9 => h9) rfl d_D_undo_48 ?_
          refine lv_icmp_ge (tgt := 77) hx hb d_D_undo_51 (by decide) (fun c9 => ?_) (fun c9 => ?_)
          · replace hm := if_t c9 hm
            have hl : lv_has ls 3 [(0, .ref dq), (1, .int y1a), (2, .int y2a)] := lv_sub hl [0, 1, 2] rfl
            exact hK46 y1a y2a d_throwna d_useda d_usedBya _ _ ls hl hP hD hS hm
          · replace hm := if_f c9 hm
            refine lv_aload_n hx hb d_D_undo_54 rfl (lv_at hl 0 rfl) ?_
            refine va_get (D := (dC, dI)) (ci := 5) (v := .ref dq13) (C := R_D) (T := F_D) (N := 20) hx hb hts hk1 hown hK hP 0 rfl rfl 12 (by decide) hk3 (fun _ h9 => h9) rfl d_D_undo_55 ?_
            refine lv_iload_n hx hb d_D_undo_58 rfl (lv_at hl 2 rfl) ?_
            obtain ⟨h9, hm⟩ := gd hm
            refine va_iald hx hb hK hP 6 0 rfl rfl h9 d_D_undo_59 ?_
            refine lv_iload_n hx hb d_D_undo_60 rfl (lv_at hl 1 rfl) ?_
            refine lv_icmp_ne (tgt := 71) hx hb d_D_undo_61 (by decide) (fun c9 => ?_) (fun c9 => ?_)
            · replace hm := if_f c9 hm
              refine lv_iinc (v := (y2a + 1)) (lv' := [(2, .int (y2a + 1)), (0, .ref dq), (1, .int y1a)]) hx hb d_D_undo_71 hl (k := 2) rfl rfl (by decide) rfl (fun ls hl => ?_)
              refine lv_goto (tgt := 46) hx hb d_D_undo_74 (by decide) ?_
              have hl : lv_has ls 3 [(0, .ref dq), (1, .int y1a), (2, .int (y2a + 1))] := lv_sub hl [1, 2, 0] rfl
              exact ih46 y1a (y2a + 1) d_throwna d_useda d_usedBya _ _ ls hl hP hD hS hm
            · replace hm := if_t c9 hm
              refine lv_aload_n hx hb d_D_undo_64 rfl (lv_at hl 0 rfl) ?_
              refine va_get (D := (dC, dI)) (ci := 5) (v := .ref dq13) (C := R_D) (T := F_D) (N := 20) hx hb hts hk1 hown hK hP 0 rfl rfl 12 (by decide) hk3 (fun _ h9 => h9) rfl d_D_undo_65 ?_
              refine lv_iload_n hx hb d_D_undo_68 rfl (lv_at hl 2 rfl) ?_
              refine lv_iconst (v := (-1)) hx hb d_D_undo_69 (by decide) ?_
              obtain ⟨h9, hm⟩ := gd hm
              refine va_iast hx hb hK hP hD hS 6 0 rfl rfl h9 d_D_undo_70 (fun H locs hP hD hS => ?_)
              have hP : va_P (dC, dI) classes [(dq, .inr (5, [.int d_throwna, .int d_today, .int d_cut, .int d_aging, .int d_saleFrom, .int d_pieces, .int d_orders, .ref dq8, .ref dq9, .ref dq10, .ref dq11, .ref dq12, .ref dq13, .ref dq14, .ref dq15, .int d_ran, .int d_sum, .ref dq18, .ref dq19, .ref dq20])), (dq8, .inl (cI, 40, .inl d_piece)), (dq9, .inl (cI, 40, .inl d_order)), (dq10, .inl (cI, 10, .inl d_came)), (dq11, .inl (cI, 100, .inl d_worth)), (dq12, .inl (cZ, 10, .inl d_useda)), (dq13, .inl (cI, 10, .inl (upd d_usedBya y2a.toNatClampNeg (-1)))), (dq14, .inl (cI, 10, .inl d_reservedFor)), (dq15, .inl (cI, 10, .inl d_reservedTo)), (dq18, .inl (cI, 10, .inl d_pieceDual)), (dq19, .inl (cI, 10, .inl d_orderDual)), (dq20, .inl (cJ, 11264, .inr (.inl d_table)))] H := hP
              have hD : va_D A [(dq, .inr (5, [.int d_throwna, .int d_today, .int d_cut, .int d_aging, .int d_saleFrom, .int d_pieces, .int d_orders, .ref dq8, .ref dq9, .ref dq10, .ref dq11, .ref dq12, .ref dq13, .ref dq14, .ref dq15, .int d_ran, .int d_sum, .ref dq18, .ref dq19, .ref dq20])), (dq8, .inl (cI, 40, .inl d_piece)), (dq9, .inl (cI, 40, .inl d_order)), (dq10, .inl (cI, 10, .inl d_came)), (dq11, .inl (cI, 100, .inl d_worth)), (dq12, .inl (cZ, 10, .inl d_useda)), (dq13, .inl (cI, 10, .inl (upd d_usedBya y2a.toNatClampNeg (-1)))), (dq14, .inl (cI, 10, .inl d_reservedFor)), (dq15, .inl (cI, 10, .inl d_reservedTo)), (dq18, .inl (cI, 10, .inl d_pieceDual)), (dq19, .inl (cI, 10, .inl d_orderDual)), (dq20, .inl (cJ, 11264, .inr (.inl d_table)))] := hD
              refine lv_iinc (v := (y2a + 1)) (lv' := [(2, .int (y2a + 1)), (0, .ref dq), (1, .int y1a)]) hx hb d_D_undo_71 hl (k := 2) rfl rfl (by decide) rfl (fun ls hl => ?_)
              refine lv_goto (tgt := 46) hx hb d_D_undo_74 (by decide) ?_
              have hl : lv_has ls 3 [(0, .ref dq), (1, .int y1a), (2, .int (y2a + 1))] := lv_sub hl [1, 2, 0] rfl
              exact ih46 y1a (y2a + 1) d_throwna d_useda (upd d_usedBya y2a.toNatClampNeg (-1)) _ _ ls hl hP hD hS hm
      have hl : lv_has ls 3 [(0, .ref dq), (1, .int x1), (2, .int 0)] := lv_sub hl [1, 2, 0] rfl
      refine key46 _ (fun y1a y2a d_throwna d_useda d_usedBya H locs ls hl hP hD hS hm => ?_) N x1 0 u4 (upd d_used x1.toNatClampNeg (vp_nar .boolean 0)) d_usedBy _ _ ls hl hP hD hS hm
      try dsimp only at hm
      cases hm
      refine W.widen (k := 0) (n := 0) (Nat.le_of_ble_eq_true rfl) (Nat.le_of_ble_eq_true rfl) ?_
      exact W.vret hx hb hr (fun t ht hW => ⟨⟨(), rfl, trivial, by rw [ht]; exact hP, va_K.moved hW.alike hK, hD⟩, hS.F ht⟩) hS.2.2 d_D_undo_77
    · replace hm := if_t c9 hm
      cases hm
      refine W.widen (k := 0) (n := 0) (Nat.le_of_ble_eq_true rfl) (Nat.le_of_ble_eq_true rfl) ?_
      exact W.vret hx hb hr (fun t ht hW => ⟨⟨(), rfl, trivial, by rw [ht]; exact hP, va_K.moved hW.alike hK, hD⟩, hS.F ht⟩) hS.2.2 d_D_undo_36
  · replace hm := if_f c9 hm
    refine lv_aload_n hx hb d_D_undo_14 rfl (lv_at hl 0 rfl) ?_
    refine va_get (D := (dC, dI)) (ci := 5) (v := .ref dq12) (C := R_D) (T := F_D) (N := 20) hx hb hts hk1 hown hK hP 0 rfl rfl 11 (by decide) hk0 (fun _ h9 => h9) rfl d_D_undo_15 ?_
    refine lv_iload_n hx hb d_D_undo_18 rfl (lv_at hl 1 rfl) ?_
    obtain ⟨h9, hm⟩ := gd hm
    refine va_zald hx hb hK hP 5 1 rfl rfl h9 d_D_undo_19 ?_
    refine lv_if_eq (tgt := 27) hx hb d_D_undo_20 (by decide) (fun c9 => ?_) (fun c9 => ?_)
    · replace hm := if_t c9 hm
      refine lv_iconst (v := 0) hx hb d_D_undo_27 (by decide) ?_
      refine lv_iconst (v := 1) hx hb d_D_undo_28 (by decide) ?_
      refine lv_iconst (v := 1) hx hb d_D_undo_29 (by decide) ?_
      obtain ⟨⟨r6, u7⟩, hc, hm⟩ := bd hm
      try dsimp only at hm
      have hPc := hP.sub (ws' := [(dq, .inr (5, [.int d_thrown, .int d_today, .int d_cut, .int d_aging, .int d_saleFrom, .int d_pieces, .int d_orders, .ref dq8, .ref dq9, .ref dq10, .ref dq11, .ref dq12, .ref dq13, .ref dq14, .ref dq15, .int d_ran, .int d_sum, .ref dq18, .ref dq19, .ref dq20])), (dq8, .inl (cI, 40, .inl d_piece)), (dq9, .inl (cI, 40, .inl d_order)), (dq10, .inl (cI, 10, .inl d_came)), (dq11, .inl (cI, 100, .inl d_worth)), (dq12, .inl (cZ, 10, .inl d_used)), (dq13, .inl (cI, 10, .inl d_usedBy)), (dq14, .inl (cI, 10, .inl d_reservedFor)), (dq15, .inl (cI, 10, .inl d_reservedTo)), (dq18, .inl (cI, 10, .inl d_pieceDual)), (dq19, .inl (cI, 10, .inl d_orderDual)), (dq20, .inl (cJ, 11264, .inr (.inl d_table)))]) [0, 1, 2, 3, 4, 5, 6, 7, 8, 9, 10, 11] rfl
      have hDc := hD.sub (ws' := [(dq, .inr (5, [.int d_thrown, .int d_today, .int d_cut, .int d_aging, .int d_saleFrom, .int d_pieces, .int d_orders, .ref dq8, .ref dq9, .ref dq10, .ref dq11, .ref dq12, .ref dq13, .ref dq14, .ref dq15, .int d_ran, .int d_sum, .ref dq18, .ref dq19, .ref dq20])), (dq8, .inl (cI, 40, .inl d_piece)), (dq9, .inl (cI, 40, .inl d_order)), (dq10, .inl (cI, 10, .inl d_came)), (dq11, .inl (cI, 100, .inl d_worth)), (dq12, .inl (cZ, 10, .inl d_used)), (dq13, .inl (cI, 10, .inl d_usedBy)), (dq14, .inl (cI, 10, .inl d_reservedFor)), (dq15, .inl (cI, 10, .inl d_reservedTo)), (dq18, .inl (cI, 10, .inl d_pieceDual)), (dq19, .inl (cI, 10, .inl d_orderDual)), (dq20, .inl (cJ, 11264, .inr (.inl d_table)))]) [0, 1, 2, 3, 4, 5, 6, 7, 8, 9, 10, 11] (by decide) rfl
      have hFc := va_free (wc := [(dq, .inr (5, [.int d_thrown, .int d_today, .int d_cut, .int d_aging, .int d_saleFrom, .int d_pieces, .int d_orders, .ref dq8, .ref dq9, .ref dq10, .ref dq11, .ref dq12, .ref dq13, .ref dq14, .ref dq15, .int d_ran, .int d_sum, .ref dq18, .ref dq19, .ref dq20])), (dq8, .inl (cI, 40, .inl d_piece)), (dq9, .inl (cI, 40, .inl d_order)), (dq10, .inl (cI, 10, .inl d_came)), (dq11, .inl (cI, 100, .inl d_worth)), (dq12, .inl (cZ, 10, .inl d_used)), (dq13, .inl (cI, 10, .inl d_usedBy)), (dq14, .inl (cI, 10, .inl d_reservedFor)), (dq15, .inl (cI, 10, .inl d_reservedTo)), (dq18, .inl (cI, 10, .inl d_pieceDual)), (dq19, .inl (cI, 10, .inl d_orderDual)), (dq20, .inl (cJ, 11264, .inr (.inl d_table)))]) hD hS hA [0, 1, 2, 3, 4, 5, 6, 7, 8, 9, 10, 11] rfl
      refine va_calli (va_runV (As := [.int r1, .int 0, .int 1, .int 1]) (rest := []) ⟨hx, hb, hml, hown, hts⟩ (c_D_goes l dC dI cI cZ cJ dq dq8 dq9 dq10 dq11 dq12 dq13 dq14 dq15 dq18 dq19 dq20 s.heap.size d_thrown d_today d_cut d_aging d_saleFrom d_pieces d_orders d_piece d_order d_came d_worth d_used d_usedBy d_reservedFor d_reservedTo d_ran d_sum d_pieceDual d_orderDual d_table r1 0 1 1 N (r6, u7) hc) (cwV 4 hts (gV (w0 670 rfl) (w0 671 rfl) (w0 18 rfl) (w0 33 rfl) (w0 672 rfl)) rfl rfl rfl q_D_goes ⟨Nat.le_of_ble_eq_true rfl, Nat.le_of_ble_eq_true rfl⟩) (wr_preV hK hPc hDc hN 5 0 (R_D, F_D, 20) rfl rfl) rfl rfl hl.1 rfl (lv_room (Nat.le_of_ble_eq_true rfl)) d_D_undo_30 ⟨Nat.le_of_ble_eq_true rfl, Nat.le_of_ble_eq_true rfl⟩) hS (fun q _ h => hFc q h) hFc (fun r9 u t H1 locs ht hvm hw hB hz1 hk1 hS => ?_)
      subst hw
      obtain ⟨hP1, hK1, hD1⟩ := hB
      rw [ht] at hP1
      obtain ⟨hP, hD⟩ := va_join (wr := []) (w1 := [(dq, .inr (5, [.int u7, .int d_today, .int d_cut, .int d_aging, .int d_saleFrom, .int d_pieces, .int d_orders, .ref dq8, .ref dq9, .ref dq10, .ref dq11, .ref dq12, .ref dq13, .ref dq14, .ref dq15, .int d_ran, .int d_sum, .ref dq18, .ref dq19, .ref dq20])), (dq8, .inl (cI, 40, .inl d_piece)), (dq9, .inl (cI, 40, .inl d_order)), (dq10, .inl (cI, 10, .inl d_came)), (dq11, .inl (cI, 100, .inl d_worth)), (dq12, .inl (cZ, 10, .inl d_used)), (dq13, .inl (cI, 10, .inl d_usedBy)), (dq14, .inl (cI, 10, .inl d_reservedFor)), (dq15, .inl (cI, 10, .inl d_reservedTo)), (dq18, .inl (cI, 10, .inl d_pieceDual)), (dq19, .inl (cI, 10, .inl d_orderDual)), (dq20, .inl (cJ, 11264, .inr (.inl d_table)))]) hP hD [0, 1, 2, 3, 4, 5, 6, 7, 8, 9, 10, 11] [] rfl rfl (by decide) (by decide) hk1 hFc hP1 hD1
      generalize H1 = H at hP hS ⊢
      have hP : va_P (dC, dI) classes [(dq, .inr (5, [.int u7, .int d_today, .int d_cut, .int d_aging, .int d_saleFrom, .int d_pieces, .int d_orders, .ref dq8, .ref dq9, .ref dq10, .ref dq11, .ref dq12, .ref dq13, .ref dq14, .ref dq15, .int d_ran, .int d_sum, .ref dq18, .ref dq19, .ref dq20])), (dq8, .inl (cI, 40, .inl d_piece)), (dq9, .inl (cI, 40, .inl d_order)), (dq10, .inl (cI, 10, .inl d_came)), (dq11, .inl (cI, 100, .inl d_worth)), (dq12, .inl (cZ, 10, .inl d_used)), (dq13, .inl (cI, 10, .inl d_usedBy)), (dq14, .inl (cI, 10, .inl d_reservedFor)), (dq15, .inl (cI, 10, .inl d_reservedTo)), (dq18, .inl (cI, 10, .inl d_pieceDual)), (dq19, .inl (cI, 10, .inl d_orderDual)), (dq20, .inl (cJ, 11264, .inr (.inl d_table)))] H := hP
      have hD : va_D A [(dq, .inr (5, [.int u7, .int d_today, .int d_cut, .int d_aging, .int d_saleFrom, .int d_pieces, .int d_orders, .ref dq8, .ref dq9, .ref dq10, .ref dq11, .ref dq12, .ref dq13, .ref dq14, .ref dq15, .int d_ran, .int d_sum, .ref dq18, .ref dq19, .ref dq20])), (dq8, .inl (cI, 40, .inl d_piece)), (dq9, .inl (cI, 40, .inl d_order)), (dq10, .inl (cI, 10, .inl d_came)), (dq11, .inl (cI, 100, .inl d_worth)), (dq12, .inl (cZ, 10, .inl d_used)), (dq13, .inl (cI, 10, .inl d_usedBy)), (dq14, .inl (cI, 10, .inl d_reservedFor)), (dq15, .inl (cI, 10, .inl d_reservedTo)), (dq18, .inl (cI, 10, .inl d_pieceDual)), (dq19, .inl (cI, 10, .inl d_orderDual)), (dq20, .inl (cJ, 11264, .inr (.inl d_table)))] := hD
      clear hP1 hD1 hPc hDc hFc hk1 hz1
      refine lv_if_ne (tgt := 37) hx hb d_D_undo_33 (by decide) (fun c9 => ?_) (fun c9 => ?_)
      · replace hm := if_f c9 hm
        refine lv_aload_n hx hb d_D_undo_37 rfl (lv_at hl 0 rfl) ?_
        refine va_get (D := (dC, dI)) (ci := 5) (v := .ref dq12) (C := R_D) (T := F_D) (N := 20) hx hb hts hk1 hown hK hP 0 rfl rfl 11 (by decide) hk0 (fun _ h9 => h9) rfl d_D_undo_38 ?_
        refine lv_iload_n hx hb d_D_undo_41 rfl (lv_at hl 1 rfl) ?_
        refine lv_iconst (v := 0) hx hb d_D_undo_42 (by decide) ?_
        obtain ⟨h9, hm⟩ := gd hm
        refine va_zast hx hb hK hP hD hS 5 1 rfl rfl h9 d_D_undo_43 (fun H locs hP hD hS => ?_)
        have hP : va_P (dC, dI) classes [(dq, .inr (5, [.int u7, .int d_today, .int d_cut, .int d_aging, .int d_saleFrom, .int d_pieces, .int d_orders, .ref dq8, .ref dq9, .ref dq10, .ref dq11, .ref dq12, .ref dq13, .ref dq14, .ref dq15, .int d_ran, .int d_sum, .ref dq18, .ref dq19, .ref dq20])), (dq8, .inl (cI, 40, .inl d_piece)), (dq9, .inl (cI, 40, .inl d_order)), (dq10, .inl (cI, 10, .inl d_came)), (dq11, .inl (cI, 100, .inl d_worth)), (dq12, .inl (cZ, 10, .inl (upd d_used x1.toNatClampNeg (vp_nar .boolean 0)))), (dq13, .inl (cI, 10, .inl d_usedBy)), (dq14, .inl (cI, 10, .inl d_reservedFor)), (dq15, .inl (cI, 10, .inl d_reservedTo)), (dq18, .inl (cI, 10, .inl d_pieceDual)), (dq19, .inl (cI, 10, .inl d_orderDual)), (dq20, .inl (cJ, 11264, .inr (.inl d_table)))] H := hP
        have hD : va_D A [(dq, .inr (5, [.int u7, .int d_today, .int d_cut, .int d_aging, .int d_saleFrom, .int d_pieces, .int d_orders, .ref dq8, .ref dq9, .ref dq10, .ref dq11, .ref dq12, .ref dq13, .ref dq14, .ref dq15, .int d_ran, .int d_sum, .ref dq18, .ref dq19, .ref dq20])), (dq8, .inl (cI, 40, .inl d_piece)), (dq9, .inl (cI, 40, .inl d_order)), (dq10, .inl (cI, 10, .inl d_came)), (dq11, .inl (cI, 100, .inl d_worth)), (dq12, .inl (cZ, 10, .inl (upd d_used x1.toNatClampNeg (vp_nar .boolean 0)))), (dq13, .inl (cI, 10, .inl d_usedBy)), (dq14, .inl (cI, 10, .inl d_reservedFor)), (dq15, .inl (cI, 10, .inl d_reservedTo)), (dq18, .inl (cI, 10, .inl d_pieceDual)), (dq19, .inl (cI, 10, .inl d_orderDual)), (dq20, .inl (cJ, 11264, .inr (.inl d_table)))] := hD
        refine lv_iconst (v := 0) hx hb d_D_undo_44 (by decide) ?_
        refine lv_istore_n (lv' := [(2, .int 0), (0, .ref dq), (1, .int x1)]) hx hb d_D_undo_45 rfl hl (by decide) rfl (fun ls hl => ?_)
        have key46 : ∀ (K : Int32 → Int32 → Int32 → (Nat → Int32) → (Nat → Int32) → Option (Int32 × (Nat → Int32) × (Nat → Int32))) (_ : ∀ (y1a : Int32) (y2a : Int32) (d_throwna : Int32) (d_useda : Nat → Int32) (d_usedBya : Nat → Int32) (H : Heap) (locs : List Loc) (ls : Array Slot), lv_has ls 3 [(0, .ref dq), (1, .int y1a), (2, .int y2a)] → va_P (dC, dI) classes [(dq, .inr (5, [.int d_throwna, .int d_today, .int d_cut, .int d_aging, .int d_saleFrom, .int d_pieces, .int d_orders, .ref dq8, .ref dq9, .ref dq10, .ref dq11, .ref dq12, .ref dq13, .ref dq14, .ref dq15, .int d_ran, .int d_sum, .ref dq18, .ref dq19, .ref dq20])), (dq8, .inl (cI, 40, .inl d_piece)), (dq9, .inl (cI, 40, .inl d_order)), (dq10, .inl (cI, 10, .inl d_came)), (dq11, .inl (cI, 100, .inl d_worth)), (dq12, .inl (cZ, 10, .inl d_useda)), (dq13, .inl (cI, 10, .inl d_usedBya)), (dq14, .inl (cI, 10, .inl d_reservedFor)), (dq15, .inl (cI, 10, .inl d_reservedTo)), (dq18, .inl (cI, 10, .inl d_pieceDual)), (dq19, .inl (cI, 10, .inl d_orderDual)), (dq20, .inl (cJ, 11264, .inr (.inl d_table)))] H → va_D A [(dq, .inr (5, [.int d_throwna, .int d_today, .int d_cut, .int d_aging, .int d_saleFrom, .int d_pieces, .int d_orders, .ref dq8, .ref dq9, .ref dq10, .ref dq11, .ref dq12, .ref dq13, .ref dq14, .ref dq15, .int d_ran, .int d_sum, .ref dq18, .ref dq19, .ref dq20])), (dq8, .inl (cI, 40, .inl d_piece)), (dq9, .inl (cI, 40, .inl d_order)), (dq10, .inl (cI, 10, .inl d_came)), (dq11, .inl (cI, 100, .inl d_worth)), (dq12, .inl (cZ, 10, .inl d_useda)), (dq13, .inl (cI, 10, .inl d_usedBya)), (dq14, .inl (cI, 10, .inl d_reservedFor)), (dq15, .inl (cI, 10, .inl d_reservedTo)), (dq18, .inl (cI, 10, .inl d_pieceDual)), (dq19, .inl (cI, 10, .inl d_orderDual)), (dq20, .inl (cJ, 11264, .inr (.inl d_table)))] → va_S A s.heap H locs → K y1a y2a d_throwna d_useda d_usedBya = some res → W p l e (headSpec w_D_undo ({ frames := 2, cells := 0, slots := 0, locals := 43 } : Room)).room s m ([.ref dq, .int x1] : List Value).toArray below meth c H locs 0 0 (MQ below (va_Qv (fun _ : Unit => True) (fun _ t => va_P (dC, dI) classes [(dq, .inr (5, [.int res.1, .int d_today, .int d_cut, .int d_aging, .int d_saleFrom, .int d_pieces, .int d_orders, .ref dq8, .ref dq9, .ref dq10, .ref dq11, .ref dq12, .ref dq13, .ref dq14, .ref dq15, .int d_ran, .int d_sum, .ref dq18, .ref dq19, .ref dq20])), (dq8, .inl (cI, 40, .inl d_piece)), (dq9, .inl (cI, 40, .inl d_order)), (dq10, .inl (cI, 10, .inl d_came)), (dq11, .inl (cI, 100, .inl d_worth)), (dq12, .inl (cZ, 10, .inl res.2.1)), (dq13, .inl (cI, 10, .inl res.2.2)), (dq14, .inl (cI, 10, .inl d_reservedFor)), (dq15, .inl (cI, 10, .inl d_reservedTo)), (dq18, .inl (cI, 10, .inl d_pieceDual)), (dq19, .inl (cI, 10, .inl d_orderDual)), (dq20, .inl (cJ, 11264, .inr (.inl d_table)))] t.heap ∧ va_K (dC, dI) classes [(cI, .int), (cZ, .boolean), (cJ, .long)] t ∧ va_D A [(dq, .inr (5, [.int res.1, .int d_today, .int d_cut, .int d_aging, .int d_saleFrom, .int d_pieces, .int d_orders, .ref dq8, .ref dq9, .ref dq10, .ref dq11, .ref dq12, .ref dq13, .ref dq14, .ref dq15, .int d_ran, .int d_sum, .ref dq18, .ref dq19, .ref dq20])), (dq8, .inl (cI, 40, .inl d_piece)), (dq9, .inl (cI, 40, .inl d_order)), (dq10, .inl (cI, 10, .inl d_came)), (dq11, .inl (cI, 100, .inl d_worth)), (dq12, .inl (cZ, 10, .inl res.2.1)), (dq13, .inl (cI, 10, .inl res.2.2)), (dq14, .inl (cI, 10, .inl d_reservedFor)), (dq15, .inl (cI, 10, .inl d_reservedTo)), (dq18, .inl (cI, 10, .inl d_pieceDual)), (dq19, .inl (cI, 10, .inl d_orderDual)), (dq20, .inl (cJ, 11264, .inr (.inl d_table)))]) A) ([.ref dq, .int x1] : List Value).toArray s 0 0 A) (F0 m 77 ls [])) (n : Nat) (y1a : Int32) (y2a : Int32) (d_throwna : Int32) (d_useda : Nat → Int32) (d_usedBya : Nat → Int32) (H : Heap) (locs : List Loc) (ls : Array Slot), lv_has ls 3 [(0, .ref dq), (1, .int y1a), (2, .int y2a)] → va_P (dC, dI) classes [(dq, .inr (5, [.int d_throwna, .int d_today, .int d_cut, .int d_aging, .int d_saleFrom, .int d_pieces, .int d_orders, .ref dq8, .ref dq9, .ref dq10, .ref dq11, .ref dq12, .ref dq13, .ref dq14, .ref dq15, .int d_ran, .int d_sum, .ref dq18, .ref dq19, .ref dq20])), (dq8, .inl (cI, 40, .inl d_piece)), (dq9, .inl (cI, 40, .inl d_order)), (dq10, .inl (cI, 10, .inl d_came)), (dq11, .inl (cI, 100, .inl d_worth)), (dq12, .inl (cZ, 10, .inl d_useda)), (dq13, .inl (cI, 10, .inl d_usedBya)), (dq14, .inl (cI, 10, .inl d_reservedFor)), (dq15, .inl (cI, 10, .inl d_reservedTo)), (dq18, .inl (cI, 10, .inl d_pieceDual)), (dq19, .inl (cI, 10, .inl d_orderDual)), (dq20, .inl (cJ, 11264, .inr (.inl d_table)))] H → va_D A [(dq, .inr (5, [.int d_throwna, .int d_today, .int d_cut, .int d_aging, .int d_saleFrom, .int d_pieces, .int d_orders, .ref dq8, .ref dq9, .ref dq10, .ref dq11, .ref dq12, .ref dq13, .ref dq14, .ref dq15, .int d_ran, .int d_sum, .ref dq18, .ref dq19, .ref dq20])), (dq8, .inl (cI, 40, .inl d_piece)), (dq9, .inl (cI, 40, .inl d_order)), (dq10, .inl (cI, 10, .inl d_came)), (dq11, .inl (cI, 100, .inl d_worth)), (dq12, .inl (cZ, 10, .inl d_useda)), (dq13, .inl (cI, 10, .inl d_usedBya)), (dq14, .inl (cI, 10, .inl d_reservedFor)), (dq15, .inl (cI, 10, .inl d_reservedTo)), (dq18, .inl (cI, 10, .inl d_pieceDual)), (dq19, .inl (cI, 10, .inl d_orderDual)), (dq20, .inl (cJ, 11264, .inr (.inl d_table)))] → va_S A s.heap H locs → L_D_undo_46 N d_orders K n y1a y2a d_throwna d_useda d_usedBya = some res → W p l e (headSpec w_D_undo ({ frames := 2, cells := 0, slots := 0, locals := 43 } : Room)).room s m ([.ref dq, .int x1] : List Value).toArray below meth c H locs 0 0 (MQ below (va_Qv (fun _ : Unit => True) (fun _ t => va_P (dC, dI) classes [(dq, .inr (5, [.int res.1, .int d_today, .int d_cut, .int d_aging, .int d_saleFrom, .int d_pieces, .int d_orders, .ref dq8, .ref dq9, .ref dq10, .ref dq11, .ref dq12, .ref dq13, .ref dq14, .ref dq15, .int d_ran, .int d_sum, .ref dq18, .ref dq19, .ref dq20])), (dq8, .inl (cI, 40, .inl d_piece)), (dq9, .inl (cI, 40, .inl d_order)), (dq10, .inl (cI, 10, .inl d_came)), (dq11, .inl (cI, 100, .inl d_worth)), (dq12, .inl (cZ, 10, .inl res.2.1)), (dq13, .inl (cI, 10, .inl res.2.2)), (dq14, .inl (cI, 10, .inl d_reservedFor)), (dq15, .inl (cI, 10, .inl d_reservedTo)), (dq18, .inl (cI, 10, .inl d_pieceDual)), (dq19, .inl (cI, 10, .inl d_orderDual)), (dq20, .inl (cJ, 11264, .inr (.inl d_table)))] t.heap ∧ va_K (dC, dI) classes [(cI, .int), (cZ, .boolean), (cJ, .long)] t ∧ va_D A [(dq, .inr (5, [.int res.1, .int d_today, .int d_cut, .int d_aging, .int d_saleFrom, .int d_pieces, .int d_orders, .ref dq8, .ref dq9, .ref dq10, .ref dq11, .ref dq12, .ref dq13, .ref dq14, .ref dq15, .int d_ran, .int d_sum, .ref dq18, .ref dq19, .ref dq20])), (dq8, .inl (cI, 40, .inl d_piece)), (dq9, .inl (cI, 40, .inl d_order)), (dq10, .inl (cI, 10, .inl d_came)), (dq11, .inl (cI, 100, .inl d_worth)), (dq12, .inl (cZ, 10, .inl res.2.1)), (dq13, .inl (cI, 10, .inl res.2.2)), (dq14, .inl (cI, 10, .inl d_reservedFor)), (dq15, .inl (cI, 10, .inl d_reservedTo)), (dq18, .inl (cI, 10, .inl d_pieceDual)), (dq19, .inl (cI, 10, .inl d_orderDual)), (dq20, .inl (cJ, 11264, .inr (.inl d_table)))]) A) ([.ref dq, .int x1] : List Value).toArray s 0 0 A) (F0 m 46 ls []) := by
          intro K hK46 n
          induction n with
          | zero => intro y1a y2a d_throwna d_useda d_usedBya H locs ls hl hP hD hS hm; exact absurd hm (by simp [L_D_undo_46])
          | succ n ih46 =>
            intro y1a y2a d_throwna d_useda d_usedBya H locs ls hl hP hD hS hm
            rw [L_D_undo_46] at hm
            refine lv_iload_n hx hb d_D_undo_46 rfl (lv_at hl 2 rfl) ?_
            refine lv_aload_n hx hb d_D_undo_47 rfl (lv_at hl 0 rfl) ?_
            refine va_get (D := (dC, dI)) (ci := 5) (v := .int d_orders) (C := R_D) (T := F_D) (N := 20) hx hb hts hk1 hown hK hP 0 rfl rfl 6 (by decide) hk2 (fun _ h9 => h9) rfl d_D_undo_48 ?_
            refine lv_icmp_ge (tgt := 77) hx hb d_D_undo_51 (by decide) (fun c9 => ?_) (fun c9 => ?_)
            · replace hm := if_t c9 hm
              have hl : lv_has ls 3 [(0, .ref dq), (1, .int y1a), (2, .int y2a)] := lv_sub hl [0, 1, 2] rfl
              exact hK46 y1a y2a d_throwna d_useda d_usedBya _ _ ls hl hP hD hS hm
            · replace hm := if_f c9 hm
              refine lv_aload_n hx hb d_D_undo_54 rfl (lv_at hl 0 rfl) ?_
              refine va_get (D := (dC, dI)) (ci := 5) (v := .ref dq13) (C := R_D) (T := F_D) (N := 20) hx hb hts hk1 hown hK hP 0 rfl rfl 12 (by decide) hk3 (fun _ h9 => h9) rfl d_D_undo_55 ?_
              refine lv_iload_n hx hb d_D_undo_58 rfl (lv_at hl 2 rfl) ?_
              obtain ⟨h9, hm⟩ := gd hm
              refine va_iald hx hb hK hP 6 0 rfl rfl h9 d_D_undo_59 ?_
              refine lv_iload_n hx hb d_D_undo_60 rfl (lv_at hl 1 rfl) ?_
              refine lv_icmp_ne (tgt := 71) hx hb d_D_undo_61 (by decide) (fun c9 => ?_) (fun c9 => ?_)
              · replace hm := if_f c9 hm
                refine lv_iinc (v := (y2a + 1)) (lv' := [(2, .int (y2a + 1)), (0, .ref dq), (1, .int y1a)]) hx hb d_D_undo_71 hl (k := 2) rfl rfl (by decide) rfl (fun ls hl => ?_)
                refine lv_goto (tgt := 46) hx hb d_D_undo_74 (by decide) ?_
                have hl : lv_has ls 3 [(0, .ref dq), (1, .int y1a), (2, .int (y2a + 1))] := lv_sub hl [1, 2, 0] rfl
                exact ih46 y1a (y2a + 1) d_throwna d_useda d_usedBya _ _ ls hl hP hD hS hm
              · replace hm := if_t c9 hm
                refine lv_aload_n hx hb d_D_undo_64 rfl (lv_at hl 0 rfl) ?_
                refine va_get (D := (dC, dI)) (ci := 5) (v := .ref dq13) (C := R_D) (T := F_D) (N := 20) hx hb hts hk1 hown hK hP 0 rfl rfl 12 (by decide) hk3 (fun _ h9 => h9) rfl d_D_undo_65 ?_
                refine lv_iload_n hx hb d_D_undo_68 rfl (lv_at hl 2 rfl) ?_
                refine lv_iconst (v := (-1)) hx hb d_D_undo_69 (by decide) ?_
                obtain ⟨h9, hm⟩ := gd hm
                refine va_iast hx hb hK hP hD hS 6 0 rfl rfl h9 d_D_undo_70 (fun H locs hP hD hS => ?_)
                have hP : va_P (dC, dI) classes [(dq, .inr (5, [.int d_throwna, .int d_today, .int d_cut, .int d_aging, .int d_saleFrom, .int d_pieces, .int d_orders, .ref dq8, .ref dq9, .ref dq10, .ref dq11, .ref dq12, .ref dq13, .ref dq14, .ref dq15, .int d_ran, .int d_sum, .ref dq18, .ref dq19, .ref dq20])), (dq8, .inl (cI, 40, .inl d_piece)), (dq9, .inl (cI, 40, .inl d_order)), (dq10, .inl (cI, 10, .inl d_came)), (dq11, .inl (cI, 100, .inl d_worth)), (dq12, .inl (cZ, 10, .inl d_useda)), (dq13, .inl (cI, 10, .inl (upd d_usedBya y2a.toNatClampNeg (-1)))), (dq14, .inl (cI, 10, .inl d_reservedFor)), (dq15, .inl (cI, 10, .inl d_reservedTo)), (dq18, .inl (cI, 10, .inl d_pieceDual)), (dq19, .inl (cI, 10, .inl d_orderDual)), (dq20, .inl (cJ, 11264, .inr (.inl d_table)))] H := hP
                have hD : va_D A [(dq, .inr (5, [.int d_throwna, .int d_today, .int d_cut, .int d_aging, .int d_saleFrom, .int d_pieces, .int d_orders, .ref dq8, .ref dq9, .ref dq10, .ref dq11, .ref dq12, .ref dq13, .ref dq14, .ref dq15, .int d_ran, .int d_sum, .ref dq18, .ref dq19, .ref dq20])), (dq8, .inl (cI, 40, .inl d_piece)), (dq9, .inl (cI, 40, .inl d_order)), (dq10, .inl (cI, 10, .inl d_came)), (dq11, .inl (cI, 100, .inl d_worth)), (dq12, .inl (cZ, 10, .inl d_useda)), (dq13, .inl (cI, 10, .inl (upd d_usedBya y2a.toNatClampNeg (-1)))), (dq14, .inl (cI, 10, .inl d_reservedFor)), (dq15, .inl (cI, 10, .inl d_reservedTo)), (dq18, .inl (cI, 10, .inl d_pieceDual)), (dq19, .inl (cI, 10, .inl d_orderDual)), (dq20, .inl (cJ, 11264, .inr (.inl d_table)))] := hD
                refine lv_iinc (v := (y2a + 1)) (lv' := [(2, .int (y2a + 1)), (0, .ref dq), (1, .int y1a)]) hx hb d_D_undo_71 hl (k := 2) rfl rfl (by decide) rfl (fun ls hl => ?_)
                refine lv_goto (tgt := 46) hx hb d_D_undo_74 (by decide) ?_
                have hl : lv_has ls 3 [(0, .ref dq), (1, .int y1a), (2, .int (y2a + 1))] := lv_sub hl [1, 2, 0] rfl
                exact ih46 y1a (y2a + 1) d_throwna d_useda (upd d_usedBya y2a.toNatClampNeg (-1)) _ _ ls hl hP hD hS hm
        have hl : lv_has ls 3 [(0, .ref dq), (1, .int x1), (2, .int 0)] := lv_sub hl [1, 2, 0] rfl
        refine key46 _ (fun y1a y2a d_throwna d_useda d_usedBya H locs ls hl hP hD hS hm => ?_) N x1 0 u7 (upd d_used x1.toNatClampNeg (vp_nar .boolean 0)) d_usedBy _ _ ls hl hP hD hS hm
        try dsimp only at hm
        cases hm
        refine W.widen (k := 0) (n := 0) (Nat.le_of_ble_eq_true rfl) (Nat.le_of_ble_eq_true rfl) ?_
        exact W.vret hx hb hr (fun t ht hW => ⟨⟨(), rfl, trivial, by rw [ht]; exact hP, va_K.moved hW.alike hK, hD⟩, hS.F ht⟩) hS.2.2 d_D_undo_77
      · replace hm := if_t c9 hm
        cases hm
        refine W.widen (k := 0) (n := 0) (Nat.le_of_ble_eq_true rfl) (Nat.le_of_ble_eq_true rfl) ?_
        exact W.vret hx hb hr (fun t ht hW => ⟨⟨(), rfl, trivial, by rw [ht]; exact hP, va_K.moved hW.alike hK, hD⟩, hS.F ht⟩) hS.2.2 d_D_undo_36
    · replace hm := if_f c9 hm
      refine lv_iconst (v := 1) hx hb d_D_undo_23 (by decide) ?_
      refine lv_goto (tgt := 28) hx hb d_D_undo_24 (by decide) ?_
      refine lv_iconst (v := 1) hx hb d_D_undo_28 (by decide) ?_
      refine lv_iconst (v := 1) hx hb d_D_undo_29 (by decide) ?_
      obtain ⟨⟨r9, u10⟩, hc, hm⟩ := bd hm
      try dsimp only at hm
      have hPc := hP.sub (ws' := [(dq, .inr (5, [.int d_thrown, .int d_today, .int d_cut, .int d_aging, .int d_saleFrom, .int d_pieces, .int d_orders, .ref dq8, .ref dq9, .ref dq10, .ref dq11, .ref dq12, .ref dq13, .ref dq14, .ref dq15, .int d_ran, .int d_sum, .ref dq18, .ref dq19, .ref dq20])), (dq8, .inl (cI, 40, .inl d_piece)), (dq9, .inl (cI, 40, .inl d_order)), (dq10, .inl (cI, 10, .inl d_came)), (dq11, .inl (cI, 100, .inl d_worth)), (dq12, .inl (cZ, 10, .inl d_used)), (dq13, .inl (cI, 10, .inl d_usedBy)), (dq14, .inl (cI, 10, .inl d_reservedFor)), (dq15, .inl (cI, 10, .inl d_reservedTo)), (dq18, .inl (cI, 10, .inl d_pieceDual)), (dq19, .inl (cI, 10, .inl d_orderDual)), (dq20, .inl (cJ, 11264, .inr (.inl d_table)))]) [0, 1, 2, 3, 4, 5, 6, 7, 8, 9, 10, 11] rfl
      have hDc := hD.sub (ws' := [(dq, .inr (5, [.int d_thrown, .int d_today, .int d_cut, .int d_aging, .int d_saleFrom, .int d_pieces, .int d_orders, .ref dq8, .ref dq9, .ref dq10, .ref dq11, .ref dq12, .ref dq13, .ref dq14, .ref dq15, .int d_ran, .int d_sum, .ref dq18, .ref dq19, .ref dq20])), (dq8, .inl (cI, 40, .inl d_piece)), (dq9, .inl (cI, 40, .inl d_order)), (dq10, .inl (cI, 10, .inl d_came)), (dq11, .inl (cI, 100, .inl d_worth)), (dq12, .inl (cZ, 10, .inl d_used)), (dq13, .inl (cI, 10, .inl d_usedBy)), (dq14, .inl (cI, 10, .inl d_reservedFor)), (dq15, .inl (cI, 10, .inl d_reservedTo)), (dq18, .inl (cI, 10, .inl d_pieceDual)), (dq19, .inl (cI, 10, .inl d_orderDual)), (dq20, .inl (cJ, 11264, .inr (.inl d_table)))]) [0, 1, 2, 3, 4, 5, 6, 7, 8, 9, 10, 11] (by decide) rfl
      have hFc := va_free (wc := [(dq, .inr (5, [.int d_thrown, .int d_today, .int d_cut, .int d_aging, .int d_saleFrom, .int d_pieces, .int d_orders, .ref dq8, .ref dq9, .ref dq10, .ref dq11, .ref dq12, .ref dq13, .ref dq14, .ref dq15, .int d_ran, .int d_sum, .ref dq18, .ref dq19, .ref dq20])), (dq8, .inl (cI, 40, .inl d_piece)), (dq9, .inl (cI, 40, .inl d_order)), (dq10, .inl (cI, 10, .inl d_came)), (dq11, .inl (cI, 100, .inl d_worth)), (dq12, .inl (cZ, 10, .inl d_used)), (dq13, .inl (cI, 10, .inl d_usedBy)), (dq14, .inl (cI, 10, .inl d_reservedFor)), (dq15, .inl (cI, 10, .inl d_reservedTo)), (dq18, .inl (cI, 10, .inl d_pieceDual)), (dq19, .inl (cI, 10, .inl d_orderDual)), (dq20, .inl (cJ, 11264, .inr (.inl d_table)))]) hD hS hA [0, 1, 2, 3, 4, 5, 6, 7, 8, 9, 10, 11] rfl
      refine va_calli (va_runV (As := [.int r1, .int 1, .int 1, .int 1]) (rest := []) ⟨hx, hb, hml, hown, hts⟩ (c_D_goes l dC dI cI cZ cJ dq dq8 dq9 dq10 dq11 dq12 dq13 dq14 dq15 dq18 dq19 dq20 s.heap.size d_thrown d_today d_cut d_aging d_saleFrom d_pieces d_orders d_piece d_order d_came d_worth d_used d_usedBy d_reservedFor d_reservedTo d_ran d_sum d_pieceDual d_orderDual d_table r1 1 1 1 N (r9, u10) hc) (cwV 4 hts (gV (w0 670 rfl) (w0 671 rfl) (w0 18 rfl) (w0 33 rfl) (w0 672 rfl)) rfl rfl rfl q_D_goes ⟨Nat.le_of_ble_eq_true rfl, Nat.le_of_ble_eq_true rfl⟩) (wr_preV hK hPc hDc hN 5 0 (R_D, F_D, 20) rfl rfl) rfl rfl hl.1 rfl (lv_room (Nat.le_of_ble_eq_true rfl)) d_D_undo_30 ⟨Nat.le_of_ble_eq_true rfl, Nat.le_of_ble_eq_true rfl⟩) hS (fun q _ h => hFc q h) hFc (fun r9 u t H1 locs ht hvm hw hB hz1 hk1 hS => ?_)
      subst hw
      obtain ⟨hP1, hK1, hD1⟩ := hB
      rw [ht] at hP1
      obtain ⟨hP, hD⟩ := va_join (wr := []) (w1 := [(dq, .inr (5, [.int u10, .int d_today, .int d_cut, .int d_aging, .int d_saleFrom, .int d_pieces, .int d_orders, .ref dq8, .ref dq9, .ref dq10, .ref dq11, .ref dq12, .ref dq13, .ref dq14, .ref dq15, .int d_ran, .int d_sum, .ref dq18, .ref dq19, .ref dq20])), (dq8, .inl (cI, 40, .inl d_piece)), (dq9, .inl (cI, 40, .inl d_order)), (dq10, .inl (cI, 10, .inl d_came)), (dq11, .inl (cI, 100, .inl d_worth)), (dq12, .inl (cZ, 10, .inl d_used)), (dq13, .inl (cI, 10, .inl d_usedBy)), (dq14, .inl (cI, 10, .inl d_reservedFor)), (dq15, .inl (cI, 10, .inl d_reservedTo)), (dq18, .inl (cI, 10, .inl d_pieceDual)), (dq19, .inl (cI, 10, .inl d_orderDual)), (dq20, .inl (cJ, 11264, .inr (.inl d_table)))]) hP hD [0, 1, 2, 3, 4, 5, 6, 7, 8, 9, 10, 11] [] rfl rfl (by decide) (by decide) hk1 hFc hP1 hD1
      generalize H1 = H at hP hS ⊢
      have hP : va_P (dC, dI) classes [(dq, .inr (5, [.int u10, .int d_today, .int d_cut, .int d_aging, .int d_saleFrom, .int d_pieces, .int d_orders, .ref dq8, .ref dq9, .ref dq10, .ref dq11, .ref dq12, .ref dq13, .ref dq14, .ref dq15, .int d_ran, .int d_sum, .ref dq18, .ref dq19, .ref dq20])), (dq8, .inl (cI, 40, .inl d_piece)), (dq9, .inl (cI, 40, .inl d_order)), (dq10, .inl (cI, 10, .inl d_came)), (dq11, .inl (cI, 100, .inl d_worth)), (dq12, .inl (cZ, 10, .inl d_used)), (dq13, .inl (cI, 10, .inl d_usedBy)), (dq14, .inl (cI, 10, .inl d_reservedFor)), (dq15, .inl (cI, 10, .inl d_reservedTo)), (dq18, .inl (cI, 10, .inl d_pieceDual)), (dq19, .inl (cI, 10, .inl d_orderDual)), (dq20, .inl (cJ, 11264, .inr (.inl d_table)))] H := hP
      have hD : va_D A [(dq, .inr (5, [.int u10, .int d_today, .int d_cut, .int d_aging, .int d_saleFrom, .int d_pieces, .int d_orders, .ref dq8, .ref dq9, .ref dq10, .ref dq11, .ref dq12, .ref dq13, .ref dq14, .ref dq15, .int d_ran, .int d_sum, .ref dq18, .ref dq19, .ref dq20])), (dq8, .inl (cI, 40, .inl d_piece)), (dq9, .inl (cI, 40, .inl d_order)), (dq10, .inl (cI, 10, .inl d_came)), (dq11, .inl (cI, 100, .inl d_worth)), (dq12, .inl (cZ, 10, .inl d_used)), (dq13, .inl (cI, 10, .inl d_usedBy)), (dq14, .inl (cI, 10, .inl d_reservedFor)), (dq15, .inl (cI, 10, .inl d_reservedTo)), (dq18, .inl (cI, 10, .inl d_pieceDual)), (dq19, .inl (cI, 10, .inl d_orderDual)), (dq20, .inl (cJ, 11264, .inr (.inl d_table)))] := hD
      clear hP1 hD1 hPc hDc hFc hk1 hz1
      refine lv_if_ne (tgt := 37) hx hb d_D_undo_33 (by decide) (fun c9 => ?_) (fun c9 => ?_)
      · replace hm := if_f c9 hm
        refine lv_aload_n hx hb d_D_undo_37 rfl (lv_at hl 0 rfl) ?_
        refine va_get (D := (dC, dI)) (ci := 5) (v := .ref dq12) (C := R_D) (T := F_D) (N := 20) hx hb hts hk1 hown hK hP 0 rfl rfl 11 (by decide) hk0 (fun _ h9 => h9) rfl d_D_undo_38 ?_
        refine lv_iload_n hx hb d_D_undo_41 rfl (lv_at hl 1 rfl) ?_
        refine lv_iconst (v := 0) hx hb d_D_undo_42 (by decide) ?_
        obtain ⟨h9, hm⟩ := gd hm
        refine va_zast hx hb hK hP hD hS 5 1 rfl rfl h9 d_D_undo_43 (fun H locs hP hD hS => ?_)
        have hP : va_P (dC, dI) classes [(dq, .inr (5, [.int u10, .int d_today, .int d_cut, .int d_aging, .int d_saleFrom, .int d_pieces, .int d_orders, .ref dq8, .ref dq9, .ref dq10, .ref dq11, .ref dq12, .ref dq13, .ref dq14, .ref dq15, .int d_ran, .int d_sum, .ref dq18, .ref dq19, .ref dq20])), (dq8, .inl (cI, 40, .inl d_piece)), (dq9, .inl (cI, 40, .inl d_order)), (dq10, .inl (cI, 10, .inl d_came)), (dq11, .inl (cI, 100, .inl d_worth)), (dq12, .inl (cZ, 10, .inl (upd d_used x1.toNatClampNeg (vp_nar .boolean 0)))), (dq13, .inl (cI, 10, .inl d_usedBy)), (dq14, .inl (cI, 10, .inl d_reservedFor)), (dq15, .inl (cI, 10, .inl d_reservedTo)), (dq18, .inl (cI, 10, .inl d_pieceDual)), (dq19, .inl (cI, 10, .inl d_orderDual)), (dq20, .inl (cJ, 11264, .inr (.inl d_table)))] H := hP
        have hD : va_D A [(dq, .inr (5, [.int u10, .int d_today, .int d_cut, .int d_aging, .int d_saleFrom, .int d_pieces, .int d_orders, .ref dq8, .ref dq9, .ref dq10, .ref dq11, .ref dq12, .ref dq13, .ref dq14, .ref dq15, .int d_ran, .int d_sum, .ref dq18, .ref dq19, .ref dq20])), (dq8, .inl (cI, 40, .inl d_piece)), (dq9, .inl (cI, 40, .inl d_order)), (dq10, .inl (cI, 10, .inl d_came)), (dq11, .inl (cI, 100, .inl d_worth)), (dq12, .inl (cZ, 10, .inl (upd d_used x1.toNatClampNeg (vp_nar .boolean 0)))), (dq13, .inl (cI, 10, .inl d_usedBy)), (dq14, .inl (cI, 10, .inl d_reservedFor)), (dq15, .inl (cI, 10, .inl d_reservedTo)), (dq18, .inl (cI, 10, .inl d_pieceDual)), (dq19, .inl (cI, 10, .inl d_orderDual)), (dq20, .inl (cJ, 11264, .inr (.inl d_table)))] := hD
        refine lv_iconst (v := 0) hx hb d_D_undo_44 (by decide) ?_
        refine lv_istore_n (lv' := [(2, .int 0), (0, .ref dq), (1, .int x1)]) hx hb d_D_undo_45 rfl hl (by decide) rfl (fun ls hl => ?_)
        have key46 : ∀ (K : Int32 → Int32 → Int32 → (Nat → Int32) → (Nat → Int32) → Option (Int32 × (Nat → Int32) × (Nat → Int32))) (_ : ∀ (y1a : Int32) (y2a : Int32) (d_throwna : Int32) (d_useda : Nat → Int32) (d_usedBya : Nat → Int32) (H : Heap) (locs : List Loc) (ls : Array Slot), lv_has ls 3 [(0, .ref dq), (1, .int y1a), (2, .int y2a)] → va_P (dC, dI) classes [(dq, .inr (5, [.int d_throwna, .int d_today, .int d_cut, .int d_aging, .int d_saleFrom, .int d_pieces, .int d_orders, .ref dq8, .ref dq9, .ref dq10, .ref dq11, .ref dq12, .ref dq13, .ref dq14, .ref dq15, .int d_ran, .int d_sum, .ref dq18, .ref dq19, .ref dq20])), (dq8, .inl (cI, 40, .inl d_piece)), (dq9, .inl (cI, 40, .inl d_order)), (dq10, .inl (cI, 10, .inl d_came)), (dq11, .inl (cI, 100, .inl d_worth)), (dq12, .inl (cZ, 10, .inl d_useda)), (dq13, .inl (cI, 10, .inl d_usedBya)), (dq14, .inl (cI, 10, .inl d_reservedFor)), (dq15, .inl (cI, 10, .inl d_reservedTo)), (dq18, .inl (cI, 10, .inl d_pieceDual)), (dq19, .inl (cI, 10, .inl d_orderDual)), (dq20, .inl (cJ, 11264, .inr (.inl d_table)))] H → va_D A [(dq, .inr (5, [.int d_throwna, .int d_today, .int d_cut, .int d_aging, .int d_saleFrom, .int d_pieces, .int d_orders, .ref dq8, .ref dq9, .ref dq10, .ref dq11, .ref dq12, .ref dq13, .ref dq14, .ref dq15, .int d_ran, .int d_sum, .ref dq18, .ref dq19, .ref dq20])), (dq8, .inl (cI, 40, .inl d_piece)), (dq9, .inl (cI, 40, .inl d_order)), (dq10, .inl (cI, 10, .inl d_came)), (dq11, .inl (cI, 100, .inl d_worth)), (dq12, .inl (cZ, 10, .inl d_useda)), (dq13, .inl (cI, 10, .inl d_usedBya)), (dq14, .inl (cI, 10, .inl d_reservedFor)), (dq15, .inl (cI, 10, .inl d_reservedTo)), (dq18, .inl (cI, 10, .inl d_pieceDual)), (dq19, .inl (cI, 10, .inl d_orderDual)), (dq20, .inl (cJ, 11264, .inr (.inl d_table)))] → va_S A s.heap H locs → K y1a y2a d_throwna d_useda d_usedBya = some res → W p l e (headSpec w_D_undo ({ frames := 2, cells := 0, slots := 0, locals := 43 } : Room)).room s m ([.ref dq, .int x1] : List Value).toArray below meth c H locs 0 0 (MQ below (va_Qv (fun _ : Unit => True) (fun _ t => va_P (dC, dI) classes [(dq, .inr (5, [.int res.1, .int d_today, .int d_cut, .int d_aging, .int d_saleFrom, .int d_pieces, .int d_orders, .ref dq8, .ref dq9, .ref dq10, .ref dq11, .ref dq12, .ref dq13, .ref dq14, .ref dq15, .int d_ran, .int d_sum, .ref dq18, .ref dq19, .ref dq20])), (dq8, .inl (cI, 40, .inl d_piece)), (dq9, .inl (cI, 40, .inl d_order)), (dq10, .inl (cI, 10, .inl d_came)), (dq11, .inl (cI, 100, .inl d_worth)), (dq12, .inl (cZ, 10, .inl res.2.1)), (dq13, .inl (cI, 10, .inl res.2.2)), (dq14, .inl (cI, 10, .inl d_reservedFor)), (dq15, .inl (cI, 10, .inl d_reservedTo)), (dq18, .inl (cI, 10, .inl d_pieceDual)), (dq19, .inl (cI, 10, .inl d_orderDual)), (dq20, .inl (cJ, 11264, .inr (.inl d_table)))] t.heap ∧ va_K (dC, dI) classes [(cI, .int), (cZ, .boolean), (cJ, .long)] t ∧ va_D A [(dq, .inr (5, [.int res.1, .int d_today, .int d_cut, .int d_aging, .int d_saleFrom, .int d_pieces, .int d_orders, .ref dq8, .ref dq9, .ref dq10, .ref dq11, .ref dq12, .ref dq13, .ref dq14, .ref dq15, .int d_ran, .int d_sum, .ref dq18, .ref dq19, .ref dq20])), (dq8, .inl (cI, 40, .inl d_piece)), (dq9, .inl (cI, 40, .inl d_order)), (dq10, .inl (cI, 10, .inl d_came)), (dq11, .inl (cI, 100, .inl d_worth)), (dq12, .inl (cZ, 10, .inl res.2.1)), (dq13, .inl (cI, 10, .inl res.2.2)), (dq14, .inl (cI, 10, .inl d_reservedFor)), (dq15, .inl (cI, 10, .inl d_reservedTo)), (dq18, .inl (cI, 10, .inl d_pieceDual)), (dq19, .inl (cI, 10, .inl d_orderDual)), (dq20, .inl (cJ, 11264, .inr (.inl d_table)))]) A) ([.ref dq, .int x1] : List Value).toArray s 0 0 A) (F0 m 77 ls [])) (n : Nat) (y1a : Int32) (y2a : Int32) (d_throwna : Int32) (d_useda : Nat → Int32) (d_usedBya : Nat → Int32) (H : Heap) (locs : List Loc) (ls : Array Slot), lv_has ls 3 [(0, .ref dq), (1, .int y1a), (2, .int y2a)] → va_P (dC, dI) classes [(dq, .inr (5, [.int d_throwna, .int d_today, .int d_cut, .int d_aging, .int d_saleFrom, .int d_pieces, .int d_orders, .ref dq8, .ref dq9, .ref dq10, .ref dq11, .ref dq12, .ref dq13, .ref dq14, .ref dq15, .int d_ran, .int d_sum, .ref dq18, .ref dq19, .ref dq20])), (dq8, .inl (cI, 40, .inl d_piece)), (dq9, .inl (cI, 40, .inl d_order)), (dq10, .inl (cI, 10, .inl d_came)), (dq11, .inl (cI, 100, .inl d_worth)), (dq12, .inl (cZ, 10, .inl d_useda)), (dq13, .inl (cI, 10, .inl d_usedBya)), (dq14, .inl (cI, 10, .inl d_reservedFor)), (dq15, .inl (cI, 10, .inl d_reservedTo)), (dq18, .inl (cI, 10, .inl d_pieceDual)), (dq19, .inl (cI, 10, .inl d_orderDual)), (dq20, .inl (cJ, 11264, .inr (.inl d_table)))] H → va_D A [(dq, .inr (5, [.int d_throwna, .int d_today, .int d_cut, .int d_aging, .int d_saleFrom, .int d_pieces, .int d_orders, .ref dq8, .ref dq9, .ref dq10, .ref dq11, .ref dq12, .ref dq13, .ref dq14, .ref dq15, .int d_ran, .int d_sum, .ref dq18, .ref dq19, .ref dq20])), (dq8, .inl (cI, 40, .inl d_piece)), (dq9, .inl (cI, 40, .inl d_order)), (dq10, .inl (cI, 10, .inl d_came)), (dq11, .inl (cI, 100, .inl d_worth)), (dq12, .inl (cZ, 10, .inl d_useda)), (dq13, .inl (cI, 10, .inl d_usedBya)), (dq14, .inl (cI, 10, .inl d_reservedFor)), (dq15, .inl (cI, 10, .inl d_reservedTo)), (dq18, .inl (cI, 10, .inl d_pieceDual)), (dq19, .inl (cI, 10, .inl d_orderDual)), (dq20, .inl (cJ, 11264, .inr (.inl d_table)))] → va_S A s.heap H locs → L_D_undo_46 N d_orders K n y1a y2a d_throwna d_useda d_usedBya = some res → W p l e (headSpec w_D_undo ({ frames := 2, cells := 0, slots := 0, locals := 43 } : Room)).room s m ([.ref dq, .int x1] : List Value).toArray below meth c H locs 0 0 (MQ below (va_Qv (fun _ : Unit => True) (fun _ t => va_P (dC, dI) classes [(dq, .inr (5, [.int res.1, .int d_today, .int d_cut, .int d_aging, .int d_saleFrom, .int d_pieces, .int d_orders, .ref dq8, .ref dq9, .ref dq10, .ref dq11, .ref dq12, .ref dq13, .ref dq14, .ref dq15, .int d_ran, .int d_sum, .ref dq18, .ref dq19, .ref dq20])), (dq8, .inl (cI, 40, .inl d_piece)), (dq9, .inl (cI, 40, .inl d_order)), (dq10, .inl (cI, 10, .inl d_came)), (dq11, .inl (cI, 100, .inl d_worth)), (dq12, .inl (cZ, 10, .inl res.2.1)), (dq13, .inl (cI, 10, .inl res.2.2)), (dq14, .inl (cI, 10, .inl d_reservedFor)), (dq15, .inl (cI, 10, .inl d_reservedTo)), (dq18, .inl (cI, 10, .inl d_pieceDual)), (dq19, .inl (cI, 10, .inl d_orderDual)), (dq20, .inl (cJ, 11264, .inr (.inl d_table)))] t.heap ∧ va_K (dC, dI) classes [(cI, .int), (cZ, .boolean), (cJ, .long)] t ∧ va_D A [(dq, .inr (5, [.int res.1, .int d_today, .int d_cut, .int d_aging, .int d_saleFrom, .int d_pieces, .int d_orders, .ref dq8, .ref dq9, .ref dq10, .ref dq11, .ref dq12, .ref dq13, .ref dq14, .ref dq15, .int d_ran, .int d_sum, .ref dq18, .ref dq19, .ref dq20])), (dq8, .inl (cI, 40, .inl d_piece)), (dq9, .inl (cI, 40, .inl d_order)), (dq10, .inl (cI, 10, .inl d_came)), (dq11, .inl (cI, 100, .inl d_worth)), (dq12, .inl (cZ, 10, .inl res.2.1)), (dq13, .inl (cI, 10, .inl res.2.2)), (dq14, .inl (cI, 10, .inl d_reservedFor)), (dq15, .inl (cI, 10, .inl d_reservedTo)), (dq18, .inl (cI, 10, .inl d_pieceDual)), (dq19, .inl (cI, 10, .inl d_orderDual)), (dq20, .inl (cJ, 11264, .inr (.inl d_table)))]) A) ([.ref dq, .int x1] : List Value).toArray s 0 0 A) (F0 m 46 ls []) := by
          intro K hK46 n
          induction n with
          | zero => intro y1a y2a d_throwna d_useda d_usedBya H locs ls hl hP hD hS hm; exact absurd hm (by simp [L_D_undo_46])
          | succ n ih46 =>
            intro y1a y2a d_throwna d_useda d_usedBya H locs ls hl hP hD hS hm
            rw [L_D_undo_46] at hm
            refine lv_iload_n hx hb d_D_undo_46 rfl (lv_at hl 2 rfl) ?_
            refine lv_aload_n hx hb d_D_undo_47 rfl (lv_at hl 0 rfl) ?_
            refine va_get (D := (dC, dI)) (ci := 5) (v := .int d_orders) (C := R_D) (T := F_D) (N := 20) hx hb hts hk1 hown hK hP 0 rfl rfl 6 (by decide) hk2 (fun _ h9 => h9) rfl d_D_undo_48 ?_
            refine lv_icmp_ge (tgt := 77) hx hb d_D_undo_51 (by decide) (fun c9 => ?_) (fun c9 => ?_)
            · replace hm := if_t c9 hm
              have hl : lv_has ls 3 [(0, .ref dq), (1, .int y1a), (2, .int y2a)] := lv_sub hl [0, 1, 2] rfl
              exact hK46 y1a y2a d_throwna d_useda d_usedBya _ _ ls hl hP hD hS hm
            · replace hm := if_f c9 hm
              refine lv_aload_n hx hb d_D_undo_54 rfl (lv_at hl 0 rfl) ?_
              refine va_get (D := (dC, dI)) (ci := 5) (v := .ref dq13) (C := R_D) (T := F_D) (N := 20) hx hb hts hk1 hown hK hP 0 rfl rfl 12 (by decide) hk3 (fun _ h9 => h9) rfl d_D_undo_55 ?_
              refine lv_iload_n hx hb d_D_undo_58 rfl (lv_at hl 2 rfl) ?_
              obtain ⟨h9, hm⟩ := gd hm
              refine va_iald hx hb hK hP 6 0 rfl rfl h9 d_D_undo_59 ?_
              refine lv_iload_n hx hb d_D_undo_60 rfl (lv_at hl 1 rfl) ?_
              refine lv_icmp_ne (tgt := 71) hx hb d_D_undo_61 (by decide) (fun c9 => ?_) (fun c9 => ?_)
              · replace hm := if_f c9 hm
                refine lv_iinc (v := (y2a + 1)) (lv' := [(2, .int (y2a + 1)), (0, .ref dq), (1, .int y1a)]) hx hb d_D_undo_71 hl (k := 2) rfl rfl (by decide) rfl (fun ls hl => ?_)
                refine lv_goto (tgt := 46) hx hb d_D_undo_74 (by decide) ?_
                have hl : lv_has ls 3 [(0, .ref dq), (1, .int y1a), (2, .int (y2a + 1))] := lv_sub hl [1, 2, 0] rfl
                exact ih46 y1a (y2a + 1) d_throwna d_useda d_usedBya _ _ ls hl hP hD hS hm
              · replace hm := if_t c9 hm
                refine lv_aload_n hx hb d_D_undo_64 rfl (lv_at hl 0 rfl) ?_
                refine va_get (D := (dC, dI)) (ci := 5) (v := .ref dq13) (C := R_D) (T := F_D) (N := 20) hx hb hts hk1 hown hK hP 0 rfl rfl 12 (by decide) hk3 (fun _ h9 => h9) rfl d_D_undo_65 ?_
                refine lv_iload_n hx hb d_D_undo_68 rfl (lv_at hl 2 rfl) ?_
                refine lv_iconst (v := (-1)) hx hb d_D_undo_69 (by decide) ?_
                obtain ⟨h9, hm⟩ := gd hm
                refine va_iast hx hb hK hP hD hS 6 0 rfl rfl h9 d_D_undo_70 (fun H locs hP hD hS => ?_)
                have hP : va_P (dC, dI) classes [(dq, .inr (5, [.int d_throwna, .int d_today, .int d_cut, .int d_aging, .int d_saleFrom, .int d_pieces, .int d_orders, .ref dq8, .ref dq9, .ref dq10, .ref dq11, .ref dq12, .ref dq13, .ref dq14, .ref dq15, .int d_ran, .int d_sum, .ref dq18, .ref dq19, .ref dq20])), (dq8, .inl (cI, 40, .inl d_piece)), (dq9, .inl (cI, 40, .inl d_order)), (dq10, .inl (cI, 10, .inl d_came)), (dq11, .inl (cI, 100, .inl d_worth)), (dq12, .inl (cZ, 10, .inl d_useda)), (dq13, .inl (cI, 10, .inl (upd d_usedBya y2a.toNatClampNeg (-1)))), (dq14, .inl (cI, 10, .inl d_reservedFor)), (dq15, .inl (cI, 10, .inl d_reservedTo)), (dq18, .inl (cI, 10, .inl d_pieceDual)), (dq19, .inl (cI, 10, .inl d_orderDual)), (dq20, .inl (cJ, 11264, .inr (.inl d_table)))] H := hP
                have hD : va_D A [(dq, .inr (5, [.int d_throwna, .int d_today, .int d_cut, .int d_aging, .int d_saleFrom, .int d_pieces, .int d_orders, .ref dq8, .ref dq9, .ref dq10, .ref dq11, .ref dq12, .ref dq13, .ref dq14, .ref dq15, .int d_ran, .int d_sum, .ref dq18, .ref dq19, .ref dq20])), (dq8, .inl (cI, 40, .inl d_piece)), (dq9, .inl (cI, 40, .inl d_order)), (dq10, .inl (cI, 10, .inl d_came)), (dq11, .inl (cI, 100, .inl d_worth)), (dq12, .inl (cZ, 10, .inl d_useda)), (dq13, .inl (cI, 10, .inl (upd d_usedBya y2a.toNatClampNeg (-1)))), (dq14, .inl (cI, 10, .inl d_reservedFor)), (dq15, .inl (cI, 10, .inl d_reservedTo)), (dq18, .inl (cI, 10, .inl d_pieceDual)), (dq19, .inl (cI, 10, .inl d_orderDual)), (dq20, .inl (cJ, 11264, .inr (.inl d_table)))] := hD
                refine lv_iinc (v := (y2a + 1)) (lv' := [(2, .int (y2a + 1)), (0, .ref dq), (1, .int y1a)]) hx hb d_D_undo_71 hl (k := 2) rfl rfl (by decide) rfl (fun ls hl => ?_)
                refine lv_goto (tgt := 46) hx hb d_D_undo_74 (by decide) ?_
                have hl : lv_has ls 3 [(0, .ref dq), (1, .int y1a), (2, .int (y2a + 1))] := lv_sub hl [1, 2, 0] rfl
                exact ih46 y1a (y2a + 1) d_throwna d_useda (upd d_usedBya y2a.toNatClampNeg (-1)) _ _ ls hl hP hD hS hm
        have hl : lv_has ls 3 [(0, .ref dq), (1, .int x1), (2, .int 0)] := lv_sub hl [1, 2, 0] rfl
        refine key46 _ (fun y1a y2a d_throwna d_useda d_usedBya H locs ls hl hP hD hS hm => ?_) N x1 0 u10 (upd d_used x1.toNatClampNeg (vp_nar .boolean 0)) d_usedBy _ _ ls hl hP hD hS hm
        try dsimp only at hm
        cases hm
        refine W.widen (k := 0) (n := 0) (Nat.le_of_ble_eq_true rfl) (Nat.le_of_ble_eq_true rfl) ?_
        exact W.vret hx hb hr (fun t ht hW => ⟨⟨(), rfl, trivial, by rw [ht]; exact hP, va_K.moved hW.alike hK, hD⟩, hS.F ht⟩) hS.2.2 d_D_undo_77
      · replace hm := if_t c9 hm
        cases hm
        refine W.widen (k := 0) (n := 0) (Nat.le_of_ble_eq_true rfl) (Nat.le_of_ble_eq_true rfl) ?_
        exact W.vret hx hb hr (fun t ht hW => ⟨⟨(), rfl, trivial, by rw [ht]; exact hP, va_K.moved hW.alike hK, hD⟩, hS.F ht⟩) hS.2.2 d_D_undo_36

def w_D_sale : List Cond := .code y_D_sale b_D_sale 5 (some .int) :: W0
theorem q_D_sale : y_D_sale.cls = R_D ∧ y_D_sale.cls ≠ "java/lang/invoke/MethodHandle" ∧ y_D_sale.cls ≠ "java/lang/invoke/VarHandle" ∧ (parseMethodDescriptor y_D_sale.desc).map (fun d => d.parameters.length) = some 1 := by decide +kernel
def L_D_sale_41 (N : Nat) (d_today : Int32) (d_pieces : Int32) (d_came : Nat → Int32) (d_used : Nat → Int32) (d_reservedFor : Nat → Int32) (d_reservedTo : Nat → Int32) (K : Int32 → Int32 → Int32 → Int32 → Int32 → Option (Int32 × Int32)) : Nat → Int32 → Int32 → Int32 → Int32 → Int32 → Option (Int32 × Int32)
  | 0, _, _, _, _, _ => none
  | n + 1, y1b, y2b, y3b, y4b, d_thrownb =>
    (if d_pieces ≤ y4b then
    K y1b y2b y3b y4b d_thrownb
   else
    (if y4b < 0 ∨ 10 ≤ y4b.toNatClampNeg then none else
    (if (d_came y4b.toNatClampNeg) = y3b then
      (if y4b < 0 ∨ 10 ≤ y4b.toNatClampNeg then none else
      (if (d_used y4b.toNatClampNeg) = 0 then
        ((m_D_reservation d_today d_reservedFor d_reservedTo y4b).bind fun r3 =>
          (if r3 < 0 then
            (if y2b = 0 then
              some (y4b, d_thrownb)
             else
              L_D_sale_41 N d_today d_pieces d_came d_used d_reservedFor d_reservedTo K n y1b (y2b + (-1)) y3b (y4b + 1) d_thrownb)
           else
            L_D_sale_41 N d_today d_pieces d_came d_used d_reservedFor d_reservedTo K n y1b y2b y3b (y4b + 1) d_thrownb))
       else
        L_D_sale_41 N d_today d_pieces d_came d_used d_reservedFor d_reservedTo K n y1b y2b y3b (y4b + 1) d_thrownb))
     else
      L_D_sale_41 N d_today d_pieces d_came d_used d_reservedFor d_reservedTo K n y1b y2b y3b (y4b + 1) d_thrownb)))
def L_D_sale_25 (N : Nat) (d_today : Int32) (d_saleFrom : Int32) (d_pieces : Int32) (d_came : Nat → Int32) (d_used : Nat → Int32) (d_reservedFor : Nat → Int32) (d_reservedTo : Nat → Int32) (K : Int32 → Int32 → Int32 → Int32 → Option (Int32 × Int32)) : Nat → Int32 → Int32 → Int32 → Int32 → Option (Int32 × Int32)
  | 0, _, _, _, _ => none
  | n + 1, y1a, y2a, y3a, d_throwna =>
    (if (d_today - d_saleFrom) < y3a then
    K y1a y2a y3a d_throwna
   else
    L_D_sale_41 N d_today d_pieces d_came d_used d_reservedFor d_reservedTo (fun y1b y2b y3b y4b d_thrownb =>
      L_D_sale_25 N d_today d_saleFrom d_pieces d_came d_used d_reservedFor d_reservedTo K n y1b y2b (y3b + 1) d_thrownb) N y1a y2a y3a 0 d_throwna)
def m_D_sale (N : Nat) (d_today : Int32) (d_saleFrom : Int32) (d_pieces : Int32) (d_came : Nat → Int32) (d_used : Nat → Int32) (d_reservedFor : Nat → Int32) (d_reservedTo : Nat → Int32) (x1 : Int32) : Option (Int32 × Int32) :=
  (if x1 < 0 then
  ((m_D_goes 0 1 1 1).bind fun (r1, u2) =>
    (if r1 = 0 then
      some (0, u2)
     else
      L_D_sale_25 N d_today d_saleFrom d_pieces d_came d_used d_reservedFor d_reservedTo (fun y1a y2a y3a d_throwna =>
        some ((-1), d_throwna)) N x1 x1 0 u2))
 else
  ((m_D_goes 1 1 1 1).bind fun (r6, u7) =>
    (if r6 = 0 then
      some (0, u7)
     else
      L_D_sale_25 N d_today d_saleFrom d_pieces d_came d_used d_reservedFor d_reservedTo (fun y1a y2a y3a d_throwna =>
        some ((-1), d_throwna)) N x1 x1 0 u7)))
set_option maxHeartbeats 4000000 in
set_option maxRecDepth 100000 in
theorem c_D_sale (l : Launch) (dC : Nat → ClassId) (dI : Nat → Nat → Nat) (cI cZ cJ : ClassId) (dq dq8 dq9 dq10 dq11 dq12 dq13 dq14 dq15 dq18 dq19 dq20 : Nat) (sz : Nat) (d_thrown : Int32) (d_today : Int32) (d_cut : Int32) (d_aging : Int32) (d_saleFrom : Int32) (d_pieces : Int32) (d_orders : Int32) (d_piece : Nat → Int32) (d_order : Nat → Int32) (d_came : Nat → Int32) (d_worth : Nat → Int32) (d_used : Nat → Int32) (d_usedBy : Nat → Int32) (d_reservedFor : Nat → Int32) (d_reservedTo : Nat → Int32) (d_ran : Int32) (d_sum : Int32) (d_pieceDual : Nat → Int32) (d_orderDual : Nat → Int32) (d_table : Nat → Int64) (x1 : Int32) (N : Nat) (res : Int32 × Int32) (hm : m_D_sale N d_today d_saleFrom d_pieces d_came d_used d_reservedFor d_reservedTo x1 = some res) : Met l y_D_sale w_D_sale ({ frames := 1, cells := 0, slots := 0, locals := 24 } : Room) (va_Pc [.ref dq, .int x1] (fun U => U.heap.size = sz ∧ va_P (dC, dI) classes [(dq, .inr (5, [.int d_thrown, .int d_today, .int d_cut, .int d_aging, .int d_saleFrom, .int d_pieces, .int d_orders, .ref dq8, .ref dq9, .ref dq10, .ref dq11, .ref dq12, .ref dq13, .ref dq14, .ref dq15, .int d_ran, .int d_sum, .ref dq18, .ref dq19, .ref dq20])), (dq8, .inl (cI, 40, .inl d_piece)), (dq9, .inl (cI, 40, .inl d_order)), (dq10, .inl (cI, 10, .inl d_came)), (dq11, .inl (cI, 100, .inl d_worth)), (dq12, .inl (cZ, 10, .inl d_used)), (dq13, .inl (cI, 10, .inl d_usedBy)), (dq14, .inl (cI, 10, .inl d_reservedFor)), (dq15, .inl (cI, 10, .inl d_reservedTo)), (dq18, .inl (cI, 10, .inl d_pieceDual)), (dq19, .inl (cI, 10, .inl d_orderDual)), (dq20, .inl (cJ, 11264, .inr (.inl d_table)))] U.heap ∧ va_K (dC, dI) classes [(cI, .int), (cZ, .boolean), (cJ, .long)] U ∧ va_D (fun _ => True) [(dq, .inr (5, [.int d_thrown, .int d_today, .int d_cut, .int d_aging, .int d_saleFrom, .int d_pieces, .int d_orders, .ref dq8, .ref dq9, .ref dq10, .ref dq11, .ref dq12, .ref dq13, .ref dq14, .ref dq15, .int d_ran, .int d_sum, .ref dq18, .ref dq19, .ref dq20])), (dq8, .inl (cI, 40, .inl d_piece)), (dq9, .inl (cI, 40, .inl d_order)), (dq10, .inl (cI, 10, .inl d_came)), (dq11, .inl (cI, 100, .inl d_worth)), (dq12, .inl (cZ, 10, .inl d_used)), (dq13, .inl (cI, 10, .inl d_usedBy)), (dq14, .inl (cI, 10, .inl d_reservedFor)), (dq15, .inl (cI, 10, .inl d_reservedTo)), (dq18, .inl (cI, 10, .inl d_pieceDual)), (dq19, .inl (cI, 10, .inl d_orderDual)), (dq20, .inl (cJ, 11264, .inr (.inl d_table)))] ∧ nw U)) (va_Qi (fun (x : Int32) (_ : Unit) => res.1 = x) (fun _ t => va_P (dC, dI) classes [(dq, .inr (5, [.int res.2, .int d_today, .int d_cut, .int d_aging, .int d_saleFrom, .int d_pieces, .int d_orders, .ref dq8, .ref dq9, .ref dq10, .ref dq11, .ref dq12, .ref dq13, .ref dq14, .ref dq15, .int d_ran, .int d_sum, .ref dq18, .ref dq19, .ref dq20])), (dq8, .inl (cI, 40, .inl d_piece)), (dq9, .inl (cI, 40, .inl d_order)), (dq10, .inl (cI, 10, .inl d_came)), (dq11, .inl (cI, 100, .inl d_worth)), (dq12, .inl (cZ, 10, .inl d_used)), (dq13, .inl (cI, 10, .inl d_usedBy)), (dq14, .inl (cI, 10, .inl d_reservedFor)), (dq15, .inl (cI, 10, .inl d_reservedTo)), (dq18, .inl (cI, 10, .inl d_pieceDual)), (dq19, .inl (cI, 10, .inl d_orderDual)), (dq20, .inl (cJ, 11264, .inr (.inl d_table)))] t.heap ∧ va_K (dC, dI) classes [(cI, .int), (cZ, .boolean), (cJ, .long)] t ∧ va_D (va_A [(dq, .inr (5, [.int d_thrown, .int d_today, .int d_cut, .int d_aging, .int d_saleFrom, .int d_pieces, .int d_orders, .ref dq8, .ref dq9, .ref dq10, .ref dq11, .ref dq12, .ref dq13, .ref dq14, .ref dq15, .int d_ran, .int d_sum, .ref dq18, .ref dq19, .ref dq20])), (dq8, .inl (cI, 40, .inl d_piece)), (dq9, .inl (cI, 40, .inl d_order)), (dq10, .inl (cI, 10, .inl d_came)), (dq11, .inl (cI, 100, .inl d_worth)), (dq12, .inl (cZ, 10, .inl d_used)), (dq13, .inl (cI, 10, .inl d_usedBy)), (dq14, .inl (cI, 10, .inl d_reservedFor)), (dq15, .inl (cI, 10, .inl d_reservedTo)), (dq18, .inl (cI, 10, .inl d_pieceDual)), (dq19, .inl (cI, 10, .inl d_orderDual)), (dq20, .inl (cJ, 11264, .inr (.inl d_table)))] sz) [(dq, .inr (5, [.int res.2, .int d_today, .int d_cut, .int d_aging, .int d_saleFrom, .int d_pieces, .int d_orders, .ref dq8, .ref dq9, .ref dq10, .ref dq11, .ref dq12, .ref dq13, .ref dq14, .ref dq15, .int d_ran, .int d_sum, .ref dq18, .ref dq19, .ref dq20])), (dq8, .inl (cI, 40, .inl d_piece)), (dq9, .inl (cI, 40, .inl d_order)), (dq10, .inl (cI, 10, .inl d_came)), (dq11, .inl (cI, 100, .inl d_worth)), (dq12, .inl (cZ, 10, .inl d_used)), (dq13, .inl (cI, 10, .inl d_usedBy)), (dq14, .inl (cI, 10, .inl d_reservedFor)), (dq15, .inl (cI, 10, .inl d_reservedTo)), (dq18, .inl (cI, 10, .inl d_pieceDual)), (dq19, .inl (cI, 10, .inl d_orderDual)), (dq20, .inl (cJ, 11264, .inr (.inl d_table)))]) (va_A [(dq, .inr (5, [.int d_thrown, .int d_today, .int d_cut, .int d_aging, .int d_saleFrom, .int d_pieces, .int d_orders, .ref dq8, .ref dq9, .ref dq10, .ref dq11, .ref dq12, .ref dq13, .ref dq14, .ref dq15, .int d_ran, .int d_sum, .ref dq18, .ref dq19, .ref dq20])), (dq8, .inl (cI, 40, .inl d_piece)), (dq9, .inl (cI, 40, .inl d_order)), (dq10, .inl (cI, 10, .inl d_came)), (dq11, .inl (cI, 100, .inl d_worth)), (dq12, .inl (cZ, 10, .inl d_used)), (dq13, .inl (cI, 10, .inl d_usedBy)), (dq14, .inl (cI, 10, .inl d_reservedFor)), (dq15, .inl (cI, 10, .inl d_reservedTo)), (dq18, .inl (cI, 10, .inl d_pieceDual)), (dq19, .inl (cI, 10, .inl d_orderDual)), (dq20, .inl (cJ, 11264, .inr (.inl d_table)))] sz)) 0 0 (va_A [(dq, .inr (5, [.int d_thrown, .int d_today, .int d_cut, .int d_aging, .int d_saleFrom, .int d_pieces, .int d_orders, .ref dq8, .ref dq9, .ref dq10, .ref dq11, .ref dq12, .ref dq13, .ref dq14, .ref dq15, .int d_ran, .int d_sum, .ref dq18, .ref dq19, .ref dq20])), (dq8, .inl (cI, 40, .inl d_piece)), (dq9, .inl (cI, 40, .inl d_order)), (dq10, .inl (cI, 10, .inl d_came)), (dq11, .inl (cI, 100, .inl d_worth)), (dq12, .inl (cZ, 10, .inl d_used)), (dq13, .inl (cI, 10, .inl d_usedBy)), (dq14, .inl (cI, 10, .inl d_reservedFor)), (dq15, .inl (cI, 10, .inl d_reservedTo)), (dq18, .inl (cI, 10, .inl d_pieceDual)), (dq19, .inl (cI, 10, .inl d_orderDual)), (dq20, .inl (cJ, 11264, .inr (.inl d_table)))] sz) := by
  unfold m_D_sale at hm
  refine Met.ofW (cc := b_D_sale) (maxL := 5) (ret := (some .int)) (by decide) rfl ?_
  intro p e s m args below meth c s₁ B hml hv
  obtain ⟨rfl, hsz, hP, hK, hD0, hN⟩ := hv
  have hx := B.exec
  have hb := B.bytes
  have hr := B.returns
  have hts := atoms_spec (ws := w_D_sale) B.pre
  have hown : s.vm.findClass R_D = some m.cls := findClass_of_methodNamed B.named
  have hlocks := B.notSynchronized
  subst hsz
  have hD := hD0.self (sz := s.heap.size)
  generalize hAe : va_A [(dq, .inr (5, [.int d_thrown, .int d_today, .int d_cut, .int d_aging, .int d_saleFrom, .int d_pieces, .int d_orders, .ref dq8, .ref dq9, .ref dq10, .ref dq11, .ref dq12, .ref dq13, .ref dq14, .ref dq15, .int d_ran, .int d_sum, .ref dq18, .ref dq19, .ref dq20])), (dq8, .inl (cI, 40, .inl d_piece)), (dq9, .inl (cI, 40, .inl d_order)), (dq10, .inl (cI, 10, .inl d_came)), (dq11, .inl (cI, 100, .inl d_worth)), (dq12, .inl (cZ, 10, .inl d_used)), (dq13, .inl (cI, 10, .inl d_usedBy)), (dq14, .inl (cI, 10, .inl d_reservedFor)), (dq15, .inl (cI, 10, .inl d_reservedTo)), (dq18, .inl (cI, 10, .inl d_pieceDual)), (dq19, .inl (cI, 10, .inl d_orderDual)), (dq20, .inl (cJ, 11264, .inr (.inl d_table)))] s.heap.size = A at hD ⊢
  have hA : ∀ q : Nat, s.heap.size ≤ q → A q := fun q h => by rw [← hAe]; exact Or.inr h
  have hS : va_S A s.heap s.heap [] := va_S.rf
  have hk0 := hts (.fieldLink R_D 70 "SurplusMatchModel" "today" "I") (List.mem_cons_of_mem _ (w0 594 rfl))
  have hk1 : ∀ w ∈ w_D, w ∈ w_D_sale := fun w h => List.mem_cons_of_mem _ (i_D w h)
  have hk2 := hts (.fieldLink R_D 7 "SurplusMatchModel" "saleFrom" "I") (List.mem_cons_of_mem _ (w0 597 rfl))
  have hk3 := hts (.fieldLink R_D 52 "SurplusMatchModel" "pieces" "I") (List.mem_cons_of_mem _ (w0 598 rfl))
  have hk4 := hts (.fieldLink R_D 20 "SurplusMatchModel" "came" "[I") (List.mem_cons_of_mem _ (w0 602 rfl))
  have hk5 := hts (.fieldLink R_D 26 "SurplusMatchModel" "used" "[Z") (List.mem_cons_of_mem _ (w0 604 rfl))
  have hl := lv_entry ([.ref dq, .int x1]) (n := 5) (Nat.le_of_ble_eq_true rfl)
  rw [lg_entry_eq]
  generalize (lg_sl ([.ref dq, .int x1]) ++ List.replicate (5 - (lg_sl ([.ref dq, .int x1])).length) Slot.unset).toArray = ls at hl ⊢
  have hl : lv_has ls 5 [(0, .ref dq), (1, .int x1)] := hl
  refine lv_aload_n hx hb d_D_sale_0 rfl (lv_at hl 0 rfl) ?_
  refine lv_iload_n hx hb d_D_sale_1 rfl (lv_at hl 1 rfl) ?_
  refine lv_if_lt (tgt := 9) hx hb d_D_sale_2 (by decide) (fun c9 => ?_) (fun c9 => ?_)
  · replace hm := if_t c9 hm
    refine lv_iconst (v := 0) hx hb d_D_sale_9 (by decide) ?_
    refine lv_iconst (v := 1) hx hb d_D_sale_10 (by decide) ?_
    refine lv_iconst (v := 1) hx hb d_D_sale_11 (by decide) ?_
    refine lv_iconst (v := 1) hx hb d_D_sale_12 (by decide) ?_
    obtain ⟨⟨r1, u2⟩, hc, hm⟩ := bd hm
    try dsimp only at hm
    have hPc := hP.sub (ws' := [(dq, .inr (5, [.int d_thrown, .int d_today, .int d_cut, .int d_aging, .int d_saleFrom, .int d_pieces, .int d_orders, .ref dq8, .ref dq9, .ref dq10, .ref dq11, .ref dq12, .ref dq13, .ref dq14, .ref dq15, .int d_ran, .int d_sum, .ref dq18, .ref dq19, .ref dq20])), (dq8, .inl (cI, 40, .inl d_piece)), (dq9, .inl (cI, 40, .inl d_order)), (dq10, .inl (cI, 10, .inl d_came)), (dq11, .inl (cI, 100, .inl d_worth)), (dq12, .inl (cZ, 10, .inl d_used)), (dq13, .inl (cI, 10, .inl d_usedBy)), (dq14, .inl (cI, 10, .inl d_reservedFor)), (dq15, .inl (cI, 10, .inl d_reservedTo)), (dq18, .inl (cI, 10, .inl d_pieceDual)), (dq19, .inl (cI, 10, .inl d_orderDual)), (dq20, .inl (cJ, 11264, .inr (.inl d_table)))]) [0, 1, 2, 3, 4, 5, 6, 7, 8, 9, 10, 11] rfl
    have hDc := hD.sub (ws' := [(dq, .inr (5, [.int d_thrown, .int d_today, .int d_cut, .int d_aging, .int d_saleFrom, .int d_pieces, .int d_orders, .ref dq8, .ref dq9, .ref dq10, .ref dq11, .ref dq12, .ref dq13, .ref dq14, .ref dq15, .int d_ran, .int d_sum, .ref dq18, .ref dq19, .ref dq20])), (dq8, .inl (cI, 40, .inl d_piece)), (dq9, .inl (cI, 40, .inl d_order)), (dq10, .inl (cI, 10, .inl d_came)), (dq11, .inl (cI, 100, .inl d_worth)), (dq12, .inl (cZ, 10, .inl d_used)), (dq13, .inl (cI, 10, .inl d_usedBy)), (dq14, .inl (cI, 10, .inl d_reservedFor)), (dq15, .inl (cI, 10, .inl d_reservedTo)), (dq18, .inl (cI, 10, .inl d_pieceDual)), (dq19, .inl (cI, 10, .inl d_orderDual)), (dq20, .inl (cJ, 11264, .inr (.inl d_table)))]) [0, 1, 2, 3, 4, 5, 6, 7, 8, 9, 10, 11] (by decide) rfl
    have hFc := va_free (wc := [(dq, .inr (5, [.int d_thrown, .int d_today, .int d_cut, .int d_aging, .int d_saleFrom, .int d_pieces, .int d_orders, .ref dq8, .ref dq9, .ref dq10, .ref dq11, .ref dq12, .ref dq13, .ref dq14, .ref dq15, .int d_ran, .int d_sum, .ref dq18, .ref dq19, .ref dq20])), (dq8, .inl (cI, 40, .inl d_piece)), (dq9, .inl (cI, 40, .inl d_order)), (dq10, .inl (cI, 10, .inl d_came)), (dq11, .inl (cI, 100, .inl d_worth)), (dq12, .inl (cZ, 10, .inl d_used)), (dq13, .inl (cI, 10, .inl d_usedBy)), (dq14, .inl (cI, 10, .inl d_reservedFor)), (dq15, .inl (cI, 10, .inl d_reservedTo)), (dq18, .inl (cI, 10, .inl d_pieceDual)), (dq19, .inl (cI, 10, .inl d_orderDual)), (dq20, .inl (cJ, 11264, .inr (.inl d_table)))]) hD hS hA [0, 1, 2, 3, 4, 5, 6, 7, 8, 9, 10, 11] rfl
    refine va_calli (va_runV (As := [.int 0, .int 1, .int 1, .int 1]) (rest := []) ⟨hx, hb, hml, hown, hts⟩ (c_D_goes l dC dI cI cZ cJ dq dq8 dq9 dq10 dq11 dq12 dq13 dq14 dq15 dq18 dq19 dq20 s.heap.size d_thrown d_today d_cut d_aging d_saleFrom d_pieces d_orders d_piece d_order d_came d_worth d_used d_usedBy d_reservedFor d_reservedTo d_ran d_sum d_pieceDual d_orderDual d_table 0 1 1 1 N (r1, u2) hc) (cwV 4 hts (gV (w0 670 rfl) (w0 671 rfl) (w0 18 rfl) (w0 33 rfl) (w0 672 rfl)) rfl rfl rfl q_D_goes ⟨Nat.le_of_ble_eq_true rfl, Nat.le_of_ble_eq_true rfl⟩) (wr_preV hK hPc hDc hN 5 0 (R_D, F_D, 20) rfl rfl) rfl rfl hl.1 rfl (lv_room (Nat.le_of_ble_eq_true rfl)) d_D_sale_13 ⟨Nat.le_of_ble_eq_true rfl, Nat.le_of_ble_eq_true rfl⟩) hS (fun q _ h => hFc q h) hFc (fun r9 u t H1 locs ht hvm hw hB hz1 hk1 hS => ?_)
    subst hw
    obtain ⟨hP1, hK1, hD1⟩ := hB
    rw [ht] at hP1
    obtain ⟨hP, hD⟩ := va_join (wr := []) (w1 := [(dq, .inr (5, [.int u2, .int d_today, .int d_cut, .int d_aging, .int d_saleFrom, .int d_pieces, .int d_orders, .ref dq8, .ref dq9, .ref dq10, .ref dq11, .ref dq12, .ref dq13, .ref dq14, .ref dq15, .int d_ran, .int d_sum, .ref dq18, .ref dq19, .ref dq20])), (dq8, .inl (cI, 40, .inl d_piece)), (dq9, .inl (cI, 40, .inl d_order)), (dq10, .inl (cI, 10, .inl d_came)), (dq11, .inl (cI, 100, .inl d_worth)), (dq12, .inl (cZ, 10, .inl d_used)), (dq13, .inl (cI, 10, .inl d_usedBy)), (dq14, .inl (cI, 10, .inl d_reservedFor)), (dq15, .inl (cI, 10, .inl d_reservedTo)), (dq18, .inl (cI, 10, .inl d_pieceDual)), (dq19, .inl (cI, 10, .inl d_orderDual)), (dq20, .inl (cJ, 11264, .inr (.inl d_table)))]) hP hD [0, 1, 2, 3, 4, 5, 6, 7, 8, 9, 10, 11] [] rfl rfl (by decide) (by decide) hk1 hFc hP1 hD1
    generalize H1 = H at hP hS ⊢
    have hP : va_P (dC, dI) classes [(dq, .inr (5, [.int u2, .int d_today, .int d_cut, .int d_aging, .int d_saleFrom, .int d_pieces, .int d_orders, .ref dq8, .ref dq9, .ref dq10, .ref dq11, .ref dq12, .ref dq13, .ref dq14, .ref dq15, .int d_ran, .int d_sum, .ref dq18, .ref dq19, .ref dq20])), (dq8, .inl (cI, 40, .inl d_piece)), (dq9, .inl (cI, 40, .inl d_order)), (dq10, .inl (cI, 10, .inl d_came)), (dq11, .inl (cI, 100, .inl d_worth)), (dq12, .inl (cZ, 10, .inl d_used)), (dq13, .inl (cI, 10, .inl d_usedBy)), (dq14, .inl (cI, 10, .inl d_reservedFor)), (dq15, .inl (cI, 10, .inl d_reservedTo)), (dq18, .inl (cI, 10, .inl d_pieceDual)), (dq19, .inl (cI, 10, .inl d_orderDual)), (dq20, .inl (cJ, 11264, .inr (.inl d_table)))] H := hP
    have hD : va_D A [(dq, .inr (5, [.int u2, .int d_today, .int d_cut, .int d_aging, .int d_saleFrom, .int d_pieces, .int d_orders, .ref dq8, .ref dq9, .ref dq10, .ref dq11, .ref dq12, .ref dq13, .ref dq14, .ref dq15, .int d_ran, .int d_sum, .ref dq18, .ref dq19, .ref dq20])), (dq8, .inl (cI, 40, .inl d_piece)), (dq9, .inl (cI, 40, .inl d_order)), (dq10, .inl (cI, 10, .inl d_came)), (dq11, .inl (cI, 100, .inl d_worth)), (dq12, .inl (cZ, 10, .inl d_used)), (dq13, .inl (cI, 10, .inl d_usedBy)), (dq14, .inl (cI, 10, .inl d_reservedFor)), (dq15, .inl (cI, 10, .inl d_reservedTo)), (dq18, .inl (cI, 10, .inl d_pieceDual)), (dq19, .inl (cI, 10, .inl d_orderDual)), (dq20, .inl (cJ, 11264, .inr (.inl d_table)))] := hD
    clear hP1 hD1 hPc hDc hFc hk1 hz1
    refine lv_if_ne (tgt := 21) hx hb d_D_sale_16 (by decide) (fun c9 => ?_) (fun c9 => ?_)
    · replace hm := if_f c9 hm
      refine lv_iload_n hx hb d_D_sale_21 rfl (lv_at hl 1 rfl) ?_
      refine lv_istore_n (lv' := [(2, .int x1), (0, .ref dq), (1, .int x1)]) hx hb d_D_sale_22 rfl hl (by decide) rfl (fun ls hl => ?_)
      refine lv_iconst (v := 0) hx hb d_D_sale_23 (by decide) ?_
      refine lv_istore_n (lv' := [(3, .int 0), (2, .int x1), (0, .ref dq), (1, .int x1)]) hx hb d_D_sale_24 rfl hl (by decide) rfl (fun ls hl => ?_)
      have key25 : ∀ (K : Int32 → Int32 → Int32 → Int32 → Option (Int32 × Int32)) (_ : ∀ (y1a : Int32) (y2a : Int32) (y3a : Int32) (d_throwna : Int32) (H : Heap) (locs : List Loc) (ls : Array Slot), lv_has ls 5 [(0, .ref dq), (1, .int y1a), (2, .int y2a), (3, .int y3a)] → va_P (dC, dI) classes [(dq, .inr (5, [.int d_throwna, .int d_today, .int d_cut, .int d_aging, .int d_saleFrom, .int d_pieces, .int d_orders, .ref dq8, .ref dq9, .ref dq10, .ref dq11, .ref dq12, .ref dq13, .ref dq14, .ref dq15, .int d_ran, .int d_sum, .ref dq18, .ref dq19, .ref dq20])), (dq8, .inl (cI, 40, .inl d_piece)), (dq9, .inl (cI, 40, .inl d_order)), (dq10, .inl (cI, 10, .inl d_came)), (dq11, .inl (cI, 100, .inl d_worth)), (dq12, .inl (cZ, 10, .inl d_used)), (dq13, .inl (cI, 10, .inl d_usedBy)), (dq14, .inl (cI, 10, .inl d_reservedFor)), (dq15, .inl (cI, 10, .inl d_reservedTo)), (dq18, .inl (cI, 10, .inl d_pieceDual)), (dq19, .inl (cI, 10, .inl d_orderDual)), (dq20, .inl (cJ, 11264, .inr (.inl d_table)))] H → va_D A [(dq, .inr (5, [.int d_throwna, .int d_today, .int d_cut, .int d_aging, .int d_saleFrom, .int d_pieces, .int d_orders, .ref dq8, .ref dq9, .ref dq10, .ref dq11, .ref dq12, .ref dq13, .ref dq14, .ref dq15, .int d_ran, .int d_sum, .ref dq18, .ref dq19, .ref dq20])), (dq8, .inl (cI, 40, .inl d_piece)), (dq9, .inl (cI, 40, .inl d_order)), (dq10, .inl (cI, 10, .inl d_came)), (dq11, .inl (cI, 100, .inl d_worth)), (dq12, .inl (cZ, 10, .inl d_used)), (dq13, .inl (cI, 10, .inl d_usedBy)), (dq14, .inl (cI, 10, .inl d_reservedFor)), (dq15, .inl (cI, 10, .inl d_reservedTo)), (dq18, .inl (cI, 10, .inl d_pieceDual)), (dq19, .inl (cI, 10, .inl d_orderDual)), (dq20, .inl (cJ, 11264, .inr (.inl d_table)))] → va_S A s.heap H locs → K y1a y2a y3a d_throwna = some res → W p l e (headSpec w_D_sale ({ frames := 1, cells := 0, slots := 0, locals := 24 } : Room)).room s m ([.ref dq, .int x1] : List Value).toArray below meth c H locs 0 0 (MQ below (va_Qi (fun (x : Int32) (_ : Unit) => res.1 = x) (fun _ t => va_P (dC, dI) classes [(dq, .inr (5, [.int res.2, .int d_today, .int d_cut, .int d_aging, .int d_saleFrom, .int d_pieces, .int d_orders, .ref dq8, .ref dq9, .ref dq10, .ref dq11, .ref dq12, .ref dq13, .ref dq14, .ref dq15, .int d_ran, .int d_sum, .ref dq18, .ref dq19, .ref dq20])), (dq8, .inl (cI, 40, .inl d_piece)), (dq9, .inl (cI, 40, .inl d_order)), (dq10, .inl (cI, 10, .inl d_came)), (dq11, .inl (cI, 100, .inl d_worth)), (dq12, .inl (cZ, 10, .inl d_used)), (dq13, .inl (cI, 10, .inl d_usedBy)), (dq14, .inl (cI, 10, .inl d_reservedFor)), (dq15, .inl (cI, 10, .inl d_reservedTo)), (dq18, .inl (cI, 10, .inl d_pieceDual)), (dq19, .inl (cI, 10, .inl d_orderDual)), (dq20, .inl (cJ, 11264, .inr (.inl d_table)))] t.heap ∧ va_K (dC, dI) classes [(cI, .int), (cZ, .boolean), (cJ, .long)] t ∧ va_D A [(dq, .inr (5, [.int res.2, .int d_today, .int d_cut, .int d_aging, .int d_saleFrom, .int d_pieces, .int d_orders, .ref dq8, .ref dq9, .ref dq10, .ref dq11, .ref dq12, .ref dq13, .ref dq14, .ref dq15, .int d_ran, .int d_sum, .ref dq18, .ref dq19, .ref dq20])), (dq8, .inl (cI, 40, .inl d_piece)), (dq9, .inl (cI, 40, .inl d_order)), (dq10, .inl (cI, 10, .inl d_came)), (dq11, .inl (cI, 100, .inl d_worth)), (dq12, .inl (cZ, 10, .inl d_used)), (dq13, .inl (cI, 10, .inl d_usedBy)), (dq14, .inl (cI, 10, .inl d_reservedFor)), (dq15, .inl (cI, 10, .inl d_reservedTo)), (dq18, .inl (cI, 10, .inl d_pieceDual)), (dq19, .inl (cI, 10, .inl d_orderDual)), (dq20, .inl (cJ, 11264, .inr (.inl d_table)))]) A) ([.ref dq, .int x1] : List Value).toArray s 0 0 A) (F0 m 105 ls [])) (n : Nat) (y1a : Int32) (y2a : Int32) (y3a : Int32) (d_throwna : Int32) (H : Heap) (locs : List Loc) (ls : Array Slot), lv_has ls 5 [(0, .ref dq), (1, .int y1a), (2, .int y2a), (3, .int y3a)] → va_P (dC, dI) classes [(dq, .inr (5, [.int d_throwna, .int d_today, .int d_cut, .int d_aging, .int d_saleFrom, .int d_pieces, .int d_orders, .ref dq8, .ref dq9, .ref dq10, .ref dq11, .ref dq12, .ref dq13, .ref dq14, .ref dq15, .int d_ran, .int d_sum, .ref dq18, .ref dq19, .ref dq20])), (dq8, .inl (cI, 40, .inl d_piece)), (dq9, .inl (cI, 40, .inl d_order)), (dq10, .inl (cI, 10, .inl d_came)), (dq11, .inl (cI, 100, .inl d_worth)), (dq12, .inl (cZ, 10, .inl d_used)), (dq13, .inl (cI, 10, .inl d_usedBy)), (dq14, .inl (cI, 10, .inl d_reservedFor)), (dq15, .inl (cI, 10, .inl d_reservedTo)), (dq18, .inl (cI, 10, .inl d_pieceDual)), (dq19, .inl (cI, 10, .inl d_orderDual)), (dq20, .inl (cJ, 11264, .inr (.inl d_table)))] H → va_D A [(dq, .inr (5, [.int d_throwna, .int d_today, .int d_cut, .int d_aging, .int d_saleFrom, .int d_pieces, .int d_orders, .ref dq8, .ref dq9, .ref dq10, .ref dq11, .ref dq12, .ref dq13, .ref dq14, .ref dq15, .int d_ran, .int d_sum, .ref dq18, .ref dq19, .ref dq20])), (dq8, .inl (cI, 40, .inl d_piece)), (dq9, .inl (cI, 40, .inl d_order)), (dq10, .inl (cI, 10, .inl d_came)), (dq11, .inl (cI, 100, .inl d_worth)), (dq12, .inl (cZ, 10, .inl d_used)), (dq13, .inl (cI, 10, .inl d_usedBy)), (dq14, .inl (cI, 10, .inl d_reservedFor)), (dq15, .inl (cI, 10, .inl d_reservedTo)), (dq18, .inl (cI, 10, .inl d_pieceDual)), (dq19, .inl (cI, 10, .inl d_orderDual)), (dq20, .inl (cJ, 11264, .inr (.inl d_table)))] → va_S A s.heap H locs → L_D_sale_25 N d_today d_saleFrom d_pieces d_came d_used d_reservedFor d_reservedTo K n y1a y2a y3a d_throwna = some res → W p l e (headSpec w_D_sale ({ frames := 1, cells := 0, slots := 0, locals := 24 } : Room)).room s m ([.ref dq, .int x1] : List Value).toArray below meth c H locs 0 0 (MQ below (va_Qi (fun (x : Int32) (_ : Unit) => res.1 = x) (fun _ t => va_P (dC, dI) classes [(dq, .inr (5, [.int res.2, .int d_today, .int d_cut, .int d_aging, .int d_saleFrom, .int d_pieces, .int d_orders, .ref dq8, .ref dq9, .ref dq10, .ref dq11, .ref dq12, .ref dq13, .ref dq14, .ref dq15, .int d_ran, .int d_sum, .ref dq18, .ref dq19, .ref dq20])), (dq8, .inl (cI, 40, .inl d_piece)), (dq9, .inl (cI, 40, .inl d_order)), (dq10, .inl (cI, 10, .inl d_came)), (dq11, .inl (cI, 100, .inl d_worth)), (dq12, .inl (cZ, 10, .inl d_used)), (dq13, .inl (cI, 10, .inl d_usedBy)), (dq14, .inl (cI, 10, .inl d_reservedFor)), (dq15, .inl (cI, 10, .inl d_reservedTo)), (dq18, .inl (cI, 10, .inl d_pieceDual)), (dq19, .inl (cI, 10, .inl d_orderDual)), (dq20, .inl (cJ, 11264, .inr (.inl d_table)))] t.heap ∧ va_K (dC, dI) classes [(cI, .int), (cZ, .boolean), (cJ, .long)] t ∧ va_D A [(dq, .inr (5, [.int res.2, .int d_today, .int d_cut, .int d_aging, .int d_saleFrom, .int d_pieces, .int d_orders, .ref dq8, .ref dq9, .ref dq10, .ref dq11, .ref dq12, .ref dq13, .ref dq14, .ref dq15, .int d_ran, .int d_sum, .ref dq18, .ref dq19, .ref dq20])), (dq8, .inl (cI, 40, .inl d_piece)), (dq9, .inl (cI, 40, .inl d_order)), (dq10, .inl (cI, 10, .inl d_came)), (dq11, .inl (cI, 100, .inl d_worth)), (dq12, .inl (cZ, 10, .inl d_used)), (dq13, .inl (cI, 10, .inl d_usedBy)), (dq14, .inl (cI, 10, .inl d_reservedFor)), (dq15, .inl (cI, 10, .inl d_reservedTo)), (dq18, .inl (cI, 10, .inl d_pieceDual)), (dq19, .inl (cI, 10, .inl d_orderDual)), (dq20, .inl (cJ, 11264, .inr (.inl d_table)))]) A) ([.ref dq, .int x1] : List Value).toArray s 0 0 A) (F0 m 25 ls []) := by
        intro K hK25 n
        induction n with
        | zero => intro y1a y2a y3a d_throwna H locs ls hl hP hD hS hm; exact absurd hm (by simp [L_D_sale_25])
        | succ n ih25 =>
          intro y1a y2a y3a d_throwna H locs ls hl hP hD hS hm
          rw [L_D_sale_25] at hm
          refine lv_iload_n hx hb d_D_sale_25 rfl (lv_at hl 3 rfl) ?_
          refine lv_aload_n hx hb d_D_sale_26 rfl (lv_at hl 0 rfl) ?_
          refine va_get (D := (dC, dI)) (ci := 5) (v := .int d_today) (C := R_D) (T := F_D) (N := 20) hx hb hts hk1 hown hK hP 0 rfl rfl 1 (by decide) hk0 (fun _ h9 => h9) rfl d_D_sale_27 ?_
          refine lv_aload_n hx hb d_D_sale_30 rfl (lv_at hl 0 rfl) ?_
          refine va_get (D := (dC, dI)) (ci := 5) (v := .int d_saleFrom) (C := R_D) (T := F_D) (N := 20) hx hb hts hk1 hown hK hP 0 rfl rfl 4 (by decide) hk2 (fun _ h9 => h9) rfl d_D_sale_31 ?_
          refine lv_isub hx hb d_D_sale_34 ?_
          refine lv_icmp_gt (tgt := 105) hx hb d_D_sale_35 (by decide) (fun c9 => ?_) (fun c9 => ?_)
          · replace hm := if_t c9 hm
            have hl : lv_has ls 5 [(0, .ref dq), (1, .int y1a), (2, .int y2a), (3, .int y3a)] := lv_sub hl [0, 1, 2, 3] rfl
            exact hK25 y1a y2a y3a d_throwna _ _ ls hl hP hD hS hm
          · replace hm := if_f c9 hm
            refine lv_iconst (v := 0) hx hb d_D_sale_38 (by decide) ?_
            refine lv_istore (lv' := [(4, .int 0), (0, .ref dq), (1, .int y1a), (2, .int y2a), (3, .int y3a)]) hx hb d_D_sale_39 hl (by decide) rfl (fun ls hl => ?_)
            have key41 : ∀ (K : Int32 → Int32 → Int32 → Int32 → Int32 → Option (Int32 × Int32)) (_ : ∀ (y1b : Int32) (y2b : Int32) (y3b : Int32) (y4b : Int32) (d_thrownb : Int32) (H : Heap) (locs : List Loc) (ls : Array Slot), lv_has ls 5 [(0, .ref dq), (1, .int y1b), (2, .int y2b), (3, .int y3b), (4, .int y4b)] → va_P (dC, dI) classes [(dq, .inr (5, [.int d_thrownb, .int d_today, .int d_cut, .int d_aging, .int d_saleFrom, .int d_pieces, .int d_orders, .ref dq8, .ref dq9, .ref dq10, .ref dq11, .ref dq12, .ref dq13, .ref dq14, .ref dq15, .int d_ran, .int d_sum, .ref dq18, .ref dq19, .ref dq20])), (dq8, .inl (cI, 40, .inl d_piece)), (dq9, .inl (cI, 40, .inl d_order)), (dq10, .inl (cI, 10, .inl d_came)), (dq11, .inl (cI, 100, .inl d_worth)), (dq12, .inl (cZ, 10, .inl d_used)), (dq13, .inl (cI, 10, .inl d_usedBy)), (dq14, .inl (cI, 10, .inl d_reservedFor)), (dq15, .inl (cI, 10, .inl d_reservedTo)), (dq18, .inl (cI, 10, .inl d_pieceDual)), (dq19, .inl (cI, 10, .inl d_orderDual)), (dq20, .inl (cJ, 11264, .inr (.inl d_table)))] H → va_D A [(dq, .inr (5, [.int d_thrownb, .int d_today, .int d_cut, .int d_aging, .int d_saleFrom, .int d_pieces, .int d_orders, .ref dq8, .ref dq9, .ref dq10, .ref dq11, .ref dq12, .ref dq13, .ref dq14, .ref dq15, .int d_ran, .int d_sum, .ref dq18, .ref dq19, .ref dq20])), (dq8, .inl (cI, 40, .inl d_piece)), (dq9, .inl (cI, 40, .inl d_order)), (dq10, .inl (cI, 10, .inl d_came)), (dq11, .inl (cI, 100, .inl d_worth)), (dq12, .inl (cZ, 10, .inl d_used)), (dq13, .inl (cI, 10, .inl d_usedBy)), (dq14, .inl (cI, 10, .inl d_reservedFor)), (dq15, .inl (cI, 10, .inl d_reservedTo)), (dq18, .inl (cI, 10, .inl d_pieceDual)), (dq19, .inl (cI, 10, .inl d_orderDual)), (dq20, .inl (cJ, 11264, .inr (.inl d_table)))] → va_S A s.heap H locs → K y1b y2b y3b y4b d_thrownb = some res → W p l e (headSpec w_D_sale ({ frames := 1, cells := 0, slots := 0, locals := 24 } : Room)).room s m ([.ref dq, .int x1] : List Value).toArray below meth c H locs 0 0 (MQ below (va_Qi (fun (x : Int32) (_ : Unit) => res.1 = x) (fun _ t => va_P (dC, dI) classes [(dq, .inr (5, [.int res.2, .int d_today, .int d_cut, .int d_aging, .int d_saleFrom, .int d_pieces, .int d_orders, .ref dq8, .ref dq9, .ref dq10, .ref dq11, .ref dq12, .ref dq13, .ref dq14, .ref dq15, .int d_ran, .int d_sum, .ref dq18, .ref dq19, .ref dq20])), (dq8, .inl (cI, 40, .inl d_piece)), (dq9, .inl (cI, 40, .inl d_order)), (dq10, .inl (cI, 10, .inl d_came)), (dq11, .inl (cI, 100, .inl d_worth)), (dq12, .inl (cZ, 10, .inl d_used)), (dq13, .inl (cI, 10, .inl d_usedBy)), (dq14, .inl (cI, 10, .inl d_reservedFor)), (dq15, .inl (cI, 10, .inl d_reservedTo)), (dq18, .inl (cI, 10, .inl d_pieceDual)), (dq19, .inl (cI, 10, .inl d_orderDual)), (dq20, .inl (cJ, 11264, .inr (.inl d_table)))] t.heap ∧ va_K (dC, dI) classes [(cI, .int), (cZ, .boolean), (cJ, .long)] t ∧ va_D A [(dq, .inr (5, [.int res.2, .int d_today, .int d_cut, .int d_aging, .int d_saleFrom, .int d_pieces, .int d_orders, .ref dq8, .ref dq9, .ref dq10, .ref dq11, .ref dq12, .ref dq13, .ref dq14, .ref dq15, .int d_ran, .int d_sum, .ref dq18, .ref dq19, .ref dq20])), (dq8, .inl (cI, 40, .inl d_piece)), (dq9, .inl (cI, 40, .inl d_order)), (dq10, .inl (cI, 10, .inl d_came)), (dq11, .inl (cI, 100, .inl d_worth)), (dq12, .inl (cZ, 10, .inl d_used)), (dq13, .inl (cI, 10, .inl d_usedBy)), (dq14, .inl (cI, 10, .inl d_reservedFor)), (dq15, .inl (cI, 10, .inl d_reservedTo)), (dq18, .inl (cI, 10, .inl d_pieceDual)), (dq19, .inl (cI, 10, .inl d_orderDual)), (dq20, .inl (cJ, 11264, .inr (.inl d_table)))]) A) ([.ref dq, .int x1] : List Value).toArray s 0 0 A) (F0 m 99 ls [])) (n : Nat) (y1b : Int32) (y2b : Int32) (y3b : Int32) (y4b : Int32) (d_thrownb : Int32) (H : Heap) (locs : List Loc) (ls : Array Slot), lv_has ls 5 [(0, .ref dq), (1, .int y1b), (2, .int y2b), (3, .int y3b), (4, .int y4b)] → va_P (dC, dI) classes [(dq, .inr (5, [.int d_thrownb, .int d_today, .int d_cut, .int d_aging, .int d_saleFrom, .int d_pieces, .int d_orders, .ref dq8, .ref dq9, .ref dq10, .ref dq11, .ref dq12, .ref dq13, .ref dq14, .ref dq15, .int d_ran, .int d_sum, .ref dq18, .ref dq19, .ref dq20])), (dq8, .inl (cI, 40, .inl d_piece)), (dq9, .inl (cI, 40, .inl d_order)), (dq10, .inl (cI, 10, .inl d_came)), (dq11, .inl (cI, 100, .inl d_worth)), (dq12, .inl (cZ, 10, .inl d_used)), (dq13, .inl (cI, 10, .inl d_usedBy)), (dq14, .inl (cI, 10, .inl d_reservedFor)), (dq15, .inl (cI, 10, .inl d_reservedTo)), (dq18, .inl (cI, 10, .inl d_pieceDual)), (dq19, .inl (cI, 10, .inl d_orderDual)), (dq20, .inl (cJ, 11264, .inr (.inl d_table)))] H → va_D A [(dq, .inr (5, [.int d_thrownb, .int d_today, .int d_cut, .int d_aging, .int d_saleFrom, .int d_pieces, .int d_orders, .ref dq8, .ref dq9, .ref dq10, .ref dq11, .ref dq12, .ref dq13, .ref dq14, .ref dq15, .int d_ran, .int d_sum, .ref dq18, .ref dq19, .ref dq20])), (dq8, .inl (cI, 40, .inl d_piece)), (dq9, .inl (cI, 40, .inl d_order)), (dq10, .inl (cI, 10, .inl d_came)), (dq11, .inl (cI, 100, .inl d_worth)), (dq12, .inl (cZ, 10, .inl d_used)), (dq13, .inl (cI, 10, .inl d_usedBy)), (dq14, .inl (cI, 10, .inl d_reservedFor)), (dq15, .inl (cI, 10, .inl d_reservedTo)), (dq18, .inl (cI, 10, .inl d_pieceDual)), (dq19, .inl (cI, 10, .inl d_orderDual)), (dq20, .inl (cJ, 11264, .inr (.inl d_table)))] → va_S A s.heap H locs → L_D_sale_41 N d_today d_pieces d_came d_used d_reservedFor d_reservedTo K n y1b y2b y3b y4b d_thrownb = some res → W p l e (headSpec w_D_sale ({ frames := 1, cells := 0, slots := 0, locals := 24 } : Room)).room s m ([.ref dq, .int x1] : List Value).toArray below meth c H locs 0 0 (MQ below (va_Qi (fun (x : Int32) (_ : Unit) => res.1 = x) (fun _ t => va_P (dC, dI) classes [(dq, .inr (5, [.int res.2, .int d_today, .int d_cut, .int d_aging, .int d_saleFrom, .int d_pieces, .int d_orders, .ref dq8, .ref dq9, .ref dq10, .ref dq11, .ref dq12, .ref dq13, .ref dq14, .ref dq15, .int d_ran, .int d_sum, .ref dq18, .ref dq19, .ref dq20])), (dq8, .inl (cI, 40, .inl d_piece)), (dq9, .inl (cI, 40, .inl d_order)), (dq10, .inl (cI, 10, .inl d_came)), (dq11, .inl (cI, 100, .inl d_worth)), (dq12, .inl (cZ, 10, .inl d_used)), (dq13, .inl (cI, 10, .inl d_usedBy)), (dq14, .inl (cI, 10, .inl d_reservedFor)), (dq15, .inl (cI, 10, .inl d_reservedTo)), (dq18, .inl (cI, 10, .inl d_pieceDual)), (dq19, .inl (cI, 10, .inl d_orderDual)), (dq20, .inl (cJ, 11264, .inr (.inl d_table)))] t.heap ∧ va_K (dC, dI) classes [(cI, .int), (cZ, .boolean), (cJ, .long)] t ∧ va_D A [(dq, .inr (5, [.int res.2, .int d_today, .int d_cut, .int d_aging, .int d_saleFrom, .int d_pieces, .int d_orders, .ref dq8, .ref dq9, .ref dq10, .ref dq11, .ref dq12, .ref dq13, .ref dq14, .ref dq15, .int d_ran, .int d_sum, .ref dq18, .ref dq19, .ref dq20])), (dq8, .inl (cI, 40, .inl d_piece)), (dq9, .inl (cI, 40, .inl d_order)), (dq10, .inl (cI, 10, .inl d_came)), (dq11, .inl (cI, 100, .inl d_worth)), (dq12, .inl (cZ, 10, .inl d_used)), (dq13, .inl (cI, 10, .inl d_usedBy)), (dq14, .inl (cI, 10, .inl d_reservedFor)), (dq15, .inl (cI, 10, .inl d_reservedTo)), (dq18, .inl (cI, 10, .inl d_pieceDual)), (dq19, .inl (cI, 10, .inl d_orderDual)), (dq20, .inl (cJ, 11264, .inr (.inl d_table)))]) A) ([.ref dq, .int x1] : List Value).toArray s 0 0 A) (F0 m 41 ls []) := by
              intro K hK41 n
              induction n with
              | zero => intro y1b y2b y3b y4b d_thrownb H locs ls hl hP hD hS hm; exact absurd hm (by simp [L_D_sale_41])
              | succ n ih41 =>
                intro y1b y2b y3b y4b d_thrownb H locs ls hl hP hD hS hm
                rw [L_D_sale_41] at hm
                refine lv_iload hx hb d_D_sale_41 (lv_at hl 4 rfl) ?_
                refine lv_aload_n hx hb d_D_sale_43 rfl (lv_at hl 0 rfl) ?_
                refine va_get (D := (dC, dI)) (ci := 5) (v := .int d_pieces) (C := R_D) (T := F_D) (N := 20) hx hb hts hk1 hown hK hP 0 rfl rfl 5 (by decide) hk3 (fun _ h9 => h9) rfl d_D_sale_44 ?_
                refine lv_icmp_ge (tgt := 99) hx hb d_D_sale_47 (by decide) (fun c9 => ?_) (fun c9 => ?_)
                · replace hm := if_t c9 hm
                  have hl : lv_has ls 5 [(0, .ref dq), (1, .int y1b), (2, .int y2b), (3, .int y3b), (4, .int y4b)] := lv_sub hl [0, 1, 2, 3, 4] rfl
                  exact hK41 y1b y2b y3b y4b d_thrownb _ _ ls hl hP hD hS hm
                · replace hm := if_f c9 hm
                  refine lv_aload_n hx hb d_D_sale_50 rfl (lv_at hl 0 rfl) ?_
                  refine va_get (D := (dC, dI)) (ci := 5) (v := .ref dq10) (C := R_D) (T := F_D) (N := 20) hx hb hts hk1 hown hK hP 0 rfl rfl 9 (by decide) hk4 (fun _ h9 => h9) rfl d_D_sale_51 ?_
                  refine lv_iload hx hb d_D_sale_54 (lv_at hl 4 rfl) ?_
                  obtain ⟨h9, hm⟩ := gd hm
                  refine va_iald hx hb hK hP 3 0 rfl rfl h9 d_D_sale_56 ?_
                  refine lv_iload_n hx hb d_D_sale_57 rfl (lv_at hl 3 rfl) ?_
                  refine lv_icmp_ne (tgt := 93) hx hb d_D_sale_58 (by decide) (fun c9 => ?_) (fun c9 => ?_)
                  · replace hm := if_f c9 hm
                    refine lv_iinc (v := (y4b + 1)) (lv' := [(4, .int (y4b + 1)), (0, .ref dq), (1, .int y1b), (2, .int y2b), (3, .int y3b)]) hx hb d_D_sale_93 hl (k := 4) rfl rfl (by decide) rfl (fun ls hl => ?_)
                    refine lv_goto (tgt := 41) hx hb d_D_sale_96 (by decide) ?_
                    have hl : lv_has ls 5 [(0, .ref dq), (1, .int y1b), (2, .int y2b), (3, .int y3b), (4, .int (y4b + 1))] := lv_sub hl [1, 2, 3, 4, 0] rfl
                    exact ih41 y1b y2b y3b (y4b + 1) d_thrownb _ _ ls hl hP hD hS hm
                  · replace hm := if_t c9 hm
                    refine lv_aload_n hx hb d_D_sale_61 rfl (lv_at hl 0 rfl) ?_
                    refine va_get (D := (dC, dI)) (ci := 5) (v := .ref dq12) (C := R_D) (T := F_D) (N := 20) hx hb hts hk1 hown hK hP 0 rfl rfl 11 (by decide) hk5 (fun _ h9 => h9) rfl d_D_sale_62 ?_
                    refine lv_iload hx hb d_D_sale_65 (lv_at hl 4 rfl) ?_
                    obtain ⟨h9, hm⟩ := gd hm
                    refine va_zald hx hb hK hP 5 1 rfl rfl h9 d_D_sale_67 ?_
                    refine lv_if_ne (tgt := 93) hx hb d_D_sale_68 (by decide) (fun c9 => ?_) (fun c9 => ?_)
                    · replace hm := if_f c9 hm
                      refine lv_iinc (v := (y4b + 1)) (lv' := [(4, .int (y4b + 1)), (0, .ref dq), (1, .int y1b), (2, .int y2b), (3, .int y3b)]) hx hb d_D_sale_93 hl (k := 4) rfl rfl (by decide) rfl (fun ls hl => ?_)
                      refine lv_goto (tgt := 41) hx hb d_D_sale_96 (by decide) ?_
                      have hl : lv_has ls 5 [(0, .ref dq), (1, .int y1b), (2, .int y2b), (3, .int y3b), (4, .int (y4b + 1))] := lv_sub hl [1, 2, 3, 4, 0] rfl
                      exact ih41 y1b y2b y3b (y4b + 1) d_thrownb _ _ ls hl hP hD hS hm
                    · replace hm := if_t c9 hm
                      refine lv_aload_n hx hb d_D_sale_71 rfl (lv_at hl 0 rfl) ?_
                      refine lv_iload hx hb d_D_sale_72 (lv_at hl 4 rfl) ?_
                      obtain ⟨r3, hc, hm⟩ := bd hm
                      try dsimp only at hm
                      refine vp_callSi (W.runV (As := [.int y4b]) (rest := []) ⟨hx, hb, hml, hown, hts⟩ (c_D_reservation l dC dI cI cZ cJ dq dq8 dq9 dq10 dq11 dq12 dq13 dq14 dq15 dq18 dq19 dq20 d_thrownb d_today d_cut d_aging d_saleFrom d_pieces d_orders d_piece d_order d_came d_worth d_used d_usedBy d_reservedFor d_reservedTo d_ran d_sum d_pieceDual d_orderDual d_table y4b N r3 hc) (cwV 1 hts (gV (w0 716 rfl) (w0 717 rfl) (w0 25 rfl) (w0 33 rfl) (w0 718 rfl)) rfl rfl rfl q_D_reservation ⟨Nat.le_of_ble_eq_true rfl, Nat.le_of_ble_eq_true rfl⟩) (ro_preV [0, 1, 2, 3, 4, 5, 6, 7, 8, 9, 10, 11] rfl hK hP hN 5 0 (R_D, F_D, 20) rfl rfl) rfl rfl hl.1 rfl (lv_room (Nat.le_of_ble_eq_true rfl)) d_D_sale_74 ⟨Nat.le_of_ble_eq_true rfl, Nat.le_of_ble_eq_true rfl⟩) (fun r9 hr9 => ?_)
                      subst hr9
                      refine lv_if_lt (tgt := 83) hx hb d_D_sale_77 (by decide) (fun c9 => ?_) (fun c9 => ?_)
                      · replace hm := if_t c9 hm
                        refine lv_iload_n hx hb d_D_sale_83 rfl (lv_at hl 2 rfl) ?_
                        refine lv_if_ne (tgt := 90) hx hb d_D_sale_84 (by decide) (fun c9 => ?_) (fun c9 => ?_)
                        · replace hm := if_f c9 hm
                          refine lv_iinc (v := (y2b + (-1))) (lv' := [(2, .int (y2b + (-1))), (0, .ref dq), (1, .int y1b), (3, .int y3b), (4, .int y4b)]) hx hb d_D_sale_90 hl (k := 2) rfl rfl (by decide) rfl (fun ls hl => ?_)
                          refine lv_iinc (v := (y4b + 1)) (lv' := [(4, .int (y4b + 1)), (2, .int (y2b + (-1))), (0, .ref dq), (1, .int y1b), (3, .int y3b)]) hx hb d_D_sale_93 hl (k := 4) rfl rfl (by decide) rfl (fun ls hl => ?_)
                          refine lv_goto (tgt := 41) hx hb d_D_sale_96 (by decide) ?_
                          have hl : lv_has ls 5 [(0, .ref dq), (1, .int y1b), (2, .int (y2b + (-1))), (3, .int y3b), (4, .int (y4b + 1))] := lv_sub hl [2, 3, 1, 4, 0] rfl
                          exact ih41 y1b (y2b + (-1)) y3b (y4b + 1) d_thrownb _ _ ls hl hP hD hS hm
                        · replace hm := if_t c9 hm
                          refine lv_iload hx hb d_D_sale_87 (lv_at hl 4 rfl) ?_
                          cases hm
                          refine W.widen (k := 0) (n := 0) (Nat.le_of_ble_eq_true rfl) (Nat.le_of_ble_eq_true rfl) ?_
                          exact W.iret hx hb hr (fun t ht hW => ⟨⟨_, (), rfl, rfl, by rw [ht]; exact hP, va_K.moved hW.alike hK, hD⟩, hS.F ht⟩) hS.2.2 d_D_sale_89
                      · replace hm := if_f c9 hm
                        refine lv_goto (tgt := 93) hx hb d_D_sale_80 (by decide) ?_
                        refine lv_iinc (v := (y4b + 1)) (lv' := [(4, .int (y4b + 1)), (0, .ref dq), (1, .int y1b), (2, .int y2b), (3, .int y3b)]) hx hb d_D_sale_93 hl (k := 4) rfl rfl (by decide) rfl (fun ls hl => ?_)
                        refine lv_goto (tgt := 41) hx hb d_D_sale_96 (by decide) ?_
                        have hl : lv_has ls 5 [(0, .ref dq), (1, .int y1b), (2, .int y2b), (3, .int y3b), (4, .int (y4b + 1))] := lv_sub hl [1, 2, 3, 4, 0] rfl
                        exact ih41 y1b y2b y3b (y4b + 1) d_thrownb _ _ ls hl hP hD hS hm
            have hl : lv_has ls 5 [(0, .ref dq), (1, .int y1a), (2, .int y2a), (3, .int y3a), (4, .int 0)] := lv_sub hl [1, 2, 3, 4, 0] rfl
            refine key41 _ (fun y1b y2b y3b y4b d_thrownb H locs ls hl hP hD hS hm => ?_) N y1a y2a y3a 0 d_throwna _ _ ls hl hP hD hS hm
            try dsimp only at hm
            refine lv_iinc (v := (y3b + 1)) (lv' := [(3, .int (y3b + 1)), (0, .ref dq), (1, .int y1b), (2, .int y2b), (4, .int y4b)]) hx hb d_D_sale_99 hl (k := 3) rfl rfl (by decide) rfl (fun ls hl => ?_)
            refine lv_goto (tgt := 25) hx hb d_D_sale_102 (by decide) ?_
            have hl : lv_has ls 5 [(0, .ref dq), (1, .int y1b), (2, .int y2b), (3, .int (y3b + 1))] := lv_sub hl [1, 2, 3, 0] rfl
            exact ih25 y1b y2b (y3b + 1) d_thrownb _ _ ls hl hP hD hS hm
      have hl : lv_has ls 5 [(0, .ref dq), (1, .int x1), (2, .int x1), (3, .int 0)] := lv_sub hl [2, 3, 1, 0] rfl
      refine key25 _ (fun y1a y2a y3a d_throwna H locs ls hl hP hD hS hm => ?_) N x1 x1 0 u2 _ _ ls hl hP hD hS hm
      try dsimp only at hm
      refine lv_iconst (v := (-1)) hx hb d_D_sale_105 (by decide) ?_
      cases hm
      refine W.widen (k := 0) (n := 0) (Nat.le_of_ble_eq_true rfl) (Nat.le_of_ble_eq_true rfl) ?_
      exact W.iret hx hb hr (fun t ht hW => ⟨⟨_, (), rfl, rfl, by rw [ht]; exact hP, va_K.moved hW.alike hK, hD⟩, hS.F ht⟩) hS.2.2 d_D_sale_106
    · replace hm := if_t c9 hm
      refine lv_iconst (v := 0) hx hb d_D_sale_19 (by decide) ?_
      cases hm
      refine W.widen (k := 0) (n := 0) (Nat.le_of_ble_eq_true rfl) (Nat.le_of_ble_eq_true rfl) ?_
      exact W.iret hx hb hr (fun t ht hW => ⟨⟨_, (), rfl, rfl, by rw [ht]; exact hP, va_K.moved hW.alike hK, hD⟩, hS.F ht⟩) hS.2.2 d_D_sale_20
  · replace hm := if_f c9 hm
    refine lv_iconst (v := 1) hx hb d_D_sale_5 (by decide) ?_
    refine lv_goto (tgt := 10) hx hb d_D_sale_6 (by decide) ?_
    refine lv_iconst (v := 1) hx hb d_D_sale_10 (by decide) ?_
    refine lv_iconst (v := 1) hx hb d_D_sale_11 (by decide) ?_
    refine lv_iconst (v := 1) hx hb d_D_sale_12 (by decide) ?_
    obtain ⟨⟨r6, u7⟩, hc, hm⟩ := bd hm
    try dsimp only at hm
    have hPc := hP.sub (ws' := [(dq, .inr (5, [.int d_thrown, .int d_today, .int d_cut, .int d_aging, .int d_saleFrom, .int d_pieces, .int d_orders, .ref dq8, .ref dq9, .ref dq10, .ref dq11, .ref dq12, .ref dq13, .ref dq14, .ref dq15, .int d_ran, .int d_sum, .ref dq18, .ref dq19, .ref dq20])), (dq8, .inl (cI, 40, .inl d_piece)), (dq9, .inl (cI, 40, .inl d_order)), (dq10, .inl (cI, 10, .inl d_came)), (dq11, .inl (cI, 100, .inl d_worth)), (dq12, .inl (cZ, 10, .inl d_used)), (dq13, .inl (cI, 10, .inl d_usedBy)), (dq14, .inl (cI, 10, .inl d_reservedFor)), (dq15, .inl (cI, 10, .inl d_reservedTo)), (dq18, .inl (cI, 10, .inl d_pieceDual)), (dq19, .inl (cI, 10, .inl d_orderDual)), (dq20, .inl (cJ, 11264, .inr (.inl d_table)))]) [0, 1, 2, 3, 4, 5, 6, 7, 8, 9, 10, 11] rfl
    have hDc := hD.sub (ws' := [(dq, .inr (5, [.int d_thrown, .int d_today, .int d_cut, .int d_aging, .int d_saleFrom, .int d_pieces, .int d_orders, .ref dq8, .ref dq9, .ref dq10, .ref dq11, .ref dq12, .ref dq13, .ref dq14, .ref dq15, .int d_ran, .int d_sum, .ref dq18, .ref dq19, .ref dq20])), (dq8, .inl (cI, 40, .inl d_piece)), (dq9, .inl (cI, 40, .inl d_order)), (dq10, .inl (cI, 10, .inl d_came)), (dq11, .inl (cI, 100, .inl d_worth)), (dq12, .inl (cZ, 10, .inl d_used)), (dq13, .inl (cI, 10, .inl d_usedBy)), (dq14, .inl (cI, 10, .inl d_reservedFor)), (dq15, .inl (cI, 10, .inl d_reservedTo)), (dq18, .inl (cI, 10, .inl d_pieceDual)), (dq19, .inl (cI, 10, .inl d_orderDual)), (dq20, .inl (cJ, 11264, .inr (.inl d_table)))]) [0, 1, 2, 3, 4, 5, 6, 7, 8, 9, 10, 11] (by decide) rfl
    have hFc := va_free (wc := [(dq, .inr (5, [.int d_thrown, .int d_today, .int d_cut, .int d_aging, .int d_saleFrom, .int d_pieces, .int d_orders, .ref dq8, .ref dq9, .ref dq10, .ref dq11, .ref dq12, .ref dq13, .ref dq14, .ref dq15, .int d_ran, .int d_sum, .ref dq18, .ref dq19, .ref dq20])), (dq8, .inl (cI, 40, .inl d_piece)), (dq9, .inl (cI, 40, .inl d_order)), (dq10, .inl (cI, 10, .inl d_came)), (dq11, .inl (cI, 100, .inl d_worth)), (dq12, .inl (cZ, 10, .inl d_used)), (dq13, .inl (cI, 10, .inl d_usedBy)), (dq14, .inl (cI, 10, .inl d_reservedFor)), (dq15, .inl (cI, 10, .inl d_reservedTo)), (dq18, .inl (cI, 10, .inl d_pieceDual)), (dq19, .inl (cI, 10, .inl d_orderDual)), (dq20, .inl (cJ, 11264, .inr (.inl d_table)))]) hD hS hA [0, 1, 2, 3, 4, 5, 6, 7, 8, 9, 10, 11] rfl
    refine va_calli (va_runV (As := [.int 1, .int 1, .int 1, .int 1]) (rest := []) ⟨hx, hb, hml, hown, hts⟩ (c_D_goes l dC dI cI cZ cJ dq dq8 dq9 dq10 dq11 dq12 dq13 dq14 dq15 dq18 dq19 dq20 s.heap.size d_thrown d_today d_cut d_aging d_saleFrom d_pieces d_orders d_piece d_order d_came d_worth d_used d_usedBy d_reservedFor d_reservedTo d_ran d_sum d_pieceDual d_orderDual d_table 1 1 1 1 N (r6, u7) hc) (cwV 4 hts (gV (w0 670 rfl) (w0 671 rfl) (w0 18 rfl) (w0 33 rfl) (w0 672 rfl)) rfl rfl rfl q_D_goes ⟨Nat.le_of_ble_eq_true rfl, Nat.le_of_ble_eq_true rfl⟩) (wr_preV hK hPc hDc hN 5 0 (R_D, F_D, 20) rfl rfl) rfl rfl hl.1 rfl (lv_room (Nat.le_of_ble_eq_true rfl)) d_D_sale_13 ⟨Nat.le_of_ble_eq_true rfl, Nat.le_of_ble_eq_true rfl⟩) hS (fun q _ h => hFc q h) hFc (fun r9 u t H1 locs ht hvm hw hB hz1 hk1 hS => ?_)
    subst hw
    obtain ⟨hP1, hK1, hD1⟩ := hB
    rw [ht] at hP1
    obtain ⟨hP, hD⟩ := va_join (wr := []) (w1 := [(dq, .inr (5, [.int u7, .int d_today, .int d_cut, .int d_aging, .int d_saleFrom, .int d_pieces, .int d_orders, .ref dq8, .ref dq9, .ref dq10, .ref dq11, .ref dq12, .ref dq13, .ref dq14, .ref dq15, .int d_ran, .int d_sum, .ref dq18, .ref dq19, .ref dq20])), (dq8, .inl (cI, 40, .inl d_piece)), (dq9, .inl (cI, 40, .inl d_order)), (dq10, .inl (cI, 10, .inl d_came)), (dq11, .inl (cI, 100, .inl d_worth)), (dq12, .inl (cZ, 10, .inl d_used)), (dq13, .inl (cI, 10, .inl d_usedBy)), (dq14, .inl (cI, 10, .inl d_reservedFor)), (dq15, .inl (cI, 10, .inl d_reservedTo)), (dq18, .inl (cI, 10, .inl d_pieceDual)), (dq19, .inl (cI, 10, .inl d_orderDual)), (dq20, .inl (cJ, 11264, .inr (.inl d_table)))]) hP hD [0, 1, 2, 3, 4, 5, 6, 7, 8, 9, 10, 11] [] rfl rfl (by decide) (by decide) hk1 hFc hP1 hD1
    generalize H1 = H at hP hS ⊢
    have hP : va_P (dC, dI) classes [(dq, .inr (5, [.int u7, .int d_today, .int d_cut, .int d_aging, .int d_saleFrom, .int d_pieces, .int d_orders, .ref dq8, .ref dq9, .ref dq10, .ref dq11, .ref dq12, .ref dq13, .ref dq14, .ref dq15, .int d_ran, .int d_sum, .ref dq18, .ref dq19, .ref dq20])), (dq8, .inl (cI, 40, .inl d_piece)), (dq9, .inl (cI, 40, .inl d_order)), (dq10, .inl (cI, 10, .inl d_came)), (dq11, .inl (cI, 100, .inl d_worth)), (dq12, .inl (cZ, 10, .inl d_used)), (dq13, .inl (cI, 10, .inl d_usedBy)), (dq14, .inl (cI, 10, .inl d_reservedFor)), (dq15, .inl (cI, 10, .inl d_reservedTo)), (dq18, .inl (cI, 10, .inl d_pieceDual)), (dq19, .inl (cI, 10, .inl d_orderDual)), (dq20, .inl (cJ, 11264, .inr (.inl d_table)))] H := hP
    have hD : va_D A [(dq, .inr (5, [.int u7, .int d_today, .int d_cut, .int d_aging, .int d_saleFrom, .int d_pieces, .int d_orders, .ref dq8, .ref dq9, .ref dq10, .ref dq11, .ref dq12, .ref dq13, .ref dq14, .ref dq15, .int d_ran, .int d_sum, .ref dq18, .ref dq19, .ref dq20])), (dq8, .inl (cI, 40, .inl d_piece)), (dq9, .inl (cI, 40, .inl d_order)), (dq10, .inl (cI, 10, .inl d_came)), (dq11, .inl (cI, 100, .inl d_worth)), (dq12, .inl (cZ, 10, .inl d_used)), (dq13, .inl (cI, 10, .inl d_usedBy)), (dq14, .inl (cI, 10, .inl d_reservedFor)), (dq15, .inl (cI, 10, .inl d_reservedTo)), (dq18, .inl (cI, 10, .inl d_pieceDual)), (dq19, .inl (cI, 10, .inl d_orderDual)), (dq20, .inl (cJ, 11264, .inr (.inl d_table)))] := hD
    clear hP1 hD1 hPc hDc hFc hk1 hz1
    refine lv_if_ne (tgt := 21) hx hb d_D_sale_16 (by decide) (fun c9 => ?_) (fun c9 => ?_)
    · replace hm := if_f c9 hm
      refine lv_iload_n hx hb d_D_sale_21 rfl (lv_at hl 1 rfl) ?_
      refine lv_istore_n (lv' := [(2, .int x1), (0, .ref dq), (1, .int x1)]) hx hb d_D_sale_22 rfl hl (by decide) rfl (fun ls hl => ?_)
      refine lv_iconst (v := 0) hx hb d_D_sale_23 (by decide) ?_
      refine lv_istore_n (lv' := [(3, .int 0), (2, .int x1), (0, .ref dq), (1, .int x1)]) hx hb d_D_sale_24 rfl hl (by decide) rfl (fun ls hl => ?_)
      have key25 : ∀ (K : Int32 → Int32 → Int32 → Int32 → Option (Int32 × Int32)) (_ : ∀ (y1a : Int32) (y2a : Int32) (y3a : Int32) (d_throwna : Int32) (H : Heap) (locs : List Loc) (ls : Array Slot), lv_has ls 5 [(0, .ref dq), (1, .int y1a), (2, .int y2a), (3, .int y3a)] → va_P (dC, dI) classes [(dq, .inr (5, [.int d_throwna, .int d_today, .int d_cut, .int d_aging, .int d_saleFrom, .int d_pieces, .int d_orders, .ref dq8, .ref dq9, .ref dq10, .ref dq11, .ref dq12, .ref dq13, .ref dq14, .ref dq15, .int d_ran, .int d_sum, .ref dq18, .ref dq19, .ref dq20])), (dq8, .inl (cI, 40, .inl d_piece)), (dq9, .inl (cI, 40, .inl d_order)), (dq10, .inl (cI, 10, .inl d_came)), (dq11, .inl (cI, 100, .inl d_worth)), (dq12, .inl (cZ, 10, .inl d_used)), (dq13, .inl (cI, 10, .inl d_usedBy)), (dq14, .inl (cI, 10, .inl d_reservedFor)), (dq15, .inl (cI, 10, .inl d_reservedTo)), (dq18, .inl (cI, 10, .inl d_pieceDual)), (dq19, .inl (cI, 10, .inl d_orderDual)), (dq20, .inl (cJ, 11264, .inr (.inl d_table)))] H → va_D A [(dq, .inr (5, [.int d_throwna, .int d_today, .int d_cut, .int d_aging, .int d_saleFrom, .int d_pieces, .int d_orders, .ref dq8, .ref dq9, .ref dq10, .ref dq11, .ref dq12, .ref dq13, .ref dq14, .ref dq15, .int d_ran, .int d_sum, .ref dq18, .ref dq19, .ref dq20])), (dq8, .inl (cI, 40, .inl d_piece)), (dq9, .inl (cI, 40, .inl d_order)), (dq10, .inl (cI, 10, .inl d_came)), (dq11, .inl (cI, 100, .inl d_worth)), (dq12, .inl (cZ, 10, .inl d_used)), (dq13, .inl (cI, 10, .inl d_usedBy)), (dq14, .inl (cI, 10, .inl d_reservedFor)), (dq15, .inl (cI, 10, .inl d_reservedTo)), (dq18, .inl (cI, 10, .inl d_pieceDual)), (dq19, .inl (cI, 10, .inl d_orderDual)), (dq20, .inl (cJ, 11264, .inr (.inl d_table)))] → va_S A s.heap H locs → K y1a y2a y3a d_throwna = some res → W p l e (headSpec w_D_sale ({ frames := 1, cells := 0, slots := 0, locals := 24 } : Room)).room s m ([.ref dq, .int x1] : List Value).toArray below meth c H locs 0 0 (MQ below (va_Qi (fun (x : Int32) (_ : Unit) => res.1 = x) (fun _ t => va_P (dC, dI) classes [(dq, .inr (5, [.int res.2, .int d_today, .int d_cut, .int d_aging, .int d_saleFrom, .int d_pieces, .int d_orders, .ref dq8, .ref dq9, .ref dq10, .ref dq11, .ref dq12, .ref dq13, .ref dq14, .ref dq15, .int d_ran, .int d_sum, .ref dq18, .ref dq19, .ref dq20])), (dq8, .inl (cI, 40, .inl d_piece)), (dq9, .inl (cI, 40, .inl d_order)), (dq10, .inl (cI, 10, .inl d_came)), (dq11, .inl (cI, 100, .inl d_worth)), (dq12, .inl (cZ, 10, .inl d_used)), (dq13, .inl (cI, 10, .inl d_usedBy)), (dq14, .inl (cI, 10, .inl d_reservedFor)), (dq15, .inl (cI, 10, .inl d_reservedTo)), (dq18, .inl (cI, 10, .inl d_pieceDual)), (dq19, .inl (cI, 10, .inl d_orderDual)), (dq20, .inl (cJ, 11264, .inr (.inl d_table)))] t.heap ∧ va_K (dC, dI) classes [(cI, .int), (cZ, .boolean), (cJ, .long)] t ∧ va_D A [(dq, .inr (5, [.int res.2, .int d_today, .int d_cut, .int d_aging, .int d_saleFrom, .int d_pieces, .int d_orders, .ref dq8, .ref dq9, .ref dq10, .ref dq11, .ref dq12, .ref dq13, .ref dq14, .ref dq15, .int d_ran, .int d_sum, .ref dq18, .ref dq19, .ref dq20])), (dq8, .inl (cI, 40, .inl d_piece)), (dq9, .inl (cI, 40, .inl d_order)), (dq10, .inl (cI, 10, .inl d_came)), (dq11, .inl (cI, 100, .inl d_worth)), (dq12, .inl (cZ, 10, .inl d_used)), (dq13, .inl (cI, 10, .inl d_usedBy)), (dq14, .inl (cI, 10, .inl d_reservedFor)), (dq15, .inl (cI, 10, .inl d_reservedTo)), (dq18, .inl (cI, 10, .inl d_pieceDual)), (dq19, .inl (cI, 10, .inl d_orderDual)), (dq20, .inl (cJ, 11264, .inr (.inl d_table)))]) A) ([.ref dq, .int x1] : List Value).toArray s 0 0 A) (F0 m 105 ls [])) (n : Nat) (y1a : Int32) (y2a : Int32) (y3a : Int32) (d_throwna : Int32) (H : Heap) (locs : List Loc) (ls : Array Slot), lv_has ls 5 [(0, .ref dq), (1, .int y1a), (2, .int y2a), (3, .int y3a)] → va_P (dC, dI) classes [(dq, .inr (5, [.int d_throwna, .int d_today, .int d_cut, .int d_aging, .int d_saleFrom, .int d_pieces, .int d_orders, .ref dq8, .ref dq9, .ref dq10, .ref dq11, .ref dq12, .ref dq13, .ref dq14, .ref dq15, .int d_ran, .int d_sum, .ref dq18, .ref dq19, .ref dq20])), (dq8, .inl (cI, 40, .inl d_piece)), (dq9, .inl (cI, 40, .inl d_order)), (dq10, .inl (cI, 10, .inl d_came)), (dq11, .inl (cI, 100, .inl d_worth)), (dq12, .inl (cZ, 10, .inl d_used)), (dq13, .inl (cI, 10, .inl d_usedBy)), (dq14, .inl (cI, 10, .inl d_reservedFor)), (dq15, .inl (cI, 10, .inl d_reservedTo)), (dq18, .inl (cI, 10, .inl d_pieceDual)), (dq19, .inl (cI, 10, .inl d_orderDual)), (dq20, .inl (cJ, 11264, .inr (.inl d_table)))] H → va_D A [(dq, .inr (5, [.int d_throwna, .int d_today, .int d_cut, .int d_aging, .int d_saleFrom, .int d_pieces, .int d_orders, .ref dq8, .ref dq9, .ref dq10, .ref dq11, .ref dq12, .ref dq13, .ref dq14, .ref dq15, .int d_ran, .int d_sum, .ref dq18, .ref dq19, .ref dq20])), (dq8, .inl (cI, 40, .inl d_piece)), (dq9, .inl (cI, 40, .inl d_order)), (dq10, .inl (cI, 10, .inl d_came)), (dq11, .inl (cI, 100, .inl d_worth)), (dq12, .inl (cZ, 10, .inl d_used)), (dq13, .inl (cI, 10, .inl d_usedBy)), (dq14, .inl (cI, 10, .inl d_reservedFor)), (dq15, .inl (cI, 10, .inl d_reservedTo)), (dq18, .inl (cI, 10, .inl d_pieceDual)), (dq19, .inl (cI, 10, .inl d_orderDual)), (dq20, .inl (cJ, 11264, .inr (.inl d_table)))] → va_S A s.heap H locs → L_D_sale_25 N d_today d_saleFrom d_pieces d_came d_used d_reservedFor d_reservedTo K n y1a y2a y3a d_throwna = some res → W p l e (headSpec w_D_sale ({ frames := 1, cells := 0, slots := 0, locals := 24 } : Room)).room s m ([.ref dq, .int x1] : List Value).toArray below meth c H locs 0 0 (MQ below (va_Qi (fun (x : Int32) (_ : Unit) => res.1 = x) (fun _ t => va_P (dC, dI) classes [(dq, .inr (5, [.int res.2, .int d_today, .int d_cut, .int d_aging, .int d_saleFrom, .int d_pieces, .int d_orders, .ref dq8, .ref dq9, .ref dq10, .ref dq11, .ref dq12, .ref dq13, .ref dq14, .ref dq15, .int d_ran, .int d_sum, .ref dq18, .ref dq19, .ref dq20])), (dq8, .inl (cI, 40, .inl d_piece)), (dq9, .inl (cI, 40, .inl d_order)), (dq10, .inl (cI, 10, .inl d_came)), (dq11, .inl (cI, 100, .inl d_worth)), (dq12, .inl (cZ, 10, .inl d_used)), (dq13, .inl (cI, 10, .inl d_usedBy)), (dq14, .inl (cI, 10, .inl d_reservedFor)), (dq15, .inl (cI, 10, .inl d_reservedTo)), (dq18, .inl (cI, 10, .inl d_pieceDual)), (dq19, .inl (cI, 10, .inl d_orderDual)), (dq20, .inl (cJ, 11264, .inr (.inl d_table)))] t.heap ∧ va_K (dC, dI) classes [(cI, .int), (cZ, .boolean), (cJ, .long)] t ∧ va_D A [(dq, .inr (5, [.int res.2, .int d_today, .int d_cut, .int d_aging, .int d_saleFrom, .int d_pieces, .int d_orders, .ref dq8, .ref dq9, .ref dq10, .ref dq11, .ref dq12, .ref dq13, .ref dq14, .ref dq15, .int d_ran, .int d_sum, .ref dq18, .ref dq19, .ref dq20])), (dq8, .inl (cI, 40, .inl d_piece)), (dq9, .inl (cI, 40, .inl d_order)), (dq10, .inl (cI, 10, .inl d_came)), (dq11, .inl (cI, 100, .inl d_worth)), (dq12, .inl (cZ, 10, .inl d_used)), (dq13, .inl (cI, 10, .inl d_usedBy)), (dq14, .inl (cI, 10, .inl d_reservedFor)), (dq15, .inl (cI, 10, .inl d_reservedTo)), (dq18, .inl (cI, 10, .inl d_pieceDual)), (dq19, .inl (cI, 10, .inl d_orderDual)), (dq20, .inl (cJ, 11264, .inr (.inl d_table)))]) A) ([.ref dq, .int x1] : List Value).toArray s 0 0 A) (F0 m 25 ls []) := by
        intro K hK25 n
        induction n with
        | zero => intro y1a y2a y3a d_throwna H locs ls hl hP hD hS hm; exact absurd hm (by simp [L_D_sale_25])
        | succ n ih25 =>
          intro y1a y2a y3a d_throwna H locs ls hl hP hD hS hm
          rw [L_D_sale_25] at hm
          refine lv_iload_n hx hb d_D_sale_25 rfl (lv_at hl 3 rfl) ?_
          refine lv_aload_n hx hb d_D_sale_26 rfl (lv_at hl 0 rfl) ?_
          refine va_get (D := (dC, dI)) (ci := 5) (v := .int d_today) (C := R_D) (T := F_D) (N := 20) hx hb hts hk1 hown hK hP 0 rfl rfl 1 (by decide) hk0 (fun _ h9 => h9) rfl d_D_sale_27 ?_
          refine lv_aload_n hx hb d_D_sale_30 rfl (lv_at hl 0 rfl) ?_
          refine va_get (D := (dC, dI)) (ci := 5) (v := .int d_saleFrom) (C := R_D) (T := F_D) (N := 20) hx hb hts hk1 hown hK hP 0 rfl rfl 4 (by decide) hk2 (fun _ h9 => h9) rfl d_D_sale_31 ?_
          refine lv_isub hx hb d_D_sale_34 ?_
          refine lv_icmp_gt (tgt := 105) hx hb d_D_sale_35 (by decide) (fun c9 => ?_) (fun c9 => ?_)
          · replace hm := if_t c9 hm
            have hl : lv_has ls 5 [(0, .ref dq), (1, .int y1a), (2, .int y2a), (3, .int y3a)] := lv_sub hl [0, 1, 2, 3] rfl
            exact hK25 y1a y2a y3a d_throwna _ _ ls hl hP hD hS hm
          · replace hm := if_f c9 hm
            refine lv_iconst (v := 0) hx hb d_D_sale_38 (by decide) ?_
            refine lv_istore (lv' := [(4, .int 0), (0, .ref dq), (1, .int y1a), (2, .int y2a), (3, .int y3a)]) hx hb d_D_sale_39 hl (by decide) rfl (fun ls hl => ?_)
            have key41 : ∀ (K : Int32 → Int32 → Int32 → Int32 → Int32 → Option (Int32 × Int32)) (_ : ∀ (y1b : Int32) (y2b : Int32) (y3b : Int32) (y4b : Int32) (d_thrownb : Int32) (H : Heap) (locs : List Loc) (ls : Array Slot), lv_has ls 5 [(0, .ref dq), (1, .int y1b), (2, .int y2b), (3, .int y3b), (4, .int y4b)] → va_P (dC, dI) classes [(dq, .inr (5, [.int d_thrownb, .int d_today, .int d_cut, .int d_aging, .int d_saleFrom, .int d_pieces, .int d_orders, .ref dq8, .ref dq9, .ref dq10, .ref dq11, .ref dq12, .ref dq13, .ref dq14, .ref dq15, .int d_ran, .int d_sum, .ref dq18, .ref dq19, .ref dq20])), (dq8, .inl (cI, 40, .inl d_piece)), (dq9, .inl (cI, 40, .inl d_order)), (dq10, .inl (cI, 10, .inl d_came)), (dq11, .inl (cI, 100, .inl d_worth)), (dq12, .inl (cZ, 10, .inl d_used)), (dq13, .inl (cI, 10, .inl d_usedBy)), (dq14, .inl (cI, 10, .inl d_reservedFor)), (dq15, .inl (cI, 10, .inl d_reservedTo)), (dq18, .inl (cI, 10, .inl d_pieceDual)), (dq19, .inl (cI, 10, .inl d_orderDual)), (dq20, .inl (cJ, 11264, .inr (.inl d_table)))] H → va_D A [(dq, .inr (5, [.int d_thrownb, .int d_today, .int d_cut, .int d_aging, .int d_saleFrom, .int d_pieces, .int d_orders, .ref dq8, .ref dq9, .ref dq10, .ref dq11, .ref dq12, .ref dq13, .ref dq14, .ref dq15, .int d_ran, .int d_sum, .ref dq18, .ref dq19, .ref dq20])), (dq8, .inl (cI, 40, .inl d_piece)), (dq9, .inl (cI, 40, .inl d_order)), (dq10, .inl (cI, 10, .inl d_came)), (dq11, .inl (cI, 100, .inl d_worth)), (dq12, .inl (cZ, 10, .inl d_used)), (dq13, .inl (cI, 10, .inl d_usedBy)), (dq14, .inl (cI, 10, .inl d_reservedFor)), (dq15, .inl (cI, 10, .inl d_reservedTo)), (dq18, .inl (cI, 10, .inl d_pieceDual)), (dq19, .inl (cI, 10, .inl d_orderDual)), (dq20, .inl (cJ, 11264, .inr (.inl d_table)))] → va_S A s.heap H locs → K y1b y2b y3b y4b d_thrownb = some res → W p l e (headSpec w_D_sale ({ frames := 1, cells := 0, slots := 0, locals := 24 } : Room)).room s m ([.ref dq, .int x1] : List Value).toArray below meth c H locs 0 0 (MQ below (va_Qi (fun (x : Int32) (_ : Unit) => res.1 = x) (fun _ t => va_P (dC, dI) classes [(dq, .inr (5, [.int res.2, .int d_today, .int d_cut, .int d_aging, .int d_saleFrom, .int d_pieces, .int d_orders, .ref dq8, .ref dq9, .ref dq10, .ref dq11, .ref dq12, .ref dq13, .ref dq14, .ref dq15, .int d_ran, .int d_sum, .ref dq18, .ref dq19, .ref dq20])), (dq8, .inl (cI, 40, .inl d_piece)), (dq9, .inl (cI, 40, .inl d_order)), (dq10, .inl (cI, 10, .inl d_came)), (dq11, .inl (cI, 100, .inl d_worth)), (dq12, .inl (cZ, 10, .inl d_used)), (dq13, .inl (cI, 10, .inl d_usedBy)), (dq14, .inl (cI, 10, .inl d_reservedFor)), (dq15, .inl (cI, 10, .inl d_reservedTo)), (dq18, .inl (cI, 10, .inl d_pieceDual)), (dq19, .inl (cI, 10, .inl d_orderDual)), (dq20, .inl (cJ, 11264, .inr (.inl d_table)))] t.heap ∧ va_K (dC, dI) classes [(cI, .int), (cZ, .boolean), (cJ, .long)] t ∧ va_D A [(dq, .inr (5, [.int res.2, .int d_today, .int d_cut, .int d_aging, .int d_saleFrom, .int d_pieces, .int d_orders, .ref dq8, .ref dq9, .ref dq10, .ref dq11, .ref dq12, .ref dq13, .ref dq14, .ref dq15, .int d_ran, .int d_sum, .ref dq18, .ref dq19, .ref dq20])), (dq8, .inl (cI, 40, .inl d_piece)), (dq9, .inl (cI, 40, .inl d_order)), (dq10, .inl (cI, 10, .inl d_came)), (dq11, .inl (cI, 100, .inl d_worth)), (dq12, .inl (cZ, 10, .inl d_used)), (dq13, .inl (cI, 10, .inl d_usedBy)), (dq14, .inl (cI, 10, .inl d_reservedFor)), (dq15, .inl (cI, 10, .inl d_reservedTo)), (dq18, .inl (cI, 10, .inl d_pieceDual)), (dq19, .inl (cI, 10, .inl d_orderDual)), (dq20, .inl (cJ, 11264, .inr (.inl d_table)))]) A) ([.ref dq, .int x1] : List Value).toArray s 0 0 A) (F0 m 99 ls [])) (n : Nat) (y1b : Int32) (y2b : Int32) (y3b : Int32) (y4b : Int32) (d_thrownb : Int32) (H : Heap) (locs : List Loc) (ls : Array Slot), lv_has ls 5 [(0, .ref dq), (1, .int y1b), (2, .int y2b), (3, .int y3b), (4, .int y4b)] → va_P (dC, dI) classes [(dq, .inr (5, [.int d_thrownb, .int d_today, .int d_cut, .int d_aging, .int d_saleFrom, .int d_pieces, .int d_orders, .ref dq8, .ref dq9, .ref dq10, .ref dq11, .ref dq12, .ref dq13, .ref dq14, .ref dq15, .int d_ran, .int d_sum, .ref dq18, .ref dq19, .ref dq20])), (dq8, .inl (cI, 40, .inl d_piece)), (dq9, .inl (cI, 40, .inl d_order)), (dq10, .inl (cI, 10, .inl d_came)), (dq11, .inl (cI, 100, .inl d_worth)), (dq12, .inl (cZ, 10, .inl d_used)), (dq13, .inl (cI, 10, .inl d_usedBy)), (dq14, .inl (cI, 10, .inl d_reservedFor)), (dq15, .inl (cI, 10, .inl d_reservedTo)), (dq18, .inl (cI, 10, .inl d_pieceDual)), (dq19, .inl (cI, 10, .inl d_orderDual)), (dq20, .inl (cJ, 11264, .inr (.inl d_table)))] H → va_D A [(dq, .inr (5, [.int d_thrownb, .int d_today, .int d_cut, .int d_aging, .int d_saleFrom, .int d_pieces, .int d_orders, .ref dq8, .ref dq9, .ref dq10, .ref dq11, .ref dq12, .ref dq13, .ref dq14, .ref dq15, .int d_ran, .int d_sum, .ref dq18, .ref dq19, .ref dq20])), (dq8, .inl (cI, 40, .inl d_piece)), (dq9, .inl (cI, 40, .inl d_order)), (dq10, .inl (cI, 10, .inl d_came)), (dq11, .inl (cI, 100, .inl d_worth)), (dq12, .inl (cZ, 10, .inl d_used)), (dq13, .inl (cI, 10, .inl d_usedBy)), (dq14, .inl (cI, 10, .inl d_reservedFor)), (dq15, .inl (cI, 10, .inl d_reservedTo)), (dq18, .inl (cI, 10, .inl d_pieceDual)), (dq19, .inl (cI, 10, .inl d_orderDual)), (dq20, .inl (cJ, 11264, .inr (.inl d_table)))] → va_S A s.heap H locs → L_D_sale_41 N d_today d_pieces d_came d_used d_reservedFor d_reservedTo K n y1b y2b y3b y4b d_thrownb = some res → W p l e (headSpec w_D_sale ({ frames := 1, cells := 0, slots := 0, locals := 24 } : Room)).room s m ([.ref dq, .int x1] : List Value).toArray below meth c H locs 0 0 (MQ below (va_Qi (fun (x : Int32) (_ : Unit) => res.1 = x) (fun _ t => va_P (dC, dI) classes [(dq, .inr (5, [.int res.2, .int d_today, .int d_cut, .int d_aging, .int d_saleFrom, .int d_pieces, .int d_orders, .ref dq8, .ref dq9, .ref dq10, .ref dq11, .ref dq12, .ref dq13, .ref dq14, .ref dq15, .int d_ran, .int d_sum, .ref dq18, .ref dq19, .ref dq20])), (dq8, .inl (cI, 40, .inl d_piece)), (dq9, .inl (cI, 40, .inl d_order)), (dq10, .inl (cI, 10, .inl d_came)), (dq11, .inl (cI, 100, .inl d_worth)), (dq12, .inl (cZ, 10, .inl d_used)), (dq13, .inl (cI, 10, .inl d_usedBy)), (dq14, .inl (cI, 10, .inl d_reservedFor)), (dq15, .inl (cI, 10, .inl d_reservedTo)), (dq18, .inl (cI, 10, .inl d_pieceDual)), (dq19, .inl (cI, 10, .inl d_orderDual)), (dq20, .inl (cJ, 11264, .inr (.inl d_table)))] t.heap ∧ va_K (dC, dI) classes [(cI, .int), (cZ, .boolean), (cJ, .long)] t ∧ va_D A [(dq, .inr (5, [.int res.2, .int d_today, .int d_cut, .int d_aging, .int d_saleFrom, .int d_pieces, .int d_orders, .ref dq8, .ref dq9, .ref dq10, .ref dq11, .ref dq12, .ref dq13, .ref dq14, .ref dq15, .int d_ran, .int d_sum, .ref dq18, .ref dq19, .ref dq20])), (dq8, .inl (cI, 40, .inl d_piece)), (dq9, .inl (cI, 40, .inl d_order)), (dq10, .inl (cI, 10, .inl d_came)), (dq11, .inl (cI, 100, .inl d_worth)), (dq12, .inl (cZ, 10, .inl d_used)), (dq13, .inl (cI, 10, .inl d_usedBy)), (dq14, .inl (cI, 10, .inl d_reservedFor)), (dq15, .inl (cI, 10, .inl d_reservedTo)), (dq18, .inl (cI, 10, .inl d_pieceDual)), (dq19, .inl (cI, 10, .inl d_orderDual)), (dq20, .inl (cJ, 11264, .inr (.inl d_table)))]) A) ([.ref dq, .int x1] : List Value).toArray s 0 0 A) (F0 m 41 ls []) := by
              intro K hK41 n
              induction n with
              | zero => intro y1b y2b y3b y4b d_thrownb H locs ls hl hP hD hS hm; exact absurd hm (by simp [L_D_sale_41])
              | succ n ih41 =>
                intro y1b y2b y3b y4b d_thrownb H locs ls hl hP hD hS hm
                rw [L_D_sale_41] at hm
                refine lv_iload hx hb d_D_sale_41 (lv_at hl 4 rfl) ?_
                refine lv_aload_n hx hb d_D_sale_43 rfl (lv_at hl 0 rfl) ?_
                refine va_get (D := (dC, dI)) (ci := 5) (v := .int d_pieces) (C := R_D) (T := F_D) (N := 20) hx hb hts hk1 hown hK hP 0 rfl rfl 5 (by decide) hk3 (fun _ h9 => h9) rfl d_D_sale_44 ?_
                refine lv_icmp_ge (tgt := 99) hx hb d_D_sale_47 (by decide) (fun c9 => ?_) (fun c9 => ?_)
                · replace hm := if_t c9 hm
                  have hl : lv_has ls 5 [(0, .ref dq), (1, .int y1b), (2, .int y2b), (3, .int y3b), (4, .int y4b)] := lv_sub hl [0, 1, 2, 3, 4] rfl
                  exact hK41 y1b y2b y3b y4b d_thrownb _ _ ls hl hP hD hS hm
                · replace hm := if_f c9 hm
                  refine lv_aload_n hx hb d_D_sale_50 rfl (lv_at hl 0 rfl) ?_
                  refine va_get (D := (dC, dI)) (ci := 5) (v := .ref dq10) (C := R_D) (T := F_D) (N := 20) hx hb hts hk1 hown hK hP 0 rfl rfl 9 (by decide) hk4 (fun _ h9 => h9) rfl d_D_sale_51 ?_
                  refine lv_iload hx hb d_D_sale_54 (lv_at hl 4 rfl) ?_
                  obtain ⟨h9, hm⟩ := gd hm
                  refine va_iald hx hb hK hP 3 0 rfl rfl h9 d_D_sale_56 ?_
                  refine lv_iload_n hx hb d_D_sale_57 rfl (lv_at hl 3 rfl) ?_
                  refine lv_icmp_ne (tgt := 93) hx hb d_D_sale_58 (by decide) (fun c9 => ?_) (fun c9 => ?_)
                  · replace hm := if_f c9 hm
                    refine lv_iinc (v := (y4b + 1)) (lv' := [(4, .int (y4b + 1)), (0, .ref dq), (1, .int y1b), (2, .int y2b), (3, .int y3b)]) hx hb d_D_sale_93 hl (k := 4) rfl rfl (by decide) rfl (fun ls hl => ?_)
                    refine lv_goto (tgt := 41) hx hb d_D_sale_96 (by decide) ?_
                    have hl : lv_has ls 5 [(0, .ref dq), (1, .int y1b), (2, .int y2b), (3, .int y3b), (4, .int (y4b + 1))] := lv_sub hl [1, 2, 3, 4, 0] rfl
                    exact ih41 y1b y2b y3b (y4b + 1) d_thrownb _ _ ls hl hP hD hS hm
                  · replace hm := if_t c9 hm
                    refine lv_aload_n hx hb d_D_sale_61 rfl (lv_at hl 0 rfl) ?_
                    refine va_get (D := (dC, dI)) (ci := 5) (v := .ref dq12) (C := R_D) (T := F_D) (N := 20) hx hb hts hk1 hown hK hP 0 rfl rfl 11 (by decide) hk5 (fun _ h9 => h9) rfl d_D_sale_62 ?_
                    refine lv_iload hx hb d_D_sale_65 (lv_at hl 4 rfl) ?_
                    obtain ⟨h9, hm⟩ := gd hm
                    refine va_zald hx hb hK hP 5 1 rfl rfl h9 d_D_sale_67 ?_
                    refine lv_if_ne (tgt := 93) hx hb d_D_sale_68 (by decide) (fun c9 => ?_) (fun c9 => ?_)
                    · replace hm := if_f c9 hm
                      refine lv_iinc (v := (y4b + 1)) (lv' := [(4, .int (y4b + 1)), (0, .ref dq), (1, .int y1b), (2, .int y2b), (3, .int y3b)]) hx hb d_D_sale_93 hl (k := 4) rfl rfl (by decide) rfl (fun ls hl => ?_)
                      refine lv_goto (tgt := 41) hx hb d_D_sale_96 (by decide) ?_
                      have hl : lv_has ls 5 [(0, .ref dq), (1, .int y1b), (2, .int y2b), (3, .int y3b), (4, .int (y4b + 1))] := lv_sub hl [1, 2, 3, 4, 0] rfl
                      exact ih41 y1b y2b y3b (y4b + 1) d_thrownb _ _ ls hl hP hD hS hm
                    · replace hm := if_t c9 hm
                      refine lv_aload_n hx hb d_D_sale_71 rfl (lv_at hl 0 rfl) ?_
                      refine lv_iload hx hb d_D_sale_72 (lv_at hl 4 rfl) ?_
                      obtain ⟨r8, hc, hm⟩ := bd hm
                      try dsimp only at hm
                      refine vp_callSi (W.runV (As := [.int y4b]) (rest := []) ⟨hx, hb, hml, hown, hts⟩ (c_D_reservation l dC dI cI cZ cJ dq dq8 dq9 dq10 dq11 dq12 dq13 dq14 dq15 dq18 dq19 dq20 d_thrownb d_today d_cut d_aging d_saleFrom d_pieces d_orders d_piece d_order d_came d_worth d_used d_usedBy d_reservedFor d_reservedTo d_ran d_sum d_pieceDual d_orderDual d_table y4b N r8 hc) (cwV 1 hts (gV (w0 716 rfl) (w0 717 rfl) (w0 25 rfl) (w0 33 rfl) (w0 718 rfl)) rfl rfl rfl q_D_reservation ⟨Nat.le_of_ble_eq_true rfl, Nat.le_of_ble_eq_true rfl⟩) (ro_preV [0, 1, 2, 3, 4, 5, 6, 7, 8, 9, 10, 11] rfl hK hP hN 5 0 (R_D, F_D, 20) rfl rfl) rfl rfl hl.1 rfl (lv_room (Nat.le_of_ble_eq_true rfl)) d_D_sale_74 ⟨Nat.le_of_ble_eq_true rfl, Nat.le_of_ble_eq_true rfl⟩) (fun r9 hr9 => ?_)
                      subst hr9
                      refine lv_if_lt (tgt := 83) hx hb d_D_sale_77 (by decide) (fun c9 => ?_) (fun c9 => ?_)
                      · replace hm := if_t c9 hm
                        refine lv_iload_n hx hb d_D_sale_83 rfl (lv_at hl 2 rfl) ?_
                        refine lv_if_ne (tgt := 90) hx hb d_D_sale_84 (by decide) (fun c9 => ?_) (fun c9 => ?_)
                        · replace hm := if_f c9 hm
                          refine lv_iinc (v := (y2b + (-1))) (lv' := [(2, .int (y2b + (-1))), (0, .ref dq), (1, .int y1b), (3, .int y3b), (4, .int y4b)]) hx hb d_D_sale_90 hl (k := 2) rfl rfl (by decide) rfl (fun ls hl => ?_)
                          refine lv_iinc (v := (y4b + 1)) (lv' := [(4, .int (y4b + 1)), (2, .int (y2b + (-1))), (0, .ref dq), (1, .int y1b), (3, .int y3b)]) hx hb d_D_sale_93 hl (k := 4) rfl rfl (by decide) rfl (fun ls hl => ?_)
                          refine lv_goto (tgt := 41) hx hb d_D_sale_96 (by decide) ?_
                          have hl : lv_has ls 5 [(0, .ref dq), (1, .int y1b), (2, .int (y2b + (-1))), (3, .int y3b), (4, .int (y4b + 1))] := lv_sub hl [2, 3, 1, 4, 0] rfl
                          exact ih41 y1b (y2b + (-1)) y3b (y4b + 1) d_thrownb _ _ ls hl hP hD hS hm
                        · replace hm := if_t c9 hm
                          refine lv_iload hx hb d_D_sale_87 (lv_at hl 4 rfl) ?_
                          cases hm
                          refine W.widen (k := 0) (n := 0) (Nat.le_of_ble_eq_true rfl) (Nat.le_of_ble_eq_true rfl) ?_
                          exact W.iret hx hb hr (fun t ht hW => ⟨⟨_, (), rfl, rfl, by rw [ht]; exact hP, va_K.moved hW.alike hK, hD⟩, hS.F ht⟩) hS.2.2 d_D_sale_89
                      · replace hm := if_f c9 hm
                        refine lv_goto (tgt := 93) hx hb d_D_sale_80 (by decide) ?_
                        refine lv_iinc (v := (y4b + 1)) (lv' := [(4, .int (y4b + 1)), (0, .ref dq), (1, .int y1b), (2, .int y2b), (3, .int y3b)]) hx hb d_D_sale_93 hl (k := 4) rfl rfl (by decide) rfl (fun ls hl => ?_)
                        refine lv_goto (tgt := 41) hx hb d_D_sale_96 (by decide) ?_
                        have hl : lv_has ls 5 [(0, .ref dq), (1, .int y1b), (2, .int y2b), (3, .int y3b), (4, .int (y4b + 1))] := lv_sub hl [1, 2, 3, 4, 0] rfl
                        exact ih41 y1b y2b y3b (y4b + 1) d_thrownb _ _ ls hl hP hD hS hm
            have hl : lv_has ls 5 [(0, .ref dq), (1, .int y1a), (2, .int y2a), (3, .int y3a), (4, .int 0)] := lv_sub hl [1, 2, 3, 4, 0] rfl
            refine key41 _ (fun y1b y2b y3b y4b d_thrownb H locs ls hl hP hD hS hm => ?_) N y1a y2a y3a 0 d_throwna _ _ ls hl hP hD hS hm
            try dsimp only at hm
            refine lv_iinc (v := (y3b + 1)) (lv' := [(3, .int (y3b + 1)), (0, .ref dq), (1, .int y1b), (2, .int y2b), (4, .int y4b)]) hx hb d_D_sale_99 hl (k := 3) rfl rfl (by decide) rfl (fun ls hl => ?_)
            refine lv_goto (tgt := 25) hx hb d_D_sale_102 (by decide) ?_
            have hl : lv_has ls 5 [(0, .ref dq), (1, .int y1b), (2, .int y2b), (3, .int (y3b + 1))] := lv_sub hl [1, 2, 3, 0] rfl
            exact ih25 y1b y2b (y3b + 1) d_thrownb _ _ ls hl hP hD hS hm
      have hl : lv_has ls 5 [(0, .ref dq), (1, .int x1), (2, .int x1), (3, .int 0)] := lv_sub hl [2, 3, 1, 0] rfl
      refine key25 _ (fun y1a y2a y3a d_throwna H locs ls hl hP hD hS hm => ?_) N x1 x1 0 u7 _ _ ls hl hP hD hS hm
      try dsimp only at hm
      refine lv_iconst (v := (-1)) hx hb d_D_sale_105 (by decide) ?_
      cases hm
      refine W.widen (k := 0) (n := 0) (Nat.le_of_ble_eq_true rfl) (Nat.le_of_ble_eq_true rfl) ?_
      exact W.iret hx hb hr (fun t ht hW => ⟨⟨_, (), rfl, rfl, by rw [ht]; exact hP, va_K.moved hW.alike hK, hD⟩, hS.F ht⟩) hS.2.2 d_D_sale_106
    · replace hm := if_t c9 hm
      refine lv_iconst (v := 0) hx hb d_D_sale_19 (by decide) ?_
      cases hm
      refine W.widen (k := 0) (n := 0) (Nat.le_of_ble_eq_true rfl) (Nat.le_of_ble_eq_true rfl) ?_
      exact W.iret hx hb hr (fun t ht hW => ⟨⟨_, (), rfl, rfl, by rw [ht]; exact hP, va_K.moved hW.alike hK, hD⟩, hS.F ht⟩) hS.2.2 d_D_sale_20

def w_D_tick : List Cond := .code y_D_tick b_D_tick 2 (some .int) :: W0
theorem q_D_tick : y_D_tick.cls = R_D ∧ y_D_tick.cls ≠ "java/lang/invoke/MethodHandle" ∧ y_D_tick.cls ≠ "java/lang/invoke/VarHandle" ∧ (parseMethodDescriptor y_D_tick.desc).map (fun d => d.parameters.length) = some 1 := by decide +kernel
def m_D_tick (d_today : Int32) (x1 : Int32) : Option (Int32 × Int32 × Int32) :=
  ((m_D_in x1 1 1000).bind fun r1 =>
  (if r1 = 0 then
    ((m_D_goes 0 1 1 1).bind fun (r2, u3) =>
      (if r2 = 0 then
        some (0, u3, d_today)
       else
        some ((d_today + x1), u3, (d_today + x1))))
   else
    (if (9999 - d_today) < x1 then
      ((m_D_goes 0 1 1 1).bind fun (r5, u6) =>
        (if r5 = 0 then
          some (0, u6, d_today)
         else
          some ((d_today + x1), u6, (d_today + x1))))
     else
      ((m_D_goes 1 1 1 1).bind fun (r8, u9) =>
        (if r8 = 0 then
          some (0, u9, d_today)
         else
          some ((d_today + x1), u9, (d_today + x1)))))))
set_option maxHeartbeats 4000000 in
set_option maxRecDepth 100000 in
theorem c_D_tick (l : Launch) (dC : Nat → ClassId) (dI : Nat → Nat → Nat) (cI cZ cJ : ClassId) (dq dq8 dq9 dq10 dq11 dq12 dq13 dq14 dq15 dq18 dq19 dq20 : Nat) (sz : Nat) (d_thrown : Int32) (d_today : Int32) (d_cut : Int32) (d_aging : Int32) (d_saleFrom : Int32) (d_pieces : Int32) (d_orders : Int32) (d_piece : Nat → Int32) (d_order : Nat → Int32) (d_came : Nat → Int32) (d_worth : Nat → Int32) (d_used : Nat → Int32) (d_usedBy : Nat → Int32) (d_reservedFor : Nat → Int32) (d_reservedTo : Nat → Int32) (d_ran : Int32) (d_sum : Int32) (d_pieceDual : Nat → Int32) (d_orderDual : Nat → Int32) (d_table : Nat → Int64) (x1 : Int32) (N : Nat) (res : Int32 × Int32 × Int32) (hm : m_D_tick d_today x1 = some res) : Met l y_D_tick w_D_tick ({ frames := 1, cells := 0, slots := 0, locals := 24 } : Room) (va_Pc [.ref dq, .int x1] (fun U => U.heap.size = sz ∧ va_P (dC, dI) classes [(dq, .inr (5, [.int d_thrown, .int d_today, .int d_cut, .int d_aging, .int d_saleFrom, .int d_pieces, .int d_orders, .ref dq8, .ref dq9, .ref dq10, .ref dq11, .ref dq12, .ref dq13, .ref dq14, .ref dq15, .int d_ran, .int d_sum, .ref dq18, .ref dq19, .ref dq20])), (dq8, .inl (cI, 40, .inl d_piece)), (dq9, .inl (cI, 40, .inl d_order)), (dq10, .inl (cI, 10, .inl d_came)), (dq11, .inl (cI, 100, .inl d_worth)), (dq12, .inl (cZ, 10, .inl d_used)), (dq13, .inl (cI, 10, .inl d_usedBy)), (dq14, .inl (cI, 10, .inl d_reservedFor)), (dq15, .inl (cI, 10, .inl d_reservedTo)), (dq18, .inl (cI, 10, .inl d_pieceDual)), (dq19, .inl (cI, 10, .inl d_orderDual)), (dq20, .inl (cJ, 11264, .inr (.inl d_table)))] U.heap ∧ va_K (dC, dI) classes [(cI, .int), (cZ, .boolean), (cJ, .long)] U ∧ va_D (fun _ => True) [(dq, .inr (5, [.int d_thrown, .int d_today, .int d_cut, .int d_aging, .int d_saleFrom, .int d_pieces, .int d_orders, .ref dq8, .ref dq9, .ref dq10, .ref dq11, .ref dq12, .ref dq13, .ref dq14, .ref dq15, .int d_ran, .int d_sum, .ref dq18, .ref dq19, .ref dq20])), (dq8, .inl (cI, 40, .inl d_piece)), (dq9, .inl (cI, 40, .inl d_order)), (dq10, .inl (cI, 10, .inl d_came)), (dq11, .inl (cI, 100, .inl d_worth)), (dq12, .inl (cZ, 10, .inl d_used)), (dq13, .inl (cI, 10, .inl d_usedBy)), (dq14, .inl (cI, 10, .inl d_reservedFor)), (dq15, .inl (cI, 10, .inl d_reservedTo)), (dq18, .inl (cI, 10, .inl d_pieceDual)), (dq19, .inl (cI, 10, .inl d_orderDual)), (dq20, .inl (cJ, 11264, .inr (.inl d_table)))] ∧ nw U)) (va_Qi (fun (x : Int32) (_ : Unit) => res.1 = x) (fun _ t => va_P (dC, dI) classes [(dq, .inr (5, [.int res.2.1, .int res.2.2, .int d_cut, .int d_aging, .int d_saleFrom, .int d_pieces, .int d_orders, .ref dq8, .ref dq9, .ref dq10, .ref dq11, .ref dq12, .ref dq13, .ref dq14, .ref dq15, .int d_ran, .int d_sum, .ref dq18, .ref dq19, .ref dq20])), (dq8, .inl (cI, 40, .inl d_piece)), (dq9, .inl (cI, 40, .inl d_order)), (dq10, .inl (cI, 10, .inl d_came)), (dq11, .inl (cI, 100, .inl d_worth)), (dq12, .inl (cZ, 10, .inl d_used)), (dq13, .inl (cI, 10, .inl d_usedBy)), (dq14, .inl (cI, 10, .inl d_reservedFor)), (dq15, .inl (cI, 10, .inl d_reservedTo)), (dq18, .inl (cI, 10, .inl d_pieceDual)), (dq19, .inl (cI, 10, .inl d_orderDual)), (dq20, .inl (cJ, 11264, .inr (.inl d_table)))] t.heap ∧ va_K (dC, dI) classes [(cI, .int), (cZ, .boolean), (cJ, .long)] t ∧ va_D (va_A [(dq, .inr (5, [.int d_thrown, .int d_today, .int d_cut, .int d_aging, .int d_saleFrom, .int d_pieces, .int d_orders, .ref dq8, .ref dq9, .ref dq10, .ref dq11, .ref dq12, .ref dq13, .ref dq14, .ref dq15, .int d_ran, .int d_sum, .ref dq18, .ref dq19, .ref dq20])), (dq8, .inl (cI, 40, .inl d_piece)), (dq9, .inl (cI, 40, .inl d_order)), (dq10, .inl (cI, 10, .inl d_came)), (dq11, .inl (cI, 100, .inl d_worth)), (dq12, .inl (cZ, 10, .inl d_used)), (dq13, .inl (cI, 10, .inl d_usedBy)), (dq14, .inl (cI, 10, .inl d_reservedFor)), (dq15, .inl (cI, 10, .inl d_reservedTo)), (dq18, .inl (cI, 10, .inl d_pieceDual)), (dq19, .inl (cI, 10, .inl d_orderDual)), (dq20, .inl (cJ, 11264, .inr (.inl d_table)))] sz) [(dq, .inr (5, [.int res.2.1, .int res.2.2, .int d_cut, .int d_aging, .int d_saleFrom, .int d_pieces, .int d_orders, .ref dq8, .ref dq9, .ref dq10, .ref dq11, .ref dq12, .ref dq13, .ref dq14, .ref dq15, .int d_ran, .int d_sum, .ref dq18, .ref dq19, .ref dq20])), (dq8, .inl (cI, 40, .inl d_piece)), (dq9, .inl (cI, 40, .inl d_order)), (dq10, .inl (cI, 10, .inl d_came)), (dq11, .inl (cI, 100, .inl d_worth)), (dq12, .inl (cZ, 10, .inl d_used)), (dq13, .inl (cI, 10, .inl d_usedBy)), (dq14, .inl (cI, 10, .inl d_reservedFor)), (dq15, .inl (cI, 10, .inl d_reservedTo)), (dq18, .inl (cI, 10, .inl d_pieceDual)), (dq19, .inl (cI, 10, .inl d_orderDual)), (dq20, .inl (cJ, 11264, .inr (.inl d_table)))]) (va_A [(dq, .inr (5, [.int d_thrown, .int d_today, .int d_cut, .int d_aging, .int d_saleFrom, .int d_pieces, .int d_orders, .ref dq8, .ref dq9, .ref dq10, .ref dq11, .ref dq12, .ref dq13, .ref dq14, .ref dq15, .int d_ran, .int d_sum, .ref dq18, .ref dq19, .ref dq20])), (dq8, .inl (cI, 40, .inl d_piece)), (dq9, .inl (cI, 40, .inl d_order)), (dq10, .inl (cI, 10, .inl d_came)), (dq11, .inl (cI, 100, .inl d_worth)), (dq12, .inl (cZ, 10, .inl d_used)), (dq13, .inl (cI, 10, .inl d_usedBy)), (dq14, .inl (cI, 10, .inl d_reservedFor)), (dq15, .inl (cI, 10, .inl d_reservedTo)), (dq18, .inl (cI, 10, .inl d_pieceDual)), (dq19, .inl (cI, 10, .inl d_orderDual)), (dq20, .inl (cJ, 11264, .inr (.inl d_table)))] sz)) 0 0 (va_A [(dq, .inr (5, [.int d_thrown, .int d_today, .int d_cut, .int d_aging, .int d_saleFrom, .int d_pieces, .int d_orders, .ref dq8, .ref dq9, .ref dq10, .ref dq11, .ref dq12, .ref dq13, .ref dq14, .ref dq15, .int d_ran, .int d_sum, .ref dq18, .ref dq19, .ref dq20])), (dq8, .inl (cI, 40, .inl d_piece)), (dq9, .inl (cI, 40, .inl d_order)), (dq10, .inl (cI, 10, .inl d_came)), (dq11, .inl (cI, 100, .inl d_worth)), (dq12, .inl (cZ, 10, .inl d_used)), (dq13, .inl (cI, 10, .inl d_usedBy)), (dq14, .inl (cI, 10, .inl d_reservedFor)), (dq15, .inl (cI, 10, .inl d_reservedTo)), (dq18, .inl (cI, 10, .inl d_pieceDual)), (dq19, .inl (cI, 10, .inl d_orderDual)), (dq20, .inl (cJ, 11264, .inr (.inl d_table)))] sz) := by
  unfold m_D_tick at hm
  refine Met.ofW (cc := b_D_tick) (maxL := 2) (ret := (some .int)) (by decide) rfl ?_
  intro p e s m args below meth c s₁ B hml hv
  obtain ⟨rfl, hsz, hP, hK, hD0, hN⟩ := hv
  have hx := B.exec
  have hb := B.bytes
  have hr := B.returns
  have hts := atoms_spec (ws := w_D_tick) B.pre
  have hown : s.vm.findClass R_D = some m.cls := findClass_of_methodNamed B.named
  have hlocks := B.notSynchronized
  subst hsz
  have hD := hD0.self (sz := s.heap.size)
  generalize hAe : va_A [(dq, .inr (5, [.int d_thrown, .int d_today, .int d_cut, .int d_aging, .int d_saleFrom, .int d_pieces, .int d_orders, .ref dq8, .ref dq9, .ref dq10, .ref dq11, .ref dq12, .ref dq13, .ref dq14, .ref dq15, .int d_ran, .int d_sum, .ref dq18, .ref dq19, .ref dq20])), (dq8, .inl (cI, 40, .inl d_piece)), (dq9, .inl (cI, 40, .inl d_order)), (dq10, .inl (cI, 10, .inl d_came)), (dq11, .inl (cI, 100, .inl d_worth)), (dq12, .inl (cZ, 10, .inl d_used)), (dq13, .inl (cI, 10, .inl d_usedBy)), (dq14, .inl (cI, 10, .inl d_reservedFor)), (dq15, .inl (cI, 10, .inl d_reservedTo)), (dq18, .inl (cI, 10, .inl d_pieceDual)), (dq19, .inl (cI, 10, .inl d_orderDual)), (dq20, .inl (cJ, 11264, .inr (.inl d_table)))] s.heap.size = A at hD ⊢
  have hA : ∀ q : Nat, s.heap.size ≤ q → A q := fun q h => by rw [← hAe]; exact Or.inr h
  have hS : va_S A s.heap s.heap [] := va_S.rf
  have hk0 := hts (.fieldLink R_D 70 "SurplusMatchModel" "today" "I") (List.mem_cons_of_mem _ (w0 594 rfl))
  have hk1 : ∀ w ∈ w_D, w ∈ w_D_tick := fun w h => List.mem_cons_of_mem _ (i_D w h)
  have hl := lv_entry ([.ref dq, .int x1]) (n := 2) (Nat.le_of_ble_eq_true rfl)
  rw [lg_entry_eq]
  generalize (lg_sl ([.ref dq, .int x1]) ++ List.replicate (2 - (lg_sl ([.ref dq, .int x1])).length) Slot.unset).toArray = ls at hl ⊢
  have hl : lv_has ls 2 [(0, .ref dq), (1, .int x1)] := hl
  refine lv_aload_n hx hb d_D_tick_0 rfl (lv_at hl 0 rfl) ?_
  refine lv_iload_n hx hb d_D_tick_1 rfl (lv_at hl 1 rfl) ?_
  refine lv_iconst (v := 1) hx hb d_D_tick_2 (by decide) ?_
  refine lv_sipush (v := 1000) hx hb d_D_tick_3 (by decide) ?_
  obtain ⟨r1, hc, hm⟩ := bd hm
  try dsimp only at hm
  refine vp_callSi (W.runS (As := [.int x1, .int 1, .int 1000]) (rest := [.ref dq]) ⟨hx, hb, hml, hown, hts⟩ (c_D_in l dC dI cI x1 1 1000 N r1 hc) (cwS 3 hts (gS (w0 667 rfl) (w0 668 rfl) (w0 33 rfl) (w0 669 rfl)) rfl rfl rfl q_D_in ⟨Nat.le_of_ble_eq_true rfl, Nat.le_of_ble_eq_true rfl⟩) ro_pre0 rfl rfl hl.1 rfl (lv_room (Nat.le_of_ble_eq_true rfl)) d_D_tick_6 ⟨Nat.le_of_ble_eq_true rfl, Nat.le_of_ble_eq_true rfl⟩) (fun r9 hr9 => ?_)
  subst hr9
  refine lv_if_eq (tgt := 28) hx hb d_D_tick_9 (by decide) (fun c9 => ?_) (fun c9 => ?_)
  · replace hm := if_t c9 hm
    refine lv_iconst (v := 0) hx hb d_D_tick_28 (by decide) ?_
    refine lv_iconst (v := 1) hx hb d_D_tick_29 (by decide) ?_
    refine lv_iconst (v := 1) hx hb d_D_tick_30 (by decide) ?_
    refine lv_iconst (v := 1) hx hb d_D_tick_31 (by decide) ?_
    obtain ⟨⟨r2, u3⟩, hc, hm⟩ := bd hm
    try dsimp only at hm
    have hPc := hP.sub (ws' := [(dq, .inr (5, [.int d_thrown, .int d_today, .int d_cut, .int d_aging, .int d_saleFrom, .int d_pieces, .int d_orders, .ref dq8, .ref dq9, .ref dq10, .ref dq11, .ref dq12, .ref dq13, .ref dq14, .ref dq15, .int d_ran, .int d_sum, .ref dq18, .ref dq19, .ref dq20])), (dq8, .inl (cI, 40, .inl d_piece)), (dq9, .inl (cI, 40, .inl d_order)), (dq10, .inl (cI, 10, .inl d_came)), (dq11, .inl (cI, 100, .inl d_worth)), (dq12, .inl (cZ, 10, .inl d_used)), (dq13, .inl (cI, 10, .inl d_usedBy)), (dq14, .inl (cI, 10, .inl d_reservedFor)), (dq15, .inl (cI, 10, .inl d_reservedTo)), (dq18, .inl (cI, 10, .inl d_pieceDual)), (dq19, .inl (cI, 10, .inl d_orderDual)), (dq20, .inl (cJ, 11264, .inr (.inl d_table)))]) [0, 1, 2, 3, 4, 5, 6, 7, 8, 9, 10, 11] rfl
    have hDc := hD.sub (ws' := [(dq, .inr (5, [.int d_thrown, .int d_today, .int d_cut, .int d_aging, .int d_saleFrom, .int d_pieces, .int d_orders, .ref dq8, .ref dq9, .ref dq10, .ref dq11, .ref dq12, .ref dq13, .ref dq14, .ref dq15, .int d_ran, .int d_sum, .ref dq18, .ref dq19, .ref dq20])), (dq8, .inl (cI, 40, .inl d_piece)), (dq9, .inl (cI, 40, .inl d_order)), (dq10, .inl (cI, 10, .inl d_came)), (dq11, .inl (cI, 100, .inl d_worth)), (dq12, .inl (cZ, 10, .inl d_used)), (dq13, .inl (cI, 10, .inl d_usedBy)), (dq14, .inl (cI, 10, .inl d_reservedFor)), (dq15, .inl (cI, 10, .inl d_reservedTo)), (dq18, .inl (cI, 10, .inl d_pieceDual)), (dq19, .inl (cI, 10, .inl d_orderDual)), (dq20, .inl (cJ, 11264, .inr (.inl d_table)))]) [0, 1, 2, 3, 4, 5, 6, 7, 8, 9, 10, 11] (by decide) rfl
    have hFc := va_free (wc := [(dq, .inr (5, [.int d_thrown, .int d_today, .int d_cut, .int d_aging, .int d_saleFrom, .int d_pieces, .int d_orders, .ref dq8, .ref dq9, .ref dq10, .ref dq11, .ref dq12, .ref dq13, .ref dq14, .ref dq15, .int d_ran, .int d_sum, .ref dq18, .ref dq19, .ref dq20])), (dq8, .inl (cI, 40, .inl d_piece)), (dq9, .inl (cI, 40, .inl d_order)), (dq10, .inl (cI, 10, .inl d_came)), (dq11, .inl (cI, 100, .inl d_worth)), (dq12, .inl (cZ, 10, .inl d_used)), (dq13, .inl (cI, 10, .inl d_usedBy)), (dq14, .inl (cI, 10, .inl d_reservedFor)), (dq15, .inl (cI, 10, .inl d_reservedTo)), (dq18, .inl (cI, 10, .inl d_pieceDual)), (dq19, .inl (cI, 10, .inl d_orderDual)), (dq20, .inl (cJ, 11264, .inr (.inl d_table)))]) hD hS hA [0, 1, 2, 3, 4, 5, 6, 7, 8, 9, 10, 11] rfl
    refine va_calli (va_runV (As := [.int 0, .int 1, .int 1, .int 1]) (rest := []) ⟨hx, hb, hml, hown, hts⟩ (c_D_goes l dC dI cI cZ cJ dq dq8 dq9 dq10 dq11 dq12 dq13 dq14 dq15 dq18 dq19 dq20 s.heap.size d_thrown d_today d_cut d_aging d_saleFrom d_pieces d_orders d_piece d_order d_came d_worth d_used d_usedBy d_reservedFor d_reservedTo d_ran d_sum d_pieceDual d_orderDual d_table 0 1 1 1 N (r2, u3) hc) (cwV 4 hts (gV (w0 670 rfl) (w0 671 rfl) (w0 18 rfl) (w0 33 rfl) (w0 672 rfl)) rfl rfl rfl q_D_goes ⟨Nat.le_of_ble_eq_true rfl, Nat.le_of_ble_eq_true rfl⟩) (wr_preV hK hPc hDc hN 5 0 (R_D, F_D, 20) rfl rfl) rfl rfl hl.1 rfl (lv_room (Nat.le_of_ble_eq_true rfl)) d_D_tick_32 ⟨Nat.le_of_ble_eq_true rfl, Nat.le_of_ble_eq_true rfl⟩) hS (fun q _ h => hFc q h) hFc (fun r9 u t H1 locs ht hvm hw hB hz1 hk1 hS => ?_)
    subst hw
    obtain ⟨hP1, hK1, hD1⟩ := hB
    rw [ht] at hP1
    obtain ⟨hP, hD⟩ := va_join (wr := []) (w1 := [(dq, .inr (5, [.int u3, .int d_today, .int d_cut, .int d_aging, .int d_saleFrom, .int d_pieces, .int d_orders, .ref dq8, .ref dq9, .ref dq10, .ref dq11, .ref dq12, .ref dq13, .ref dq14, .ref dq15, .int d_ran, .int d_sum, .ref dq18, .ref dq19, .ref dq20])), (dq8, .inl (cI, 40, .inl d_piece)), (dq9, .inl (cI, 40, .inl d_order)), (dq10, .inl (cI, 10, .inl d_came)), (dq11, .inl (cI, 100, .inl d_worth)), (dq12, .inl (cZ, 10, .inl d_used)), (dq13, .inl (cI, 10, .inl d_usedBy)), (dq14, .inl (cI, 10, .inl d_reservedFor)), (dq15, .inl (cI, 10, .inl d_reservedTo)), (dq18, .inl (cI, 10, .inl d_pieceDual)), (dq19, .inl (cI, 10, .inl d_orderDual)), (dq20, .inl (cJ, 11264, .inr (.inl d_table)))]) hP hD [0, 1, 2, 3, 4, 5, 6, 7, 8, 9, 10, 11] [] rfl rfl (by decide) (by decide) hk1 hFc hP1 hD1
    generalize H1 = H at hP hS ⊢
    have hP : va_P (dC, dI) classes [(dq, .inr (5, [.int u3, .int d_today, .int d_cut, .int d_aging, .int d_saleFrom, .int d_pieces, .int d_orders, .ref dq8, .ref dq9, .ref dq10, .ref dq11, .ref dq12, .ref dq13, .ref dq14, .ref dq15, .int d_ran, .int d_sum, .ref dq18, .ref dq19, .ref dq20])), (dq8, .inl (cI, 40, .inl d_piece)), (dq9, .inl (cI, 40, .inl d_order)), (dq10, .inl (cI, 10, .inl d_came)), (dq11, .inl (cI, 100, .inl d_worth)), (dq12, .inl (cZ, 10, .inl d_used)), (dq13, .inl (cI, 10, .inl d_usedBy)), (dq14, .inl (cI, 10, .inl d_reservedFor)), (dq15, .inl (cI, 10, .inl d_reservedTo)), (dq18, .inl (cI, 10, .inl d_pieceDual)), (dq19, .inl (cI, 10, .inl d_orderDual)), (dq20, .inl (cJ, 11264, .inr (.inl d_table)))] H := hP
    have hD : va_D A [(dq, .inr (5, [.int u3, .int d_today, .int d_cut, .int d_aging, .int d_saleFrom, .int d_pieces, .int d_orders, .ref dq8, .ref dq9, .ref dq10, .ref dq11, .ref dq12, .ref dq13, .ref dq14, .ref dq15, .int d_ran, .int d_sum, .ref dq18, .ref dq19, .ref dq20])), (dq8, .inl (cI, 40, .inl d_piece)), (dq9, .inl (cI, 40, .inl d_order)), (dq10, .inl (cI, 10, .inl d_came)), (dq11, .inl (cI, 100, .inl d_worth)), (dq12, .inl (cZ, 10, .inl d_used)), (dq13, .inl (cI, 10, .inl d_usedBy)), (dq14, .inl (cI, 10, .inl d_reservedFor)), (dq15, .inl (cI, 10, .inl d_reservedTo)), (dq18, .inl (cI, 10, .inl d_pieceDual)), (dq19, .inl (cI, 10, .inl d_orderDual)), (dq20, .inl (cJ, 11264, .inr (.inl d_table)))] := hD
    clear hP1 hD1 hPc hDc hFc hk1 hz1
    refine lv_if_ne (tgt := 40) hx hb d_D_tick_35 (by decide) (fun c9 => ?_) (fun c9 => ?_)
    · replace hm := if_f c9 hm
      refine lv_aload_n hx hb d_D_tick_40 rfl (lv_at hl 0 rfl) ?_
      refine lv_aload_n hx hb d_D_tick_41 rfl (lv_at hl 0 rfl) ?_
      refine va_get (D := (dC, dI)) (ci := 5) (v := .int d_today) (C := R_D) (T := F_D) (N := 20) hx hb hts hk1 hown hK hP 0 rfl rfl 1 (by decide) hk0 (fun _ h9 => h9) rfl d_D_tick_42 ?_
      refine lv_iload_n hx hb d_D_tick_45 rfl (lv_at hl 1 rfl) ?_
      refine lv_iadd hx hb d_D_tick_46 ?_
      refine va_put (D := (dC, dI)) (ci := 5) (v := .int (d_today + x1)) (ty := .int) (C := R_D) (T := F_D) (N := 20) hx hb hts hk1 t_D t_D_ok n_D hown hK hP hD hS 0 rfl rfl 1 (by decide) hk0 (fun _ h9 => h9) rfl (by decide +kernel) rfl rfl (Nat.le_of_ble_eq_true rfl) d_D_tick_47 (fun H locs hP hD hS => ?_)
      have hP : va_P (dC, dI) classes [(dq, .inr (5, [.int u3, .int (d_today + x1), .int d_cut, .int d_aging, .int d_saleFrom, .int d_pieces, .int d_orders, .ref dq8, .ref dq9, .ref dq10, .ref dq11, .ref dq12, .ref dq13, .ref dq14, .ref dq15, .int d_ran, .int d_sum, .ref dq18, .ref dq19, .ref dq20])), (dq8, .inl (cI, 40, .inl d_piece)), (dq9, .inl (cI, 40, .inl d_order)), (dq10, .inl (cI, 10, .inl d_came)), (dq11, .inl (cI, 100, .inl d_worth)), (dq12, .inl (cZ, 10, .inl d_used)), (dq13, .inl (cI, 10, .inl d_usedBy)), (dq14, .inl (cI, 10, .inl d_reservedFor)), (dq15, .inl (cI, 10, .inl d_reservedTo)), (dq18, .inl (cI, 10, .inl d_pieceDual)), (dq19, .inl (cI, 10, .inl d_orderDual)), (dq20, .inl (cJ, 11264, .inr (.inl d_table)))] H := hP
      have hD : va_D A [(dq, .inr (5, [.int u3, .int (d_today + x1), .int d_cut, .int d_aging, .int d_saleFrom, .int d_pieces, .int d_orders, .ref dq8, .ref dq9, .ref dq10, .ref dq11, .ref dq12, .ref dq13, .ref dq14, .ref dq15, .int d_ran, .int d_sum, .ref dq18, .ref dq19, .ref dq20])), (dq8, .inl (cI, 40, .inl d_piece)), (dq9, .inl (cI, 40, .inl d_order)), (dq10, .inl (cI, 10, .inl d_came)), (dq11, .inl (cI, 100, .inl d_worth)), (dq12, .inl (cZ, 10, .inl d_used)), (dq13, .inl (cI, 10, .inl d_usedBy)), (dq14, .inl (cI, 10, .inl d_reservedFor)), (dq15, .inl (cI, 10, .inl d_reservedTo)), (dq18, .inl (cI, 10, .inl d_pieceDual)), (dq19, .inl (cI, 10, .inl d_orderDual)), (dq20, .inl (cJ, 11264, .inr (.inl d_table)))] := hD
      refine lv_aload_n hx hb d_D_tick_50 rfl (lv_at hl 0 rfl) ?_
      refine va_get (D := (dC, dI)) (ci := 5) (v := .int (d_today + x1)) (C := R_D) (T := F_D) (N := 20) hx hb hts hk1 hown hK hP 0 rfl rfl 1 (by decide) hk0 (fun _ h9 => h9) rfl d_D_tick_51 ?_
      cases hm
      refine W.widen (k := 0) (n := 0) (Nat.le_of_ble_eq_true rfl) (Nat.le_of_ble_eq_true rfl) ?_
      exact W.iret hx hb hr (fun t ht hW => ⟨⟨_, (), rfl, rfl, by rw [ht]; exact hP, va_K.moved hW.alike hK, hD⟩, hS.F ht⟩) hS.2.2 d_D_tick_54
    · replace hm := if_t c9 hm
      refine lv_iconst (v := 0) hx hb d_D_tick_38 (by decide) ?_
      cases hm
      refine W.widen (k := 0) (n := 0) (Nat.le_of_ble_eq_true rfl) (Nat.le_of_ble_eq_true rfl) ?_
      exact W.iret hx hb hr (fun t ht hW => ⟨⟨_, (), rfl, rfl, by rw [ht]; exact hP, va_K.moved hW.alike hK, hD⟩, hS.F ht⟩) hS.2.2 d_D_tick_39
  · replace hm := if_f c9 hm
    refine lv_iload_n hx hb d_D_tick_12 rfl (lv_at hl 1 rfl) ?_
    refine lv_sipush (v := 9999) hx hb d_D_tick_13 (by decide) ?_
    refine lv_aload_n hx hb d_D_tick_16 rfl (lv_at hl 0 rfl) ?_
    refine va_get (D := (dC, dI)) (ci := 5) (v := .int d_today) (C := R_D) (T := F_D) (N := 20) hx hb hts hk1 hown hK hP 0 rfl rfl 1 (by decide) hk0 (fun _ h9 => h9) rfl d_D_tick_17 ?_
    refine lv_isub hx hb d_D_tick_20 ?_
    refine lv_icmp_gt (tgt := 28) hx hb d_D_tick_21 (by decide) (fun c9 => ?_) (fun c9 => ?_)
    · replace hm := if_t c9 hm
      refine lv_iconst (v := 0) hx hb d_D_tick_28 (by decide) ?_
      refine lv_iconst (v := 1) hx hb d_D_tick_29 (by decide) ?_
      refine lv_iconst (v := 1) hx hb d_D_tick_30 (by decide) ?_
      refine lv_iconst (v := 1) hx hb d_D_tick_31 (by decide) ?_
      obtain ⟨⟨r5, u6⟩, hc, hm⟩ := bd hm
      try dsimp only at hm
      have hPc := hP.sub (ws' := [(dq, .inr (5, [.int d_thrown, .int d_today, .int d_cut, .int d_aging, .int d_saleFrom, .int d_pieces, .int d_orders, .ref dq8, .ref dq9, .ref dq10, .ref dq11, .ref dq12, .ref dq13, .ref dq14, .ref dq15, .int d_ran, .int d_sum, .ref dq18, .ref dq19, .ref dq20])), (dq8, .inl (cI, 40, .inl d_piece)), (dq9, .inl (cI, 40, .inl d_order)), (dq10, .inl (cI, 10, .inl d_came)), (dq11, .inl (cI, 100, .inl d_worth)), (dq12, .inl (cZ, 10, .inl d_used)), (dq13, .inl (cI, 10, .inl d_usedBy)), (dq14, .inl (cI, 10, .inl d_reservedFor)), (dq15, .inl (cI, 10, .inl d_reservedTo)), (dq18, .inl (cI, 10, .inl d_pieceDual)), (dq19, .inl (cI, 10, .inl d_orderDual)), (dq20, .inl (cJ, 11264, .inr (.inl d_table)))]) [0, 1, 2, 3, 4, 5, 6, 7, 8, 9, 10, 11] rfl
      have hDc := hD.sub (ws' := [(dq, .inr (5, [.int d_thrown, .int d_today, .int d_cut, .int d_aging, .int d_saleFrom, .int d_pieces, .int d_orders, .ref dq8, .ref dq9, .ref dq10, .ref dq11, .ref dq12, .ref dq13, .ref dq14, .ref dq15, .int d_ran, .int d_sum, .ref dq18, .ref dq19, .ref dq20])), (dq8, .inl (cI, 40, .inl d_piece)), (dq9, .inl (cI, 40, .inl d_order)), (dq10, .inl (cI, 10, .inl d_came)), (dq11, .inl (cI, 100, .inl d_worth)), (dq12, .inl (cZ, 10, .inl d_used)), (dq13, .inl (cI, 10, .inl d_usedBy)), (dq14, .inl (cI, 10, .inl d_reservedFor)), (dq15, .inl (cI, 10, .inl d_reservedTo)), (dq18, .inl (cI, 10, .inl d_pieceDual)), (dq19, .inl (cI, 10, .inl d_orderDual)), (dq20, .inl (cJ, 11264, .inr (.inl d_table)))]) [0, 1, 2, 3, 4, 5, 6, 7, 8, 9, 10, 11] (by decide) rfl
      have hFc := va_free (wc := [(dq, .inr (5, [.int d_thrown, .int d_today, .int d_cut, .int d_aging, .int d_saleFrom, .int d_pieces, .int d_orders, .ref dq8, .ref dq9, .ref dq10, .ref dq11, .ref dq12, .ref dq13, .ref dq14, .ref dq15, .int d_ran, .int d_sum, .ref dq18, .ref dq19, .ref dq20])), (dq8, .inl (cI, 40, .inl d_piece)), (dq9, .inl (cI, 40, .inl d_order)), (dq10, .inl (cI, 10, .inl d_came)), (dq11, .inl (cI, 100, .inl d_worth)), (dq12, .inl (cZ, 10, .inl d_used)), (dq13, .inl (cI, 10, .inl d_usedBy)), (dq14, .inl (cI, 10, .inl d_reservedFor)), (dq15, .inl (cI, 10, .inl d_reservedTo)), (dq18, .inl (cI, 10, .inl d_pieceDual)), (dq19, .inl (cI, 10, .inl d_orderDual)), (dq20, .inl (cJ, 11264, .inr (.inl d_table)))]) hD hS hA [0, 1, 2, 3, 4, 5, 6, 7, 8, 9, 10, 11] rfl
      refine va_calli (va_runV (As := [.int 0, .int 1, .int 1, .int 1]) (rest := []) ⟨hx, hb, hml, hown, hts⟩ (c_D_goes l dC dI cI cZ cJ dq dq8 dq9 dq10 dq11 dq12 dq13 dq14 dq15 dq18 dq19 dq20 s.heap.size d_thrown d_today d_cut d_aging d_saleFrom d_pieces d_orders d_piece d_order d_came d_worth d_used d_usedBy d_reservedFor d_reservedTo d_ran d_sum d_pieceDual d_orderDual d_table 0 1 1 1 N (r5, u6) hc) (cwV 4 hts (gV (w0 670 rfl) (w0 671 rfl) (w0 18 rfl) (w0 33 rfl) (w0 672 rfl)) rfl rfl rfl q_D_goes ⟨Nat.le_of_ble_eq_true rfl, Nat.le_of_ble_eq_true rfl⟩) (wr_preV hK hPc hDc hN 5 0 (R_D, F_D, 20) rfl rfl) rfl rfl hl.1 rfl (lv_room (Nat.le_of_ble_eq_true rfl)) d_D_tick_32 ⟨Nat.le_of_ble_eq_true rfl, Nat.le_of_ble_eq_true rfl⟩) hS (fun q _ h => hFc q h) hFc (fun r9 u t H1 locs ht hvm hw hB hz1 hk1 hS => ?_)
      subst hw
      obtain ⟨hP1, hK1, hD1⟩ := hB
      rw [ht] at hP1
      obtain ⟨hP, hD⟩ := va_join (wr := []) (w1 := [(dq, .inr (5, [.int u6, .int d_today, .int d_cut, .int d_aging, .int d_saleFrom, .int d_pieces, .int d_orders, .ref dq8, .ref dq9, .ref dq10, .ref dq11, .ref dq12, .ref dq13, .ref dq14, .ref dq15, .int d_ran, .int d_sum, .ref dq18, .ref dq19, .ref dq20])), (dq8, .inl (cI, 40, .inl d_piece)), (dq9, .inl (cI, 40, .inl d_order)), (dq10, .inl (cI, 10, .inl d_came)), (dq11, .inl (cI, 100, .inl d_worth)), (dq12, .inl (cZ, 10, .inl d_used)), (dq13, .inl (cI, 10, .inl d_usedBy)), (dq14, .inl (cI, 10, .inl d_reservedFor)), (dq15, .inl (cI, 10, .inl d_reservedTo)), (dq18, .inl (cI, 10, .inl d_pieceDual)), (dq19, .inl (cI, 10, .inl d_orderDual)), (dq20, .inl (cJ, 11264, .inr (.inl d_table)))]) hP hD [0, 1, 2, 3, 4, 5, 6, 7, 8, 9, 10, 11] [] rfl rfl (by decide) (by decide) hk1 hFc hP1 hD1
      generalize H1 = H at hP hS ⊢
      have hP : va_P (dC, dI) classes [(dq, .inr (5, [.int u6, .int d_today, .int d_cut, .int d_aging, .int d_saleFrom, .int d_pieces, .int d_orders, .ref dq8, .ref dq9, .ref dq10, .ref dq11, .ref dq12, .ref dq13, .ref dq14, .ref dq15, .int d_ran, .int d_sum, .ref dq18, .ref dq19, .ref dq20])), (dq8, .inl (cI, 40, .inl d_piece)), (dq9, .inl (cI, 40, .inl d_order)), (dq10, .inl (cI, 10, .inl d_came)), (dq11, .inl (cI, 100, .inl d_worth)), (dq12, .inl (cZ, 10, .inl d_used)), (dq13, .inl (cI, 10, .inl d_usedBy)), (dq14, .inl (cI, 10, .inl d_reservedFor)), (dq15, .inl (cI, 10, .inl d_reservedTo)), (dq18, .inl (cI, 10, .inl d_pieceDual)), (dq19, .inl (cI, 10, .inl d_orderDual)), (dq20, .inl (cJ, 11264, .inr (.inl d_table)))] H := hP
      have hD : va_D A [(dq, .inr (5, [.int u6, .int d_today, .int d_cut, .int d_aging, .int d_saleFrom, .int d_pieces, .int d_orders, .ref dq8, .ref dq9, .ref dq10, .ref dq11, .ref dq12, .ref dq13, .ref dq14, .ref dq15, .int d_ran, .int d_sum, .ref dq18, .ref dq19, .ref dq20])), (dq8, .inl (cI, 40, .inl d_piece)), (dq9, .inl (cI, 40, .inl d_order)), (dq10, .inl (cI, 10, .inl d_came)), (dq11, .inl (cI, 100, .inl d_worth)), (dq12, .inl (cZ, 10, .inl d_used)), (dq13, .inl (cI, 10, .inl d_usedBy)), (dq14, .inl (cI, 10, .inl d_reservedFor)), (dq15, .inl (cI, 10, .inl d_reservedTo)), (dq18, .inl (cI, 10, .inl d_pieceDual)), (dq19, .inl (cI, 10, .inl d_orderDual)), (dq20, .inl (cJ, 11264, .inr (.inl d_table)))] := hD
      clear hP1 hD1 hPc hDc hFc hk1 hz1
      refine lv_if_ne (tgt := 40) hx hb d_D_tick_35 (by decide) (fun c9 => ?_) (fun c9 => ?_)
      · replace hm := if_f c9 hm
        refine lv_aload_n hx hb d_D_tick_40 rfl (lv_at hl 0 rfl) ?_
        refine lv_aload_n hx hb d_D_tick_41 rfl (lv_at hl 0 rfl) ?_
        refine va_get (D := (dC, dI)) (ci := 5) (v := .int d_today) (C := R_D) (T := F_D) (N := 20) hx hb hts hk1 hown hK hP 0 rfl rfl 1 (by decide) hk0 (fun _ h9 => h9) rfl d_D_tick_42 ?_
        refine lv_iload_n hx hb d_D_tick_45 rfl (lv_at hl 1 rfl) ?_
        refine lv_iadd hx hb d_D_tick_46 ?_
        refine va_put (D := (dC, dI)) (ci := 5) (v := .int (d_today + x1)) (ty := .int) (C := R_D) (T := F_D) (N := 20) hx hb hts hk1 t_D t_D_ok n_D hown hK hP hD hS 0 rfl rfl 1 (by decide) hk0 (fun _ h9 => h9) rfl (by decide +kernel) rfl rfl (Nat.le_of_ble_eq_true rfl) d_D_tick_47 (fun H locs hP hD hS => ?_)
        have hP : va_P (dC, dI) classes [(dq, .inr (5, [.int u6, .int (d_today + x1), .int d_cut, .int d_aging, .int d_saleFrom, .int d_pieces, .int d_orders, .ref dq8, .ref dq9, .ref dq10, .ref dq11, .ref dq12, .ref dq13, .ref dq14, .ref dq15, .int d_ran, .int d_sum, .ref dq18, .ref dq19, .ref dq20])), (dq8, .inl (cI, 40, .inl d_piece)), (dq9, .inl (cI, 40, .inl d_order)), (dq10, .inl (cI, 10, .inl d_came)), (dq11, .inl (cI, 100, .inl d_worth)), (dq12, .inl (cZ, 10, .inl d_used)), (dq13, .inl (cI, 10, .inl d_usedBy)), (dq14, .inl (cI, 10, .inl d_reservedFor)), (dq15, .inl (cI, 10, .inl d_reservedTo)), (dq18, .inl (cI, 10, .inl d_pieceDual)), (dq19, .inl (cI, 10, .inl d_orderDual)), (dq20, .inl (cJ, 11264, .inr (.inl d_table)))] H := hP
        have hD : va_D A [(dq, .inr (5, [.int u6, .int (d_today + x1), .int d_cut, .int d_aging, .int d_saleFrom, .int d_pieces, .int d_orders, .ref dq8, .ref dq9, .ref dq10, .ref dq11, .ref dq12, .ref dq13, .ref dq14, .ref dq15, .int d_ran, .int d_sum, .ref dq18, .ref dq19, .ref dq20])), (dq8, .inl (cI, 40, .inl d_piece)), (dq9, .inl (cI, 40, .inl d_order)), (dq10, .inl (cI, 10, .inl d_came)), (dq11, .inl (cI, 100, .inl d_worth)), (dq12, .inl (cZ, 10, .inl d_used)), (dq13, .inl (cI, 10, .inl d_usedBy)), (dq14, .inl (cI, 10, .inl d_reservedFor)), (dq15, .inl (cI, 10, .inl d_reservedTo)), (dq18, .inl (cI, 10, .inl d_pieceDual)), (dq19, .inl (cI, 10, .inl d_orderDual)), (dq20, .inl (cJ, 11264, .inr (.inl d_table)))] := hD
        refine lv_aload_n hx hb d_D_tick_50 rfl (lv_at hl 0 rfl) ?_
        refine va_get (D := (dC, dI)) (ci := 5) (v := .int (d_today + x1)) (C := R_D) (T := F_D) (N := 20) hx hb hts hk1 hown hK hP 0 rfl rfl 1 (by decide) hk0 (fun _ h9 => h9) rfl d_D_tick_51 ?_
        cases hm
        refine W.widen (k := 0) (n := 0) (Nat.le_of_ble_eq_true rfl) (Nat.le_of_ble_eq_true rfl) ?_
        exact W.iret hx hb hr (fun t ht hW => ⟨⟨_, (), rfl, rfl, by rw [ht]; exact hP, va_K.moved hW.alike hK, hD⟩, hS.F ht⟩) hS.2.2 d_D_tick_54
      · replace hm := if_t c9 hm
        refine lv_iconst (v := 0) hx hb d_D_tick_38 (by decide) ?_
        cases hm
        refine W.widen (k := 0) (n := 0) (Nat.le_of_ble_eq_true rfl) (Nat.le_of_ble_eq_true rfl) ?_
        exact W.iret hx hb hr (fun t ht hW => ⟨⟨_, (), rfl, rfl, by rw [ht]; exact hP, va_K.moved hW.alike hK, hD⟩, hS.F ht⟩) hS.2.2 d_D_tick_39
    · replace hm := if_f c9 hm
      refine lv_iconst (v := 1) hx hb d_D_tick_24 (by decide) ?_
      refine lv_goto (tgt := 29) hx hb d_D_tick_25 (by decide) ?_
      refine lv_iconst (v := 1) hx hb d_D_tick_29 (by decide) ?_
      refine lv_iconst (v := 1) hx hb d_D_tick_30 (by decide) ?_
      refine lv_iconst (v := 1) hx hb d_D_tick_31 (by decide) ?_
      obtain ⟨⟨r8, u9⟩, hc, hm⟩ := bd hm
      try dsimp only at hm
      have hPc := hP.sub (ws' := [(dq, .inr (5, [.int d_thrown, .int d_today, .int d_cut, .int d_aging, .int d_saleFrom, .int d_pieces, .int d_orders, .ref dq8, .ref dq9, .ref dq10, .ref dq11, .ref dq12, .ref dq13, .ref dq14, .ref dq15, .int d_ran, .int d_sum, .ref dq18, .ref dq19, .ref dq20])), (dq8, .inl (cI, 40, .inl d_piece)), (dq9, .inl (cI, 40, .inl d_order)), (dq10, .inl (cI, 10, .inl d_came)), (dq11, .inl (cI, 100, .inl d_worth)), (dq12, .inl (cZ, 10, .inl d_used)), (dq13, .inl (cI, 10, .inl d_usedBy)), (dq14, .inl (cI, 10, .inl d_reservedFor)), (dq15, .inl (cI, 10, .inl d_reservedTo)), (dq18, .inl (cI, 10, .inl d_pieceDual)), (dq19, .inl (cI, 10, .inl d_orderDual)), (dq20, .inl (cJ, 11264, .inr (.inl d_table)))]) [0, 1, 2, 3, 4, 5, 6, 7, 8, 9, 10, 11] rfl
      have hDc := hD.sub (ws' := [(dq, .inr (5, [.int d_thrown, .int d_today, .int d_cut, .int d_aging, .int d_saleFrom, .int d_pieces, .int d_orders, .ref dq8, .ref dq9, .ref dq10, .ref dq11, .ref dq12, .ref dq13, .ref dq14, .ref dq15, .int d_ran, .int d_sum, .ref dq18, .ref dq19, .ref dq20])), (dq8, .inl (cI, 40, .inl d_piece)), (dq9, .inl (cI, 40, .inl d_order)), (dq10, .inl (cI, 10, .inl d_came)), (dq11, .inl (cI, 100, .inl d_worth)), (dq12, .inl (cZ, 10, .inl d_used)), (dq13, .inl (cI, 10, .inl d_usedBy)), (dq14, .inl (cI, 10, .inl d_reservedFor)), (dq15, .inl (cI, 10, .inl d_reservedTo)), (dq18, .inl (cI, 10, .inl d_pieceDual)), (dq19, .inl (cI, 10, .inl d_orderDual)), (dq20, .inl (cJ, 11264, .inr (.inl d_table)))]) [0, 1, 2, 3, 4, 5, 6, 7, 8, 9, 10, 11] (by decide) rfl
      have hFc := va_free (wc := [(dq, .inr (5, [.int d_thrown, .int d_today, .int d_cut, .int d_aging, .int d_saleFrom, .int d_pieces, .int d_orders, .ref dq8, .ref dq9, .ref dq10, .ref dq11, .ref dq12, .ref dq13, .ref dq14, .ref dq15, .int d_ran, .int d_sum, .ref dq18, .ref dq19, .ref dq20])), (dq8, .inl (cI, 40, .inl d_piece)), (dq9, .inl (cI, 40, .inl d_order)), (dq10, .inl (cI, 10, .inl d_came)), (dq11, .inl (cI, 100, .inl d_worth)), (dq12, .inl (cZ, 10, .inl d_used)), (dq13, .inl (cI, 10, .inl d_usedBy)), (dq14, .inl (cI, 10, .inl d_reservedFor)), (dq15, .inl (cI, 10, .inl d_reservedTo)), (dq18, .inl (cI, 10, .inl d_pieceDual)), (dq19, .inl (cI, 10, .inl d_orderDual)), (dq20, .inl (cJ, 11264, .inr (.inl d_table)))]) hD hS hA [0, 1, 2, 3, 4, 5, 6, 7, 8, 9, 10, 11] rfl
      refine va_calli (va_runV (As := [.int 1, .int 1, .int 1, .int 1]) (rest := []) ⟨hx, hb, hml, hown, hts⟩ (c_D_goes l dC dI cI cZ cJ dq dq8 dq9 dq10 dq11 dq12 dq13 dq14 dq15 dq18 dq19 dq20 s.heap.size d_thrown d_today d_cut d_aging d_saleFrom d_pieces d_orders d_piece d_order d_came d_worth d_used d_usedBy d_reservedFor d_reservedTo d_ran d_sum d_pieceDual d_orderDual d_table 1 1 1 1 N (r8, u9) hc) (cwV 4 hts (gV (w0 670 rfl) (w0 671 rfl) (w0 18 rfl) (w0 33 rfl) (w0 672 rfl)) rfl rfl rfl q_D_goes ⟨Nat.le_of_ble_eq_true rfl, Nat.le_of_ble_eq_true rfl⟩) (wr_preV hK hPc hDc hN 5 0 (R_D, F_D, 20) rfl rfl) rfl rfl hl.1 rfl (lv_room (Nat.le_of_ble_eq_true rfl)) d_D_tick_32 ⟨Nat.le_of_ble_eq_true rfl, Nat.le_of_ble_eq_true rfl⟩) hS (fun q _ h => hFc q h) hFc (fun r9 u t H1 locs ht hvm hw hB hz1 hk1 hS => ?_)
      subst hw
      obtain ⟨hP1, hK1, hD1⟩ := hB
      rw [ht] at hP1
      obtain ⟨hP, hD⟩ := va_join (wr := []) (w1 := [(dq, .inr (5, [.int u9, .int d_today, .int d_cut, .int d_aging, .int d_saleFrom, .int d_pieces, .int d_orders, .ref dq8, .ref dq9, .ref dq10, .ref dq11, .ref dq12, .ref dq13, .ref dq14, .ref dq15, .int d_ran, .int d_sum, .ref dq18, .ref dq19, .ref dq20])), (dq8, .inl (cI, 40, .inl d_piece)), (dq9, .inl (cI, 40, .inl d_order)), (dq10, .inl (cI, 10, .inl d_came)), (dq11, .inl (cI, 100, .inl d_worth)), (dq12, .inl (cZ, 10, .inl d_used)), (dq13, .inl (cI, 10, .inl d_usedBy)), (dq14, .inl (cI, 10, .inl d_reservedFor)), (dq15, .inl (cI, 10, .inl d_reservedTo)), (dq18, .inl (cI, 10, .inl d_pieceDual)), (dq19, .inl (cI, 10, .inl d_orderDual)), (dq20, .inl (cJ, 11264, .inr (.inl d_table)))]) hP hD [0, 1, 2, 3, 4, 5, 6, 7, 8, 9, 10, 11] [] rfl rfl (by decide) (by decide) hk1 hFc hP1 hD1
      generalize H1 = H at hP hS ⊢
      have hP : va_P (dC, dI) classes [(dq, .inr (5, [.int u9, .int d_today, .int d_cut, .int d_aging, .int d_saleFrom, .int d_pieces, .int d_orders, .ref dq8, .ref dq9, .ref dq10, .ref dq11, .ref dq12, .ref dq13, .ref dq14, .ref dq15, .int d_ran, .int d_sum, .ref dq18, .ref dq19, .ref dq20])), (dq8, .inl (cI, 40, .inl d_piece)), (dq9, .inl (cI, 40, .inl d_order)), (dq10, .inl (cI, 10, .inl d_came)), (dq11, .inl (cI, 100, .inl d_worth)), (dq12, .inl (cZ, 10, .inl d_used)), (dq13, .inl (cI, 10, .inl d_usedBy)), (dq14, .inl (cI, 10, .inl d_reservedFor)), (dq15, .inl (cI, 10, .inl d_reservedTo)), (dq18, .inl (cI, 10, .inl d_pieceDual)), (dq19, .inl (cI, 10, .inl d_orderDual)), (dq20, .inl (cJ, 11264, .inr (.inl d_table)))] H := hP
      have hD : va_D A [(dq, .inr (5, [.int u9, .int d_today, .int d_cut, .int d_aging, .int d_saleFrom, .int d_pieces, .int d_orders, .ref dq8, .ref dq9, .ref dq10, .ref dq11, .ref dq12, .ref dq13, .ref dq14, .ref dq15, .int d_ran, .int d_sum, .ref dq18, .ref dq19, .ref dq20])), (dq8, .inl (cI, 40, .inl d_piece)), (dq9, .inl (cI, 40, .inl d_order)), (dq10, .inl (cI, 10, .inl d_came)), (dq11, .inl (cI, 100, .inl d_worth)), (dq12, .inl (cZ, 10, .inl d_used)), (dq13, .inl (cI, 10, .inl d_usedBy)), (dq14, .inl (cI, 10, .inl d_reservedFor)), (dq15, .inl (cI, 10, .inl d_reservedTo)), (dq18, .inl (cI, 10, .inl d_pieceDual)), (dq19, .inl (cI, 10, .inl d_orderDual)), (dq20, .inl (cJ, 11264, .inr (.inl d_table)))] := hD
      clear hP1 hD1 hPc hDc hFc hk1 hz1
      refine lv_if_ne (tgt := 40) hx hb d_D_tick_35 (by decide) (fun c9 => ?_) (fun c9 => ?_)
      · replace hm := if_f c9 hm
        refine lv_aload_n hx hb d_D_tick_40 rfl (lv_at hl 0 rfl) ?_
        refine lv_aload_n hx hb d_D_tick_41 rfl (lv_at hl 0 rfl) ?_
        refine va_get (D := (dC, dI)) (ci := 5) (v := .int d_today) (C := R_D) (T := F_D) (N := 20) hx hb hts hk1 hown hK hP 0 rfl rfl 1 (by decide) hk0 (fun _ h9 => h9) rfl d_D_tick_42 ?_
        refine lv_iload_n hx hb d_D_tick_45 rfl (lv_at hl 1 rfl) ?_
        refine lv_iadd hx hb d_D_tick_46 ?_
        refine va_put (D := (dC, dI)) (ci := 5) (v := .int (d_today + x1)) (ty := .int) (C := R_D) (T := F_D) (N := 20) hx hb hts hk1 t_D t_D_ok n_D hown hK hP hD hS 0 rfl rfl 1 (by decide) hk0 (fun _ h9 => h9) rfl (by decide +kernel) rfl rfl (Nat.le_of_ble_eq_true rfl) d_D_tick_47 (fun H locs hP hD hS => ?_)
        have hP : va_P (dC, dI) classes [(dq, .inr (5, [.int u9, .int (d_today + x1), .int d_cut, .int d_aging, .int d_saleFrom, .int d_pieces, .int d_orders, .ref dq8, .ref dq9, .ref dq10, .ref dq11, .ref dq12, .ref dq13, .ref dq14, .ref dq15, .int d_ran, .int d_sum, .ref dq18, .ref dq19, .ref dq20])), (dq8, .inl (cI, 40, .inl d_piece)), (dq9, .inl (cI, 40, .inl d_order)), (dq10, .inl (cI, 10, .inl d_came)), (dq11, .inl (cI, 100, .inl d_worth)), (dq12, .inl (cZ, 10, .inl d_used)), (dq13, .inl (cI, 10, .inl d_usedBy)), (dq14, .inl (cI, 10, .inl d_reservedFor)), (dq15, .inl (cI, 10, .inl d_reservedTo)), (dq18, .inl (cI, 10, .inl d_pieceDual)), (dq19, .inl (cI, 10, .inl d_orderDual)), (dq20, .inl (cJ, 11264, .inr (.inl d_table)))] H := hP
        have hD : va_D A [(dq, .inr (5, [.int u9, .int (d_today + x1), .int d_cut, .int d_aging, .int d_saleFrom, .int d_pieces, .int d_orders, .ref dq8, .ref dq9, .ref dq10, .ref dq11, .ref dq12, .ref dq13, .ref dq14, .ref dq15, .int d_ran, .int d_sum, .ref dq18, .ref dq19, .ref dq20])), (dq8, .inl (cI, 40, .inl d_piece)), (dq9, .inl (cI, 40, .inl d_order)), (dq10, .inl (cI, 10, .inl d_came)), (dq11, .inl (cI, 100, .inl d_worth)), (dq12, .inl (cZ, 10, .inl d_used)), (dq13, .inl (cI, 10, .inl d_usedBy)), (dq14, .inl (cI, 10, .inl d_reservedFor)), (dq15, .inl (cI, 10, .inl d_reservedTo)), (dq18, .inl (cI, 10, .inl d_pieceDual)), (dq19, .inl (cI, 10, .inl d_orderDual)), (dq20, .inl (cJ, 11264, .inr (.inl d_table)))] := hD
        refine lv_aload_n hx hb d_D_tick_50 rfl (lv_at hl 0 rfl) ?_
        refine va_get (D := (dC, dI)) (ci := 5) (v := .int (d_today + x1)) (C := R_D) (T := F_D) (N := 20) hx hb hts hk1 hown hK hP 0 rfl rfl 1 (by decide) hk0 (fun _ h9 => h9) rfl d_D_tick_51 ?_
        cases hm
        refine W.widen (k := 0) (n := 0) (Nat.le_of_ble_eq_true rfl) (Nat.le_of_ble_eq_true rfl) ?_
        exact W.iret hx hb hr (fun t ht hW => ⟨⟨_, (), rfl, rfl, by rw [ht]; exact hP, va_K.moved hW.alike hK, hD⟩, hS.F ht⟩) hS.2.2 d_D_tick_54
      · replace hm := if_t c9 hm
        refine lv_iconst (v := 0) hx hb d_D_tick_38 (by decide) ?_
        cases hm
        refine W.widen (k := 0) (n := 0) (Nat.le_of_ble_eq_true rfl) (Nat.le_of_ble_eq_true rfl) ?_
        exact W.iret hx hb hr (fun t ht hW => ⟨⟨_, (), rfl, rfl, by rw [ht]; exact hP, va_K.moved hW.alike hK, hD⟩, hS.F ht⟩) hS.2.2 d_D_tick_39

