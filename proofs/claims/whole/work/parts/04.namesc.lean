theorem dX7_init_0 : decode cX7_init 0 = .ok (.aload_n 0, 1) := by decide +kernel
theorem dX7_init_1 : decode cX7_init 1 = .ok (.invokespecial 1, 3) := by decide +kernel
theorem dX7_init_4 : decode cX7_init 4 = .ok (.aload_n 0, 1) := by decide +kernel
theorem dX7_init_5 : decode cX7_init 5 = .ok (.bipush 24, 2) := by decide +kernel
theorem dX7_init_7 : decode cX7_init 7 = .ok (.newarray .int, 2) := by decide +kernel
theorem dX7_init_9 : decode cX7_init 9 = .ok (.putfield 7, 3) := by decide +kernel
theorem dX7_init_12 : decode cX7_init 12 = .ok (.aload_n 0, 1) := by decide +kernel
theorem dX7_init_13 : decode cX7_init 13 = .ok (.bipush 24, 2) := by decide +kernel
theorem dX7_init_15 : decode cX7_init 15 = .ok (.newarray .int, 2) := by decide +kernel
theorem dX7_init_17 : decode cX7_init 17 = .ok (.putfield 13, 3) := by decide +kernel
theorem dX7_init_20 : decode cX7_init 20 = .ok (.aload_n 0, 1) := by decide +kernel
theorem dX7_init_21 : decode cX7_init 21 = .ok (.bipush 24, 2) := by decide +kernel
theorem dX7_init_23 : decode cX7_init 23 = .ok (.newarray .int, 2) := by decide +kernel
theorem dX7_init_25 : decode cX7_init 25 = .ok (.putfield 16, 3) := by decide +kernel
theorem dX7_init_28 : decode cX7_init 28 = .ok (.aload_n 0, 1) := by decide +kernel
theorem dX7_init_29 : decode cX7_init 29 = .ok (.bipush 40, 2) := by decide +kernel
theorem dX7_init_31 : decode cX7_init 31 = .ok (.newarray .int, 2) := by decide +kernel
theorem dX7_init_33 : decode cX7_init 33 = .ok (.putfield 19, 3) := by decide +kernel
theorem dX7_init_36 : decode cX7_init 36 = .ok (.aload_n 0, 1) := by decide +kernel
theorem dX7_init_37 : decode cX7_init 37 = .ok (.bipush 40, 2) := by decide +kernel
theorem dX7_init_39 : decode cX7_init 39 = .ok (.newarray .int, 2) := by decide +kernel
theorem dX7_init_41 : decode cX7_init 41 = .ok (.putfield 22, 3) := by decide +kernel
theorem dX7_init_44 : decode cX7_init 44 = .ok (.aload_n 0, 1) := by decide +kernel
theorem dX7_init_45 : decode cX7_init 45 = .ok (.bipush 120, 2) := by decide +kernel
theorem dX7_init_47 : decode cX7_init 47 = .ok (.newarray .int, 2) := by decide +kernel
theorem dX7_init_49 : decode cX7_init 49 = .ok (.putfield 25, 3) := by decide +kernel
theorem dX7_init_52 : decode cX7_init 52 = .ok (.aload_n 0, 1) := by decide +kernel
theorem dX7_init_53 : decode cX7_init 53 = .ok (.sipush 500, 3) := by decide +kernel
theorem dX7_init_56 : decode cX7_init 56 = .ok (.newarray .byte, 2) := by decide +kernel
theorem dX7_init_58 : decode cX7_init 58 = .ok (.putfield 28, 3) := by decide +kernel
theorem dX7_init_61 : decode cX7_init 61 = .ok (.aload_n 0, 1) := by decide +kernel
theorem dX7_init_62 : decode cX7_init 62 = .ok (.sipush 140, 3) := by decide +kernel
theorem dX7_init_65 : decode cX7_init 65 = .ok (.newarray .int, 2) := by decide +kernel
theorem dX7_init_67 : decode cX7_init 67 = .ok (.putfield 32, 3) := by decide +kernel
theorem dX7_init_70 : decode cX7_init 70 = .ok (.aload_n 0, 1) := by decide +kernel
theorem dX7_init_71 : decode cX7_init 71 = .ok (.sipush 140, 3) := by decide +kernel
theorem dX7_init_74 : decode cX7_init 74 = .ok (.newarray .int, 2) := by decide +kernel
theorem dX7_init_76 : decode cX7_init 76 = .ok (.putfield 35, 3) := by decide +kernel
theorem dX7_init_79 : decode cX7_init 79 = .ok (.aload_n 0, 1) := by decide +kernel
theorem dX7_init_80 : decode cX7_init 80 = .ok (.bipush 12, 2) := by decide +kernel
theorem dX7_init_82 : decode cX7_init 82 = .ok (.newarray .int, 2) := by decide +kernel
theorem dX7_init_84 : decode cX7_init 84 = .ok (.putfield 38, 3) := by decide +kernel
theorem dX7_init_87 : decode cX7_init 87 = .ok (.aload_n 0, 1) := by decide +kernel
theorem dX7_init_88 : decode cX7_init 88 = .ok (.bipush 12, 2) := by decide +kernel
theorem dX7_init_90 : decode cX7_init 90 = .ok (.newarray .int, 2) := by decide +kernel
theorem dX7_init_92 : decode cX7_init 92 = .ok (.putfield 41, 3) := by decide +kernel
theorem dX7_init_95 : decode cX7_init 95 = .ok (.aload_n 0, 1) := by decide +kernel
theorem dX7_init_96 : decode cX7_init 96 = .ok (.bipush 12, 2) := by decide +kernel
theorem dX7_init_98 : decode cX7_init 98 = .ok (.newarray .int, 2) := by decide +kernel
theorem dX7_init_100 : decode cX7_init 100 = .ok (.putfield 44, 3) := by decide +kernel
theorem dX7_init_103 : decode cX7_init 103 = .ok (.aload_n 0, 1) := by decide +kernel
theorem dX7_init_104 : decode cX7_init 104 = .ok (.sipush 560, 3) := by decide +kernel
theorem dX7_init_107 : decode cX7_init 107 = .ok (.newarray .int, 2) := by decide +kernel
theorem dX7_init_109 : decode cX7_init 109 = .ok (.putfield 47, 3) := by decide +kernel
theorem dX7_init_112 : decode cX7_init 112 = .ok (.aload_n 0, 1) := by decide +kernel
theorem dX7_init_113 : decode cX7_init 113 = .ok (.iconst 4, 1) := by decide +kernel
theorem dX7_init_114 : decode cX7_init 114 = .ok (.newarray .int, 2) := by decide +kernel
theorem dX7_init_116 : decode cX7_init 116 = .ok (.putfield 50, 3) := by decide +kernel
theorem dX7_init_119 : decode cX7_init 119 = .ok (.aload_n 0, 1) := by decide +kernel
theorem dX7_init_120 : decode cX7_init 120 = .ok (.bipush 48, 2) := by decide +kernel
theorem dX7_init_122 : decode cX7_init 122 = .ok (.newarray .int, 2) := by decide +kernel
theorem dX7_init_124 : decode cX7_init 124 = .ok (.putfield 53, 3) := by decide +kernel
theorem dX7_init_127 : decode cX7_init 127 = .ok (.aload_n 0, 1) := by decide +kernel
theorem dX7_init_128 : decode cX7_init 128 = .ok (.bipush 48, 2) := by decide +kernel
theorem dX7_init_130 : decode cX7_init 130 = .ok (.newarray .int, 2) := by decide +kernel
theorem dX7_init_132 : decode cX7_init 132 = .ok (.putfield 56, 3) := by decide +kernel
theorem dX7_init_135 : decode cX7_init 135 = .ok (.aload_n 0, 1) := by decide +kernel
theorem dX7_init_136 : decode cX7_init 136 = .ok (.bipush 48, 2) := by decide +kernel
theorem dX7_init_138 : decode cX7_init 138 = .ok (.newarray .int, 2) := by decide +kernel
theorem dX7_init_140 : decode cX7_init 140 = .ok (.putfield 59, 3) := by decide +kernel
theorem dX7_init_143 : decode cX7_init 143 = .ok (.aload_n 0, 1) := by decide +kernel
theorem dX7_init_144 : decode cX7_init 144 = .ok (.sipush 140, 3) := by decide +kernel
theorem dX7_init_147 : decode cX7_init 147 = .ok (.newarray .int, 2) := by decide +kernel
theorem dX7_init_149 : decode cX7_init 149 = .ok (.putfield 62, 3) := by decide +kernel
theorem dX7_init_152 : decode cX7_init 152 = .ok (.aload_n 0, 1) := by decide +kernel
theorem dX7_init_153 : decode cX7_init 153 = .ok (.bipush 12, 2) := by decide +kernel
theorem dX7_init_155 : decode cX7_init 155 = .ok (.newarray .int, 2) := by decide +kernel
theorem dX7_init_157 : decode cX7_init 157 = .ok (.putfield 65, 3) := by decide +kernel
theorem dX7_init_160 : decode cX7_init 160 = .ok (.aload_n 0, 1) := by decide +kernel
theorem dX7_init_161 : decode cX7_init 161 = .ok (.sipush 960, 3) := by decide +kernel
theorem dX7_init_164 : decode cX7_init 164 = .ok (.newarray .int, 2) := by decide +kernel
theorem dX7_init_166 : decode cX7_init 166 = .ok (.putfield 68, 3) := by decide +kernel
theorem dX7_init_169 : decode cX7_init 169 = .ok (.aload_n 0, 1) := by decide +kernel
theorem dX7_init_170 : decode cX7_init 170 = .ok (.bipush 24, 2) := by decide +kernel
theorem dX7_init_172 : decode cX7_init 172 = .ok (.newarray .int, 2) := by decide +kernel
theorem dX7_init_174 : decode cX7_init 174 = .ok (.putfield 71, 3) := by decide +kernel
theorem dX7_init_177 : decode cX7_init 177 = .ok (.aload_n 0, 1) := by decide +kernel
theorem dX7_init_178 : decode cX7_init 178 = .ok (.bipush 50, 2) := by decide +kernel
theorem dX7_init_180 : decode cX7_init 180 = .ok (.newarray .int, 2) := by decide +kernel
theorem dX7_init_182 : decode cX7_init 182 = .ok (.putfield 74, 3) := by decide +kernel
theorem dX7_init_185 : decode cX7_init 185 = .ok (.aload_n 0, 1) := by decide +kernel
theorem dX7_init_186 : decode cX7_init 186 = .ok (.sipush 19200, 3) := by decide +kernel
theorem dX7_init_189 : decode cX7_init 189 = .ok (.newarray .int, 2) := by decide +kernel
theorem dX7_init_191 : decode cX7_init 191 = .ok (.putfield 77, 3) := by decide +kernel
theorem dX7_init_194 : decode cX7_init 194 = .ok (.aload_n 0, 1) := by decide +kernel
theorem dX7_init_195 : decode cX7_init 195 = .ok (.sipush 480, 3) := by decide +kernel
theorem dX7_init_198 : decode cX7_init 198 = .ok (.newarray .int, 2) := by decide +kernel
theorem dX7_init_200 : decode cX7_init 200 = .ok (.putfield 80, 3) := by decide +kernel
theorem dX7_init_203 : decode cX7_init 203 = .ok (.aload_n 0, 1) := by decide +kernel
theorem dX7_init_204 : decode cX7_init 204 = .ok (.sipush 480, 3) := by decide +kernel
theorem dX7_init_207 : decode cX7_init 207 = .ok (.newarray .int, 2) := by decide +kernel
theorem dX7_init_209 : decode cX7_init 209 = .ok (.putfield 83, 3) := by decide +kernel
theorem dX7_init_212 : decode cX7_init 212 = .ok (.aload_n 0, 1) := by decide +kernel
theorem dX7_init_213 : decode cX7_init 213 = .ok (.sipush 480, 3) := by decide +kernel
theorem dX7_init_216 : decode cX7_init 216 = .ok (.newarray .int, 2) := by decide +kernel
theorem dX7_init_218 : decode cX7_init 218 = .ok (.putfield 86, 3) := by decide +kernel
theorem dX7_init_221 : decode cX7_init 221 = .ok (.aload_n 0, 1) := by decide +kernel
theorem dX7_init_222 : decode cX7_init 222 = .ok (.sipush 800, 3) := by decide +kernel
theorem dX7_init_225 : decode cX7_init 225 = .ok (.newarray .int, 2) := by decide +kernel
theorem dX7_init_227 : decode cX7_init 227 = .ok (.putfield 89, 3) := by decide +kernel
theorem dX7_init_230 : decode cX7_init 230 = .ok (.aload_n 0, 1) := by decide +kernel
theorem dX7_init_231 : decode cX7_init 231 = .ok (.sipush 800, 3) := by decide +kernel
theorem dX7_init_234 : decode cX7_init 234 = .ok (.newarray .int, 2) := by decide +kernel
theorem dX7_init_236 : decode cX7_init 236 = .ok (.putfield 92, 3) := by decide +kernel
theorem dX7_init_239 : decode cX7_init 239 = .ok (.aload_n 0, 1) := by decide +kernel
theorem dX7_init_240 : decode cX7_init 240 = .ok (.bipush 20, 2) := by decide +kernel
theorem dX7_init_242 : decode cX7_init 242 = .ok (.newarray .int, 2) := by decide +kernel
theorem dX7_init_244 : decode cX7_init 244 = .ok (.putfield 95, 3) := by decide +kernel
theorem dX7_init_247 : decode cX7_init 247 = .ok (.aload_n 0, 1) := by decide +kernel
theorem dX7_init_248 : decode cX7_init 248 = .ok (.bipush 20, 2) := by decide +kernel
theorem dX7_init_250 : decode cX7_init 250 = .ok (.newarray .int, 2) := by decide +kernel
theorem dX7_init_252 : decode cX7_init 252 = .ok (.putfield 98, 3) := by decide +kernel
theorem dX7_init_255 : decode cX7_init 255 = .ok (.aload_n 0, 1) := by decide +kernel
theorem dX7_init_256 : decode cX7_init 256 = .ok (.bipush 20, 2) := by decide +kernel
theorem dX7_init_258 : decode cX7_init 258 = .ok (.newarray .int, 2) := by decide +kernel
theorem dX7_init_260 : decode cX7_init 260 = .ok (.putfield 101, 3) := by decide +kernel
theorem dX7_init_263 : decode cX7_init 263 = .ok (.aload_n 0, 1) := by decide +kernel
theorem dX7_init_264 : decode cX7_init 264 = .ok (.bipush 20, 2) := by decide +kernel
theorem dX7_init_266 : decode cX7_init 266 = .ok (.newarray .int, 2) := by decide +kernel
theorem dX7_init_268 : decode cX7_init 268 = .ok (.putfield 104, 3) := by decide +kernel
theorem dX7_init_271 : decode cX7_init 271 = .ok (.aload_n 0, 1) := by decide +kernel
theorem dX7_init_272 : decode cX7_init 272 = .ok (.bipush 24, 2) := by decide +kernel
theorem dX7_init_274 : decode cX7_init 274 = .ok (.newarray .int, 2) := by decide +kernel
theorem dX7_init_276 : decode cX7_init 276 = .ok (.putfield 107, 3) := by decide +kernel
theorem dX7_init_279 : decode cX7_init 279 = .ok (.aload_n 0, 1) := by decide +kernel
theorem dX7_init_280 : decode cX7_init 280 = .ok (.bipush 24, 2) := by decide +kernel
theorem dX7_init_282 : decode cX7_init 282 = .ok (.newarray .int, 2) := by decide +kernel
theorem dX7_init_284 : decode cX7_init 284 = .ok (.putfield 110, 3) := by decide +kernel
theorem dX7_init_287 : decode cX7_init 287 = .ok (.aload_n 0, 1) := by decide +kernel
theorem dX7_init_288 : decode cX7_init 288 = .ok (.bipush 24, 2) := by decide +kernel
theorem dX7_init_290 : decode cX7_init 290 = .ok (.newarray .int, 2) := by decide +kernel
theorem dX7_init_292 : decode cX7_init 292 = .ok (.putfield 113, 3) := by decide +kernel
theorem dX7_init_295 : decode cX7_init 295 = .ok (.iconst 0, 1) := by decide +kernel
theorem dX7_init_296 : decode cX7_init 296 = .ok (.istore_n 1, 1) := by decide +kernel
theorem dX7_init_297 : decode cX7_init 297 = .ok (.iload_n 1, 1) := by decide +kernel
theorem dX7_init_298 : decode cX7_init 298 = .ok (.bipush 24, 2) := by decide +kernel
theorem dX7_init_300 : decode cX7_init 300 = .ok (.if_icmp .ge 16, 3) := by decide +kernel
theorem dX7_init_303 : decode cX7_init 303 = .ok (.aload_n 0, 1) := by decide +kernel
theorem dX7_init_304 : decode cX7_init 304 = .ok (.getfield 7, 3) := by decide +kernel
theorem dX7_init_307 : decode cX7_init 307 = .ok (.iload_n 1, 1) := by decide +kernel
theorem dX7_init_308 : decode cX7_init 308 = .ok (.iconst (-1), 1) := by decide +kernel
theorem dX7_init_309 : decode cX7_init 309 = .ok (.iastore, 1) := by decide +kernel
theorem dX7_init_310 : decode cX7_init 310 = .ok (.iinc 1 1, 3) := by decide +kernel
theorem dX7_init_313 : decode cX7_init 313 = .ok (.goto (-16), 3) := by decide +kernel
theorem dX7_init_316 : decode cX7_init 316 = .ok (.aload_n 0, 1) := by decide +kernel
theorem dX7_init_317 : decode cX7_init 317 = .ok (.bipush 6, 2) := by decide +kernel
theorem dX7_init_319 : decode cX7_init 319 = .ok (.putfield 116, 3) := by decide +kernel
theorem dX7_init_322 : decode cX7_init 322 = .ok (.aload_n 0, 1) := by decide +kernel
theorem dX7_init_323 : decode cX7_init 323 = .ok (.iconst 1, 1) := by decide +kernel
theorem dX7_init_324 : decode cX7_init 324 = .ok (.putfield 120, 3) := by decide +kernel
theorem dX7_init_327 : decode cX7_init 327 = .ok (.aload_n 0, 1) := by decide +kernel
theorem dX7_init_328 : decode cX7_init 328 = .ok (.iconst 1, 1) := by decide +kernel
theorem dX7_init_329 : decode cX7_init 329 = .ok (.putfield 123, 3) := by decide +kernel
theorem dX7_init_332 : decode cX7_init 332 = .ok (.aload_n 0, 1) := by decide +kernel
theorem dX7_init_333 : decode cX7_init 333 = .ok (.iconst 1, 1) := by decide +kernel
theorem dX7_init_334 : decode cX7_init 334 = .ok (.putfield 126, 3) := by decide +kernel
theorem dX7_init_337 : decode cX7_init 337 = .ok (.return_, 1) := by decide +kernel
theorem dX7_in_0 : decode cX7_in 0 = .ok (.iload_n 0, 1) := by decide +kernel
theorem dX7_in_1 : decode cX7_in 1 = .ok (.iload_n 1, 1) := by decide +kernel
theorem dX7_in_2 : decode cX7_in 2 = .ok (.if_icmp .lt 12, 3) := by decide +kernel
theorem dX7_in_5 : decode cX7_in 5 = .ok (.iload_n 0, 1) := by decide +kernel
theorem dX7_in_6 : decode cX7_in 6 = .ok (.iload_n 2, 1) := by decide +kernel
theorem dX7_in_7 : decode cX7_in 7 = .ok (.if_icmp .gt 7, 3) := by decide +kernel
theorem dX7_in_10 : decode cX7_in 10 = .ok (.iconst 1, 1) := by decide +kernel
theorem dX7_in_11 : decode cX7_in 11 = .ok (.goto 4, 3) := by decide +kernel
theorem dX7_in_14 : decode cX7_in 14 = .ok (.iconst 0, 1) := by decide +kernel
theorem dX7_in_15 : decode cX7_in 15 = .ok (.ireturn, 1) := by decide +kernel
theorem dX7_isSeat_0 : decode cX7_isSeat 0 = .ok (.iload_n 0, 1) := by decide +kernel
theorem dX7_isSeat_1 : decode cX7_isSeat 1 = .ok (.ifCond .lt 13, 3) := by decide +kernel
theorem dX7_isSeat_4 : decode cX7_isSeat 4 = .ok (.iload_n 0, 1) := by decide +kernel
theorem dX7_isSeat_5 : decode cX7_isSeat 5 = .ok (.bipush 24, 2) := by decide +kernel
theorem dX7_isSeat_7 : decode cX7_isSeat 7 = .ok (.if_icmp .ge 7, 3) := by decide +kernel
theorem dX7_isSeat_10 : decode cX7_isSeat 10 = .ok (.iconst 1, 1) := by decide +kernel
theorem dX7_isSeat_11 : decode cX7_isSeat 11 = .ok (.goto 4, 3) := by decide +kernel
theorem dX7_isSeat_14 : decode cX7_isSeat 14 = .ok (.iconst 0, 1) := by decide +kernel
theorem dX7_isSeat_15 : decode cX7_isSeat 15 = .ok (.ireturn, 1) := by decide +kernel
theorem dX7_isTaken_0 : decode cX7_isTaken 0 = .ok (.aload_n 0, 1) := by decide +kernel
theorem dX7_isTaken_1 : decode cX7_isTaken 1 = .ok (.getfield 7, 3) := by decide +kernel
theorem dX7_isTaken_4 : decode cX7_isTaken 4 = .ok (.iload_n 1, 1) := by decide +kernel
theorem dX7_isTaken_5 : decode cX7_isTaken 5 = .ok (.iaload, 1) := by decide +kernel
theorem dX7_isTaken_6 : decode cX7_isTaken 6 = .ok (.iconst (-1), 1) := by decide +kernel
theorem dX7_isTaken_7 : decode cX7_isTaken 7 = .ok (.if_icmp .eq 7, 3) := by decide +kernel
theorem dX7_isTaken_10 : decode cX7_isTaken 10 = .ok (.iconst 1, 1) := by decide +kernel
theorem dX7_isTaken_11 : decode cX7_isTaken 11 = .ok (.goto 4, 3) := by decide +kernel
theorem dX7_isTaken_14 : decode cX7_isTaken 14 = .ok (.iconst 0, 1) := by decide +kernel
theorem dX7_isTaken_15 : decode cX7_isTaken 15 = .ok (.ireturn, 1) := by decide +kernel
theorem dX7_persons_0 : decode cX7_persons 0 = .ok (.iconst 0, 1) := by decide +kernel
theorem dX7_persons_1 : decode cX7_persons 1 = .ok (.istore_n 1, 1) := by decide +kernel
theorem dX7_persons_2 : decode cX7_persons 2 = .ok (.iconst 0, 1) := by decide +kernel
theorem dX7_persons_3 : decode cX7_persons 3 = .ok (.istore_n 2, 1) := by decide +kernel
theorem dX7_persons_4 : decode cX7_persons 4 = .ok (.iload_n 2, 1) := by decide +kernel
theorem dX7_persons_5 : decode cX7_persons 5 = .ok (.bipush 24, 2) := by decide +kernel
theorem dX7_persons_7 : decode cX7_persons 7 = .ok (.if_icmp .ge 25, 3) := by decide +kernel
theorem dX7_persons_10 : decode cX7_persons 10 = .ok (.iload_n 1, 1) := by decide +kernel
theorem dX7_persons_11 : decode cX7_persons 11 = .ok (.aload_n 0, 1) := by decide +kernel
theorem dX7_persons_12 : decode cX7_persons 12 = .ok (.iload_n 2, 1) := by decide +kernel
theorem dX7_persons_13 : decode cX7_persons 13 = .ok (.invokevirtual 129, 3) := by decide +kernel
theorem dX7_persons_16 : decode cX7_persons 16 = .ok (.ifCond .eq 7, 3) := by decide +kernel
theorem dX7_persons_19 : decode cX7_persons 19 = .ok (.iconst 1, 1) := by decide +kernel
theorem dX7_persons_20 : decode cX7_persons 20 = .ok (.goto 4, 3) := by decide +kernel
theorem dX7_persons_23 : decode cX7_persons 23 = .ok (.iconst 0, 1) := by decide +kernel
theorem dX7_persons_24 : decode cX7_persons 24 = .ok (.iadd, 1) := by decide +kernel
theorem dX7_persons_25 : decode cX7_persons 25 = .ok (.istore_n 1, 1) := by decide +kernel
theorem dX7_persons_26 : decode cX7_persons 26 = .ok (.iinc 2 1, 3) := by decide +kernel
theorem dX7_persons_29 : decode cX7_persons 29 = .ok (.goto (-25), 3) := by decide +kernel
theorem dX7_persons_32 : decode cX7_persons 32 = .ok (.iload_n 1, 1) := by decide +kernel
theorem dX7_persons_33 : decode cX7_persons 33 = .ok (.ireturn, 1) := by decide +kernel
theorem dX7_rows_0 : decode cX7_rows 0 = .ok (.iload_n 1, 1) := by decide +kernel
theorem dX7_rows_1 : decode cX7_rows 1 = .ok (.iconst 4, 1) := by decide +kernel
theorem dX7_rows_2 : decode cX7_rows 2 = .ok (.bipush 8, 2) := by decide +kernel
theorem dX7_rows_4 : decode cX7_rows 4 = .ok (.invokestatic 133, 3) := by decide +kernel
theorem dX7_rows_7 : decode cX7_rows 7 = .ok (.ifCond .eq 10, 3) := by decide +kernel
theorem dX7_rows_10 : decode cX7_rows 10 = .ok (.aload_n 0, 1) := by decide +kernel
theorem dX7_rows_11 : decode cX7_rows 11 = .ok (.invokevirtual 137, 3) := by decide +kernel
theorem dX7_rows_14 : decode cX7_rows 14 = .ok (.ifCond .le 5, 3) := by decide +kernel
theorem dX7_rows_17 : decode cX7_rows 17 = .ok (.iconst 0, 1) := by decide +kernel
theorem dX7_rows_18 : decode cX7_rows 18 = .ok (.ireturn, 1) := by decide +kernel
theorem dX7_rows_19 : decode cX7_rows 19 = .ok (.aload_n 0, 1) := by decide +kernel
theorem dX7_rows_20 : decode cX7_rows 20 = .ok (.iload_n 1, 1) := by decide +kernel
theorem dX7_rows_21 : decode cX7_rows 21 = .ok (.putfield 116, 3) := by decide +kernel
theorem dX7_rows_24 : decode cX7_rows 24 = .ok (.iconst 1, 1) := by decide +kernel
theorem dX7_rows_25 : decode cX7_rows 25 = .ok (.ireturn, 1) := by decide +kernel
theorem dX7_seat_0 : decode cX7_seat 0 = .ok (.iload_n 1, 1) := by decide +kernel
theorem dX7_seat_1 : decode cX7_seat 1 = .ok (.invokestatic 141, 3) := by decide +kernel
theorem dX7_seat_4 : decode cX7_seat 4 = .ok (.ifCond .eq 21, 3) := by decide +kernel
theorem dX7_seat_7 : decode cX7_seat 7 = .ok (.iload_n 2, 1) := by decide +kernel
theorem dX7_seat_8 : decode cX7_seat 8 = .ok (.iconst (-1), 1) := by decide +kernel
theorem dX7_seat_9 : decode cX7_seat 9 = .ok (.iconst 3, 1) := by decide +kernel
theorem dX7_seat_10 : decode cX7_seat 10 = .ok (.invokestatic 133, 3) := by decide +kernel
theorem dX7_seat_13 : decode cX7_seat 13 = .ok (.ifCond .eq 12, 3) := by decide +kernel
theorem dX7_seat_16 : decode cX7_seat 16 = .ok (.iload_n 3, 1) := by decide +kernel
theorem dX7_seat_17 : decode cX7_seat 17 = .ok (.iconst 0, 1) := by decide +kernel
theorem dX7_seat_18 : decode cX7_seat 18 = .ok (.iconst 1, 1) := by decide +kernel
theorem dX7_seat_19 : decode cX7_seat 19 = .ok (.invokestatic 133, 3) := by decide +kernel
theorem dX7_seat_22 : decode cX7_seat 22 = .ok (.ifCond .ne 5, 3) := by decide +kernel
theorem dX7_seat_25 : decode cX7_seat 25 = .ok (.iconst 0, 1) := by decide +kernel
theorem dX7_seat_26 : decode cX7_seat 26 = .ok (.ireturn, 1) := by decide +kernel
theorem dX7_seat_27 : decode cX7_seat 27 = .ok (.aload_n 0, 1) := by decide +kernel
theorem dX7_seat_28 : decode cX7_seat 28 = .ok (.getfield 16, 3) := by decide +kernel
theorem dX7_seat_31 : decode cX7_seat 31 = .ok (.iload_n 1, 1) := by decide +kernel
theorem dX7_seat_32 : decode cX7_seat 32 = .ok (.iload_n 2, 1) := by decide +kernel
theorem dX7_seat_33 : decode cX7_seat 33 = .ok (.iconst (-1), 1) := by decide +kernel
theorem dX7_seat_34 : decode cX7_seat 34 = .ok (.if_icmp .eq 11, 3) := by decide +kernel
theorem dX7_seat_37 : decode cX7_seat 37 = .ok (.aload_n 0, 1) := by decide +kernel
theorem dX7_seat_38 : decode cX7_seat 38 = .ok (.iload_n 1, 1) := by decide +kernel
theorem dX7_seat_39 : decode cX7_seat 39 = .ok (.invokevirtual 129, 3) := by decide +kernel
theorem dX7_seat_42 : decode cX7_seat 42 = .ok (.ifCond .ne 7, 3) := by decide +kernel
theorem dX7_seat_45 : decode cX7_seat 45 = .ok (.iconst 0, 1) := by decide +kernel
theorem dX7_seat_46 : decode cX7_seat 46 = .ok (.goto 9, 3) := by decide +kernel
theorem dX7_seat_49 : decode cX7_seat 49 = .ok (.aload_n 0, 1) := by decide +kernel
theorem dX7_seat_50 : decode cX7_seat 50 = .ok (.getfield 16, 3) := by decide +kernel
theorem dX7_seat_53 : decode cX7_seat 53 = .ok (.iload_n 1, 1) := by decide +kernel
theorem dX7_seat_54 : decode cX7_seat 54 = .ok (.iaload, 1) := by decide +kernel
theorem dX7_seat_55 : decode cX7_seat 55 = .ok (.iastore, 1) := by decide +kernel
theorem dX7_seat_56 : decode cX7_seat 56 = .ok (.aload_n 0, 1) := by decide +kernel
theorem dX7_seat_57 : decode cX7_seat 57 = .ok (.getfield 7, 3) := by decide +kernel
theorem dX7_seat_60 : decode cX7_seat 60 = .ok (.iload_n 1, 1) := by decide +kernel
theorem dX7_seat_61 : decode cX7_seat 61 = .ok (.iload_n 2, 1) := by decide +kernel
theorem dX7_seat_62 : decode cX7_seat 62 = .ok (.iastore, 1) := by decide +kernel
theorem dX7_seat_63 : decode cX7_seat 63 = .ok (.aload_n 0, 1) := by decide +kernel
theorem dX7_seat_64 : decode cX7_seat 64 = .ok (.getfield 13, 3) := by decide +kernel
theorem dX7_seat_67 : decode cX7_seat 67 = .ok (.iload_n 1, 1) := by decide +kernel
theorem dX7_seat_68 : decode cX7_seat 68 = .ok (.iload_n 2, 1) := by decide +kernel
theorem dX7_seat_69 : decode cX7_seat 69 = .ok (.iconst (-1), 1) := by decide +kernel
theorem dX7_seat_70 : decode cX7_seat 70 = .ok (.if_icmp .ne 7, 3) := by decide +kernel
theorem dX7_seat_73 : decode cX7_seat 73 = .ok (.iconst 0, 1) := by decide +kernel
theorem dX7_seat_74 : decode cX7_seat 74 = .ok (.goto 4, 3) := by decide +kernel
theorem dX7_seat_77 : decode cX7_seat 77 = .ok (.iload_n 3, 1) := by decide +kernel
theorem dX7_seat_78 : decode cX7_seat 78 = .ok (.iastore, 1) := by decide +kernel
theorem dX7_seat_79 : decode cX7_seat 79 = .ok (.iconst 1, 1) := by decide +kernel
theorem dX7_seat_80 : decode cX7_seat 80 = .ok (.ireturn, 1) := by decide +kernel
theorem dX7_paid_0 : decode cX7_paid 0 = .ok (.iload_n 1, 1) := by decide +kernel
theorem dX7_paid_1 : decode cX7_paid 1 = .ok (.invokestatic 141, 3) := by decide +kernel
theorem dX7_paid_4 : decode cX7_paid 4 = .ok (.ifCond .eq 20, 3) := by decide +kernel
theorem dX7_paid_7 : decode cX7_paid 7 = .ok (.aload_n 0, 1) := by decide +kernel
theorem dX7_paid_8 : decode cX7_paid 8 = .ok (.iload_n 1, 1) := by decide +kernel
theorem dX7_paid_9 : decode cX7_paid 9 = .ok (.invokevirtual 129, 3) := by decide +kernel
theorem dX7_paid_12 : decode cX7_paid 12 = .ok (.ifCond .eq 12, 3) := by decide +kernel
theorem dX7_paid_15 : decode cX7_paid 15 = .ok (.iload_n 2, 1) := by decide +kernel
theorem dX7_paid_16 : decode cX7_paid 16 = .ok (.iconst 0, 1) := by decide +kernel
theorem dX7_paid_17 : decode cX7_paid 17 = .ok (.iconst 2, 1) := by decide +kernel
theorem dX7_paid_18 : decode cX7_paid 18 = .ok (.invokestatic 133, 3) := by decide +kernel
theorem dX7_paid_21 : decode cX7_paid 21 = .ok (.ifCond .ne 5, 3) := by decide +kernel
theorem dX7_paid_24 : decode cX7_paid 24 = .ok (.iconst 0, 1) := by decide +kernel
theorem dX7_paid_25 : decode cX7_paid 25 = .ok (.ireturn, 1) := by decide +kernel
theorem dX7_paid_26 : decode cX7_paid 26 = .ok (.aload_n 0, 1) := by decide +kernel
theorem dX7_paid_27 : decode cX7_paid 27 = .ok (.getfield 16, 3) := by decide +kernel
theorem dX7_paid_30 : decode cX7_paid 30 = .ok (.iload_n 1, 1) := by decide +kernel
theorem dX7_paid_31 : decode cX7_paid 31 = .ok (.iload_n 2, 1) := by decide +kernel
theorem dX7_paid_32 : decode cX7_paid 32 = .ok (.iastore, 1) := by decide +kernel
theorem dX7_paid_33 : decode cX7_paid 33 = .ok (.iconst 1, 1) := by decide +kernel
theorem dX7_paid_34 : decode cX7_paid 34 = .ok (.ireturn, 1) := by decide +kernel
theorem dX7_seconds_0 : decode cX7_seconds 0 = .ok (.iload_n 1, 1) := by decide +kernel
theorem dX7_seconds_1 : decode cX7_seconds 1 = .ok (.iconst 1, 1) := by decide +kernel
theorem dX7_seconds_2 : decode cX7_seconds 2 = .ok (.bipush 40, 2) := by decide +kernel
theorem dX7_seconds_4 : decode cX7_seconds 4 = .ok (.invokestatic 133, 3) := by decide +kernel
theorem dX7_seconds_7 : decode cX7_seconds 7 = .ok (.ifCond .ne 5, 3) := by decide +kernel
theorem dX7_seconds_10 : decode cX7_seconds 10 = .ok (.iconst 0, 1) := by decide +kernel
theorem dX7_seconds_11 : decode cX7_seconds 11 = .ok (.ireturn, 1) := by decide +kernel
theorem dX7_seconds_12 : decode cX7_seconds 12 = .ok (.aload_n 0, 1) := by decide +kernel
theorem dX7_seconds_13 : decode cX7_seconds 13 = .ok (.iload_n 1, 1) := by decide +kernel
theorem dX7_seconds_14 : decode cX7_seconds 14 = .ok (.putfield 120, 3) := by decide +kernel
theorem dX7_seconds_17 : decode cX7_seconds 17 = .ok (.iconst 1, 1) := by decide +kernel
theorem dX7_seconds_18 : decode cX7_seconds 18 = .ok (.ireturn, 1) := by decide +kernel
theorem dX7_isSecond_0 : decode cX7_isSecond 0 = .ok (.iload_n 0, 1) := by decide +kernel
theorem dX7_isSecond_1 : decode cX7_isSecond 1 = .ok (.ifCond .lt 13, 3) := by decide +kernel
theorem dX7_isSecond_4 : decode cX7_isSecond 4 = .ok (.iload_n 0, 1) := by decide +kernel
theorem dX7_isSecond_5 : decode cX7_isSecond 5 = .ok (.bipush 40, 2) := by decide +kernel
theorem dX7_isSecond_7 : decode cX7_isSecond 7 = .ok (.if_icmp .ge 7, 3) := by decide +kernel
theorem dX7_isSecond_10 : decode cX7_isSecond 10 = .ok (.iconst 1, 1) := by decide +kernel
theorem dX7_isSecond_11 : decode cX7_isSecond 11 = .ok (.goto 4, 3) := by decide +kernel
theorem dX7_isSecond_14 : decode cX7_isSecond 14 = .ok (.iconst 0, 1) := by decide +kernel
theorem dX7_isSecond_15 : decode cX7_isSecond 15 = .ok (.ireturn, 1) := by decide +kernel
theorem dX7_good_0 : decode cX7_good 0 = .ok (.iload_n 1, 1) := by decide +kernel
theorem dX7_good_1 : decode cX7_good 1 = .ok (.invokestatic 144, 3) := by decide +kernel
theorem dX7_good_4 : decode cX7_good 4 = .ok (.ifCond .eq 23, 3) := by decide +kernel
theorem dX7_good_7 : decode cX7_good 7 = .ok (.iload_n 2, 1) := by decide +kernel
theorem dX7_good_8 : decode cX7_good 8 = .ok (.iconst 0, 1) := by decide +kernel
theorem dX7_good_9 : decode cX7_good 9 = .ok (.bipush 100, 2) := by decide +kernel
theorem dX7_good_11 : decode cX7_good 11 = .ok (.invokestatic 133, 3) := by decide +kernel
theorem dX7_good_14 : decode cX7_good 14 = .ok (.ifCond .eq 13, 3) := by decide +kernel
theorem dX7_good_17 : decode cX7_good 17 = .ok (.iload_n 3, 1) := by decide +kernel
theorem dX7_good_18 : decode cX7_good 18 = .ok (.iconst 0, 1) := by decide +kernel
theorem dX7_good_19 : decode cX7_good 19 = .ok (.bipush 100, 2) := by decide +kernel
theorem dX7_good_21 : decode cX7_good 21 = .ok (.invokestatic 133, 3) := by decide +kernel
theorem dX7_good_24 : decode cX7_good 24 = .ok (.ifCond .ne 5, 3) := by decide +kernel
theorem dX7_good_27 : decode cX7_good 27 = .ok (.iconst 0, 1) := by decide +kernel
theorem dX7_good_28 : decode cX7_good 28 = .ok (.ireturn, 1) := by decide +kernel
theorem dX7_good_29 : decode cX7_good 29 = .ok (.aload_n 0, 1) := by decide +kernel
theorem dX7_good_30 : decode cX7_good 30 = .ok (.getfield 19, 3) := by decide +kernel
theorem dX7_good_33 : decode cX7_good 33 = .ok (.iload_n 1, 1) := by decide +kernel
theorem dX7_good_34 : decode cX7_good 34 = .ok (.iload_n 2, 1) := by decide +kernel
theorem dX7_good_35 : decode cX7_good 35 = .ok (.iastore, 1) := by decide +kernel
theorem dX7_good_36 : decode cX7_good 36 = .ok (.aload_n 0, 1) := by decide +kernel
theorem dX7_good_37 : decode cX7_good 37 = .ok (.getfield 22, 3) := by decide +kernel
theorem dX7_good_40 : decode cX7_good 40 = .ok (.iload_n 1, 1) := by decide +kernel
theorem dX7_good_41 : decode cX7_good 41 = .ok (.iload_n 3, 1) := by decide +kernel
theorem dX7_good_42 : decode cX7_good 42 = .ok (.iastore, 1) := by decide +kernel
theorem dX7_good_43 : decode cX7_good 43 = .ok (.iconst 1, 1) := by decide +kernel
theorem dX7_good_44 : decode cX7_good 44 = .ok (.ireturn, 1) := by decide +kernel
theorem dX7_isStick_0 : decode cX7_isStick 0 = .ok (.iload_n 0, 1) := by decide +kernel
theorem dX7_isStick_1 : decode cX7_isStick 1 = .ok (.iconst 1, 1) := by decide +kernel
theorem dX7_isStick_2 : decode cX7_isStick 2 = .ok (.if_icmp .eq 8, 3) := by decide +kernel
theorem dX7_isStick_5 : decode cX7_isStick 5 = .ok (.iload_n 0, 1) := by decide +kernel
theorem dX7_isStick_6 : decode cX7_isStick 6 = .ok (.iconst 2, 1) := by decide +kernel
theorem dX7_isStick_7 : decode cX7_isStick 7 = .ok (.if_icmp .ne 7, 3) := by decide +kernel
theorem dX7_isStick_10 : decode cX7_isStick 10 = .ok (.iconst 1, 1) := by decide +kernel
theorem dX7_isStick_11 : decode cX7_isStick 11 = .ok (.goto 4, 3) := by decide +kernel
theorem dX7_isStick_14 : decode cX7_isStick 14 = .ok (.iconst 0, 1) := by decide +kernel
theorem dX7_isStick_15 : decode cX7_isStick 15 = .ok (.ireturn, 1) := by decide +kernel
theorem dX7_plan_0 : decode cX7_plan 0 = .ok (.iload_n 1, 1) := by decide +kernel
theorem dX7_plan_1 : decode cX7_plan 1 = .ok (.invokestatic 147, 3) := by decide +kernel
theorem dX7_plan_4 : decode cX7_plan 4 = .ok (.ifCond .eq 19, 3) := by decide +kernel
theorem dX7_plan_7 : decode cX7_plan 7 = .ok (.iload_n 2, 1) := by decide +kernel
theorem dX7_plan_8 : decode cX7_plan 8 = .ok (.invokestatic 144, 3) := by decide +kernel
theorem dX7_plan_11 : decode cX7_plan 11 = .ok (.ifCond .eq 12, 3) := by decide +kernel
theorem dX7_plan_14 : decode cX7_plan 14 = .ok (.iload_n 3, 1) := by decide +kernel
theorem dX7_plan_15 : decode cX7_plan 15 = .ok (.iconst 0, 1) := by decide +kernel
theorem dX7_plan_16 : decode cX7_plan 16 = .ok (.iconst 2, 1) := by decide +kernel
theorem dX7_plan_17 : decode cX7_plan 17 = .ok (.invokestatic 133, 3) := by decide +kernel
theorem dX7_plan_20 : decode cX7_plan 20 = .ok (.ifCond .ne 5, 3) := by decide +kernel
theorem dX7_plan_23 : decode cX7_plan 23 = .ok (.iconst 0, 1) := by decide +kernel
theorem dX7_plan_24 : decode cX7_plan 24 = .ok (.ireturn, 1) := by decide +kernel
theorem dX7_plan_25 : decode cX7_plan 25 = .ok (.aload_n 0, 1) := by decide +kernel
theorem dX7_plan_26 : decode cX7_plan 26 = .ok (.getfield 25, 3) := by decide +kernel
theorem dX7_plan_29 : decode cX7_plan 29 = .ok (.bipush 40, 2) := by decide +kernel
theorem dX7_plan_31 : decode cX7_plan 31 = .ok (.iload_n 1, 1) := by decide +kernel
theorem dX7_plan_32 : decode cX7_plan 32 = .ok (.imul, 1) := by decide +kernel
theorem dX7_plan_33 : decode cX7_plan 33 = .ok (.iload_n 2, 1) := by decide +kernel
theorem dX7_plan_34 : decode cX7_plan 34 = .ok (.iadd, 1) := by decide +kernel
theorem dX7_plan_35 : decode cX7_plan 35 = .ok (.iload_n 3, 1) := by decide +kernel
theorem dX7_plan_36 : decode cX7_plan 36 = .ok (.iastore, 1) := by decide +kernel
theorem dX7_plan_37 : decode cX7_plan 37 = .ok (.iconst 1, 1) := by decide +kernel
theorem dX7_plan_38 : decode cX7_plan 38 = .ok (.ireturn, 1) := by decide +kernel
theorem dX7_prices_0 : decode cX7_prices 0 = .ok (.iload_n 1, 1) := by decide +kernel
theorem dX7_prices_1 : decode cX7_prices 1 = .ok (.iconst 0, 1) := by decide +kernel
theorem dX7_prices_2 : decode cX7_prices 2 = .ok (.bipush 100, 2) := by decide +kernel
theorem dX7_prices_4 : decode cX7_prices 4 = .ok (.invokestatic 133, 3) := by decide +kernel
theorem dX7_prices_7 : decode cX7_prices 7 = .ok (.ifCond .eq 13, 3) := by decide +kernel
theorem dX7_prices_10 : decode cX7_prices 10 = .ok (.iload_n 2, 1) := by decide +kernel
theorem dX7_prices_11 : decode cX7_prices 11 = .ok (.iconst 0, 1) := by decide +kernel
theorem dX7_prices_12 : decode cX7_prices 12 = .ok (.bipush 100, 2) := by decide +kernel
theorem dX7_prices_14 : decode cX7_prices 14 = .ok (.invokestatic 133, 3) := by decide +kernel
theorem dX7_prices_17 : decode cX7_prices 17 = .ok (.ifCond .ne 5, 3) := by decide +kernel
theorem dX7_prices_20 : decode cX7_prices 20 = .ok (.iconst 0, 1) := by decide +kernel
theorem dX7_prices_21 : decode cX7_prices 21 = .ok (.ireturn, 1) := by decide +kernel
theorem dX7_prices_22 : decode cX7_prices 22 = .ok (.aload_n 0, 1) := by decide +kernel
theorem dX7_prices_23 : decode cX7_prices 23 = .ok (.iload_n 1, 1) := by decide +kernel
theorem dX7_prices_24 : decode cX7_prices 24 = .ok (.putfield 123, 3) := by decide +kernel
theorem dX7_prices_27 : decode cX7_prices 27 = .ok (.aload_n 0, 1) := by decide +kernel
theorem dX7_prices_28 : decode cX7_prices 28 = .ok (.iload_n 2, 1) := by decide +kernel
theorem dX7_prices_29 : decode cX7_prices 29 = .ok (.putfield 126, 3) := by decide +kernel
theorem dX7_prices_32 : decode cX7_prices 32 = .ok (.iconst 1, 1) := by decide +kernel
theorem dX7_prices_33 : decode cX7_prices 33 = .ok (.ireturn, 1) := by decide +kernel
theorem dX7_types_0 : decode cX7_types 0 = .ok (.iconst 3, 1) := by decide +kernel
theorem dX7_types_1 : decode cX7_types 1 = .ok (.istore_n 2, 1) := by decide +kernel
theorem dX7_types_2 : decode cX7_types 2 = .ok (.iload_n 2, 1) := by decide +kernel
theorem dX7_types_3 : decode cX7_types 3 = .ok (.ifCond .lt 35, 3) := by decide +kernel
theorem dX7_types_6 : decode cX7_types 6 = .ok (.aload_n 0, 1) := by decide +kernel
theorem dX7_types_7 : decode cX7_types 7 = .ok (.getfield 28, 3) := by decide +kernel
theorem dX7_types_10 : decode cX7_types 10 = .ok (.aload_n 0, 1) := by decide +kernel
theorem dX7_types_11 : decode cX7_types 11 = .ok (.getfield 150, 3) := by decide +kernel
theorem dX7_types_14 : decode cX7_types 14 = .ok (.iload_n 1, 1) := by decide +kernel
theorem dX7_types_15 : decode cX7_types 15 = .ok (.bipush 8, 2) := by decide +kernel
theorem dX7_types_17 : decode cX7_types 17 = .ok (.iload_n 2, 1) := by decide +kernel
theorem dX7_types_18 : decode cX7_types 18 = .ok (.imul, 1) := by decide +kernel
theorem dX7_types_19 : decode cX7_types 19 = .ok (.ishr, 1) := by decide +kernel
theorem dX7_types_20 : decode cX7_types 20 = .ok (.i2b, 1) := by decide +kernel
theorem dX7_types_21 : decode cX7_types 21 = .ok (.bastore, 1) := by decide +kernel
theorem dX7_types_22 : decode cX7_types 22 = .ok (.aload_n 0, 1) := by decide +kernel
theorem dX7_types_23 : decode cX7_types 23 = .ok (.aload_n 0, 1) := by decide +kernel
theorem dX7_types_24 : decode cX7_types 24 = .ok (.getfield 150, 3) := by decide +kernel
theorem dX7_types_27 : decode cX7_types 27 = .ok (.iconst 1, 1) := by decide +kernel
theorem dX7_types_28 : decode cX7_types 28 = .ok (.iadd, 1) := by decide +kernel
theorem dX7_types_29 : decode cX7_types 29 = .ok (.putfield 150, 3) := by decide +kernel
theorem dX7_types_32 : decode cX7_types 32 = .ok (.iinc 2 (-1), 3) := by decide +kernel
theorem dX7_types_35 : decode cX7_types 35 = .ok (.goto (-33), 3) := by decide +kernel
theorem dX7_types_38 : decode cX7_types 38 = .ok (.return_, 1) := by decide +kernel
theorem dX7_feed_0 : decode cX7_feed 0 = .ok (.aload_n 0, 1) := by decide +kernel
theorem dX7_feed_1 : decode cX7_feed 1 = .ok (.getfield 150, 3) := by decide +kernel
theorem dX7_feed_4 : decode cX7_feed 4 = .ok (.bipush 20, 2) := by decide +kernel
theorem dX7_feed_6 : decode cX7_feed 6 = .ok (.iadd, 1) := by decide +kernel
theorem dX7_feed_7 : decode cX7_feed 7 = .ok (.sipush 500, 3) := by decide +kernel
theorem dX7_feed_10 : decode cX7_feed 10 = .ok (.if_icmp .le 5, 3) := by decide +kernel
theorem dX7_feed_13 : decode cX7_feed 13 = .ok (.iconst (-1), 1) := by decide +kernel
theorem dX7_feed_14 : decode cX7_feed 14 = .ok (.ireturn, 1) := by decide +kernel
theorem dX7_feed_15 : decode cX7_feed 15 = .ok (.aload_n 0, 1) := by decide +kernel
theorem dX7_feed_16 : decode cX7_feed 16 = .ok (.iload_n 1, 1) := by decide +kernel
theorem dX7_feed_17 : decode cX7_feed 17 = .ok (.invokevirtual 153, 3) := by decide +kernel
theorem dX7_feed_20 : decode cX7_feed 20 = .ok (.aload_n 0, 1) := by decide +kernel
theorem dX7_feed_21 : decode cX7_feed 21 = .ok (.iload_n 2, 1) := by decide +kernel
theorem dX7_feed_22 : decode cX7_feed 22 = .ok (.invokevirtual 153, 3) := by decide +kernel
theorem dX7_feed_25 : decode cX7_feed 25 = .ok (.aload_n 0, 1) := by decide +kernel
theorem dX7_feed_26 : decode cX7_feed 26 = .ok (.iload_n 3, 1) := by decide +kernel
theorem dX7_feed_27 : decode cX7_feed 27 = .ok (.invokevirtual 153, 3) := by decide +kernel
theorem dX7_feed_30 : decode cX7_feed 30 = .ok (.aload_n 0, 1) := by decide +kernel
theorem dX7_feed_31 : decode cX7_feed 31 = .ok (.iload 4, 2) := by decide +kernel
theorem dX7_feed_33 : decode cX7_feed 33 = .ok (.invokevirtual 153, 3) := by decide +kernel
theorem dX7_feed_36 : decode cX7_feed 36 = .ok (.aload_n 0, 1) := by decide +kernel
theorem dX7_feed_37 : decode cX7_feed 37 = .ok (.iload 5, 2) := by decide +kernel
theorem dX7_feed_39 : decode cX7_feed 39 = .ok (.invokevirtual 153, 3) := by decide +kernel
theorem dX7_feed_42 : decode cX7_feed 42 = .ok (.aload_n 0, 1) := by decide +kernel
theorem dX7_feed_43 : decode cX7_feed 43 = .ok (.getfield 150, 3) := by decide +kernel
theorem dX7_feed_46 : decode cX7_feed 46 = .ok (.ireturn, 1) := by decide +kernel
theorem dX7_here_0 : decode cX7_here 0 = .ok (.aload_n 0, 1) := by decide +kernel
theorem dX7_here_1 : decode cX7_here 1 = .ok (.getfield 157, 3) := by decide +kernel
theorem dX7_here_4 : decode cX7_here 4 = .ok (.aload_n 0, 1) := by decide +kernel
theorem dX7_here_5 : decode cX7_here 5 = .ok (.getfield 160, 3) := by decide +kernel
theorem dX7_here_8 : decode cX7_here 8 = .ok (.if_icmp .ge 19, 3) := by decide +kernel
theorem dX7_here_11 : decode cX7_here 11 = .ok (.aload_n 0, 1) := by decide +kernel
theorem dX7_here_12 : decode cX7_here 12 = .ok (.getfield 28, 3) := by decide +kernel
theorem dX7_here_15 : decode cX7_here 15 = .ok (.aload_n 0, 1) := by decide +kernel
theorem dX7_here_16 : decode cX7_here 16 = .ok (.getfield 157, 3) := by decide +kernel
theorem dX7_here_19 : decode cX7_here 19 = .ok (.baload, 1) := by decide +kernel
theorem dX7_here_20 : decode cX7_here 20 = .ok (.sipush 255, 3) := by decide +kernel
theorem dX7_here_23 : decode cX7_here 23 = .ok (.iand, 1) := by decide +kernel
theorem dX7_here_24 : decode cX7_here 24 = .ok (.goto 4, 3) := by decide +kernel
theorem dX7_here_27 : decode cX7_here 27 = .ok (.iconst (-1), 1) := by decide +kernel
theorem dX7_here_28 : decode cX7_here 28 = .ok (.ireturn, 1) := by decide +kernel
theorem dX7_isDigit_0 : decode cX7_isDigit 0 = .ok (.aload_n 0, 1) := by decide +kernel
theorem dX7_isDigit_1 : decode cX7_isDigit 1 = .ok (.invokevirtual 163, 3) := by decide +kernel
theorem dX7_isDigit_4 : decode cX7_isDigit 4 = .ok (.bipush 48, 2) := by decide +kernel
theorem dX7_isDigit_6 : decode cX7_isDigit 6 = .ok (.if_icmp .lt 16, 3) := by decide +kernel
theorem dX7_isDigit_9 : decode cX7_isDigit 9 = .ok (.aload_n 0, 1) := by decide +kernel
theorem dX7_isDigit_10 : decode cX7_isDigit 10 = .ok (.invokevirtual 163, 3) := by decide +kernel
theorem dX7_isDigit_13 : decode cX7_isDigit 13 = .ok (.bipush 57, 2) := by decide +kernel
theorem dX7_isDigit_15 : decode cX7_isDigit 15 = .ok (.if_icmp .gt 7, 3) := by decide +kernel
theorem dX7_isDigit_18 : decode cX7_isDigit 18 = .ok (.iconst 1, 1) := by decide +kernel
theorem dX7_isDigit_19 : decode cX7_isDigit 19 = .ok (.goto 4, 3) := by decide +kernel
theorem dX7_isDigit_22 : decode cX7_isDigit 22 = .ok (.iconst 0, 1) := by decide +kernel
theorem dX7_isDigit_23 : decode cX7_isDigit 23 = .ok (.ireturn, 1) := by decide +kernel
theorem dX7_wrong_0 : decode cX7_wrong 0 = .ok (.aload_n 0, 1) := by decide +kernel
theorem dX7_wrong_1 : decode cX7_wrong 1 = .ok (.sipush (-1000), 3) := by decide +kernel
theorem dX7_wrong_4 : decode cX7_wrong 4 = .ok (.iload_n 1, 1) := by decide +kernel
theorem dX7_wrong_5 : decode cX7_wrong 5 = .ok (.imul, 1) := by decide +kernel
theorem dX7_wrong_6 : decode cX7_wrong 6 = .ok (.iload_n 2, 1) := by decide +kernel
theorem dX7_wrong_7 : decode cX7_wrong 7 = .ok (.isub, 1) := by decide +kernel
theorem dX7_wrong_8 : decode cX7_wrong 8 = .ok (.putfield 166, 3) := by decide +kernel
theorem dX7_wrong_11 : decode cX7_wrong 11 = .ok (.iconst 0, 1) := by decide +kernel
theorem dX7_wrong_12 : decode cX7_wrong 12 = .ok (.ireturn, 1) := by decide +kernel
theorem dX7_takes_0 : decode cX7_takes 0 = .ok (.aload_n 0, 1) := by decide +kernel
theorem dX7_takes_1 : decode cX7_takes 1 = .ok (.invokevirtual 163, 3) := by decide +kernel
theorem dX7_takes_4 : decode cX7_takes 4 = .ok (.iload_n 1, 1) := by decide +kernel
theorem dX7_takes_5 : decode cX7_takes 5 = .ok (.if_icmp .eq 13, 3) := by decide +kernel
theorem dX7_takes_8 : decode cX7_takes 8 = .ok (.aload_n 0, 1) := by decide +kernel
theorem dX7_takes_9 : decode cX7_takes 9 = .ok (.iconst 1, 1) := by decide +kernel
theorem dX7_takes_10 : decode cX7_takes 10 = .ok (.aload_n 0, 1) := by decide +kernel
theorem dX7_takes_11 : decode cX7_takes 11 = .ok (.getfield 157, 3) := by decide +kernel
theorem dX7_takes_14 : decode cX7_takes 14 = .ok (.invokevirtual 169, 3) := by decide +kernel
theorem dX7_takes_17 : decode cX7_takes 17 = .ok (.ireturn, 1) := by decide +kernel
theorem dX7_takes_18 : decode cX7_takes 18 = .ok (.aload_n 0, 1) := by decide +kernel
theorem dX7_takes_19 : decode cX7_takes 19 = .ok (.aload_n 0, 1) := by decide +kernel
theorem dX7_takes_20 : decode cX7_takes 20 = .ok (.getfield 157, 3) := by decide +kernel
theorem dX7_takes_23 : decode cX7_takes 23 = .ok (.iconst 1, 1) := by decide +kernel
theorem dX7_takes_24 : decode cX7_takes 24 = .ok (.iadd, 1) := by decide +kernel
theorem dX7_takes_25 : decode cX7_takes 25 = .ok (.putfield 157, 3) := by decide +kernel
theorem dX7_takes_28 : decode cX7_takes 28 = .ok (.iconst 1, 1) := by decide +kernel
theorem dX7_takes_29 : decode cX7_takes 29 = .ok (.ireturn, 1) := by decide +kernel
theorem dX7_readsNumber_0 : decode cX7_readsNumber 0 = .ok (.aload_n 0, 1) := by decide +kernel
theorem dX7_readsNumber_1 : decode cX7_readsNumber 1 = .ok (.getfield 157, 3) := by decide +kernel
theorem dX7_readsNumber_4 : decode cX7_readsNumber 4 = .ok (.istore_n 1, 1) := by decide +kernel
theorem dX7_readsNumber_5 : decode cX7_readsNumber 5 = .ok (.aload_n 0, 1) := by decide +kernel
theorem dX7_readsNumber_6 : decode cX7_readsNumber 6 = .ok (.iconst 0, 1) := by decide +kernel
theorem dX7_readsNumber_7 : decode cX7_readsNumber 7 = .ok (.putfield 173, 3) := by decide +kernel
theorem dX7_readsNumber_10 : decode cX7_readsNumber 10 = .ok (.aload_n 0, 1) := by decide +kernel
theorem dX7_readsNumber_11 : decode cX7_readsNumber 11 = .ok (.invokevirtual 176, 3) := by decide +kernel
theorem dX7_readsNumber_14 : decode cX7_readsNumber 14 = .ok (.ifCond .eq 55, 3) := by decide +kernel
theorem dX7_readsNumber_17 : decode cX7_readsNumber 17 = .ok (.aload_n 0, 1) := by decide +kernel
theorem dX7_readsNumber_18 : decode cX7_readsNumber 18 = .ok (.getfield 157, 3) := by decide +kernel
theorem dX7_readsNumber_21 : decode cX7_readsNumber 21 = .ok (.iload_n 1, 1) := by decide +kernel
theorem dX7_readsNumber_22 : decode cX7_readsNumber 22 = .ok (.iconst 5, 1) := by decide +kernel
theorem dX7_readsNumber_23 : decode cX7_readsNumber 23 = .ok (.iadd, 1) := by decide +kernel
theorem dX7_readsNumber_24 : decode cX7_readsNumber 24 = .ok (.if_icmp .ne 13, 3) := by decide +kernel
theorem dX7_readsNumber_27 : decode cX7_readsNumber 27 = .ok (.aload_n 0, 1) := by decide +kernel
theorem dX7_readsNumber_28 : decode cX7_readsNumber 28 = .ok (.iconst 2, 1) := by decide +kernel
theorem dX7_readsNumber_29 : decode cX7_readsNumber 29 = .ok (.aload_n 0, 1) := by decide +kernel
theorem dX7_readsNumber_30 : decode cX7_readsNumber 30 = .ok (.getfield 157, 3) := by decide +kernel
theorem dX7_readsNumber_33 : decode cX7_readsNumber 33 = .ok (.invokevirtual 169, 3) := by decide +kernel
theorem dX7_readsNumber_36 : decode cX7_readsNumber 36 = .ok (.ireturn, 1) := by decide +kernel
theorem dX7_readsNumber_37 : decode cX7_readsNumber 37 = .ok (.aload_n 0, 1) := by decide +kernel
theorem dX7_readsNumber_38 : decode cX7_readsNumber 38 = .ok (.bipush 10, 2) := by decide +kernel
theorem dX7_readsNumber_40 : decode cX7_readsNumber 40 = .ok (.aload_n 0, 1) := by decide +kernel
theorem dX7_readsNumber_41 : decode cX7_readsNumber 41 = .ok (.getfield 173, 3) := by decide +kernel
theorem dX7_readsNumber_44 : decode cX7_readsNumber 44 = .ok (.imul, 1) := by decide +kernel
theorem dX7_readsNumber_45 : decode cX7_readsNumber 45 = .ok (.aload_n 0, 1) := by decide +kernel
theorem dX7_readsNumber_46 : decode cX7_readsNumber 46 = .ok (.invokevirtual 163, 3) := by decide +kernel
theorem dX7_readsNumber_49 : decode cX7_readsNumber 49 = .ok (.iadd, 1) := by decide +kernel
theorem dX7_readsNumber_50 : decode cX7_readsNumber 50 = .ok (.bipush 48, 2) := by decide +kernel
theorem dX7_readsNumber_52 : decode cX7_readsNumber 52 = .ok (.isub, 1) := by decide +kernel
theorem dX7_readsNumber_53 : decode cX7_readsNumber 53 = .ok (.putfield 173, 3) := by decide +kernel
theorem dX7_readsNumber_56 : decode cX7_readsNumber 56 = .ok (.aload_n 0, 1) := by decide +kernel
theorem dX7_readsNumber_57 : decode cX7_readsNumber 57 = .ok (.aload_n 0, 1) := by decide +kernel
theorem dX7_readsNumber_58 : decode cX7_readsNumber 58 = .ok (.getfield 157, 3) := by decide +kernel
theorem dX7_readsNumber_61 : decode cX7_readsNumber 61 = .ok (.iconst 1, 1) := by decide +kernel
theorem dX7_readsNumber_62 : decode cX7_readsNumber 62 = .ok (.iadd, 1) := by decide +kernel
theorem dX7_readsNumber_63 : decode cX7_readsNumber 63 = .ok (.putfield 157, 3) := by decide +kernel
theorem dX7_readsNumber_66 : decode cX7_readsNumber 66 = .ok (.goto (-56), 3) := by decide +kernel
theorem dX7_readsNumber_69 : decode cX7_readsNumber 69 = .ok (.iconst 1, 1) := by decide +kernel
theorem dX7_readsNumber_70 : decode cX7_readsNumber 70 = .ok (.ireturn, 1) := by decide +kernel
theorem dX7_says_0 : decode cX7_says 0 = .ok (.aload_n 0, 1) := by decide +kernel
theorem dX7_says_1 : decode cX7_says 1 = .ok (.getfield 32, 3) := by decide +kernel
theorem dX7_says_4 : decode cX7_says 4 = .ok (.aload_n 0, 1) := by decide +kernel
theorem dX7_says_5 : decode cX7_says 5 = .ok (.getfield 180, 3) := by decide +kernel
theorem dX7_says_8 : decode cX7_says 8 = .ok (.ldc 183, 2) := by decide +kernel
theorem dX7_says_10 : decode cX7_says 10 = .ok (.iload_n 1, 1) := by decide +kernel
theorem dX7_says_11 : decode cX7_says 11 = .ok (.imul, 1) := by decide +kernel
theorem dX7_says_12 : decode cX7_says 12 = .ok (.iload_n 2, 1) := by decide +kernel
theorem dX7_says_13 : decode cX7_says 13 = .ok (.iadd, 1) := by decide +kernel
theorem dX7_says_14 : decode cX7_says 14 = .ok (.iastore, 1) := by decide +kernel
theorem dX7_says_15 : decode cX7_says 15 = .ok (.aload_n 0, 1) := by decide +kernel
theorem dX7_says_16 : decode cX7_says 16 = .ok (.aload_n 0, 1) := by decide +kernel
theorem dX7_says_17 : decode cX7_says 17 = .ok (.getfield 180, 3) := by decide +kernel
theorem dX7_says_20 : decode cX7_says 20 = .ok (.iconst 1, 1) := by decide +kernel
theorem dX7_says_21 : decode cX7_says 21 = .ok (.iadd, 1) := by decide +kernel
theorem dX7_says_22 : decode cX7_says 22 = .ok (.putfield 180, 3) := by decide +kernel
theorem dX7_says_25 : decode cX7_says 25 = .ok (.return_, 1) := by decide +kernel
theorem dX7_opens_0 : decode cX7_opens 0 = .ok (.aload_n 0, 1) := by decide +kernel
theorem dX7_opens_1 : decode cX7_opens 1 = .ok (.getfield 184, 3) := by decide +kernel
theorem dX7_opens_4 : decode cX7_opens 4 = .ok (.bipush 6, 2) := by decide +kernel
theorem dX7_opens_6 : decode cX7_opens 6 = .ok (.if_icmp .ne 13, 3) := by decide +kernel
theorem dX7_opens_9 : decode cX7_opens 9 = .ok (.aload_n 0, 1) := by decide +kernel
theorem dX7_opens_10 : decode cX7_opens 10 = .ok (.iconst 5, 1) := by decide +kernel
theorem dX7_opens_11 : decode cX7_opens 11 = .ok (.aload_n 0, 1) := by decide +kernel
theorem dX7_opens_12 : decode cX7_opens 12 = .ok (.getfield 157, 3) := by decide +kernel
theorem dX7_opens_15 : decode cX7_opens 15 = .ok (.invokevirtual 169, 3) := by decide +kernel
theorem dX7_opens_18 : decode cX7_opens 18 = .ok (.ireturn, 1) := by decide +kernel
theorem dX7_opens_19 : decode cX7_opens 19 = .ok (.aload_n 0, 1) := by decide +kernel
theorem dX7_opens_20 : decode cX7_opens 20 = .ok (.aload_n 0, 1) := by decide +kernel
theorem dX7_opens_21 : decode cX7_opens 21 = .ok (.getfield 184, 3) := by decide +kernel
theorem dX7_opens_24 : decode cX7_opens 24 = .ok (.iconst 1, 1) := by decide +kernel
theorem dX7_opens_25 : decode cX7_opens 25 = .ok (.iadd, 1) := by decide +kernel
theorem dX7_opens_26 : decode cX7_opens 26 = .ok (.putfield 184, 3) := by decide +kernel
theorem dX7_opens_29 : decode cX7_opens 29 = .ok (.aload_n 0, 1) := by decide +kernel
theorem dX7_opens_30 : decode cX7_opens 30 = .ok (.getfield 35, 3) := by decide +kernel
theorem dX7_opens_33 : decode cX7_opens 33 = .ok (.aload_n 0, 1) := by decide +kernel
theorem dX7_opens_34 : decode cX7_opens 34 = .ok (.getfield 187, 3) := by decide +kernel
theorem dX7_opens_37 : decode cX7_opens 37 = .ok (.ldc 183, 2) := by decide +kernel
theorem dX7_opens_39 : decode cX7_opens 39 = .ok (.iload_n 1, 1) := by decide +kernel
theorem dX7_opens_40 : decode cX7_opens 40 = .ok (.imul, 1) := by decide +kernel
theorem dX7_opens_41 : decode cX7_opens 41 = .ok (.iastore, 1) := by decide +kernel
theorem dX7_opens_42 : decode cX7_opens 42 = .ok (.aload_n 0, 1) := by decide +kernel
theorem dX7_opens_43 : decode cX7_opens 43 = .ok (.aload_n 0, 1) := by decide +kernel
theorem dX7_opens_44 : decode cX7_opens 44 = .ok (.getfield 187, 3) := by decide +kernel
theorem dX7_opens_47 : decode cX7_opens 47 = .ok (.iconst 1, 1) := by decide +kernel
theorem dX7_opens_48 : decode cX7_opens 48 = .ok (.iadd, 1) := by decide +kernel
theorem dX7_opens_49 : decode cX7_opens 49 = .ok (.putfield 187, 3) := by decide +kernel
theorem dX7_opens_52 : decode cX7_opens 52 = .ok (.aload_n 0, 1) := by decide +kernel
theorem dX7_opens_53 : decode cX7_opens 53 = .ok (.aload_n 0, 1) := by decide +kernel
theorem dX7_opens_54 : decode cX7_opens 54 = .ok (.getfield 157, 3) := by decide +kernel
theorem dX7_opens_57 : decode cX7_opens 57 = .ok (.iconst 1, 1) := by decide +kernel
theorem dX7_opens_58 : decode cX7_opens 58 = .ok (.iadd, 1) := by decide +kernel
theorem dX7_opens_59 : decode cX7_opens 59 = .ok (.putfield 157, 3) := by decide +kernel
theorem dX7_opens_62 : decode cX7_opens 62 = .ok (.iconst 1, 1) := by decide +kernel
theorem dX7_opens_63 : decode cX7_opens 63 = .ok (.ireturn, 1) := by decide +kernel
theorem dX7_top_0 : decode cX7_top 0 = .ok (.aload_n 0, 1) := by decide +kernel
theorem dX7_top_1 : decode cX7_top 1 = .ok (.getfield 187, 3) := by decide +kernel
theorem dX7_top_4 : decode cX7_top 4 = .ok (.ifCond .ne 7, 3) := by decide +kernel
theorem dX7_top_7 : decode cX7_top 7 = .ok (.iconst (-1), 1) := by decide +kernel
theorem dX7_top_8 : decode cX7_top 8 = .ok (.goto 17, 3) := by decide +kernel
theorem dX7_top_11 : decode cX7_top 11 = .ok (.aload_n 0, 1) := by decide +kernel
theorem dX7_top_12 : decode cX7_top 12 = .ok (.getfield 35, 3) := by decide +kernel
theorem dX7_top_15 : decode cX7_top 15 = .ok (.aload_n 0, 1) := by decide +kernel
theorem dX7_top_16 : decode cX7_top 16 = .ok (.getfield 187, 3) := by decide +kernel
theorem dX7_top_19 : decode cX7_top 19 = .ok (.iconst 1, 1) := by decide +kernel
theorem dX7_top_20 : decode cX7_top 20 = .ok (.isub, 1) := by decide +kernel
theorem dX7_top_21 : decode cX7_top 21 = .ok (.iaload, 1) := by decide +kernel
theorem dX7_top_22 : decode cX7_top 22 = .ok (.ldc 183, 2) := by decide +kernel
theorem dX7_top_24 : decode cX7_top 24 = .ok (.idiv, 1) := by decide +kernel
theorem dX7_top_25 : decode cX7_top 25 = .ok (.ireturn, 1) := by decide +kernel
theorem dX7_factOf_0 : decode cX7_factOf 0 = .ok (.iload_n 0, 1) := by decide +kernel
theorem dX7_factOf_1 : decode cX7_factOf 1 = .ok (.tableswitch 149 97 122 #[125, 127, 149, 149, 149, 149, 119, 149, 149, 149, 146, 131, 149, 121, 149, 129, 143, 149, 137, 134, 149, 149, 140, 149, 149, 123], 119) := by decide +kernel
theorem dX7_factOf_120 : decode cX7_factOf 120 = .ok (.iconst 0, 1) := by decide +kernel
theorem dX7_factOf_121 : decode cX7_factOf 121 = .ok (.ireturn, 1) := by decide +kernel
theorem dX7_factOf_122 : decode cX7_factOf 122 = .ok (.iconst 1, 1) := by decide +kernel
theorem dX7_factOf_123 : decode cX7_factOf 123 = .ok (.ireturn, 1) := by decide +kernel
theorem dX7_factOf_124 : decode cX7_factOf 124 = .ok (.iconst 2, 1) := by decide +kernel
theorem dX7_factOf_125 : decode cX7_factOf 125 = .ok (.ireturn, 1) := by decide +kernel
theorem dX7_factOf_126 : decode cX7_factOf 126 = .ok (.iconst 3, 1) := by decide +kernel
theorem dX7_factOf_127 : decode cX7_factOf 127 = .ok (.ireturn, 1) := by decide +kernel
theorem dX7_factOf_128 : decode cX7_factOf 128 = .ok (.iconst 4, 1) := by decide +kernel
theorem dX7_factOf_129 : decode cX7_factOf 129 = .ok (.ireturn, 1) := by decide +kernel
theorem dX7_factOf_130 : decode cX7_factOf 130 = .ok (.iconst 5, 1) := by decide +kernel
theorem dX7_factOf_131 : decode cX7_factOf 131 = .ok (.ireturn, 1) := by decide +kernel
theorem dX7_factOf_132 : decode cX7_factOf 132 = .ok (.bipush 6, 2) := by decide +kernel
theorem dX7_factOf_134 : decode cX7_factOf 134 = .ok (.ireturn, 1) := by decide +kernel
theorem dX7_factOf_135 : decode cX7_factOf 135 = .ok (.bipush 7, 2) := by decide +kernel
theorem dX7_factOf_137 : decode cX7_factOf 137 = .ok (.ireturn, 1) := by decide +kernel
theorem dX7_factOf_138 : decode cX7_factOf 138 = .ok (.bipush 8, 2) := by decide +kernel
theorem dX7_factOf_140 : decode cX7_factOf 140 = .ok (.ireturn, 1) := by decide +kernel
theorem dX7_factOf_141 : decode cX7_factOf 141 = .ok (.bipush 9, 2) := by decide +kernel
theorem dX7_factOf_143 : decode cX7_factOf 143 = .ok (.ireturn, 1) := by decide +kernel
theorem dX7_factOf_144 : decode cX7_factOf 144 = .ok (.bipush 10, 2) := by decide +kernel
theorem dX7_factOf_146 : decode cX7_factOf 146 = .ok (.ireturn, 1) := by decide +kernel
theorem dX7_factOf_147 : decode cX7_factOf 147 = .ok (.bipush 11, 2) := by decide +kernel
theorem dX7_factOf_149 : decode cX7_factOf 149 = .ok (.ireturn, 1) := by decide +kernel
theorem dX7_factOf_150 : decode cX7_factOf 150 = .ok (.iconst (-1), 1) := by decide +kernel
theorem dX7_factOf_151 : decode cX7_factOf 151 = .ok (.ireturn, 1) := by decide +kernel
theorem dX7_sumSign_0 : decode cX7_sumSign 0 = .ok (.iload_n 0, 1) := by decide +kernel
theorem dX7_sumSign_1 : decode cX7_sumSign 1 = .ok (.bipush 43, 2) := by decide +kernel
theorem dX7_sumSign_3 : decode cX7_sumSign 3 = .ok (.if_icmp .ne 7, 3) := by decide +kernel
theorem dX7_sumSign_6 : decode cX7_sumSign 6 = .ok (.iconst 2, 1) := by decide +kernel
theorem dX7_sumSign_7 : decode cX7_sumSign 7 = .ok (.goto 45, 3) := by decide +kernel
theorem dX7_sumSign_10 : decode cX7_sumSign 10 = .ok (.iload_n 0, 1) := by decide +kernel
theorem dX7_sumSign_11 : decode cX7_sumSign 11 = .ok (.bipush 45, 2) := by decide +kernel
theorem dX7_sumSign_13 : decode cX7_sumSign 13 = .ok (.if_icmp .ne 7, 3) := by decide +kernel
theorem dX7_sumSign_16 : decode cX7_sumSign 16 = .ok (.iconst 3, 1) := by decide +kernel
theorem dX7_sumSign_17 : decode cX7_sumSign 17 = .ok (.goto 35, 3) := by decide +kernel
theorem dX7_sumSign_20 : decode cX7_sumSign 20 = .ok (.iload_n 0, 1) := by decide +kernel
theorem dX7_sumSign_21 : decode cX7_sumSign 21 = .ok (.bipush 42, 2) := by decide +kernel
theorem dX7_sumSign_23 : decode cX7_sumSign 23 = .ok (.if_icmp .ne 7, 3) := by decide +kernel
theorem dX7_sumSign_26 : decode cX7_sumSign 26 = .ok (.iconst 4, 1) := by decide +kernel
theorem dX7_sumSign_27 : decode cX7_sumSign 27 = .ok (.goto 25, 3) := by decide +kernel
theorem dX7_sumSign_30 : decode cX7_sumSign 30 = .ok (.iload_n 0, 1) := by decide +kernel
theorem dX7_sumSign_31 : decode cX7_sumSign 31 = .ok (.bipush 47, 2) := by decide +kernel
theorem dX7_sumSign_33 : decode cX7_sumSign 33 = .ok (.if_icmp .ne 7, 3) := by decide +kernel
theorem dX7_sumSign_36 : decode cX7_sumSign 36 = .ok (.iconst 5, 1) := by decide +kernel
theorem dX7_sumSign_37 : decode cX7_sumSign 37 = .ok (.goto 15, 3) := by decide +kernel
theorem dX7_sumSign_40 : decode cX7_sumSign 40 = .ok (.iload_n 0, 1) := by decide +kernel
theorem dX7_sumSign_41 : decode cX7_sumSign 41 = .ok (.bipush 37, 2) := by decide +kernel
theorem dX7_sumSign_43 : decode cX7_sumSign 43 = .ok (.if_icmp .ne 8, 3) := by decide +kernel
theorem dX7_sumSign_46 : decode cX7_sumSign 46 = .ok (.bipush 6, 2) := by decide +kernel
theorem dX7_sumSign_48 : decode cX7_sumSign 48 = .ok (.goto 4, 3) := by decide +kernel
theorem dX7_sumSign_51 : decode cX7_sumSign 51 = .ok (.iconst (-1), 1) := by decide +kernel
theorem dX7_sumSign_52 : decode cX7_sumSign 52 = .ok (.ireturn, 1) := by decide +kernel
theorem dX7_closesSums_0 : decode cX7_closesSums 0 = .ok (.aload_n 0, 1) := by decide +kernel
theorem dX7_closesSums_1 : decode cX7_closesSums 1 = .ok (.invokevirtual 190, 3) := by decide +kernel
theorem dX7_closesSums_4 : decode cX7_closesSums 4 = .ok (.iconst 4, 1) := by decide +kernel
theorem dX7_closesSums_5 : decode cX7_closesSums 5 = .ok (.if_icmp .lt 12, 3) := by decide +kernel
theorem dX7_closesSums_8 : decode cX7_closesSums 8 = .ok (.aload_n 0, 1) := by decide +kernel
theorem dX7_closesSums_9 : decode cX7_closesSums 9 = .ok (.invokevirtual 190, 3) := by decide +kernel
theorem dX7_closesSums_12 : decode cX7_closesSums 12 = .ok (.bipush 6, 2) := by decide +kernel
theorem dX7_closesSums_14 : decode cX7_closesSums 14 = .ok (.if_icmp .le 23, 3) := by decide +kernel
theorem dX7_closesSums_17 : decode cX7_closesSums 17 = .ok (.iload_n 1, 1) := by decide +kernel
theorem dX7_closesSums_18 : decode cX7_closesSums 18 = .ok (.ifCond .eq 41, 3) := by decide +kernel
theorem dX7_closesSums_21 : decode cX7_closesSums 21 = .ok (.aload_n 0, 1) := by decide +kernel
theorem dX7_closesSums_22 : decode cX7_closesSums 22 = .ok (.invokevirtual 190, 3) := by decide +kernel
theorem dX7_closesSums_25 : decode cX7_closesSums 25 = .ok (.iconst 2, 1) := by decide +kernel
theorem dX7_closesSums_26 : decode cX7_closesSums 26 = .ok (.if_icmp .eq 11, 3) := by decide +kernel
theorem dX7_closesSums_29 : decode cX7_closesSums 29 = .ok (.aload_n 0, 1) := by decide +kernel
theorem dX7_closesSums_30 : decode cX7_closesSums 30 = .ok (.invokevirtual 190, 3) := by decide +kernel
theorem dX7_closesSums_33 : decode cX7_closesSums 33 = .ok (.iconst 3, 1) := by decide +kernel
theorem dX7_closesSums_34 : decode cX7_closesSums 34 = .ok (.if_icmp .ne 25, 3) := by decide +kernel
theorem dX7_closesSums_37 : decode cX7_closesSums 37 = .ok (.aload_n 0, 1) := by decide +kernel
theorem dX7_closesSums_38 : decode cX7_closesSums 38 = .ok (.aload_n 0, 1) := by decide +kernel
theorem dX7_closesSums_39 : decode cX7_closesSums 39 = .ok (.invokevirtual 190, 3) := by decide +kernel
theorem dX7_closesSums_42 : decode cX7_closesSums 42 = .ok (.iconst 0, 1) := by decide +kernel
theorem dX7_closesSums_43 : decode cX7_closesSums 43 = .ok (.invokevirtual 193, 3) := by decide +kernel
theorem dX7_closesSums_46 : decode cX7_closesSums 46 = .ok (.aload_n 0, 1) := by decide +kernel
theorem dX7_closesSums_47 : decode cX7_closesSums 47 = .ok (.aload_n 0, 1) := by decide +kernel
theorem dX7_closesSums_48 : decode cX7_closesSums 48 = .ok (.getfield 187, 3) := by decide +kernel
theorem dX7_closesSums_51 : decode cX7_closesSums 51 = .ok (.iconst 1, 1) := by decide +kernel
theorem dX7_closesSums_52 : decode cX7_closesSums 52 = .ok (.isub, 1) := by decide +kernel
theorem dX7_closesSums_53 : decode cX7_closesSums 53 = .ok (.putfield 187, 3) := by decide +kernel
theorem dX7_closesSums_56 : decode cX7_closesSums 56 = .ok (.goto (-56), 3) := by decide +kernel
theorem dX7_closesSums_59 : decode cX7_closesSums 59 = .ok (.return_, 1) := by decide +kernel
theorem dX7_readsFactor_0 : decode cX7_readsFactor 0 = .ok (.aload_n 0, 1) := by decide +kernel
theorem dX7_readsFactor_1 : decode cX7_readsFactor 1 = .ok (.invokevirtual 163, 3) := by decide +kernel
theorem dX7_readsFactor_4 : decode cX7_readsFactor 4 = .ok (.bipush 91, 2) := by decide +kernel
theorem dX7_readsFactor_6 : decode cX7_readsFactor 6 = .ok (.if_icmp .ne 14, 3) := by decide +kernel
theorem dX7_readsFactor_9 : decode cX7_readsFactor 9 = .ok (.aload_n 0, 1) := by decide +kernel
theorem dX7_readsFactor_10 : decode cX7_readsFactor 10 = .ok (.bipush 14, 2) := by decide +kernel
theorem dX7_readsFactor_12 : decode cX7_readsFactor 12 = .ok (.invokevirtual 197, 3) := by decide +kernel
theorem dX7_readsFactor_15 : decode cX7_readsFactor 15 = .ok (.ifCond .ne (-15), 3) := by decide +kernel
theorem dX7_readsFactor_18 : decode cX7_readsFactor 18 = .ok (.iconst 0, 1) := by decide +kernel
theorem dX7_readsFactor_19 : decode cX7_readsFactor 19 = .ok (.ireturn, 1) := by decide +kernel
theorem dX7_readsFactor_20 : decode cX7_readsFactor 20 = .ok (.aload_n 0, 1) := by decide +kernel
theorem dX7_readsFactor_21 : decode cX7_readsFactor 21 = .ok (.invokevirtual 176, 3) := by decide +kernel
theorem dX7_readsFactor_24 : decode cX7_readsFactor 24 = .ok (.ifCond .eq 23, 3) := by decide +kernel
theorem dX7_readsFactor_27 : decode cX7_readsFactor 27 = .ok (.aload_n 0, 1) := by decide +kernel
theorem dX7_readsFactor_28 : decode cX7_readsFactor 28 = .ok (.invokevirtual 200, 3) := by decide +kernel
theorem dX7_readsFactor_31 : decode cX7_readsFactor 31 = .ok (.ifCond .ne 5, 3) := by decide +kernel
theorem dX7_readsFactor_34 : decode cX7_readsFactor 34 = .ok (.iconst 0, 1) := by decide +kernel
theorem dX7_readsFactor_35 : decode cX7_readsFactor 35 = .ok (.ireturn, 1) := by decide +kernel
theorem dX7_readsFactor_36 : decode cX7_readsFactor 36 = .ok (.aload_n 0, 1) := by decide +kernel
theorem dX7_readsFactor_37 : decode cX7_readsFactor 37 = .ok (.iconst 0, 1) := by decide +kernel
theorem dX7_readsFactor_38 : decode cX7_readsFactor 38 = .ok (.aload_n 0, 1) := by decide +kernel
theorem dX7_readsFactor_39 : decode cX7_readsFactor 39 = .ok (.getfield 173, 3) := by decide +kernel
theorem dX7_readsFactor_42 : decode cX7_readsFactor 42 = .ok (.invokevirtual 193, 3) := by decide +kernel
theorem dX7_readsFactor_45 : decode cX7_readsFactor 45 = .ok (.iconst 1, 1) := by decide +kernel
theorem dX7_readsFactor_46 : decode cX7_readsFactor 46 = .ok (.ireturn, 1) := by decide +kernel
theorem dX7_readsFactor_47 : decode cX7_readsFactor 47 = .ok (.aload_n 0, 1) := by decide +kernel
theorem dX7_readsFactor_48 : decode cX7_readsFactor 48 = .ok (.invokevirtual 163, 3) := by decide +kernel
theorem dX7_readsFactor_51 : decode cX7_readsFactor 51 = .ok (.invokestatic 203, 3) := by decide +kernel
theorem dX7_readsFactor_54 : decode cX7_readsFactor 54 = .ok (.istore_n 1, 1) := by decide +kernel
theorem dX7_readsFactor_55 : decode cX7_readsFactor 55 = .ok (.iload_n 1, 1) := by decide +kernel
theorem dX7_readsFactor_56 : decode cX7_readsFactor 56 = .ok (.iconst (-1), 1) := by decide +kernel
theorem dX7_readsFactor_57 : decode cX7_readsFactor 57 = .ok (.if_icmp .ne 13, 3) := by decide +kernel
theorem dX7_readsFactor_60 : decode cX7_readsFactor 60 = .ok (.aload_n 0, 1) := by decide +kernel
theorem dX7_readsFactor_61 : decode cX7_readsFactor 61 = .ok (.iconst 1, 1) := by decide +kernel
theorem dX7_readsFactor_62 : decode cX7_readsFactor 62 = .ok (.aload_n 0, 1) := by decide +kernel
theorem dX7_readsFactor_63 : decode cX7_readsFactor 63 = .ok (.getfield 157, 3) := by decide +kernel
theorem dX7_readsFactor_66 : decode cX7_readsFactor 66 = .ok (.invokevirtual 169, 3) := by decide +kernel
theorem dX7_readsFactor_69 : decode cX7_readsFactor 69 = .ok (.ireturn, 1) := by decide +kernel
theorem dX7_readsFactor_70 : decode cX7_readsFactor 70 = .ok (.aload_n 0, 1) := by decide +kernel
theorem dX7_readsFactor_71 : decode cX7_readsFactor 71 = .ok (.iconst 1, 1) := by decide +kernel
theorem dX7_readsFactor_72 : decode cX7_readsFactor 72 = .ok (.iload_n 1, 1) := by decide +kernel
theorem dX7_readsFactor_73 : decode cX7_readsFactor 73 = .ok (.invokevirtual 193, 3) := by decide +kernel
theorem dX7_readsFactor_76 : decode cX7_readsFactor 76 = .ok (.aload_n 0, 1) := by decide +kernel
theorem dX7_readsFactor_77 : decode cX7_readsFactor 77 = .ok (.aload_n 0, 1) := by decide +kernel
theorem dX7_readsFactor_78 : decode cX7_readsFactor 78 = .ok (.getfield 157, 3) := by decide +kernel
theorem dX7_readsFactor_81 : decode cX7_readsFactor 81 = .ok (.iconst 1, 1) := by decide +kernel
theorem dX7_readsFactor_82 : decode cX7_readsFactor 82 = .ok (.iadd, 1) := by decide +kernel
theorem dX7_readsFactor_83 : decode cX7_readsFactor 83 = .ok (.putfield 157, 3) := by decide +kernel
theorem dX7_readsFactor_86 : decode cX7_readsFactor 86 = .ok (.iconst 1, 1) := by decide +kernel
theorem dX7_readsFactor_87 : decode cX7_readsFactor 87 = .ok (.ireturn, 1) := by decide +kernel
theorem dX7_hasOpenSum_0 : decode cX7_hasOpenSum 0 = .ok (.iload_n 1, 1) := by decide +kernel
theorem dX7_hasOpenSum_1 : decode cX7_hasOpenSum 1 = .ok (.istore_n 2, 1) := by decide +kernel
theorem dX7_hasOpenSum_2 : decode cX7_hasOpenSum 2 = .ok (.iload_n 2, 1) := by decide +kernel
theorem dX7_hasOpenSum_3 : decode cX7_hasOpenSum 3 = .ok (.aload_n 0, 1) := by decide +kernel
theorem dX7_hasOpenSum_4 : decode cX7_hasOpenSum 4 = .ok (.getfield 187, 3) := by decide +kernel
theorem dX7_hasOpenSum_7 : decode cX7_hasOpenSum 7 = .ok (.if_icmp .ge 25, 3) := by decide +kernel
theorem dX7_hasOpenSum_10 : decode cX7_hasOpenSum 10 = .ok (.aload_n 0, 1) := by decide +kernel
theorem dX7_hasOpenSum_11 : decode cX7_hasOpenSum 11 = .ok (.getfield 35, 3) := by decide +kernel
theorem dX7_hasOpenSum_14 : decode cX7_hasOpenSum 14 = .ok (.iload_n 2, 1) := by decide +kernel
theorem dX7_hasOpenSum_15 : decode cX7_hasOpenSum 15 = .ok (.iaload, 1) := by decide +kernel
theorem dX7_hasOpenSum_16 : decode cX7_hasOpenSum 16 = .ok (.ldc 183, 2) := by decide +kernel
theorem dX7_hasOpenSum_18 : decode cX7_hasOpenSum 18 = .ok (.idiv, 1) := by decide +kernel
theorem dX7_hasOpenSum_19 : decode cX7_hasOpenSum 19 = .ok (.bipush 14, 2) := by decide +kernel
theorem dX7_hasOpenSum_21 : decode cX7_hasOpenSum 21 = .ok (.if_icmp .ne 5, 3) := by decide +kernel
theorem dX7_hasOpenSum_24 : decode cX7_hasOpenSum 24 = .ok (.iconst 1, 1) := by decide +kernel
theorem dX7_hasOpenSum_25 : decode cX7_hasOpenSum 25 = .ok (.ireturn, 1) := by decide +kernel
theorem dX7_hasOpenSum_26 : decode cX7_hasOpenSum 26 = .ok (.iinc 2 1, 3) := by decide +kernel
theorem dX7_hasOpenSum_29 : decode cX7_hasOpenSum 29 = .ok (.goto (-27), 3) := by decide +kernel
theorem dX7_hasOpenSum_32 : decode cX7_hasOpenSum 32 = .ok (.iconst 0, 1) := by decide +kernel
theorem dX7_hasOpenSum_33 : decode cX7_hasOpenSum 33 = .ok (.ireturn, 1) := by decide +kernel
theorem dX7_readsSum_0 : decode cX7_readsSum 0 = .ok (.aload_n 0, 1) := by decide +kernel
theorem dX7_readsSum_1 : decode cX7_readsSum 1 = .ok (.getfield 187, 3) := by decide +kernel
theorem dX7_readsSum_4 : decode cX7_readsSum 4 = .ok (.istore_n 1, 1) := by decide +kernel
theorem dX7_readsSum_5 : decode cX7_readsSum 5 = .ok (.aload_n 0, 1) := by decide +kernel
theorem dX7_readsSum_6 : decode cX7_readsSum 6 = .ok (.invokevirtual 207, 3) := by decide +kernel
theorem dX7_readsSum_9 : decode cX7_readsSum 9 = .ok (.ifCond .ne 5, 3) := by decide +kernel
theorem dX7_readsSum_12 : decode cX7_readsSum 12 = .ok (.iconst 0, 1) := by decide +kernel
theorem dX7_readsSum_13 : decode cX7_readsSum 13 = .ok (.ireturn, 1) := by decide +kernel
theorem dX7_readsSum_14 : decode cX7_readsSum 14 = .ok (.aload_n 0, 1) := by decide +kernel
theorem dX7_readsSum_15 : decode cX7_readsSum 15 = .ok (.invokevirtual 163, 3) := by decide +kernel
theorem dX7_readsSum_18 : decode cX7_readsSum 18 = .ok (.invokestatic 210, 3) := by decide +kernel
theorem dX7_readsSum_21 : decode cX7_readsSum 21 = .ok (.istore_n 2, 1) := by decide +kernel
theorem dX7_readsSum_22 : decode cX7_readsSum 22 = .ok (.iload_n 2, 1) := by decide +kernel
theorem dX7_readsSum_23 : decode cX7_readsSum 23 = .ok (.iconst (-1), 1) := by decide +kernel
theorem dX7_readsSum_24 : decode cX7_readsSum 24 = .ok (.if_icmp .eq 59, 3) := by decide +kernel
theorem dX7_readsSum_27 : decode cX7_readsSum 27 = .ok (.aload_n 0, 1) := by decide +kernel
theorem dX7_readsSum_28 : decode cX7_readsSum 28 = .ok (.iload_n 2, 1) := by decide +kernel
theorem dX7_readsSum_29 : decode cX7_readsSum 29 = .ok (.iconst 4, 1) := by decide +kernel
theorem dX7_readsSum_30 : decode cX7_readsSum 30 = .ok (.if_icmp .ge 7, 3) := by decide +kernel
theorem dX7_readsSum_33 : decode cX7_readsSum 33 = .ok (.iconst 1, 1) := by decide +kernel
theorem dX7_readsSum_34 : decode cX7_readsSum 34 = .ok (.goto 4, 3) := by decide +kernel
theorem dX7_readsSum_37 : decode cX7_readsSum 37 = .ok (.iconst 0, 1) := by decide +kernel
theorem dX7_readsSum_38 : decode cX7_readsSum 38 = .ok (.invokevirtual 213, 3) := by decide +kernel
theorem dX7_readsSum_41 : decode cX7_readsSum 41 = .ok (.aload_n 0, 1) := by decide +kernel
theorem dX7_readsSum_42 : decode cX7_readsSum 42 = .ok (.getfield 35, 3) := by decide +kernel
theorem dX7_readsSum_45 : decode cX7_readsSum 45 = .ok (.aload_n 0, 1) := by decide +kernel
theorem dX7_readsSum_46 : decode cX7_readsSum 46 = .ok (.getfield 187, 3) := by decide +kernel
theorem dX7_readsSum_49 : decode cX7_readsSum 49 = .ok (.ldc 183, 2) := by decide +kernel
theorem dX7_readsSum_51 : decode cX7_readsSum 51 = .ok (.iload_n 2, 1) := by decide +kernel
theorem dX7_readsSum_52 : decode cX7_readsSum 52 = .ok (.imul, 1) := by decide +kernel
theorem dX7_readsSum_53 : decode cX7_readsSum 53 = .ok (.iastore, 1) := by decide +kernel
theorem dX7_readsSum_54 : decode cX7_readsSum 54 = .ok (.aload_n 0, 1) := by decide +kernel
theorem dX7_readsSum_55 : decode cX7_readsSum 55 = .ok (.aload_n 0, 1) := by decide +kernel
theorem dX7_readsSum_56 : decode cX7_readsSum 56 = .ok (.getfield 187, 3) := by decide +kernel
theorem dX7_readsSum_59 : decode cX7_readsSum 59 = .ok (.iconst 1, 1) := by decide +kernel
theorem dX7_readsSum_60 : decode cX7_readsSum 60 = .ok (.iadd, 1) := by decide +kernel
theorem dX7_readsSum_61 : decode cX7_readsSum 61 = .ok (.putfield 187, 3) := by decide +kernel
theorem dX7_readsSum_64 : decode cX7_readsSum 64 = .ok (.aload_n 0, 1) := by decide +kernel
theorem dX7_readsSum_65 : decode cX7_readsSum 65 = .ok (.aload_n 0, 1) := by decide +kernel
theorem dX7_readsSum_66 : decode cX7_readsSum 66 = .ok (.getfield 157, 3) := by decide +kernel
theorem dX7_readsSum_69 : decode cX7_readsSum 69 = .ok (.iconst 1, 1) := by decide +kernel
theorem dX7_readsSum_70 : decode cX7_readsSum 70 = .ok (.iadd, 1) := by decide +kernel
theorem dX7_readsSum_71 : decode cX7_readsSum 71 = .ok (.putfield 157, 3) := by decide +kernel
theorem dX7_readsSum_74 : decode cX7_readsSum 74 = .ok (.aload_n 0, 1) := by decide +kernel
theorem dX7_readsSum_75 : decode cX7_readsSum 75 = .ok (.invokevirtual 207, 3) := by decide +kernel
theorem dX7_readsSum_78 : decode cX7_readsSum 78 = .ok (.ifCond .ne 85, 3) := by decide +kernel
theorem dX7_readsSum_81 : decode cX7_readsSum 81 = .ok (.iconst 0, 1) := by decide +kernel
theorem dX7_readsSum_82 : decode cX7_readsSum 82 = .ok (.ireturn, 1) := by decide +kernel
theorem dX7_readsSum_83 : decode cX7_readsSum 83 = .ok (.aload_n 0, 1) := by decide +kernel
theorem dX7_readsSum_84 : decode cX7_readsSum 84 = .ok (.invokevirtual 163, 3) := by decide +kernel
theorem dX7_readsSum_87 : decode cX7_readsSum 87 = .ok (.bipush 93, 2) := by decide +kernel
theorem dX7_readsSum_89 : decode cX7_readsSum 89 = .ok (.if_icmp .ne 49, 3) := by decide +kernel
theorem dX7_readsSum_92 : decode cX7_readsSum 92 = .ok (.aload_n 0, 1) := by decide +kernel
theorem dX7_readsSum_93 : decode cX7_readsSum 93 = .ok (.iload_n 1, 1) := by decide +kernel
theorem dX7_readsSum_94 : decode cX7_readsSum 94 = .ok (.invokevirtual 217, 3) := by decide +kernel
theorem dX7_readsSum_97 : decode cX7_readsSum 97 = .ok (.ifCond .eq 41, 3) := by decide +kernel
theorem dX7_readsSum_100 : decode cX7_readsSum 100 = .ok (.aload_n 0, 1) := by decide +kernel
theorem dX7_readsSum_101 : decode cX7_readsSum 101 = .ok (.iconst 1, 1) := by decide +kernel
theorem dX7_readsSum_102 : decode cX7_readsSum 102 = .ok (.invokevirtual 213, 3) := by decide +kernel
theorem dX7_readsSum_105 : decode cX7_readsSum 105 = .ok (.aload_n 0, 1) := by decide +kernel
theorem dX7_readsSum_106 : decode cX7_readsSum 106 = .ok (.aload_n 0, 1) := by decide +kernel
theorem dX7_readsSum_107 : decode cX7_readsSum 107 = .ok (.getfield 187, 3) := by decide +kernel
theorem dX7_readsSum_110 : decode cX7_readsSum 110 = .ok (.iconst 1, 1) := by decide +kernel
theorem dX7_readsSum_111 : decode cX7_readsSum 111 = .ok (.isub, 1) := by decide +kernel
theorem dX7_readsSum_112 : decode cX7_readsSum 112 = .ok (.putfield 187, 3) := by decide +kernel
theorem dX7_readsSum_115 : decode cX7_readsSum 115 = .ok (.aload_n 0, 1) := by decide +kernel
theorem dX7_readsSum_116 : decode cX7_readsSum 116 = .ok (.aload_n 0, 1) := by decide +kernel
theorem dX7_readsSum_117 : decode cX7_readsSum 117 = .ok (.getfield 184, 3) := by decide +kernel
theorem dX7_readsSum_120 : decode cX7_readsSum 120 = .ok (.iconst 1, 1) := by decide +kernel
theorem dX7_readsSum_121 : decode cX7_readsSum 121 = .ok (.isub, 1) := by decide +kernel
theorem dX7_readsSum_122 : decode cX7_readsSum 122 = .ok (.putfield 184, 3) := by decide +kernel
theorem dX7_readsSum_125 : decode cX7_readsSum 125 = .ok (.aload_n 0, 1) := by decide +kernel
theorem dX7_readsSum_126 : decode cX7_readsSum 126 = .ok (.aload_n 0, 1) := by decide +kernel
theorem dX7_readsSum_127 : decode cX7_readsSum 127 = .ok (.getfield 157, 3) := by decide +kernel
theorem dX7_readsSum_130 : decode cX7_readsSum 130 = .ok (.iconst 1, 1) := by decide +kernel
theorem dX7_readsSum_131 : decode cX7_readsSum 131 = .ok (.iadd, 1) := by decide +kernel
theorem dX7_readsSum_132 : decode cX7_readsSum 132 = .ok (.putfield 157, 3) := by decide +kernel
theorem dX7_readsSum_135 : decode cX7_readsSum 135 = .ok (.goto 28, 3) := by decide +kernel
theorem dX7_readsSum_138 : decode cX7_readsSum 138 = .ok (.aload_n 0, 1) := by decide +kernel
theorem dX7_readsSum_139 : decode cX7_readsSum 139 = .ok (.iload_n 1, 1) := by decide +kernel
theorem dX7_readsSum_140 : decode cX7_readsSum 140 = .ok (.invokevirtual 217, 3) := by decide +kernel
theorem dX7_readsSum_143 : decode cX7_readsSum 143 = .ok (.ifCond .eq 13, 3) := by decide +kernel
theorem dX7_readsSum_146 : decode cX7_readsSum 146 = .ok (.aload_n 0, 1) := by decide +kernel
theorem dX7_readsSum_147 : decode cX7_readsSum 147 = .ok (.iconst 1, 1) := by decide +kernel
theorem dX7_readsSum_148 : decode cX7_readsSum 148 = .ok (.aload_n 0, 1) := by decide +kernel
theorem dX7_readsSum_149 : decode cX7_readsSum 149 = .ok (.getfield 157, 3) := by decide +kernel
theorem dX7_readsSum_152 : decode cX7_readsSum 152 = .ok (.invokevirtual 169, 3) := by decide +kernel
theorem dX7_readsSum_155 : decode cX7_readsSum 155 = .ok (.ireturn, 1) := by decide +kernel
theorem dX7_readsSum_156 : decode cX7_readsSum 156 = .ok (.aload_n 0, 1) := by decide +kernel
theorem dX7_readsSum_157 : decode cX7_readsSum 157 = .ok (.iconst 1, 1) := by decide +kernel
theorem dX7_readsSum_158 : decode cX7_readsSum 158 = .ok (.invokevirtual 213, 3) := by decide +kernel
theorem dX7_readsSum_161 : decode cX7_readsSum 161 = .ok (.iconst 1, 1) := by decide +kernel
theorem dX7_readsSum_162 : decode cX7_readsSum 162 = .ok (.ireturn, 1) := by decide +kernel
theorem dX7_readsSum_163 : decode cX7_readsSum 163 = .ok (.goto (-149), 3) := by decide +kernel
theorem dX7_endsPiece_0 : decode cX7_endsPiece 0 = .ok (.aload_n 0, 1) := by decide +kernel
theorem dX7_endsPiece_1 : decode cX7_endsPiece 1 = .ok (.invokevirtual 190, 3) := by decide +kernel
theorem dX7_endsPiece_4 : decode cX7_endsPiece 4 = .ok (.bipush 10, 2) := by decide +kernel
theorem dX7_endsPiece_6 : decode cX7_endsPiece 6 = .ok (.if_icmp .ne 33, 3) := by decide +kernel
theorem dX7_endsPiece_9 : decode cX7_endsPiece 9 = .ok (.aload_n 0, 1) := by decide +kernel
theorem dX7_endsPiece_10 : decode cX7_endsPiece 10 = .ok (.bipush 10, 2) := by decide +kernel
theorem dX7_endsPiece_12 : decode cX7_endsPiece 12 = .ok (.iconst 0, 1) := by decide +kernel
theorem dX7_endsPiece_13 : decode cX7_endsPiece 13 = .ok (.invokevirtual 193, 3) := by decide +kernel
theorem dX7_endsPiece_16 : decode cX7_endsPiece 16 = .ok (.aload_n 0, 1) := by decide +kernel
theorem dX7_endsPiece_17 : decode cX7_endsPiece 17 = .ok (.aload_n 0, 1) := by decide +kernel
theorem dX7_endsPiece_18 : decode cX7_endsPiece 18 = .ok (.getfield 187, 3) := by decide +kernel
theorem dX7_endsPiece_21 : decode cX7_endsPiece 21 = .ok (.iconst 1, 1) := by decide +kernel
theorem dX7_endsPiece_22 : decode cX7_endsPiece 22 = .ok (.isub, 1) := by decide +kernel
theorem dX7_endsPiece_23 : decode cX7_endsPiece 23 = .ok (.putfield 187, 3) := by decide +kernel
theorem dX7_endsPiece_26 : decode cX7_endsPiece 26 = .ok (.aload_n 0, 1) := by decide +kernel
theorem dX7_endsPiece_27 : decode cX7_endsPiece 27 = .ok (.aload_n 0, 1) := by decide +kernel
theorem dX7_endsPiece_28 : decode cX7_endsPiece 28 = .ok (.getfield 184, 3) := by decide +kernel
theorem dX7_endsPiece_31 : decode cX7_endsPiece 31 = .ok (.iconst 1, 1) := by decide +kernel
theorem dX7_endsPiece_32 : decode cX7_endsPiece 32 = .ok (.isub, 1) := by decide +kernel
theorem dX7_endsPiece_33 : decode cX7_endsPiece 33 = .ok (.putfield 184, 3) := by decide +kernel
theorem dX7_endsPiece_36 : decode cX7_endsPiece 36 = .ok (.goto (-36), 3) := by decide +kernel
theorem dX7_endsPiece_39 : decode cX7_endsPiece 39 = .ok (.return_, 1) := by decide +kernel
theorem dX7_lands_0 : decode cX7_lands 0 = .ok (.aload_n 0, 1) := by decide +kernel
theorem dX7_lands_1 : decode cX7_lands 1 = .ok (.invokevirtual 190, 3) := by decide +kernel
theorem dX7_lands_4 : decode cX7_lands 4 = .ok (.bipush 11, 2) := by decide +kernel
theorem dX7_lands_6 : decode cX7_lands 6 = .ok (.if_icmp .eq 16, 3) := by decide +kernel
theorem dX7_lands_9 : decode cX7_lands 9 = .ok (.iload_n 1, 1) := by decide +kernel
theorem dX7_lands_10 : decode cX7_lands 10 = .ok (.ifCond .eq 63, 3) := by decide +kernel
theorem dX7_lands_13 : decode cX7_lands 13 = .ok (.aload_n 0, 1) := by decide +kernel
theorem dX7_lands_14 : decode cX7_lands 14 = .ok (.invokevirtual 190, 3) := by decide +kernel
theorem dX7_lands_17 : decode cX7_lands 17 = .ok (.bipush 12, 2) := by decide +kernel
theorem dX7_lands_19 : decode cX7_lands 19 = .ok (.if_icmp .ne 54, 3) := by decide +kernel
theorem dX7_lands_22 : decode cX7_lands 22 = .ok (.aload_n 0, 1) := by decide +kernel
theorem dX7_lands_23 : decode cX7_lands 23 = .ok (.getfield 35, 3) := by decide +kernel
theorem dX7_lands_26 : decode cX7_lands 26 = .ok (.aload_n 0, 1) := by decide +kernel
theorem dX7_lands_27 : decode cX7_lands 27 = .ok (.getfield 187, 3) := by decide +kernel
theorem dX7_lands_30 : decode cX7_lands 30 = .ok (.iconst 1, 1) := by decide +kernel
theorem dX7_lands_31 : decode cX7_lands 31 = .ok (.isub, 1) := by decide +kernel
theorem dX7_lands_32 : decode cX7_lands 32 = .ok (.iaload, 1) := by decide +kernel
theorem dX7_lands_33 : decode cX7_lands 33 = .ok (.ldc 183, 2) := by decide +kernel
theorem dX7_lands_35 : decode cX7_lands 35 = .ok (.irem, 1) := by decide +kernel
theorem dX7_lands_36 : decode cX7_lands 36 = .ok (.istore_n 2, 1) := by decide +kernel
theorem dX7_lands_37 : decode cX7_lands 37 = .ok (.aload_n 0, 1) := by decide +kernel
theorem dX7_lands_38 : decode cX7_lands 38 = .ok (.getfield 32, 3) := by decide +kernel
theorem dX7_lands_41 : decode cX7_lands 41 = .ok (.iload_n 2, 1) := by decide +kernel
theorem dX7_lands_42 : decode cX7_lands 42 = .ok (.ldc 183, 2) := by decide +kernel
theorem dX7_lands_44 : decode cX7_lands 44 = .ok (.aload_n 0, 1) := by decide +kernel
theorem dX7_lands_45 : decode cX7_lands 45 = .ok (.getfield 32, 3) := by decide +kernel
theorem dX7_lands_48 : decode cX7_lands 48 = .ok (.iload_n 2, 1) := by decide +kernel
theorem dX7_lands_49 : decode cX7_lands 49 = .ok (.iaload, 1) := by decide +kernel
theorem dX7_lands_50 : decode cX7_lands 50 = .ok (.ldc 183, 2) := by decide +kernel
theorem dX7_lands_52 : decode cX7_lands 52 = .ok (.idiv, 1) := by decide +kernel
theorem dX7_lands_53 : decode cX7_lands 53 = .ok (.imul, 1) := by decide +kernel
theorem dX7_lands_54 : decode cX7_lands 54 = .ok (.aload_n 0, 1) := by decide +kernel
theorem dX7_lands_55 : decode cX7_lands 55 = .ok (.getfield 180, 3) := by decide +kernel
theorem dX7_lands_58 : decode cX7_lands 58 = .ok (.iadd, 1) := by decide +kernel
theorem dX7_lands_59 : decode cX7_lands 59 = .ok (.iastore, 1) := by decide +kernel
theorem dX7_lands_60 : decode cX7_lands 60 = .ok (.aload_n 0, 1) := by decide +kernel
theorem dX7_lands_61 : decode cX7_lands 61 = .ok (.aload_n 0, 1) := by decide +kernel
theorem dX7_lands_62 : decode cX7_lands 62 = .ok (.getfield 187, 3) := by decide +kernel
theorem dX7_lands_65 : decode cX7_lands 65 = .ok (.iconst 1, 1) := by decide +kernel
theorem dX7_lands_66 : decode cX7_lands 66 = .ok (.isub, 1) := by decide +kernel
theorem dX7_lands_67 : decode cX7_lands 67 = .ok (.putfield 187, 3) := by decide +kernel
theorem dX7_lands_70 : decode cX7_lands 70 = .ok (.goto (-70), 3) := by decide +kernel
theorem dX7_lands_73 : decode cX7_lands 73 = .ok (.return_, 1) := by decide +kernel
theorem dX7_jumps_0 : decode cX7_jumps 0 = .ok (.aload_n 0, 1) := by decide +kernel
theorem dX7_jumps_1 : decode cX7_jumps 1 = .ok (.getfield 35, 3) := by decide +kernel
theorem dX7_jumps_4 : decode cX7_jumps 4 = .ok (.aload_n 0, 1) := by decide +kernel
theorem dX7_jumps_5 : decode cX7_jumps 5 = .ok (.getfield 187, 3) := by decide +kernel
theorem dX7_jumps_8 : decode cX7_jumps 8 = .ok (.ldc 183, 2) := by decide +kernel
theorem dX7_jumps_10 : decode cX7_jumps 10 = .ok (.iload_n 1, 1) := by decide +kernel
theorem dX7_jumps_11 : decode cX7_jumps 11 = .ok (.imul, 1) := by decide +kernel
theorem dX7_jumps_12 : decode cX7_jumps 12 = .ok (.aload_n 0, 1) := by decide +kernel
theorem dX7_jumps_13 : decode cX7_jumps 13 = .ok (.getfield 180, 3) := by decide +kernel
theorem dX7_jumps_16 : decode cX7_jumps 16 = .ok (.iadd, 1) := by decide +kernel
theorem dX7_jumps_17 : decode cX7_jumps 17 = .ok (.iastore, 1) := by decide +kernel
theorem dX7_jumps_18 : decode cX7_jumps 18 = .ok (.aload_n 0, 1) := by decide +kernel
theorem dX7_jumps_19 : decode cX7_jumps 19 = .ok (.aload_n 0, 1) := by decide +kernel
theorem dX7_jumps_20 : decode cX7_jumps 20 = .ok (.getfield 187, 3) := by decide +kernel
theorem dX7_jumps_23 : decode cX7_jumps 23 = .ok (.iconst 1, 1) := by decide +kernel
theorem dX7_jumps_24 : decode cX7_jumps 24 = .ok (.iadd, 1) := by decide +kernel
theorem dX7_jumps_25 : decode cX7_jumps 25 = .ok (.putfield 187, 3) := by decide +kernel
theorem dX7_jumps_28 : decode cX7_jumps 28 = .ok (.aload_n 0, 1) := by decide +kernel
theorem dX7_jumps_29 : decode cX7_jumps 29 = .ok (.iload_n 1, 1) := by decide +kernel
theorem dX7_jumps_30 : decode cX7_jumps 30 = .ok (.iconst 0, 1) := by decide +kernel
theorem dX7_jumps_31 : decode cX7_jumps 31 = .ok (.invokevirtual 193, 3) := by decide +kernel
theorem dX7_jumps_34 : decode cX7_jumps 34 = .ok (.aload_n 0, 1) := by decide +kernel
theorem dX7_jumps_35 : decode cX7_jumps 35 = .ok (.aload_n 0, 1) := by decide +kernel
theorem dX7_jumps_36 : decode cX7_jumps 36 = .ok (.getfield 157, 3) := by decide +kernel
theorem dX7_jumps_39 : decode cX7_jumps 39 = .ok (.iconst 1, 1) := by decide +kernel
theorem dX7_jumps_40 : decode cX7_jumps 40 = .ok (.iadd, 1) := by decide +kernel
theorem dX7_jumps_41 : decode cX7_jumps 41 = .ok (.putfield 157, 3) := by decide +kernel
theorem dX7_jumps_44 : decode cX7_jumps 44 = .ok (.return_, 1) := by decide +kernel
theorem dX7_readsCompared_0 : decode cX7_readsCompared 0 = .ok (.aload_n 0, 1) := by decide +kernel
theorem dX7_readsCompared_1 : decode cX7_readsCompared 1 = .ok (.invokevirtual 220, 3) := by decide +kernel
theorem dX7_readsCompared_4 : decode cX7_readsCompared 4 = .ok (.ifCond .ne 5, 3) := by decide +kernel
theorem dX7_readsCompared_7 : decode cX7_readsCompared 7 = .ok (.iconst 0, 1) := by decide +kernel
theorem dX7_readsCompared_8 : decode cX7_readsCompared 8 = .ok (.ireturn, 1) := by decide +kernel
theorem dX7_readsCompared_9 : decode cX7_readsCompared 9 = .ok (.aload_n 0, 1) := by decide +kernel
theorem dX7_readsCompared_10 : decode cX7_readsCompared 10 = .ok (.invokevirtual 163, 3) := by decide +kernel
theorem dX7_readsCompared_13 : decode cX7_readsCompared 13 = .ok (.bipush 60, 2) := by decide +kernel
theorem dX7_readsCompared_15 : decode cX7_readsCompared 15 = .ok (.if_icmp .ne 8, 3) := by decide +kernel
theorem dX7_readsCompared_18 : decode cX7_readsCompared 18 = .ok (.bipush 7, 2) := by decide +kernel
theorem dX7_readsCompared_20 : decode cX7_readsCompared 20 = .ok (.goto 32, 3) := by decide +kernel
theorem dX7_readsCompared_23 : decode cX7_readsCompared 23 = .ok (.aload_n 0, 1) := by decide +kernel
theorem dX7_readsCompared_24 : decode cX7_readsCompared 24 = .ok (.invokevirtual 163, 3) := by decide +kernel
theorem dX7_readsCompared_27 : decode cX7_readsCompared 27 = .ok (.bipush 62, 2) := by decide +kernel
theorem dX7_readsCompared_29 : decode cX7_readsCompared 29 = .ok (.if_icmp .ne 8, 3) := by decide +kernel
theorem dX7_readsCompared_32 : decode cX7_readsCompared 32 = .ok (.bipush 8, 2) := by decide +kernel
theorem dX7_readsCompared_34 : decode cX7_readsCompared 34 = .ok (.goto 18, 3) := by decide +kernel
theorem dX7_readsCompared_37 : decode cX7_readsCompared 37 = .ok (.aload_n 0, 1) := by decide +kernel
theorem dX7_readsCompared_38 : decode cX7_readsCompared 38 = .ok (.invokevirtual 163, 3) := by decide +kernel
theorem dX7_readsCompared_41 : decode cX7_readsCompared 41 = .ok (.bipush 61, 2) := by decide +kernel
theorem dX7_readsCompared_43 : decode cX7_readsCompared 43 = .ok (.if_icmp .ne 8, 3) := by decide +kernel
theorem dX7_readsCompared_46 : decode cX7_readsCompared 46 = .ok (.bipush 9, 2) := by decide +kernel
theorem dX7_readsCompared_48 : decode cX7_readsCompared 48 = .ok (.goto 4, 3) := by decide +kernel
theorem dX7_readsCompared_51 : decode cX7_readsCompared 51 = .ok (.iconst (-1), 1) := by decide +kernel
theorem dX7_readsCompared_52 : decode cX7_readsCompared 52 = .ok (.istore_n 1, 1) := by decide +kernel
theorem dX7_readsCompared_53 : decode cX7_readsCompared 53 = .ok (.iload_n 1, 1) := by decide +kernel
theorem dX7_readsCompared_54 : decode cX7_readsCompared 54 = .ok (.iconst (-1), 1) := by decide +kernel
theorem dX7_readsCompared_55 : decode cX7_readsCompared 55 = .ok (.if_icmp .ne 13, 3) := by decide +kernel
theorem dX7_readsCompared_58 : decode cX7_readsCompared 58 = .ok (.aload_n 0, 1) := by decide +kernel
theorem dX7_readsCompared_59 : decode cX7_readsCompared 59 = .ok (.iconst 1, 1) := by decide +kernel
theorem dX7_readsCompared_60 : decode cX7_readsCompared 60 = .ok (.aload_n 0, 1) := by decide +kernel
theorem dX7_readsCompared_61 : decode cX7_readsCompared 61 = .ok (.getfield 157, 3) := by decide +kernel
theorem dX7_readsCompared_64 : decode cX7_readsCompared 64 = .ok (.invokevirtual 169, 3) := by decide +kernel
theorem dX7_readsCompared_67 : decode cX7_readsCompared 67 = .ok (.ireturn, 1) := by decide +kernel
theorem dX7_readsCompared_68 : decode cX7_readsCompared 68 = .ok (.aload_n 0, 1) := by decide +kernel
theorem dX7_readsCompared_69 : decode cX7_readsCompared 69 = .ok (.aload_n 0, 1) := by decide +kernel
theorem dX7_readsCompared_70 : decode cX7_readsCompared 70 = .ok (.getfield 157, 3) := by decide +kernel
theorem dX7_readsCompared_73 : decode cX7_readsCompared 73 = .ok (.iconst 1, 1) := by decide +kernel
theorem dX7_readsCompared_74 : decode cX7_readsCompared 74 = .ok (.iadd, 1) := by decide +kernel
theorem dX7_readsCompared_75 : decode cX7_readsCompared 75 = .ok (.putfield 157, 3) := by decide +kernel
theorem dX7_readsCompared_78 : decode cX7_readsCompared 78 = .ok (.aload_n 0, 1) := by decide +kernel
theorem dX7_readsCompared_79 : decode cX7_readsCompared 79 = .ok (.invokevirtual 220, 3) := by decide +kernel
theorem dX7_readsCompared_82 : decode cX7_readsCompared 82 = .ok (.ifCond .ne 5, 3) := by decide +kernel
theorem dX7_readsCompared_85 : decode cX7_readsCompared 85 = .ok (.iconst 0, 1) := by decide +kernel
theorem dX7_readsCompared_86 : decode cX7_readsCompared 86 = .ok (.ireturn, 1) := by decide +kernel
theorem dX7_readsCompared_87 : decode cX7_readsCompared 87 = .ok (.aload_n 0, 1) := by decide +kernel
theorem dX7_readsCompared_88 : decode cX7_readsCompared 88 = .ok (.iload_n 1, 1) := by decide +kernel
theorem dX7_readsCompared_89 : decode cX7_readsCompared 89 = .ok (.iconst 0, 1) := by decide +kernel
theorem dX7_readsCompared_90 : decode cX7_readsCompared 90 = .ok (.invokevirtual 193, 3) := by decide +kernel
theorem dX7_readsCompared_93 : decode cX7_readsCompared 93 = .ok (.aload_n 0, 1) := by decide +kernel
theorem dX7_readsCompared_94 : decode cX7_readsCompared 94 = .ok (.invokevirtual 223, 3) := by decide +kernel
theorem dX7_readsCompared_97 : decode cX7_readsCompared 97 = .ok (.iconst 1, 1) := by decide +kernel
theorem dX7_readsCompared_98 : decode cX7_readsCompared 98 = .ok (.ireturn, 1) := by decide +kernel
theorem dX7_readsCondition_0 : decode cX7_readsCondition 0 = .ok (.aload_n 0, 1) := by decide +kernel
theorem dX7_readsCondition_1 : decode cX7_readsCondition 1 = .ok (.invokevirtual 163, 3) := by decide +kernel
theorem dX7_readsCondition_4 : decode cX7_readsCondition 4 = .ok (.bipush 40, 2) := by decide +kernel
theorem dX7_readsCondition_6 : decode cX7_readsCondition 6 = .ok (.if_icmp .eq 13, 3) := by decide +kernel
theorem dX7_readsCondition_9 : decode cX7_readsCondition 9 = .ok (.aload_n 0, 1) := by decide +kernel
theorem dX7_readsCondition_10 : decode cX7_readsCondition 10 = .ok (.iconst 1, 1) := by decide +kernel
theorem dX7_readsCondition_11 : decode cX7_readsCondition 11 = .ok (.aload_n 0, 1) := by decide +kernel
theorem dX7_readsCondition_12 : decode cX7_readsCondition 12 = .ok (.getfield 157, 3) := by decide +kernel
theorem dX7_readsCondition_15 : decode cX7_readsCondition 15 = .ok (.invokevirtual 169, 3) := by decide +kernel
theorem dX7_readsCondition_18 : decode cX7_readsCondition 18 = .ok (.ireturn, 1) := by decide +kernel
theorem dX7_readsCondition_19 : decode cX7_readsCondition 19 = .ok (.aload_n 0, 1) := by decide +kernel
theorem dX7_readsCondition_20 : decode cX7_readsCondition 20 = .ok (.iconst 0, 1) := by decide +kernel
theorem dX7_readsCondition_21 : decode cX7_readsCondition 21 = .ok (.putfield 184, 3) := by decide +kernel
theorem dX7_readsCondition_24 : decode cX7_readsCondition 24 = .ok (.aload_n 0, 1) := by decide +kernel
theorem dX7_readsCondition_25 : decode cX7_readsCondition 25 = .ok (.iconst 0, 1) := by decide +kernel
theorem dX7_readsCondition_26 : decode cX7_readsCondition 26 = .ok (.putfield 187, 3) := by decide +kernel
theorem dX7_readsCondition_29 : decode cX7_readsCondition 29 = .ok (.aload_n 0, 1) := by decide +kernel
theorem dX7_readsCondition_30 : decode cX7_readsCondition 30 = .ok (.bipush 13, 2) := by decide +kernel
theorem dX7_readsCondition_32 : decode cX7_readsCondition 32 = .ok (.invokevirtual 197, 3) := by decide +kernel
theorem dX7_readsCondition_35 : decode cX7_readsCondition 35 = .ok (.ifCond .ne 5, 3) := by decide +kernel
theorem dX7_readsCondition_38 : decode cX7_readsCondition 38 = .ok (.iconst 0, 1) := by decide +kernel
theorem dX7_readsCondition_39 : decode cX7_readsCondition 39 = .ok (.ireturn, 1) := by decide +kernel
theorem dX7_readsCondition_40 : decode cX7_readsCondition 40 = .ok (.aload_n 0, 1) := by decide +kernel
theorem dX7_readsCondition_41 : decode cX7_readsCondition 41 = .ok (.invokevirtual 163, 3) := by decide +kernel
theorem dX7_readsCondition_44 : decode cX7_readsCondition 44 = .ok (.bipush 33, 2) := by decide +kernel
theorem dX7_readsCondition_46 : decode cX7_readsCondition 46 = .ok (.if_icmp .eq 12, 3) := by decide +kernel
theorem dX7_readsCondition_49 : decode cX7_readsCondition 49 = .ok (.aload_n 0, 1) := by decide +kernel
theorem dX7_readsCondition_50 : decode cX7_readsCondition 50 = .ok (.invokevirtual 163, 3) := by decide +kernel
theorem dX7_readsCondition_53 : decode cX7_readsCondition 53 = .ok (.bipush 40, 2) := by decide +kernel
theorem dX7_readsCondition_55 : decode cX7_readsCondition 55 = .ok (.if_icmp .ne 28, 3) := by decide +kernel
theorem dX7_readsCondition_58 : decode cX7_readsCondition 58 = .ok (.aload_n 0, 1) := by decide +kernel
theorem dX7_readsCondition_59 : decode cX7_readsCondition 59 = .ok (.aload_n 0, 1) := by decide +kernel
theorem dX7_readsCondition_60 : decode cX7_readsCondition 60 = .ok (.invokevirtual 163, 3) := by decide +kernel
theorem dX7_readsCondition_63 : decode cX7_readsCondition 63 = .ok (.bipush 33, 2) := by decide +kernel
theorem dX7_readsCondition_65 : decode cX7_readsCondition 65 = .ok (.if_icmp .ne 8, 3) := by decide +kernel
theorem dX7_readsCondition_68 : decode cX7_readsCondition 68 = .ok (.bipush 10, 2) := by decide +kernel
theorem dX7_readsCondition_70 : decode cX7_readsCondition 70 = .ok (.goto 5, 3) := by decide +kernel
theorem dX7_readsCondition_73 : decode cX7_readsCondition 73 = .ok (.bipush 13, 2) := by decide +kernel
theorem dX7_readsCondition_75 : decode cX7_readsCondition 75 = .ok (.invokevirtual 197, 3) := by decide +kernel
theorem dX7_readsCondition_78 : decode cX7_readsCondition 78 = .ok (.ifCond .ne (-38), 3) := by decide +kernel
theorem dX7_readsCondition_81 : decode cX7_readsCondition 81 = .ok (.iconst 0, 1) := by decide +kernel
theorem dX7_readsCondition_82 : decode cX7_readsCondition 82 = .ok (.ireturn, 1) := by decide +kernel
theorem dX7_readsCondition_83 : decode cX7_readsCondition 83 = .ok (.aload_n 0, 1) := by decide +kernel
theorem dX7_readsCondition_84 : decode cX7_readsCondition 84 = .ok (.invokevirtual 226, 3) := by decide +kernel
theorem dX7_readsCondition_87 : decode cX7_readsCondition 87 = .ok (.ifCond .ne 5, 3) := by decide +kernel
theorem dX7_readsCondition_90 : decode cX7_readsCondition 90 = .ok (.iconst 0, 1) := by decide +kernel
theorem dX7_readsCondition_91 : decode cX7_readsCondition 91 = .ok (.ireturn, 1) := by decide +kernel
theorem dX7_readsCondition_92 : decode cX7_readsCondition 92 = .ok (.aload_n 0, 1) := by decide +kernel
theorem dX7_readsCondition_93 : decode cX7_readsCondition 93 = .ok (.invokevirtual 163, 3) := by decide +kernel
theorem dX7_readsCondition_96 : decode cX7_readsCondition 96 = .ok (.bipush 41, 2) := by decide +kernel
theorem dX7_readsCondition_98 : decode cX7_readsCondition 98 = .ok (.if_icmp .ne 54, 3) := by decide +kernel
theorem dX7_readsCondition_101 : decode cX7_readsCondition 101 = .ok (.aload_n 0, 1) := by decide +kernel
theorem dX7_readsCondition_102 : decode cX7_readsCondition 102 = .ok (.iconst 1, 1) := by decide +kernel
theorem dX7_readsCondition_103 : decode cX7_readsCondition 103 = .ok (.invokevirtual 229, 3) := by decide +kernel
theorem dX7_readsCondition_106 : decode cX7_readsCondition 106 = .ok (.aload_n 0, 1) := by decide +kernel
theorem dX7_readsCondition_107 : decode cX7_readsCondition 107 = .ok (.aload_n 0, 1) := by decide +kernel
theorem dX7_readsCondition_108 : decode cX7_readsCondition 108 = .ok (.getfield 187, 3) := by decide +kernel
theorem dX7_readsCondition_111 : decode cX7_readsCondition 111 = .ok (.iconst 1, 1) := by decide +kernel
theorem dX7_readsCondition_112 : decode cX7_readsCondition 112 = .ok (.isub, 1) := by decide +kernel
theorem dX7_readsCondition_113 : decode cX7_readsCondition 113 = .ok (.putfield 187, 3) := by decide +kernel
theorem dX7_readsCondition_116 : decode cX7_readsCondition 116 = .ok (.aload_n 0, 1) := by decide +kernel
theorem dX7_readsCondition_117 : decode cX7_readsCondition 117 = .ok (.aload_n 0, 1) := by decide +kernel
theorem dX7_readsCondition_118 : decode cX7_readsCondition 118 = .ok (.getfield 184, 3) := by decide +kernel
theorem dX7_readsCondition_121 : decode cX7_readsCondition 121 = .ok (.iconst 1, 1) := by decide +kernel
theorem dX7_readsCondition_122 : decode cX7_readsCondition 122 = .ok (.isub, 1) := by decide +kernel
theorem dX7_readsCondition_123 : decode cX7_readsCondition 123 = .ok (.putfield 184, 3) := by decide +kernel
theorem dX7_readsCondition_126 : decode cX7_readsCondition 126 = .ok (.aload_n 0, 1) := by decide +kernel
theorem dX7_readsCondition_127 : decode cX7_readsCondition 127 = .ok (.aload_n 0, 1) := by decide +kernel
theorem dX7_readsCondition_128 : decode cX7_readsCondition 128 = .ok (.getfield 157, 3) := by decide +kernel
theorem dX7_readsCondition_131 : decode cX7_readsCondition 131 = .ok (.iconst 1, 1) := by decide +kernel
theorem dX7_readsCondition_132 : decode cX7_readsCondition 132 = .ok (.iadd, 1) := by decide +kernel
theorem dX7_readsCondition_133 : decode cX7_readsCondition 133 = .ok (.putfield 157, 3) := by decide +kernel
theorem dX7_readsCondition_136 : decode cX7_readsCondition 136 = .ok (.aload_n 0, 1) := by decide +kernel
theorem dX7_readsCondition_137 : decode cX7_readsCondition 137 = .ok (.getfield 187, 3) := by decide +kernel
theorem dX7_readsCondition_140 : decode cX7_readsCondition 140 = .ok (.ifCond .ne 5, 3) := by decide +kernel
theorem dX7_readsCondition_143 : decode cX7_readsCondition 143 = .ok (.iconst 1, 1) := by decide +kernel
theorem dX7_readsCondition_144 : decode cX7_readsCondition 144 = .ok (.ireturn, 1) := by decide +kernel
theorem dX7_readsCondition_145 : decode cX7_readsCondition 145 = .ok (.aload_n 0, 1) := by decide +kernel
theorem dX7_readsCondition_146 : decode cX7_readsCondition 146 = .ok (.invokevirtual 223, 3) := by decide +kernel
theorem dX7_readsCondition_149 : decode cX7_readsCondition 149 = .ok (.goto (-57), 3) := by decide +kernel
theorem dX7_readsCondition_152 : decode cX7_readsCondition 152 = .ok (.aload_n 0, 1) := by decide +kernel
theorem dX7_readsCondition_153 : decode cX7_readsCondition 153 = .ok (.invokevirtual 163, 3) := by decide +kernel
theorem dX7_readsCondition_156 : decode cX7_readsCondition 156 = .ok (.bipush 38, 2) := by decide +kernel
theorem dX7_readsCondition_158 : decode cX7_readsCondition 158 = .ok (.if_icmp .eq 22, 3) := by decide +kernel
theorem dX7_readsCondition_161 : decode cX7_readsCondition 161 = .ok (.aload_n 0, 1) := by decide +kernel
theorem dX7_readsCondition_162 : decode cX7_readsCondition 162 = .ok (.invokevirtual 163, 3) := by decide +kernel
theorem dX7_readsCondition_165 : decode cX7_readsCondition 165 = .ok (.bipush 124, 2) := by decide +kernel
theorem dX7_readsCondition_167 : decode cX7_readsCondition 167 = .ok (.if_icmp .eq 13, 3) := by decide +kernel
theorem dX7_readsCondition_170 : decode cX7_readsCondition 170 = .ok (.aload_n 0, 1) := by decide +kernel
theorem dX7_readsCondition_171 : decode cX7_readsCondition 171 = .ok (.iconst 1, 1) := by decide +kernel
theorem dX7_readsCondition_172 : decode cX7_readsCondition 172 = .ok (.aload_n 0, 1) := by decide +kernel
theorem dX7_readsCondition_173 : decode cX7_readsCondition 173 = .ok (.getfield 157, 3) := by decide +kernel
theorem dX7_readsCondition_176 : decode cX7_readsCondition 176 = .ok (.invokevirtual 169, 3) := by decide +kernel
theorem dX7_readsCondition_179 : decode cX7_readsCondition 179 = .ok (.ireturn, 1) := by decide +kernel
theorem dX7_readsCondition_180 : decode cX7_readsCondition 180 = .ok (.aload_n 0, 1) := by decide +kernel
theorem dX7_readsCondition_181 : decode cX7_readsCondition 181 = .ok (.aload_n 0, 1) := by decide +kernel
theorem dX7_readsCondition_182 : decode cX7_readsCondition 182 = .ok (.invokevirtual 163, 3) := by decide +kernel
theorem dX7_readsCondition_185 : decode cX7_readsCondition 185 = .ok (.bipush 124, 2) := by decide +kernel
theorem dX7_readsCondition_187 : decode cX7_readsCondition 187 = .ok (.if_icmp .ne 7, 3) := by decide +kernel
theorem dX7_readsCondition_190 : decode cX7_readsCondition 190 = .ok (.iconst 1, 1) := by decide +kernel
theorem dX7_readsCondition_191 : decode cX7_readsCondition 191 = .ok (.goto 4, 3) := by decide +kernel
theorem dX7_readsCondition_194 : decode cX7_readsCondition 194 = .ok (.iconst 0, 1) := by decide +kernel
theorem dX7_readsCondition_195 : decode cX7_readsCondition 195 = .ok (.invokevirtual 229, 3) := by decide +kernel
theorem dX7_readsCondition_198 : decode cX7_readsCondition 198 = .ok (.aload_n 0, 1) := by decide +kernel
theorem dX7_readsCondition_199 : decode cX7_readsCondition 199 = .ok (.aload_n 0, 1) := by decide +kernel
theorem dX7_readsCondition_200 : decode cX7_readsCondition 200 = .ok (.invokevirtual 163, 3) := by decide +kernel
theorem dX7_readsCondition_203 : decode cX7_readsCondition 203 = .ok (.bipush 38, 2) := by decide +kernel
theorem dX7_readsCondition_205 : decode cX7_readsCondition 205 = .ok (.if_icmp .ne 8, 3) := by decide +kernel
theorem dX7_readsCondition_208 : decode cX7_readsCondition 208 = .ok (.bipush 11, 2) := by decide +kernel
theorem dX7_readsCondition_210 : decode cX7_readsCondition 210 = .ok (.goto 5, 3) := by decide +kernel
theorem dX7_readsCondition_213 : decode cX7_readsCondition 213 = .ok (.bipush 12, 2) := by decide +kernel
theorem dX7_readsCondition_215 : decode cX7_readsCondition 215 = .ok (.invokevirtual 232, 3) := by decide +kernel
theorem dX7_readsCondition_218 : decode cX7_readsCondition 218 = .ok (.goto (-178), 3) := by decide +kernel
theorem dX7_readsClause_0 : decode cX7_readsClause 0 = .ok (.aload_n 0, 1) := by decide +kernel
theorem dX7_readsClause_1 : decode cX7_readsClause 1 = .ok (.invokevirtual 163, 3) := by decide +kernel
theorem dX7_readsClause_4 : decode cX7_readsClause 4 = .ok (.bipush 99, 2) := by decide +kernel
theorem dX7_readsClause_6 : decode cX7_readsClause 6 = .ok (.if_icmp .eq 22, 3) := by decide +kernel
theorem dX7_readsClause_9 : decode cX7_readsClause 9 = .ok (.aload_n 0, 1) := by decide +kernel
theorem dX7_readsClause_10 : decode cX7_readsClause 10 = .ok (.invokevirtual 163, 3) := by decide +kernel
theorem dX7_readsClause_13 : decode cX7_readsClause 13 = .ok (.bipush 104, 2) := by decide +kernel
theorem dX7_readsClause_15 : decode cX7_readsClause 15 = .ok (.if_icmp .eq 13, 3) := by decide +kernel
theorem dX7_readsClause_18 : decode cX7_readsClause 18 = .ok (.aload_n 0, 1) := by decide +kernel
theorem dX7_readsClause_19 : decode cX7_readsClause 19 = .ok (.iconst 1, 1) := by decide +kernel
theorem dX7_readsClause_20 : decode cX7_readsClause 20 = .ok (.aload_n 0, 1) := by decide +kernel
theorem dX7_readsClause_21 : decode cX7_readsClause 21 = .ok (.getfield 157, 3) := by decide +kernel
theorem dX7_readsClause_24 : decode cX7_readsClause 24 = .ok (.invokevirtual 169, 3) := by decide +kernel
theorem dX7_readsClause_27 : decode cX7_readsClause 27 = .ok (.ireturn, 1) := by decide +kernel
theorem dX7_readsClause_28 : decode cX7_readsClause 28 = .ok (.aload_n 0, 1) := by decide +kernel
theorem dX7_readsClause_29 : decode cX7_readsClause 29 = .ok (.getfield 235, 3) := by decide +kernel
theorem dX7_readsClause_32 : decode cX7_readsClause 32 = .ok (.bipush 12, 2) := by decide +kernel
theorem dX7_readsClause_34 : decode cX7_readsClause 34 = .ok (.if_icmp .ne 13, 3) := by decide +kernel
theorem dX7_readsClause_37 : decode cX7_readsClause 37 = .ok (.aload_n 0, 1) := by decide +kernel
theorem dX7_readsClause_38 : decode cX7_readsClause 38 = .ok (.iconst 4, 1) := by decide +kernel
theorem dX7_readsClause_39 : decode cX7_readsClause 39 = .ok (.aload_n 0, 1) := by decide +kernel
theorem dX7_readsClause_40 : decode cX7_readsClause 40 = .ok (.getfield 157, 3) := by decide +kernel
theorem dX7_readsClause_43 : decode cX7_readsClause 43 = .ok (.invokevirtual 169, 3) := by decide +kernel
theorem dX7_readsClause_46 : decode cX7_readsClause 46 = .ok (.ireturn, 1) := by decide +kernel
theorem dX7_readsClause_47 : decode cX7_readsClause 47 = .ok (.aload_n 0, 1) := by decide +kernel
theorem dX7_readsClause_48 : decode cX7_readsClause 48 = .ok (.getfield 38, 3) := by decide +kernel
theorem dX7_readsClause_51 : decode cX7_readsClause 51 = .ok (.aload_n 0, 1) := by decide +kernel
theorem dX7_readsClause_52 : decode cX7_readsClause 52 = .ok (.getfield 235, 3) := by decide +kernel
theorem dX7_readsClause_55 : decode cX7_readsClause 55 = .ok (.aload_n 0, 1) := by decide +kernel
theorem dX7_readsClause_56 : decode cX7_readsClause 56 = .ok (.invokevirtual 163, 3) := by decide +kernel
theorem dX7_readsClause_59 : decode cX7_readsClause 59 = .ok (.iastore, 1) := by decide +kernel
theorem dX7_readsClause_60 : decode cX7_readsClause 60 = .ok (.aload_n 0, 1) := by decide +kernel
theorem dX7_readsClause_61 : decode cX7_readsClause 61 = .ok (.aload_n 0, 1) := by decide +kernel
theorem dX7_readsClause_62 : decode cX7_readsClause 62 = .ok (.getfield 157, 3) := by decide +kernel
theorem dX7_readsClause_65 : decode cX7_readsClause 65 = .ok (.iconst 1, 1) := by decide +kernel
theorem dX7_readsClause_66 : decode cX7_readsClause 66 = .ok (.iadd, 1) := by decide +kernel
theorem dX7_readsClause_67 : decode cX7_readsClause 67 = .ok (.putfield 157, 3) := by decide +kernel
theorem dX7_readsClause_70 : decode cX7_readsClause 70 = .ok (.aload_n 0, 1) := by decide +kernel
theorem dX7_readsClause_71 : decode cX7_readsClause 71 = .ok (.getfield 41, 3) := by decide +kernel
theorem dX7_readsClause_74 : decode cX7_readsClause 74 = .ok (.aload_n 0, 1) := by decide +kernel
theorem dX7_readsClause_75 : decode cX7_readsClause 75 = .ok (.getfield 235, 3) := by decide +kernel
theorem dX7_readsClause_78 : decode cX7_readsClause 78 = .ok (.aload_n 0, 1) := by decide +kernel
theorem dX7_readsClause_79 : decode cX7_readsClause 79 = .ok (.getfield 180, 3) := by decide +kernel
theorem dX7_readsClause_82 : decode cX7_readsClause 82 = .ok (.iastore, 1) := by decide +kernel
theorem dX7_readsClause_83 : decode cX7_readsClause 83 = .ok (.aload_n 0, 1) := by decide +kernel
theorem dX7_readsClause_84 : decode cX7_readsClause 84 = .ok (.invokevirtual 238, 3) := by decide +kernel
theorem dX7_readsClause_87 : decode cX7_readsClause 87 = .ok (.ifCond .ne 5, 3) := by decide +kernel
theorem dX7_readsClause_90 : decode cX7_readsClause 90 = .ok (.iconst 0, 1) := by decide +kernel
theorem dX7_readsClause_91 : decode cX7_readsClause 91 = .ok (.ireturn, 1) := by decide +kernel
theorem dX7_readsClause_92 : decode cX7_readsClause 92 = .ok (.aload_n 0, 1) := by decide +kernel
theorem dX7_readsClause_93 : decode cX7_readsClause 93 = .ok (.getfield 44, 3) := by decide +kernel
theorem dX7_readsClause_96 : decode cX7_readsClause 96 = .ok (.aload_n 0, 1) := by decide +kernel
theorem dX7_readsClause_97 : decode cX7_readsClause 97 = .ok (.getfield 235, 3) := by decide +kernel
theorem dX7_readsClause_100 : decode cX7_readsClause 100 = .ok (.aload_n 0, 1) := by decide +kernel
theorem dX7_readsClause_101 : decode cX7_readsClause 101 = .ok (.getfield 180, 3) := by decide +kernel
theorem dX7_readsClause_104 : decode cX7_readsClause 104 = .ok (.iastore, 1) := by decide +kernel
theorem dX7_readsClause_105 : decode cX7_readsClause 105 = .ok (.aload_n 0, 1) := by decide +kernel
theorem dX7_readsClause_106 : decode cX7_readsClause 106 = .ok (.aload_n 0, 1) := by decide +kernel
theorem dX7_readsClause_107 : decode cX7_readsClause 107 = .ok (.getfield 235, 3) := by decide +kernel
theorem dX7_readsClause_110 : decode cX7_readsClause 110 = .ok (.iconst 1, 1) := by decide +kernel
theorem dX7_readsClause_111 : decode cX7_readsClause 111 = .ok (.iadd, 1) := by decide +kernel
theorem dX7_readsClause_112 : decode cX7_readsClause 112 = .ok (.putfield 235, 3) := by decide +kernel
theorem dX7_readsClause_115 : decode cX7_readsClause 115 = .ok (.iconst 1, 1) := by decide +kernel
theorem dX7_readsClause_116 : decode cX7_readsClause 116 = .ok (.ireturn, 1) := by decide +kernel
theorem dX7_law_0 : decode cX7_law 0 = .ok (.iload_n 1, 1) := by decide +kernel
theorem dX7_law_1 : decode cX7_law 1 = .ok (.iconst 0, 1) := by decide +kernel
theorem dX7_law_2 : decode cX7_law 2 = .ok (.iconst 3, 1) := by decide +kernel
theorem dX7_law_3 : decode cX7_law 3 = .ok (.invokestatic 133, 3) := by decide +kernel
theorem dX7_law_6 : decode cX7_law 6 = .ok (.ifCond .eq 21, 3) := by decide +kernel
theorem dX7_law_9 : decode cX7_law 9 = .ok (.iload_n 2, 1) := by decide +kernel
theorem dX7_law_10 : decode cX7_law 10 = .ok (.iconst 1, 1) := by decide +kernel
theorem dX7_law_11 : decode cX7_law 11 = .ok (.bipush 120, 2) := by decide +kernel
theorem dX7_law_13 : decode cX7_law 13 = .ok (.invokestatic 133, 3) := by decide +kernel
theorem dX7_law_16 : decode cX7_law 16 = .ok (.ifCond .eq 11, 3) := by decide +kernel
theorem dX7_law_19 : decode cX7_law 19 = .ok (.iload_n 2, 1) := by decide +kernel
theorem dX7_law_20 : decode cX7_law 20 = .ok (.aload_n 0, 1) := by decide +kernel
theorem dX7_law_21 : decode cX7_law 21 = .ok (.getfield 150, 3) := by decide +kernel
theorem dX7_law_24 : decode cX7_law 24 = .ok (.if_icmp .le 5, 3) := by decide +kernel
theorem dX7_law_27 : decode cX7_law 27 = .ok (.iconst (-1), 1) := by decide +kernel
theorem dX7_law_28 : decode cX7_law 28 = .ok (.ireturn, 1) := by decide +kernel
theorem dX7_law_29 : decode cX7_law 29 = .ok (.aload_n 0, 1) := by decide +kernel
theorem dX7_law_30 : decode cX7_law 30 = .ok (.iconst 0, 1) := by decide +kernel
theorem dX7_law_31 : decode cX7_law 31 = .ok (.putfield 157, 3) := by decide +kernel
theorem dX7_law_34 : decode cX7_law 34 = .ok (.aload_n 0, 1) := by decide +kernel
theorem dX7_law_35 : decode cX7_law 35 = .ok (.iload_n 2, 1) := by decide +kernel
theorem dX7_law_36 : decode cX7_law 36 = .ok (.putfield 160, 3) := by decide +kernel
theorem dX7_law_39 : decode cX7_law 39 = .ok (.aload_n 0, 1) := by decide +kernel
theorem dX7_law_40 : decode cX7_law 40 = .ok (.iconst 0, 1) := by decide +kernel
theorem dX7_law_41 : decode cX7_law 41 = .ok (.putfield 180, 3) := by decide +kernel
theorem dX7_law_44 : decode cX7_law 44 = .ok (.aload_n 0, 1) := by decide +kernel
theorem dX7_law_45 : decode cX7_law 45 = .ok (.iconst 0, 1) := by decide +kernel
theorem dX7_law_46 : decode cX7_law 46 = .ok (.putfield 235, 3) := by decide +kernel
theorem dX7_law_49 : decode cX7_law 49 = .ok (.aload_n 0, 1) := by decide +kernel
theorem dX7_law_50 : decode cX7_law 50 = .ok (.invokevirtual 241, 3) := by decide +kernel
theorem dX7_law_53 : decode cX7_law 53 = .ok (.istore_n 3, 1) := by decide +kernel
theorem dX7_law_54 : decode cX7_law 54 = .ok (.iload_n 3, 1) := by decide +kernel
theorem dX7_law_55 : decode cX7_law 55 = .ok (.ifCond .eq 39, 3) := by decide +kernel
theorem dX7_law_58 : decode cX7_law 58 = .ok (.aload_n 0, 1) := by decide +kernel
theorem dX7_law_59 : decode cX7_law 59 = .ok (.getfield 157, 3) := by decide +kernel
theorem dX7_law_62 : decode cX7_law 62 = .ok (.aload_n 0, 1) := by decide +kernel
theorem dX7_law_63 : decode cX7_law 63 = .ok (.getfield 160, 3) := by decide +kernel
theorem dX7_law_66 : decode cX7_law 66 = .ok (.if_icmp .ge 28, 3) := by decide +kernel
theorem dX7_law_69 : decode cX7_law 69 = .ok (.aload_n 0, 1) := by decide +kernel
theorem dX7_law_70 : decode cX7_law 70 = .ok (.bipush 59, 2) := by decide +kernel
theorem dX7_law_72 : decode cX7_law 72 = .ok (.invokevirtual 244, 3) := by decide +kernel
theorem dX7_law_75 : decode cX7_law 75 = .ok (.ifCond .eq 14, 3) := by decide +kernel
theorem dX7_law_78 : decode cX7_law 78 = .ok (.aload_n 0, 1) := by decide +kernel
theorem dX7_law_79 : decode cX7_law 79 = .ok (.invokevirtual 241, 3) := by decide +kernel
theorem dX7_law_82 : decode cX7_law 82 = .ok (.ifCond .eq 7, 3) := by decide +kernel
theorem dX7_law_85 : decode cX7_law 85 = .ok (.iconst 1, 1) := by decide +kernel
theorem dX7_law_86 : decode cX7_law 86 = .ok (.goto 4, 3) := by decide +kernel
theorem dX7_law_89 : decode cX7_law 89 = .ok (.iconst 0, 1) := by decide +kernel
theorem dX7_law_90 : decode cX7_law 90 = .ok (.istore_n 3, 1) := by decide +kernel
theorem dX7_law_91 : decode cX7_law 91 = .ok (.goto (-37), 3) := by decide +kernel
theorem dX7_law_94 : decode cX7_law 94 = .ok (.aload_n 0, 1) := by decide +kernel
theorem dX7_law_95 : decode cX7_law 95 = .ok (.iconst 0, 1) := by decide +kernel
theorem dX7_law_96 : decode cX7_law 96 = .ok (.putfield 150, 3) := by decide +kernel
theorem dX7_law_99 : decode cX7_law 99 = .ok (.iload_n 3, 1) := by decide +kernel
theorem dX7_law_100 : decode cX7_law 100 = .ok (.ifCond .ne 8, 3) := by decide +kernel
theorem dX7_law_103 : decode cX7_law 103 = .ok (.aload_n 0, 1) := by decide +kernel
theorem dX7_law_104 : decode cX7_law 104 = .ok (.getfield 166, 3) := by decide +kernel
theorem dX7_law_107 : decode cX7_law 107 = .ok (.ireturn, 1) := by decide +kernel
theorem dX7_law_108 : decode cX7_law 108 = .ok (.aload_n 0, 1) := by decide +kernel
theorem dX7_law_109 : decode cX7_law 109 = .ok (.getfield 50, 3) := by decide +kernel
theorem dX7_law_112 : decode cX7_law 112 = .ok (.iload_n 1, 1) := by decide +kernel
theorem dX7_law_113 : decode cX7_law 113 = .ok (.aload_n 0, 1) := by decide +kernel
theorem dX7_law_114 : decode cX7_law 114 = .ok (.getfield 235, 3) := by decide +kernel
theorem dX7_law_117 : decode cX7_law 117 = .ok (.iastore, 1) := by decide +kernel
theorem dX7_law_118 : decode cX7_law 118 = .ok (.iconst 0, 1) := by decide +kernel
theorem dX7_law_119 : decode cX7_law 119 = .ok (.istore 4, 2) := by decide +kernel
theorem dX7_law_121 : decode cX7_law 121 = .ok (.iload 4, 2) := by decide +kernel
theorem dX7_law_123 : decode cX7_law 123 = .ok (.aload_n 0, 1) := by decide +kernel
theorem dX7_law_124 : decode cX7_law 124 = .ok (.getfield 180, 3) := by decide +kernel
theorem dX7_law_127 : decode cX7_law 127 = .ok (.if_icmp .ge 29, 3) := by decide +kernel
theorem dX7_law_130 : decode cX7_law 130 = .ok (.aload_n 0, 1) := by decide +kernel
theorem dX7_law_131 : decode cX7_law 131 = .ok (.getfield 47, 3) := by decide +kernel
theorem dX7_law_134 : decode cX7_law 134 = .ok (.sipush 140, 3) := by decide +kernel
theorem dX7_law_137 : decode cX7_law 137 = .ok (.iload_n 1, 1) := by decide +kernel
theorem dX7_law_138 : decode cX7_law 138 = .ok (.imul, 1) := by decide +kernel
theorem dX7_law_139 : decode cX7_law 139 = .ok (.iload 4, 2) := by decide +kernel
theorem dX7_law_141 : decode cX7_law 141 = .ok (.iadd, 1) := by decide +kernel
theorem dX7_law_142 : decode cX7_law 142 = .ok (.aload_n 0, 1) := by decide +kernel
theorem dX7_law_143 : decode cX7_law 143 = .ok (.getfield 32, 3) := by decide +kernel
theorem dX7_law_146 : decode cX7_law 146 = .ok (.iload 4, 2) := by decide +kernel
theorem dX7_law_148 : decode cX7_law 148 = .ok (.iaload, 1) := by decide +kernel
theorem dX7_law_149 : decode cX7_law 149 = .ok (.iastore, 1) := by decide +kernel
theorem dX7_law_150 : decode cX7_law 150 = .ok (.iinc 4 1, 3) := by decide +kernel
theorem dX7_law_153 : decode cX7_law 153 = .ok (.goto (-32), 3) := by decide +kernel
theorem dX7_law_156 : decode cX7_law 156 = .ok (.iconst 0, 1) := by decide +kernel
theorem dX7_law_157 : decode cX7_law 157 = .ok (.istore 4, 2) := by decide +kernel
theorem dX7_law_159 : decode cX7_law 159 = .ok (.iload 4, 2) := by decide +kernel
theorem dX7_law_161 : decode cX7_law 161 = .ok (.aload_n 0, 1) := by decide +kernel
theorem dX7_law_162 : decode cX7_law 162 = .ok (.getfield 235, 3) := by decide +kernel
theorem dX7_law_165 : decode cX7_law 165 = .ok (.if_icmp .ge 72, 3) := by decide +kernel
theorem dX7_law_168 : decode cX7_law 168 = .ok (.bipush 12, 2) := by decide +kernel
theorem dX7_law_170 : decode cX7_law 170 = .ok (.iload_n 1, 1) := by decide +kernel
theorem dX7_law_171 : decode cX7_law 171 = .ok (.imul, 1) := by decide +kernel
theorem dX7_law_172 : decode cX7_law 172 = .ok (.iload 4, 2) := by decide +kernel
theorem dX7_law_174 : decode cX7_law 174 = .ok (.iadd, 1) := by decide +kernel
theorem dX7_law_175 : decode cX7_law 175 = .ok (.istore 5, 2) := by decide +kernel
theorem dX7_law_177 : decode cX7_law 177 = .ok (.aload_n 0, 1) := by decide +kernel
theorem dX7_law_178 : decode cX7_law 178 = .ok (.getfield 53, 3) := by decide +kernel
theorem dX7_law_181 : decode cX7_law 181 = .ok (.iload 5, 2) := by decide +kernel
theorem dX7_law_183 : decode cX7_law 183 = .ok (.aload_n 0, 1) := by decide +kernel
theorem dX7_law_184 : decode cX7_law 184 = .ok (.getfield 38, 3) := by decide +kernel
theorem dX7_law_187 : decode cX7_law 187 = .ok (.iload 4, 2) := by decide +kernel
theorem dX7_law_189 : decode cX7_law 189 = .ok (.iaload, 1) := by decide +kernel
theorem dX7_law_190 : decode cX7_law 190 = .ok (.iastore, 1) := by decide +kernel
theorem dX7_law_191 : decode cX7_law 191 = .ok (.aload_n 0, 1) := by decide +kernel
theorem dX7_law_192 : decode cX7_law 192 = .ok (.getfield 56, 3) := by decide +kernel
theorem dX7_law_195 : decode cX7_law 195 = .ok (.iload 5, 2) := by decide +kernel
theorem dX7_law_197 : decode cX7_law 197 = .ok (.sipush 140, 3) := by decide +kernel
theorem dX7_law_200 : decode cX7_law 200 = .ok (.iload_n 1, 1) := by decide +kernel
theorem dX7_law_201 : decode cX7_law 201 = .ok (.imul, 1) := by decide +kernel
theorem dX7_law_202 : decode cX7_law 202 = .ok (.aload_n 0, 1) := by decide +kernel
theorem dX7_law_203 : decode cX7_law 203 = .ok (.getfield 41, 3) := by decide +kernel
theorem dX7_law_206 : decode cX7_law 206 = .ok (.iload 4, 2) := by decide +kernel
theorem dX7_law_208 : decode cX7_law 208 = .ok (.iaload, 1) := by decide +kernel
theorem dX7_law_209 : decode cX7_law 209 = .ok (.iadd, 1) := by decide +kernel
theorem dX7_law_210 : decode cX7_law 210 = .ok (.iastore, 1) := by decide +kernel
theorem dX7_law_211 : decode cX7_law 211 = .ok (.aload_n 0, 1) := by decide +kernel
theorem dX7_law_212 : decode cX7_law 212 = .ok (.getfield 59, 3) := by decide +kernel
theorem dX7_law_215 : decode cX7_law 215 = .ok (.iload 5, 2) := by decide +kernel
theorem dX7_law_217 : decode cX7_law 217 = .ok (.sipush 140, 3) := by decide +kernel
theorem dX7_law_220 : decode cX7_law 220 = .ok (.iload_n 1, 1) := by decide +kernel
theorem dX7_law_221 : decode cX7_law 221 = .ok (.imul, 1) := by decide +kernel
theorem dX7_law_222 : decode cX7_law 222 = .ok (.aload_n 0, 1) := by decide +kernel
theorem dX7_law_223 : decode cX7_law 223 = .ok (.getfield 44, 3) := by decide +kernel
theorem dX7_law_226 : decode cX7_law 226 = .ok (.iload 4, 2) := by decide +kernel
theorem dX7_law_228 : decode cX7_law 228 = .ok (.iaload, 1) := by decide +kernel
theorem dX7_law_229 : decode cX7_law 229 = .ok (.iadd, 1) := by decide +kernel
theorem dX7_law_230 : decode cX7_law 230 = .ok (.iastore, 1) := by decide +kernel
theorem dX7_law_231 : decode cX7_law 231 = .ok (.iinc 4 1, 3) := by decide +kernel
theorem dX7_law_234 : decode cX7_law 234 = .ok (.goto (-75), 3) := by decide +kernel
theorem dX7_law_237 : decode cX7_law 237 = .ok (.aload_n 0, 1) := by decide +kernel
theorem dX7_law_238 : decode cX7_law 238 = .ok (.getfield 235, 3) := by decide +kernel
theorem dX7_law_241 : decode cX7_law 241 = .ok (.ireturn, 1) := by decide +kernel
theorem dX7_reckon_0 : decode cX7_reckon 0 = .ok (.iload_n 0, 1) := by decide +kernel
theorem dX7_reckon_1 : decode cX7_reckon 1 = .ok (.tableswitch 85 2 8 #[43, 47, 51, 55, 59, 63, 74], 43) := by decide +kernel
theorem dX7_reckon_44 : decode cX7_reckon 44 = .ok (.iload_n 1, 1) := by decide +kernel
theorem dX7_reckon_45 : decode cX7_reckon 45 = .ok (.iload_n 2, 1) := by decide +kernel
theorem dX7_reckon_46 : decode cX7_reckon 46 = .ok (.iadd, 1) := by decide +kernel
theorem dX7_reckon_47 : decode cX7_reckon 47 = .ok (.ireturn, 1) := by decide +kernel
theorem dX7_reckon_48 : decode cX7_reckon 48 = .ok (.iload_n 1, 1) := by decide +kernel
theorem dX7_reckon_49 : decode cX7_reckon 49 = .ok (.iload_n 2, 1) := by decide +kernel
theorem dX7_reckon_50 : decode cX7_reckon 50 = .ok (.isub, 1) := by decide +kernel
theorem dX7_reckon_51 : decode cX7_reckon 51 = .ok (.ireturn, 1) := by decide +kernel
theorem dX7_reckon_52 : decode cX7_reckon 52 = .ok (.iload_n 1, 1) := by decide +kernel
theorem dX7_reckon_53 : decode cX7_reckon 53 = .ok (.iload_n 2, 1) := by decide +kernel
theorem dX7_reckon_54 : decode cX7_reckon 54 = .ok (.imul, 1) := by decide +kernel
theorem dX7_reckon_55 : decode cX7_reckon 55 = .ok (.ireturn, 1) := by decide +kernel
theorem dX7_reckon_56 : decode cX7_reckon 56 = .ok (.iload_n 1, 1) := by decide +kernel
theorem dX7_reckon_57 : decode cX7_reckon 57 = .ok (.iload_n 2, 1) := by decide +kernel
theorem dX7_reckon_58 : decode cX7_reckon 58 = .ok (.idiv, 1) := by decide +kernel
theorem dX7_reckon_59 : decode cX7_reckon 59 = .ok (.ireturn, 1) := by decide +kernel
theorem dX7_reckon_60 : decode cX7_reckon 60 = .ok (.iload_n 1, 1) := by decide +kernel
theorem dX7_reckon_61 : decode cX7_reckon 61 = .ok (.iload_n 2, 1) := by decide +kernel
theorem dX7_reckon_62 : decode cX7_reckon 62 = .ok (.irem, 1) := by decide +kernel
theorem dX7_reckon_63 : decode cX7_reckon 63 = .ok (.ireturn, 1) := by decide +kernel
theorem dX7_reckon_64 : decode cX7_reckon 64 = .ok (.iload_n 1, 1) := by decide +kernel
theorem dX7_reckon_65 : decode cX7_reckon 65 = .ok (.iload_n 2, 1) := by decide +kernel
theorem dX7_reckon_66 : decode cX7_reckon 66 = .ok (.if_icmp .ge 7, 3) := by decide +kernel
theorem dX7_reckon_69 : decode cX7_reckon 69 = .ok (.iconst 1, 1) := by decide +kernel
theorem dX7_reckon_70 : decode cX7_reckon 70 = .ok (.goto 4, 3) := by decide +kernel
theorem dX7_reckon_73 : decode cX7_reckon 73 = .ok (.iconst 0, 1) := by decide +kernel
theorem dX7_reckon_74 : decode cX7_reckon 74 = .ok (.ireturn, 1) := by decide +kernel
theorem dX7_reckon_75 : decode cX7_reckon 75 = .ok (.iload_n 1, 1) := by decide +kernel
theorem dX7_reckon_76 : decode cX7_reckon 76 = .ok (.iload_n 2, 1) := by decide +kernel
theorem dX7_reckon_77 : decode cX7_reckon 77 = .ok (.if_icmp .le 7, 3) := by decide +kernel
theorem dX7_reckon_80 : decode cX7_reckon 80 = .ok (.iconst 1, 1) := by decide +kernel
theorem dX7_reckon_81 : decode cX7_reckon 81 = .ok (.goto 4, 3) := by decide +kernel
theorem dX7_reckon_84 : decode cX7_reckon 84 = .ok (.iconst 0, 1) := by decide +kernel
theorem dX7_reckon_85 : decode cX7_reckon 85 = .ok (.ireturn, 1) := by decide +kernel
theorem dX7_reckon_86 : decode cX7_reckon 86 = .ok (.iload_n 1, 1) := by decide +kernel
theorem dX7_reckon_87 : decode cX7_reckon 87 = .ok (.iload_n 2, 1) := by decide +kernel
theorem dX7_reckon_88 : decode cX7_reckon 88 = .ok (.if_icmp .ne 7, 3) := by decide +kernel
theorem dX7_reckon_91 : decode cX7_reckon 91 = .ok (.iconst 1, 1) := by decide +kernel
theorem dX7_reckon_92 : decode cX7_reckon 92 = .ok (.goto 4, 3) := by decide +kernel
theorem dX7_reckon_95 : decode cX7_reckon 95 = .ok (.iconst 0, 1) := by decide +kernel
theorem dX7_reckon_96 : decode cX7_reckon 96 = .ok (.ireturn, 1) := by decide +kernel
theorem dX7_isTrue_0 : decode cX7_isTrue 0 = .ok (.iconst 0, 1) := by decide +kernel
theorem dX7_isTrue_1 : decode cX7_isTrue 1 = .ok (.istore_n 2, 1) := by decide +kernel
theorem dX7_isTrue_2 : decode cX7_isTrue 2 = .ok (.sipush 140, 3) := by decide +kernel
theorem dX7_isTrue_5 : decode cX7_isTrue 5 = .ok (.iload_n 1, 1) := by decide +kernel
theorem dX7_isTrue_6 : decode cX7_isTrue 6 = .ok (.bipush 12, 2) := by decide +kernel
theorem dX7_isTrue_8 : decode cX7_isTrue 8 = .ok (.idiv, 1) := by decide +kernel
theorem dX7_isTrue_9 : decode cX7_isTrue 9 = .ok (.imul, 1) := by decide +kernel
theorem dX7_isTrue_10 : decode cX7_isTrue 10 = .ok (.istore_n 3, 1) := by decide +kernel
theorem dX7_isTrue_11 : decode cX7_isTrue 11 = .ok (.aload_n 0, 1) := by decide +kernel
theorem dX7_isTrue_12 : decode cX7_isTrue 12 = .ok (.getfield 56, 3) := by decide +kernel
theorem dX7_isTrue_15 : decode cX7_isTrue 15 = .ok (.iload_n 1, 1) := by decide +kernel
theorem dX7_isTrue_16 : decode cX7_isTrue 16 = .ok (.iaload, 1) := by decide +kernel
theorem dX7_isTrue_17 : decode cX7_isTrue 17 = .ok (.istore 4, 2) := by decide +kernel
theorem dX7_isTrue_19 : decode cX7_isTrue 19 = .ok (.iload 4, 2) := by decide +kernel
theorem dX7_isTrue_21 : decode cX7_isTrue 21 = .ok (.aload_n 0, 1) := by decide +kernel
theorem dX7_isTrue_22 : decode cX7_isTrue 22 = .ok (.getfield 59, 3) := by decide +kernel
theorem dX7_isTrue_25 : decode cX7_isTrue 25 = .ok (.iload_n 1, 1) := by decide +kernel
theorem dX7_isTrue_26 : decode cX7_isTrue 26 = .ok (.iaload, 1) := by decide +kernel
theorem dX7_isTrue_27 : decode cX7_isTrue 27 = .ok (.if_icmp .ge 213, 3) := by decide +kernel
theorem dX7_isTrue_30 : decode cX7_isTrue 30 = .ok (.aload_n 0, 1) := by decide +kernel
theorem dX7_isTrue_31 : decode cX7_isTrue 31 = .ok (.getfield 47, 3) := by decide +kernel
theorem dX7_isTrue_34 : decode cX7_isTrue 34 = .ok (.iload 4, 2) := by decide +kernel
theorem dX7_isTrue_36 : decode cX7_isTrue 36 = .ok (.iaload, 1) := by decide +kernel
theorem dX7_isTrue_37 : decode cX7_isTrue 37 = .ok (.ldc 183, 2) := by decide +kernel
theorem dX7_isTrue_39 : decode cX7_isTrue 39 = .ok (.idiv, 1) := by decide +kernel
theorem dX7_isTrue_40 : decode cX7_isTrue 40 = .ok (.istore 5, 2) := by decide +kernel
theorem dX7_isTrue_42 : decode cX7_isTrue 42 = .ok (.aload_n 0, 1) := by decide +kernel
theorem dX7_isTrue_43 : decode cX7_isTrue 43 = .ok (.getfield 47, 3) := by decide +kernel
theorem dX7_isTrue_46 : decode cX7_isTrue 46 = .ok (.iload 4, 2) := by decide +kernel
theorem dX7_isTrue_48 : decode cX7_isTrue 48 = .ok (.iaload, 1) := by decide +kernel
theorem dX7_isTrue_49 : decode cX7_isTrue 49 = .ok (.ldc 183, 2) := by decide +kernel
theorem dX7_isTrue_51 : decode cX7_isTrue 51 = .ok (.irem, 1) := by decide +kernel
theorem dX7_isTrue_52 : decode cX7_isTrue 52 = .ok (.istore 6, 2) := by decide +kernel
theorem dX7_isTrue_54 : decode cX7_isTrue 54 = .ok (.iload 4, 2) := by decide +kernel
theorem dX7_isTrue_56 : decode cX7_isTrue 56 = .ok (.iconst 1, 1) := by decide +kernel
theorem dX7_isTrue_57 : decode cX7_isTrue 57 = .ok (.iadd, 1) := by decide +kernel
theorem dX7_isTrue_58 : decode cX7_isTrue 58 = .ok (.istore 4, 2) := by decide +kernel
theorem dX7_isTrue_60 : decode cX7_isTrue 60 = .ok (.iload 5, 2) := by decide +kernel
theorem dX7_isTrue_62 : decode cX7_isTrue 62 = .ok (.ifCond .eq 9, 3) := by decide +kernel
theorem dX7_isTrue_65 : decode cX7_isTrue 65 = .ok (.iload 5, 2) := by decide +kernel
theorem dX7_isTrue_67 : decode cX7_isTrue 67 = .ok (.iconst 1, 1) := by decide +kernel
theorem dX7_isTrue_68 : decode cX7_isTrue 68 = .ok (.if_icmp .ne 33, 3) := by decide +kernel
theorem dX7_isTrue_71 : decode cX7_isTrue 71 = .ok (.aload_n 0, 1) := by decide +kernel
theorem dX7_isTrue_72 : decode cX7_isTrue 72 = .ok (.getfield 62, 3) := by decide +kernel
theorem dX7_isTrue_75 : decode cX7_isTrue 75 = .ok (.iload_n 2, 1) := by decide +kernel
theorem dX7_isTrue_76 : decode cX7_isTrue 76 = .ok (.iload 5, 2) := by decide +kernel
theorem dX7_isTrue_78 : decode cX7_isTrue 78 = .ok (.ifCond .ne 8, 3) := by decide +kernel
theorem dX7_isTrue_81 : decode cX7_isTrue 81 = .ok (.iload 6, 2) := by decide +kernel
theorem dX7_isTrue_83 : decode cX7_isTrue 83 = .ok (.goto 10, 3) := by decide +kernel
theorem dX7_isTrue_86 : decode cX7_isTrue 86 = .ok (.aload_n 0, 1) := by decide +kernel
theorem dX7_isTrue_87 : decode cX7_isTrue 87 = .ok (.getfield 65, 3) := by decide +kernel
theorem dX7_isTrue_90 : decode cX7_isTrue 90 = .ok (.iload 6, 2) := by decide +kernel
theorem dX7_isTrue_92 : decode cX7_isTrue 92 = .ok (.iaload, 1) := by decide +kernel
theorem dX7_isTrue_93 : decode cX7_isTrue 93 = .ok (.iastore, 1) := by decide +kernel
theorem dX7_isTrue_94 : decode cX7_isTrue 94 = .ok (.iload_n 2, 1) := by decide +kernel
theorem dX7_isTrue_95 : decode cX7_isTrue 95 = .ok (.iconst 1, 1) := by decide +kernel
theorem dX7_isTrue_96 : decode cX7_isTrue 96 = .ok (.iadd, 1) := by decide +kernel
theorem dX7_isTrue_97 : decode cX7_isTrue 97 = .ok (.istore_n 2, 1) := by decide +kernel
theorem dX7_isTrue_98 : decode cX7_isTrue 98 = .ok (.goto 139, 3) := by decide +kernel
theorem dX7_isTrue_101 : decode cX7_isTrue 101 = .ok (.iload 5, 2) := by decide +kernel
theorem dX7_isTrue_103 : decode cX7_isTrue 103 = .ok (.bipush 10, 2) := by decide +kernel
theorem dX7_isTrue_105 : decode cX7_isTrue 105 = .ok (.if_icmp .ne 24, 3) := by decide +kernel
theorem dX7_isTrue_108 : decode cX7_isTrue 108 = .ok (.aload_n 0, 1) := by decide +kernel
theorem dX7_isTrue_109 : decode cX7_isTrue 109 = .ok (.getfield 62, 3) := by decide +kernel
theorem dX7_isTrue_112 : decode cX7_isTrue 112 = .ok (.iload_n 2, 1) := by decide +kernel
theorem dX7_isTrue_113 : decode cX7_isTrue 113 = .ok (.iconst 1, 1) := by decide +kernel
theorem dX7_isTrue_114 : decode cX7_isTrue 114 = .ok (.isub, 1) := by decide +kernel
theorem dX7_isTrue_115 : decode cX7_isTrue 115 = .ok (.iconst 1, 1) := by decide +kernel
theorem dX7_isTrue_116 : decode cX7_isTrue 116 = .ok (.aload_n 0, 1) := by decide +kernel
theorem dX7_isTrue_117 : decode cX7_isTrue 117 = .ok (.getfield 62, 3) := by decide +kernel
theorem dX7_isTrue_120 : decode cX7_isTrue 120 = .ok (.iload_n 2, 1) := by decide +kernel
theorem dX7_isTrue_121 : decode cX7_isTrue 121 = .ok (.iconst 1, 1) := by decide +kernel
theorem dX7_isTrue_122 : decode cX7_isTrue 122 = .ok (.isub, 1) := by decide +kernel
theorem dX7_isTrue_123 : decode cX7_isTrue 123 = .ok (.iaload, 1) := by decide +kernel
theorem dX7_isTrue_124 : decode cX7_isTrue 124 = .ok (.isub, 1) := by decide +kernel
theorem dX7_isTrue_125 : decode cX7_isTrue 125 = .ok (.iastore, 1) := by decide +kernel
theorem dX7_isTrue_126 : decode cX7_isTrue 126 = .ok (.goto 111, 3) := by decide +kernel
theorem dX7_isTrue_129 : decode cX7_isTrue 129 = .ok (.iload 5, 2) := by decide +kernel
theorem dX7_isTrue_131 : decode cX7_isTrue 131 = .ok (.bipush 11, 2) := by decide +kernel
theorem dX7_isTrue_133 : decode cX7_isTrue 133 = .ok (.if_icmp .eq 10, 3) := by decide +kernel
theorem dX7_isTrue_136 : decode cX7_isTrue 136 = .ok (.iload 5, 2) := by decide +kernel
theorem dX7_isTrue_138 : decode cX7_isTrue 138 = .ok (.bipush 12, 2) := by decide +kernel
theorem dX7_isTrue_140 : decode cX7_isTrue 140 = .ok (.if_icmp .ne 42, 3) := by decide +kernel
theorem dX7_isTrue_143 : decode cX7_isTrue 143 = .ok (.aload_n 0, 1) := by decide +kernel
theorem dX7_isTrue_144 : decode cX7_isTrue 144 = .ok (.getfield 62, 3) := by decide +kernel
theorem dX7_isTrue_147 : decode cX7_isTrue 147 = .ok (.iload_n 2, 1) := by decide +kernel
theorem dX7_isTrue_148 : decode cX7_isTrue 148 = .ok (.iconst 1, 1) := by decide +kernel
theorem dX7_isTrue_149 : decode cX7_isTrue 149 = .ok (.isub, 1) := by decide +kernel
theorem dX7_isTrue_150 : decode cX7_isTrue 150 = .ok (.iaload, 1) := by decide +kernel
theorem dX7_isTrue_151 : decode cX7_isTrue 151 = .ok (.iload 5, 2) := by decide +kernel
theorem dX7_isTrue_153 : decode cX7_isTrue 153 = .ok (.bipush 12, 2) := by decide +kernel
theorem dX7_isTrue_155 : decode cX7_isTrue 155 = .ok (.if_icmp .ne 7, 3) := by decide +kernel
theorem dX7_isTrue_158 : decode cX7_isTrue 158 = .ok (.iconst 1, 1) := by decide +kernel
theorem dX7_isTrue_159 : decode cX7_isTrue 159 = .ok (.goto 4, 3) := by decide +kernel
theorem dX7_isTrue_162 : decode cX7_isTrue 162 = .ok (.iconst 0, 1) := by decide +kernel
theorem dX7_isTrue_163 : decode cX7_isTrue 163 = .ok (.if_icmp .ne 12, 3) := by decide +kernel
theorem dX7_isTrue_166 : decode cX7_isTrue 166 = .ok (.iload_n 3, 1) := by decide +kernel
theorem dX7_isTrue_167 : decode cX7_isTrue 167 = .ok (.iload 6, 2) := by decide +kernel
theorem dX7_isTrue_169 : decode cX7_isTrue 169 = .ok (.iadd, 1) := by decide +kernel
theorem dX7_isTrue_170 : decode cX7_isTrue 170 = .ok (.istore 4, 2) := by decide +kernel
theorem dX7_isTrue_172 : decode cX7_isTrue 172 = .ok (.goto 65, 3) := by decide +kernel
theorem dX7_isTrue_175 : decode cX7_isTrue 175 = .ok (.iload_n 2, 1) := by decide +kernel
theorem dX7_isTrue_176 : decode cX7_isTrue 176 = .ok (.iconst 1, 1) := by decide +kernel
theorem dX7_isTrue_177 : decode cX7_isTrue 177 = .ok (.isub, 1) := by decide +kernel
theorem dX7_isTrue_178 : decode cX7_isTrue 178 = .ok (.istore_n 2, 1) := by decide +kernel
theorem dX7_isTrue_179 : decode cX7_isTrue 179 = .ok (.goto 58, 3) := by decide +kernel
theorem dX7_isTrue_182 : decode cX7_isTrue 182 = .ok (.iload_n 2, 1) := by decide +kernel
theorem dX7_isTrue_183 : decode cX7_isTrue 183 = .ok (.iconst 1, 1) := by decide +kernel
theorem dX7_isTrue_184 : decode cX7_isTrue 184 = .ok (.isub, 1) := by decide +kernel
theorem dX7_isTrue_185 : decode cX7_isTrue 185 = .ok (.istore_n 2, 1) := by decide +kernel
theorem dX7_isTrue_186 : decode cX7_isTrue 186 = .ok (.iload 5, 2) := by decide +kernel
theorem dX7_isTrue_188 : decode cX7_isTrue 188 = .ok (.iconst 5, 1) := by decide +kernel
theorem dX7_isTrue_189 : decode cX7_isTrue 189 = .ok (.if_icmp .eq 10, 3) := by decide +kernel
theorem dX7_isTrue_192 : decode cX7_isTrue 192 = .ok (.iload 5, 2) := by decide +kernel
theorem dX7_isTrue_194 : decode cX7_isTrue 194 = .ok (.bipush 6, 2) := by decide +kernel
theorem dX7_isTrue_196 : decode cX7_isTrue 196 = .ok (.if_icmp .ne 14, 3) := by decide +kernel
theorem dX7_isTrue_199 : decode cX7_isTrue 199 = .ok (.aload_n 0, 1) := by decide +kernel
theorem dX7_isTrue_200 : decode cX7_isTrue 200 = .ok (.getfield 62, 3) := by decide +kernel
theorem dX7_isTrue_203 : decode cX7_isTrue 203 = .ok (.iload_n 2, 1) := by decide +kernel
theorem dX7_isTrue_204 : decode cX7_isTrue 204 = .ok (.iaload, 1) := by decide +kernel
theorem dX7_isTrue_205 : decode cX7_isTrue 205 = .ok (.ifCond .ne 5, 3) := by decide +kernel
theorem dX7_isTrue_208 : decode cX7_isTrue 208 = .ok (.iconst 0, 1) := by decide +kernel
theorem dX7_isTrue_209 : decode cX7_isTrue 209 = .ok (.ireturn, 1) := by decide +kernel
theorem dX7_isTrue_210 : decode cX7_isTrue 210 = .ok (.aload_n 0, 1) := by decide +kernel
theorem dX7_isTrue_211 : decode cX7_isTrue 211 = .ok (.getfield 62, 3) := by decide +kernel
theorem dX7_isTrue_214 : decode cX7_isTrue 214 = .ok (.iload_n 2, 1) := by decide +kernel
theorem dX7_isTrue_215 : decode cX7_isTrue 215 = .ok (.iconst 1, 1) := by decide +kernel
theorem dX7_isTrue_216 : decode cX7_isTrue 216 = .ok (.isub, 1) := by decide +kernel
theorem dX7_isTrue_217 : decode cX7_isTrue 217 = .ok (.iload 5, 2) := by decide +kernel
theorem dX7_isTrue_219 : decode cX7_isTrue 219 = .ok (.aload_n 0, 1) := by decide +kernel
theorem dX7_isTrue_220 : decode cX7_isTrue 220 = .ok (.getfield 62, 3) := by decide +kernel
theorem dX7_isTrue_223 : decode cX7_isTrue 223 = .ok (.iload_n 2, 1) := by decide +kernel
theorem dX7_isTrue_224 : decode cX7_isTrue 224 = .ok (.iconst 1, 1) := by decide +kernel
theorem dX7_isTrue_225 : decode cX7_isTrue 225 = .ok (.isub, 1) := by decide +kernel
theorem dX7_isTrue_226 : decode cX7_isTrue 226 = .ok (.iaload, 1) := by decide +kernel
theorem dX7_isTrue_227 : decode cX7_isTrue 227 = .ok (.aload_n 0, 1) := by decide +kernel
theorem dX7_isTrue_228 : decode cX7_isTrue 228 = .ok (.getfield 62, 3) := by decide +kernel
theorem dX7_isTrue_231 : decode cX7_isTrue 231 = .ok (.iload_n 2, 1) := by decide +kernel
theorem dX7_isTrue_232 : decode cX7_isTrue 232 = .ok (.iaload, 1) := by decide +kernel
theorem dX7_isTrue_233 : decode cX7_isTrue 233 = .ok (.invokestatic 247, 3) := by decide +kernel
theorem dX7_isTrue_236 : decode cX7_isTrue 236 = .ok (.iastore, 1) := by decide +kernel
theorem dX7_isTrue_237 : decode cX7_isTrue 237 = .ok (.goto (-218), 3) := by decide +kernel
theorem dX7_isTrue_240 : decode cX7_isTrue 240 = .ok (.aload_n 0, 1) := by decide +kernel
theorem dX7_isTrue_241 : decode cX7_isTrue 241 = .ok (.getfield 62, 3) := by decide +kernel
theorem dX7_isTrue_244 : decode cX7_isTrue 244 = .ok (.iconst 0, 1) := by decide +kernel
theorem dX7_isTrue_245 : decode cX7_isTrue 245 = .ok (.iaload, 1) := by decide +kernel
theorem dX7_isTrue_246 : decode cX7_isTrue 246 = .ok (.iconst 1, 1) := by decide +kernel
theorem dX7_isTrue_247 : decode cX7_isTrue 247 = .ok (.if_icmp .ne 7, 3) := by decide +kernel
theorem dX7_isTrue_250 : decode cX7_isTrue 250 = .ok (.iconst 1, 1) := by decide +kernel
theorem dX7_isTrue_251 : decode cX7_isTrue 251 = .ok (.goto 4, 3) := by decide +kernel
theorem dX7_isTrue_254 : decode cX7_isTrue 254 = .ok (.iconst 0, 1) := by decide +kernel
theorem dX7_isTrue_255 : decode cX7_isTrue 255 = .ok (.ireturn, 1) := by decide +kernel
theorem dX7_areNeighbours_0 : decode cX7_areNeighbours 0 = .ok (.iload_n 1, 1) := by decide +kernel
theorem dX7_areNeighbours_1 : decode cX7_areNeighbours 1 = .ok (.iload_n 3, 1) := by decide +kernel
theorem dX7_areNeighbours_2 : decode cX7_areNeighbours 2 = .ok (.idiv, 1) := by decide +kernel
theorem dX7_areNeighbours_3 : decode cX7_areNeighbours 3 = .ok (.iload_n 2, 1) := by decide +kernel
theorem dX7_areNeighbours_4 : decode cX7_areNeighbours 4 = .ok (.iload_n 3, 1) := by decide +kernel
theorem dX7_areNeighbours_5 : decode cX7_areNeighbours 5 = .ok (.idiv, 1) := by decide +kernel
theorem dX7_areNeighbours_6 : decode cX7_areNeighbours 6 = .ok (.if_icmp .ne 17, 3) := by decide +kernel
theorem dX7_areNeighbours_9 : decode cX7_areNeighbours 9 = .ok (.iload_n 1, 1) := by decide +kernel
theorem dX7_areNeighbours_10 : decode cX7_areNeighbours 10 = .ok (.iload_n 2, 1) := by decide +kernel
theorem dX7_areNeighbours_11 : decode cX7_areNeighbours 11 = .ok (.iconst 1, 1) := by decide +kernel
theorem dX7_areNeighbours_12 : decode cX7_areNeighbours 12 = .ok (.iadd, 1) := by decide +kernel
theorem dX7_areNeighbours_13 : decode cX7_areNeighbours 13 = .ok (.if_icmp .eq 24, 3) := by decide +kernel
theorem dX7_areNeighbours_16 : decode cX7_areNeighbours 16 = .ok (.iload_n 2, 1) := by decide +kernel
theorem dX7_areNeighbours_17 : decode cX7_areNeighbours 17 = .ok (.iload_n 1, 1) := by decide +kernel
theorem dX7_areNeighbours_18 : decode cX7_areNeighbours 18 = .ok (.iconst 1, 1) := by decide +kernel
theorem dX7_areNeighbours_19 : decode cX7_areNeighbours 19 = .ok (.iadd, 1) := by decide +kernel
theorem dX7_areNeighbours_20 : decode cX7_areNeighbours 20 = .ok (.if_icmp .eq 17, 3) := by decide +kernel
theorem dX7_areNeighbours_23 : decode cX7_areNeighbours 23 = .ok (.iload_n 1, 1) := by decide +kernel
theorem dX7_areNeighbours_24 : decode cX7_areNeighbours 24 = .ok (.iload_n 2, 1) := by decide +kernel
theorem dX7_areNeighbours_25 : decode cX7_areNeighbours 25 = .ok (.iload_n 3, 1) := by decide +kernel
theorem dX7_areNeighbours_26 : decode cX7_areNeighbours 26 = .ok (.iadd, 1) := by decide +kernel
theorem dX7_areNeighbours_27 : decode cX7_areNeighbours 27 = .ok (.if_icmp .eq 10, 3) := by decide +kernel
theorem dX7_areNeighbours_30 : decode cX7_areNeighbours 30 = .ok (.iload_n 2, 1) := by decide +kernel
theorem dX7_areNeighbours_31 : decode cX7_areNeighbours 31 = .ok (.iload_n 1, 1) := by decide +kernel
theorem dX7_areNeighbours_32 : decode cX7_areNeighbours 32 = .ok (.iload_n 3, 1) := by decide +kernel
theorem dX7_areNeighbours_33 : decode cX7_areNeighbours 33 = .ok (.iadd, 1) := by decide +kernel
theorem dX7_areNeighbours_34 : decode cX7_areNeighbours 34 = .ok (.if_icmp .ne 7, 3) := by decide +kernel
theorem dX7_areNeighbours_37 : decode cX7_areNeighbours 37 = .ok (.iconst 1, 1) := by decide +kernel
theorem dX7_areNeighbours_38 : decode cX7_areNeighbours 38 = .ok (.goto 4, 3) := by decide +kernel
theorem dX7_areNeighbours_41 : decode cX7_areNeighbours 41 = .ok (.iconst 0, 1) := by decide +kernel
theorem dX7_areNeighbours_42 : decode cX7_areNeighbours 42 = .ok (.ireturn, 1) := by decide +kernel
theorem dX7_feels_0 : decode cX7_feels 0 = .ok (.iconst 0, 1) := by decide +kernel
theorem dX7_feels_1 : decode cX7_feels 1 = .ok (.istore 10, 2) := by decide +kernel
theorem dX7_feels_3 : decode cX7_feels 3 = .ok (.iload 10, 2) := by decide +kernel
theorem dX7_feels_5 : decode cX7_feels 5 = .ok (.bipush 12, 2) := by decide +kernel
theorem dX7_feels_7 : decode cX7_feels 7 = .ok (.if_icmp .ge 17, 3) := by decide +kernel
theorem dX7_feels_10 : decode cX7_feels 10 = .ok (.aload_n 0, 1) := by decide +kernel
theorem dX7_feels_11 : decode cX7_feels 11 = .ok (.getfield 65, 3) := by decide +kernel
theorem dX7_feels_14 : decode cX7_feels 14 = .ok (.iload 10, 2) := by decide +kernel
theorem dX7_feels_16 : decode cX7_feels 16 = .ok (.iconst 0, 1) := by decide +kernel
theorem dX7_feels_17 : decode cX7_feels 17 = .ok (.iastore, 1) := by decide +kernel
theorem dX7_feels_18 : decode cX7_feels 18 = .ok (.iinc 10 1, 3) := by decide +kernel
theorem dX7_feels_21 : decode cX7_feels 21 = .ok (.goto (-18), 3) := by decide +kernel
theorem dX7_feels_24 : decode cX7_feels 24 = .ok (.aload_n 0, 1) := by decide +kernel
theorem dX7_feels_25 : decode cX7_feels 25 = .ok (.getfield 65, 3) := by decide +kernel
theorem dX7_feels_28 : decode cX7_feels 28 = .ok (.iconst 0, 1) := by decide +kernel
theorem dX7_feels_29 : decode cX7_feels 29 = .ok (.iload 6, 2) := by decide +kernel
theorem dX7_feels_31 : decode cX7_feels 31 = .ok (.iastore, 1) := by decide +kernel
theorem dX7_feels_32 : decode cX7_feels 32 = .ok (.iconst 0, 1) := by decide +kernel
theorem dX7_feels_33 : decode cX7_feels 33 = .ok (.istore 10, 2) := by decide +kernel
theorem dX7_feels_35 : decode cX7_feels 35 = .ok (.iload 10, 2) := by decide +kernel
theorem dX7_feels_37 : decode cX7_feels 37 = .ok (.bipush 24, 2) := by decide +kernel
theorem dX7_feels_39 : decode cX7_feels 39 = .ok (.if_icmp .ge 210, 3) := by decide +kernel
theorem dX7_feels_42 : decode cX7_feels 42 = .ok (.aload_n 3, 1) := by decide +kernel
theorem dX7_feels_43 : decode cX7_feels 43 = .ok (.iload 10, 2) := by decide +kernel
theorem dX7_feels_45 : decode cX7_feels 45 = .ok (.iaload, 1) := by decide +kernel
theorem dX7_feels_46 : decode cX7_feels 46 = .ok (.iconst (-1), 1) := by decide +kernel
theorem dX7_feels_47 : decode cX7_feels 47 = .ok (.if_icmp .ne 6, 3) := by decide +kernel
theorem dX7_feels_50 : decode cX7_feels 50 = .ok (.goto 193, 3) := by decide +kernel
theorem dX7_feels_53 : decode cX7_feels 53 = .ok (.aload_n 0, 1) := by decide +kernel
theorem dX7_feels_54 : decode cX7_feels 54 = .ok (.iload 8, 2) := by decide +kernel
theorem dX7_feels_56 : decode cX7_feels 56 = .ok (.iload 10, 2) := by decide +kernel
theorem dX7_feels_58 : decode cX7_feels 58 = .ok (.iload 7, 2) := by decide +kernel
theorem dX7_feels_60 : decode cX7_feels 60 = .ok (.invokevirtual 251, 3) := by decide +kernel
theorem dX7_feels_63 : decode cX7_feels 63 = .ok (.istore 11, 2) := by decide +kernel
theorem dX7_feels_65 : decode cX7_feels 65 = .ok (.iload 9, 2) := by decide +kernel
theorem dX7_feels_67 : decode cX7_feels 67 = .ok (.ifCond .ne 7, 3) := by decide +kernel
theorem dX7_feels_70 : decode cX7_feels 70 = .ok (.iconst 0, 1) := by decide +kernel
theorem dX7_feels_71 : decode cX7_feels 71 = .ok (.goto 17, 3) := by decide +kernel
theorem dX7_feels_74 : decode cX7_feels 74 = .ok (.aload_n 1, 1) := by decide +kernel
theorem dX7_feels_75 : decode cX7_feels 75 = .ok (.iload_n 2, 1) := by decide +kernel
theorem dX7_feels_76 : decode cX7_feels 76 = .ok (.bipush 24, 2) := by decide +kernel
theorem dX7_feels_78 : decode cX7_feels 78 = .ok (.iload 9, 2) := by decide +kernel
theorem dX7_feels_80 : decode cX7_feels 80 = .ok (.iconst 1, 1) := by decide +kernel
theorem dX7_feels_81 : decode cX7_feels 81 = .ok (.isub, 1) := by decide +kernel
theorem dX7_feels_82 : decode cX7_feels 82 = .ok (.imul, 1) := by decide +kernel
theorem dX7_feels_83 : decode cX7_feels 83 = .ok (.iadd, 1) := by decide +kernel
theorem dX7_feels_84 : decode cX7_feels 84 = .ok (.iload 10, 2) := by decide +kernel
theorem dX7_feels_86 : decode cX7_feels 86 = .ok (.iadd, 1) := by decide +kernel
theorem dX7_feels_87 : decode cX7_feels 87 = .ok (.iaload, 1) := by decide +kernel
theorem dX7_feels_88 : decode cX7_feels 88 = .ok (.istore 12, 2) := by decide +kernel
theorem dX7_feels_90 : decode cX7_feels 90 = .ok (.aload_n 0, 1) := by decide +kernel
theorem dX7_feels_91 : decode cX7_feels 91 = .ok (.getfield 65, 3) := by decide +kernel
theorem dX7_feels_94 : decode cX7_feels 94 = .ok (.iconst 1, 1) := by decide +kernel
theorem dX7_feels_95 : decode cX7_feels 95 = .ok (.aload_n 0, 1) := by decide +kernel
theorem dX7_feels_96 : decode cX7_feels 96 = .ok (.getfield 65, 3) := by decide +kernel
theorem dX7_feels_99 : decode cX7_feels 99 = .ok (.iconst 1, 1) := by decide +kernel
theorem dX7_feels_100 : decode cX7_feels 100 = .ok (.iaload, 1) := by decide +kernel
theorem dX7_feels_101 : decode cX7_feels 101 = .ok (.iload 11, 2) := by decide +kernel
theorem dX7_feels_103 : decode cX7_feels 103 = .ok (.ifCond .eq 13, 3) := by decide +kernel
theorem dX7_feels_106 : decode cX7_feels 106 = .ok (.iload 12, 2) := by decide +kernel
theorem dX7_feels_108 : decode cX7_feels 108 = .ok (.iconst 1, 1) := by decide +kernel
theorem dX7_feels_109 : decode cX7_feels 109 = .ok (.if_icmp .ne 7, 3) := by decide +kernel
theorem dX7_feels_112 : decode cX7_feels 112 = .ok (.iconst 1, 1) := by decide +kernel
theorem dX7_feels_113 : decode cX7_feels 113 = .ok (.goto 4, 3) := by decide +kernel
theorem dX7_feels_116 : decode cX7_feels 116 = .ok (.iconst 0, 1) := by decide +kernel
theorem dX7_feels_117 : decode cX7_feels 117 = .ok (.iadd, 1) := by decide +kernel
theorem dX7_feels_118 : decode cX7_feels 118 = .ok (.iastore, 1) := by decide +kernel
theorem dX7_feels_119 : decode cX7_feels 119 = .ok (.aload_n 0, 1) := by decide +kernel
theorem dX7_feels_120 : decode cX7_feels 120 = .ok (.getfield 65, 3) := by decide +kernel
theorem dX7_feels_123 : decode cX7_feels 123 = .ok (.iconst 2, 1) := by decide +kernel
theorem dX7_feels_124 : decode cX7_feels 124 = .ok (.aload_n 0, 1) := by decide +kernel
theorem dX7_feels_125 : decode cX7_feels 125 = .ok (.getfield 65, 3) := by decide +kernel
theorem dX7_feels_128 : decode cX7_feels 128 = .ok (.iconst 2, 1) := by decide +kernel
theorem dX7_feels_129 : decode cX7_feels 129 = .ok (.iaload, 1) := by decide +kernel
theorem dX7_feels_130 : decode cX7_feels 130 = .ok (.iload 11, 2) := by decide +kernel
theorem dX7_feels_132 : decode cX7_feels 132 = .ok (.ifCond .eq 13, 3) := by decide +kernel
theorem dX7_feels_135 : decode cX7_feels 135 = .ok (.iload 12, 2) := by decide +kernel
theorem dX7_feels_137 : decode cX7_feels 137 = .ok (.iconst 2, 1) := by decide +kernel
theorem dX7_feels_138 : decode cX7_feels 138 = .ok (.if_icmp .ne 7, 3) := by decide +kernel
theorem dX7_feels_141 : decode cX7_feels 141 = .ok (.iconst 1, 1) := by decide +kernel
theorem dX7_feels_142 : decode cX7_feels 142 = .ok (.goto 4, 3) := by decide +kernel
theorem dX7_feels_145 : decode cX7_feels 145 = .ok (.iconst 0, 1) := by decide +kernel
theorem dX7_feels_146 : decode cX7_feels 146 = .ok (.iadd, 1) := by decide +kernel
theorem dX7_feels_147 : decode cX7_feels 147 = .ok (.iastore, 1) := by decide +kernel
theorem dX7_feels_148 : decode cX7_feels 148 = .ok (.aload_n 0, 1) := by decide +kernel
theorem dX7_feels_149 : decode cX7_feels 149 = .ok (.getfield 65, 3) := by decide +kernel
theorem dX7_feels_152 : decode cX7_feels 152 = .ok (.iconst 3, 1) := by decide +kernel
theorem dX7_feels_153 : decode cX7_feels 153 = .ok (.aload_n 0, 1) := by decide +kernel
theorem dX7_feels_154 : decode cX7_feels 154 = .ok (.getfield 65, 3) := by decide +kernel
theorem dX7_feels_157 : decode cX7_feels 157 = .ok (.iconst 3, 1) := by decide +kernel
theorem dX7_feels_158 : decode cX7_feels 158 = .ok (.iaload, 1) := by decide +kernel
theorem dX7_feels_159 : decode cX7_feels 159 = .ok (.iload 12, 2) := by decide +kernel
theorem dX7_feels_161 : decode cX7_feels 161 = .ok (.iconst 1, 1) := by decide +kernel
theorem dX7_feels_162 : decode cX7_feels 162 = .ok (.if_icmp .ne 7, 3) := by decide +kernel
theorem dX7_feels_165 : decode cX7_feels 165 = .ok (.iconst 1, 1) := by decide +kernel
theorem dX7_feels_166 : decode cX7_feels 166 = .ok (.goto 4, 3) := by decide +kernel
theorem dX7_feels_169 : decode cX7_feels 169 = .ok (.iconst 0, 1) := by decide +kernel
theorem dX7_feels_170 : decode cX7_feels 170 = .ok (.iadd, 1) := by decide +kernel
theorem dX7_feels_171 : decode cX7_feels 171 = .ok (.iastore, 1) := by decide +kernel
theorem dX7_feels_172 : decode cX7_feels 172 = .ok (.aload_n 0, 1) := by decide +kernel
theorem dX7_feels_173 : decode cX7_feels 173 = .ok (.getfield 65, 3) := by decide +kernel
theorem dX7_feels_176 : decode cX7_feels 176 = .ok (.iconst 4, 1) := by decide +kernel
theorem dX7_feels_177 : decode cX7_feels 177 = .ok (.aload_n 0, 1) := by decide +kernel
theorem dX7_feels_178 : decode cX7_feels 178 = .ok (.getfield 65, 3) := by decide +kernel
theorem dX7_feels_181 : decode cX7_feels 181 = .ok (.iconst 4, 1) := by decide +kernel
theorem dX7_feels_182 : decode cX7_feels 182 = .ok (.iaload, 1) := by decide +kernel
theorem dX7_feels_183 : decode cX7_feels 183 = .ok (.iload 12, 2) := by decide +kernel
theorem dX7_feels_185 : decode cX7_feels 185 = .ok (.iconst 2, 1) := by decide +kernel
theorem dX7_feels_186 : decode cX7_feels 186 = .ok (.if_icmp .ne 7, 3) := by decide +kernel
theorem dX7_feels_189 : decode cX7_feels 189 = .ok (.iconst 1, 1) := by decide +kernel
theorem dX7_feels_190 : decode cX7_feels 190 = .ok (.goto 4, 3) := by decide +kernel
theorem dX7_feels_193 : decode cX7_feels 193 = .ok (.iconst 0, 1) := by decide +kernel
theorem dX7_feels_194 : decode cX7_feels 194 = .ok (.iadd, 1) := by decide +kernel
theorem dX7_feels_195 : decode cX7_feels 195 = .ok (.iastore, 1) := by decide +kernel
theorem dX7_feels_196 : decode cX7_feels 196 = .ok (.aload_n 0, 1) := by decide +kernel
theorem dX7_feels_197 : decode cX7_feels 197 = .ok (.getfield 65, 3) := by decide +kernel
theorem dX7_feels_200 : decode cX7_feels 200 = .ok (.iconst 5, 1) := by decide +kernel
theorem dX7_feels_201 : decode cX7_feels 201 = .ok (.aload_n 0, 1) := by decide +kernel
theorem dX7_feels_202 : decode cX7_feels 202 = .ok (.getfield 65, 3) := by decide +kernel
theorem dX7_feels_205 : decode cX7_feels 205 = .ok (.iconst 5, 1) := by decide +kernel
theorem dX7_feels_206 : decode cX7_feels 206 = .ok (.iaload, 1) := by decide +kernel
theorem dX7_feels_207 : decode cX7_feels 207 = .ok (.iconst 1, 1) := by decide +kernel
theorem dX7_feels_208 : decode cX7_feels 208 = .ok (.iadd, 1) := by decide +kernel
theorem dX7_feels_209 : decode cX7_feels 209 = .ok (.iastore, 1) := by decide +kernel
theorem dX7_feels_210 : decode cX7_feels 210 = .ok (.aload_n 0, 1) := by decide +kernel
theorem dX7_feels_211 : decode cX7_feels 211 = .ok (.getfield 65, 3) := by decide +kernel
theorem dX7_feels_214 : decode cX7_feels 214 = .ok (.bipush 10, 2) := by decide +kernel
theorem dX7_feels_216 : decode cX7_feels 216 = .ok (.aload_n 0, 1) := by decide +kernel
theorem dX7_feels_217 : decode cX7_feels 217 = .ok (.getfield 65, 3) := by decide +kernel
theorem dX7_feels_220 : decode cX7_feels 220 = .ok (.bipush 10, 2) := by decide +kernel
theorem dX7_feels_222 : decode cX7_feels 222 = .ok (.iaload, 1) := by decide +kernel
theorem dX7_feels_223 : decode cX7_feels 223 = .ok (.iload 11, 2) := by decide +kernel
theorem dX7_feels_225 : decode cX7_feels 225 = .ok (.ifCond .eq 15, 3) := by decide +kernel
theorem dX7_feels_228 : decode cX7_feels 228 = .ok (.aload 4, 2) := by decide +kernel
theorem dX7_feels_230 : decode cX7_feels 230 = .ok (.iload 10, 2) := by decide +kernel
theorem dX7_feels_232 : decode cX7_feels 232 = .ok (.iaload, 1) := by decide +kernel
theorem dX7_feels_233 : decode cX7_feels 233 = .ok (.ifCond .eq 7, 3) := by decide +kernel
theorem dX7_feels_236 : decode cX7_feels 236 = .ok (.iconst 1, 1) := by decide +kernel
theorem dX7_feels_237 : decode cX7_feels 237 = .ok (.goto 4, 3) := by decide +kernel
theorem dX7_feels_240 : decode cX7_feels 240 = .ok (.iconst 0, 1) := by decide +kernel
theorem dX7_feels_241 : decode cX7_feels 241 = .ok (.iadd, 1) := by decide +kernel
theorem dX7_feels_242 : decode cX7_feels 242 = .ok (.iastore, 1) := by decide +kernel
theorem dX7_feels_243 : decode cX7_feels 243 = .ok (.iinc 10 1, 3) := by decide +kernel
theorem dX7_feels_246 : decode cX7_feels 246 = .ok (.goto (-211), 3) := by decide +kernel
theorem dX7_feels_249 : decode cX7_feels 249 = .ok (.aload_n 0, 1) := by decide +kernel
theorem dX7_feels_250 : decode cX7_feels 250 = .ok (.getfield 65, 3) := by decide +kernel
theorem dX7_feels_253 : decode cX7_feels 253 = .ok (.bipush 6, 2) := by decide +kernel
theorem dX7_feels_255 : decode cX7_feels 255 = .ok (.iload 9, 2) := by decide +kernel
theorem dX7_feels_257 : decode cX7_feels 257 = .ok (.ifCond .ne 7, 3) := by decide +kernel
theorem dX7_feels_260 : decode cX7_feels 260 = .ok (.iconst 0, 1) := by decide +kernel
theorem dX7_feels_261 : decode cX7_feels 261 = .ok (.goto 17, 3) := by decide +kernel
theorem dX7_feels_264 : decode cX7_feels 264 = .ok (.aload_n 1, 1) := by decide +kernel
theorem dX7_feels_265 : decode cX7_feels 265 = .ok (.iload_n 2, 1) := by decide +kernel
theorem dX7_feels_266 : decode cX7_feels 266 = .ok (.bipush 24, 2) := by decide +kernel
theorem dX7_feels_268 : decode cX7_feels 268 = .ok (.iload 9, 2) := by decide +kernel
theorem dX7_feels_270 : decode cX7_feels 270 = .ok (.iconst 1, 1) := by decide +kernel
theorem dX7_feels_271 : decode cX7_feels 271 = .ok (.isub, 1) := by decide +kernel
theorem dX7_feels_272 : decode cX7_feels 272 = .ok (.imul, 1) := by decide +kernel
theorem dX7_feels_273 : decode cX7_feels 273 = .ok (.iadd, 1) := by decide +kernel
theorem dX7_feels_274 : decode cX7_feels 274 = .ok (.iload 8, 2) := by decide +kernel
theorem dX7_feels_276 : decode cX7_feels 276 = .ok (.iadd, 1) := by decide +kernel
theorem dX7_feels_277 : decode cX7_feels 277 = .ok (.iaload, 1) := by decide +kernel
theorem dX7_feels_278 : decode cX7_feels 278 = .ok (.iastore, 1) := by decide +kernel
theorem dX7_feels_279 : decode cX7_feels 279 = .ok (.aload_n 0, 1) := by decide +kernel
theorem dX7_feels_280 : decode cX7_feels 280 = .ok (.getfield 65, 3) := by decide +kernel
theorem dX7_feels_283 : decode cX7_feels 283 = .ok (.bipush 7, 2) := by decide +kernel
theorem dX7_feels_285 : decode cX7_feels 285 = .ok (.iload 9, 2) := by decide +kernel
theorem dX7_feels_287 : decode cX7_feels 287 = .ok (.iastore, 1) := by decide +kernel
theorem dX7_feels_288 : decode cX7_feels 288 = .ok (.aload_n 0, 1) := by decide +kernel
theorem dX7_feels_289 : decode cX7_feels 289 = .ok (.getfield 65, 3) := by decide +kernel
theorem dX7_feels_292 : decode cX7_feels 292 = .ok (.bipush 8, 2) := by decide +kernel
theorem dX7_feels_294 : decode cX7_feels 294 = .ok (.iload 8, 2) := by decide +kernel
theorem dX7_feels_296 : decode cX7_feels 296 = .ok (.iastore, 1) := by decide +kernel
theorem dX7_feels_297 : decode cX7_feels 297 = .ok (.aload_n 0, 1) := by decide +kernel
theorem dX7_feels_298 : decode cX7_feels 298 = .ok (.getfield 65, 3) := by decide +kernel
theorem dX7_feels_301 : decode cX7_feels 301 = .ok (.bipush 9, 2) := by decide +kernel
theorem dX7_feels_303 : decode cX7_feels 303 = .ok (.iload 8, 2) := by decide +kernel
theorem dX7_feels_305 : decode cX7_feels 305 = .ok (.iload 7, 2) := by decide +kernel
theorem dX7_feels_307 : decode cX7_feels 307 = .ok (.idiv, 1) := by decide +kernel
theorem dX7_feels_308 : decode cX7_feels 308 = .ok (.iastore, 1) := by decide +kernel
theorem dX7_feels_309 : decode cX7_feels 309 = .ok (.aload_n 0, 1) := by decide +kernel
theorem dX7_feels_310 : decode cX7_feels 310 = .ok (.getfield 65, 3) := by decide +kernel
theorem dX7_feels_313 : decode cX7_feels 313 = .ok (.bipush 11, 2) := by decide +kernel
theorem dX7_feels_315 : decode cX7_feels 315 = .ok (.aload 5, 2) := by decide +kernel
theorem dX7_feels_317 : decode cX7_feels 317 = .ok (.iload 8, 2) := by decide +kernel
theorem dX7_feels_319 : decode cX7_feels 319 = .ok (.iaload, 1) := by decide +kernel
theorem dX7_feels_320 : decode cX7_feels 320 = .ok (.iastore, 1) := by decide +kernel
theorem dX7_feels_321 : decode cX7_feels 321 = .ok (.return_, 1) := by decide +kernel
theorem dX7_byLaw_0 : decode cX7_byLaw 0 = .ok (.bipush 12, 2) := by decide +kernel
theorem dX7_byLaw_2 : decode cX7_byLaw 2 = .ok (.iload_n 1, 1) := by decide +kernel
theorem dX7_byLaw_3 : decode cX7_byLaw 3 = .ok (.imul, 1) := by decide +kernel
theorem dX7_byLaw_4 : decode cX7_byLaw 4 = .ok (.istore_n 2, 1) := by decide +kernel
theorem dX7_byLaw_5 : decode cX7_byLaw 5 = .ok (.iload_n 2, 1) := by decide +kernel
theorem dX7_byLaw_6 : decode cX7_byLaw 6 = .ok (.bipush 12, 2) := by decide +kernel
theorem dX7_byLaw_8 : decode cX7_byLaw 8 = .ok (.iload_n 1, 1) := by decide +kernel
theorem dX7_byLaw_9 : decode cX7_byLaw 9 = .ok (.imul, 1) := by decide +kernel
theorem dX7_byLaw_10 : decode cX7_byLaw 10 = .ok (.aload_n 0, 1) := by decide +kernel
theorem dX7_byLaw_11 : decode cX7_byLaw 11 = .ok (.getfield 50, 3) := by decide +kernel
theorem dX7_byLaw_14 : decode cX7_byLaw 14 = .ok (.iload_n 1, 1) := by decide +kernel
theorem dX7_byLaw_15 : decode cX7_byLaw 15 = .ok (.iaload, 1) := by decide +kernel
theorem dX7_byLaw_16 : decode cX7_byLaw 16 = .ok (.iadd, 1) := by decide +kernel
theorem dX7_byLaw_17 : decode cX7_byLaw 17 = .ok (.if_icmp .ge 34, 3) := by decide +kernel
theorem dX7_byLaw_20 : decode cX7_byLaw 20 = .ok (.aload_n 0, 1) := by decide +kernel
theorem dX7_byLaw_21 : decode cX7_byLaw 21 = .ok (.iload_n 2, 1) := by decide +kernel
theorem dX7_byLaw_22 : decode cX7_byLaw 22 = .ok (.invokevirtual 254, 3) := by decide +kernel
theorem dX7_byLaw_25 : decode cX7_byLaw 25 = .ok (.ifCond .eq 20, 3) := by decide +kernel
theorem dX7_byLaw_28 : decode cX7_byLaw 28 = .ok (.aload_n 0, 1) := by decide +kernel
theorem dX7_byLaw_29 : decode cX7_byLaw 29 = .ok (.getfield 53, 3) := by decide +kernel
theorem dX7_byLaw_32 : decode cX7_byLaw 32 = .ok (.iload_n 2, 1) := by decide +kernel
theorem dX7_byLaw_33 : decode cX7_byLaw 33 = .ok (.iaload, 1) := by decide +kernel
theorem dX7_byLaw_34 : decode cX7_byLaw 34 = .ok (.bipush 99, 2) := by decide +kernel
theorem dX7_byLaw_36 : decode cX7_byLaw 36 = .ok (.if_icmp .ne 7, 3) := by decide +kernel
theorem dX7_byLaw_39 : decode cX7_byLaw 39 = .ok (.iconst 1, 1) := by decide +kernel
theorem dX7_byLaw_40 : decode cX7_byLaw 40 = .ok (.goto 4, 3) := by decide +kernel
theorem dX7_byLaw_43 : decode cX7_byLaw 43 = .ok (.iconst 2, 1) := by decide +kernel
theorem dX7_byLaw_44 : decode cX7_byLaw 44 = .ok (.ireturn, 1) := by decide +kernel
theorem dX7_byLaw_45 : decode cX7_byLaw 45 = .ok (.iinc 2 1, 3) := by decide +kernel
theorem dX7_byLaw_48 : decode cX7_byLaw 48 = .ok (.goto (-43), 3) := by decide +kernel
theorem dX7_byLaw_51 : decode cX7_byLaw 51 = .ok (.iconst 0, 1) := by decide +kernel
theorem dX7_byLaw_52 : decode cX7_byLaw 52 = .ok (.ireturn, 1) := by decide +kernel
theorem dX7_goodFor_0 : decode cX7_goodFor 0 = .ok (.aload_n 0, 1) := by decide +kernel
theorem dX7_goodFor_1 : decode cX7_goodFor 1 = .ok (.getfield 13, 3) := by decide +kernel
theorem dX7_goodFor_4 : decode cX7_goodFor 4 = .ok (.iload_n 1, 1) := by decide +kernel
theorem dX7_goodFor_5 : decode cX7_goodFor 5 = .ok (.iaload, 1) := by decide +kernel
theorem dX7_goodFor_6 : decode cX7_goodFor 6 = .ok (.iconst 1, 1) := by decide +kernel
theorem dX7_goodFor_7 : decode cX7_goodFor 7 = .ok (.if_icmp .ne 12, 3) := by decide +kernel
theorem dX7_goodFor_10 : decode cX7_goodFor 10 = .ok (.aload_n 0, 1) := by decide +kernel
theorem dX7_goodFor_11 : decode cX7_goodFor 11 = .ok (.getfield 19, 3) := by decide +kernel
theorem dX7_goodFor_14 : decode cX7_goodFor 14 = .ok (.iload_n 2, 1) := by decide +kernel
theorem dX7_goodFor_15 : decode cX7_goodFor 15 = .ok (.iaload, 1) := by decide +kernel
theorem dX7_goodFor_16 : decode cX7_goodFor 16 = .ok (.goto 9, 3) := by decide +kernel
theorem dX7_goodFor_19 : decode cX7_goodFor 19 = .ok (.aload_n 0, 1) := by decide +kernel
theorem dX7_goodFor_20 : decode cX7_goodFor 20 = .ok (.getfield 22, 3) := by decide +kernel
theorem dX7_goodFor_23 : decode cX7_goodFor 23 = .ok (.iload_n 2, 1) := by decide +kernel
theorem dX7_goodFor_24 : decode cX7_goodFor 24 = .ok (.iaload, 1) := by decide +kernel
theorem dX7_goodFor_25 : decode cX7_goodFor 25 = .ok (.ireturn, 1) := by decide +kernel
theorem dX7_plays_0 : decode cX7_plays 0 = .ok (.iconst 0, 1) := by decide +kernel
theorem dX7_plays_1 : decode cX7_plays 1 = .ok (.istore_n 2, 1) := by decide +kernel
theorem dX7_plays_2 : decode cX7_plays 2 = .ok (.iconst 0, 1) := by decide +kernel
theorem dX7_plays_3 : decode cX7_plays 3 = .ok (.istore_n 3, 1) := by decide +kernel
theorem dX7_plays_4 : decode cX7_plays 4 = .ok (.iload_n 3, 1) := by decide +kernel
theorem dX7_plays_5 : decode cX7_plays 5 = .ok (.aload_n 0, 1) := by decide +kernel
theorem dX7_plays_6 : decode cX7_plays 6 = .ok (.getfield 120, 3) := by decide +kernel
theorem dX7_plays_9 : decode cX7_plays 9 = .ok (.if_icmp .ge 168, 3) := by decide +kernel
theorem dX7_plays_12 : decode cX7_plays 12 = .ok (.iconst 0, 1) := by decide +kernel
theorem dX7_plays_13 : decode cX7_plays 13 = .ok (.istore 4, 2) := by decide +kernel
theorem dX7_plays_15 : decode cX7_plays 15 = .ok (.iload 4, 2) := by decide +kernel
theorem dX7_plays_17 : decode cX7_plays 17 = .ok (.bipush 24, 2) := by decide +kernel
theorem dX7_plays_19 : decode cX7_plays 19 = .ok (.if_icmp .ge 135, 3) := by decide +kernel
theorem dX7_plays_22 : decode cX7_plays 22 = .ok (.iconst 0, 1) := by decide +kernel
theorem dX7_plays_23 : decode cX7_plays 23 = .ok (.istore 5, 2) := by decide +kernel
theorem dX7_plays_25 : decode cX7_plays 25 = .ok (.aload_n 0, 1) := by decide +kernel
theorem dX7_plays_26 : decode cX7_plays 26 = .ok (.iload 4, 2) := by decide +kernel
theorem dX7_plays_28 : decode cX7_plays 28 = .ok (.invokevirtual 129, 3) := by decide +kernel
theorem dX7_plays_31 : decode cX7_plays 31 = .ok (.ifCond .eq 103, 3) := by decide +kernel
theorem dX7_plays_34 : decode cX7_plays 34 = .ok (.iload_n 3, 1) := by decide +kernel
theorem dX7_plays_35 : decode cX7_plays 35 = .ok (.ifCond .ne 19, 3) := by decide +kernel
theorem dX7_plays_38 : decode cX7_plays 38 = .ok (.iload_n 1, 1) := by decide +kernel
theorem dX7_plays_39 : decode cX7_plays 39 = .ok (.iload 4, 2) := by decide +kernel
theorem dX7_plays_41 : decode cX7_plays 41 = .ok (.ishr, 1) := by decide +kernel
theorem dX7_plays_42 : decode cX7_plays 42 = .ok (.iconst 1, 1) := by decide +kernel
theorem dX7_plays_43 : decode cX7_plays 43 = .ok (.iand, 1) := by decide +kernel
theorem dX7_plays_44 : decode cX7_plays 44 = .ok (.iconst 1, 1) := by decide +kernel
theorem dX7_plays_45 : decode cX7_plays 45 = .ok (.if_icmp .ne 9, 3) := by decide +kernel
theorem dX7_plays_48 : decode cX7_plays 48 = .ok (.iconst 1, 1) := by decide +kernel
theorem dX7_plays_49 : decode cX7_plays 49 = .ok (.istore 5, 2) := by decide +kernel
theorem dX7_plays_51 : decode cX7_plays 51 = .ok (.goto 83, 3) := by decide +kernel
theorem dX7_plays_54 : decode cX7_plays 54 = .ok (.aload_n 0, 1) := by decide +kernel
theorem dX7_plays_55 : decode cX7_plays 55 = .ok (.getfield 71, 3) := by decide +kernel
theorem dX7_plays_58 : decode cX7_plays 58 = .ok (.iload 4, 2) := by decide +kernel
theorem dX7_plays_60 : decode cX7_plays 60 = .ok (.iaload, 1) := by decide +kernel
theorem dX7_plays_61 : decode cX7_plays 61 = .ok (.ifCond .eq 25, 3) := by decide +kernel
theorem dX7_plays_64 : decode cX7_plays 64 = .ok (.aload_n 0, 1) := by decide +kernel
theorem dX7_plays_65 : decode cX7_plays 65 = .ok (.getfield 25, 3) := by decide +kernel
theorem dX7_plays_68 : decode cX7_plays 68 = .ok (.bipush 40, 2) := by decide +kernel
theorem dX7_plays_70 : decode cX7_plays 70 = .ok (.aload_n 0, 1) := by decide +kernel
theorem dX7_plays_71 : decode cX7_plays 71 = .ok (.getfield 71, 3) := by decide +kernel
theorem dX7_plays_74 : decode cX7_plays 74 = .ok (.iload 4, 2) := by decide +kernel
theorem dX7_plays_76 : decode cX7_plays 76 = .ok (.iaload, 1) := by decide +kernel
theorem dX7_plays_77 : decode cX7_plays 77 = .ok (.imul, 1) := by decide +kernel
theorem dX7_plays_78 : decode cX7_plays 78 = .ok (.iload_n 3, 1) := by decide +kernel
theorem dX7_plays_79 : decode cX7_plays 79 = .ok (.iadd, 1) := by decide +kernel
theorem dX7_plays_80 : decode cX7_plays 80 = .ok (.iaload, 1) := by decide +kernel
theorem dX7_plays_81 : decode cX7_plays 81 = .ok (.istore 5, 2) := by decide +kernel
theorem dX7_plays_83 : decode cX7_plays 83 = .ok (.goto 51, 3) := by decide +kernel
theorem dX7_plays_86 : decode cX7_plays 86 = .ok (.aload_n 0, 1) := by decide +kernel
theorem dX7_plays_87 : decode cX7_plays 87 = .ok (.aload_n 0, 1) := by decide +kernel
theorem dX7_plays_88 : decode cX7_plays 88 = .ok (.getfield 68, 3) := by decide +kernel
theorem dX7_plays_91 : decode cX7_plays 91 = .ok (.iconst 0, 1) := by decide +kernel
theorem dX7_plays_92 : decode cX7_plays 92 = .ok (.aload_n 0, 1) := by decide +kernel
theorem dX7_plays_93 : decode cX7_plays 93 = .ok (.getfield 7, 3) := by decide +kernel
theorem dX7_plays_96 : decode cX7_plays 96 = .ok (.aload_n 0, 1) := by decide +kernel
theorem dX7_plays_97 : decode cX7_plays 97 = .ok (.getfield 71, 3) := by decide +kernel
theorem dX7_plays_100 : decode cX7_plays 100 = .ok (.aload_n 0, 1) := by decide +kernel
theorem dX7_plays_101 : decode cX7_plays 101 = .ok (.getfield 13, 3) := by decide +kernel
theorem dX7_plays_104 : decode cX7_plays 104 = .ok (.aload_n 0, 1) := by decide +kernel
theorem dX7_plays_105 : decode cX7_plays 105 = .ok (.iload 4, 2) := by decide +kernel
theorem dX7_plays_107 : decode cX7_plays 107 = .ok (.iload_n 3, 1) := by decide +kernel
theorem dX7_plays_108 : decode cX7_plays 108 = .ok (.invokevirtual 257, 3) := by decide +kernel
theorem dX7_plays_111 : decode cX7_plays 111 = .ok (.aload_n 0, 1) := by decide +kernel
theorem dX7_plays_112 : decode cX7_plays 112 = .ok (.getfield 116, 3) := by decide +kernel
theorem dX7_plays_115 : decode cX7_plays 115 = .ok (.iload 4, 2) := by decide +kernel
theorem dX7_plays_117 : decode cX7_plays 117 = .ok (.iload_n 3, 1) := by decide +kernel
theorem dX7_plays_118 : decode cX7_plays 118 = .ok (.invokevirtual 261, 3) := by decide +kernel
theorem dX7_plays_121 : decode cX7_plays 121 = .ok (.aload_n 0, 1) := by decide +kernel
theorem dX7_plays_122 : decode cX7_plays 122 = .ok (.aload_n 0, 1) := by decide +kernel
theorem dX7_plays_123 : decode cX7_plays 123 = .ok (.getfield 7, 3) := by decide +kernel
theorem dX7_plays_126 : decode cX7_plays 126 = .ok (.iload 4, 2) := by decide +kernel
theorem dX7_plays_128 : decode cX7_plays 128 = .ok (.iaload, 1) := by decide +kernel
theorem dX7_plays_129 : decode cX7_plays 129 = .ok (.invokevirtual 265, 3) := by decide +kernel
theorem dX7_plays_132 : decode cX7_plays 132 = .ok (.istore 5, 2) := by decide +kernel
theorem dX7_plays_134 : decode cX7_plays 134 = .ok (.aload_n 0, 1) := by decide +kernel
theorem dX7_plays_135 : decode cX7_plays 135 = .ok (.getfield 68, 3) := by decide +kernel
theorem dX7_plays_138 : decode cX7_plays 138 = .ok (.bipush 24, 2) := by decide +kernel
theorem dX7_plays_140 : decode cX7_plays 140 = .ok (.iload_n 3, 1) := by decide +kernel
theorem dX7_plays_141 : decode cX7_plays 141 = .ok (.imul, 1) := by decide +kernel
theorem dX7_plays_142 : decode cX7_plays 142 = .ok (.iload 4, 2) := by decide +kernel
theorem dX7_plays_144 : decode cX7_plays 144 = .ok (.iadd, 1) := by decide +kernel
theorem dX7_plays_145 : decode cX7_plays 145 = .ok (.iload 5, 2) := by decide +kernel
theorem dX7_plays_147 : decode cX7_plays 147 = .ok (.iastore, 1) := by decide +kernel
theorem dX7_plays_148 : decode cX7_plays 148 = .ok (.iinc 4 1, 3) := by decide +kernel
theorem dX7_plays_151 : decode cX7_plays 151 = .ok (.goto (-136), 3) := by decide +kernel
theorem dX7_plays_154 : decode cX7_plays 154 = .ok (.aload_n 0, 1) := by decide +kernel
theorem dX7_plays_155 : decode cX7_plays 155 = .ok (.iload_n 3, 1) := by decide +kernel
theorem dX7_plays_156 : decode cX7_plays 156 = .ok (.invokevirtual 268, 3) := by decide +kernel
theorem dX7_plays_159 : decode cX7_plays 159 = .ok (.iload_n 2, 1) := by decide +kernel
theorem dX7_plays_160 : decode cX7_plays 160 = .ok (.aload_n 0, 1) := by decide +kernel
theorem dX7_plays_161 : decode cX7_plays 161 = .ok (.getfield 271, 3) := by decide +kernel
theorem dX7_plays_164 : decode cX7_plays 164 = .ok (.iadd, 1) := by decide +kernel
theorem dX7_plays_165 : decode cX7_plays 165 = .ok (.aload_n 0, 1) := by decide +kernel
theorem dX7_plays_166 : decode cX7_plays 166 = .ok (.getfield 274, 3) := by decide +kernel
theorem dX7_plays_169 : decode cX7_plays 169 = .ok (.isub, 1) := by decide +kernel
theorem dX7_plays_170 : decode cX7_plays 170 = .ok (.istore_n 2, 1) := by decide +kernel
theorem dX7_plays_171 : decode cX7_plays 171 = .ok (.iinc 3 1, 3) := by decide +kernel
theorem dX7_plays_174 : decode cX7_plays 174 = .ok (.goto (-170), 3) := by decide +kernel
theorem dX7_plays_177 : decode cX7_plays 177 = .ok (.iload_n 2, 1) := by decide +kernel
theorem dX7_plays_178 : decode cX7_plays 178 = .ok (.ireturn, 1) := by decide +kernel
theorem dX7_counts_0 : decode cX7_counts 0 = .ok (.aload_n 0, 1) := by decide +kernel
theorem dX7_counts_1 : decode cX7_counts 1 = .ok (.iconst 0, 1) := by decide +kernel
theorem dX7_counts_2 : decode cX7_counts 2 = .ok (.putfield 271, 3) := by decide +kernel
theorem dX7_counts_5 : decode cX7_counts 5 = .ok (.aload_n 0, 1) := by decide +kernel
theorem dX7_counts_6 : decode cX7_counts 6 = .ok (.iconst 0, 1) := by decide +kernel
theorem dX7_counts_7 : decode cX7_counts 7 = .ok (.putfield 274, 3) := by decide +kernel
theorem dX7_counts_10 : decode cX7_counts 10 = .ok (.iconst 0, 1) := by decide +kernel
theorem dX7_counts_11 : decode cX7_counts 11 = .ok (.istore_n 2, 1) := by decide +kernel
theorem dX7_counts_12 : decode cX7_counts 12 = .ok (.iload_n 2, 1) := by decide +kernel
theorem dX7_counts_13 : decode cX7_counts 13 = .ok (.bipush 24, 2) := by decide +kernel
theorem dX7_counts_15 : decode cX7_counts 15 = .ok (.if_icmp .ge 67, 3) := by decide +kernel
theorem dX7_counts_18 : decode cX7_counts 18 = .ok (.aload_n 0, 1) := by decide +kernel
theorem dX7_counts_19 : decode cX7_counts 19 = .ok (.aload_n 0, 1) := by decide +kernel
theorem dX7_counts_20 : decode cX7_counts 20 = .ok (.getfield 271, 3) := by decide +kernel
theorem dX7_counts_23 : decode cX7_counts 23 = .ok (.aload_n 0, 1) := by decide +kernel
theorem dX7_counts_24 : decode cX7_counts 24 = .ok (.getfield 68, 3) := by decide +kernel
theorem dX7_counts_27 : decode cX7_counts 27 = .ok (.bipush 24, 2) := by decide +kernel
theorem dX7_counts_29 : decode cX7_counts 29 = .ok (.iload_n 1, 1) := by decide +kernel
theorem dX7_counts_30 : decode cX7_counts 30 = .ok (.imul, 1) := by decide +kernel
theorem dX7_counts_31 : decode cX7_counts 31 = .ok (.iload_n 2, 1) := by decide +kernel
theorem dX7_counts_32 : decode cX7_counts 32 = .ok (.iadd, 1) := by decide +kernel
theorem dX7_counts_33 : decode cX7_counts 33 = .ok (.iaload, 1) := by decide +kernel
theorem dX7_counts_34 : decode cX7_counts 34 = .ok (.iconst 1, 1) := by decide +kernel
theorem dX7_counts_35 : decode cX7_counts 35 = .ok (.if_icmp .ne 7, 3) := by decide +kernel
theorem dX7_counts_38 : decode cX7_counts 38 = .ok (.iconst 1, 1) := by decide +kernel
theorem dX7_counts_39 : decode cX7_counts 39 = .ok (.goto 4, 3) := by decide +kernel
theorem dX7_counts_42 : decode cX7_counts 42 = .ok (.iconst 0, 1) := by decide +kernel
theorem dX7_counts_43 : decode cX7_counts 43 = .ok (.iadd, 1) := by decide +kernel
theorem dX7_counts_44 : decode cX7_counts 44 = .ok (.putfield 271, 3) := by decide +kernel
theorem dX7_counts_47 : decode cX7_counts 47 = .ok (.aload_n 0, 1) := by decide +kernel
theorem dX7_counts_48 : decode cX7_counts 48 = .ok (.aload_n 0, 1) := by decide +kernel
theorem dX7_counts_49 : decode cX7_counts 49 = .ok (.getfield 274, 3) := by decide +kernel
theorem dX7_counts_52 : decode cX7_counts 52 = .ok (.aload_n 0, 1) := by decide +kernel
theorem dX7_counts_53 : decode cX7_counts 53 = .ok (.getfield 68, 3) := by decide +kernel
theorem dX7_counts_56 : decode cX7_counts 56 = .ok (.bipush 24, 2) := by decide +kernel
theorem dX7_counts_58 : decode cX7_counts 58 = .ok (.iload_n 1, 1) := by decide +kernel
theorem dX7_counts_59 : decode cX7_counts 59 = .ok (.imul, 1) := by decide +kernel
theorem dX7_counts_60 : decode cX7_counts 60 = .ok (.iload_n 2, 1) := by decide +kernel
theorem dX7_counts_61 : decode cX7_counts 61 = .ok (.iadd, 1) := by decide +kernel
theorem dX7_counts_62 : decode cX7_counts 62 = .ok (.iaload, 1) := by decide +kernel
theorem dX7_counts_63 : decode cX7_counts 63 = .ok (.iconst 2, 1) := by decide +kernel
theorem dX7_counts_64 : decode cX7_counts 64 = .ok (.if_icmp .ne 7, 3) := by decide +kernel
theorem dX7_counts_67 : decode cX7_counts 67 = .ok (.iconst 1, 1) := by decide +kernel
theorem dX7_counts_68 : decode cX7_counts 68 = .ok (.goto 4, 3) := by decide +kernel
theorem dX7_counts_71 : decode cX7_counts 71 = .ok (.iconst 0, 1) := by decide +kernel
theorem dX7_counts_72 : decode cX7_counts 72 = .ok (.iadd, 1) := by decide +kernel
theorem dX7_counts_73 : decode cX7_counts 73 = .ok (.putfield 274, 3) := by decide +kernel
theorem dX7_counts_76 : decode cX7_counts 76 = .ok (.iinc 2 1, 3) := by decide +kernel
theorem dX7_counts_79 : decode cX7_counts 79 = .ok (.goto (-67), 3) := by decide +kernel
theorem dX7_counts_82 : decode cX7_counts 82 = .ok (.return_, 1) := by decide +kernel
theorem dX7_playsAsTold_0 : decode cX7_playsAsTold 0 = .ok (.iconst 0, 1) := by decide +kernel
theorem dX7_playsAsTold_1 : decode cX7_playsAsTold 1 = .ok (.istore_n 1, 1) := by decide +kernel
theorem dX7_playsAsTold_2 : decode cX7_playsAsTold 2 = .ok (.iload_n 1, 1) := by decide +kernel
theorem dX7_playsAsTold_3 : decode cX7_playsAsTold 3 = .ok (.bipush 24, 2) := by decide +kernel
theorem dX7_playsAsTold_5 : decode cX7_playsAsTold 5 = .ok (.if_icmp .ge 21, 3) := by decide +kernel
theorem dX7_playsAsTold_8 : decode cX7_playsAsTold 8 = .ok (.aload_n 0, 1) := by decide +kernel
theorem dX7_playsAsTold_9 : decode cX7_playsAsTold 9 = .ok (.getfield 71, 3) := by decide +kernel
theorem dX7_playsAsTold_12 : decode cX7_playsAsTold 12 = .ok (.iload_n 1, 1) := by decide +kernel
theorem dX7_playsAsTold_13 : decode cX7_playsAsTold 13 = .ok (.aload_n 0, 1) := by decide +kernel
theorem dX7_playsAsTold_14 : decode cX7_playsAsTold 14 = .ok (.getfield 16, 3) := by decide +kernel
theorem dX7_playsAsTold_17 : decode cX7_playsAsTold 17 = .ok (.iload_n 1, 1) := by decide +kernel
theorem dX7_playsAsTold_18 : decode cX7_playsAsTold 18 = .ok (.iaload, 1) := by decide +kernel
theorem dX7_playsAsTold_19 : decode cX7_playsAsTold 19 = .ok (.iastore, 1) := by decide +kernel
theorem dX7_playsAsTold_20 : decode cX7_playsAsTold 20 = .ok (.iinc 1 1, 3) := by decide +kernel
theorem dX7_playsAsTold_23 : decode cX7_playsAsTold 23 = .ok (.goto (-21), 3) := by decide +kernel
theorem dX7_playsAsTold_26 : decode cX7_playsAsTold 26 = .ok (.aload_n 0, 1) := by decide +kernel
theorem dX7_playsAsTold_27 : decode cX7_playsAsTold 27 = .ok (.iconst 0, 1) := by decide +kernel
theorem dX7_playsAsTold_28 : decode cX7_playsAsTold 28 = .ok (.invokevirtual 277, 3) := by decide +kernel
theorem dX7_playsAsTold_31 : decode cX7_playsAsTold 31 = .ok (.ireturn, 1) := by decide +kernel
theorem dX7_playsWithout_0 : decode cX7_playsWithout 0 = .ok (.iconst 0, 1) := by decide +kernel
theorem dX7_playsWithout_1 : decode cX7_playsWithout 1 = .ok (.istore_n 2, 1) := by decide +kernel
theorem dX7_playsWithout_2 : decode cX7_playsWithout 2 = .ok (.iload_n 2, 1) := by decide +kernel
theorem dX7_playsWithout_3 : decode cX7_playsWithout 3 = .ok (.bipush 24, 2) := by decide +kernel
theorem dX7_playsWithout_5 : decode cX7_playsWithout 5 = .ok (.if_icmp .ge 35, 3) := by decide +kernel
theorem dX7_playsWithout_8 : decode cX7_playsWithout 8 = .ok (.aload_n 0, 1) := by decide +kernel
theorem dX7_playsWithout_9 : decode cX7_playsWithout 9 = .ok (.getfield 71, 3) := by decide +kernel
theorem dX7_playsWithout_12 : decode cX7_playsWithout 12 = .ok (.iload_n 2, 1) := by decide +kernel
theorem dX7_playsWithout_13 : decode cX7_playsWithout 13 = .ok (.aload_n 0, 1) := by decide +kernel
theorem dX7_playsWithout_14 : decode cX7_playsWithout 14 = .ok (.getfield 16, 3) := by decide +kernel
theorem dX7_playsWithout_17 : decode cX7_playsWithout 17 = .ok (.iload_n 2, 1) := by decide +kernel
theorem dX7_playsWithout_18 : decode cX7_playsWithout 18 = .ok (.iaload, 1) := by decide +kernel
theorem dX7_playsWithout_19 : decode cX7_playsWithout 19 = .ok (.iload_n 1, 1) := by decide +kernel
theorem dX7_playsWithout_20 : decode cX7_playsWithout 20 = .ok (.if_icmp .ne 7, 3) := by decide +kernel
theorem dX7_playsWithout_23 : decode cX7_playsWithout 23 = .ok (.iconst 0, 1) := by decide +kernel
theorem dX7_playsWithout_24 : decode cX7_playsWithout 24 = .ok (.goto 9, 3) := by decide +kernel
theorem dX7_playsWithout_27 : decode cX7_playsWithout 27 = .ok (.aload_n 0, 1) := by decide +kernel
theorem dX7_playsWithout_28 : decode cX7_playsWithout 28 = .ok (.getfield 16, 3) := by decide +kernel
theorem dX7_playsWithout_31 : decode cX7_playsWithout 31 = .ok (.iload_n 2, 1) := by decide +kernel
theorem dX7_playsWithout_32 : decode cX7_playsWithout 32 = .ok (.iaload, 1) := by decide +kernel
theorem dX7_playsWithout_33 : decode cX7_playsWithout 33 = .ok (.iastore, 1) := by decide +kernel
theorem dX7_playsWithout_34 : decode cX7_playsWithout 34 = .ok (.iinc 2 1, 3) := by decide +kernel
theorem dX7_playsWithout_37 : decode cX7_playsWithout 37 = .ok (.goto (-35), 3) := by decide +kernel
theorem dX7_playsWithout_40 : decode cX7_playsWithout 40 = .ok (.aload_n 0, 1) := by decide +kernel
theorem dX7_playsWithout_41 : decode cX7_playsWithout 41 = .ok (.iconst 0, 1) := by decide +kernel
theorem dX7_playsWithout_42 : decode cX7_playsWithout 42 = .ok (.invokevirtual 277, 3) := by decide +kernel
theorem dX7_playsWithout_45 : decode cX7_playsWithout 45 = .ok (.ireturn, 1) := by decide +kernel
theorem dX7_nobody_0 : decode cX7_nobody 0 = .ok (.iconst 0, 1) := by decide +kernel
theorem dX7_nobody_1 : decode cX7_nobody 1 = .ok (.istore_n 1, 1) := by decide +kernel
theorem dX7_nobody_2 : decode cX7_nobody 2 = .ok (.iload_n 1, 1) := by decide +kernel
theorem dX7_nobody_3 : decode cX7_nobody 3 = .ok (.bipush 24, 2) := by decide +kernel
theorem dX7_nobody_5 : decode cX7_nobody 5 = .ok (.if_icmp .ge 16, 3) := by decide +kernel
theorem dX7_nobody_8 : decode cX7_nobody 8 = .ok (.aload_n 0, 1) := by decide +kernel
theorem dX7_nobody_9 : decode cX7_nobody 9 = .ok (.getfield 71, 3) := by decide +kernel
theorem dX7_nobody_12 : decode cX7_nobody 12 = .ok (.iload_n 1, 1) := by decide +kernel
theorem dX7_nobody_13 : decode cX7_nobody 13 = .ok (.iconst 0, 1) := by decide +kernel
theorem dX7_nobody_14 : decode cX7_nobody 14 = .ok (.iastore, 1) := by decide +kernel
theorem dX7_nobody_15 : decode cX7_nobody 15 = .ok (.iinc 1 1, 3) := by decide +kernel
theorem dX7_nobody_18 : decode cX7_nobody 18 = .ok (.goto (-16), 3) := by decide +kernel
theorem dX7_nobody_21 : decode cX7_nobody 21 = .ok (.return_, 1) := by decide +kernel
theorem dX7_shows_0 : decode cX7_shows 0 = .ok (.iload_n 1, 1) := by decide +kernel
theorem dX7_shows_1 : decode cX7_shows 1 = .ok (.invokestatic 141, 3) := by decide +kernel
theorem dX7_shows_4 : decode cX7_shows 4 = .ok (.ifCond .eq 25, 3) := by decide +kernel
theorem dX7_shows_7 : decode cX7_shows 7 = .ok (.aload_n 0, 1) := by decide +kernel
theorem dX7_shows_8 : decode cX7_shows 8 = .ok (.iload_n 1, 1) := by decide +kernel
theorem dX7_shows_9 : decode cX7_shows 9 = .ok (.invokevirtual 129, 3) := by decide +kernel
theorem dX7_shows_12 : decode cX7_shows 12 = .ok (.ifCond .eq 17, 3) := by decide +kernel
theorem dX7_shows_15 : decode cX7_shows 15 = .ok (.iload_n 2, 1) := by decide +kernel
theorem dX7_shows_16 : decode cX7_shows 16 = .ok (.iconst 0, 1) := by decide +kernel
theorem dX7_shows_17 : decode cX7_shows 17 = .ok (.aload_n 0, 1) := by decide +kernel
theorem dX7_shows_18 : decode cX7_shows 18 = .ok (.getfield 120, 3) := by decide +kernel
theorem dX7_shows_21 : decode cX7_shows 21 = .ok (.iconst 1, 1) := by decide +kernel
theorem dX7_shows_22 : decode cX7_shows 22 = .ok (.isub, 1) := by decide +kernel
theorem dX7_shows_23 : decode cX7_shows 23 = .ok (.invokestatic 133, 3) := by decide +kernel
theorem dX7_shows_26 : decode cX7_shows 26 = .ok (.ifCond .ne 5, 3) := by decide +kernel
theorem dX7_shows_29 : decode cX7_shows 29 = .ok (.iconst (-1), 1) := by decide +kernel
theorem dX7_shows_30 : decode cX7_shows 30 = .ok (.ireturn, 1) := by decide +kernel
theorem dX7_shows_31 : decode cX7_shows 31 = .ok (.aload_n 0, 1) := by decide +kernel
theorem dX7_shows_32 : decode cX7_shows 32 = .ok (.invokevirtual 280, 3) := by decide +kernel
theorem dX7_shows_35 : decode cX7_shows 35 = .ok (.pop, 1) := by decide +kernel
theorem dX7_shows_36 : decode cX7_shows 36 = .ok (.aload_n 0, 1) := by decide +kernel
theorem dX7_shows_37 : decode cX7_shows 37 = .ok (.getfield 68, 3) := by decide +kernel
theorem dX7_shows_40 : decode cX7_shows 40 = .ok (.bipush 24, 2) := by decide +kernel
theorem dX7_shows_42 : decode cX7_shows 42 = .ok (.iload_n 2, 1) := by decide +kernel
theorem dX7_shows_43 : decode cX7_shows 43 = .ok (.imul, 1) := by decide +kernel
theorem dX7_shows_44 : decode cX7_shows 44 = .ok (.iload_n 1, 1) := by decide +kernel
theorem dX7_shows_45 : decode cX7_shows 45 = .ok (.iadd, 1) := by decide +kernel
theorem dX7_shows_46 : decode cX7_shows 46 = .ok (.iaload, 1) := by decide +kernel
theorem dX7_shows_47 : decode cX7_shows 47 = .ok (.ireturn, 1) := by decide +kernel
theorem dX7_loud_0 : decode cX7_loud 0 = .ok (.iload_n 1, 1) := by decide +kernel
theorem dX7_loud_1 : decode cX7_loud 1 = .ok (.iconst 0, 1) := by decide +kernel
theorem dX7_loud_2 : decode cX7_loud 2 = .ok (.aload_n 0, 1) := by decide +kernel
theorem dX7_loud_3 : decode cX7_loud 3 = .ok (.getfield 120, 3) := by decide +kernel
theorem dX7_loud_6 : decode cX7_loud 6 = .ok (.iconst 1, 1) := by decide +kernel
theorem dX7_loud_7 : decode cX7_loud 7 = .ok (.isub, 1) := by decide +kernel
theorem dX7_loud_8 : decode cX7_loud 8 = .ok (.invokestatic 133, 3) := by decide +kernel
theorem dX7_loud_11 : decode cX7_loud 11 = .ok (.ifCond .eq 12, 3) := by decide +kernel
theorem dX7_loud_14 : decode cX7_loud 14 = .ok (.iload_n 2, 1) := by decide +kernel
theorem dX7_loud_15 : decode cX7_loud 15 = .ok (.iconst 0, 1) := by decide +kernel
theorem dX7_loud_16 : decode cX7_loud 16 = .ok (.iconst 1, 1) := by decide +kernel
theorem dX7_loud_17 : decode cX7_loud 17 = .ok (.invokestatic 133, 3) := by decide +kernel
theorem dX7_loud_20 : decode cX7_loud 20 = .ok (.ifCond .ne 5, 3) := by decide +kernel
theorem dX7_loud_23 : decode cX7_loud 23 = .ok (.iconst (-1), 1) := by decide +kernel
theorem dX7_loud_24 : decode cX7_loud 24 = .ok (.ireturn, 1) := by decide +kernel
theorem dX7_loud_25 : decode cX7_loud 25 = .ok (.aload_n 0, 1) := by decide +kernel
theorem dX7_loud_26 : decode cX7_loud 26 = .ok (.invokevirtual 280, 3) := by decide +kernel
theorem dX7_loud_29 : decode cX7_loud 29 = .ok (.pop, 1) := by decide +kernel
theorem dX7_loud_30 : decode cX7_loud 30 = .ok (.aload_n 0, 1) := by decide +kernel
theorem dX7_loud_31 : decode cX7_loud 31 = .ok (.iload_n 1, 1) := by decide +kernel
theorem dX7_loud_32 : decode cX7_loud 32 = .ok (.invokevirtual 268, 3) := by decide +kernel
theorem dX7_loud_35 : decode cX7_loud 35 = .ok (.iload_n 2, 1) := by decide +kernel
theorem dX7_loud_36 : decode cX7_loud 36 = .ok (.ifCond .ne 10, 3) := by decide +kernel
theorem dX7_loud_39 : decode cX7_loud 39 = .ok (.aload_n 0, 1) := by decide +kernel
theorem dX7_loud_40 : decode cX7_loud 40 = .ok (.getfield 271, 3) := by decide +kernel
theorem dX7_loud_43 : decode cX7_loud 43 = .ok (.goto 7, 3) := by decide +kernel
theorem dX7_loud_46 : decode cX7_loud 46 = .ok (.aload_n 0, 1) := by decide +kernel
theorem dX7_loud_47 : decode cX7_loud 47 = .ok (.getfield 274, 3) := by decide +kernel
theorem dX7_loud_50 : decode cX7_loud 50 = .ok (.ireturn, 1) := by decide +kernel
theorem dX7_house_0 : decode cX7_house 0 = .ok (.aload_n 0, 1) := by decide +kernel
theorem dX7_house_1 : decode cX7_house 1 = .ok (.invokevirtual 280, 3) := by decide +kernel
theorem dX7_house_4 : decode cX7_house 4 = .ok (.ireturn, 1) := by decide +kernel
theorem dX7_costs_0 : decode cX7_costs 0 = .ok (.iload_n 1, 1) := by decide +kernel
theorem dX7_costs_1 : decode cX7_costs 1 = .ok (.invokestatic 147, 3) := by decide +kernel
theorem dX7_costs_4 : decode cX7_costs 4 = .ok (.ifCond .ne 5, 3) := by decide +kernel
theorem dX7_costs_7 : decode cX7_costs 7 = .ok (.iconst (-1), 1) := by decide +kernel
theorem dX7_costs_8 : decode cX7_costs 8 = .ok (.ireturn, 1) := by decide +kernel
theorem dX7_costs_9 : decode cX7_costs 9 = .ok (.iconst 0, 1) := by decide +kernel
theorem dX7_costs_10 : decode cX7_costs 10 = .ok (.istore_n 2, 1) := by decide +kernel
theorem dX7_costs_11 : decode cX7_costs 11 = .ok (.iconst 0, 1) := by decide +kernel
theorem dX7_costs_12 : decode cX7_costs 12 = .ok (.istore_n 3, 1) := by decide +kernel
theorem dX7_costs_13 : decode cX7_costs 13 = .ok (.iload_n 3, 1) := by decide +kernel
theorem dX7_costs_14 : decode cX7_costs 14 = .ok (.bipush 24, 2) := by decide +kernel
theorem dX7_costs_16 : decode cX7_costs 16 = .ok (.if_icmp .ge 27, 3) := by decide +kernel
theorem dX7_costs_19 : decode cX7_costs 19 = .ok (.iload_n 2, 1) := by decide +kernel
theorem dX7_costs_20 : decode cX7_costs 20 = .ok (.aload_n 0, 1) := by decide +kernel
theorem dX7_costs_21 : decode cX7_costs 21 = .ok (.getfield 16, 3) := by decide +kernel
theorem dX7_costs_24 : decode cX7_costs 24 = .ok (.iload_n 3, 1) := by decide +kernel
theorem dX7_costs_25 : decode cX7_costs 25 = .ok (.iaload, 1) := by decide +kernel
theorem dX7_costs_26 : decode cX7_costs 26 = .ok (.iload_n 1, 1) := by decide +kernel
theorem dX7_costs_27 : decode cX7_costs 27 = .ok (.if_icmp .ne 7, 3) := by decide +kernel
theorem dX7_costs_30 : decode cX7_costs 30 = .ok (.iconst 1, 1) := by decide +kernel
theorem dX7_costs_31 : decode cX7_costs 31 = .ok (.goto 4, 3) := by decide +kernel
theorem dX7_costs_34 : decode cX7_costs 34 = .ok (.iconst 0, 1) := by decide +kernel
theorem dX7_costs_35 : decode cX7_costs 35 = .ok (.iadd, 1) := by decide +kernel
theorem dX7_costs_36 : decode cX7_costs 36 = .ok (.istore_n 2, 1) := by decide +kernel
theorem dX7_costs_37 : decode cX7_costs 37 = .ok (.iinc 3 1, 3) := by decide +kernel
theorem dX7_costs_40 : decode cX7_costs 40 = .ok (.goto (-27), 3) := by decide +kernel
theorem dX7_costs_43 : decode cX7_costs 43 = .ok (.iconst 0, 1) := by decide +kernel
theorem dX7_costs_44 : decode cX7_costs 44 = .ok (.istore_n 3, 1) := by decide +kernel
theorem dX7_costs_45 : decode cX7_costs 45 = .ok (.iconst 0, 1) := by decide +kernel
theorem dX7_costs_46 : decode cX7_costs 46 = .ok (.istore 4, 2) := by decide +kernel
theorem dX7_costs_48 : decode cX7_costs 48 = .ok (.iload 4, 2) := by decide +kernel
theorem dX7_costs_50 : decode cX7_costs 50 = .ok (.aload_n 0, 1) := by decide +kernel
theorem dX7_costs_51 : decode cX7_costs 51 = .ok (.getfield 120, 3) := by decide +kernel
theorem dX7_costs_54 : decode cX7_costs 54 = .ok (.if_icmp .ge 59, 3) := by decide +kernel
theorem dX7_costs_57 : decode cX7_costs 57 = .ok (.iload_n 3, 1) := by decide +kernel
theorem dX7_costs_58 : decode cX7_costs 58 = .ok (.aload_n 0, 1) := by decide +kernel
theorem dX7_costs_59 : decode cX7_costs 59 = .ok (.getfield 25, 3) := by decide +kernel
theorem dX7_costs_62 : decode cX7_costs 62 = .ok (.bipush 40, 2) := by decide +kernel
theorem dX7_costs_64 : decode cX7_costs 64 = .ok (.iload_n 1, 1) := by decide +kernel
theorem dX7_costs_65 : decode cX7_costs 65 = .ok (.imul, 1) := by decide +kernel
theorem dX7_costs_66 : decode cX7_costs 66 = .ok (.iload 4, 2) := by decide +kernel
theorem dX7_costs_68 : decode cX7_costs 68 = .ok (.iadd, 1) := by decide +kernel
theorem dX7_costs_69 : decode cX7_costs 69 = .ok (.iaload, 1) := by decide +kernel
theorem dX7_costs_70 : decode cX7_costs 70 = .ok (.iconst 1, 1) := by decide +kernel
theorem dX7_costs_71 : decode cX7_costs 71 = .ok (.if_icmp .ne 10, 3) := by decide +kernel
theorem dX7_costs_74 : decode cX7_costs 74 = .ok (.aload_n 0, 1) := by decide +kernel
theorem dX7_costs_75 : decode cX7_costs 75 = .ok (.getfield 123, 3) := by decide +kernel
theorem dX7_costs_78 : decode cX7_costs 78 = .ok (.goto 27, 3) := by decide +kernel
theorem dX7_costs_81 : decode cX7_costs 81 = .ok (.aload_n 0, 1) := by decide +kernel
theorem dX7_costs_82 : decode cX7_costs 82 = .ok (.getfield 25, 3) := by decide +kernel
theorem dX7_costs_85 : decode cX7_costs 85 = .ok (.bipush 40, 2) := by decide +kernel
theorem dX7_costs_87 : decode cX7_costs 87 = .ok (.iload_n 1, 1) := by decide +kernel
theorem dX7_costs_88 : decode cX7_costs 88 = .ok (.imul, 1) := by decide +kernel
theorem dX7_costs_89 : decode cX7_costs 89 = .ok (.iload 4, 2) := by decide +kernel
theorem dX7_costs_91 : decode cX7_costs 91 = .ok (.iadd, 1) := by decide +kernel
theorem dX7_costs_92 : decode cX7_costs 92 = .ok (.iaload, 1) := by decide +kernel
theorem dX7_costs_93 : decode cX7_costs 93 = .ok (.iconst 2, 1) := by decide +kernel
theorem dX7_costs_94 : decode cX7_costs 94 = .ok (.if_icmp .ne 10, 3) := by decide +kernel
theorem dX7_costs_97 : decode cX7_costs 97 = .ok (.aload_n 0, 1) := by decide +kernel
theorem dX7_costs_98 : decode cX7_costs 98 = .ok (.getfield 126, 3) := by decide +kernel
theorem dX7_costs_101 : decode cX7_costs 101 = .ok (.goto 4, 3) := by decide +kernel
theorem dX7_costs_104 : decode cX7_costs 104 = .ok (.iconst 0, 1) := by decide +kernel
theorem dX7_costs_105 : decode cX7_costs 105 = .ok (.iadd, 1) := by decide +kernel
theorem dX7_costs_106 : decode cX7_costs 106 = .ok (.istore_n 3, 1) := by decide +kernel
theorem dX7_costs_107 : decode cX7_costs 107 = .ok (.iinc 4 1, 3) := by decide +kernel
theorem dX7_costs_110 : decode cX7_costs 110 = .ok (.goto (-62), 3) := by decide +kernel
theorem dX7_costs_113 : decode cX7_costs 113 = .ok (.iload_n 2, 1) := by decide +kernel
theorem dX7_costs_114 : decode cX7_costs 114 = .ok (.iload_n 3, 1) := by decide +kernel
theorem dX7_costs_115 : decode cX7_costs 115 = .ok (.imul, 1) := by decide +kernel
theorem dX7_costs_116 : decode cX7_costs 116 = .ok (.ireturn, 1) := by decide +kernel
theorem dX7_moreBy_0 : decode cX7_moreBy 0 = .ok (.aload_n 0, 1) := by decide +kernel
theorem dX7_moreBy_1 : decode cX7_moreBy 1 = .ok (.invokevirtual 280, 3) := by decide +kernel
theorem dX7_moreBy_4 : decode cX7_moreBy 4 = .ok (.istore_n 2, 1) := by decide +kernel
theorem dX7_moreBy_5 : decode cX7_moreBy 5 = .ok (.iload_n 2, 1) := by decide +kernel
theorem dX7_moreBy_6 : decode cX7_moreBy 6 = .ok (.aload_n 0, 1) := by decide +kernel
theorem dX7_moreBy_7 : decode cX7_moreBy 7 = .ok (.iload_n 1, 1) := by decide +kernel
theorem dX7_moreBy_8 : decode cX7_moreBy 8 = .ok (.invokevirtual 283, 3) := by decide +kernel
theorem dX7_moreBy_11 : decode cX7_moreBy 11 = .ok (.isub, 1) := by decide +kernel
theorem dX7_moreBy_12 : decode cX7_moreBy 12 = .ok (.ireturn, 1) := by decide +kernel
theorem dX7_more_0 : decode cX7_more 0 = .ok (.iload_n 1, 1) := by decide +kernel
theorem dX7_more_1 : decode cX7_more 1 = .ok (.invokestatic 147, 3) := by decide +kernel
theorem dX7_more_4 : decode cX7_more 4 = .ok (.ifCond .eq 11, 3) := by decide +kernel
theorem dX7_more_7 : decode cX7_more 7 = .ok (.aload_n 0, 1) := by decide +kernel
theorem dX7_more_8 : decode cX7_more 8 = .ok (.iload_n 1, 1) := by decide +kernel
theorem dX7_more_9 : decode cX7_more 9 = .ok (.invokevirtual 286, 3) := by decide +kernel
theorem dX7_more_12 : decode cX7_more 12 = .ok (.goto 6, 3) := by decide +kernel
theorem dX7_more_15 : decode cX7_more 15 = .ok (.ldc_w 289, 3) := by decide +kernel
theorem dX7_more_18 : decode cX7_more 18 = .ok (.ireturn, 1) := by decide +kernel
theorem dX7_wins_0 : decode cX7_wins 0 = .ok (.aload_n 0, 1) := by decide +kernel
theorem dX7_wins_1 : decode cX7_wins 1 = .ok (.invokevirtual 280, 3) := by decide +kernel
theorem dX7_wins_4 : decode cX7_wins 4 = .ok (.pop, 1) := by decide +kernel
theorem dX7_wins_5 : decode cX7_wins 5 = .ok (.aload_n 0, 1) := by decide +kernel
theorem dX7_wins_6 : decode cX7_wins 6 = .ok (.getfield 120, 3) := by decide +kernel
theorem dX7_wins_9 : decode cX7_wins 9 = .ok (.iconst 1, 1) := by decide +kernel
theorem dX7_wins_10 : decode cX7_wins 10 = .ok (.isub, 1) := by decide +kernel
theorem dX7_wins_11 : decode cX7_wins 11 = .ok (.istore_n 1, 1) := by decide +kernel
theorem dX7_wins_12 : decode cX7_wins 12 = .ok (.iconst 0, 1) := by decide +kernel
theorem dX7_wins_13 : decode cX7_wins 13 = .ok (.istore_n 2, 1) := by decide +kernel
theorem dX7_wins_14 : decode cX7_wins 14 = .ok (.iconst 0, 1) := by decide +kernel
theorem dX7_wins_15 : decode cX7_wins 15 = .ok (.istore_n 3, 1) := by decide +kernel
theorem dX7_wins_16 : decode cX7_wins 16 = .ok (.iconst 0, 1) := by decide +kernel
theorem dX7_wins_17 : decode cX7_wins 17 = .ok (.istore 4, 2) := by decide +kernel
theorem dX7_wins_19 : decode cX7_wins 19 = .ok (.iload 4, 2) := by decide +kernel
theorem dX7_wins_21 : decode cX7_wins 21 = .ok (.bipush 24, 2) := by decide +kernel
theorem dX7_wins_23 : decode cX7_wins 23 = .ok (.if_icmp .ge 110, 3) := by decide +kernel
theorem dX7_wins_26 : decode cX7_wins 26 = .ok (.aload_n 0, 1) := by decide +kernel
theorem dX7_wins_27 : decode cX7_wins 27 = .ok (.iload 4, 2) := by decide +kernel
theorem dX7_wins_29 : decode cX7_wins 29 = .ok (.invokevirtual 129, 3) := by decide +kernel
theorem dX7_wins_32 : decode cX7_wins 32 = .ok (.ifCond .eq 95, 3) := by decide +kernel
theorem dX7_wins_35 : decode cX7_wins 35 = .ok (.aload_n 0, 1) := by decide +kernel
theorem dX7_wins_36 : decode cX7_wins 36 = .ok (.getfield 16, 3) := by decide +kernel
theorem dX7_wins_39 : decode cX7_wins 39 = .ok (.iload 4, 2) := by decide +kernel
theorem dX7_wins_41 : decode cX7_wins 41 = .ok (.iaload, 1) := by decide +kernel
theorem dX7_wins_42 : decode cX7_wins 42 = .ok (.ifCond .ne 85, 3) := by decide +kernel
theorem dX7_wins_45 : decode cX7_wins 45 = .ok (.aload_n 0, 1) := by decide +kernel
theorem dX7_wins_46 : decode cX7_wins 46 = .ok (.getfield 68, 3) := by decide +kernel
theorem dX7_wins_49 : decode cX7_wins 49 = .ok (.bipush 24, 2) := by decide +kernel
theorem dX7_wins_51 : decode cX7_wins 51 = .ok (.iload_n 1, 1) := by decide +kernel
theorem dX7_wins_52 : decode cX7_wins 52 = .ok (.imul, 1) := by decide +kernel
theorem dX7_wins_53 : decode cX7_wins 53 = .ok (.iload 4, 2) := by decide +kernel
theorem dX7_wins_55 : decode cX7_wins 55 = .ok (.iadd, 1) := by decide +kernel
theorem dX7_wins_56 : decode cX7_wins 56 = .ok (.iaload, 1) := by decide +kernel
theorem dX7_wins_57 : decode cX7_wins 57 = .ok (.ifCond .ne 6, 3) := by decide +kernel
theorem dX7_wins_60 : decode cX7_wins 60 = .ok (.goto 67, 3) := by decide +kernel
theorem dX7_wins_63 : decode cX7_wins 63 = .ok (.iload_n 2, 1) := by decide +kernel
theorem dX7_wins_64 : decode cX7_wins 64 = .ok (.aload_n 0, 1) := by decide +kernel
theorem dX7_wins_65 : decode cX7_wins 65 = .ok (.getfield 68, 3) := by decide +kernel
theorem dX7_wins_68 : decode cX7_wins 68 = .ok (.bipush 24, 2) := by decide +kernel
theorem dX7_wins_70 : decode cX7_wins 70 = .ok (.iload_n 1, 1) := by decide +kernel
theorem dX7_wins_71 : decode cX7_wins 71 = .ok (.imul, 1) := by decide +kernel
theorem dX7_wins_72 : decode cX7_wins 72 = .ok (.iload 4, 2) := by decide +kernel
theorem dX7_wins_74 : decode cX7_wins 74 = .ok (.iadd, 1) := by decide +kernel
theorem dX7_wins_75 : decode cX7_wins 75 = .ok (.iaload, 1) := by decide +kernel
theorem dX7_wins_76 : decode cX7_wins 76 = .ok (.aload_n 0, 1) := by decide +kernel
theorem dX7_wins_77 : decode cX7_wins 77 = .ok (.getfield 25, 3) := by decide +kernel
theorem dX7_wins_80 : decode cX7_wins 80 = .ok (.bipush 40, 2) := by decide +kernel
theorem dX7_wins_82 : decode cX7_wins 82 = .ok (.iload_n 1, 1) := by decide +kernel
theorem dX7_wins_83 : decode cX7_wins 83 = .ok (.iadd, 1) := by decide +kernel
theorem dX7_wins_84 : decode cX7_wins 84 = .ok (.iaload, 1) := by decide +kernel
theorem dX7_wins_85 : decode cX7_wins 85 = .ok (.if_icmp .ne 7, 3) := by decide +kernel
theorem dX7_wins_88 : decode cX7_wins 88 = .ok (.iconst 1, 1) := by decide +kernel
theorem dX7_wins_89 : decode cX7_wins 89 = .ok (.goto 4, 3) := by decide +kernel
theorem dX7_wins_92 : decode cX7_wins 92 = .ok (.iconst 0, 1) := by decide +kernel
theorem dX7_wins_93 : decode cX7_wins 93 = .ok (.iadd, 1) := by decide +kernel
theorem dX7_wins_94 : decode cX7_wins 94 = .ok (.istore_n 2, 1) := by decide +kernel
theorem dX7_wins_95 : decode cX7_wins 95 = .ok (.iload_n 3, 1) := by decide +kernel
theorem dX7_wins_96 : decode cX7_wins 96 = .ok (.aload_n 0, 1) := by decide +kernel
theorem dX7_wins_97 : decode cX7_wins 97 = .ok (.getfield 68, 3) := by decide +kernel
theorem dX7_wins_100 : decode cX7_wins 100 = .ok (.bipush 24, 2) := by decide +kernel
theorem dX7_wins_102 : decode cX7_wins 102 = .ok (.iload_n 1, 1) := by decide +kernel
theorem dX7_wins_103 : decode cX7_wins 103 = .ok (.imul, 1) := by decide +kernel
theorem dX7_wins_104 : decode cX7_wins 104 = .ok (.iload 4, 2) := by decide +kernel
theorem dX7_wins_106 : decode cX7_wins 106 = .ok (.iadd, 1) := by decide +kernel
theorem dX7_wins_107 : decode cX7_wins 107 = .ok (.iaload, 1) := by decide +kernel
theorem dX7_wins_108 : decode cX7_wins 108 = .ok (.aload_n 0, 1) := by decide +kernel
theorem dX7_wins_109 : decode cX7_wins 109 = .ok (.getfield 25, 3) := by decide +kernel
theorem dX7_wins_112 : decode cX7_wins 112 = .ok (.bipush 80, 2) := by decide +kernel
theorem dX7_wins_114 : decode cX7_wins 114 = .ok (.iload_n 1, 1) := by decide +kernel
theorem dX7_wins_115 : decode cX7_wins 115 = .ok (.iadd, 1) := by decide +kernel
theorem dX7_wins_116 : decode cX7_wins 116 = .ok (.iaload, 1) := by decide +kernel
theorem dX7_wins_117 : decode cX7_wins 117 = .ok (.if_icmp .ne 7, 3) := by decide +kernel
theorem dX7_wins_120 : decode cX7_wins 120 = .ok (.iconst 1, 1) := by decide +kernel
theorem dX7_wins_121 : decode cX7_wins 121 = .ok (.goto 4, 3) := by decide +kernel
theorem dX7_wins_124 : decode cX7_wins 124 = .ok (.iconst 0, 1) := by decide +kernel
theorem dX7_wins_125 : decode cX7_wins 125 = .ok (.iadd, 1) := by decide +kernel
theorem dX7_wins_126 : decode cX7_wins 126 = .ok (.istore_n 3, 1) := by decide +kernel
theorem dX7_wins_127 : decode cX7_wins 127 = .ok (.iinc 4 1, 3) := by decide +kernel
theorem dX7_wins_130 : decode cX7_wins 130 = .ok (.goto (-111), 3) := by decide +kernel
theorem dX7_wins_133 : decode cX7_wins 133 = .ok (.iload_n 2, 1) := by decide +kernel
theorem dX7_wins_134 : decode cX7_wins 134 = .ok (.iload_n 3, 1) := by decide +kernel
theorem dX7_wins_135 : decode cX7_wins 135 = .ok (.if_icmp .le 7, 3) := by decide +kernel
theorem dX7_wins_138 : decode cX7_wins 138 = .ok (.iconst 1, 1) := by decide +kernel
theorem dX7_wins_139 : decode cX7_wins 139 = .ok (.goto 13, 3) := by decide +kernel
theorem dX7_wins_142 : decode cX7_wins 142 = .ok (.iload_n 3, 1) := by decide +kernel
theorem dX7_wins_143 : decode cX7_wins 143 = .ok (.iload_n 2, 1) := by decide +kernel
theorem dX7_wins_144 : decode cX7_wins 144 = .ok (.if_icmp .le 7, 3) := by decide +kernel
theorem dX7_wins_147 : decode cX7_wins 147 = .ok (.iconst 2, 1) := by decide +kernel
theorem dX7_wins_148 : decode cX7_wins 148 = .ok (.goto 4, 3) := by decide +kernel
theorem dX7_wins_151 : decode cX7_wins 151 = .ok (.iconst 0, 1) := by decide +kernel
theorem dX7_wins_152 : decode cX7_wins 152 = .ok (.ireturn, 1) := by decide +kernel
theorem dX7_bits_0 : decode cX7_bits 0 = .ok (.iconst 0, 1) := by decide +kernel
theorem dX7_bits_1 : decode cX7_bits 1 = .ok (.istore_n 1, 1) := by decide +kernel
theorem dX7_bits_2 : decode cX7_bits 2 = .ok (.iconst 0, 1) := by decide +kernel
theorem dX7_bits_3 : decode cX7_bits 3 = .ok (.istore_n 2, 1) := by decide +kernel
theorem dX7_bits_4 : decode cX7_bits 4 = .ok (.iload_n 2, 1) := by decide +kernel
theorem dX7_bits_5 : decode cX7_bits 5 = .ok (.bipush 24, 2) := by decide +kernel
theorem dX7_bits_7 : decode cX7_bits 7 = .ok (.if_icmp .ge 17, 3) := by decide +kernel
theorem dX7_bits_10 : decode cX7_bits 10 = .ok (.iload_n 1, 1) := by decide +kernel
theorem dX7_bits_11 : decode cX7_bits 11 = .ok (.iload_n 0, 1) := by decide +kernel
theorem dX7_bits_12 : decode cX7_bits 12 = .ok (.iload_n 2, 1) := by decide +kernel
theorem dX7_bits_13 : decode cX7_bits 13 = .ok (.ishr, 1) := by decide +kernel
theorem dX7_bits_14 : decode cX7_bits 14 = .ok (.iconst 1, 1) := by decide +kernel
theorem dX7_bits_15 : decode cX7_bits 15 = .ok (.iand, 1) := by decide +kernel
theorem dX7_bits_16 : decode cX7_bits 16 = .ok (.iadd, 1) := by decide +kernel
theorem dX7_bits_17 : decode cX7_bits 17 = .ok (.istore_n 1, 1) := by decide +kernel
theorem dX7_bits_18 : decode cX7_bits 18 = .ok (.iinc 2 1, 3) := by decide +kernel
theorem dX7_bits_21 : decode cX7_bits 21 = .ok (.goto (-17), 3) := by decide +kernel
theorem dX7_bits_24 : decode cX7_bits 24 = .ok (.iload_n 1, 1) := by decide +kernel
theorem dX7_bits_25 : decode cX7_bits 25 = .ok (.ireturn, 1) := by decide +kernel
theorem dX7_tries_0 : decode cX7_tries 0 = .ok (.iconst 0, 1) := by decide +kernel
theorem dX7_tries_1 : decode cX7_tries 1 = .ok (.istore 4, 2) := by decide +kernel
theorem dX7_tries_3 : decode cX7_tries 3 = .ok (.iload 4, 2) := by decide +kernel
theorem dX7_tries_5 : decode cX7_tries 5 = .ok (.bipush 24, 2) := by decide +kernel
theorem dX7_tries_7 : decode cX7_tries 7 = .ok (.if_icmp .ge 52, 3) := by decide +kernel
theorem dX7_tries_10 : decode cX7_tries 10 = .ok (.aload_n 0, 1) := by decide +kernel
theorem dX7_tries_11 : decode cX7_tries 11 = .ok (.getfield 71, 3) := by decide +kernel
theorem dX7_tries_14 : decode cX7_tries 14 = .ok (.iload 4, 2) := by decide +kernel
theorem dX7_tries_16 : decode cX7_tries 16 = .ok (.iload_n 2, 1) := by decide +kernel
theorem dX7_tries_17 : decode cX7_tries 17 = .ok (.iload 4, 2) := by decide +kernel
theorem dX7_tries_19 : decode cX7_tries 19 = .ok (.ishr, 1) := by decide +kernel
theorem dX7_tries_20 : decode cX7_tries 20 = .ok (.iconst 1, 1) := by decide +kernel
theorem dX7_tries_21 : decode cX7_tries 21 = .ok (.iand, 1) := by decide +kernel
theorem dX7_tries_22 : decode cX7_tries 22 = .ok (.iconst 1, 1) := by decide +kernel
theorem dX7_tries_23 : decode cX7_tries 23 = .ok (.if_icmp .ne 7, 3) := by decide +kernel
theorem dX7_tries_26 : decode cX7_tries 26 = .ok (.iload_n 1, 1) := by decide +kernel
theorem dX7_tries_27 : decode cX7_tries 27 = .ok (.goto 25, 3) := by decide +kernel
theorem dX7_tries_30 : decode cX7_tries 30 = .ok (.aload_n 0, 1) := by decide +kernel
theorem dX7_tries_31 : decode cX7_tries 31 = .ok (.getfield 16, 3) := by decide +kernel
theorem dX7_tries_34 : decode cX7_tries 34 = .ok (.iload 4, 2) := by decide +kernel
theorem dX7_tries_36 : decode cX7_tries 36 = .ok (.iaload, 1) := by decide +kernel
theorem dX7_tries_37 : decode cX7_tries 37 = .ok (.iload_n 1, 1) := by decide +kernel
theorem dX7_tries_38 : decode cX7_tries 38 = .ok (.if_icmp .ne 7, 3) := by decide +kernel
theorem dX7_tries_41 : decode cX7_tries 41 = .ok (.iconst 0, 1) := by decide +kernel
theorem dX7_tries_42 : decode cX7_tries 42 = .ok (.goto 10, 3) := by decide +kernel
theorem dX7_tries_45 : decode cX7_tries 45 = .ok (.aload_n 0, 1) := by decide +kernel
theorem dX7_tries_46 : decode cX7_tries 46 = .ok (.getfield 16, 3) := by decide +kernel
theorem dX7_tries_49 : decode cX7_tries 49 = .ok (.iload 4, 2) := by decide +kernel
theorem dX7_tries_51 : decode cX7_tries 51 = .ok (.iaload, 1) := by decide +kernel
theorem dX7_tries_52 : decode cX7_tries 52 = .ok (.iastore, 1) := by decide +kernel
theorem dX7_tries_53 : decode cX7_tries 53 = .ok (.iinc 4 1, 3) := by decide +kernel
theorem dX7_tries_56 : decode cX7_tries 56 = .ok (.goto (-53), 3) := by decide +kernel
theorem dX7_tries_59 : decode cX7_tries 59 = .ok (.aload_n 0, 1) := by decide +kernel
theorem dX7_tries_60 : decode cX7_tries 60 = .ok (.iconst 0, 1) := by decide +kernel
theorem dX7_tries_61 : decode cX7_tries 61 = .ok (.invokevirtual 277, 3) := by decide +kernel
theorem dX7_tries_64 : decode cX7_tries 64 = .ok (.istore 4, 2) := by decide +kernel
theorem dX7_tries_66 : decode cX7_tries 66 = .ok (.aload_n 0, 1) := by decide +kernel
theorem dX7_tries_67 : decode cX7_tries 67 = .ok (.getfield 290, 3) := by decide +kernel
theorem dX7_tries_70 : decode cX7_tries 70 = .ok (.ifCond .eq 45, 3) := by decide +kernel
theorem dX7_tries_73 : decode cX7_tries 73 = .ok (.iload_n 3, 1) := by decide +kernel
theorem dX7_tries_74 : decode cX7_tries 74 = .ok (.ifCond .eq 15, 3) := by decide +kernel
theorem dX7_tries_77 : decode cX7_tries 77 = .ok (.iload 4, 2) := by decide +kernel
theorem dX7_tries_79 : decode cX7_tries 79 = .ok (.aload_n 0, 1) := by decide +kernel
theorem dX7_tries_80 : decode cX7_tries 80 = .ok (.getfield 293, 3) := by decide +kernel
theorem dX7_tries_83 : decode cX7_tries 83 = .ok (.if_icmp .ge 15, 3) := by decide +kernel
theorem dX7_tries_86 : decode cX7_tries 86 = .ok (.goto 29, 3) := by decide +kernel
theorem dX7_tries_89 : decode cX7_tries 89 = .ok (.iload 4, 2) := by decide +kernel
theorem dX7_tries_91 : decode cX7_tries 91 = .ok (.aload_n 0, 1) := by decide +kernel
theorem dX7_tries_92 : decode cX7_tries 92 = .ok (.getfield 293, 3) := by decide +kernel
theorem dX7_tries_95 : decode cX7_tries 95 = .ok (.if_icmp .gt 20, 3) := by decide +kernel
theorem dX7_tries_98 : decode cX7_tries 98 = .ok (.iload 4, 2) := by decide +kernel
theorem dX7_tries_100 : decode cX7_tries 100 = .ok (.aload_n 0, 1) := by decide +kernel
theorem dX7_tries_101 : decode cX7_tries 101 = .ok (.getfield 293, 3) := by decide +kernel
theorem dX7_tries_104 : decode cX7_tries 104 = .ok (.if_icmp .ne 15, 3) := by decide +kernel
theorem dX7_tries_107 : decode cX7_tries 107 = .ok (.iload_n 2, 1) := by decide +kernel
theorem dX7_tries_108 : decode cX7_tries 108 = .ok (.aload_n 0, 1) := by decide +kernel
theorem dX7_tries_109 : decode cX7_tries 109 = .ok (.getfield 290, 3) := by decide +kernel
theorem dX7_tries_112 : decode cX7_tries 112 = .ok (.if_icmp .ge 7, 3) := by decide +kernel
theorem dX7_tries_115 : decode cX7_tries 115 = .ok (.iconst 1, 1) := by decide +kernel
theorem dX7_tries_116 : decode cX7_tries 116 = .ok (.goto 4, 3) := by decide +kernel
theorem dX7_tries_119 : decode cX7_tries 119 = .ok (.iconst 0, 1) := by decide +kernel
theorem dX7_tries_120 : decode cX7_tries 120 = .ok (.istore 5, 2) := by decide +kernel
theorem dX7_tries_122 : decode cX7_tries 122 = .ok (.iload 5, 2) := by decide +kernel
theorem dX7_tries_124 : decode cX7_tries 124 = .ok (.ifCond .ne 4, 3) := by decide +kernel
theorem dX7_tries_127 : decode cX7_tries 127 = .ok (.return_, 1) := by decide +kernel
theorem dX7_tries_128 : decode cX7_tries 128 = .ok (.aload_n 0, 1) := by decide +kernel
theorem dX7_tries_129 : decode cX7_tries 129 = .ok (.iload_n 2, 1) := by decide +kernel
theorem dX7_tries_130 : decode cX7_tries 130 = .ok (.putfield 290, 3) := by decide +kernel
theorem dX7_tries_133 : decode cX7_tries 133 = .ok (.aload_n 0, 1) := by decide +kernel
theorem dX7_tries_134 : decode cX7_tries 134 = .ok (.iload 4, 2) := by decide +kernel
theorem dX7_tries_136 : decode cX7_tries 136 = .ok (.putfield 293, 3) := by decide +kernel
theorem dX7_tries_139 : decode cX7_tries 139 = .ok (.return_, 1) := by decide +kernel
theorem dX7_mayBePaid_0 : decode cX7_mayBePaid 0 = .ok (.iconst 0, 1) := by decide +kernel
theorem dX7_mayBePaid_1 : decode cX7_mayBePaid 1 = .ok (.istore_n 2, 1) := by decide +kernel
theorem dX7_mayBePaid_2 : decode cX7_mayBePaid 2 = .ok (.iconst 0, 1) := by decide +kernel
theorem dX7_mayBePaid_3 : decode cX7_mayBePaid 3 = .ok (.istore_n 3, 1) := by decide +kernel
theorem dX7_mayBePaid_4 : decode cX7_mayBePaid 4 = .ok (.iload_n 3, 1) := by decide +kernel
theorem dX7_mayBePaid_5 : decode cX7_mayBePaid 5 = .ok (.bipush 24, 2) := by decide +kernel
theorem dX7_mayBePaid_7 : decode cX7_mayBePaid 7 = .ok (.if_icmp .ge 39, 3) := by decide +kernel
theorem dX7_mayBePaid_10 : decode cX7_mayBePaid 10 = .ok (.aload_n 0, 1) := by decide +kernel
theorem dX7_mayBePaid_11 : decode cX7_mayBePaid 11 = .ok (.iload_n 3, 1) := by decide +kernel
theorem dX7_mayBePaid_12 : decode cX7_mayBePaid 12 = .ok (.invokevirtual 129, 3) := by decide +kernel
theorem dX7_mayBePaid_15 : decode cX7_mayBePaid 15 = .ok (.ifCond .eq 23, 3) := by decide +kernel
theorem dX7_mayBePaid_18 : decode cX7_mayBePaid 18 = .ok (.aload_n 0, 1) := by decide +kernel
theorem dX7_mayBePaid_19 : decode cX7_mayBePaid 19 = .ok (.getfield 16, 3) := by decide +kernel
theorem dX7_mayBePaid_22 : decode cX7_mayBePaid 22 = .ok (.iload_n 3, 1) := by decide +kernel
theorem dX7_mayBePaid_23 : decode cX7_mayBePaid 23 = .ok (.iaload, 1) := by decide +kernel
theorem dX7_mayBePaid_24 : decode cX7_mayBePaid 24 = .ok (.iconst 3, 1) := by decide +kernel
theorem dX7_mayBePaid_25 : decode cX7_mayBePaid 25 = .ok (.iload_n 1, 1) := by decide +kernel
theorem dX7_mayBePaid_26 : decode cX7_mayBePaid 26 = .ok (.isub, 1) := by decide +kernel
theorem dX7_mayBePaid_27 : decode cX7_mayBePaid 27 = .ok (.if_icmp .eq 11, 3) := by decide +kernel
theorem dX7_mayBePaid_30 : decode cX7_mayBePaid 30 = .ok (.iload_n 2, 1) := by decide +kernel
theorem dX7_mayBePaid_31 : decode cX7_mayBePaid 31 = .ok (.iconst 1, 1) := by decide +kernel
theorem dX7_mayBePaid_32 : decode cX7_mayBePaid 32 = .ok (.iload_n 3, 1) := by decide +kernel
theorem dX7_mayBePaid_33 : decode cX7_mayBePaid 33 = .ok (.ishl, 1) := by decide +kernel
theorem dX7_mayBePaid_34 : decode cX7_mayBePaid 34 = .ok (.ior, 1) := by decide +kernel
theorem dX7_mayBePaid_35 : decode cX7_mayBePaid 35 = .ok (.goto 4, 3) := by decide +kernel
theorem dX7_mayBePaid_38 : decode cX7_mayBePaid 38 = .ok (.iload_n 2, 1) := by decide +kernel
theorem dX7_mayBePaid_39 : decode cX7_mayBePaid 39 = .ok (.istore_n 2, 1) := by decide +kernel
theorem dX7_mayBePaid_40 : decode cX7_mayBePaid 40 = .ok (.iinc 3 1, 3) := by decide +kernel
theorem dX7_mayBePaid_43 : decode cX7_mayBePaid 43 = .ok (.goto (-39), 3) := by decide +kernel
theorem dX7_mayBePaid_46 : decode cX7_mayBePaid 46 = .ok (.iload_n 2, 1) := by decide +kernel
theorem dX7_mayBePaid_47 : decode cX7_mayBePaid 47 = .ok (.ireturn, 1) := by decide +kernel
theorem dX7_seated_0 : decode cX7_seated 0 = .ok (.iload_n 3, 1) := by decide +kernel
theorem dX7_seated_1 : decode cX7_seated 1 = .ok (.iconst 1, 1) := by decide +kernel
theorem dX7_seated_2 : decode cX7_seated 2 = .ok (.if_icmp .ne 9, 3) := by decide +kernel
theorem dX7_seated_5 : decode cX7_seated 5 = .ok (.ldc_w 289, 3) := by decide +kernel
theorem dX7_seated_8 : decode cX7_seated 8 = .ok (.goto 4, 3) := by decide +kernel
theorem dX7_seated_11 : decode cX7_seated 11 = .ok (.iconst (-1), 1) := by decide +kernel
theorem dX7_seated_12 : decode cX7_seated 12 = .ok (.istore 4, 2) := by decide +kernel
theorem dX7_seated_14 : decode cX7_seated 14 = .ok (.iload_n 1, 1) := by decide +kernel
theorem dX7_seated_15 : decode cX7_seated 15 = .ok (.invokestatic 147, 3) := by decide +kernel
theorem dX7_seated_18 : decode cX7_seated 18 = .ok (.ifCond .eq 21, 3) := by decide +kernel
theorem dX7_seated_21 : decode cX7_seated 21 = .ok (.iload_n 2, 1) := by decide +kernel
theorem dX7_seated_22 : decode cX7_seated 22 = .ok (.iconst 1, 1) := by decide +kernel
theorem dX7_seated_23 : decode cX7_seated 23 = .ok (.iconst 3, 1) := by decide +kernel
theorem dX7_seated_24 : decode cX7_seated 24 = .ok (.invokestatic 133, 3) := by decide +kernel
theorem dX7_seated_27 : decode cX7_seated 27 = .ok (.ifCond .eq 12, 3) := by decide +kernel
theorem dX7_seated_30 : decode cX7_seated 30 = .ok (.iload_n 3, 1) := by decide +kernel
theorem dX7_seated_31 : decode cX7_seated 31 = .ok (.iconst 0, 1) := by decide +kernel
theorem dX7_seated_32 : decode cX7_seated 32 = .ok (.iconst 1, 1) := by decide +kernel
theorem dX7_seated_33 : decode cX7_seated 33 = .ok (.invokestatic 133, 3) := by decide +kernel
theorem dX7_seated_36 : decode cX7_seated 36 = .ok (.ifCond .ne 6, 3) := by decide +kernel
theorem dX7_seated_39 : decode cX7_seated 39 = .ok (.iload 4, 2) := by decide +kernel
theorem dX7_seated_41 : decode cX7_seated 41 = .ok (.ireturn, 1) := by decide +kernel
theorem dX7_seated_42 : decode cX7_seated 42 = .ok (.aload_n 0, 1) := by decide +kernel
theorem dX7_seated_43 : decode cX7_seated 43 = .ok (.iload_n 1, 1) := by decide +kernel
theorem dX7_seated_44 : decode cX7_seated 44 = .ok (.invokevirtual 296, 3) := by decide +kernel
theorem dX7_seated_47 : decode cX7_seated 47 = .ok (.istore 5, 2) := by decide +kernel
theorem dX7_seated_49 : decode cX7_seated 49 = .ok (.iload 5, 2) := by decide +kernel
theorem dX7_seated_51 : decode cX7_seated 51 = .ok (.invokestatic 299, 3) := by decide +kernel
theorem dX7_seated_54 : decode cX7_seated 54 = .ok (.iload_n 2, 1) := by decide +kernel
theorem dX7_seated_55 : decode cX7_seated 55 = .ok (.if_icmp .ge 6, 3) := by decide +kernel
theorem dX7_seated_58 : decode cX7_seated 58 = .ok (.iload 4, 2) := by decide +kernel
theorem dX7_seated_60 : decode cX7_seated 60 = .ok (.ireturn, 1) := by decide +kernel
theorem dX7_seated_61 : decode cX7_seated 61 = .ok (.iconst 0, 1) := by decide +kernel
theorem dX7_seated_62 : decode cX7_seated 62 = .ok (.istore 6, 2) := by decide +kernel
theorem dX7_seated_64 : decode cX7_seated 64 = .ok (.iconst 0, 1) := by decide +kernel
theorem dX7_seated_65 : decode cX7_seated 65 = .ok (.istore 7, 2) := by decide +kernel
theorem dX7_seated_67 : decode cX7_seated 67 = .ok (.iload 7, 2) := by decide +kernel
theorem dX7_seated_69 : decode cX7_seated 69 = .ok (.aload_n 0, 1) := by decide +kernel
theorem dX7_seated_70 : decode cX7_seated 70 = .ok (.getfield 120, 3) := by decide +kernel
theorem dX7_seated_73 : decode cX7_seated 73 = .ok (.if_icmp .ge 55, 3) := by decide +kernel
theorem dX7_seated_76 : decode cX7_seated 76 = .ok (.iload 6, 2) := by decide +kernel
theorem dX7_seated_78 : decode cX7_seated 78 = .ok (.aload_n 0, 1) := by decide +kernel
theorem dX7_seated_79 : decode cX7_seated 79 = .ok (.getfield 25, 3) := by decide +kernel
theorem dX7_seated_82 : decode cX7_seated 82 = .ok (.bipush 40, 2) := by decide +kernel
theorem dX7_seated_84 : decode cX7_seated 84 = .ok (.iload_n 1, 1) := by decide +kernel
theorem dX7_seated_85 : decode cX7_seated 85 = .ok (.imul, 1) := by decide +kernel
theorem dX7_seated_86 : decode cX7_seated 86 = .ok (.iload 7, 2) := by decide +kernel
theorem dX7_seated_88 : decode cX7_seated 88 = .ok (.iadd, 1) := by decide +kernel
theorem dX7_seated_89 : decode cX7_seated 89 = .ok (.iaload, 1) := by decide +kernel
theorem dX7_seated_90 : decode cX7_seated 90 = .ok (.iconst 2, 1) := by decide +kernel
theorem dX7_seated_91 : decode cX7_seated 91 = .ok (.if_icmp .ne 7, 3) := by decide +kernel
theorem dX7_seated_94 : decode cX7_seated 94 = .ok (.iconst 1, 1) := by decide +kernel
theorem dX7_seated_95 : decode cX7_seated 95 = .ok (.goto 24, 3) := by decide +kernel
theorem dX7_seated_98 : decode cX7_seated 98 = .ok (.aload_n 0, 1) := by decide +kernel
theorem dX7_seated_99 : decode cX7_seated 99 = .ok (.getfield 25, 3) := by decide +kernel
theorem dX7_seated_102 : decode cX7_seated 102 = .ok (.bipush 40, 2) := by decide +kernel
theorem dX7_seated_104 : decode cX7_seated 104 = .ok (.iload_n 1, 1) := by decide +kernel
theorem dX7_seated_105 : decode cX7_seated 105 = .ok (.imul, 1) := by decide +kernel
theorem dX7_seated_106 : decode cX7_seated 106 = .ok (.iload 7, 2) := by decide +kernel
theorem dX7_seated_108 : decode cX7_seated 108 = .ok (.iadd, 1) := by decide +kernel
theorem dX7_seated_109 : decode cX7_seated 109 = .ok (.iaload, 1) := by decide +kernel
theorem dX7_seated_110 : decode cX7_seated 110 = .ok (.iconst 1, 1) := by decide +kernel
theorem dX7_seated_111 : decode cX7_seated 111 = .ok (.if_icmp .ne 7, 3) := by decide +kernel
theorem dX7_seated_114 : decode cX7_seated 114 = .ok (.iconst (-1), 1) := by decide +kernel
theorem dX7_seated_115 : decode cX7_seated 115 = .ok (.goto 4, 3) := by decide +kernel
theorem dX7_seated_118 : decode cX7_seated 118 = .ok (.iconst 0, 1) := by decide +kernel
theorem dX7_seated_119 : decode cX7_seated 119 = .ok (.iadd, 1) := by decide +kernel
theorem dX7_seated_120 : decode cX7_seated 120 = .ok (.istore 6, 2) := by decide +kernel
theorem dX7_seated_122 : decode cX7_seated 122 = .ok (.iinc 7 1, 3) := by decide +kernel
theorem dX7_seated_125 : decode cX7_seated 125 = .ok (.goto (-58), 3) := by decide +kernel
theorem dX7_seated_128 : decode cX7_seated 128 = .ok (.aload_n 0, 1) := by decide +kernel
theorem dX7_seated_129 : decode cX7_seated 129 = .ok (.iconst 0, 1) := by decide +kernel
theorem dX7_seated_130 : decode cX7_seated 130 = .ok (.putfield 290, 3) := by decide +kernel
theorem dX7_seated_133 : decode cX7_seated 133 = .ok (.iconst 0, 1) := by decide +kernel
theorem dX7_seated_134 : decode cX7_seated 134 = .ok (.istore 7, 2) := by decide +kernel
theorem dX7_seated_136 : decode cX7_seated 136 = .ok (.iload 7, 2) := by decide +kernel
theorem dX7_seated_138 : decode cX7_seated 138 = .ok (.bipush 24, 2) := by decide +kernel
theorem dX7_seated_140 : decode cX7_seated 140 = .ok (.if_icmp .ge 134, 3) := by decide +kernel
theorem dX7_seated_143 : decode cX7_seated 143 = .ok (.iload_n 2, 1) := by decide +kernel
theorem dX7_seated_144 : decode cX7_seated 144 = .ok (.iconst 1, 1) := by decide +kernel
theorem dX7_seated_145 : decode cX7_seated 145 = .ok (.if_icmp .le 10, 3) := by decide +kernel
theorem dX7_seated_148 : decode cX7_seated 148 = .ok (.iload 7, 2) := by decide +kernel
theorem dX7_seated_150 : decode cX7_seated 150 = .ok (.iconst 1, 1) := by decide +kernel
theorem dX7_seated_151 : decode cX7_seated 151 = .ok (.iadd, 1) := by decide +kernel
theorem dX7_seated_152 : decode cX7_seated 152 = .ok (.goto 5, 3) := by decide +kernel
theorem dX7_seated_155 : decode cX7_seated 155 = .ok (.iload 7, 2) := by decide +kernel
theorem dX7_seated_157 : decode cX7_seated 157 = .ok (.istore 8, 2) := by decide +kernel
theorem dX7_seated_159 : decode cX7_seated 159 = .ok (.iload 8, 2) := by decide +kernel
theorem dX7_seated_161 : decode cX7_seated 161 = .ok (.iload_n 2, 1) := by decide +kernel
theorem dX7_seated_162 : decode cX7_seated 162 = .ok (.iconst 1, 1) := by decide +kernel
theorem dX7_seated_163 : decode cX7_seated 163 = .ok (.if_icmp .le 8, 3) := by decide +kernel
theorem dX7_seated_166 : decode cX7_seated 166 = .ok (.bipush 24, 2) := by decide +kernel
theorem dX7_seated_168 : decode cX7_seated 168 = .ok (.goto 7, 3) := by decide +kernel
theorem dX7_seated_171 : decode cX7_seated 171 = .ok (.iload 7, 2) := by decide +kernel
theorem dX7_seated_173 : decode cX7_seated 173 = .ok (.iconst 1, 1) := by decide +kernel
theorem dX7_seated_174 : decode cX7_seated 174 = .ok (.iadd, 1) := by decide +kernel
theorem dX7_seated_175 : decode cX7_seated 175 = .ok (.if_icmp .ge 93, 3) := by decide +kernel
theorem dX7_seated_178 : decode cX7_seated 178 = .ok (.iload_n 2, 1) := by decide +kernel
theorem dX7_seated_179 : decode cX7_seated 179 = .ok (.iconst 2, 1) := by decide +kernel
theorem dX7_seated_180 : decode cX7_seated 180 = .ok (.if_icmp .le 10, 3) := by decide +kernel
theorem dX7_seated_183 : decode cX7_seated 183 = .ok (.iload 8, 2) := by decide +kernel
theorem dX7_seated_185 : decode cX7_seated 185 = .ok (.iconst 1, 1) := by decide +kernel
theorem dX7_seated_186 : decode cX7_seated 186 = .ok (.iadd, 1) := by decide +kernel
theorem dX7_seated_187 : decode cX7_seated 187 = .ok (.goto 5, 3) := by decide +kernel
theorem dX7_seated_190 : decode cX7_seated 190 = .ok (.iload 8, 2) := by decide +kernel
theorem dX7_seated_192 : decode cX7_seated 192 = .ok (.istore 9, 2) := by decide +kernel
theorem dX7_seated_194 : decode cX7_seated 194 = .ok (.iload 9, 2) := by decide +kernel
theorem dX7_seated_196 : decode cX7_seated 196 = .ok (.iload_n 2, 1) := by decide +kernel
theorem dX7_seated_197 : decode cX7_seated 197 = .ok (.iconst 2, 1) := by decide +kernel
theorem dX7_seated_198 : decode cX7_seated 198 = .ok (.if_icmp .le 8, 3) := by decide +kernel
theorem dX7_seated_201 : decode cX7_seated 201 = .ok (.bipush 24, 2) := by decide +kernel
theorem dX7_seated_203 : decode cX7_seated 203 = .ok (.goto 7, 3) := by decide +kernel
theorem dX7_seated_206 : decode cX7_seated 206 = .ok (.iload 8, 2) := by decide +kernel
theorem dX7_seated_208 : decode cX7_seated 208 = .ok (.iconst 1, 1) := by decide +kernel
theorem dX7_seated_209 : decode cX7_seated 209 = .ok (.iadd, 1) := by decide +kernel
theorem dX7_seated_210 : decode cX7_seated 210 = .ok (.if_icmp .ge 52, 3) := by decide +kernel
theorem dX7_seated_213 : decode cX7_seated 213 = .ok (.iconst 1, 1) := by decide +kernel
theorem dX7_seated_214 : decode cX7_seated 214 = .ok (.iload 7, 2) := by decide +kernel
theorem dX7_seated_216 : decode cX7_seated 216 = .ok (.ishl, 1) := by decide +kernel
theorem dX7_seated_217 : decode cX7_seated 217 = .ok (.iconst 1, 1) := by decide +kernel
theorem dX7_seated_218 : decode cX7_seated 218 = .ok (.iload 8, 2) := by decide +kernel
theorem dX7_seated_220 : decode cX7_seated 220 = .ok (.ishl, 1) := by decide +kernel
theorem dX7_seated_221 : decode cX7_seated 221 = .ok (.ior, 1) := by decide +kernel
theorem dX7_seated_222 : decode cX7_seated 222 = .ok (.iconst 1, 1) := by decide +kernel
theorem dX7_seated_223 : decode cX7_seated 223 = .ok (.iload 9, 2) := by decide +kernel
theorem dX7_seated_225 : decode cX7_seated 225 = .ok (.ishl, 1) := by decide +kernel
theorem dX7_seated_226 : decode cX7_seated 226 = .ok (.ior, 1) := by decide +kernel
theorem dX7_seated_227 : decode cX7_seated 227 = .ok (.istore 10, 2) := by decide +kernel
theorem dX7_seated_229 : decode cX7_seated 229 = .ok (.iload 10, 2) := by decide +kernel
theorem dX7_seated_231 : decode cX7_seated 231 = .ok (.iload 5, 2) := by decide +kernel
theorem dX7_seated_233 : decode cX7_seated 233 = .ok (.iconst (-1), 1) := by decide +kernel
theorem dX7_seated_234 : decode cX7_seated 234 = .ok (.ixor, 1) := by decide +kernel
theorem dX7_seated_235 : decode cX7_seated 235 = .ok (.iand, 1) := by decide +kernel
theorem dX7_seated_236 : decode cX7_seated 236 = .ok (.ifCond .ne 20, 3) := by decide +kernel
theorem dX7_seated_239 : decode cX7_seated 239 = .ok (.aload_n 0, 1) := by decide +kernel
theorem dX7_seated_240 : decode cX7_seated 240 = .ok (.iload_n 1, 1) := by decide +kernel
theorem dX7_seated_241 : decode cX7_seated 241 = .ok (.iload 10, 2) := by decide +kernel
theorem dX7_seated_243 : decode cX7_seated 243 = .ok (.iload 6, 2) := by decide +kernel
theorem dX7_seated_245 : decode cX7_seated 245 = .ok (.ifCond .le 7, 3) := by decide +kernel
theorem dX7_seated_248 : decode cX7_seated 248 = .ok (.iconst 1, 1) := by decide +kernel
theorem dX7_seated_249 : decode cX7_seated 249 = .ok (.goto 4, 3) := by decide +kernel
theorem dX7_seated_252 : decode cX7_seated 252 = .ok (.iconst 0, 1) := by decide +kernel
theorem dX7_seated_253 : decode cX7_seated 253 = .ok (.invokevirtual 302, 3) := by decide +kernel
theorem dX7_seated_256 : decode cX7_seated 256 = .ok (.iinc 9 1, 3) := by decide +kernel
theorem dX7_seated_259 : decode cX7_seated 259 = .ok (.goto (-65), 3) := by decide +kernel
theorem dX7_seated_262 : decode cX7_seated 262 = .ok (.iinc 8 1, 3) := by decide +kernel
theorem dX7_seated_265 : decode cX7_seated 265 = .ok (.goto (-106), 3) := by decide +kernel
theorem dX7_seated_268 : decode cX7_seated 268 = .ok (.iinc 7 1, 3) := by decide +kernel
theorem dX7_seated_271 : decode cX7_seated 271 = .ok (.goto (-135), 3) := by decide +kernel
theorem dX7_seated_274 : decode cX7_seated 274 = .ok (.iload_n 3, 1) := by decide +kernel
theorem dX7_seated_275 : decode cX7_seated 275 = .ok (.ifCond .ne 10, 3) := by decide +kernel
theorem dX7_seated_278 : decode cX7_seated 278 = .ok (.aload_n 0, 1) := by decide +kernel
theorem dX7_seated_279 : decode cX7_seated 279 = .ok (.getfield 290, 3) := by decide +kernel
theorem dX7_seated_282 : decode cX7_seated 282 = .ok (.goto 7, 3) := by decide +kernel
theorem dX7_seated_285 : decode cX7_seated 285 = .ok (.aload_n 0, 1) := by decide +kernel
theorem dX7_seated_286 : decode cX7_seated 286 = .ok (.getfield 293, 3) := by decide +kernel
theorem dX7_seated_289 : decode cX7_seated 289 = .ok (.ireturn, 1) := by decide +kernel
theorem dX7_isBegun_0 : decode cX7_isBegun 0 = .ok (.aload_n 0, 1) := by decide +kernel
theorem dX7_isBegun_1 : decode cX7_isBegun 1 = .ok (.invokevirtual 306, 3) := by decide +kernel
theorem dX7_isBegun_4 : decode cX7_isBegun 4 = .ok (.aload_n 0, 1) := by decide +kernel
theorem dX7_isBegun_5 : decode cX7_isBegun 5 = .ok (.iload_n 1, 1) := by decide +kernel
theorem dX7_isBegun_6 : decode cX7_isBegun 6 = .ok (.invokevirtual 277, 3) := by decide +kernel
theorem dX7_isBegun_9 : decode cX7_isBegun 9 = .ok (.pop, 1) := by decide +kernel
theorem dX7_isBegun_10 : decode cX7_isBegun 10 = .ok (.iconst 0, 1) := by decide +kernel
theorem dX7_isBegun_11 : decode cX7_isBegun 11 = .ok (.istore_n 2, 1) := by decide +kernel
theorem dX7_isBegun_12 : decode cX7_isBegun 12 = .ok (.iload_n 2, 1) := by decide +kernel
theorem dX7_isBegun_13 : decode cX7_isBegun 13 = .ok (.bipush 24, 2) := by decide +kernel
theorem dX7_isBegun_15 : decode cX7_isBegun 15 = .ok (.if_icmp .ge 39, 3) := by decide +kernel
theorem dX7_isBegun_18 : decode cX7_isBegun 18 = .ok (.aload_n 0, 1) := by decide +kernel
theorem dX7_isBegun_19 : decode cX7_isBegun 19 = .ok (.iload_n 2, 1) := by decide +kernel
theorem dX7_isBegun_20 : decode cX7_isBegun 20 = .ok (.invokevirtual 129, 3) := by decide +kernel
theorem dX7_isBegun_23 : decode cX7_isBegun 23 = .ok (.ifCond .eq 25, 3) := by decide +kernel
theorem dX7_isBegun_26 : decode cX7_isBegun 26 = .ok (.aload_n 0, 1) := by decide +kernel
theorem dX7_isBegun_27 : decode cX7_isBegun 27 = .ok (.getfield 68, 3) := by decide +kernel
theorem dX7_isBegun_30 : decode cX7_isBegun 30 = .ok (.bipush 24, 2) := by decide +kernel
theorem dX7_isBegun_32 : decode cX7_isBegun 32 = .ok (.aload_n 0, 1) := by decide +kernel
theorem dX7_isBegun_33 : decode cX7_isBegun 33 = .ok (.getfield 120, 3) := by decide +kernel
theorem dX7_isBegun_36 : decode cX7_isBegun 36 = .ok (.iconst 1, 1) := by decide +kernel
theorem dX7_isBegun_37 : decode cX7_isBegun 37 = .ok (.isub, 1) := by decide +kernel
theorem dX7_isBegun_38 : decode cX7_isBegun 38 = .ok (.imul, 1) := by decide +kernel
theorem dX7_isBegun_39 : decode cX7_isBegun 39 = .ok (.iload_n 2, 1) := by decide +kernel
theorem dX7_isBegun_40 : decode cX7_isBegun 40 = .ok (.iadd, 1) := by decide +kernel
theorem dX7_isBegun_41 : decode cX7_isBegun 41 = .ok (.iaload, 1) := by decide +kernel
theorem dX7_isBegun_42 : decode cX7_isBegun 42 = .ok (.iconst 1, 1) := by decide +kernel
theorem dX7_isBegun_43 : decode cX7_isBegun 43 = .ok (.if_icmp .eq 5, 3) := by decide +kernel
theorem dX7_isBegun_46 : decode cX7_isBegun 46 = .ok (.iconst 0, 1) := by decide +kernel
theorem dX7_isBegun_47 : decode cX7_isBegun 47 = .ok (.ireturn, 1) := by decide +kernel
theorem dX7_isBegun_48 : decode cX7_isBegun 48 = .ok (.iinc 2 1, 3) := by decide +kernel
theorem dX7_isBegun_51 : decode cX7_isBegun 51 = .ok (.goto (-39), 3) := by decide +kernel
theorem dX7_isBegun_54 : decode cX7_isBegun 54 = .ok (.iconst 1, 1) := by decide +kernel
theorem dX7_isBegun_55 : decode cX7_isBegun 55 = .ok (.ireturn, 1) := by decide +kernel
theorem dX7_beginners_0 : decode cX7_beginners 0 = .ok (.iconst (-1), 1) := by decide +kernel
theorem dX7_beginners_1 : decode cX7_beginners 1 = .ok (.istore_n 2, 1) := by decide +kernel
theorem dX7_beginners_2 : decode cX7_beginners 2 = .ok (.iconst 0, 1) := by decide +kernel
theorem dX7_beginners_3 : decode cX7_beginners 3 = .ok (.istore_n 3, 1) := by decide +kernel
theorem dX7_beginners_4 : decode cX7_beginners 4 = .ok (.iload_n 3, 1) := by decide +kernel
theorem dX7_beginners_5 : decode cX7_beginners 5 = .ok (.bipush 24, 2) := by decide +kernel
theorem dX7_beginners_7 : decode cX7_beginners 7 = .ok (.if_icmp .ge 152, 3) := by decide +kernel
theorem dX7_beginners_10 : decode cX7_beginners 10 = .ok (.iload_n 1, 1) := by decide +kernel
theorem dX7_beginners_11 : decode cX7_beginners 11 = .ok (.iconst 1, 1) := by decide +kernel
theorem dX7_beginners_12 : decode cX7_beginners 12 = .ok (.if_icmp .le 9, 3) := by decide +kernel
theorem dX7_beginners_15 : decode cX7_beginners 15 = .ok (.iload_n 3, 1) := by decide +kernel
theorem dX7_beginners_16 : decode cX7_beginners 16 = .ok (.iconst 1, 1) := by decide +kernel
theorem dX7_beginners_17 : decode cX7_beginners 17 = .ok (.iadd, 1) := by decide +kernel
theorem dX7_beginners_18 : decode cX7_beginners 18 = .ok (.goto 4, 3) := by decide +kernel
theorem dX7_beginners_21 : decode cX7_beginners 21 = .ok (.iload_n 3, 1) := by decide +kernel
theorem dX7_beginners_22 : decode cX7_beginners 22 = .ok (.istore 4, 2) := by decide +kernel
theorem dX7_beginners_24 : decode cX7_beginners 24 = .ok (.iload 4, 2) := by decide +kernel
theorem dX7_beginners_26 : decode cX7_beginners 26 = .ok (.iload_n 1, 1) := by decide +kernel
theorem dX7_beginners_27 : decode cX7_beginners 27 = .ok (.iconst 1, 1) := by decide +kernel
theorem dX7_beginners_28 : decode cX7_beginners 28 = .ok (.if_icmp .le 8, 3) := by decide +kernel
theorem dX7_beginners_31 : decode cX7_beginners 31 = .ok (.bipush 24, 2) := by decide +kernel
theorem dX7_beginners_33 : decode cX7_beginners 33 = .ok (.goto 6, 3) := by decide +kernel
theorem dX7_beginners_36 : decode cX7_beginners 36 = .ok (.iload_n 3, 1) := by decide +kernel
theorem dX7_beginners_37 : decode cX7_beginners 37 = .ok (.iconst 1, 1) := by decide +kernel
theorem dX7_beginners_38 : decode cX7_beginners 38 = .ok (.iadd, 1) := by decide +kernel
theorem dX7_beginners_39 : decode cX7_beginners 39 = .ok (.if_icmp .ge 114, 3) := by decide +kernel
theorem dX7_beginners_42 : decode cX7_beginners 42 = .ok (.iload_n 1, 1) := by decide +kernel
theorem dX7_beginners_43 : decode cX7_beginners 43 = .ok (.iconst 2, 1) := by decide +kernel
theorem dX7_beginners_44 : decode cX7_beginners 44 = .ok (.if_icmp .le 10, 3) := by decide +kernel
theorem dX7_beginners_47 : decode cX7_beginners 47 = .ok (.iload 4, 2) := by decide +kernel
theorem dX7_beginners_49 : decode cX7_beginners 49 = .ok (.iconst 1, 1) := by decide +kernel
theorem dX7_beginners_50 : decode cX7_beginners 50 = .ok (.iadd, 1) := by decide +kernel
theorem dX7_beginners_51 : decode cX7_beginners 51 = .ok (.goto 5, 3) := by decide +kernel
theorem dX7_beginners_54 : decode cX7_beginners 54 = .ok (.iload 4, 2) := by decide +kernel
theorem dX7_beginners_56 : decode cX7_beginners 56 = .ok (.istore 5, 2) := by decide +kernel
theorem dX7_beginners_58 : decode cX7_beginners 58 = .ok (.iload 5, 2) := by decide +kernel
theorem dX7_beginners_60 : decode cX7_beginners 60 = .ok (.iload_n 1, 1) := by decide +kernel
theorem dX7_beginners_61 : decode cX7_beginners 61 = .ok (.iconst 2, 1) := by decide +kernel
theorem dX7_beginners_62 : decode cX7_beginners 62 = .ok (.if_icmp .le 8, 3) := by decide +kernel
theorem dX7_beginners_65 : decode cX7_beginners 65 = .ok (.bipush 24, 2) := by decide +kernel
theorem dX7_beginners_67 : decode cX7_beginners 67 = .ok (.goto 7, 3) := by decide +kernel
theorem dX7_beginners_70 : decode cX7_beginners 70 = .ok (.iload 4, 2) := by decide +kernel
theorem dX7_beginners_72 : decode cX7_beginners 72 = .ok (.iconst 1, 1) := by decide +kernel
theorem dX7_beginners_73 : decode cX7_beginners 73 = .ok (.iadd, 1) := by decide +kernel
theorem dX7_beginners_74 : decode cX7_beginners 74 = .ok (.if_icmp .ge 73, 3) := by decide +kernel
theorem dX7_beginners_77 : decode cX7_beginners 77 = .ok (.iconst 1, 1) := by decide +kernel
theorem dX7_beginners_78 : decode cX7_beginners 78 = .ok (.iload_n 3, 1) := by decide +kernel
theorem dX7_beginners_79 : decode cX7_beginners 79 = .ok (.ishl, 1) := by decide +kernel
theorem dX7_beginners_80 : decode cX7_beginners 80 = .ok (.iconst 1, 1) := by decide +kernel
theorem dX7_beginners_81 : decode cX7_beginners 81 = .ok (.iload 4, 2) := by decide +kernel
theorem dX7_beginners_83 : decode cX7_beginners 83 = .ok (.ishl, 1) := by decide +kernel
theorem dX7_beginners_84 : decode cX7_beginners 84 = .ok (.ior, 1) := by decide +kernel
theorem dX7_beginners_85 : decode cX7_beginners 85 = .ok (.iconst 1, 1) := by decide +kernel
theorem dX7_beginners_86 : decode cX7_beginners 86 = .ok (.iload 5, 2) := by decide +kernel
theorem dX7_beginners_88 : decode cX7_beginners 88 = .ok (.ishl, 1) := by decide +kernel
theorem dX7_beginners_89 : decode cX7_beginners 89 = .ok (.ior, 1) := by decide +kernel
theorem dX7_beginners_90 : decode cX7_beginners 90 = .ok (.istore 6, 2) := by decide +kernel
theorem dX7_beginners_92 : decode cX7_beginners 92 = .ok (.aload_n 0, 1) := by decide +kernel
theorem dX7_beginners_93 : decode cX7_beginners 93 = .ok (.iload_n 3, 1) := by decide +kernel
theorem dX7_beginners_94 : decode cX7_beginners 94 = .ok (.invokevirtual 129, 3) := by decide +kernel
theorem dX7_beginners_97 : decode cX7_beginners 97 = .ok (.ifCond .eq 44, 3) := by decide +kernel
theorem dX7_beginners_100 : decode cX7_beginners 100 = .ok (.aload_n 0, 1) := by decide +kernel
theorem dX7_beginners_101 : decode cX7_beginners 101 = .ok (.iload 4, 2) := by decide +kernel
theorem dX7_beginners_103 : decode cX7_beginners 103 = .ok (.invokevirtual 129, 3) := by decide +kernel
theorem dX7_beginners_106 : decode cX7_beginners 106 = .ok (.ifCond .eq 35, 3) := by decide +kernel
theorem dX7_beginners_109 : decode cX7_beginners 109 = .ok (.aload_n 0, 1) := by decide +kernel
theorem dX7_beginners_110 : decode cX7_beginners 110 = .ok (.iload 5, 2) := by decide +kernel
theorem dX7_beginners_112 : decode cX7_beginners 112 = .ok (.invokevirtual 129, 3) := by decide +kernel
theorem dX7_beginners_115 : decode cX7_beginners 115 = .ok (.ifCond .eq 26, 3) := by decide +kernel
theorem dX7_beginners_118 : decode cX7_beginners 118 = .ok (.iload_n 2, 1) := by decide +kernel
theorem dX7_beginners_119 : decode cX7_beginners 119 = .ok (.iconst (-1), 1) := by decide +kernel
theorem dX7_beginners_120 : decode cX7_beginners 120 = .ok (.if_icmp .eq 9, 3) := by decide +kernel
theorem dX7_beginners_123 : decode cX7_beginners 123 = .ok (.iload 6, 2) := by decide +kernel
theorem dX7_beginners_125 : decode cX7_beginners 125 = .ok (.iload_n 2, 1) := by decide +kernel
theorem dX7_beginners_126 : decode cX7_beginners 126 = .ok (.if_icmp .ge 15, 3) := by decide +kernel
theorem dX7_beginners_129 : decode cX7_beginners 129 = .ok (.aload_n 0, 1) := by decide +kernel
theorem dX7_beginners_130 : decode cX7_beginners 130 = .ok (.iload 6, 2) := by decide +kernel
theorem dX7_beginners_132 : decode cX7_beginners 132 = .ok (.invokevirtual 309, 3) := by decide +kernel
theorem dX7_beginners_135 : decode cX7_beginners 135 = .ok (.ifCond .eq 6, 3) := by decide +kernel
theorem dX7_beginners_138 : decode cX7_beginners 138 = .ok (.iload 6, 2) := by decide +kernel
theorem dX7_beginners_140 : decode cX7_beginners 140 = .ok (.istore_n 2, 1) := by decide +kernel
theorem dX7_beginners_141 : decode cX7_beginners 141 = .ok (.iinc 5 1, 3) := by decide +kernel
theorem dX7_beginners_144 : decode cX7_beginners 144 = .ok (.goto (-86), 3) := by decide +kernel
theorem dX7_beginners_147 : decode cX7_beginners 147 = .ok (.iinc 4 1, 3) := by decide +kernel
theorem dX7_beginners_150 : decode cX7_beginners 150 = .ok (.goto (-126), 3) := by decide +kernel
theorem dX7_beginners_153 : decode cX7_beginners 153 = .ok (.iinc 3 1, 3) := by decide +kernel
theorem dX7_beginners_156 : decode cX7_beginners 156 = .ok (.goto (-152), 3) := by decide +kernel
theorem dX7_beginners_159 : decode cX7_beginners 159 = .ok (.iload_n 2, 1) := by decide +kernel
theorem dX7_beginners_160 : decode cX7_beginners 160 = .ok (.ireturn, 1) := by decide +kernel
theorem dX7_begins_0 : decode cX7_begins 0 = .ok (.aload_n 0, 1) := by decide +kernel
theorem dX7_begins_1 : decode cX7_begins 1 = .ok (.invokevirtual 137, 3) := by decide +kernel
theorem dX7_begins_4 : decode cX7_begins 4 = .ok (.ifCond .ne 5, 3) := by decide +kernel
theorem dX7_begins_7 : decode cX7_begins 7 = .ok (.iconst (-1), 1) := by decide +kernel
theorem dX7_begins_8 : decode cX7_begins 8 = .ok (.ireturn, 1) := by decide +kernel
theorem dX7_begins_9 : decode cX7_begins 9 = .ok (.aload_n 0, 1) := by decide +kernel
theorem dX7_begins_10 : decode cX7_begins 10 = .ok (.iconst 0, 1) := by decide +kernel
theorem dX7_begins_11 : decode cX7_begins 11 = .ok (.invokevirtual 309, 3) := by decide +kernel
theorem dX7_begins_14 : decode cX7_begins 14 = .ok (.ifCond .eq 5, 3) := by decide +kernel
theorem dX7_begins_17 : decode cX7_begins 17 = .ok (.iconst 0, 1) := by decide +kernel
theorem dX7_begins_18 : decode cX7_begins 18 = .ok (.ireturn, 1) := by decide +kernel
theorem dX7_begins_19 : decode cX7_begins 19 = .ok (.iconst 1, 1) := by decide +kernel
theorem dX7_begins_20 : decode cX7_begins 20 = .ok (.istore_n 1, 1) := by decide +kernel
theorem dX7_begins_21 : decode cX7_begins 21 = .ok (.iload_n 1, 1) := by decide +kernel
theorem dX7_begins_22 : decode cX7_begins 22 = .ok (.iconst 3, 1) := by decide +kernel
theorem dX7_begins_23 : decode cX7_begins 23 = .ok (.if_icmp .gt 22, 3) := by decide +kernel
theorem dX7_begins_26 : decode cX7_begins 26 = .ok (.aload_n 0, 1) := by decide +kernel
theorem dX7_begins_27 : decode cX7_begins 27 = .ok (.iload_n 1, 1) := by decide +kernel
theorem dX7_begins_28 : decode cX7_begins 28 = .ok (.invokevirtual 312, 3) := by decide +kernel
theorem dX7_begins_31 : decode cX7_begins 31 = .ok (.istore_n 2, 1) := by decide +kernel
theorem dX7_begins_32 : decode cX7_begins 32 = .ok (.iload_n 2, 1) := by decide +kernel
theorem dX7_begins_33 : decode cX7_begins 33 = .ok (.iconst (-1), 1) := by decide +kernel
theorem dX7_begins_34 : decode cX7_begins 34 = .ok (.if_icmp .eq 5, 3) := by decide +kernel
theorem dX7_begins_37 : decode cX7_begins 37 = .ok (.iload_n 2, 1) := by decide +kernel
theorem dX7_begins_38 : decode cX7_begins 38 = .ok (.ireturn, 1) := by decide +kernel
theorem dX7_begins_39 : decode cX7_begins 39 = .ok (.iinc 1 1, 3) := by decide +kernel
theorem dX7_begins_42 : decode cX7_begins 42 = .ok (.goto (-21), 3) := by decide +kernel
theorem dX7_begins_45 : decode cX7_begins 45 = .ok (.bipush (-2), 2) := by decide +kernel
theorem dX7_begins_47 : decode cX7_begins 47 = .ok (.ireturn, 1) := by decide +kernel
theorem dX7_silent_0 : decode cX7_silent 0 = .ok (.iload_n 1, 1) := by decide +kernel
theorem dX7_silent_1 : decode cX7_silent 1 = .ok (.iconst 0, 1) := by decide +kernel
theorem dX7_silent_2 : decode cX7_silent 2 = .ok (.iconst 2, 1) := by decide +kernel
theorem dX7_silent_3 : decode cX7_silent 3 = .ok (.invokestatic 133, 3) := by decide +kernel
theorem dX7_silent_6 : decode cX7_silent 6 = .ok (.ifCond .ne 7, 3) := by decide +kernel
theorem dX7_silent_9 : decode cX7_silent 9 = .ok (.ldc_w 289, 3) := by decide +kernel
theorem dX7_silent_12 : decode cX7_silent 12 = .ok (.ireturn, 1) := by decide +kernel
theorem dX7_silent_13 : decode cX7_silent 13 = .ok (.aload_n 0, 1) := by decide +kernel
theorem dX7_silent_14 : decode cX7_silent 14 = .ok (.invokevirtual 306, 3) := by decide +kernel
theorem dX7_silent_17 : decode cX7_silent 17 = .ok (.aload_n 0, 1) := by decide +kernel
theorem dX7_silent_18 : decode cX7_silent 18 = .ok (.iconst 0, 1) := by decide +kernel
theorem dX7_silent_19 : decode cX7_silent 19 = .ok (.invokevirtual 277, 3) := by decide +kernel
theorem dX7_silent_22 : decode cX7_silent 22 = .ok (.istore_n 2, 1) := by decide +kernel
theorem dX7_silent_23 : decode cX7_silent 23 = .ok (.iload_n 1, 1) := by decide +kernel
theorem dX7_silent_24 : decode cX7_silent 24 = .ok (.ifCond .ne 5, 3) := by decide +kernel
theorem dX7_silent_27 : decode cX7_silent 27 = .ok (.iload_n 2, 1) := by decide +kernel
theorem dX7_silent_28 : decode cX7_silent 28 = .ok (.ireturn, 1) := by decide +kernel
theorem dX7_silent_29 : decode cX7_silent 29 = .ok (.iconst 0, 1) := by decide +kernel
theorem dX7_silent_30 : decode cX7_silent 30 = .ok (.istore_n 3, 1) := by decide +kernel
theorem dX7_silent_31 : decode cX7_silent 31 = .ok (.iconst 0, 1) := by decide +kernel
theorem dX7_silent_32 : decode cX7_silent 32 = .ok (.istore 4, 2) := by decide +kernel
theorem dX7_silent_34 : decode cX7_silent 34 = .ok (.iload 4, 2) := by decide +kernel
theorem dX7_silent_36 : decode cX7_silent 36 = .ok (.bipush 24, 2) := by decide +kernel
theorem dX7_silent_38 : decode cX7_silent 38 = .ok (.if_icmp .ge 87, 3) := by decide +kernel
theorem dX7_silent_41 : decode cX7_silent 41 = .ok (.iconst 0, 1) := by decide +kernel
theorem dX7_silent_42 : decode cX7_silent 42 = .ok (.istore 5, 2) := by decide +kernel
theorem dX7_silent_44 : decode cX7_silent 44 = .ok (.iconst 0, 1) := by decide +kernel
theorem dX7_silent_45 : decode cX7_silent 45 = .ok (.istore 6, 2) := by decide +kernel
theorem dX7_silent_47 : decode cX7_silent 47 = .ok (.iload 6, 2) := by decide +kernel
theorem dX7_silent_49 : decode cX7_silent 49 = .ok (.aload_n 0, 1) := by decide +kernel
theorem dX7_silent_50 : decode cX7_silent 50 = .ok (.getfield 120, 3) := by decide +kernel
theorem dX7_silent_53 : decode cX7_silent 53 = .ok (.if_icmp .ge 37, 3) := by decide +kernel
theorem dX7_silent_56 : decode cX7_silent 56 = .ok (.iload 5, 2) := by decide +kernel
theorem dX7_silent_58 : decode cX7_silent 58 = .ok (.ifCond .ne 19, 3) := by decide +kernel
theorem dX7_silent_61 : decode cX7_silent 61 = .ok (.aload_n 0, 1) := by decide +kernel
theorem dX7_silent_62 : decode cX7_silent 62 = .ok (.getfield 68, 3) := by decide +kernel
theorem dX7_silent_65 : decode cX7_silent 65 = .ok (.bipush 24, 2) := by decide +kernel
theorem dX7_silent_67 : decode cX7_silent 67 = .ok (.iload 6, 2) := by decide +kernel
theorem dX7_silent_69 : decode cX7_silent 69 = .ok (.imul, 1) := by decide +kernel
theorem dX7_silent_70 : decode cX7_silent 70 = .ok (.iload 4, 2) := by decide +kernel
theorem dX7_silent_72 : decode cX7_silent 72 = .ok (.iadd, 1) := by decide +kernel
theorem dX7_silent_73 : decode cX7_silent 73 = .ok (.iaload, 1) := by decide +kernel
theorem dX7_silent_74 : decode cX7_silent 74 = .ok (.ifCond .eq 7, 3) := by decide +kernel
theorem dX7_silent_77 : decode cX7_silent 77 = .ok (.iconst 1, 1) := by decide +kernel
theorem dX7_silent_78 : decode cX7_silent 78 = .ok (.goto 4, 3) := by decide +kernel
theorem dX7_silent_81 : decode cX7_silent 81 = .ok (.iconst 0, 1) := by decide +kernel
theorem dX7_silent_82 : decode cX7_silent 82 = .ok (.istore 5, 2) := by decide +kernel
theorem dX7_silent_84 : decode cX7_silent 84 = .ok (.iinc 6 1, 3) := by decide +kernel
theorem dX7_silent_87 : decode cX7_silent 87 = .ok (.goto (-40), 3) := by decide +kernel
theorem dX7_silent_90 : decode cX7_silent 90 = .ok (.iload_n 3, 1) := by decide +kernel
theorem dX7_silent_91 : decode cX7_silent 91 = .ok (.iload 5, 2) := by decide +kernel
theorem dX7_silent_93 : decode cX7_silent 93 = .ok (.ifCond .eq 23, 3) := by decide +kernel
theorem dX7_silent_96 : decode cX7_silent 96 = .ok (.iload_n 1, 1) := by decide +kernel
theorem dX7_silent_97 : decode cX7_silent 97 = .ok (.iconst 1, 1) := by decide +kernel
theorem dX7_silent_98 : decode cX7_silent 98 = .ok (.if_icmp .eq 14, 3) := by decide +kernel
theorem dX7_silent_101 : decode cX7_silent 101 = .ok (.aload_n 0, 1) := by decide +kernel
theorem dX7_silent_102 : decode cX7_silent 102 = .ok (.getfield 13, 3) := by decide +kernel
theorem dX7_silent_105 : decode cX7_silent 105 = .ok (.iload 4, 2) := by decide +kernel
theorem dX7_silent_107 : decode cX7_silent 107 = .ok (.iaload, 1) := by decide +kernel
theorem dX7_silent_108 : decode cX7_silent 108 = .ok (.iconst 1, 1) := by decide +kernel
theorem dX7_silent_109 : decode cX7_silent 109 = .ok (.if_icmp .ne 7, 3) := by decide +kernel
theorem dX7_silent_112 : decode cX7_silent 112 = .ok (.iconst 1, 1) := by decide +kernel
theorem dX7_silent_113 : decode cX7_silent 113 = .ok (.goto 4, 3) := by decide +kernel
theorem dX7_silent_116 : decode cX7_silent 116 = .ok (.iconst 0, 1) := by decide +kernel
theorem dX7_silent_117 : decode cX7_silent 117 = .ok (.iadd, 1) := by decide +kernel
theorem dX7_silent_118 : decode cX7_silent 118 = .ok (.istore_n 3, 1) := by decide +kernel
theorem dX7_silent_119 : decode cX7_silent 119 = .ok (.iinc 4 1, 3) := by decide +kernel
theorem dX7_silent_122 : decode cX7_silent 122 = .ok (.goto (-88), 3) := by decide +kernel
theorem dX7_silent_125 : decode cX7_silent 125 = .ok (.iload_n 3, 1) := by decide +kernel
theorem dX7_silent_126 : decode cX7_silent 126 = .ok (.ireturn, 1) := by decide +kernel
theorem dX7_table_0 : decode cX7_table 0 = .ok (.iload_n 1, 1) := by decide +kernel
theorem dX7_table_1 : decode cX7_table 1 = .ok (.iconst 0, 1) := by decide +kernel
theorem dX7_table_2 : decode cX7_table 2 = .ok (.iconst 1, 1) := by decide +kernel
theorem dX7_table_3 : decode cX7_table 3 = .ok (.invokestatic 133, 3) := by decide +kernel
theorem dX7_table_6 : decode cX7_table 6 = .ok (.ifCond .eq 35, 3) := by decide +kernel
theorem dX7_table_9 : decode cX7_table 9 = .ok (.iload_n 2, 1) := by decide +kernel
theorem dX7_table_10 : decode cX7_table 10 = .ok (.iconst 0, 1) := by decide +kernel
theorem dX7_table_11 : decode cX7_table 11 = .ok (.iconst 4, 1) := by decide +kernel
theorem dX7_table_12 : decode cX7_table 12 = .ok (.invokestatic 133, 3) := by decide +kernel
theorem dX7_table_15 : decode cX7_table 15 = .ok (.ifCond .eq 26, 3) := by decide +kernel
theorem dX7_table_18 : decode cX7_table 18 = .ok (.iload_n 3, 1) := by decide +kernel
theorem dX7_table_19 : decode cX7_table 19 = .ok (.iconst 0, 1) := by decide +kernel
theorem dX7_table_20 : decode cX7_table 20 = .ok (.iconst 4, 1) := by decide +kernel
theorem dX7_table_21 : decode cX7_table 21 = .ok (.invokestatic 133, 3) := by decide +kernel
theorem dX7_table_24 : decode cX7_table 24 = .ok (.ifCond .eq 17, 3) := by decide +kernel
theorem dX7_table_27 : decode cX7_table 27 = .ok (.iload 4, 2) := by decide +kernel
theorem dX7_table_29 : decode cX7_table 29 = .ok (.sipush (-1000), 3) := by decide +kernel
theorem dX7_table_32 : decode cX7_table 32 = .ok (.sipush 1000, 3) := by decide +kernel
theorem dX7_table_35 : decode cX7_table 35 = .ok (.invokestatic 133, 3) := by decide +kernel
theorem dX7_table_38 : decode cX7_table 38 = .ok (.ifCond .ne 5, 3) := by decide +kernel
theorem dX7_table_41 : decode cX7_table 41 = .ok (.iconst 0, 1) := by decide +kernel
theorem dX7_table_42 : decode cX7_table 42 = .ok (.ireturn, 1) := by decide +kernel
theorem dX7_table_43 : decode cX7_table 43 = .ok (.aload_n 0, 1) := by decide +kernel
theorem dX7_table_44 : decode cX7_table 44 = .ok (.getfield 74, 3) := by decide +kernel
theorem dX7_table_47 : decode cX7_table 47 = .ok (.bipush 25, 2) := by decide +kernel
theorem dX7_table_49 : decode cX7_table 49 = .ok (.iload_n 1, 1) := by decide +kernel
theorem dX7_table_50 : decode cX7_table 50 = .ok (.imul, 1) := by decide +kernel
theorem dX7_table_51 : decode cX7_table 51 = .ok (.iconst 5, 1) := by decide +kernel
theorem dX7_table_52 : decode cX7_table 52 = .ok (.iload_n 2, 1) := by decide +kernel
theorem dX7_table_53 : decode cX7_table 53 = .ok (.imul, 1) := by decide +kernel
theorem dX7_table_54 : decode cX7_table 54 = .ok (.iadd, 1) := by decide +kernel
theorem dX7_table_55 : decode cX7_table 55 = .ok (.iload_n 3, 1) := by decide +kernel
theorem dX7_table_56 : decode cX7_table 56 = .ok (.iadd, 1) := by decide +kernel
theorem dX7_table_57 : decode cX7_table 57 = .ok (.iload 4, 2) := by decide +kernel
theorem dX7_table_59 : decode cX7_table 59 = .ok (.iastore, 1) := by decide +kernel
theorem dX7_table_60 : decode cX7_table 60 = .ok (.iconst 1, 1) := by decide +kernel
theorem dX7_table_61 : decode cX7_table 61 = .ok (.ireturn, 1) := by decide +kernel
theorem dX7_isRest_0 : decode cX7_isRest 0 = .ok (.iconst 0, 1) := by decide +kernel
theorem dX7_isRest_1 : decode cX7_isRest 1 = .ok (.istore 4, 2) := by decide +kernel
theorem dX7_isRest_3 : decode cX7_isRest 3 = .ok (.iload 4, 2) := by decide +kernel
theorem dX7_isRest_5 : decode cX7_isRest 5 = .ok (.iload_n 1, 1) := by decide +kernel
theorem dX7_isRest_6 : decode cX7_isRest 6 = .ok (.if_icmp .ge 65, 3) := by decide +kernel
theorem dX7_isRest_9 : decode cX7_isRest 9 = .ok (.aload_n 0, 1) := by decide +kernel
theorem dX7_isRest_10 : decode cX7_isRest 10 = .ok (.getfield 74, 3) := by decide +kernel
theorem dX7_isRest_13 : decode cX7_isRest 13 = .ok (.iconst 5, 1) := by decide +kernel
theorem dX7_isRest_14 : decode cX7_isRest 14 = .ok (.iload 4, 2) := by decide +kernel
theorem dX7_isRest_16 : decode cX7_isRest 16 = .ok (.imul, 1) := by decide +kernel
theorem dX7_isRest_17 : decode cX7_isRest 17 = .ok (.iload_n 3, 1) := by decide +kernel
theorem dX7_isRest_18 : decode cX7_isRest 18 = .ok (.iadd, 1) := by decide +kernel
theorem dX7_isRest_19 : decode cX7_isRest 19 = .ok (.iaload, 1) := by decide +kernel
theorem dX7_isRest_20 : decode cX7_isRest 20 = .ok (.aload_n 0, 1) := by decide +kernel
theorem dX7_isRest_21 : decode cX7_isRest 21 = .ok (.getfield 74, 3) := by decide +kernel
theorem dX7_isRest_24 : decode cX7_isRest 24 = .ok (.iconst 5, 1) := by decide +kernel
theorem dX7_isRest_25 : decode cX7_isRest 25 = .ok (.iload_n 2, 1) := by decide +kernel
theorem dX7_isRest_26 : decode cX7_isRest 26 = .ok (.imul, 1) := by decide +kernel
theorem dX7_isRest_27 : decode cX7_isRest 27 = .ok (.iload_n 3, 1) := by decide +kernel
theorem dX7_isRest_28 : decode cX7_isRest 28 = .ok (.iadd, 1) := by decide +kernel
theorem dX7_isRest_29 : decode cX7_isRest 29 = .ok (.iaload, 1) := by decide +kernel
theorem dX7_isRest_30 : decode cX7_isRest 30 = .ok (.if_icmp .gt 33, 3) := by decide +kernel
theorem dX7_isRest_33 : decode cX7_isRest 33 = .ok (.aload_n 0, 1) := by decide +kernel
theorem dX7_isRest_34 : decode cX7_isRest 34 = .ok (.getfield 74, 3) := by decide +kernel
theorem dX7_isRest_37 : decode cX7_isRest 37 = .ok (.bipush 25, 2) := by decide +kernel
theorem dX7_isRest_39 : decode cX7_isRest 39 = .ok (.iconst 5, 1) := by decide +kernel
theorem dX7_isRest_40 : decode cX7_isRest 40 = .ok (.iload_n 2, 1) := by decide +kernel
theorem dX7_isRest_41 : decode cX7_isRest 41 = .ok (.imul, 1) := by decide +kernel
theorem dX7_isRest_42 : decode cX7_isRest 42 = .ok (.iadd, 1) := by decide +kernel
theorem dX7_isRest_43 : decode cX7_isRest 43 = .ok (.iload 4, 2) := by decide +kernel
theorem dX7_isRest_45 : decode cX7_isRest 45 = .ok (.iadd, 1) := by decide +kernel
theorem dX7_isRest_46 : decode cX7_isRest 46 = .ok (.iaload, 1) := by decide +kernel
theorem dX7_isRest_47 : decode cX7_isRest 47 = .ok (.aload_n 0, 1) := by decide +kernel
theorem dX7_isRest_48 : decode cX7_isRest 48 = .ok (.getfield 74, 3) := by decide +kernel
theorem dX7_isRest_51 : decode cX7_isRest 51 = .ok (.bipush 25, 2) := by decide +kernel
theorem dX7_isRest_53 : decode cX7_isRest 53 = .ok (.iconst 5, 1) := by decide +kernel
theorem dX7_isRest_54 : decode cX7_isRest 54 = .ok (.iload_n 2, 1) := by decide +kernel
theorem dX7_isRest_55 : decode cX7_isRest 55 = .ok (.imul, 1) := by decide +kernel
theorem dX7_isRest_56 : decode cX7_isRest 56 = .ok (.iadd, 1) := by decide +kernel
theorem dX7_isRest_57 : decode cX7_isRest 57 = .ok (.iload_n 3, 1) := by decide +kernel
theorem dX7_isRest_58 : decode cX7_isRest 58 = .ok (.iadd, 1) := by decide +kernel
theorem dX7_isRest_59 : decode cX7_isRest 59 = .ok (.iaload, 1) := by decide +kernel
theorem dX7_isRest_60 : decode cX7_isRest 60 = .ok (.if_icmp .le 5, 3) := by decide +kernel
theorem dX7_isRest_63 : decode cX7_isRest 63 = .ok (.iconst 0, 1) := by decide +kernel
theorem dX7_isRest_64 : decode cX7_isRest 64 = .ok (.ireturn, 1) := by decide +kernel
theorem dX7_isRest_65 : decode cX7_isRest 65 = .ok (.iinc 4 1, 3) := by decide +kernel
theorem dX7_isRest_68 : decode cX7_isRest 68 = .ok (.goto (-65), 3) := by decide +kernel
theorem dX7_isRest_71 : decode cX7_isRest 71 = .ok (.iconst 1, 1) := by decide +kernel
theorem dX7_isRest_72 : decode cX7_isRest 72 = .ok (.ireturn, 1) := by decide +kernel
theorem dX7_rests_0 : decode cX7_rests 0 = .ok (.iload_n 1, 1) := by decide +kernel
theorem dX7_rests_1 : decode cX7_rests 1 = .ok (.iconst 2, 1) := by decide +kernel
theorem dX7_rests_2 : decode cX7_rests 2 = .ok (.iconst 5, 1) := by decide +kernel
theorem dX7_rests_3 : decode cX7_rests 3 = .ok (.invokestatic 133, 3) := by decide +kernel
theorem dX7_rests_6 : decode cX7_rests 6 = .ok (.ifCond .eq 8, 3) := by decide +kernel
theorem dX7_rests_9 : decode cX7_rests 9 = .ok (.iload_n 2, 1) := by decide +kernel
theorem dX7_rests_10 : decode cX7_rests 10 = .ok (.iconst (-1), 1) := by decide +kernel
theorem dX7_rests_11 : decode cX7_rests 11 = .ok (.if_icmp .ge 5, 3) := by decide +kernel
theorem dX7_rests_14 : decode cX7_rests 14 = .ok (.iconst (-1), 1) := by decide +kernel
theorem dX7_rests_15 : decode cX7_rests 15 = .ok (.ireturn, 1) := by decide +kernel
theorem dX7_rests_16 : decode cX7_rests 16 = .ok (.iconst 0, 1) := by decide +kernel
theorem dX7_rests_17 : decode cX7_rests 17 = .ok (.istore_n 3, 1) := by decide +kernel
theorem dX7_rests_18 : decode cX7_rests 18 = .ok (.iconst 0, 1) := by decide +kernel
theorem dX7_rests_19 : decode cX7_rests 19 = .ok (.istore 4, 2) := by decide +kernel
theorem dX7_rests_21 : decode cX7_rests 21 = .ok (.iload 4, 2) := by decide +kernel
theorem dX7_rests_23 : decode cX7_rests 23 = .ok (.iload_n 1, 1) := by decide +kernel
theorem dX7_rests_24 : decode cX7_rests 24 = .ok (.if_icmp .ge 56, 3) := by decide +kernel
theorem dX7_rests_27 : decode cX7_rests 27 = .ok (.iconst 0, 1) := by decide +kernel
theorem dX7_rests_28 : decode cX7_rests 28 = .ok (.istore 5, 2) := by decide +kernel
theorem dX7_rests_30 : decode cX7_rests 30 = .ok (.iload 5, 2) := by decide +kernel
theorem dX7_rests_32 : decode cX7_rests 32 = .ok (.iload_n 1, 1) := by decide +kernel
theorem dX7_rests_33 : decode cX7_rests 33 = .ok (.if_icmp .ge 41, 3) := by decide +kernel
theorem dX7_rests_36 : decode cX7_rests 36 = .ok (.aload_n 0, 1) := by decide +kernel
theorem dX7_rests_37 : decode cX7_rests 37 = .ok (.iload_n 1, 1) := by decide +kernel
theorem dX7_rests_38 : decode cX7_rests 38 = .ok (.iload 4, 2) := by decide +kernel
theorem dX7_rests_40 : decode cX7_rests 40 = .ok (.iload 5, 2) := by decide +kernel
theorem dX7_rests_42 : decode cX7_rests 42 = .ok (.invokevirtual 315, 3) := by decide +kernel
theorem dX7_rests_45 : decode cX7_rests 45 = .ok (.ifCond .ne 6, 3) := by decide +kernel
theorem dX7_rests_48 : decode cX7_rests 48 = .ok (.goto 20, 3) := by decide +kernel
theorem dX7_rests_51 : decode cX7_rests 51 = .ok (.iload_n 3, 1) := by decide +kernel
theorem dX7_rests_52 : decode cX7_rests 52 = .ok (.iload_n 2, 1) := by decide +kernel
theorem dX7_rests_53 : decode cX7_rests 53 = .ok (.if_icmp .ne 11, 3) := by decide +kernel
theorem dX7_rests_56 : decode cX7_rests 56 = .ok (.iconst 5, 1) := by decide +kernel
theorem dX7_rests_57 : decode cX7_rests 57 = .ok (.iload 4, 2) := by decide +kernel
theorem dX7_rests_59 : decode cX7_rests 59 = .ok (.imul, 1) := by decide +kernel
theorem dX7_rests_60 : decode cX7_rests 60 = .ok (.iload 5, 2) := by decide +kernel
theorem dX7_rests_62 : decode cX7_rests 62 = .ok (.iadd, 1) := by decide +kernel
theorem dX7_rests_63 : decode cX7_rests 63 = .ok (.ireturn, 1) := by decide +kernel
theorem dX7_rests_64 : decode cX7_rests 64 = .ok (.iload_n 3, 1) := by decide +kernel
theorem dX7_rests_65 : decode cX7_rests 65 = .ok (.iconst 1, 1) := by decide +kernel
theorem dX7_rests_66 : decode cX7_rests 66 = .ok (.iadd, 1) := by decide +kernel
theorem dX7_rests_67 : decode cX7_rests 67 = .ok (.istore_n 3, 1) := by decide +kernel
theorem dX7_rests_68 : decode cX7_rests 68 = .ok (.iinc 5 1, 3) := by decide +kernel
theorem dX7_rests_71 : decode cX7_rests 71 = .ok (.goto (-41), 3) := by decide +kernel
theorem dX7_rests_74 : decode cX7_rests 74 = .ok (.iinc 4 1, 3) := by decide +kernel
theorem dX7_rests_77 : decode cX7_rests 77 = .ok (.goto (-56), 3) := by decide +kernel
theorem dX7_rests_80 : decode cX7_rests 80 = .ok (.iload_n 2, 1) := by decide +kernel
theorem dX7_rests_81 : decode cX7_rests 81 = .ok (.iconst (-1), 1) := by decide +kernel
theorem dX7_rests_82 : decode cX7_rests 82 = .ok (.if_icmp .ne 7, 3) := by decide +kernel
theorem dX7_rests_85 : decode cX7_rests 85 = .ok (.iload_n 3, 1) := by decide +kernel
theorem dX7_rests_86 : decode cX7_rests 86 = .ok (.goto 4, 3) := by decide +kernel
theorem dX7_rests_89 : decode cX7_rests 89 = .ok (.iconst (-1), 1) := by decide +kernel
theorem dX7_rests_90 : decode cX7_rests 90 = .ok (.ireturn, 1) := by decide +kernel
theorem dX7_keep_0 : decode cX7_keep 0 = .ok (.aload_n 0, 1) := by decide +kernel
theorem dX7_keep_1 : decode cX7_keep 1 = .ok (.getfield 318, 3) := by decide +kernel
theorem dX7_keep_4 : decode cX7_keep 4 = .ok (.bipush 20, 2) := by decide +kernel
theorem dX7_keep_6 : decode cX7_keep 6 = .ok (.if_icmp .ne 5, 3) := by decide +kernel
theorem dX7_keep_9 : decode cX7_keep 9 = .ok (.iconst (-1), 1) := by decide +kernel
theorem dX7_keep_10 : decode cX7_keep 10 = .ok (.ireturn, 1) := by decide +kernel
theorem dX7_keep_11 : decode cX7_keep 11 = .ok (.aload_n 0, 1) := by decide +kernel
theorem dX7_keep_12 : decode cX7_keep 12 = .ok (.getfield 101, 3) := by decide +kernel
theorem dX7_keep_15 : decode cX7_keep 15 = .ok (.aload_n 0, 1) := by decide +kernel
theorem dX7_keep_16 : decode cX7_keep 16 = .ok (.getfield 318, 3) := by decide +kernel
theorem dX7_keep_19 : decode cX7_keep 19 = .ok (.aload_n 0, 1) := by decide +kernel
theorem dX7_keep_20 : decode cX7_keep 20 = .ok (.invokevirtual 280, 3) := by decide +kernel
theorem dX7_keep_23 : decode cX7_keep 23 = .ok (.iastore, 1) := by decide +kernel
theorem dX7_keep_24 : decode cX7_keep 24 = .ok (.aload_n 0, 1) := by decide +kernel
theorem dX7_keep_25 : decode cX7_keep 25 = .ok (.getfield 95, 3) := by decide +kernel
theorem dX7_keep_28 : decode cX7_keep 28 = .ok (.aload_n 0, 1) := by decide +kernel
theorem dX7_keep_29 : decode cX7_keep 29 = .ok (.getfield 318, 3) := by decide +kernel
theorem dX7_keep_32 : decode cX7_keep 32 = .ok (.aload_n 0, 1) := by decide +kernel
theorem dX7_keep_33 : decode cX7_keep 33 = .ok (.getfield 120, 3) := by decide +kernel
theorem dX7_keep_36 : decode cX7_keep 36 = .ok (.iastore, 1) := by decide +kernel
theorem dX7_keep_37 : decode cX7_keep 37 = .ok (.aload_n 0, 1) := by decide +kernel
theorem dX7_keep_38 : decode cX7_keep 38 = .ok (.getfield 98, 3) := by decide +kernel
theorem dX7_keep_41 : decode cX7_keep 41 = .ok (.aload_n 0, 1) := by decide +kernel
theorem dX7_keep_42 : decode cX7_keep 42 = .ok (.getfield 318, 3) := by decide +kernel
theorem dX7_keep_45 : decode cX7_keep 45 = .ok (.aload_n 0, 1) := by decide +kernel
theorem dX7_keep_46 : decode cX7_keep 46 = .ok (.getfield 116, 3) := by decide +kernel
theorem dX7_keep_49 : decode cX7_keep 49 = .ok (.iastore, 1) := by decide +kernel
theorem dX7_keep_50 : decode cX7_keep 50 = .ok (.aload_n 0, 1) := by decide +kernel
theorem dX7_keep_51 : decode cX7_keep 51 = .ok (.getfield 104, 3) := by decide +kernel
theorem dX7_keep_54 : decode cX7_keep 54 = .ok (.aload_n 0, 1) := by decide +kernel
theorem dX7_keep_55 : decode cX7_keep 55 = .ok (.getfield 318, 3) := by decide +kernel
theorem dX7_keep_58 : decode cX7_keep 58 = .ok (.iconst 0, 1) := by decide +kernel
theorem dX7_keep_59 : decode cX7_keep 59 = .ok (.iastore, 1) := by decide +kernel
theorem dX7_keep_60 : decode cX7_keep 60 = .ok (.iconst 0, 1) := by decide +kernel
theorem dX7_keep_61 : decode cX7_keep 61 = .ok (.istore_n 1, 1) := by decide +kernel
theorem dX7_keep_62 : decode cX7_keep 62 = .ok (.iload_n 1, 1) := by decide +kernel
theorem dX7_keep_63 : decode cX7_keep 63 = .ok (.bipush 40, 2) := by decide +kernel
theorem dX7_keep_65 : decode cX7_keep 65 = .ok (.if_icmp .ge 139, 3) := by decide +kernel
theorem dX7_keep_68 : decode cX7_keep 68 = .ok (.aload_n 0, 1) := by decide +kernel
theorem dX7_keep_69 : decode cX7_keep 69 = .ok (.getfield 89, 3) := by decide +kernel
theorem dX7_keep_72 : decode cX7_keep 72 = .ok (.bipush 40, 2) := by decide +kernel
theorem dX7_keep_74 : decode cX7_keep 74 = .ok (.aload_n 0, 1) := by decide +kernel
theorem dX7_keep_75 : decode cX7_keep 75 = .ok (.getfield 318, 3) := by decide +kernel
theorem dX7_keep_78 : decode cX7_keep 78 = .ok (.imul, 1) := by decide +kernel
theorem dX7_keep_79 : decode cX7_keep 79 = .ok (.iload_n 1, 1) := by decide +kernel
theorem dX7_keep_80 : decode cX7_keep 80 = .ok (.iadd, 1) := by decide +kernel
theorem dX7_keep_81 : decode cX7_keep 81 = .ok (.aload_n 0, 1) := by decide +kernel
theorem dX7_keep_82 : decode cX7_keep 82 = .ok (.getfield 19, 3) := by decide +kernel
theorem dX7_keep_85 : decode cX7_keep 85 = .ok (.iload_n 1, 1) := by decide +kernel
theorem dX7_keep_86 : decode cX7_keep 86 = .ok (.iaload, 1) := by decide +kernel
theorem dX7_keep_87 : decode cX7_keep 87 = .ok (.iastore, 1) := by decide +kernel
theorem dX7_keep_88 : decode cX7_keep 88 = .ok (.aload_n 0, 1) := by decide +kernel
theorem dX7_keep_89 : decode cX7_keep 89 = .ok (.getfield 92, 3) := by decide +kernel
theorem dX7_keep_92 : decode cX7_keep 92 = .ok (.bipush 40, 2) := by decide +kernel
theorem dX7_keep_94 : decode cX7_keep 94 = .ok (.aload_n 0, 1) := by decide +kernel
theorem dX7_keep_95 : decode cX7_keep 95 = .ok (.getfield 318, 3) := by decide +kernel
theorem dX7_keep_98 : decode cX7_keep 98 = .ok (.imul, 1) := by decide +kernel
theorem dX7_keep_99 : decode cX7_keep 99 = .ok (.iload_n 1, 1) := by decide +kernel
theorem dX7_keep_100 : decode cX7_keep 100 = .ok (.iadd, 1) := by decide +kernel
theorem dX7_keep_101 : decode cX7_keep 101 = .ok (.aload_n 0, 1) := by decide +kernel
theorem dX7_keep_102 : decode cX7_keep 102 = .ok (.getfield 22, 3) := by decide +kernel
theorem dX7_keep_105 : decode cX7_keep 105 = .ok (.iload_n 1, 1) := by decide +kernel
theorem dX7_keep_106 : decode cX7_keep 106 = .ok (.iaload, 1) := by decide +kernel
theorem dX7_keep_107 : decode cX7_keep 107 = .ok (.iastore, 1) := by decide +kernel
theorem dX7_keep_108 : decode cX7_keep 108 = .ok (.aload_n 0, 1) := by decide +kernel
theorem dX7_keep_109 : decode cX7_keep 109 = .ok (.getfield 104, 3) := by decide +kernel
theorem dX7_keep_112 : decode cX7_keep 112 = .ok (.aload_n 0, 1) := by decide +kernel
theorem dX7_keep_113 : decode cX7_keep 113 = .ok (.getfield 318, 3) := by decide +kernel
theorem dX7_keep_116 : decode cX7_keep 116 = .ok (.aload_n 0, 1) := by decide +kernel
theorem dX7_keep_117 : decode cX7_keep 117 = .ok (.getfield 104, 3) := by decide +kernel
theorem dX7_keep_120 : decode cX7_keep 120 = .ok (.aload_n 0, 1) := by decide +kernel
theorem dX7_keep_121 : decode cX7_keep 121 = .ok (.getfield 318, 3) := by decide +kernel
theorem dX7_keep_124 : decode cX7_keep 124 = .ok (.iaload, 1) := by decide +kernel
theorem dX7_keep_125 : decode cX7_keep 125 = .ok (.iload_n 1, 1) := by decide +kernel
theorem dX7_keep_126 : decode cX7_keep 126 = .ok (.aload_n 0, 1) := by decide +kernel
theorem dX7_keep_127 : decode cX7_keep 127 = .ok (.getfield 120, 3) := by decide +kernel
theorem dX7_keep_130 : decode cX7_keep 130 = .ok (.if_icmp .ge 12, 3) := by decide +kernel
theorem dX7_keep_133 : decode cX7_keep 133 = .ok (.aload_n 0, 1) := by decide +kernel
theorem dX7_keep_134 : decode cX7_keep 134 = .ok (.getfield 19, 3) := by decide +kernel
theorem dX7_keep_137 : decode cX7_keep 137 = .ok (.iload_n 1, 1) := by decide +kernel
theorem dX7_keep_138 : decode cX7_keep 138 = .ok (.iaload, 1) := by decide +kernel
theorem dX7_keep_139 : decode cX7_keep 139 = .ok (.goto 4, 3) := by decide +kernel
theorem dX7_keep_142 : decode cX7_keep 142 = .ok (.iconst 0, 1) := by decide +kernel
theorem dX7_keep_143 : decode cX7_keep 143 = .ok (.iadd, 1) := by decide +kernel
theorem dX7_keep_144 : decode cX7_keep 144 = .ok (.iastore, 1) := by decide +kernel
theorem dX7_keep_145 : decode cX7_keep 145 = .ok (.iconst 0, 1) := by decide +kernel
theorem dX7_keep_146 : decode cX7_keep 146 = .ok (.istore_n 2, 1) := by decide +kernel
theorem dX7_keep_147 : decode cX7_keep 147 = .ok (.iload_n 2, 1) := by decide +kernel
theorem dX7_keep_148 : decode cX7_keep 148 = .ok (.bipush 24, 2) := by decide +kernel
theorem dX7_keep_150 : decode cX7_keep 150 = .ok (.if_icmp .ge 48, 3) := by decide +kernel
theorem dX7_keep_153 : decode cX7_keep 153 = .ok (.iload_n 1, 1) := by decide +kernel
theorem dX7_keep_154 : decode cX7_keep 154 = .ok (.aload_n 0, 1) := by decide +kernel
theorem dX7_keep_155 : decode cX7_keep 155 = .ok (.getfield 120, 3) := by decide +kernel
theorem dX7_keep_158 : decode cX7_keep 158 = .ok (.if_icmp .ge 40, 3) := by decide +kernel
theorem dX7_keep_161 : decode cX7_keep 161 = .ok (.aload_n 0, 1) := by decide +kernel
theorem dX7_keep_162 : decode cX7_keep 162 = .ok (.getfield 77, 3) := by decide +kernel
theorem dX7_keep_165 : decode cX7_keep 165 = .ok (.sipush 960, 3) := by decide +kernel
theorem dX7_keep_168 : decode cX7_keep 168 = .ok (.aload_n 0, 1) := by decide +kernel
theorem dX7_keep_169 : decode cX7_keep 169 = .ok (.getfield 318, 3) := by decide +kernel
theorem dX7_keep_172 : decode cX7_keep 172 = .ok (.imul, 1) := by decide +kernel
theorem dX7_keep_173 : decode cX7_keep 173 = .ok (.bipush 24, 2) := by decide +kernel
theorem dX7_keep_175 : decode cX7_keep 175 = .ok (.iload_n 1, 1) := by decide +kernel
theorem dX7_keep_176 : decode cX7_keep 176 = .ok (.imul, 1) := by decide +kernel
theorem dX7_keep_177 : decode cX7_keep 177 = .ok (.iadd, 1) := by decide +kernel
theorem dX7_keep_178 : decode cX7_keep 178 = .ok (.iload_n 2, 1) := by decide +kernel
theorem dX7_keep_179 : decode cX7_keep 179 = .ok (.iadd, 1) := by decide +kernel
theorem dX7_keep_180 : decode cX7_keep 180 = .ok (.aload_n 0, 1) := by decide +kernel
theorem dX7_keep_181 : decode cX7_keep 181 = .ok (.getfield 68, 3) := by decide +kernel
theorem dX7_keep_184 : decode cX7_keep 184 = .ok (.bipush 24, 2) := by decide +kernel
theorem dX7_keep_186 : decode cX7_keep 186 = .ok (.iload_n 1, 1) := by decide +kernel
theorem dX7_keep_187 : decode cX7_keep 187 = .ok (.imul, 1) := by decide +kernel
theorem dX7_keep_188 : decode cX7_keep 188 = .ok (.iload_n 2, 1) := by decide +kernel
theorem dX7_keep_189 : decode cX7_keep 189 = .ok (.iadd, 1) := by decide +kernel
theorem dX7_keep_190 : decode cX7_keep 190 = .ok (.iaload, 1) := by decide +kernel
theorem dX7_keep_191 : decode cX7_keep 191 = .ok (.iastore, 1) := by decide +kernel
theorem dX7_keep_192 : decode cX7_keep 192 = .ok (.iinc 2 1, 3) := by decide +kernel
theorem dX7_keep_195 : decode cX7_keep 195 = .ok (.goto (-48), 3) := by decide +kernel
theorem dX7_keep_198 : decode cX7_keep 198 = .ok (.iinc 1 1, 3) := by decide +kernel
theorem dX7_keep_201 : decode cX7_keep 201 = .ok (.goto (-139), 3) := by decide +kernel
theorem dX7_keep_204 : decode cX7_keep 204 = .ok (.iconst 0, 1) := by decide +kernel
theorem dX7_keep_205 : decode cX7_keep 205 = .ok (.istore_n 1, 1) := by decide +kernel
theorem dX7_keep_206 : decode cX7_keep 206 = .ok (.iload_n 1, 1) := by decide +kernel
theorem dX7_keep_207 : decode cX7_keep 207 = .ok (.bipush 24, 2) := by decide +kernel
theorem dX7_keep_209 : decode cX7_keep 209 = .ok (.if_icmp .ge 69, 3) := by decide +kernel
theorem dX7_keep_212 : decode cX7_keep 212 = .ok (.aload_n 0, 1) := by decide +kernel
theorem dX7_keep_213 : decode cX7_keep 213 = .ok (.getfield 80, 3) := by decide +kernel
theorem dX7_keep_216 : decode cX7_keep 216 = .ok (.bipush 24, 2) := by decide +kernel
theorem dX7_keep_218 : decode cX7_keep 218 = .ok (.aload_n 0, 1) := by decide +kernel
theorem dX7_keep_219 : decode cX7_keep 219 = .ok (.getfield 318, 3) := by decide +kernel
theorem dX7_keep_222 : decode cX7_keep 222 = .ok (.imul, 1) := by decide +kernel
theorem dX7_keep_223 : decode cX7_keep 223 = .ok (.iload_n 1, 1) := by decide +kernel
theorem dX7_keep_224 : decode cX7_keep 224 = .ok (.iadd, 1) := by decide +kernel
theorem dX7_keep_225 : decode cX7_keep 225 = .ok (.aload_n 0, 1) := by decide +kernel
theorem dX7_keep_226 : decode cX7_keep 226 = .ok (.getfield 7, 3) := by decide +kernel
theorem dX7_keep_229 : decode cX7_keep 229 = .ok (.iload_n 1, 1) := by decide +kernel
theorem dX7_keep_230 : decode cX7_keep 230 = .ok (.iaload, 1) := by decide +kernel
theorem dX7_keep_231 : decode cX7_keep 231 = .ok (.iastore, 1) := by decide +kernel
theorem dX7_keep_232 : decode cX7_keep 232 = .ok (.aload_n 0, 1) := by decide +kernel
theorem dX7_keep_233 : decode cX7_keep 233 = .ok (.getfield 83, 3) := by decide +kernel
theorem dX7_keep_236 : decode cX7_keep 236 = .ok (.bipush 24, 2) := by decide +kernel
theorem dX7_keep_238 : decode cX7_keep 238 = .ok (.aload_n 0, 1) := by decide +kernel
theorem dX7_keep_239 : decode cX7_keep 239 = .ok (.getfield 318, 3) := by decide +kernel
theorem dX7_keep_242 : decode cX7_keep 242 = .ok (.imul, 1) := by decide +kernel
theorem dX7_keep_243 : decode cX7_keep 243 = .ok (.iload_n 1, 1) := by decide +kernel
theorem dX7_keep_244 : decode cX7_keep 244 = .ok (.iadd, 1) := by decide +kernel
theorem dX7_keep_245 : decode cX7_keep 245 = .ok (.aload_n 0, 1) := by decide +kernel
theorem dX7_keep_246 : decode cX7_keep 246 = .ok (.getfield 13, 3) := by decide +kernel
theorem dX7_keep_249 : decode cX7_keep 249 = .ok (.iload_n 1, 1) := by decide +kernel
theorem dX7_keep_250 : decode cX7_keep 250 = .ok (.iaload, 1) := by decide +kernel
theorem dX7_keep_251 : decode cX7_keep 251 = .ok (.iastore, 1) := by decide +kernel
theorem dX7_keep_252 : decode cX7_keep 252 = .ok (.aload_n 0, 1) := by decide +kernel
theorem dX7_keep_253 : decode cX7_keep 253 = .ok (.getfield 86, 3) := by decide +kernel
theorem dX7_keep_256 : decode cX7_keep 256 = .ok (.bipush 24, 2) := by decide +kernel
theorem dX7_keep_258 : decode cX7_keep 258 = .ok (.aload_n 0, 1) := by decide +kernel
theorem dX7_keep_259 : decode cX7_keep 259 = .ok (.getfield 318, 3) := by decide +kernel
theorem dX7_keep_262 : decode cX7_keep 262 = .ok (.imul, 1) := by decide +kernel
theorem dX7_keep_263 : decode cX7_keep 263 = .ok (.iload_n 1, 1) := by decide +kernel
theorem dX7_keep_264 : decode cX7_keep 264 = .ok (.iadd, 1) := by decide +kernel
theorem dX7_keep_265 : decode cX7_keep 265 = .ok (.aload_n 0, 1) := by decide +kernel
theorem dX7_keep_266 : decode cX7_keep 266 = .ok (.getfield 16, 3) := by decide +kernel
theorem dX7_keep_269 : decode cX7_keep 269 = .ok (.iload_n 1, 1) := by decide +kernel
theorem dX7_keep_270 : decode cX7_keep 270 = .ok (.iaload, 1) := by decide +kernel
theorem dX7_keep_271 : decode cX7_keep 271 = .ok (.iastore, 1) := by decide +kernel
theorem dX7_keep_272 : decode cX7_keep 272 = .ok (.iinc 1 1, 3) := by decide +kernel
theorem dX7_keep_275 : decode cX7_keep 275 = .ok (.goto (-69), 3) := by decide +kernel
theorem dX7_keep_278 : decode cX7_keep 278 = .ok (.aload_n 0, 1) := by decide +kernel
theorem dX7_keep_279 : decode cX7_keep 279 = .ok (.aload_n 0, 1) := by decide +kernel
theorem dX7_keep_280 : decode cX7_keep 280 = .ok (.getfield 318, 3) := by decide +kernel
theorem dX7_keep_283 : decode cX7_keep 283 = .ok (.iconst 1, 1) := by decide +kernel
theorem dX7_keep_284 : decode cX7_keep 284 = .ok (.iadd, 1) := by decide +kernel
theorem dX7_keep_285 : decode cX7_keep 285 = .ok (.putfield 318, 3) := by decide +kernel
theorem dX7_keep_288 : decode cX7_keep 288 = .ok (.aload_n 0, 1) := by decide +kernel
theorem dX7_keep_289 : decode cX7_keep 289 = .ok (.getfield 318, 3) := by decide +kernel
theorem dX7_keep_292 : decode cX7_keep 292 = .ok (.ireturn, 1) := by decide +kernel
theorem dX7_hears_0 : decode cX7_hears 0 = .ok (.iload_n 1, 1) := by decide +kernel
theorem dX7_hears_1 : decode cX7_hears 1 = .ok (.iconst 0, 1) := by decide +kernel
theorem dX7_hears_2 : decode cX7_hears 2 = .ok (.iconst 1, 1) := by decide +kernel
theorem dX7_hears_3 : decode cX7_hears 3 = .ok (.invokestatic 133, 3) := by decide +kernel
theorem dX7_hears_6 : decode cX7_hears 6 = .ok (.ifCond .ne 5, 3) := by decide +kernel
theorem dX7_hears_9 : decode cX7_hears 9 = .ok (.iconst (-1), 1) := by decide +kernel
theorem dX7_hears_10 : decode cX7_hears 10 = .ok (.ireturn, 1) := by decide +kernel
theorem dX7_hears_11 : decode cX7_hears 11 = .ok (.iconst 0, 1) := by decide +kernel
theorem dX7_hears_12 : decode cX7_hears 12 = .ok (.istore_n 2, 1) := by decide +kernel
theorem dX7_hears_13 : decode cX7_hears 13 = .ok (.iconst 0, 1) := by decide +kernel
theorem dX7_hears_14 : decode cX7_hears 14 = .ok (.istore_n 3, 1) := by decide +kernel
theorem dX7_hears_15 : decode cX7_hears 15 = .ok (.iconst 0, 1) := by decide +kernel
theorem dX7_hears_16 : decode cX7_hears 16 = .ok (.istore 4, 2) := by decide +kernel
theorem dX7_hears_18 : decode cX7_hears 18 = .ok (.iload 4, 2) := by decide +kernel
theorem dX7_hears_20 : decode cX7_hears 20 = .ok (.aload_n 0, 1) := by decide +kernel
theorem dX7_hears_21 : decode cX7_hears 21 = .ok (.getfield 318, 3) := by decide +kernel
theorem dX7_hears_24 : decode cX7_hears 24 = .ok (.if_icmp .ge 147, 3) := by decide +kernel
theorem dX7_hears_27 : decode cX7_hears 27 = .ok (.iload 4, 2) := by decide +kernel
theorem dX7_hears_29 : decode cX7_hears 29 = .ok (.iconst 1, 1) := by decide +kernel
theorem dX7_hears_30 : decode cX7_hears 30 = .ok (.iadd, 1) := by decide +kernel
theorem dX7_hears_31 : decode cX7_hears 31 = .ok (.istore 5, 2) := by decide +kernel
theorem dX7_hears_33 : decode cX7_hears 33 = .ok (.iload 5, 2) := by decide +kernel
theorem dX7_hears_35 : decode cX7_hears 35 = .ok (.aload_n 0, 1) := by decide +kernel
theorem dX7_hears_36 : decode cX7_hears 36 = .ok (.getfield 318, 3) := by decide +kernel
theorem dX7_hears_39 : decode cX7_hears 39 = .ok (.if_icmp .ge 126, 3) := by decide +kernel
theorem dX7_hears_42 : decode cX7_hears 42 = .ok (.aload_n 0, 1) := by decide +kernel
theorem dX7_hears_43 : decode cX7_hears 43 = .ok (.getfield 101, 3) := by decide +kernel
theorem dX7_hears_46 : decode cX7_hears 46 = .ok (.iload 4, 2) := by decide +kernel
theorem dX7_hears_48 : decode cX7_hears 48 = .ok (.iaload, 1) := by decide +kernel
theorem dX7_hears_49 : decode cX7_hears 49 = .ok (.aload_n 0, 1) := by decide +kernel
theorem dX7_hears_50 : decode cX7_hears 50 = .ok (.getfield 101, 3) := by decide +kernel
theorem dX7_hears_53 : decode cX7_hears 53 = .ok (.iload 5, 2) := by decide +kernel
theorem dX7_hears_55 : decode cX7_hears 55 = .ok (.iaload, 1) := by decide +kernel
theorem dX7_hears_56 : decode cX7_hears 56 = .ok (.if_icmp .eq 103, 3) := by decide +kernel
theorem dX7_hears_59 : decode cX7_hears 59 = .ok (.aload_n 0, 1) := by decide +kernel
theorem dX7_hears_60 : decode cX7_hears 60 = .ok (.getfield 104, 3) := by decide +kernel
theorem dX7_hears_63 : decode cX7_hears 63 = .ok (.iload 4, 2) := by decide +kernel
theorem dX7_hears_65 : decode cX7_hears 65 = .ok (.iaload, 1) := by decide +kernel
theorem dX7_hears_66 : decode cX7_hears 66 = .ok (.aload_n 0, 1) := by decide +kernel
theorem dX7_hears_67 : decode cX7_hears 67 = .ok (.getfield 104, 3) := by decide +kernel
theorem dX7_hears_70 : decode cX7_hears 70 = .ok (.iload 5, 2) := by decide +kernel
theorem dX7_hears_72 : decode cX7_hears 72 = .ok (.iaload, 1) := by decide +kernel
theorem dX7_hears_73 : decode cX7_hears 73 = .ok (.if_icmp .ne 6, 3) := by decide +kernel
theorem dX7_hears_76 : decode cX7_hears 76 = .ok (.goto 83, 3) := by decide +kernel
theorem dX7_hears_79 : decode cX7_hears 79 = .ok (.aload_n 0, 1) := by decide +kernel
theorem dX7_hears_80 : decode cX7_hears 80 = .ok (.getfield 101, 3) := by decide +kernel
theorem dX7_hears_83 : decode cX7_hears 83 = .ok (.iload 4, 2) := by decide +kernel
theorem dX7_hears_85 : decode cX7_hears 85 = .ok (.iaload, 1) := by decide +kernel
theorem dX7_hears_86 : decode cX7_hears 86 = .ok (.aload_n 0, 1) := by decide +kernel
theorem dX7_hears_87 : decode cX7_hears 87 = .ok (.getfield 101, 3) := by decide +kernel
theorem dX7_hears_90 : decode cX7_hears 90 = .ok (.iload 5, 2) := by decide +kernel
theorem dX7_hears_92 : decode cX7_hears 92 = .ok (.iaload, 1) := by decide +kernel
theorem dX7_hears_93 : decode cX7_hears 93 = .ok (.if_icmp .ge 7, 3) := by decide +kernel
theorem dX7_hears_96 : decode cX7_hears 96 = .ok (.iconst 1, 1) := by decide +kernel
theorem dX7_hears_97 : decode cX7_hears 97 = .ok (.goto 4, 3) := by decide +kernel
theorem dX7_hears_100 : decode cX7_hears 100 = .ok (.iconst 0, 1) := by decide +kernel
theorem dX7_hears_101 : decode cX7_hears 101 = .ok (.aload_n 0, 1) := by decide +kernel
theorem dX7_hears_102 : decode cX7_hears 102 = .ok (.getfield 104, 3) := by decide +kernel
theorem dX7_hears_105 : decode cX7_hears 105 = .ok (.iload 4, 2) := by decide +kernel
theorem dX7_hears_107 : decode cX7_hears 107 = .ok (.iaload, 1) := by decide +kernel
theorem dX7_hears_108 : decode cX7_hears 108 = .ok (.aload_n 0, 1) := by decide +kernel
theorem dX7_hears_109 : decode cX7_hears 109 = .ok (.getfield 104, 3) := by decide +kernel
theorem dX7_hears_112 : decode cX7_hears 112 = .ok (.iload 5, 2) := by decide +kernel
theorem dX7_hears_114 : decode cX7_hears 114 = .ok (.iaload, 1) := by decide +kernel
theorem dX7_hears_115 : decode cX7_hears 115 = .ok (.if_icmp .ge 7, 3) := by decide +kernel
theorem dX7_hears_118 : decode cX7_hears 118 = .ok (.iconst 1, 1) := by decide +kernel
theorem dX7_hears_119 : decode cX7_hears 119 = .ok (.goto 4, 3) := by decide +kernel
theorem dX7_hears_122 : decode cX7_hears 122 = .ok (.iconst 0, 1) := by decide +kernel
theorem dX7_hears_123 : decode cX7_hears 123 = .ok (.if_icmp .ne 7, 3) := by decide +kernel
theorem dX7_hears_126 : decode cX7_hears 126 = .ok (.iconst 1, 1) := by decide +kernel
theorem dX7_hears_127 : decode cX7_hears 127 = .ok (.goto 4, 3) := by decide +kernel
theorem dX7_hears_130 : decode cX7_hears 130 = .ok (.iconst 0, 1) := by decide +kernel
theorem dX7_hears_131 : decode cX7_hears 131 = .ok (.istore 6, 2) := by decide +kernel
theorem dX7_hears_133 : decode cX7_hears 133 = .ok (.iload_n 2, 1) := by decide +kernel
theorem dX7_hears_134 : decode cX7_hears 134 = .ok (.iload 6, 2) := by decide +kernel
theorem dX7_hears_136 : decode cX7_hears 136 = .ok (.ifCond .eq 7, 3) := by decide +kernel
theorem dX7_hears_139 : decode cX7_hears 139 = .ok (.iconst 1, 1) := by decide +kernel
theorem dX7_hears_140 : decode cX7_hears 140 = .ok (.goto 4, 3) := by decide +kernel
theorem dX7_hears_143 : decode cX7_hears 143 = .ok (.iconst 0, 1) := by decide +kernel
theorem dX7_hears_144 : decode cX7_hears 144 = .ok (.iadd, 1) := by decide +kernel
theorem dX7_hears_145 : decode cX7_hears 145 = .ok (.istore_n 2, 1) := by decide +kernel
theorem dX7_hears_146 : decode cX7_hears 146 = .ok (.iload_n 3, 1) := by decide +kernel
theorem dX7_hears_147 : decode cX7_hears 147 = .ok (.iload 6, 2) := by decide +kernel
theorem dX7_hears_149 : decode cX7_hears 149 = .ok (.ifCond .eq 7, 3) := by decide +kernel
theorem dX7_hears_152 : decode cX7_hears 152 = .ok (.iconst 0, 1) := by decide +kernel
theorem dX7_hears_153 : decode cX7_hears 153 = .ok (.goto 4, 3) := by decide +kernel
theorem dX7_hears_156 : decode cX7_hears 156 = .ok (.iconst 1, 1) := by decide +kernel
theorem dX7_hears_157 : decode cX7_hears 157 = .ok (.iadd, 1) := by decide +kernel
theorem dX7_hears_158 : decode cX7_hears 158 = .ok (.istore_n 3, 1) := by decide +kernel
theorem dX7_hears_159 : decode cX7_hears 159 = .ok (.iinc 5 1, 3) := by decide +kernel
theorem dX7_hears_162 : decode cX7_hears 162 = .ok (.goto (-129), 3) := by decide +kernel
theorem dX7_hears_165 : decode cX7_hears 165 = .ok (.iinc 4 1, 3) := by decide +kernel
theorem dX7_hears_168 : decode cX7_hears 168 = .ok (.goto (-150), 3) := by decide +kernel
theorem dX7_hears_171 : decode cX7_hears 171 = .ok (.iload_n 1, 1) := by decide +kernel
theorem dX7_hears_172 : decode cX7_hears 172 = .ok (.ifCond .ne 7, 3) := by decide +kernel
theorem dX7_hears_175 : decode cX7_hears 175 = .ok (.iload_n 2, 1) := by decide +kernel
theorem dX7_hears_176 : decode cX7_hears 176 = .ok (.goto 4, 3) := by decide +kernel
theorem dX7_hears_179 : decode cX7_hears 179 = .ok (.iload_n 3, 1) := by decide +kernel
theorem dX7_hears_180 : decode cX7_hears 180 = .ok (.ireturn, 1) := by decide +kernel
theorem dX7_otherThan_0 : decode cX7_otherThan 0 = .ok (.iconst 0, 1) := by decide +kernel
theorem dX7_otherThan_1 : decode cX7_otherThan 1 = .ok (.istore_n 2, 1) := by decide +kernel
theorem dX7_otherThan_2 : decode cX7_otherThan 2 = .ok (.iconst 0, 1) := by decide +kernel
theorem dX7_otherThan_3 : decode cX7_otherThan 3 = .ok (.istore_n 3, 1) := by decide +kernel
theorem dX7_otherThan_4 : decode cX7_otherThan 4 = .ok (.iload_n 3, 1) := by decide +kernel
theorem dX7_otherThan_5 : decode cX7_otherThan 5 = .ok (.aload_n 0, 1) := by decide +kernel
theorem dX7_otherThan_6 : decode cX7_otherThan 6 = .ok (.getfield 318, 3) := by decide +kernel
theorem dX7_otherThan_9 : decode cX7_otherThan 9 = .ok (.if_icmp .ge 226, 3) := by decide +kernel
theorem dX7_otherThan_12 : decode cX7_otherThan 12 = .ok (.iconst 0, 1) := by decide +kernel
theorem dX7_otherThan_13 : decode cX7_otherThan 13 = .ok (.istore 4, 2) := by decide +kernel
theorem dX7_otherThan_15 : decode cX7_otherThan 15 = .ok (.iload 4, 2) := by decide +kernel
theorem dX7_otherThan_17 : decode cX7_otherThan 17 = .ok (.bipush 24, 2) := by decide +kernel
theorem dX7_otherThan_19 : decode cX7_otherThan 19 = .ok (.if_icmp .ge 66, 3) := by decide +kernel
theorem dX7_otherThan_22 : decode cX7_otherThan 22 = .ok (.aload_n 0, 1) := by decide +kernel
theorem dX7_otherThan_23 : decode cX7_otherThan 23 = .ok (.getfield 107, 3) := by decide +kernel
theorem dX7_otherThan_26 : decode cX7_otherThan 26 = .ok (.iload 4, 2) := by decide +kernel
theorem dX7_otherThan_28 : decode cX7_otherThan 28 = .ok (.aload_n 0, 1) := by decide +kernel
theorem dX7_otherThan_29 : decode cX7_otherThan 29 = .ok (.getfield 80, 3) := by decide +kernel
theorem dX7_otherThan_32 : decode cX7_otherThan 32 = .ok (.bipush 24, 2) := by decide +kernel
theorem dX7_otherThan_34 : decode cX7_otherThan 34 = .ok (.iload_n 3, 1) := by decide +kernel
theorem dX7_otherThan_35 : decode cX7_otherThan 35 = .ok (.imul, 1) := by decide +kernel
theorem dX7_otherThan_36 : decode cX7_otherThan 36 = .ok (.iload 4, 2) := by decide +kernel
theorem dX7_otherThan_38 : decode cX7_otherThan 38 = .ok (.iadd, 1) := by decide +kernel
theorem dX7_otherThan_39 : decode cX7_otherThan 39 = .ok (.iaload, 1) := by decide +kernel
theorem dX7_otherThan_40 : decode cX7_otherThan 40 = .ok (.iastore, 1) := by decide +kernel
theorem dX7_otherThan_41 : decode cX7_otherThan 41 = .ok (.aload_n 0, 1) := by decide +kernel
theorem dX7_otherThan_42 : decode cX7_otherThan 42 = .ok (.getfield 110, 3) := by decide +kernel
theorem dX7_otherThan_45 : decode cX7_otherThan 45 = .ok (.iload 4, 2) := by decide +kernel
theorem dX7_otherThan_47 : decode cX7_otherThan 47 = .ok (.aload_n 0, 1) := by decide +kernel
theorem dX7_otherThan_48 : decode cX7_otherThan 48 = .ok (.getfield 83, 3) := by decide +kernel
theorem dX7_otherThan_51 : decode cX7_otherThan 51 = .ok (.bipush 24, 2) := by decide +kernel
theorem dX7_otherThan_53 : decode cX7_otherThan 53 = .ok (.iload_n 3, 1) := by decide +kernel
theorem dX7_otherThan_54 : decode cX7_otherThan 54 = .ok (.imul, 1) := by decide +kernel
theorem dX7_otherThan_55 : decode cX7_otherThan 55 = .ok (.iload 4, 2) := by decide +kernel
theorem dX7_otherThan_57 : decode cX7_otherThan 57 = .ok (.iadd, 1) := by decide +kernel
theorem dX7_otherThan_58 : decode cX7_otherThan 58 = .ok (.iaload, 1) := by decide +kernel
theorem dX7_otherThan_59 : decode cX7_otherThan 59 = .ok (.iastore, 1) := by decide +kernel
theorem dX7_otherThan_60 : decode cX7_otherThan 60 = .ok (.aload_n 0, 1) := by decide +kernel
theorem dX7_otherThan_61 : decode cX7_otherThan 61 = .ok (.getfield 113, 3) := by decide +kernel
theorem dX7_otherThan_64 : decode cX7_otherThan 64 = .ok (.iload 4, 2) := by decide +kernel
theorem dX7_otherThan_66 : decode cX7_otherThan 66 = .ok (.aload_n 0, 1) := by decide +kernel
theorem dX7_otherThan_67 : decode cX7_otherThan 67 = .ok (.getfield 86, 3) := by decide +kernel
theorem dX7_otherThan_70 : decode cX7_otherThan 70 = .ok (.bipush 24, 2) := by decide +kernel
theorem dX7_otherThan_72 : decode cX7_otherThan 72 = .ok (.iload_n 3, 1) := by decide +kernel
theorem dX7_otherThan_73 : decode cX7_otherThan 73 = .ok (.imul, 1) := by decide +kernel
theorem dX7_otherThan_74 : decode cX7_otherThan 74 = .ok (.iload 4, 2) := by decide +kernel
theorem dX7_otherThan_76 : decode cX7_otherThan 76 = .ok (.iadd, 1) := by decide +kernel
theorem dX7_otherThan_77 : decode cX7_otherThan 77 = .ok (.iaload, 1) := by decide +kernel
theorem dX7_otherThan_78 : decode cX7_otherThan 78 = .ok (.iastore, 1) := by decide +kernel
theorem dX7_otherThan_79 : decode cX7_otherThan 79 = .ok (.iinc 4 1, 3) := by decide +kernel
theorem dX7_otherThan_82 : decode cX7_otherThan 82 = .ok (.goto (-67), 3) := by decide +kernel
theorem dX7_otherThan_85 : decode cX7_otherThan 85 = .ok (.iconst 0, 1) := by decide +kernel
theorem dX7_otherThan_86 : decode cX7_otherThan 86 = .ok (.istore 4, 2) := by decide +kernel
theorem dX7_otherThan_88 : decode cX7_otherThan 88 = .ok (.iload 4, 2) := by decide +kernel
theorem dX7_otherThan_90 : decode cX7_otherThan 90 = .ok (.aload_n 0, 1) := by decide +kernel
theorem dX7_otherThan_91 : decode cX7_otherThan 91 = .ok (.getfield 95, 3) := by decide +kernel
theorem dX7_otherThan_94 : decode cX7_otherThan 94 = .ok (.iload_n 3, 1) := by decide +kernel
theorem dX7_otherThan_95 : decode cX7_otherThan 95 = .ok (.iaload, 1) := by decide +kernel
theorem dX7_otherThan_96 : decode cX7_otherThan 96 = .ok (.if_icmp .ge 133, 3) := by decide +kernel
theorem dX7_otherThan_99 : decode cX7_otherThan 99 = .ok (.aload_n 0, 1) := by decide +kernel
theorem dX7_otherThan_100 : decode cX7_otherThan 100 = .ok (.getfield 107, 3) := by decide +kernel
theorem dX7_otherThan_103 : decode cX7_otherThan 103 = .ok (.iload_n 1, 1) := by decide +kernel
theorem dX7_otherThan_104 : decode cX7_otherThan 104 = .ok (.iaload, 1) := by decide +kernel
theorem dX7_otherThan_105 : decode cX7_otherThan 105 = .ok (.iconst (-1), 1) := by decide +kernel
theorem dX7_otherThan_106 : decode cX7_otherThan 106 = .ok (.if_icmp .eq 123, 3) := by decide +kernel
theorem dX7_otherThan_109 : decode cX7_otherThan 109 = .ok (.aload_n 0, 1) := by decide +kernel
theorem dX7_otherThan_110 : decode cX7_otherThan 110 = .ok (.getfield 110, 3) := by decide +kernel
theorem dX7_otherThan_113 : decode cX7_otherThan 113 = .ok (.iload_n 1, 1) := by decide +kernel
theorem dX7_otherThan_114 : decode cX7_otherThan 114 = .ok (.iaload, 1) := by decide +kernel
theorem dX7_otherThan_115 : decode cX7_otherThan 115 = .ok (.iconst 1, 1) := by decide +kernel
theorem dX7_otherThan_116 : decode cX7_otherThan 116 = .ok (.if_icmp .ne 18, 3) := by decide +kernel
theorem dX7_otherThan_119 : decode cX7_otherThan 119 = .ok (.aload_n 0, 1) := by decide +kernel
theorem dX7_otherThan_120 : decode cX7_otherThan 120 = .ok (.getfield 89, 3) := by decide +kernel
theorem dX7_otherThan_123 : decode cX7_otherThan 123 = .ok (.bipush 40, 2) := by decide +kernel
theorem dX7_otherThan_125 : decode cX7_otherThan 125 = .ok (.iload_n 3, 1) := by decide +kernel
theorem dX7_otherThan_126 : decode cX7_otherThan 126 = .ok (.imul, 1) := by decide +kernel
theorem dX7_otherThan_127 : decode cX7_otherThan 127 = .ok (.iload 4, 2) := by decide +kernel
theorem dX7_otherThan_129 : decode cX7_otherThan 129 = .ok (.iadd, 1) := by decide +kernel
theorem dX7_otherThan_130 : decode cX7_otherThan 130 = .ok (.iaload, 1) := by decide +kernel
theorem dX7_otherThan_131 : decode cX7_otherThan 131 = .ok (.goto 15, 3) := by decide +kernel
theorem dX7_otherThan_134 : decode cX7_otherThan 134 = .ok (.aload_n 0, 1) := by decide +kernel
theorem dX7_otherThan_135 : decode cX7_otherThan 135 = .ok (.getfield 92, 3) := by decide +kernel
theorem dX7_otherThan_138 : decode cX7_otherThan 138 = .ok (.bipush 40, 2) := by decide +kernel
theorem dX7_otherThan_140 : decode cX7_otherThan 140 = .ok (.iload_n 3, 1) := by decide +kernel
theorem dX7_otherThan_141 : decode cX7_otherThan 141 = .ok (.imul, 1) := by decide +kernel
theorem dX7_otherThan_142 : decode cX7_otherThan 142 = .ok (.iload 4, 2) := by decide +kernel
theorem dX7_otherThan_144 : decode cX7_otherThan 144 = .ok (.iadd, 1) := by decide +kernel
theorem dX7_otherThan_145 : decode cX7_otherThan 145 = .ok (.iaload, 1) := by decide +kernel
theorem dX7_otherThan_146 : decode cX7_otherThan 146 = .ok (.istore 5, 2) := by decide +kernel
theorem dX7_otherThan_148 : decode cX7_otherThan 148 = .ok (.aload_n 0, 1) := by decide +kernel
theorem dX7_otherThan_149 : decode cX7_otherThan 149 = .ok (.aload_n 0, 1) := by decide +kernel
theorem dX7_otherThan_150 : decode cX7_otherThan 150 = .ok (.getfield 77, 3) := by decide +kernel
theorem dX7_otherThan_153 : decode cX7_otherThan 153 = .ok (.sipush 960, 3) := by decide +kernel
theorem dX7_otherThan_156 : decode cX7_otherThan 156 = .ok (.iload_n 3, 1) := by decide +kernel
theorem dX7_otherThan_157 : decode cX7_otherThan 157 = .ok (.imul, 1) := by decide +kernel
theorem dX7_otherThan_158 : decode cX7_otherThan 158 = .ok (.aload_n 0, 1) := by decide +kernel
theorem dX7_otherThan_159 : decode cX7_otherThan 159 = .ok (.getfield 107, 3) := by decide +kernel
theorem dX7_otherThan_162 : decode cX7_otherThan 162 = .ok (.aload_n 0, 1) := by decide +kernel
theorem dX7_otherThan_163 : decode cX7_otherThan 163 = .ok (.getfield 113, 3) := by decide +kernel
theorem dX7_otherThan_166 : decode cX7_otherThan 166 = .ok (.aload_n 0, 1) := by decide +kernel
theorem dX7_otherThan_167 : decode cX7_otherThan 167 = .ok (.getfield 110, 3) := by decide +kernel
theorem dX7_otherThan_170 : decode cX7_otherThan 170 = .ok (.iload 5, 2) := by decide +kernel
theorem dX7_otherThan_172 : decode cX7_otherThan 172 = .ok (.aload_n 0, 1) := by decide +kernel
theorem dX7_otherThan_173 : decode cX7_otherThan 173 = .ok (.getfield 98, 3) := by decide +kernel
theorem dX7_otherThan_176 : decode cX7_otherThan 176 = .ok (.iload_n 3, 1) := by decide +kernel
theorem dX7_otherThan_177 : decode cX7_otherThan 177 = .ok (.iaload, 1) := by decide +kernel
theorem dX7_otherThan_178 : decode cX7_otherThan 178 = .ok (.iload_n 1, 1) := by decide +kernel
theorem dX7_otherThan_179 : decode cX7_otherThan 179 = .ok (.iload 4, 2) := by decide +kernel
theorem dX7_otherThan_181 : decode cX7_otherThan 181 = .ok (.invokevirtual 261, 3) := by decide +kernel
theorem dX7_otherThan_184 : decode cX7_otherThan 184 = .ok (.iload_n 2, 1) := by decide +kernel
theorem dX7_otherThan_185 : decode cX7_otherThan 185 = .ok (.aload_n 0, 1) := by decide +kernel
theorem dX7_otherThan_186 : decode cX7_otherThan 186 = .ok (.aload_n 0, 1) := by decide +kernel
theorem dX7_otherThan_187 : decode cX7_otherThan 187 = .ok (.getfield 107, 3) := by decide +kernel
theorem dX7_otherThan_190 : decode cX7_otherThan 190 = .ok (.iload_n 1, 1) := by decide +kernel
theorem dX7_otherThan_191 : decode cX7_otherThan 191 = .ok (.iaload, 1) := by decide +kernel
theorem dX7_otherThan_192 : decode cX7_otherThan 192 = .ok (.invokevirtual 265, 3) := by decide +kernel
theorem dX7_otherThan_195 : decode cX7_otherThan 195 = .ok (.aload_n 0, 1) := by decide +kernel
theorem dX7_otherThan_196 : decode cX7_otherThan 196 = .ok (.getfield 77, 3) := by decide +kernel
theorem dX7_otherThan_199 : decode cX7_otherThan 199 = .ok (.sipush 960, 3) := by decide +kernel
theorem dX7_otherThan_202 : decode cX7_otherThan 202 = .ok (.iload_n 3, 1) := by decide +kernel
theorem dX7_otherThan_203 : decode cX7_otherThan 203 = .ok (.imul, 1) := by decide +kernel
theorem dX7_otherThan_204 : decode cX7_otherThan 204 = .ok (.bipush 24, 2) := by decide +kernel
theorem dX7_otherThan_206 : decode cX7_otherThan 206 = .ok (.iload 4, 2) := by decide +kernel
theorem dX7_otherThan_208 : decode cX7_otherThan 208 = .ok (.imul, 1) := by decide +kernel
theorem dX7_otherThan_209 : decode cX7_otherThan 209 = .ok (.iadd, 1) := by decide +kernel
theorem dX7_otherThan_210 : decode cX7_otherThan 210 = .ok (.iload_n 1, 1) := by decide +kernel
theorem dX7_otherThan_211 : decode cX7_otherThan 211 = .ok (.iadd, 1) := by decide +kernel
theorem dX7_otherThan_212 : decode cX7_otherThan 212 = .ok (.iaload, 1) := by decide +kernel
theorem dX7_otherThan_213 : decode cX7_otherThan 213 = .ok (.if_icmp .ne 7, 3) := by decide +kernel
theorem dX7_otherThan_216 : decode cX7_otherThan 216 = .ok (.iconst 0, 1) := by decide +kernel
theorem dX7_otherThan_217 : decode cX7_otherThan 217 = .ok (.goto 4, 3) := by decide +kernel
theorem dX7_otherThan_220 : decode cX7_otherThan 220 = .ok (.iconst 1, 1) := by decide +kernel
theorem dX7_otherThan_221 : decode cX7_otherThan 221 = .ok (.iadd, 1) := by decide +kernel
theorem dX7_otherThan_222 : decode cX7_otherThan 222 = .ok (.istore_n 2, 1) := by decide +kernel
theorem dX7_otherThan_223 : decode cX7_otherThan 223 = .ok (.iinc 4 1, 3) := by decide +kernel
theorem dX7_otherThan_226 : decode cX7_otherThan 226 = .ok (.goto (-138), 3) := by decide +kernel
theorem dX7_otherThan_229 : decode cX7_otherThan 229 = .ok (.iinc 3 1, 3) := by decide +kernel
theorem dX7_otherThan_232 : decode cX7_otherThan 232 = .ok (.goto (-228), 3) := by decide +kernel
theorem dX7_otherThan_235 : decode cX7_otherThan 235 = .ok (.iload_n 2, 1) := by decide +kernel
theorem dX7_otherThan_236 : decode cX7_otherThan 236 = .ok (.ireturn, 1) := by decide +kernel
theorem dX7_otherwise_0 : decode cX7_otherwise 0 = .ok (.iload_n 1, 1) := by decide +kernel
theorem dX7_otherwise_1 : decode cX7_otherwise 1 = .ok (.invokestatic 141, 3) := by decide +kernel
theorem dX7_otherwise_4 : decode cX7_otherwise 4 = .ok (.ifCond .eq 19, 3) := by decide +kernel
theorem dX7_otherwise_7 : decode cX7_otherwise 7 = .ok (.aload_n 0, 1) := by decide +kernel
theorem dX7_otherwise_8 : decode cX7_otherwise 8 = .ok (.iload_n 1, 1) := by decide +kernel
theorem dX7_otherwise_9 : decode cX7_otherwise 9 = .ok (.invokevirtual 129, 3) := by decide +kernel
theorem dX7_otherwise_12 : decode cX7_otherwise 12 = .ok (.ifCond .eq 11, 3) := by decide +kernel
theorem dX7_otherwise_15 : decode cX7_otherwise 15 = .ok (.aload_n 0, 1) := by decide +kernel
theorem dX7_otherwise_16 : decode cX7_otherwise 16 = .ok (.iload_n 1, 1) := by decide +kernel
theorem dX7_otherwise_17 : decode cX7_otherwise 17 = .ok (.invokevirtual 321, 3) := by decide +kernel
theorem dX7_otherwise_20 : decode cX7_otherwise 20 = .ok (.goto 4, 3) := by decide +kernel
theorem dX7_otherwise_23 : decode cX7_otherwise 23 = .ok (.iconst (-1), 1) := by decide +kernel
theorem dX7_otherwise_24 : decode cX7_otherwise 24 = .ok (.ireturn, 1) := by decide +kernel
theorem dX7_suspects_0 : decode cX7_suspects 0 = .ok (.iload_n 1, 1) := by decide +kernel
theorem dX7_suspects_1 : decode cX7_suspects 1 = .ok (.iconst 1, 1) := by decide +kernel
theorem dX7_suspects_2 : decode cX7_suspects 2 = .ok (.sipush 800, 3) := by decide +kernel
theorem dX7_suspects_5 : decode cX7_suspects 5 = .ok (.invokestatic 133, 3) := by decide +kernel
theorem dX7_suspects_8 : decode cX7_suspects 8 = .ok (.ifCond .ne 5, 3) := by decide +kernel
theorem dX7_suspects_11 : decode cX7_suspects 11 = .ok (.iconst (-1), 1) := by decide +kernel
theorem dX7_suspects_12 : decode cX7_suspects 12 = .ok (.ireturn, 1) := by decide +kernel
theorem dX7_suspects_13 : decode cX7_suspects 13 = .ok (.iconst 0, 1) := by decide +kernel
theorem dX7_suspects_14 : decode cX7_suspects 14 = .ok (.istore_n 2, 1) := by decide +kernel
theorem dX7_suspects_15 : decode cX7_suspects 15 = .ok (.iconst 0, 1) := by decide +kernel
theorem dX7_suspects_16 : decode cX7_suspects 16 = .ok (.istore_n 3, 1) := by decide +kernel
theorem dX7_suspects_17 : decode cX7_suspects 17 = .ok (.iload_n 3, 1) := by decide +kernel
theorem dX7_suspects_18 : decode cX7_suspects 18 = .ok (.bipush 24, 2) := by decide +kernel
theorem dX7_suspects_20 : decode cX7_suspects 20 = .ok (.if_icmp .ge 36, 3) := by decide +kernel
theorem dX7_suspects_23 : decode cX7_suspects 23 = .ok (.aload_n 0, 1) := by decide +kernel
theorem dX7_suspects_24 : decode cX7_suspects 24 = .ok (.iload_n 3, 1) := by decide +kernel
theorem dX7_suspects_25 : decode cX7_suspects 25 = .ok (.invokevirtual 129, 3) := by decide +kernel
theorem dX7_suspects_28 : decode cX7_suspects 28 = .ok (.ifCond .eq 20, 3) := by decide +kernel
theorem dX7_suspects_31 : decode cX7_suspects 31 = .ok (.aload_n 0, 1) := by decide +kernel
theorem dX7_suspects_32 : decode cX7_suspects 32 = .ok (.iload_n 3, 1) := by decide +kernel
theorem dX7_suspects_33 : decode cX7_suspects 33 = .ok (.invokevirtual 321, 3) := by decide +kernel
theorem dX7_suspects_36 : decode cX7_suspects 36 = .ok (.iload_n 1, 1) := by decide +kernel
theorem dX7_suspects_37 : decode cX7_suspects 37 = .ok (.if_icmp .lt 11, 3) := by decide +kernel
theorem dX7_suspects_40 : decode cX7_suspects 40 = .ok (.iload_n 2, 1) := by decide +kernel
theorem dX7_suspects_41 : decode cX7_suspects 41 = .ok (.iconst 1, 1) := by decide +kernel
theorem dX7_suspects_42 : decode cX7_suspects 42 = .ok (.iload_n 3, 1) := by decide +kernel
theorem dX7_suspects_43 : decode cX7_suspects 43 = .ok (.ishl, 1) := by decide +kernel
theorem dX7_suspects_44 : decode cX7_suspects 44 = .ok (.ior, 1) := by decide +kernel
theorem dX7_suspects_45 : decode cX7_suspects 45 = .ok (.goto 4, 3) := by decide +kernel
theorem dX7_suspects_48 : decode cX7_suspects 48 = .ok (.iload_n 2, 1) := by decide +kernel
theorem dX7_suspects_49 : decode cX7_suspects 49 = .ok (.istore_n 2, 1) := by decide +kernel
theorem dX7_suspects_50 : decode cX7_suspects 50 = .ok (.iinc 3 1, 3) := by decide +kernel
theorem dX7_suspects_53 : decode cX7_suspects 53 = .ok (.goto (-36), 3) := by decide +kernel
theorem dX7_suspects_56 : decode cX7_suspects 56 = .ok (.iload_n 2, 1) := by decide +kernel
theorem dX7_suspects_57 : decode cX7_suspects 57 = .ok (.ireturn, 1) := by decide +kernel
theorem dX7_choose_0 : decode cX7_choose 0 = .ok (.iload_n 1, 1) := by decide +kernel
theorem dX7_choose_1 : decode cX7_choose 1 = .ok (.ifCond .lt 8, 3) := by decide +kernel
theorem dX7_choose_4 : decode cX7_choose 4 = .ok (.iload_n 1, 1) := by decide +kernel
theorem dX7_choose_5 : decode cX7_choose 5 = .ok (.iload_n 0, 1) := by decide +kernel
theorem dX7_choose_6 : decode cX7_choose 6 = .ok (.if_icmp .le 5, 3) := by decide +kernel
theorem dX7_choose_9 : decode cX7_choose 9 = .ok (.lconst 0, 1) := by decide +kernel
theorem dX7_choose_10 : decode cX7_choose 10 = .ok (.lreturn, 1) := by decide +kernel
theorem dX7_choose_11 : decode cX7_choose 11 = .ok (.lconst 1, 1) := by decide +kernel
theorem dX7_choose_12 : decode cX7_choose 12 = .ok (.lstore_n 2, 1) := by decide +kernel
theorem dX7_choose_13 : decode cX7_choose 13 = .ok (.iconst 1, 1) := by decide +kernel
theorem dX7_choose_14 : decode cX7_choose 14 = .ok (.istore 4, 2) := by decide +kernel
theorem dX7_choose_16 : decode cX7_choose 16 = .ok (.iload 4, 2) := by decide +kernel
theorem dX7_choose_18 : decode cX7_choose 18 = .ok (.iload_n 1, 1) := by decide +kernel
theorem dX7_choose_19 : decode cX7_choose 19 = .ok (.if_icmp .gt 23, 3) := by decide +kernel
theorem dX7_choose_22 : decode cX7_choose 22 = .ok (.lload_n 2, 1) := by decide +kernel
theorem dX7_choose_23 : decode cX7_choose 23 = .ok (.iload_n 0, 1) := by decide +kernel
theorem dX7_choose_24 : decode cX7_choose 24 = .ok (.iload_n 1, 1) := by decide +kernel
theorem dX7_choose_25 : decode cX7_choose 25 = .ok (.isub, 1) := by decide +kernel
theorem dX7_choose_26 : decode cX7_choose 26 = .ok (.iload 4, 2) := by decide +kernel
theorem dX7_choose_28 : decode cX7_choose 28 = .ok (.iadd, 1) := by decide +kernel
theorem dX7_choose_29 : decode cX7_choose 29 = .ok (.i2l, 1) := by decide +kernel
theorem dX7_choose_30 : decode cX7_choose 30 = .ok (.lmul, 1) := by decide +kernel
theorem dX7_choose_31 : decode cX7_choose 31 = .ok (.iload 4, 2) := by decide +kernel
theorem dX7_choose_33 : decode cX7_choose 33 = .ok (.i2l, 1) := by decide +kernel
theorem dX7_choose_34 : decode cX7_choose 34 = .ok (.ldiv, 1) := by decide +kernel
theorem dX7_choose_35 : decode cX7_choose 35 = .ok (.lstore_n 2, 1) := by decide +kernel
theorem dX7_choose_36 : decode cX7_choose 36 = .ok (.iinc 4 1, 3) := by decide +kernel
theorem dX7_choose_39 : decode cX7_choose 39 = .ok (.goto (-23), 3) := by decide +kernel
theorem dX7_choose_42 : decode cX7_choose 42 = .ok (.lload_n 2, 1) := by decide +kernel
theorem dX7_choose_43 : decode cX7_choose 43 = .ok (.lreturn, 1) := by decide +kernel
theorem dX7_funnier_0 : decode cX7_funnier 0 = .ok (.iload_n 1, 1) := by decide +kernel
theorem dX7_funnier_1 : decode cX7_funnier 1 = .ok (.iconst 1, 1) := by decide +kernel
theorem dX7_funnier_2 : decode cX7_funnier 2 = .ok (.bipush 20, 2) := by decide +kernel
theorem dX7_funnier_4 : decode cX7_funnier 4 = .ok (.invokestatic 133, 3) := by decide +kernel
theorem dX7_funnier_7 : decode cX7_funnier 7 = .ok (.ifCond .eq 43, 3) := by decide +kernel
theorem dX7_funnier_10 : decode cX7_funnier 10 = .ok (.iload_n 2, 1) := by decide +kernel
theorem dX7_funnier_11 : decode cX7_funnier 11 = .ok (.iconst 0, 1) := by decide +kernel
theorem dX7_funnier_12 : decode cX7_funnier 12 = .ok (.iload_n 1, 1) := by decide +kernel
theorem dX7_funnier_13 : decode cX7_funnier 13 = .ok (.invokestatic 133, 3) := by decide +kernel
theorem dX7_funnier_16 : decode cX7_funnier 16 = .ok (.ifCond .eq 34, 3) := by decide +kernel
theorem dX7_funnier_19 : decode cX7_funnier 19 = .ok (.iload_n 3, 1) := by decide +kernel
theorem dX7_funnier_20 : decode cX7_funnier 20 = .ok (.iconst 0, 1) := by decide +kernel
theorem dX7_funnier_21 : decode cX7_funnier 21 = .ok (.iload_n 2, 1) := by decide +kernel
theorem dX7_funnier_22 : decode cX7_funnier 22 = .ok (.invokestatic 133, 3) := by decide +kernel
theorem dX7_funnier_25 : decode cX7_funnier 25 = .ok (.ifCond .eq 25, 3) := by decide +kernel
theorem dX7_funnier_28 : decode cX7_funnier 28 = .ok (.iload 4, 2) := by decide +kernel
theorem dX7_funnier_30 : decode cX7_funnier 30 = .ok (.iconst 0, 1) := by decide +kernel
theorem dX7_funnier_31 : decode cX7_funnier 31 = .ok (.iload_n 1, 1) := by decide +kernel
theorem dX7_funnier_32 : decode cX7_funnier 32 = .ok (.iload_n 2, 1) := by decide +kernel
theorem dX7_funnier_33 : decode cX7_funnier 33 = .ok (.isub, 1) := by decide +kernel
theorem dX7_funnier_34 : decode cX7_funnier 34 = .ok (.invokestatic 133, 3) := by decide +kernel
theorem dX7_funnier_37 : decode cX7_funnier 37 = .ok (.ifCond .eq 13, 3) := by decide +kernel
theorem dX7_funnier_40 : decode cX7_funnier 40 = .ok (.iload 5, 2) := by decide +kernel
theorem dX7_funnier_42 : decode cX7_funnier 42 = .ok (.iconst 0, 1) := by decide +kernel
theorem dX7_funnier_43 : decode cX7_funnier 43 = .ok (.iconst 1, 1) := by decide +kernel
theorem dX7_funnier_44 : decode cX7_funnier 44 = .ok (.invokestatic 133, 3) := by decide +kernel
theorem dX7_funnier_47 : decode cX7_funnier 47 = .ok (.ifCond .ne 7, 3) := by decide +kernel
theorem dX7_funnier_50 : decode cX7_funnier 50 = .ok (.ldc2_w 324, 3) := by decide +kernel
theorem dX7_funnier_53 : decode cX7_funnier 53 = .ok (.lreturn, 1) := by decide +kernel
theorem dX7_funnier_54 : decode cX7_funnier 54 = .ok (.lconst 0, 1) := by decide +kernel
theorem dX7_funnier_55 : decode cX7_funnier 55 = .ok (.lstore 6, 2) := by decide +kernel
theorem dX7_funnier_57 : decode cX7_funnier 57 = .ok (.iload_n 3, 1) := by decide +kernel
theorem dX7_funnier_58 : decode cX7_funnier 58 = .ok (.istore 8, 2) := by decide +kernel
theorem dX7_funnier_60 : decode cX7_funnier 60 = .ok (.iload 8, 2) := by decide +kernel
theorem dX7_funnier_62 : decode cX7_funnier 62 = .ok (.iload_n 2, 1) := by decide +kernel
theorem dX7_funnier_63 : decode cX7_funnier 63 = .ok (.if_icmp .gt 37, 3) := by decide +kernel
theorem dX7_funnier_66 : decode cX7_funnier 66 = .ok (.lload 6, 2) := by decide +kernel
theorem dX7_funnier_68 : decode cX7_funnier 68 = .ok (.iload_n 3, 1) := by decide +kernel
theorem dX7_funnier_69 : decode cX7_funnier 69 = .ok (.iload 4, 2) := by decide +kernel
theorem dX7_funnier_71 : decode cX7_funnier 71 = .ok (.iadd, 1) := by decide +kernel
theorem dX7_funnier_72 : decode cX7_funnier 72 = .ok (.iload 8, 2) := by decide +kernel
theorem dX7_funnier_74 : decode cX7_funnier 74 = .ok (.invokestatic 326, 3) := by decide +kernel
theorem dX7_funnier_77 : decode cX7_funnier 77 = .ok (.iload_n 1, 1) := by decide +kernel
theorem dX7_funnier_78 : decode cX7_funnier 78 = .ok (.iload_n 3, 1) := by decide +kernel
theorem dX7_funnier_79 : decode cX7_funnier 79 = .ok (.isub, 1) := by decide +kernel
theorem dX7_funnier_80 : decode cX7_funnier 80 = .ok (.iload 4, 2) := by decide +kernel
theorem dX7_funnier_82 : decode cX7_funnier 82 = .ok (.isub, 1) := by decide +kernel
theorem dX7_funnier_83 : decode cX7_funnier 83 = .ok (.iload_n 2, 1) := by decide +kernel
theorem dX7_funnier_84 : decode cX7_funnier 84 = .ok (.iload 8, 2) := by decide +kernel
theorem dX7_funnier_86 : decode cX7_funnier 86 = .ok (.isub, 1) := by decide +kernel
theorem dX7_funnier_87 : decode cX7_funnier 87 = .ok (.invokestatic 326, 3) := by decide +kernel
theorem dX7_funnier_90 : decode cX7_funnier 90 = .ok (.lmul, 1) := by decide +kernel
theorem dX7_funnier_91 : decode cX7_funnier 91 = .ok (.ladd, 1) := by decide +kernel
theorem dX7_funnier_92 : decode cX7_funnier 92 = .ok (.lstore 6, 2) := by decide +kernel
theorem dX7_funnier_94 : decode cX7_funnier 94 = .ok (.iinc 8 1, 3) := by decide +kernel
theorem dX7_funnier_97 : decode cX7_funnier 97 = .ok (.goto (-37), 3) := by decide +kernel
theorem dX7_funnier_100 : decode cX7_funnier 100 = .ok (.iload_n 1, 1) := by decide +kernel
theorem dX7_funnier_101 : decode cX7_funnier 101 = .ok (.iload_n 2, 1) := by decide +kernel
theorem dX7_funnier_102 : decode cX7_funnier 102 = .ok (.invokestatic 326, 3) := by decide +kernel
theorem dX7_funnier_105 : decode cX7_funnier 105 = .ok (.lstore 8, 2) := by decide +kernel
theorem dX7_funnier_107 : decode cX7_funnier 107 = .ok (.lload 6, 2) := by decide +kernel
theorem dX7_funnier_109 : decode cX7_funnier 109 = .ok (.lstore 10, 2) := by decide +kernel
theorem dX7_funnier_111 : decode cX7_funnier 111 = .ok (.lload 8, 2) := by decide +kernel
theorem dX7_funnier_113 : decode cX7_funnier 113 = .ok (.lstore 12, 2) := by decide +kernel
theorem dX7_funnier_115 : decode cX7_funnier 115 = .ok (.lload 12, 2) := by decide +kernel
theorem dX7_funnier_117 : decode cX7_funnier 117 = .ok (.lconst 0, 1) := by decide +kernel
theorem dX7_funnier_118 : decode cX7_funnier 118 = .ok (.lcmp, 1) := by decide +kernel
theorem dX7_funnier_119 : decode cX7_funnier 119 = .ok (.ifCond .eq 21, 3) := by decide +kernel
theorem dX7_funnier_122 : decode cX7_funnier 122 = .ok (.lload 10, 2) := by decide +kernel
theorem dX7_funnier_124 : decode cX7_funnier 124 = .ok (.lload 12, 2) := by decide +kernel
theorem dX7_funnier_126 : decode cX7_funnier 126 = .ok (.lrem, 1) := by decide +kernel
theorem dX7_funnier_127 : decode cX7_funnier 127 = .ok (.lstore 14, 2) := by decide +kernel
theorem dX7_funnier_129 : decode cX7_funnier 129 = .ok (.lload 12, 2) := by decide +kernel
theorem dX7_funnier_131 : decode cX7_funnier 131 = .ok (.lstore 10, 2) := by decide +kernel
theorem dX7_funnier_133 : decode cX7_funnier 133 = .ok (.lload 14, 2) := by decide +kernel
theorem dX7_funnier_135 : decode cX7_funnier 135 = .ok (.lstore 12, 2) := by decide +kernel
theorem dX7_funnier_137 : decode cX7_funnier 137 = .ok (.goto (-22), 3) := by decide +kernel
theorem dX7_funnier_140 : decode cX7_funnier 140 = .ok (.iload 5, 2) := by decide +kernel
theorem dX7_funnier_142 : decode cX7_funnier 142 = .ok (.ifCond .ne 11, 3) := by decide +kernel
theorem dX7_funnier_145 : decode cX7_funnier 145 = .ok (.lload 6, 2) := by decide +kernel
theorem dX7_funnier_147 : decode cX7_funnier 147 = .ok (.lload 10, 2) := by decide +kernel
theorem dX7_funnier_149 : decode cX7_funnier 149 = .ok (.ldiv, 1) := by decide +kernel
theorem dX7_funnier_150 : decode cX7_funnier 150 = .ok (.goto 8, 3) := by decide +kernel
theorem dX7_funnier_153 : decode cX7_funnier 153 = .ok (.lload 8, 2) := by decide +kernel
theorem dX7_funnier_155 : decode cX7_funnier 155 = .ok (.lload 10, 2) := by decide +kernel
theorem dX7_funnier_157 : decode cX7_funnier 157 = .ok (.ldiv, 1) := by decide +kernel
theorem dX7_funnier_158 : decode cX7_funnier 158 = .ok (.lreturn, 1) := by decide +kernel
theorem dX7_years_0 : decode cX7_years 0 = .ok (.iload_n 1, 1) := by decide +kernel
theorem dX7_years_1 : decode cX7_years 1 = .ok (.iconst 0, 1) := by decide +kernel
theorem dX7_years_2 : decode cX7_years 2 = .ok (.sipush 10000, 3) := by decide +kernel
theorem dX7_years_5 : decode cX7_years 5 = .ok (.invokestatic 133, 3) := by decide +kernel
theorem dX7_years_8 : decode cX7_years 8 = .ok (.ifCond .eq 36, 3) := by decide +kernel
theorem dX7_years_11 : decode cX7_years 11 = .ok (.iload_n 2, 1) := by decide +kernel
theorem dX7_years_12 : decode cX7_years 12 = .ok (.iconst 0, 1) := by decide +kernel
theorem dX7_years_13 : decode cX7_years 13 = .ok (.sipush 10000, 3) := by decide +kernel
theorem dX7_years_16 : decode cX7_years 16 = .ok (.invokestatic 133, 3) := by decide +kernel
theorem dX7_years_19 : decode cX7_years 19 = .ok (.ifCond .eq 25, 3) := by decide +kernel
theorem dX7_years_22 : decode cX7_years 22 = .ok (.iload_n 3, 1) := by decide +kernel
theorem dX7_years_23 : decode cX7_years 23 = .ok (.iconst 1, 1) := by decide +kernel
theorem dX7_years_24 : decode cX7_years 24 = .ok (.bipush 50, 2) := by decide +kernel
theorem dX7_years_26 : decode cX7_years 26 = .ok (.invokestatic 133, 3) := by decide +kernel
theorem dX7_years_29 : decode cX7_years 29 = .ok (.ifCond .eq 15, 3) := by decide +kernel
theorem dX7_years_32 : decode cX7_years 32 = .ok (.iload 4, 2) := by decide +kernel
theorem dX7_years_34 : decode cX7_years 34 = .ok (.iconst 0, 1) := by decide +kernel
theorem dX7_years_35 : decode cX7_years 35 = .ok (.sipush 1000, 3) := by decide +kernel
theorem dX7_years_38 : decode cX7_years 38 = .ok (.invokestatic 133, 3) := by decide +kernel
theorem dX7_years_41 : decode cX7_years 41 = .ok (.ifCond .ne 5, 3) := by decide +kernel
theorem dX7_years_44 : decode cX7_years 44 = .ok (.iconst (-1), 1) := by decide +kernel
theorem dX7_years_45 : decode cX7_years 45 = .ok (.ireturn, 1) := by decide +kernel
theorem dX7_years_46 : decode cX7_years 46 = .ok (.aload_n 0, 1) := by decide +kernel
theorem dX7_years_47 : decode cX7_years 47 = .ok (.iconst 1, 1) := by decide +kernel
theorem dX7_years_48 : decode cX7_years 48 = .ok (.invokevirtual 286, 3) := by decide +kernel
theorem dX7_years_51 : decode cX7_years 51 = .ok (.istore 5, 2) := by decide +kernel
theorem dX7_years_53 : decode cX7_years 53 = .ok (.aload_n 0, 1) := by decide +kernel
theorem dX7_years_54 : decode cX7_years 54 = .ok (.iconst 2, 1) := by decide +kernel
theorem dX7_years_55 : decode cX7_years 55 = .ok (.invokevirtual 286, 3) := by decide +kernel
theorem dX7_years_58 : decode cX7_years 58 = .ok (.istore 6, 2) := by decide +kernel
theorem dX7_years_60 : decode cX7_years 60 = .ok (.iload_n 1, 1) := by decide +kernel
theorem dX7_years_61 : decode cX7_years 61 = .ok (.istore 7, 2) := by decide +kernel
theorem dX7_years_63 : decode cX7_years 63 = .ok (.iload_n 2, 1) := by decide +kernel
theorem dX7_years_64 : decode cX7_years 64 = .ok (.istore 8, 2) := by decide +kernel
theorem dX7_years_66 : decode cX7_years 66 = .ok (.iconst 0, 1) := by decide +kernel
theorem dX7_years_67 : decode cX7_years 67 = .ok (.istore 9, 2) := by decide +kernel
theorem dX7_years_69 : decode cX7_years 69 = .ok (.iload 9, 2) := by decide +kernel
theorem dX7_years_71 : decode cX7_years 71 = .ok (.iload_n 3, 1) := by decide +kernel
theorem dX7_years_72 : decode cX7_years 72 = .ok (.if_icmp .ge 65, 3) := by decide +kernel
theorem dX7_years_75 : decode cX7_years 75 = .ok (.iload 5, 2) := by decide +kernel
theorem dX7_years_77 : decode cX7_years 77 = .ok (.iload 6, 2) := by decide +kernel
theorem dX7_years_79 : decode cX7_years 79 = .ok (.if_icmp .le 15, 3) := by decide +kernel
theorem dX7_years_82 : decode cX7_years 82 = .ok (.iload 8, 2) := by decide +kernel
theorem dX7_years_84 : decode cX7_years 84 = .ok (.iload 4, 2) := by decide +kernel
theorem dX7_years_86 : decode cX7_years 86 = .ok (.imul, 1) := by decide +kernel
theorem dX7_years_87 : decode cX7_years 87 = .ok (.sipush 1000, 3) := by decide +kernel
theorem dX7_years_90 : decode cX7_years 90 = .ok (.idiv, 1) := by decide +kernel
theorem dX7_years_91 : decode cX7_years 91 = .ok (.goto 24, 3) := by decide +kernel
theorem dX7_years_94 : decode cX7_years 94 = .ok (.iload 5, 2) := by decide +kernel
theorem dX7_years_96 : decode cX7_years 96 = .ok (.iload 6, 2) := by decide +kernel
theorem dX7_years_98 : decode cX7_years 98 = .ok (.if_icmp .ge 16, 3) := by decide +kernel
theorem dX7_years_101 : decode cX7_years 101 = .ok (.iload 7, 2) := by decide +kernel
theorem dX7_years_103 : decode cX7_years 103 = .ok (.iload 4, 2) := by decide +kernel
theorem dX7_years_105 : decode cX7_years 105 = .ok (.imul, 1) := by decide +kernel
theorem dX7_years_106 : decode cX7_years 106 = .ok (.sipush 1000, 3) := by decide +kernel
theorem dX7_years_109 : decode cX7_years 109 = .ok (.idiv, 1) := by decide +kernel
theorem dX7_years_110 : decode cX7_years 110 = .ok (.ineg, 1) := by decide +kernel
theorem dX7_years_111 : decode cX7_years 111 = .ok (.goto 4, 3) := by decide +kernel
theorem dX7_years_114 : decode cX7_years 114 = .ok (.iconst 0, 1) := by decide +kernel
theorem dX7_years_115 : decode cX7_years 115 = .ok (.istore 10, 2) := by decide +kernel
theorem dX7_years_117 : decode cX7_years 117 = .ok (.iload 7, 2) := by decide +kernel
theorem dX7_years_119 : decode cX7_years 119 = .ok (.iload 10, 2) := by decide +kernel
theorem dX7_years_121 : decode cX7_years 121 = .ok (.iadd, 1) := by decide +kernel
theorem dX7_years_122 : decode cX7_years 122 = .ok (.istore 7, 2) := by decide +kernel
theorem dX7_years_124 : decode cX7_years 124 = .ok (.iload 8, 2) := by decide +kernel
theorem dX7_years_126 : decode cX7_years 126 = .ok (.iload 10, 2) := by decide +kernel
theorem dX7_years_128 : decode cX7_years 128 = .ok (.isub, 1) := by decide +kernel
theorem dX7_years_129 : decode cX7_years 129 = .ok (.istore 8, 2) := by decide +kernel
theorem dX7_years_131 : decode cX7_years 131 = .ok (.iinc 9 1, 3) := by decide +kernel
theorem dX7_years_134 : decode cX7_years 134 = .ok (.goto (-65), 3) := by decide +kernel
theorem dX7_years_137 : decode cX7_years 137 = .ok (.iload 7, 2) := by decide +kernel
theorem dX7_years_139 : decode cX7_years 139 = .ok (.ireturn, 1) := by decide +kernel
theorem dX7_tapeNumber_0 : decode cX7_tapeNumber 0 = .ok (.iconst 0, 1) := by decide +kernel
theorem dX7_tapeNumber_1 : decode cX7_tapeNumber 1 = .ok (.istore_n 2, 1) := by decide +kernel
theorem dX7_tapeNumber_2 : decode cX7_tapeNumber 2 = .ok (.iconst 4, 1) := by decide +kernel
theorem dX7_tapeNumber_3 : decode cX7_tapeNumber 3 = .ok (.iload_n 1, 1) := by decide +kernel
theorem dX7_tapeNumber_4 : decode cX7_tapeNumber 4 = .ok (.imul, 1) := by decide +kernel
theorem dX7_tapeNumber_5 : decode cX7_tapeNumber 5 = .ok (.istore_n 3, 1) := by decide +kernel
theorem dX7_tapeNumber_6 : decode cX7_tapeNumber 6 = .ok (.iload_n 3, 1) := by decide +kernel
theorem dX7_tapeNumber_7 : decode cX7_tapeNumber 7 = .ok (.iconst 4, 1) := by decide +kernel
theorem dX7_tapeNumber_8 : decode cX7_tapeNumber 8 = .ok (.iload_n 1, 1) := by decide +kernel
theorem dX7_tapeNumber_9 : decode cX7_tapeNumber 9 = .ok (.imul, 1) := by decide +kernel
theorem dX7_tapeNumber_10 : decode cX7_tapeNumber 10 = .ok (.iconst 4, 1) := by decide +kernel
theorem dX7_tapeNumber_11 : decode cX7_tapeNumber 11 = .ok (.iadd, 1) := by decide +kernel
theorem dX7_tapeNumber_12 : decode cX7_tapeNumber 12 = .ok (.if_icmp .ge 25, 3) := by decide +kernel
theorem dX7_tapeNumber_15 : decode cX7_tapeNumber 15 = .ok (.iload_n 2, 1) := by decide +kernel
theorem dX7_tapeNumber_16 : decode cX7_tapeNumber 16 = .ok (.bipush 8, 2) := by decide +kernel
theorem dX7_tapeNumber_18 : decode cX7_tapeNumber 18 = .ok (.ishl, 1) := by decide +kernel
theorem dX7_tapeNumber_19 : decode cX7_tapeNumber 19 = .ok (.aload_n 0, 1) := by decide +kernel
theorem dX7_tapeNumber_20 : decode cX7_tapeNumber 20 = .ok (.getfield 28, 3) := by decide +kernel
theorem dX7_tapeNumber_23 : decode cX7_tapeNumber 23 = .ok (.iload_n 3, 1) := by decide +kernel
theorem dX7_tapeNumber_24 : decode cX7_tapeNumber 24 = .ok (.baload, 1) := by decide +kernel
theorem dX7_tapeNumber_25 : decode cX7_tapeNumber 25 = .ok (.sipush 255, 3) := by decide +kernel
theorem dX7_tapeNumber_28 : decode cX7_tapeNumber 28 = .ok (.iand, 1) := by decide +kernel
theorem dX7_tapeNumber_29 : decode cX7_tapeNumber 29 = .ok (.ior, 1) := by decide +kernel
theorem dX7_tapeNumber_30 : decode cX7_tapeNumber 30 = .ok (.istore_n 2, 1) := by decide +kernel
theorem dX7_tapeNumber_31 : decode cX7_tapeNumber 31 = .ok (.iinc 3 1, 3) := by decide +kernel
theorem dX7_tapeNumber_34 : decode cX7_tapeNumber 34 = .ok (.goto (-28), 3) := by decide +kernel
theorem dX7_tapeNumber_37 : decode cX7_tapeNumber 37 = .ok (.iload_n 2, 1) := by decide +kernel
theorem dX7_tapeNumber_38 : decode cX7_tapeNumber 38 = .ok (.ireturn, 1) := by decide +kernel
theorem dX7_check_0 : decode cX7_check 0 = .ok (.iload_n 1, 1) := by decide +kernel
theorem dX7_check_1 : decode cX7_check 1 = .ok (.ifCond .lt 14, 3) := by decide +kernel
theorem dX7_check_4 : decode cX7_check 4 = .ok (.iload_n 1, 1) := by decide +kernel
theorem dX7_check_5 : decode cX7_check 5 = .ok (.aload_n 0, 1) := by decide +kernel
theorem dX7_check_6 : decode cX7_check 6 = .ok (.getfield 150, 3) := by decide +kernel
theorem dX7_check_9 : decode cX7_check 9 = .ok (.bipush 12, 2) := by decide +kernel
theorem dX7_check_11 : decode cX7_check 11 = .ok (.idiv, 1) := by decide +kernel
theorem dX7_check_12 : decode cX7_check 12 = .ok (.if_icmp .le 6, 3) := by decide +kernel
theorem dX7_check_15 : decode cX7_check 15 = .ok (.bipush (-2), 2) := by decide +kernel
theorem dX7_check_17 : decode cX7_check 17 = .ok (.ireturn, 1) := by decide +kernel
theorem dX7_check_18 : decode cX7_check 18 = .ok (.aload_n 0, 1) := by decide +kernel
theorem dX7_check_19 : decode cX7_check 19 = .ok (.iconst 0, 1) := by decide +kernel
theorem dX7_check_20 : decode cX7_check 20 = .ok (.putfield 150, 3) := by decide +kernel
theorem dX7_check_23 : decode cX7_check 23 = .ok (.aload_n 0, 1) := by decide +kernel
theorem dX7_check_24 : decode cX7_check 24 = .ok (.invokevirtual 280, 3) := by decide +kernel
theorem dX7_check_27 : decode cX7_check 27 = .ok (.pop, 1) := by decide +kernel
theorem dX7_check_28 : decode cX7_check 28 = .ok (.iconst 0, 1) := by decide +kernel
theorem dX7_check_29 : decode cX7_check 29 = .ok (.istore_n 2, 1) := by decide +kernel
theorem dX7_check_30 : decode cX7_check 30 = .ok (.iload_n 2, 1) := by decide +kernel
theorem dX7_check_31 : decode cX7_check 31 = .ok (.aload_n 0, 1) := by decide +kernel
theorem dX7_check_32 : decode cX7_check 32 = .ok (.getfield 120, 3) := by decide +kernel
theorem dX7_check_35 : decode cX7_check 35 = .ok (.if_icmp .ge 78, 3) := by decide +kernel
theorem dX7_check_38 : decode cX7_check 38 = .ok (.aload_n 0, 1) := by decide +kernel
theorem dX7_check_39 : decode cX7_check 39 = .ok (.iload_n 2, 1) := by decide +kernel
theorem dX7_check_40 : decode cX7_check 40 = .ok (.invokevirtual 268, 3) := by decide +kernel
theorem dX7_check_43 : decode cX7_check 43 = .ok (.iload_n 2, 1) := by decide +kernel
theorem dX7_check_44 : decode cX7_check 44 = .ok (.iload_n 1, 1) := by decide +kernel
theorem dX7_check_45 : decode cX7_check 45 = .ok (.if_icmp .eq 14, 3) := by decide +kernel
theorem dX7_check_48 : decode cX7_check 48 = .ok (.aload_n 0, 1) := by decide +kernel
theorem dX7_check_49 : decode cX7_check 49 = .ok (.iconst 3, 1) := by decide +kernel
theorem dX7_check_50 : decode cX7_check 50 = .ok (.iload_n 2, 1) := by decide +kernel
theorem dX7_check_51 : decode cX7_check 51 = .ok (.imul, 1) := by decide +kernel
theorem dX7_check_52 : decode cX7_check 52 = .ok (.invokevirtual 330, 3) := by decide +kernel
theorem dX7_check_55 : decode cX7_check 55 = .ok (.iload_n 2, 1) := by decide +kernel
theorem dX7_check_56 : decode cX7_check 56 = .ok (.if_icmp .eq 7, 3) := by decide +kernel
theorem dX7_check_59 : decode cX7_check 59 = .ok (.iconst 3, 1) := by decide +kernel
theorem dX7_check_60 : decode cX7_check 60 = .ok (.iload_n 2, 1) := by decide +kernel
theorem dX7_check_61 : decode cX7_check 61 = .ok (.imul, 1) := by decide +kernel
theorem dX7_check_62 : decode cX7_check 62 = .ok (.ireturn, 1) := by decide +kernel
theorem dX7_check_63 : decode cX7_check 63 = .ok (.aload_n 0, 1) := by decide +kernel
theorem dX7_check_64 : decode cX7_check 64 = .ok (.iconst 3, 1) := by decide +kernel
theorem dX7_check_65 : decode cX7_check 65 = .ok (.iload_n 2, 1) := by decide +kernel
theorem dX7_check_66 : decode cX7_check 66 = .ok (.imul, 1) := by decide +kernel
theorem dX7_check_67 : decode cX7_check 67 = .ok (.iconst 1, 1) := by decide +kernel
theorem dX7_check_68 : decode cX7_check 68 = .ok (.iadd, 1) := by decide +kernel
theorem dX7_check_69 : decode cX7_check 69 = .ok (.invokevirtual 330, 3) := by decide +kernel
theorem dX7_check_72 : decode cX7_check 72 = .ok (.aload_n 0, 1) := by decide +kernel
theorem dX7_check_73 : decode cX7_check 73 = .ok (.getfield 271, 3) := by decide +kernel
theorem dX7_check_76 : decode cX7_check 76 = .ok (.if_icmp .eq 9, 3) := by decide +kernel
theorem dX7_check_79 : decode cX7_check 79 = .ok (.iconst 3, 1) := by decide +kernel
theorem dX7_check_80 : decode cX7_check 80 = .ok (.iload_n 2, 1) := by decide +kernel
theorem dX7_check_81 : decode cX7_check 81 = .ok (.imul, 1) := by decide +kernel
theorem dX7_check_82 : decode cX7_check 82 = .ok (.iconst 1, 1) := by decide +kernel
theorem dX7_check_83 : decode cX7_check 83 = .ok (.iadd, 1) := by decide +kernel
theorem dX7_check_84 : decode cX7_check 84 = .ok (.ireturn, 1) := by decide +kernel
theorem dX7_check_85 : decode cX7_check 85 = .ok (.aload_n 0, 1) := by decide +kernel
theorem dX7_check_86 : decode cX7_check 86 = .ok (.iconst 3, 1) := by decide +kernel
theorem dX7_check_87 : decode cX7_check 87 = .ok (.iload_n 2, 1) := by decide +kernel
theorem dX7_check_88 : decode cX7_check 88 = .ok (.imul, 1) := by decide +kernel
theorem dX7_check_89 : decode cX7_check 89 = .ok (.iconst 2, 1) := by decide +kernel
theorem dX7_check_90 : decode cX7_check 90 = .ok (.iadd, 1) := by decide +kernel
theorem dX7_check_91 : decode cX7_check 91 = .ok (.invokevirtual 330, 3) := by decide +kernel
theorem dX7_check_94 : decode cX7_check 94 = .ok (.aload_n 0, 1) := by decide +kernel
theorem dX7_check_95 : decode cX7_check 95 = .ok (.getfield 274, 3) := by decide +kernel
theorem dX7_check_98 : decode cX7_check 98 = .ok (.if_icmp .eq 9, 3) := by decide +kernel
theorem dX7_check_101 : decode cX7_check 101 = .ok (.iconst 3, 1) := by decide +kernel
theorem dX7_check_102 : decode cX7_check 102 = .ok (.iload_n 2, 1) := by decide +kernel
theorem dX7_check_103 : decode cX7_check 103 = .ok (.imul, 1) := by decide +kernel
theorem dX7_check_104 : decode cX7_check 104 = .ok (.iconst 2, 1) := by decide +kernel
theorem dX7_check_105 : decode cX7_check 105 = .ok (.iadd, 1) := by decide +kernel
theorem dX7_check_106 : decode cX7_check 106 = .ok (.ireturn, 1) := by decide +kernel
theorem dX7_check_107 : decode cX7_check 107 = .ok (.iinc 2 1, 3) := by decide +kernel
theorem dX7_check_110 : decode cX7_check 110 = .ok (.goto (-80), 3) := by decide +kernel
theorem dX7_check_113 : decode cX7_check 113 = .ok (.aload_n 0, 1) := by decide +kernel
theorem dX7_check_114 : decode cX7_check 114 = .ok (.getfield 120, 3) := by decide +kernel
theorem dX7_check_117 : decode cX7_check 117 = .ok (.iload_n 1, 1) := by decide +kernel
theorem dX7_check_118 : decode cX7_check 118 = .ok (.if_icmp .ge 12, 3) := by decide +kernel
theorem dX7_check_121 : decode cX7_check 121 = .ok (.iconst 3, 1) := by decide +kernel
theorem dX7_check_122 : decode cX7_check 122 = .ok (.aload_n 0, 1) := by decide +kernel
theorem dX7_check_123 : decode cX7_check 123 = .ok (.getfield 120, 3) := by decide +kernel
theorem dX7_check_126 : decode cX7_check 126 = .ok (.imul, 1) := by decide +kernel
theorem dX7_check_127 : decode cX7_check 127 = .ok (.goto 4, 3) := by decide +kernel
theorem dX7_check_130 : decode cX7_check 130 = .ok (.iconst (-1), 1) := by decide +kernel
theorem dX7_check_131 : decode cX7_check 131 = .ok (.ireturn, 1) := by decide +kernel
theorem dX7_count_0 : decode cX7_count 0 = .ok (.iload_n 1, 1) := by decide +kernel
theorem dX7_count_1 : decode cX7_count 1 = .ok (.tableswitch 78 0 6 #[43, 48, 53, 58, 63, 68, 73], 43) := by decide +kernel
theorem dX7_count_44 : decode cX7_count 44 = .ok (.aload_n 0, 1) := by decide +kernel
theorem dX7_count_45 : decode cX7_count 45 = .ok (.getfield 116, 3) := by decide +kernel
theorem dX7_count_48 : decode cX7_count 48 = .ok (.ireturn, 1) := by decide +kernel
theorem dX7_count_49 : decode cX7_count 49 = .ok (.aload_n 0, 1) := by decide +kernel
theorem dX7_count_50 : decode cX7_count 50 = .ok (.invokevirtual 137, 3) := by decide +kernel
theorem dX7_count_53 : decode cX7_count 53 = .ok (.ireturn, 1) := by decide +kernel
theorem dX7_count_54 : decode cX7_count 54 = .ok (.aload_n 0, 1) := by decide +kernel
theorem dX7_count_55 : decode cX7_count 55 = .ok (.getfield 120, 3) := by decide +kernel
theorem dX7_count_58 : decode cX7_count 58 = .ok (.ireturn, 1) := by decide +kernel
theorem dX7_count_59 : decode cX7_count 59 = .ok (.aload_n 0, 1) := by decide +kernel
theorem dX7_count_60 : decode cX7_count 60 = .ok (.getfield 150, 3) := by decide +kernel
theorem dX7_count_63 : decode cX7_count 63 = .ok (.ireturn, 1) := by decide +kernel
theorem dX7_count_64 : decode cX7_count 64 = .ok (.aload_n 0, 1) := by decide +kernel
theorem dX7_count_65 : decode cX7_count 65 = .ok (.getfield 318, 3) := by decide +kernel
theorem dX7_count_68 : decode cX7_count 68 = .ok (.ireturn, 1) := by decide +kernel
theorem dX7_count_69 : decode cX7_count 69 = .ok (.aload_n 0, 1) := by decide +kernel
theorem dX7_count_70 : decode cX7_count 70 = .ok (.getfield 123, 3) := by decide +kernel
theorem dX7_count_73 : decode cX7_count 73 = .ok (.ireturn, 1) := by decide +kernel
theorem dX7_count_74 : decode cX7_count 74 = .ok (.aload_n 0, 1) := by decide +kernel
theorem dX7_count_75 : decode cX7_count 75 = .ok (.getfield 126, 3) := by decide +kernel
theorem dX7_count_78 : decode cX7_count 78 = .ok (.ireturn, 1) := by decide +kernel
theorem dX7_count_79 : decode cX7_count 79 = .ok (.iload_n 1, 1) := by decide +kernel
theorem dX7_count_80 : decode cX7_count 80 = .ok (.bipush 10, 2) := by decide +kernel
theorem dX7_count_82 : decode cX7_count 82 = .ok (.bipush 13, 2) := by decide +kernel
theorem dX7_count_84 : decode cX7_count 84 = .ok (.invokestatic 133, 3) := by decide +kernel
theorem dX7_count_87 : decode cX7_count 87 = .ok (.ifCond .eq 13, 3) := by decide +kernel
theorem dX7_count_90 : decode cX7_count 90 = .ok (.aload_n 0, 1) := by decide +kernel
theorem dX7_count_91 : decode cX7_count 91 = .ok (.getfield 50, 3) := by decide +kernel
theorem dX7_count_94 : decode cX7_count 94 = .ok (.iload_n 1, 1) := by decide +kernel
theorem dX7_count_95 : decode cX7_count 95 = .ok (.bipush 10, 2) := by decide +kernel
theorem dX7_count_97 : decode cX7_count 97 = .ok (.isub, 1) := by decide +kernel
theorem dX7_count_98 : decode cX7_count 98 = .ok (.iaload, 1) := by decide +kernel
theorem dX7_count_99 : decode cX7_count 99 = .ok (.ireturn, 1) := by decide +kernel
theorem dX7_count_100 : decode cX7_count 100 = .ok (.iload_n 1, 1) := by decide +kernel
theorem dX7_count_101 : decode cX7_count 101 = .ok (.bipush 20, 2) := by decide +kernel
theorem dX7_count_103 : decode cX7_count 103 = .ok (.bipush 43, 2) := by decide +kernel
theorem dX7_count_105 : decode cX7_count 105 = .ok (.invokestatic 133, 3) := by decide +kernel
theorem dX7_count_108 : decode cX7_count 108 = .ok (.ifCond .eq 13, 3) := by decide +kernel
theorem dX7_count_111 : decode cX7_count 111 = .ok (.aload_n 0, 1) := by decide +kernel
theorem dX7_count_112 : decode cX7_count 112 = .ok (.getfield 7, 3) := by decide +kernel
theorem dX7_count_115 : decode cX7_count 115 = .ok (.iload_n 1, 1) := by decide +kernel
theorem dX7_count_116 : decode cX7_count 116 = .ok (.bipush 20, 2) := by decide +kernel
theorem dX7_count_118 : decode cX7_count 118 = .ok (.isub, 1) := by decide +kernel
theorem dX7_count_119 : decode cX7_count 119 = .ok (.iaload, 1) := by decide +kernel
theorem dX7_count_120 : decode cX7_count 120 = .ok (.ireturn, 1) := by decide +kernel
theorem dX7_count_121 : decode cX7_count 121 = .ok (.iload_n 1, 1) := by decide +kernel
theorem dX7_count_122 : decode cX7_count 122 = .ok (.bipush 50, 2) := by decide +kernel
theorem dX7_count_124 : decode cX7_count 124 = .ok (.bipush 73, 2) := by decide +kernel
theorem dX7_count_126 : decode cX7_count 126 = .ok (.invokestatic 133, 3) := by decide +kernel
theorem dX7_count_129 : decode cX7_count 129 = .ok (.ifCond .eq 26, 3) := by decide +kernel
theorem dX7_count_132 : decode cX7_count 132 = .ok (.aload_n 0, 1) := by decide +kernel
theorem dX7_count_133 : decode cX7_count 133 = .ok (.iload_n 1, 1) := by decide +kernel
theorem dX7_count_134 : decode cX7_count 134 = .ok (.bipush 50, 2) := by decide +kernel
theorem dX7_count_136 : decode cX7_count 136 = .ok (.isub, 1) := by decide +kernel
theorem dX7_count_137 : decode cX7_count 137 = .ok (.invokevirtual 129, 3) := by decide +kernel
theorem dX7_count_140 : decode cX7_count 140 = .ok (.ifCond .eq 15, 3) := by decide +kernel
theorem dX7_count_143 : decode cX7_count 143 = .ok (.aload_n 0, 1) := by decide +kernel
theorem dX7_count_144 : decode cX7_count 144 = .ok (.getfield 16, 3) := by decide +kernel
theorem dX7_count_147 : decode cX7_count 147 = .ok (.iload_n 1, 1) := by decide +kernel
theorem dX7_count_148 : decode cX7_count 148 = .ok (.bipush 50, 2) := by decide +kernel
theorem dX7_count_150 : decode cX7_count 150 = .ok (.isub, 1) := by decide +kernel
theorem dX7_count_151 : decode cX7_count 151 = .ok (.iaload, 1) := by decide +kernel
theorem dX7_count_152 : decode cX7_count 152 = .ok (.goto 4, 3) := by decide +kernel
theorem dX7_count_155 : decode cX7_count 155 = .ok (.iconst (-1), 1) := by decide +kernel
theorem dX7_count_156 : decode cX7_count 156 = .ok (.ireturn, 1) := by decide +kernel
