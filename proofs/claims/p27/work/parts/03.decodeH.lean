theorem dL_lot_0 : decode cL_lot 0 = .ok (.iload_n 1, 1) := by decide +kernel
theorem dL_lot_1 : decode cL_lot 1 = .ok (.aload_n 0, 1) := by decide +kernel
theorem dL_lot_2 : decode cL_lot 2 = .ok (.arraylength, 1) := by decide +kernel
theorem dL_lot_3 : decode cL_lot 3 = .ok (.if_icmp .ge 9, 3) := by decide +kernel
theorem dL_lot_6 : decode cL_lot 6 = .ok (.aload_n 0, 1) := by decide +kernel
theorem dL_lot_7 : decode cL_lot 7 = .ok (.iload_n 1, 1) := by decide +kernel
theorem dL_lot_8 : decode cL_lot 8 = .ok (.iaload, 1) := by decide +kernel
theorem dL_lot_9 : decode cL_lot 9 = .ok (.goto 15, 3) := by decide +kernel
theorem dL_lot_12 : decode cL_lot 12 = .ok (.ldc 7, 2) := by decide +kernel
theorem dL_lot_14 : decode cL_lot 14 = .ok (.iload_n 1, 1) := by decide +kernel
theorem dL_lot_15 : decode cL_lot 15 = .ok (.sipush 2141, 3) := by decide +kernel
theorem dL_lot_18 : decode cL_lot 18 = .ok (.iadd, 1) := by decide +kernel
theorem dL_lot_19 : decode cL_lot 19 = .ok (.imul, 1) := by decide +kernel
theorem dL_lot_20 : decode cL_lot 20 = .ok (.sipush 1973, 3) := by decide +kernel
theorem dL_lot_23 : decode cL_lot 23 = .ok (.iadd, 1) := by decide +kernel
theorem dL_lot_24 : decode cL_lot 24 = .ok (.ireturn, 1) := by decide +kernel
theorem dL_low_0 : decode cL_low 0 = .ok (.iload_n 0, 1) := by decide +kernel
theorem dL_low_1 : decode cL_low 1 = .ok (.ldc 8, 2) := by decide +kernel
theorem dL_low_3 : decode cL_low 3 = .ok (.iand, 1) := by decide +kernel
theorem dL_low_4 : decode cL_low 4 = .ok (.iload_n 1, 1) := by decide +kernel
theorem dL_low_5 : decode cL_low 5 = .ok (.irem, 1) := by decide +kernel
theorem dL_low_6 : decode cL_low 6 = .ok (.ireturn, 1) := by decide +kernel
theorem dL_sound_0 : decode cL_sound 0 = .ok (.aload_n 0, 1) := by decide +kernel
theorem dL_sound_1 : decode cL_sound 1 = .ok (.iconst 0, 1) := by decide +kernel
theorem dL_sound_2 : decode cL_sound 2 = .ok (.invokevirtual 9, 3) := by decide +kernel
theorem dL_sound_5 : decode cL_sound 5 = .ok (.istore_n 1, 1) := by decide +kernel
theorem dL_sound_6 : decode cL_sound 6 = .ok (.aload_n 0, 1) := by decide +kernel
theorem dL_sound_7 : decode cL_sound 7 = .ok (.iconst 1, 1) := by decide +kernel
theorem dL_sound_8 : decode cL_sound 8 = .ok (.invokevirtual 9, 3) := by decide +kernel
theorem dL_sound_11 : decode cL_sound 11 = .ok (.istore_n 2, 1) := by decide +kernel
theorem dL_sound_12 : decode cL_sound 12 = .ok (.aload_n 0, 1) := by decide +kernel
theorem dL_sound_13 : decode cL_sound 13 = .ok (.bipush 15, 2) := by decide +kernel
theorem dL_sound_15 : decode cL_sound 15 = .ok (.invokevirtual 9, 3) := by decide +kernel
theorem dL_sound_18 : decode cL_sound 18 = .ok (.istore_n 3, 1) := by decide +kernel
theorem dL_sound_19 : decode cL_sound 19 = .ok (.iconst 0, 1) := by decide +kernel
theorem dL_sound_20 : decode cL_sound 20 = .ok (.istore 4, 2) := by decide +kernel
theorem dL_sound_22 : decode cL_sound 22 = .ok (.iconst 0, 1) := by decide +kernel
theorem dL_sound_23 : decode cL_sound 23 = .ok (.istore 5, 2) := by decide +kernel
theorem dL_sound_25 : decode cL_sound 25 = .ok (.iconst 0, 1) := by decide +kernel
theorem dL_sound_26 : decode cL_sound 26 = .ok (.istore 6, 2) := by decide +kernel
theorem dL_sound_28 : decode cL_sound 28 = .ok (.iconst 0, 1) := by decide +kernel
theorem dL_sound_29 : decode cL_sound 29 = .ok (.istore 7, 2) := by decide +kernel
theorem dL_sound_31 : decode cL_sound 31 = .ok (.bipush 21, 2) := by decide +kernel
theorem dL_sound_33 : decode cL_sound 33 = .ok (.istore 8, 2) := by decide +kernel
theorem dL_sound_35 : decode cL_sound 35 = .ok (.iload 8, 2) := by decide +kernel
theorem dL_sound_37 : decode cL_sound 37 = .ok (.bipush 27, 2) := by decide +kernel
theorem dL_sound_39 : decode cL_sound 39 = .ok (.if_icmp .ge 31, 3) := by decide +kernel
theorem dL_sound_42 : decode cL_sound 42 = .ok (.iload 4, 2) := by decide +kernel
theorem dL_sound_44 : decode cL_sound 44 = .ok (.aload_n 0, 1) := by decide +kernel
theorem dL_sound_45 : decode cL_sound 45 = .ok (.iload 8, 2) := by decide +kernel
theorem dL_sound_47 : decode cL_sound 47 = .ok (.invokevirtual 9, 3) := by decide +kernel
theorem dL_sound_50 : decode cL_sound 50 = .ok (.iadd, 1) := by decide +kernel
theorem dL_sound_51 : decode cL_sound 51 = .ok (.istore 4, 2) := by decide +kernel
theorem dL_sound_53 : decode cL_sound 53 = .ok (.aload_n 0, 1) := by decide +kernel
theorem dL_sound_54 : decode cL_sound 54 = .ok (.iload 8, 2) := by decide +kernel
theorem dL_sound_56 : decode cL_sound 56 = .ok (.invokevirtual 9, 3) := by decide +kernel
theorem dL_sound_59 : decode cL_sound 59 = .ok (.ifCond .ge 5, 3) := by decide +kernel
theorem dL_sound_62 : decode cL_sound 62 = .ok (.iconst 0, 1) := by decide +kernel
theorem dL_sound_63 : decode cL_sound 63 = .ok (.ireturn, 1) := by decide +kernel
theorem dL_sound_64 : decode cL_sound 64 = .ok (.iinc 8 1, 3) := by decide +kernel
theorem dL_sound_67 : decode cL_sound 67 = .ok (.goto (-32), 3) := by decide +kernel
theorem dL_sound_70 : decode cL_sound 70 = .ok (.iconst 0, 1) := by decide +kernel
theorem dL_sound_71 : decode cL_sound 71 = .ok (.istore 8, 2) := by decide +kernel
theorem dL_sound_73 : decode cL_sound 73 = .ok (.iload 8, 2) := by decide +kernel
theorem dL_sound_75 : decode cL_sound 75 = .ok (.aload_n 0, 1) := by decide +kernel
theorem dL_sound_76 : decode cL_sound 76 = .ok (.bipush 9, 2) := by decide +kernel
theorem dL_sound_78 : decode cL_sound 78 = .ok (.invokevirtual 9, 3) := by decide +kernel
theorem dL_sound_81 : decode cL_sound 81 = .ok (.if_icmp .ge 182, 3) := by decide +kernel
theorem dL_sound_84 : decode cL_sound 84 = .ok (.iload 5, 2) := by decide +kernel
theorem dL_sound_86 : decode cL_sound 86 = .ok (.aload_n 0, 1) := by decide +kernel
theorem dL_sound_87 : decode cL_sound 87 = .ok (.iload 8, 2) := by decide +kernel
theorem dL_sound_89 : decode cL_sound 89 = .ok (.iconst 0, 1) := by decide +kernel
theorem dL_sound_90 : decode cL_sound 90 = .ok (.invokevirtual 15, 3) := by decide +kernel
theorem dL_sound_93 : decode cL_sound 93 = .ok (.iadd, 1) := by decide +kernel
theorem dL_sound_94 : decode cL_sound 94 = .ok (.istore 5, 2) := by decide +kernel
theorem dL_sound_96 : decode cL_sound 96 = .ok (.iload 6, 2) := by decide +kernel
theorem dL_sound_98 : decode cL_sound 98 = .ok (.aload_n 0, 1) := by decide +kernel
theorem dL_sound_99 : decode cL_sound 99 = .ok (.iload 8, 2) := by decide +kernel
theorem dL_sound_101 : decode cL_sound 101 = .ok (.iconst 2, 1) := by decide +kernel
theorem dL_sound_102 : decode cL_sound 102 = .ok (.invokevirtual 15, 3) := by decide +kernel
theorem dL_sound_105 : decode cL_sound 105 = .ok (.iadd, 1) := by decide +kernel
theorem dL_sound_106 : decode cL_sound 106 = .ok (.istore 6, 2) := by decide +kernel
theorem dL_sound_108 : decode cL_sound 108 = .ok (.iload 7, 2) := by decide +kernel
theorem dL_sound_110 : decode cL_sound 110 = .ok (.aload_n 0, 1) := by decide +kernel
theorem dL_sound_111 : decode cL_sound 111 = .ok (.iload 8, 2) := by decide +kernel
theorem dL_sound_113 : decode cL_sound 113 = .ok (.bipush 6, 2) := by decide +kernel
theorem dL_sound_115 : decode cL_sound 115 = .ok (.invokevirtual 15, 3) := by decide +kernel
theorem dL_sound_118 : decode cL_sound 118 = .ok (.iadd, 1) := by decide +kernel
theorem dL_sound_119 : decode cL_sound 119 = .ok (.istore 7, 2) := by decide +kernel
theorem dL_sound_121 : decode cL_sound 121 = .ok (.aload_n 0, 1) := by decide +kernel
theorem dL_sound_122 : decode cL_sound 122 = .ok (.iload 8, 2) := by decide +kernel
theorem dL_sound_124 : decode cL_sound 124 = .ok (.iconst 5, 1) := by decide +kernel
theorem dL_sound_125 : decode cL_sound 125 = .ok (.invokevirtual 15, 3) := by decide +kernel
theorem dL_sound_128 : decode cL_sound 128 = .ok (.aload_n 0, 1) := by decide +kernel
theorem dL_sound_129 : decode cL_sound 129 = .ok (.iload 8, 2) := by decide +kernel
theorem dL_sound_131 : decode cL_sound 131 = .ok (.iconst 4, 1) := by decide +kernel
theorem dL_sound_132 : decode cL_sound 132 = .ok (.invokevirtual 15, 3) := by decide +kernel
theorem dL_sound_135 : decode cL_sound 135 = .ok (.if_icmp .gt 120, 3) := by decide +kernel
theorem dL_sound_138 : decode cL_sound 138 = .ok (.aload_n 0, 1) := by decide +kernel
theorem dL_sound_139 : decode cL_sound 139 = .ok (.iload 8, 2) := by decide +kernel
theorem dL_sound_141 : decode cL_sound 141 = .ok (.iconst 2, 1) := by decide +kernel
theorem dL_sound_142 : decode cL_sound 142 = .ok (.invokevirtual 15, 3) := by decide +kernel
theorem dL_sound_145 : decode cL_sound 145 = .ok (.ifCond .lt 110, 3) := by decide +kernel
theorem dL_sound_148 : decode cL_sound 148 = .ok (.aload_n 0, 1) := by decide +kernel
theorem dL_sound_149 : decode cL_sound 149 = .ok (.iload 8, 2) := by decide +kernel
theorem dL_sound_151 : decode cL_sound 151 = .ok (.iconst 2, 1) := by decide +kernel
theorem dL_sound_152 : decode cL_sound 152 = .ok (.invokevirtual 15, 3) := by decide +kernel
theorem dL_sound_155 : decode cL_sound 155 = .ok (.aload_n 0, 1) := by decide +kernel
theorem dL_sound_156 : decode cL_sound 156 = .ok (.iload 8, 2) := by decide +kernel
theorem dL_sound_158 : decode cL_sound 158 = .ok (.iconst 0, 1) := by decide +kernel
theorem dL_sound_159 : decode cL_sound 159 = .ok (.invokevirtual 15, 3) := by decide +kernel
theorem dL_sound_162 : decode cL_sound 162 = .ok (.if_icmp .gt 93, 3) := by decide +kernel
theorem dL_sound_165 : decode cL_sound 165 = .ok (.aload_n 0, 1) := by decide +kernel
theorem dL_sound_166 : decode cL_sound 166 = .ok (.iload 8, 2) := by decide +kernel
theorem dL_sound_168 : decode cL_sound 168 = .ok (.iconst 3, 1) := by decide +kernel
theorem dL_sound_169 : decode cL_sound 169 = .ok (.invokevirtual 15, 3) := by decide +kernel
theorem dL_sound_172 : decode cL_sound 172 = .ok (.bipush 6, 2) := by decide +kernel
theorem dL_sound_174 : decode cL_sound 174 = .ok (.if_icmp .gt 81, 3) := by decide +kernel
theorem dL_sound_177 : decode cL_sound 177 = .ok (.aload_n 0, 1) := by decide +kernel
theorem dL_sound_178 : decode cL_sound 178 = .ok (.iload 8, 2) := by decide +kernel
theorem dL_sound_180 : decode cL_sound 180 = .ok (.iconst 4, 1) := by decide +kernel
theorem dL_sound_181 : decode cL_sound 181 = .ok (.invokevirtual 15, 3) := by decide +kernel
theorem dL_sound_184 : decode cL_sound 184 = .ok (.iload_n 3, 1) := by decide +kernel
theorem dL_sound_185 : decode cL_sound 185 = .ok (.imul, 1) := by decide +kernel
theorem dL_sound_186 : decode cL_sound 186 = .ok (.aload_n 0, 1) := by decide +kernel
theorem dL_sound_187 : decode cL_sound 187 = .ok (.iload 8, 2) := by decide +kernel
theorem dL_sound_189 : decode cL_sound 189 = .ok (.iconst 2, 1) := by decide +kernel
theorem dL_sound_190 : decode cL_sound 190 = .ok (.invokevirtual 15, 3) := by decide +kernel
theorem dL_sound_193 : decode cL_sound 193 = .ok (.if_icmp .gt 62, 3) := by decide +kernel
theorem dL_sound_196 : decode cL_sound 196 = .ok (.aload_n 0, 1) := by decide +kernel
theorem dL_sound_197 : decode cL_sound 197 = .ok (.iload 8, 2) := by decide +kernel
theorem dL_sound_199 : decode cL_sound 199 = .ok (.iconst 4, 1) := by decide +kernel
theorem dL_sound_200 : decode cL_sound 200 = .ok (.invokevirtual 15, 3) := by decide +kernel
theorem dL_sound_203 : decode cL_sound 203 = .ok (.aload_n 0, 1) := by decide +kernel
theorem dL_sound_204 : decode cL_sound 204 = .ok (.iload 8, 2) := by decide +kernel
theorem dL_sound_206 : decode cL_sound 206 = .ok (.iconst 5, 1) := by decide +kernel
theorem dL_sound_207 : decode cL_sound 207 = .ok (.invokevirtual 15, 3) := by decide +kernel
theorem dL_sound_210 : decode cL_sound 210 = .ok (.isub, 1) := by decide +kernel
theorem dL_sound_211 : decode cL_sound 211 = .ok (.aload_n 0, 1) := by decide +kernel
theorem dL_sound_212 : decode cL_sound 212 = .ok (.iload 8, 2) := by decide +kernel
theorem dL_sound_214 : decode cL_sound 214 = .ok (.iconst 3, 1) := by decide +kernel
theorem dL_sound_215 : decode cL_sound 215 = .ok (.invokevirtual 15, 3) := by decide +kernel
theorem dL_sound_218 : decode cL_sound 218 = .ok (.if_icmp .gt 37, 3) := by decide +kernel
theorem dL_sound_221 : decode cL_sound 221 = .ok (.aload_n 0, 1) := by decide +kernel
theorem dL_sound_222 : decode cL_sound 222 = .ok (.iload 8, 2) := by decide +kernel
theorem dL_sound_224 : decode cL_sound 224 = .ok (.iconst 4, 1) := by decide +kernel
theorem dL_sound_225 : decode cL_sound 225 = .ok (.invokevirtual 15, 3) := by decide +kernel
theorem dL_sound_228 : decode cL_sound 228 = .ok (.ifCond .le 7, 3) := by decide +kernel
theorem dL_sound_231 : decode cL_sound 231 = .ok (.iconst 1, 1) := by decide +kernel
theorem dL_sound_232 : decode cL_sound 232 = .ok (.goto 4, 3) := by decide +kernel
theorem dL_sound_235 : decode cL_sound 235 = .ok (.iconst 0, 1) := by decide +kernel
theorem dL_sound_236 : decode cL_sound 236 = .ok (.aload_n 0, 1) := by decide +kernel
theorem dL_sound_237 : decode cL_sound 237 = .ok (.iload 8, 2) := by decide +kernel
theorem dL_sound_239 : decode cL_sound 239 = .ok (.iconst 2, 1) := by decide +kernel
theorem dL_sound_240 : decode cL_sound 240 = .ok (.invokevirtual 15, 3) := by decide +kernel
theorem dL_sound_243 : decode cL_sound 243 = .ok (.iload_n 3, 1) := by decide +kernel
theorem dL_sound_244 : decode cL_sound 244 = .ok (.if_icmp .lt 7, 3) := by decide +kernel
theorem dL_sound_247 : decode cL_sound 247 = .ok (.iconst 1, 1) := by decide +kernel
theorem dL_sound_248 : decode cL_sound 248 = .ok (.goto 4, 3) := by decide +kernel
theorem dL_sound_251 : decode cL_sound 251 = .ok (.iconst 0, 1) := by decide +kernel
theorem dL_sound_252 : decode cL_sound 252 = .ok (.if_icmp .eq 5, 3) := by decide +kernel
theorem dL_sound_255 : decode cL_sound 255 = .ok (.iconst 0, 1) := by decide +kernel
theorem dL_sound_256 : decode cL_sound 256 = .ok (.ireturn, 1) := by decide +kernel
theorem dL_sound_257 : decode cL_sound 257 = .ok (.iinc 8 1, 3) := by decide +kernel
theorem dL_sound_260 : decode cL_sound 260 = .ok (.goto (-187), 3) := by decide +kernel
theorem dL_sound_263 : decode cL_sound 263 = .ok (.iconst 0, 1) := by decide +kernel
theorem dL_sound_264 : decode cL_sound 264 = .ok (.istore 8, 2) := by decide +kernel
theorem dL_sound_266 : decode cL_sound 266 = .ok (.iconst 0, 1) := by decide +kernel
theorem dL_sound_267 : decode cL_sound 267 = .ok (.istore 9, 2) := by decide +kernel
theorem dL_sound_269 : decode cL_sound 269 = .ok (.bipush (-4), 2) := by decide +kernel
theorem dL_sound_271 : decode cL_sound 271 = .ok (.istore 10, 2) := by decide +kernel
theorem dL_sound_273 : decode cL_sound 273 = .ok (.iconst 0, 1) := by decide +kernel
theorem dL_sound_274 : decode cL_sound 274 = .ok (.istore 11, 2) := by decide +kernel
theorem dL_sound_276 : decode cL_sound 276 = .ok (.iconst 0, 1) := by decide +kernel
theorem dL_sound_277 : decode cL_sound 277 = .ok (.istore 12, 2) := by decide +kernel
theorem dL_sound_279 : decode cL_sound 279 = .ok (.iconst 0, 1) := by decide +kernel
theorem dL_sound_280 : decode cL_sound 280 = .ok (.istore 13, 2) := by decide +kernel
theorem dL_sound_282 : decode cL_sound 282 = .ok (.iload 13, 2) := by decide +kernel
theorem dL_sound_284 : decode cL_sound 284 = .ok (.iload_n 1, 1) := by decide +kernel
theorem dL_sound_285 : decode cL_sound 285 = .ok (.iload_n 2, 1) := by decide +kernel
theorem dL_sound_286 : decode cL_sound 286 = .ok (.imul, 1) := by decide +kernel
theorem dL_sound_287 : decode cL_sound 287 = .ok (.if_icmp .ge 302, 3) := by decide +kernel
theorem dL_sound_290 : decode cL_sound 290 = .ok (.iload 13, 2) := by decide +kernel
theorem dL_sound_292 : decode cL_sound 292 = .ok (.iload_n 1, 1) := by decide +kernel
theorem dL_sound_293 : decode cL_sound 293 = .ok (.irem, 1) := by decide +kernel
theorem dL_sound_294 : decode cL_sound 294 = .ok (.istore 14, 2) := by decide +kernel
theorem dL_sound_296 : decode cL_sound 296 = .ok (.iload 13, 2) := by decide +kernel
theorem dL_sound_298 : decode cL_sound 298 = .ok (.iload_n 1, 1) := by decide +kernel
theorem dL_sound_299 : decode cL_sound 299 = .ok (.idiv, 1) := by decide +kernel
theorem dL_sound_300 : decode cL_sound 300 = .ok (.istore 15, 2) := by decide +kernel
theorem dL_sound_302 : decode cL_sound 302 = .ok (.aload_n 0, 1) := by decide +kernel
theorem dL_sound_303 : decode cL_sound 303 = .ok (.iload 14, 2) := by decide +kernel
theorem dL_sound_305 : decode cL_sound 305 = .ok (.iload 15, 2) := by decide +kernel
theorem dL_sound_307 : decode cL_sound 307 = .ok (.iconst 0, 1) := by decide +kernel
theorem dL_sound_308 : decode cL_sound 308 = .ok (.invokevirtual 21, 3) := by decide +kernel
theorem dL_sound_311 : decode cL_sound 311 = .ok (.istore 16, 2) := by decide +kernel
theorem dL_sound_313 : decode cL_sound 313 = .ok (.aload_n 0, 1) := by decide +kernel
theorem dL_sound_314 : decode cL_sound 314 = .ok (.iload 14, 2) := by decide +kernel
theorem dL_sound_316 : decode cL_sound 316 = .ok (.iload 15, 2) := by decide +kernel
theorem dL_sound_318 : decode cL_sound 318 = .ok (.iconst 1, 1) := by decide +kernel
theorem dL_sound_319 : decode cL_sound 319 = .ok (.invokevirtual 21, 3) := by decide +kernel
theorem dL_sound_322 : decode cL_sound 322 = .ok (.istore 17, 2) := by decide +kernel
theorem dL_sound_324 : decode cL_sound 324 = .ok (.aload_n 0, 1) := by decide +kernel
theorem dL_sound_325 : decode cL_sound 325 = .ok (.iload 14, 2) := by decide +kernel
theorem dL_sound_327 : decode cL_sound 327 = .ok (.iload 15, 2) := by decide +kernel
theorem dL_sound_329 : decode cL_sound 329 = .ok (.iconst 2, 1) := by decide +kernel
theorem dL_sound_330 : decode cL_sound 330 = .ok (.invokevirtual 21, 3) := by decide +kernel
theorem dL_sound_333 : decode cL_sound 333 = .ok (.istore 18, 2) := by decide +kernel
theorem dL_sound_335 : decode cL_sound 335 = .ok (.aload_n 0, 1) := by decide +kernel
theorem dL_sound_336 : decode cL_sound 336 = .ok (.iload 14, 2) := by decide +kernel
theorem dL_sound_338 : decode cL_sound 338 = .ok (.iload 15, 2) := by decide +kernel
theorem dL_sound_340 : decode cL_sound 340 = .ok (.iconst 3, 1) := by decide +kernel
theorem dL_sound_341 : decode cL_sound 341 = .ok (.invokevirtual 21, 3) := by decide +kernel
theorem dL_sound_344 : decode cL_sound 344 = .ok (.istore 19, 2) := by decide +kernel
theorem dL_sound_346 : decode cL_sound 346 = .ok (.iload 14, 2) := by decide +kernel
theorem dL_sound_348 : decode cL_sound 348 = .ok (.ifCond .eq 24, 3) := by decide +kernel
theorem dL_sound_351 : decode cL_sound 351 = .ok (.iload 15, 2) := by decide +kernel
theorem dL_sound_353 : decode cL_sound 353 = .ok (.ifCond .eq 19, 3) := by decide +kernel
theorem dL_sound_356 : decode cL_sound 356 = .ok (.iload 14, 2) := by decide +kernel
theorem dL_sound_358 : decode cL_sound 358 = .ok (.iload_n 1, 1) := by decide +kernel
theorem dL_sound_359 : decode cL_sound 359 = .ok (.iconst 1, 1) := by decide +kernel
theorem dL_sound_360 : decode cL_sound 360 = .ok (.isub, 1) := by decide +kernel
theorem dL_sound_361 : decode cL_sound 361 = .ok (.if_icmp .eq 11, 3) := by decide +kernel
theorem dL_sound_364 : decode cL_sound 364 = .ok (.iload 15, 2) := by decide +kernel
theorem dL_sound_366 : decode cL_sound 366 = .ok (.iload_n 2, 1) := by decide +kernel
theorem dL_sound_367 : decode cL_sound 367 = .ok (.iconst 1, 1) := by decide +kernel
theorem dL_sound_368 : decode cL_sound 368 = .ok (.isub, 1) := by decide +kernel
theorem dL_sound_369 : decode cL_sound 369 = .ok (.if_icmp .ne 7, 3) := by decide +kernel
theorem dL_sound_372 : decode cL_sound 372 = .ok (.iconst 1, 1) := by decide +kernel
theorem dL_sound_373 : decode cL_sound 373 = .ok (.goto 4, 3) := by decide +kernel
theorem dL_sound_376 : decode cL_sound 376 = .ok (.iconst 0, 1) := by decide +kernel
theorem dL_sound_377 : decode cL_sound 377 = .ok (.istore 20, 2) := by decide +kernel
theorem dL_sound_379 : decode cL_sound 379 = .ok (.iload 8, 2) := by decide +kernel
theorem dL_sound_381 : decode cL_sound 381 = .ok (.iload 17, 2) := by decide +kernel
theorem dL_sound_383 : decode cL_sound 383 = .ok (.bipush (-4), 2) := by decide +kernel
theorem dL_sound_385 : decode cL_sound 385 = .ok (.if_icmp .ne 7, 3) := by decide +kernel
theorem dL_sound_388 : decode cL_sound 388 = .ok (.iconst 0, 1) := by decide +kernel
theorem dL_sound_389 : decode cL_sound 389 = .ok (.goto 4, 3) := by decide +kernel
theorem dL_sound_392 : decode cL_sound 392 = .ok (.iconst 1, 1) := by decide +kernel
theorem dL_sound_393 : decode cL_sound 393 = .ok (.iadd, 1) := by decide +kernel
theorem dL_sound_394 : decode cL_sound 394 = .ok (.istore 8, 2) := by decide +kernel
theorem dL_sound_396 : decode cL_sound 396 = .ok (.iload 9, 2) := by decide +kernel
theorem dL_sound_398 : decode cL_sound 398 = .ok (.iload 17, 2) := by decide +kernel
theorem dL_sound_400 : decode cL_sound 400 = .ok (.bipush (-4), 2) := by decide +kernel
theorem dL_sound_402 : decode cL_sound 402 = .ok (.if_icmp .ne 7, 3) := by decide +kernel
theorem dL_sound_405 : decode cL_sound 405 = .ok (.iconst 0, 1) := by decide +kernel
theorem dL_sound_406 : decode cL_sound 406 = .ok (.goto 5, 3) := by decide +kernel
theorem dL_sound_409 : decode cL_sound 409 = .ok (.iload 18, 2) := by decide +kernel
theorem dL_sound_411 : decode cL_sound 411 = .ok (.iadd, 1) := by decide +kernel
theorem dL_sound_412 : decode cL_sound 412 = .ok (.istore 9, 2) := by decide +kernel
theorem dL_sound_414 : decode cL_sound 414 = .ok (.iload 18, 2) := by decide +kernel
theorem dL_sound_416 : decode cL_sound 416 = .ok (.iload 10, 2) := by decide +kernel
theorem dL_sound_418 : decode cL_sound 418 = .ok (.if_icmp .le 8, 3) := by decide +kernel
theorem dL_sound_421 : decode cL_sound 421 = .ok (.iload 18, 2) := by decide +kernel
theorem dL_sound_423 : decode cL_sound 423 = .ok (.goto 5, 3) := by decide +kernel
theorem dL_sound_426 : decode cL_sound 426 = .ok (.iload 10, 2) := by decide +kernel
theorem dL_sound_428 : decode cL_sound 428 = .ok (.istore 10, 2) := by decide +kernel
theorem dL_sound_430 : decode cL_sound 430 = .ok (.iload 11, 2) := by decide +kernel
theorem dL_sound_432 : decode cL_sound 432 = .ok (.iload 19, 2) := by decide +kernel
theorem dL_sound_434 : decode cL_sound 434 = .ok (.ifCond .lt 17, 3) := by decide +kernel
theorem dL_sound_437 : decode cL_sound 437 = .ok (.iload 19, 2) := by decide +kernel
theorem dL_sound_439 : decode cL_sound 439 = .ok (.bipush 30, 2) := by decide +kernel
theorem dL_sound_441 : decode cL_sound 441 = .ok (.if_icmp .ge 10, 3) := by decide +kernel
theorem dL_sound_444 : decode cL_sound 444 = .ok (.iconst 1, 1) := by decide +kernel
theorem dL_sound_445 : decode cL_sound 445 = .ok (.iload 19, 2) := by decide +kernel
theorem dL_sound_447 : decode cL_sound 447 = .ok (.ishl, 1) := by decide +kernel
theorem dL_sound_448 : decode cL_sound 448 = .ok (.goto 4, 3) := by decide +kernel
theorem dL_sound_451 : decode cL_sound 451 = .ok (.iconst 0, 1) := by decide +kernel
theorem dL_sound_452 : decode cL_sound 452 = .ok (.ior, 1) := by decide +kernel
theorem dL_sound_453 : decode cL_sound 453 = .ok (.istore 11, 2) := by decide +kernel
theorem dL_sound_455 : decode cL_sound 455 = .ok (.iload 12, 2) := by decide +kernel
theorem dL_sound_457 : decode cL_sound 457 = .ok (.iload 19, 2) := by decide +kernel
theorem dL_sound_459 : decode cL_sound 459 = .ok (.bipush 30, 2) := by decide +kernel
theorem dL_sound_461 : decode cL_sound 461 = .ok (.if_icmp .lt 13, 3) := by decide +kernel
theorem dL_sound_464 : decode cL_sound 464 = .ok (.iconst 1, 1) := by decide +kernel
theorem dL_sound_465 : decode cL_sound 465 = .ok (.iload 19, 2) := by decide +kernel
theorem dL_sound_467 : decode cL_sound 467 = .ok (.bipush 30, 2) := by decide +kernel
theorem dL_sound_469 : decode cL_sound 469 = .ok (.isub, 1) := by decide +kernel
theorem dL_sound_470 : decode cL_sound 470 = .ok (.ishl, 1) := by decide +kernel
theorem dL_sound_471 : decode cL_sound 471 = .ok (.goto 4, 3) := by decide +kernel
theorem dL_sound_474 : decode cL_sound 474 = .ok (.iconst 0, 1) := by decide +kernel
theorem dL_sound_475 : decode cL_sound 475 = .ok (.ior, 1) := by decide +kernel
theorem dL_sound_476 : decode cL_sound 476 = .ok (.istore 12, 2) := by decide +kernel
theorem dL_sound_478 : decode cL_sound 478 = .ok (.iload 16, 2) := by decide +kernel
theorem dL_sound_480 : decode cL_sound 480 = .ok (.ifCond .lt 101, 3) := by decide +kernel
theorem dL_sound_483 : decode cL_sound 483 = .ok (.iload 16, 2) := by decide +kernel
theorem dL_sound_485 : decode cL_sound 485 = .ok (.bipush 99, 2) := by decide +kernel
theorem dL_sound_487 : decode cL_sound 487 = .ok (.if_icmp .gt 94, 3) := by decide +kernel
theorem dL_sound_490 : decode cL_sound 490 = .ok (.iload 20, 2) := by decide +kernel
theorem dL_sound_492 : decode cL_sound 492 = .ok (.iload 19, 2) := by decide +kernel
theorem dL_sound_494 : decode cL_sound 494 = .ok (.ifCond .lt 7, 3) := by decide +kernel
theorem dL_sound_497 : decode cL_sound 497 = .ok (.iconst 1, 1) := by decide +kernel
theorem dL_sound_498 : decode cL_sound 498 = .ok (.goto 4, 3) := by decide +kernel
theorem dL_sound_501 : decode cL_sound 501 = .ok (.iconst 0, 1) := by decide +kernel
theorem dL_sound_502 : decode cL_sound 502 = .ok (.if_icmp .ne 79, 3) := by decide +kernel
theorem dL_sound_505 : decode cL_sound 505 = .ok (.iload 19, 2) := by decide +kernel
theorem dL_sound_507 : decode cL_sound 507 = .ok (.aload_n 0, 1) := by decide +kernel
theorem dL_sound_508 : decode cL_sound 508 = .ok (.iconst 2, 1) := by decide +kernel
theorem dL_sound_509 : decode cL_sound 509 = .ok (.invokevirtual 9, 3) := by decide +kernel
theorem dL_sound_512 : decode cL_sound 512 = .ok (.if_icmp .ge 69, 3) := by decide +kernel
theorem dL_sound_515 : decode cL_sound 515 = .ok (.iload 17, 2) := by decide +kernel
theorem dL_sound_517 : decode cL_sound 517 = .ok (.bipush (-4), 2) := by decide +kernel
theorem dL_sound_519 : decode cL_sound 519 = .ok (.if_icmp .eq 28, 3) := by decide +kernel
theorem dL_sound_522 : decode cL_sound 522 = .ok (.iload 18, 2) := by decide +kernel
theorem dL_sound_524 : decode cL_sound 524 = .ok (.iload 17, 2) := by decide +kernel
theorem dL_sound_526 : decode cL_sound 526 = .ok (.iload 16, 2) := by decide +kernel
theorem dL_sound_528 : decode cL_sound 528 = .ok (.if_icmp .le 11, 3) := by decide +kernel
theorem dL_sound_531 : decode cL_sound 531 = .ok (.iload 17, 2) := by decide +kernel
theorem dL_sound_533 : decode cL_sound 533 = .ok (.iload 16, 2) := by decide +kernel
theorem dL_sound_535 : decode cL_sound 535 = .ok (.isub, 1) := by decide +kernel
theorem dL_sound_536 : decode cL_sound 536 = .ok (.goto 8, 3) := by decide +kernel
theorem dL_sound_539 : decode cL_sound 539 = .ok (.iload 16, 2) := by decide +kernel
theorem dL_sound_541 : decode cL_sound 541 = .ok (.iload 17, 2) := by decide +kernel
theorem dL_sound_543 : decode cL_sound 543 = .ok (.isub, 1) := by decide +kernel
theorem dL_sound_544 : decode cL_sound 544 = .ok (.if_icmp .ne 37, 3) := by decide +kernel
theorem dL_sound_547 : decode cL_sound 547 = .ok (.iload 17, 2) := by decide +kernel
theorem dL_sound_549 : decode cL_sound 549 = .ok (.bipush (-4), 2) := by decide +kernel
theorem dL_sound_551 : decode cL_sound 551 = .ok (.if_icmp .ne 10, 3) := by decide +kernel
theorem dL_sound_554 : decode cL_sound 554 = .ok (.iload 18, 2) := by decide +kernel
theorem dL_sound_556 : decode cL_sound 556 = .ok (.bipush (-4), 2) := by decide +kernel
theorem dL_sound_558 : decode cL_sound 558 = .ok (.if_icmp .ne 23, 3) := by decide +kernel
theorem dL_sound_561 : decode cL_sound 561 = .ok (.iload 17, 2) := by decide +kernel
theorem dL_sound_563 : decode cL_sound 563 = .ok (.bipush (-4), 2) := by decide +kernel
theorem dL_sound_565 : decode cL_sound 565 = .ok (.if_icmp .eq 18, 3) := by decide +kernel
theorem dL_sound_568 : decode cL_sound 568 = .ok (.aload_n 0, 1) := by decide +kernel
theorem dL_sound_569 : decode cL_sound 569 = .ok (.iload 14, 2) := by decide +kernel
theorem dL_sound_571 : decode cL_sound 571 = .ok (.iload 15, 2) := by decide +kernel
theorem dL_sound_573 : decode cL_sound 573 = .ok (.invokevirtual 25, 3) := by decide +kernel
theorem dL_sound_576 : decode cL_sound 576 = .ok (.bipush (-4), 2) := by decide +kernel
theorem dL_sound_578 : decode cL_sound 578 = .ok (.if_icmp .eq 5, 3) := by decide +kernel
theorem dL_sound_581 : decode cL_sound 581 = .ok (.iconst 0, 1) := by decide +kernel
theorem dL_sound_582 : decode cL_sound 582 = .ok (.ireturn, 1) := by decide +kernel
theorem dL_sound_583 : decode cL_sound 583 = .ok (.iinc 13 1, 3) := by decide +kernel
theorem dL_sound_586 : decode cL_sound 586 = .ok (.goto (-304), 3) := by decide +kernel
theorem dL_sound_589 : decode cL_sound 589 = .ok (.aload_n 0, 1) := by decide +kernel
theorem dL_sound_590 : decode cL_sound 590 = .ok (.iconst 2, 1) := by decide +kernel
theorem dL_sound_591 : decode cL_sound 591 = .ok (.invokevirtual 9, 3) := by decide +kernel
theorem dL_sound_594 : decode cL_sound 594 = .ok (.istore 13, 2) := by decide +kernel
theorem dL_sound_596 : decode cL_sound 596 = .ok (.iload 13, 2) := by decide +kernel
theorem dL_sound_598 : decode cL_sound 598 = .ok (.bipush 30, 2) := by decide +kernel
theorem dL_sound_600 : decode cL_sound 600 = .ok (.if_icmp .ge 12, 3) := by decide +kernel
theorem dL_sound_603 : decode cL_sound 603 = .ok (.iconst 1, 1) := by decide +kernel
theorem dL_sound_604 : decode cL_sound 604 = .ok (.iload 13, 2) := by decide +kernel
theorem dL_sound_606 : decode cL_sound 606 = .ok (.ishl, 1) := by decide +kernel
theorem dL_sound_607 : decode cL_sound 607 = .ok (.iconst 1, 1) := by decide +kernel
theorem dL_sound_608 : decode cL_sound 608 = .ok (.isub, 1) := by decide +kernel
theorem dL_sound_609 : decode cL_sound 609 = .ok (.goto 5, 3) := by decide +kernel
theorem dL_sound_612 : decode cL_sound 612 = .ok (.ldc 28, 2) := by decide +kernel
theorem dL_sound_614 : decode cL_sound 614 = .ok (.istore 14, 2) := by decide +kernel
theorem dL_sound_616 : decode cL_sound 616 = .ok (.iload 13, 2) := by decide +kernel
theorem dL_sound_618 : decode cL_sound 618 = .ok (.bipush 31, 2) := by decide +kernel
theorem dL_sound_620 : decode cL_sound 620 = .ok (.if_icmp .ge 7, 3) := by decide +kernel
theorem dL_sound_623 : decode cL_sound 623 = .ok (.iconst 0, 1) := by decide +kernel
theorem dL_sound_624 : decode cL_sound 624 = .ok (.goto 12, 3) := by decide +kernel
theorem dL_sound_627 : decode cL_sound 627 = .ok (.iconst 1, 1) := by decide +kernel
theorem dL_sound_628 : decode cL_sound 628 = .ok (.iload 13, 2) := by decide +kernel
theorem dL_sound_630 : decode cL_sound 630 = .ok (.bipush 30, 2) := by decide +kernel
theorem dL_sound_632 : decode cL_sound 632 = .ok (.isub, 1) := by decide +kernel
theorem dL_sound_633 : decode cL_sound 633 = .ok (.ishl, 1) := by decide +kernel
theorem dL_sound_634 : decode cL_sound 634 = .ok (.iconst 1, 1) := by decide +kernel
theorem dL_sound_635 : decode cL_sound 635 = .ok (.isub, 1) := by decide +kernel
theorem dL_sound_636 : decode cL_sound 636 = .ok (.istore 15, 2) := by decide +kernel
theorem dL_sound_638 : decode cL_sound 638 = .ok (.aload_n 0, 1) := by decide +kernel
theorem dL_sound_639 : decode cL_sound 639 = .ok (.bipush 20, 2) := by decide +kernel
theorem dL_sound_641 : decode cL_sound 641 = .ok (.invokevirtual 9, 3) := by decide +kernel
theorem dL_sound_644 : decode cL_sound 644 = .ok (.iload 4, 2) := by decide +kernel
theorem dL_sound_646 : decode cL_sound 646 = .ok (.if_icmp .ne 134, 3) := by decide +kernel
theorem dL_sound_649 : decode cL_sound 649 = .ok (.aload_n 0, 1) := by decide +kernel
theorem dL_sound_650 : decode cL_sound 650 = .ok (.bipush 20, 2) := by decide +kernel
theorem dL_sound_652 : decode cL_sound 652 = .ok (.invokevirtual 9, 3) := by decide +kernel
theorem dL_sound_655 : decode cL_sound 655 = .ok (.iload 5, 2) := by decide +kernel
theorem dL_sound_657 : decode cL_sound 657 = .ok (.if_icmp .ne 123, 3) := by decide +kernel
theorem dL_sound_660 : decode cL_sound 660 = .ok (.aload_n 0, 1) := by decide +kernel
theorem dL_sound_661 : decode cL_sound 661 = .ok (.bipush 21, 2) := by decide +kernel
theorem dL_sound_663 : decode cL_sound 663 = .ok (.invokevirtual 9, 3) := by decide +kernel
theorem dL_sound_666 : decode cL_sound 666 = .ok (.iload 6, 2) := by decide +kernel
theorem dL_sound_668 : decode cL_sound 668 = .ok (.if_icmp .ne 112, 3) := by decide +kernel
theorem dL_sound_671 : decode cL_sound 671 = .ok (.aload_n 0, 1) := by decide +kernel
theorem dL_sound_672 : decode cL_sound 672 = .ok (.bipush 22, 2) := by decide +kernel
theorem dL_sound_674 : decode cL_sound 674 = .ok (.invokevirtual 9, 3) := by decide +kernel
theorem dL_sound_677 : decode cL_sound 677 = .ok (.aload_n 0, 1) := by decide +kernel
theorem dL_sound_678 : decode cL_sound 678 = .ok (.bipush 10, 2) := by decide +kernel
theorem dL_sound_680 : decode cL_sound 680 = .ok (.invokevirtual 9, 3) := by decide +kernel
theorem dL_sound_683 : decode cL_sound 683 = .ok (.iload_n 3, 1) := by decide +kernel
theorem dL_sound_684 : decode cL_sound 684 = .ok (.imul, 1) := by decide +kernel
theorem dL_sound_685 : decode cL_sound 685 = .ok (.if_icmp .ne 95, 3) := by decide +kernel
theorem dL_sound_688 : decode cL_sound 688 = .ok (.aload_n 0, 1) := by decide +kernel
theorem dL_sound_689 : decode cL_sound 689 = .ok (.bipush 23, 2) := by decide +kernel
theorem dL_sound_691 : decode cL_sound 691 = .ok (.invokevirtual 9, 3) := by decide +kernel
theorem dL_sound_694 : decode cL_sound 694 = .ok (.iload 8, 2) := by decide +kernel
theorem dL_sound_696 : decode cL_sound 696 = .ok (.iload_n 3, 1) := by decide +kernel
theorem dL_sound_697 : decode cL_sound 697 = .ok (.imul, 1) := by decide +kernel
theorem dL_sound_698 : decode cL_sound 698 = .ok (.if_icmp .ne 82, 3) := by decide +kernel
theorem dL_sound_701 : decode cL_sound 701 = .ok (.aload_n 0, 1) := by decide +kernel
theorem dL_sound_702 : decode cL_sound 702 = .ok (.bipush 6, 2) := by decide +kernel
theorem dL_sound_704 : decode cL_sound 704 = .ok (.invokevirtual 9, 3) := by decide +kernel
theorem dL_sound_707 : decode cL_sound 707 = .ok (.iload 8, 2) := by decide +kernel
theorem dL_sound_709 : decode cL_sound 709 = .ok (.if_icmp .ne 71, 3) := by decide +kernel
theorem dL_sound_712 : decode cL_sound 712 = .ok (.aload_n 0, 1) := by decide +kernel
theorem dL_sound_713 : decode cL_sound 713 = .ok (.bipush 7, 2) := by decide +kernel
theorem dL_sound_715 : decode cL_sound 715 = .ok (.invokevirtual 9, 3) := by decide +kernel
theorem dL_sound_718 : decode cL_sound 718 = .ok (.iload 9, 2) := by decide +kernel
theorem dL_sound_720 : decode cL_sound 720 = .ok (.if_icmp .ne 60, 3) := by decide +kernel
theorem dL_sound_723 : decode cL_sound 723 = .ok (.aload_n 0, 1) := by decide +kernel
theorem dL_sound_724 : decode cL_sound 724 = .ok (.bipush 8, 2) := by decide +kernel
theorem dL_sound_726 : decode cL_sound 726 = .ok (.invokevirtual 9, 3) := by decide +kernel
theorem dL_sound_729 : decode cL_sound 729 = .ok (.iload 10, 2) := by decide +kernel
theorem dL_sound_731 : decode cL_sound 731 = .ok (.if_icmp .ne 49, 3) := by decide +kernel
theorem dL_sound_734 : decode cL_sound 734 = .ok (.iload 13, 2) := by decide +kernel
theorem dL_sound_736 : decode cL_sound 736 = .ok (.iconst 2, 1) := by decide +kernel
theorem dL_sound_737 : decode cL_sound 737 = .ok (.iload_n 1, 1) := by decide +kernel
theorem dL_sound_738 : decode cL_sound 738 = .ok (.iload_n 2, 1) := by decide +kernel
theorem dL_sound_739 : decode cL_sound 739 = .ok (.iadd, 1) := by decide +kernel
theorem dL_sound_740 : decode cL_sound 740 = .ok (.imul, 1) := by decide +kernel
theorem dL_sound_741 : decode cL_sound 741 = .ok (.iconst 4, 1) := by decide +kernel
theorem dL_sound_742 : decode cL_sound 742 = .ok (.isub, 1) := by decide +kernel
theorem dL_sound_743 : decode cL_sound 743 = .ok (.if_icmp .ne 37, 3) := by decide +kernel
theorem dL_sound_746 : decode cL_sound 746 = .ok (.iload 11, 2) := by decide +kernel
theorem dL_sound_748 : decode cL_sound 748 = .ok (.iload 14, 2) := by decide +kernel
theorem dL_sound_750 : decode cL_sound 750 = .ok (.if_icmp .ne 30, 3) := by decide +kernel
theorem dL_sound_753 : decode cL_sound 753 = .ok (.iload 12, 2) := by decide +kernel
theorem dL_sound_755 : decode cL_sound 755 = .ok (.iload 15, 2) := by decide +kernel
theorem dL_sound_757 : decode cL_sound 757 = .ok (.if_icmp .ne 23, 3) := by decide +kernel
theorem dL_sound_760 : decode cL_sound 760 = .ok (.aload_n 0, 1) := by decide +kernel
theorem dL_sound_761 : decode cL_sound 761 = .ok (.bipush 12, 2) := by decide +kernel
theorem dL_sound_763 : decode cL_sound 763 = .ok (.invokevirtual 9, 3) := by decide +kernel
theorem dL_sound_766 : decode cL_sound 766 = .ok (.ifCond .lt 14, 3) := by decide +kernel
theorem dL_sound_769 : decode cL_sound 769 = .ok (.iload 7, 2) := by decide +kernel
theorem dL_sound_771 : decode cL_sound 771 = .ok (.iload 5, 2) := by decide +kernel
theorem dL_sound_773 : decode cL_sound 773 = .ok (.if_icmp .gt 7, 3) := by decide +kernel
theorem dL_sound_776 : decode cL_sound 776 = .ok (.iconst 1, 1) := by decide +kernel
theorem dL_sound_777 : decode cL_sound 777 = .ok (.goto 4, 3) := by decide +kernel
theorem dL_sound_780 : decode cL_sound 780 = .ok (.iconst 0, 1) := by decide +kernel
theorem dL_sound_781 : decode cL_sound 781 = .ok (.ireturn, 1) := by decide +kernel
theorem dL_border_0 : decode cL_border 0 = .ok (.aload_n 0, 1) := by decide +kernel
theorem dL_border_1 : decode cL_border 1 = .ok (.iconst 0, 1) := by decide +kernel
theorem dL_border_2 : decode cL_border 2 = .ok (.invokevirtual 9, 3) := by decide +kernel
theorem dL_border_5 : decode cL_border 5 = .ok (.istore_n 1, 1) := by decide +kernel
theorem dL_border_6 : decode cL_border 6 = .ok (.aload_n 0, 1) := by decide +kernel
theorem dL_border_7 : decode cL_border 7 = .ok (.iconst 1, 1) := by decide +kernel
theorem dL_border_8 : decode cL_border 8 = .ok (.invokevirtual 9, 3) := by decide +kernel
theorem dL_border_11 : decode cL_border 11 = .ok (.istore_n 2, 1) := by decide +kernel
theorem dL_border_12 : decode cL_border 12 = .ok (.aload_n 0, 1) := by decide +kernel
theorem dL_border_13 : decode cL_border 13 = .ok (.iconst 0, 1) := by decide +kernel
theorem dL_border_14 : decode cL_border 14 = .ok (.invokevirtual 29, 3) := by decide +kernel
theorem dL_border_17 : decode cL_border 17 = .ok (.istore_n 3, 1) := by decide +kernel
theorem dL_border_18 : decode cL_border 18 = .ok (.aload_n 0, 1) := by decide +kernel
theorem dL_border_19 : decode cL_border 19 = .ok (.iconst 0, 1) := by decide +kernel
theorem dL_border_20 : decode cL_border 20 = .ok (.iconst 0, 1) := by decide +kernel
theorem dL_border_21 : decode cL_border 21 = .ok (.iconst 0, 1) := by decide +kernel
theorem dL_border_22 : decode cL_border 22 = .ok (.invokevirtual 21, 3) := by decide +kernel
theorem dL_border_25 : decode cL_border 25 = .ok (.iload_n 3, 1) := by decide +kernel
theorem dL_border_26 : decode cL_border 26 = .ok (.if_icmp .ne 48, 3) := by decide +kernel
theorem dL_border_29 : decode cL_border 29 = .ok (.aload_n 0, 1) := by decide +kernel
theorem dL_border_30 : decode cL_border 30 = .ok (.iload_n 1, 1) := by decide +kernel
theorem dL_border_31 : decode cL_border 31 = .ok (.iconst 1, 1) := by decide +kernel
theorem dL_border_32 : decode cL_border 32 = .ok (.isub, 1) := by decide +kernel
theorem dL_border_33 : decode cL_border 33 = .ok (.iconst 0, 1) := by decide +kernel
theorem dL_border_34 : decode cL_border 34 = .ok (.iconst 0, 1) := by decide +kernel
theorem dL_border_35 : decode cL_border 35 = .ok (.invokevirtual 21, 3) := by decide +kernel
theorem dL_border_38 : decode cL_border 38 = .ok (.iload_n 3, 1) := by decide +kernel
theorem dL_border_39 : decode cL_border 39 = .ok (.if_icmp .ne 35, 3) := by decide +kernel
theorem dL_border_42 : decode cL_border 42 = .ok (.aload_n 0, 1) := by decide +kernel
theorem dL_border_43 : decode cL_border 43 = .ok (.iconst 0, 1) := by decide +kernel
theorem dL_border_44 : decode cL_border 44 = .ok (.iload_n 2, 1) := by decide +kernel
theorem dL_border_45 : decode cL_border 45 = .ok (.iconst 1, 1) := by decide +kernel
theorem dL_border_46 : decode cL_border 46 = .ok (.isub, 1) := by decide +kernel
theorem dL_border_47 : decode cL_border 47 = .ok (.iconst 0, 1) := by decide +kernel
theorem dL_border_48 : decode cL_border 48 = .ok (.invokevirtual 21, 3) := by decide +kernel
theorem dL_border_51 : decode cL_border 51 = .ok (.iload_n 3, 1) := by decide +kernel
theorem dL_border_52 : decode cL_border 52 = .ok (.if_icmp .ne 22, 3) := by decide +kernel
theorem dL_border_55 : decode cL_border 55 = .ok (.aload_n 0, 1) := by decide +kernel
theorem dL_border_56 : decode cL_border 56 = .ok (.iload_n 1, 1) := by decide +kernel
theorem dL_border_57 : decode cL_border 57 = .ok (.iconst 1, 1) := by decide +kernel
theorem dL_border_58 : decode cL_border 58 = .ok (.isub, 1) := by decide +kernel
theorem dL_border_59 : decode cL_border 59 = .ok (.iload_n 2, 1) := by decide +kernel
theorem dL_border_60 : decode cL_border 60 = .ok (.iconst 1, 1) := by decide +kernel
theorem dL_border_61 : decode cL_border 61 = .ok (.isub, 1) := by decide +kernel
theorem dL_border_62 : decode cL_border 62 = .ok (.iconst 0, 1) := by decide +kernel
theorem dL_border_63 : decode cL_border 63 = .ok (.invokevirtual 21, 3) := by decide +kernel
theorem dL_border_66 : decode cL_border 66 = .ok (.iload_n 3, 1) := by decide +kernel
theorem dL_border_67 : decode cL_border 67 = .ok (.if_icmp .ne 7, 3) := by decide +kernel
theorem dL_border_70 : decode cL_border 70 = .ok (.iconst 1, 1) := by decide +kernel
theorem dL_border_71 : decode cL_border 71 = .ok (.goto 4, 3) := by decide +kernel
theorem dL_border_74 : decode cL_border 74 = .ok (.iconst 0, 1) := by decide +kernel
theorem dL_border_75 : decode cL_border 75 = .ok (.istore 4, 2) := by decide +kernel
theorem dL_border_77 : decode cL_border 77 = .ok (.iconst 1, 1) := by decide +kernel
theorem dL_border_78 : decode cL_border 78 = .ok (.istore 5, 2) := by decide +kernel
theorem dL_border_80 : decode cL_border 80 = .ok (.iconst 0, 1) := by decide +kernel
theorem dL_border_81 : decode cL_border 81 = .ok (.istore 6, 2) := by decide +kernel
theorem dL_border_83 : decode cL_border 83 = .ok (.iload 6, 2) := by decide +kernel
theorem dL_border_85 : decode cL_border 85 = .ok (.iconst 1, 1) := by decide +kernel
theorem dL_border_86 : decode cL_border 86 = .ok (.iadd, 1) := by decide +kernel
theorem dL_border_87 : decode cL_border 87 = .ok (.iload_n 1, 1) := by decide +kernel
theorem dL_border_88 : decode cL_border 88 = .ok (.if_icmp .ge 67, 3) := by decide +kernel
theorem dL_border_91 : decode cL_border 91 = .ok (.iload 5, 2) := by decide +kernel
theorem dL_border_93 : decode cL_border 93 = .ok (.ifCond .eq 53, 3) := by decide +kernel
theorem dL_border_96 : decode cL_border 96 = .ok (.aload_n 0, 1) := by decide +kernel
theorem dL_border_97 : decode cL_border 97 = .ok (.iload 6, 2) := by decide +kernel
theorem dL_border_99 : decode cL_border 99 = .ok (.iconst 0, 1) := by decide +kernel
theorem dL_border_100 : decode cL_border 100 = .ok (.iconst 0, 1) := by decide +kernel
theorem dL_border_101 : decode cL_border 101 = .ok (.invokevirtual 21, 3) := by decide +kernel
theorem dL_border_104 : decode cL_border 104 = .ok (.aload_n 0, 1) := by decide +kernel
theorem dL_border_105 : decode cL_border 105 = .ok (.iload 6, 2) := by decide +kernel
theorem dL_border_107 : decode cL_border 107 = .ok (.iconst 1, 1) := by decide +kernel
theorem dL_border_108 : decode cL_border 108 = .ok (.iadd, 1) := by decide +kernel
theorem dL_border_109 : decode cL_border 109 = .ok (.iconst 0, 1) := by decide +kernel
theorem dL_border_110 : decode cL_border 110 = .ok (.iconst 0, 1) := by decide +kernel
theorem dL_border_111 : decode cL_border 111 = .ok (.invokevirtual 21, 3) := by decide +kernel
theorem dL_border_114 : decode cL_border 114 = .ok (.if_icmp .eq 32, 3) := by decide +kernel
theorem dL_border_117 : decode cL_border 117 = .ok (.aload_n 0, 1) := by decide +kernel
theorem dL_border_118 : decode cL_border 118 = .ok (.iload 6, 2) := by decide +kernel
theorem dL_border_120 : decode cL_border 120 = .ok (.iload_n 2, 1) := by decide +kernel
theorem dL_border_121 : decode cL_border 121 = .ok (.iconst 1, 1) := by decide +kernel
theorem dL_border_122 : decode cL_border 122 = .ok (.isub, 1) := by decide +kernel
theorem dL_border_123 : decode cL_border 123 = .ok (.iconst 0, 1) := by decide +kernel
theorem dL_border_124 : decode cL_border 124 = .ok (.invokevirtual 21, 3) := by decide +kernel
theorem dL_border_127 : decode cL_border 127 = .ok (.aload_n 0, 1) := by decide +kernel
theorem dL_border_128 : decode cL_border 128 = .ok (.iload 6, 2) := by decide +kernel
theorem dL_border_130 : decode cL_border 130 = .ok (.iconst 1, 1) := by decide +kernel
theorem dL_border_131 : decode cL_border 131 = .ok (.iadd, 1) := by decide +kernel
theorem dL_border_132 : decode cL_border 132 = .ok (.iload_n 2, 1) := by decide +kernel
theorem dL_border_133 : decode cL_border 133 = .ok (.iconst 1, 1) := by decide +kernel
theorem dL_border_134 : decode cL_border 134 = .ok (.isub, 1) := by decide +kernel
theorem dL_border_135 : decode cL_border 135 = .ok (.iconst 0, 1) := by decide +kernel
theorem dL_border_136 : decode cL_border 136 = .ok (.invokevirtual 21, 3) := by decide +kernel
theorem dL_border_139 : decode cL_border 139 = .ok (.if_icmp .eq 7, 3) := by decide +kernel
theorem dL_border_142 : decode cL_border 142 = .ok (.iconst 1, 1) := by decide +kernel
theorem dL_border_143 : decode cL_border 143 = .ok (.goto 4, 3) := by decide +kernel
theorem dL_border_146 : decode cL_border 146 = .ok (.iconst 0, 1) := by decide +kernel
theorem dL_border_147 : decode cL_border 147 = .ok (.istore 5, 2) := by decide +kernel
theorem dL_border_149 : decode cL_border 149 = .ok (.iinc 6 1, 3) := by decide +kernel
theorem dL_border_152 : decode cL_border 152 = .ok (.goto (-69), 3) := by decide +kernel
theorem dL_border_155 : decode cL_border 155 = .ok (.iconst 0, 1) := by decide +kernel
theorem dL_border_156 : decode cL_border 156 = .ok (.istore 6, 2) := by decide +kernel
theorem dL_border_158 : decode cL_border 158 = .ok (.iload 6, 2) := by decide +kernel
theorem dL_border_160 : decode cL_border 160 = .ok (.iconst 1, 1) := by decide +kernel
theorem dL_border_161 : decode cL_border 161 = .ok (.iadd, 1) := by decide +kernel
theorem dL_border_162 : decode cL_border 162 = .ok (.iload_n 2, 1) := by decide +kernel
theorem dL_border_163 : decode cL_border 163 = .ok (.if_icmp .ge 67, 3) := by decide +kernel
theorem dL_border_166 : decode cL_border 166 = .ok (.iload 5, 2) := by decide +kernel
theorem dL_border_168 : decode cL_border 168 = .ok (.ifCond .eq 53, 3) := by decide +kernel
theorem dL_border_171 : decode cL_border 171 = .ok (.aload_n 0, 1) := by decide +kernel
theorem dL_border_172 : decode cL_border 172 = .ok (.iconst 0, 1) := by decide +kernel
theorem dL_border_173 : decode cL_border 173 = .ok (.iload 6, 2) := by decide +kernel
theorem dL_border_175 : decode cL_border 175 = .ok (.iconst 0, 1) := by decide +kernel
theorem dL_border_176 : decode cL_border 176 = .ok (.invokevirtual 21, 3) := by decide +kernel
theorem dL_border_179 : decode cL_border 179 = .ok (.aload_n 0, 1) := by decide +kernel
theorem dL_border_180 : decode cL_border 180 = .ok (.iconst 0, 1) := by decide +kernel
theorem dL_border_181 : decode cL_border 181 = .ok (.iload 6, 2) := by decide +kernel
theorem dL_border_183 : decode cL_border 183 = .ok (.iconst 1, 1) := by decide +kernel
theorem dL_border_184 : decode cL_border 184 = .ok (.iadd, 1) := by decide +kernel
theorem dL_border_185 : decode cL_border 185 = .ok (.iconst 0, 1) := by decide +kernel
theorem dL_border_186 : decode cL_border 186 = .ok (.invokevirtual 21, 3) := by decide +kernel
theorem dL_border_189 : decode cL_border 189 = .ok (.if_icmp .eq 32, 3) := by decide +kernel
theorem dL_border_192 : decode cL_border 192 = .ok (.aload_n 0, 1) := by decide +kernel
theorem dL_border_193 : decode cL_border 193 = .ok (.iload_n 1, 1) := by decide +kernel
theorem dL_border_194 : decode cL_border 194 = .ok (.iconst 1, 1) := by decide +kernel
theorem dL_border_195 : decode cL_border 195 = .ok (.isub, 1) := by decide +kernel
theorem dL_border_196 : decode cL_border 196 = .ok (.iload 6, 2) := by decide +kernel
theorem dL_border_198 : decode cL_border 198 = .ok (.iconst 0, 1) := by decide +kernel
theorem dL_border_199 : decode cL_border 199 = .ok (.invokevirtual 21, 3) := by decide +kernel
theorem dL_border_202 : decode cL_border 202 = .ok (.aload_n 0, 1) := by decide +kernel
theorem dL_border_203 : decode cL_border 203 = .ok (.iload_n 1, 1) := by decide +kernel
theorem dL_border_204 : decode cL_border 204 = .ok (.iconst 1, 1) := by decide +kernel
theorem dL_border_205 : decode cL_border 205 = .ok (.isub, 1) := by decide +kernel
theorem dL_border_206 : decode cL_border 206 = .ok (.iload 6, 2) := by decide +kernel
theorem dL_border_208 : decode cL_border 208 = .ok (.iconst 1, 1) := by decide +kernel
theorem dL_border_209 : decode cL_border 209 = .ok (.iadd, 1) := by decide +kernel
theorem dL_border_210 : decode cL_border 210 = .ok (.iconst 0, 1) := by decide +kernel
theorem dL_border_211 : decode cL_border 211 = .ok (.invokevirtual 21, 3) := by decide +kernel
theorem dL_border_214 : decode cL_border 214 = .ok (.if_icmp .eq 7, 3) := by decide +kernel
theorem dL_border_217 : decode cL_border 217 = .ok (.iconst 1, 1) := by decide +kernel
theorem dL_border_218 : decode cL_border 218 = .ok (.goto 4, 3) := by decide +kernel
theorem dL_border_221 : decode cL_border 221 = .ok (.iconst 0, 1) := by decide +kernel
theorem dL_border_222 : decode cL_border 222 = .ok (.istore 5, 2) := by decide +kernel
theorem dL_border_224 : decode cL_border 224 = .ok (.iinc 6 1, 3) := by decide +kernel
theorem dL_border_227 : decode cL_border 227 = .ok (.goto (-69), 3) := by decide +kernel
theorem dL_border_230 : decode cL_border 230 = .ok (.iconst 1, 1) := by decide +kernel
theorem dL_border_231 : decode cL_border 231 = .ok (.istore 6, 2) := by decide +kernel
theorem dL_border_233 : decode cL_border 233 = .ok (.iconst 1, 1) := by decide +kernel
theorem dL_border_234 : decode cL_border 234 = .ok (.istore 7, 2) := by decide +kernel
theorem dL_border_236 : decode cL_border 236 = .ok (.iload 7, 2) := by decide +kernel
theorem dL_border_238 : decode cL_border 238 = .ok (.aload_n 0, 1) := by decide +kernel
theorem dL_border_239 : decode cL_border 239 = .ok (.iconst 3, 1) := by decide +kernel
theorem dL_border_240 : decode cL_border 240 = .ok (.invokevirtual 9, 3) := by decide +kernel
theorem dL_border_243 : decode cL_border 243 = .ok (.if_icmp .ge 31, 3) := by decide +kernel
theorem dL_border_246 : decode cL_border 246 = .ok (.iload 6, 2) := by decide +kernel
theorem dL_border_248 : decode cL_border 248 = .ok (.ifCond .eq 17, 3) := by decide +kernel
theorem dL_border_251 : decode cL_border 251 = .ok (.aload_n 0, 1) := by decide +kernel
theorem dL_border_252 : decode cL_border 252 = .ok (.iload 7, 2) := by decide +kernel
theorem dL_border_254 : decode cL_border 254 = .ok (.invokevirtual 29, 3) := by decide +kernel
theorem dL_border_257 : decode cL_border 257 = .ok (.iload_n 3, 1) := by decide +kernel
theorem dL_border_258 : decode cL_border 258 = .ok (.if_icmp .ne 7, 3) := by decide +kernel
theorem dL_border_261 : decode cL_border 261 = .ok (.iconst 1, 1) := by decide +kernel
theorem dL_border_262 : decode cL_border 262 = .ok (.goto 4, 3) := by decide +kernel
theorem dL_border_265 : decode cL_border 265 = .ok (.iconst 0, 1) := by decide +kernel
theorem dL_border_266 : decode cL_border 266 = .ok (.istore 6, 2) := by decide +kernel
theorem dL_border_268 : decode cL_border 268 = .ok (.iinc 7 1, 3) := by decide +kernel
theorem dL_border_271 : decode cL_border 271 = .ok (.goto (-35), 3) := by decide +kernel
theorem dL_border_274 : decode cL_border 274 = .ok (.iconst 1, 1) := by decide +kernel
theorem dL_border_275 : decode cL_border 275 = .ok (.istore 7, 2) := by decide +kernel
theorem dL_border_277 : decode cL_border 277 = .ok (.iconst 0, 1) := by decide +kernel
theorem dL_border_278 : decode cL_border 278 = .ok (.istore 8, 2) := by decide +kernel
theorem dL_border_280 : decode cL_border 280 = .ok (.iload 8, 2) := by decide +kernel
theorem dL_border_282 : decode cL_border 282 = .ok (.iload_n 1, 1) := by decide +kernel
theorem dL_border_283 : decode cL_border 283 = .ok (.if_icmp .ge 74, 3) := by decide +kernel
theorem dL_border_286 : decode cL_border 286 = .ok (.aload_n 0, 1) := by decide +kernel
theorem dL_border_287 : decode cL_border 287 = .ok (.iconst 4, 1) := by decide +kernel
theorem dL_border_288 : decode cL_border 288 = .ok (.invokevirtual 9, 3) := by decide +kernel
theorem dL_border_291 : decode cL_border 291 = .ok (.iconst 1, 1) := by decide +kernel
theorem dL_border_292 : decode cL_border 292 = .ok (.if_icmp .ne 65, 3) := by decide +kernel
theorem dL_border_295 : decode cL_border 295 = .ok (.iload 7, 2) := by decide +kernel
theorem dL_border_297 : decode cL_border 297 = .ok (.ifCond .eq 51, 3) := by decide +kernel
theorem dL_border_300 : decode cL_border 300 = .ok (.aload_n 0, 1) := by decide +kernel
theorem dL_border_301 : decode cL_border 301 = .ok (.iload 8, 2) := by decide +kernel
theorem dL_border_303 : decode cL_border 303 = .ok (.iconst 0, 1) := by decide +kernel
theorem dL_border_304 : decode cL_border 304 = .ok (.iconst 0, 1) := by decide +kernel
theorem dL_border_305 : decode cL_border 305 = .ok (.invokevirtual 21, 3) := by decide +kernel
theorem dL_border_308 : decode cL_border 308 = .ok (.aload_n 0, 1) := by decide +kernel
theorem dL_border_309 : decode cL_border 309 = .ok (.iload_n 1, 1) := by decide +kernel
theorem dL_border_310 : decode cL_border 310 = .ok (.iconst 1, 1) := by decide +kernel
theorem dL_border_311 : decode cL_border 311 = .ok (.isub, 1) := by decide +kernel
theorem dL_border_312 : decode cL_border 312 = .ok (.iload 8, 2) := by decide +kernel
theorem dL_border_314 : decode cL_border 314 = .ok (.isub, 1) := by decide +kernel
theorem dL_border_315 : decode cL_border 315 = .ok (.iconst 0, 1) := by decide +kernel
theorem dL_border_316 : decode cL_border 316 = .ok (.iconst 0, 1) := by decide +kernel
theorem dL_border_317 : decode cL_border 317 = .ok (.invokevirtual 21, 3) := by decide +kernel
theorem dL_border_320 : decode cL_border 320 = .ok (.if_icmp .ne 28, 3) := by decide +kernel
theorem dL_border_323 : decode cL_border 323 = .ok (.aload_n 0, 1) := by decide +kernel
theorem dL_border_324 : decode cL_border 324 = .ok (.iload 8, 2) := by decide +kernel
theorem dL_border_326 : decode cL_border 326 = .ok (.iconst 0, 1) := by decide +kernel
theorem dL_border_327 : decode cL_border 327 = .ok (.iconst 0, 1) := by decide +kernel
theorem dL_border_328 : decode cL_border 328 = .ok (.invokevirtual 21, 3) := by decide +kernel
theorem dL_border_331 : decode cL_border 331 = .ok (.aload_n 0, 1) := by decide +kernel
theorem dL_border_332 : decode cL_border 332 = .ok (.iload 8, 2) := by decide +kernel
theorem dL_border_334 : decode cL_border 334 = .ok (.iload_n 2, 1) := by decide +kernel
theorem dL_border_335 : decode cL_border 335 = .ok (.iconst 1, 1) := by decide +kernel
theorem dL_border_336 : decode cL_border 336 = .ok (.isub, 1) := by decide +kernel
theorem dL_border_337 : decode cL_border 337 = .ok (.iconst 0, 1) := by decide +kernel
theorem dL_border_338 : decode cL_border 338 = .ok (.invokevirtual 21, 3) := by decide +kernel
theorem dL_border_341 : decode cL_border 341 = .ok (.if_icmp .ne 7, 3) := by decide +kernel
theorem dL_border_344 : decode cL_border 344 = .ok (.iconst 1, 1) := by decide +kernel
theorem dL_border_345 : decode cL_border 345 = .ok (.goto 4, 3) := by decide +kernel
theorem dL_border_348 : decode cL_border 348 = .ok (.iconst 0, 1) := by decide +kernel
theorem dL_border_349 : decode cL_border 349 = .ok (.istore 7, 2) := by decide +kernel
theorem dL_border_351 : decode cL_border 351 = .ok (.iinc 8 1, 3) := by decide +kernel
theorem dL_border_354 : decode cL_border 354 = .ok (.goto (-74), 3) := by decide +kernel
theorem dL_border_357 : decode cL_border 357 = .ok (.aload_n 0, 1) := by decide +kernel
theorem dL_border_358 : decode cL_border 358 = .ok (.iconst 4, 1) := by decide +kernel
theorem dL_border_359 : decode cL_border 359 = .ok (.invokevirtual 9, 3) := by decide +kernel
theorem dL_border_362 : decode cL_border 362 = .ok (.ifCond .eq 8, 3) := by decide +kernel
theorem dL_border_365 : decode cL_border 365 = .ok (.iload 4, 2) := by decide +kernel
theorem dL_border_367 : decode cL_border 367 = .ok (.ifCond .eq 78, 3) := by decide +kernel
theorem dL_border_370 : decode cL_border 370 = .ok (.iload 7, 2) := by decide +kernel
theorem dL_border_372 : decode cL_border 372 = .ok (.ifCond .eq 73, 3) := by decide +kernel
theorem dL_border_375 : decode cL_border 375 = .ok (.aload_n 0, 1) := by decide +kernel
theorem dL_border_376 : decode cL_border 376 = .ok (.iconst 5, 1) := by decide +kernel
theorem dL_border_377 : decode cL_border 377 = .ok (.invokevirtual 9, 3) := by decide +kernel
theorem dL_border_380 : decode cL_border 380 = .ok (.iload 5, 2) := by decide +kernel
theorem dL_border_382 : decode cL_border 382 = .ok (.ifCond .ne 8, 3) := by decide +kernel
theorem dL_border_385 : decode cL_border 385 = .ok (.iload 6, 2) := by decide +kernel
theorem dL_border_387 : decode cL_border 387 = .ok (.ifCond .eq 7, 3) := by decide +kernel
theorem dL_border_390 : decode cL_border 390 = .ok (.iconst 1, 1) := by decide +kernel
theorem dL_border_391 : decode cL_border 391 = .ok (.goto 4, 3) := by decide +kernel
theorem dL_border_394 : decode cL_border 394 = .ok (.iconst 0, 1) := by decide +kernel
theorem dL_border_395 : decode cL_border 395 = .ok (.if_icmp .ne 50, 3) := by decide +kernel
theorem dL_border_398 : decode cL_border 398 = .ok (.aload_n 0, 1) := by decide +kernel
theorem dL_border_399 : decode cL_border 399 = .ok (.aload_n 0, 1) := by decide +kernel
theorem dL_border_400 : decode cL_border 400 = .ok (.iconst 3, 1) := by decide +kernel
theorem dL_border_401 : decode cL_border 401 = .ok (.invokevirtual 9, 3) := by decide +kernel
theorem dL_border_404 : decode cL_border 404 = .ok (.invokevirtual 29, 3) := by decide +kernel
theorem dL_border_407 : decode cL_border 407 = .ok (.bipush (-4), 2) := by decide +kernel
theorem dL_border_409 : decode cL_border 409 = .ok (.if_icmp .ne 36, 3) := by decide +kernel
theorem dL_border_412 : decode cL_border 412 = .ok (.aload_n 0, 1) := by decide +kernel
theorem dL_border_413 : decode cL_border 413 = .ok (.iconst 0, 1) := by decide +kernel
theorem dL_border_414 : decode cL_border 414 = .ok (.iconst 0, 1) := by decide +kernel
theorem dL_border_415 : decode cL_border 415 = .ok (.iconst 3, 1) := by decide +kernel
theorem dL_border_416 : decode cL_border 416 = .ok (.invokevirtual 21, 3) := by decide +kernel
theorem dL_border_419 : decode cL_border 419 = .ok (.ifCond .ne 26, 3) := by decide +kernel
theorem dL_border_422 : decode cL_border 422 = .ok (.aload_n 0, 1) := by decide +kernel
theorem dL_border_423 : decode cL_border 423 = .ok (.iload_n 1, 1) := by decide +kernel
theorem dL_border_424 : decode cL_border 424 = .ok (.iconst 1, 1) := by decide +kernel
theorem dL_border_425 : decode cL_border 425 = .ok (.isub, 1) := by decide +kernel
theorem dL_border_426 : decode cL_border 426 = .ok (.iload_n 2, 1) := by decide +kernel
theorem dL_border_427 : decode cL_border 427 = .ok (.iconst 1, 1) := by decide +kernel
theorem dL_border_428 : decode cL_border 428 = .ok (.isub, 1) := by decide +kernel
theorem dL_border_429 : decode cL_border 429 = .ok (.iconst 3, 1) := by decide +kernel
theorem dL_border_430 : decode cL_border 430 = .ok (.invokevirtual 21, 3) := by decide +kernel
theorem dL_border_433 : decode cL_border 433 = .ok (.iload_n 1, 1) := by decide +kernel
theorem dL_border_434 : decode cL_border 434 = .ok (.iload_n 2, 1) := by decide +kernel
theorem dL_border_435 : decode cL_border 435 = .ok (.iadd, 1) := by decide +kernel
theorem dL_border_436 : decode cL_border 436 = .ok (.iconst 2, 1) := by decide +kernel
theorem dL_border_437 : decode cL_border 437 = .ok (.isub, 1) := by decide +kernel
theorem dL_border_438 : decode cL_border 438 = .ok (.if_icmp .ne 7, 3) := by decide +kernel
theorem dL_border_441 : decode cL_border 441 = .ok (.iconst 1, 1) := by decide +kernel
theorem dL_border_442 : decode cL_border 442 = .ok (.goto 4, 3) := by decide +kernel
theorem dL_border_445 : decode cL_border 445 = .ok (.iconst 0, 1) := by decide +kernel
theorem dL_border_446 : decode cL_border 446 = .ok (.ireturn, 1) := by decide +kernel
theorem dL_near_0 : decode cL_near 0 = .ok (.aload_n 0, 1) := by decide +kernel
theorem dL_near_1 : decode cL_near 1 = .ok (.iload_n 1, 1) := by decide +kernel
theorem dL_near_2 : decode cL_near 2 = .ok (.iload_n 2, 1) := by decide +kernel
theorem dL_near_3 : decode cL_near 3 = .ok (.iconst 0, 1) := by decide +kernel
theorem dL_near_4 : decode cL_near 4 = .ok (.invokevirtual 21, 3) := by decide +kernel
theorem dL_near_7 : decode cL_near 7 = .ok (.istore_n 3, 1) := by decide +kernel
theorem dL_near_8 : decode cL_near 8 = .ok (.aload_n 0, 1) := by decide +kernel
theorem dL_near_9 : decode cL_near 9 = .ok (.iload_n 1, 1) := by decide +kernel
theorem dL_near_10 : decode cL_near 10 = .ok (.iload_n 2, 1) := by decide +kernel
theorem dL_near_11 : decode cL_near 11 = .ok (.invokevirtual 25, 3) := by decide +kernel
theorem dL_near_14 : decode cL_near 14 = .ok (.istore 4, 2) := by decide +kernel
theorem dL_near_16 : decode cL_near 16 = .ok (.iload 4, 2) := by decide +kernel
theorem dL_near_18 : decode cL_near 18 = .ok (.iload_n 3, 1) := by decide +kernel
theorem dL_near_19 : decode cL_near 19 = .ok (.if_icmp .le 10, 3) := by decide +kernel
theorem dL_near_22 : decode cL_near 22 = .ok (.iload 4, 2) := by decide +kernel
theorem dL_near_24 : decode cL_near 24 = .ok (.iload_n 3, 1) := by decide +kernel
theorem dL_near_25 : decode cL_near 25 = .ok (.isub, 1) := by decide +kernel
theorem dL_near_26 : decode cL_near 26 = .ok (.goto 7, 3) := by decide +kernel
theorem dL_near_29 : decode cL_near 29 = .ok (.iload_n 3, 1) := by decide +kernel
theorem dL_near_30 : decode cL_near 30 = .ok (.iload 4, 2) := by decide +kernel
theorem dL_near_32 : decode cL_near 32 = .ok (.isub, 1) := by decide +kernel
theorem dL_near_33 : decode cL_near 33 = .ok (.istore 5, 2) := by decide +kernel
theorem dL_near_35 : decode cL_near 35 = .ok (.iconst 0, 1) := by decide +kernel
theorem dL_near_36 : decode cL_near 36 = .ok (.istore 6, 2) := by decide +kernel
theorem dL_near_38 : decode cL_near 38 = .ok (.iconst 0, 1) := by decide +kernel
theorem dL_near_39 : decode cL_near 39 = .ok (.istore 7, 2) := by decide +kernel
theorem dL_near_41 : decode cL_near 41 = .ok (.iload 7, 2) := by decide +kernel
theorem dL_near_43 : decode cL_near 43 = .ok (.bipush 100, 2) := by decide +kernel
theorem dL_near_45 : decode cL_near 45 = .ok (.if_icmp .ge 94, 3) := by decide +kernel
theorem dL_near_48 : decode cL_near 48 = .ok (.iload 7, 2) := by decide +kernel
theorem dL_near_50 : decode cL_near 50 = .ok (.iload_n 3, 1) := by decide +kernel
theorem dL_near_51 : decode cL_near 51 = .ok (.if_icmp .le 10, 3) := by decide +kernel
theorem dL_near_54 : decode cL_near 54 = .ok (.iload 7, 2) := by decide +kernel
theorem dL_near_56 : decode cL_near 56 = .ok (.iload_n 3, 1) := by decide +kernel
theorem dL_near_57 : decode cL_near 57 = .ok (.isub, 1) := by decide +kernel
theorem dL_near_58 : decode cL_near 58 = .ok (.goto 7, 3) := by decide +kernel
theorem dL_near_61 : decode cL_near 61 = .ok (.iload_n 3, 1) := by decide +kernel
theorem dL_near_62 : decode cL_near 62 = .ok (.iload 7, 2) := by decide +kernel
theorem dL_near_64 : decode cL_near 64 = .ok (.isub, 1) := by decide +kernel
theorem dL_near_65 : decode cL_near 65 = .ok (.istore 8, 2) := by decide +kernel
theorem dL_near_67 : decode cL_near 67 = .ok (.aload_n 0, 1) := by decide +kernel
theorem dL_near_68 : decode cL_near 68 = .ok (.iload 7, 2) := by decide +kernel
theorem dL_near_70 : decode cL_near 70 = .ok (.invokevirtual 32, 3) := by decide +kernel
theorem dL_near_73 : decode cL_near 73 = .ok (.ifCond .le 7, 3) := by decide +kernel
theorem dL_near_76 : decode cL_near 76 = .ok (.iconst 1, 1) := by decide +kernel
theorem dL_near_77 : decode cL_near 77 = .ok (.goto 4, 3) := by decide +kernel
theorem dL_near_80 : decode cL_near 80 = .ok (.iconst 0, 1) := by decide +kernel
theorem dL_near_81 : decode cL_near 81 = .ok (.istore 9, 2) := by decide +kernel
theorem dL_near_83 : decode cL_near 83 = .ok (.iload 6, 2) := by decide +kernel
theorem dL_near_85 : decode cL_near 85 = .ok (.ifCond .ne 8, 3) := by decide +kernel
theorem dL_near_88 : decode cL_near 88 = .ok (.iload 9, 2) := by decide +kernel
theorem dL_near_90 : decode cL_near 90 = .ok (.ifCond .eq 7, 3) := by decide +kernel
theorem dL_near_93 : decode cL_near 93 = .ok (.iconst 1, 1) := by decide +kernel
theorem dL_near_94 : decode cL_near 94 = .ok (.goto 4, 3) := by decide +kernel
theorem dL_near_97 : decode cL_near 97 = .ok (.iconst 0, 1) := by decide +kernel
theorem dL_near_98 : decode cL_near 98 = .ok (.istore 6, 2) := by decide +kernel
theorem dL_near_100 : decode cL_near 100 = .ok (.iload 4, 2) := by decide +kernel
theorem dL_near_102 : decode cL_near 102 = .ok (.ifCond .lt 31, 3) := by decide +kernel
theorem dL_near_105 : decode cL_near 105 = .ok (.iload 9, 2) := by decide +kernel
theorem dL_near_107 : decode cL_near 107 = .ok (.ifCond .eq 26, 3) := by decide +kernel
theorem dL_near_110 : decode cL_near 110 = .ok (.iload 8, 2) := by decide +kernel
theorem dL_near_112 : decode cL_near 112 = .ok (.iload 5, 2) := by decide +kernel
theorem dL_near_114 : decode cL_near 114 = .ok (.if_icmp .lt 17, 3) := by decide +kernel
theorem dL_near_117 : decode cL_near 117 = .ok (.iload 8, 2) := by decide +kernel
theorem dL_near_119 : decode cL_near 119 = .ok (.iload 5, 2) := by decide +kernel
theorem dL_near_121 : decode cL_near 121 = .ok (.if_icmp .ne 12, 3) := by decide +kernel
theorem dL_near_124 : decode cL_near 124 = .ok (.iload 7, 2) := by decide +kernel
theorem dL_near_126 : decode cL_near 126 = .ok (.iload 4, 2) := by decide +kernel
theorem dL_near_128 : decode cL_near 128 = .ok (.if_icmp .ge 5, 3) := by decide +kernel
theorem dL_near_131 : decode cL_near 131 = .ok (.iconst 0, 1) := by decide +kernel
theorem dL_near_132 : decode cL_near 132 = .ok (.ireturn, 1) := by decide +kernel
theorem dL_near_133 : decode cL_near 133 = .ok (.iinc 7 1, 3) := by decide +kernel
theorem dL_near_136 : decode cL_near 136 = .ok (.goto (-95), 3) := by decide +kernel
theorem dL_near_139 : decode cL_near 139 = .ok (.iload 4, 2) := by decide +kernel
theorem dL_near_141 : decode cL_near 141 = .ok (.ifCond .lt 20, 3) := by decide +kernel
theorem dL_near_144 : decode cL_near 144 = .ok (.aload_n 0, 1) := by decide +kernel
theorem dL_near_145 : decode cL_near 145 = .ok (.iload 4, 2) := by decide +kernel
theorem dL_near_147 : decode cL_near 147 = .ok (.invokevirtual 32, 3) := by decide +kernel
theorem dL_near_150 : decode cL_near 150 = .ok (.ifCond .le 7, 3) := by decide +kernel
theorem dL_near_153 : decode cL_near 153 = .ok (.iconst 1, 1) := by decide +kernel
theorem dL_near_154 : decode cL_near 154 = .ok (.goto 29, 3) := by decide +kernel
theorem dL_near_157 : decode cL_near 157 = .ok (.iconst 0, 1) := by decide +kernel
theorem dL_near_158 : decode cL_near 158 = .ok (.goto 25, 3) := by decide +kernel
theorem dL_near_161 : decode cL_near 161 = .ok (.aload_n 0, 1) := by decide +kernel
theorem dL_near_162 : decode cL_near 162 = .ok (.iload_n 1, 1) := by decide +kernel
theorem dL_near_163 : decode cL_near 163 = .ok (.iload_n 2, 1) := by decide +kernel
theorem dL_near_164 : decode cL_near 164 = .ok (.iconst 1, 1) := by decide +kernel
theorem dL_near_165 : decode cL_near 165 = .ok (.invokevirtual 21, 3) := by decide +kernel
theorem dL_near_168 : decode cL_near 168 = .ok (.bipush (-4), 2) := by decide +kernel
theorem dL_near_170 : decode cL_near 170 = .ok (.if_icmp .ne 8, 3) := by decide +kernel
theorem dL_near_173 : decode cL_near 173 = .ok (.iload 6, 2) := by decide +kernel
theorem dL_near_175 : decode cL_near 175 = .ok (.ifCond .ne 7, 3) := by decide +kernel
theorem dL_near_178 : decode cL_near 178 = .ok (.iconst 1, 1) := by decide +kernel
theorem dL_near_179 : decode cL_near 179 = .ok (.goto 4, 3) := by decide +kernel
theorem dL_near_182 : decode cL_near 182 = .ok (.iconst 0, 1) := by decide +kernel
theorem dL_near_183 : decode cL_near 183 = .ok (.ireturn, 1) := by decide +kernel
theorem dL_put_0 : decode cL_put 0 = .ok (.aload_n 0, 1) := by decide +kernel
theorem dL_put_1 : decode cL_put 1 = .ok (.iload_n 1, 1) := by decide +kernel
theorem dL_put_2 : decode cL_put 2 = .ok (.invokevirtual 35, 3) := by decide +kernel
theorem dL_put_5 : decode cL_put 5 = .ok (.ifCond .le 7, 3) := by decide +kernel
theorem dL_put_8 : decode cL_put 8 = .ok (.iconst 1, 1) := by decide +kernel
theorem dL_put_9 : decode cL_put 9 = .ok (.goto 6, 3) := by decide +kernel
theorem dL_put_12 : decode cL_put 12 = .ok (.sipush 1000, 3) := by decide +kernel
theorem dL_put_15 : decode cL_put 15 = .ok (.ireturn, 1) := by decide +kernel
theorem dL_patterns_0 : decode cL_patterns 0 = .ok (.iconst 1, 1) := by decide +kernel
theorem dL_patterns_1 : decode cL_patterns 1 = .ok (.iload_n 1, 1) := by decide +kernel
theorem dL_patterns_2 : decode cL_patterns 2 = .ok (.bipush 8, 2) := by decide +kernel
theorem dL_patterns_4 : decode cL_patterns 4 = .ok (.invokestatic 38, 3) := by decide +kernel
theorem dL_patterns_7 : decode cL_patterns 7 = .ok (.iadd, 1) := by decide +kernel
theorem dL_patterns_8 : decode cL_patterns 8 = .ok (.istore_n 2, 1) := by decide +kernel
theorem dL_patterns_9 : decode cL_patterns 9 = .ok (.aload_n 0, 1) := by decide +kernel
theorem dL_patterns_10 : decode cL_patterns 10 = .ok (.invokevirtual 41, 3) := by decide +kernel
theorem dL_patterns_13 : decode cL_patterns 13 = .ok (.iconst 0, 1) := by decide +kernel
theorem dL_patterns_14 : decode cL_patterns 14 = .ok (.imul, 1) := by decide +kernel
theorem dL_patterns_15 : decode cL_patterns 15 = .ok (.istore_n 3, 1) := by decide +kernel
theorem dL_patterns_16 : decode cL_patterns 16 = .ok (.iconst 0, 1) := by decide +kernel
theorem dL_patterns_17 : decode cL_patterns 17 = .ok (.istore 4, 2) := by decide +kernel
theorem dL_patterns_19 : decode cL_patterns 19 = .ok (.iload 4, 2) := by decide +kernel
theorem dL_patterns_21 : decode cL_patterns 21 = .ok (.iload_n 2, 1) := by decide +kernel
theorem dL_patterns_22 : decode cL_patterns 22 = .ok (.if_icmp .ge 79, 3) := by decide +kernel
theorem dL_patterns_25 : decode cL_patterns 25 = .ok (.iload_n 3, 1) := by decide +kernel
theorem dL_patterns_26 : decode cL_patterns 26 = .ok (.iload 4, 2) := by decide +kernel
theorem dL_patterns_28 : decode cL_patterns 28 = .ok (.ifCond .le 12, 3) := by decide +kernel
theorem dL_patterns_31 : decode cL_patterns 31 = .ok (.aload_n 0, 1) := by decide +kernel
theorem dL_patterns_32 : decode cL_patterns 32 = .ok (.bipush 44, 2) := by decide +kernel
theorem dL_patterns_34 : decode cL_patterns 34 = .ok (.invokestatic 45, 3) := by decide +kernel
theorem dL_patterns_37 : decode cL_patterns 37 = .ok (.goto 4, 3) := by decide +kernel
theorem dL_patterns_40 : decode cL_patterns 40 = .ok (.iconst 0, 1) := by decide +kernel
theorem dL_patterns_41 : decode cL_patterns 41 = .ok (.iload_n 1, 1) := by decide +kernel
theorem dL_patterns_42 : decode cL_patterns 42 = .ok (.iload 4, 2) := by decide +kernel
theorem dL_patterns_44 : decode cL_patterns 44 = .ok (.ishr, 1) := by decide +kernel
theorem dL_patterns_45 : decode cL_patterns 45 = .ok (.iconst 2, 1) := by decide +kernel
theorem dL_patterns_46 : decode cL_patterns 46 = .ok (.invokestatic 38, 3) := by decide +kernel
theorem dL_patterns_49 : decode cL_patterns 49 = .ok (.ifCond .ne 24, 3) := by decide +kernel
theorem dL_patterns_52 : decode cL_patterns 52 = .ok (.aload_n 0, 1) := by decide +kernel
theorem dL_patterns_53 : decode cL_patterns 53 = .ok (.bipush 48, 2) := by decide +kernel
theorem dL_patterns_55 : decode cL_patterns 55 = .ok (.iload_n 1, 1) := by decide +kernel
theorem dL_patterns_56 : decode cL_patterns 56 = .ok (.iconst 2, 1) := by decide +kernel
theorem dL_patterns_57 : decode cL_patterns 57 = .ok (.iload 4, 2) := by decide +kernel
theorem dL_patterns_59 : decode cL_patterns 59 = .ok (.imul, 1) := by decide +kernel
theorem dL_patterns_60 : decode cL_patterns 60 = .ok (.ishr, 1) := by decide +kernel
theorem dL_patterns_61 : decode cL_patterns 61 = .ok (.bipush 10, 2) := by decide +kernel
theorem dL_patterns_63 : decode cL_patterns 63 = .ok (.invokestatic 38, 3) := by decide +kernel
theorem dL_patterns_66 : decode cL_patterns 66 = .ok (.iadd, 1) := by decide +kernel
theorem dL_patterns_67 : decode cL_patterns 67 = .ok (.invokestatic 45, 3) := by decide +kernel
theorem dL_patterns_70 : decode cL_patterns 70 = .ok (.goto 4, 3) := by decide +kernel
theorem dL_patterns_73 : decode cL_patterns 73 = .ok (.iconst 0, 1) := by decide +kernel
theorem dL_patterns_74 : decode cL_patterns 74 = .ok (.iadd, 1) := by decide +kernel
theorem dL_patterns_75 : decode cL_patterns 75 = .ok (.aload_n 0, 1) := by decide +kernel
theorem dL_patterns_76 : decode cL_patterns 76 = .ok (.bipush 48, 2) := by decide +kernel
theorem dL_patterns_78 : decode cL_patterns 78 = .ok (.iload_n 1, 1) := by decide +kernel
theorem dL_patterns_79 : decode cL_patterns 79 = .ok (.iconst 3, 1) := by decide +kernel
theorem dL_patterns_80 : decode cL_patterns 80 = .ok (.iload 4, 2) := by decide +kernel
theorem dL_patterns_82 : decode cL_patterns 82 = .ok (.iadd, 1) := by decide +kernel
theorem dL_patterns_83 : decode cL_patterns 83 = .ok (.ishr, 1) := by decide +kernel
theorem dL_patterns_84 : decode cL_patterns 84 = .ok (.iconst 3, 1) := by decide +kernel
theorem dL_patterns_85 : decode cL_patterns 85 = .ok (.invokestatic 38, 3) := by decide +kernel
theorem dL_patterns_88 : decode cL_patterns 88 = .ok (.iadd, 1) := by decide +kernel
theorem dL_patterns_89 : decode cL_patterns 89 = .ok (.invokestatic 45, 3) := by decide +kernel
theorem dL_patterns_92 : decode cL_patterns 92 = .ok (.iadd, 1) := by decide +kernel
theorem dL_patterns_93 : decode cL_patterns 93 = .ok (.iadd, 1) := by decide +kernel
theorem dL_patterns_94 : decode cL_patterns 94 = .ok (.istore_n 3, 1) := by decide +kernel
theorem dL_patterns_95 : decode cL_patterns 95 = .ok (.iinc 4 1, 3) := by decide +kernel
theorem dL_patterns_98 : decode cL_patterns 98 = .ok (.goto (-79), 3) := by decide +kernel
theorem dL_patterns_101 : decode cL_patterns 101 = .ok (.aload_n 0, 1) := by decide +kernel
theorem dL_patterns_102 : decode cL_patterns 102 = .ok (.bipush 6, 2) := by decide +kernel
theorem dL_patterns_104 : decode cL_patterns 104 = .ok (.invokevirtual 9, 3) := by decide +kernel
theorem dL_patterns_107 : decode cL_patterns 107 = .ok (.ifCond .le 7, 3) := by decide +kernel
theorem dL_patterns_110 : decode cL_patterns 110 = .ok (.iconst 1, 1) := by decide +kernel
theorem dL_patterns_111 : decode cL_patterns 111 = .ok (.goto 4, 3) := by decide +kernel
theorem dL_patterns_114 : decode cL_patterns 114 = .ok (.iconst 0, 1) := by decide +kernel
theorem dL_patterns_115 : decode cL_patterns 115 = .ok (.istore 4, 2) := by decide +kernel
theorem dL_patterns_117 : decode cL_patterns 117 = .ok (.aload_n 0, 1) := by decide +kernel
theorem dL_patterns_118 : decode cL_patterns 118 = .ok (.invokevirtual 49, 3) := by decide +kernel
theorem dL_patterns_121 : decode cL_patterns 121 = .ok (.istore 5, 2) := by decide +kernel
theorem dL_patterns_123 : decode cL_patterns 123 = .ok (.aload_n 0, 1) := by decide +kernel
theorem dL_patterns_124 : decode cL_patterns 124 = .ok (.invokevirtual 52, 3) := by decide +kernel
theorem dL_patterns_127 : decode cL_patterns 127 = .ok (.bipush (-4), 2) := by decide +kernel
theorem dL_patterns_129 : decode cL_patterns 129 = .ok (.if_icmp .ne 29, 3) := by decide +kernel
theorem dL_patterns_132 : decode cL_patterns 132 = .ok (.aload_n 0, 1) := by decide +kernel
theorem dL_patterns_133 : decode cL_patterns 133 = .ok (.bipush 14, 2) := by decide +kernel
theorem dL_patterns_135 : decode cL_patterns 135 = .ok (.invokevirtual 9, 3) := by decide +kernel
theorem dL_patterns_138 : decode cL_patterns 138 = .ok (.iload_n 3, 1) := by decide +kernel
theorem dL_patterns_139 : decode cL_patterns 139 = .ok (.if_icmp .ne 19, 3) := by decide +kernel
theorem dL_patterns_142 : decode cL_patterns 142 = .ok (.iload 5, 2) := by decide +kernel
theorem dL_patterns_144 : decode cL_patterns 144 = .ok (.iload 4, 2) := by decide +kernel
theorem dL_patterns_146 : decode cL_patterns 146 = .ok (.ifCond .eq 8, 3) := by decide +kernel
theorem dL_patterns_149 : decode cL_patterns 149 = .ok (.bipush (-2), 2) := by decide +kernel
theorem dL_patterns_151 : decode cL_patterns 151 = .ok (.goto 4, 3) := by decide +kernel
theorem dL_patterns_154 : decode cL_patterns 154 = .ok (.iload_n 2, 1) := by decide +kernel
theorem dL_patterns_155 : decode cL_patterns 155 = .ok (.if_icmp .eq 5, 3) := by decide +kernel
theorem dL_patterns_158 : decode cL_patterns 158 = .ok (.iconst 0, 1) := by decide +kernel
theorem dL_patterns_159 : decode cL_patterns 159 = .ok (.ireturn, 1) := by decide +kernel
theorem dL_patterns_160 : decode cL_patterns 160 = .ok (.iconst 0, 1) := by decide +kernel
theorem dL_patterns_161 : decode cL_patterns 161 = .ok (.istore 6, 2) := by decide +kernel
theorem dL_patterns_163 : decode cL_patterns 163 = .ok (.iload 6, 2) := by decide +kernel
theorem dL_patterns_165 : decode cL_patterns 165 = .ok (.iload_n 2, 1) := by decide +kernel
theorem dL_patterns_166 : decode cL_patterns 166 = .ok (.if_icmp .ge 65, 3) := by decide +kernel
theorem dL_patterns_169 : decode cL_patterns 169 = .ok (.iload 4, 2) := by decide +kernel
theorem dL_patterns_171 : decode cL_patterns 171 = .ok (.ifCond .ne 60, 3) := by decide +kernel
theorem dL_patterns_174 : decode cL_patterns 174 = .ok (.aload_n 0, 1) := by decide +kernel
theorem dL_patterns_175 : decode cL_patterns 175 = .ok (.iload 6, 2) := by decide +kernel
theorem dL_patterns_177 : decode cL_patterns 177 = .ok (.invokevirtual 29, 3) := by decide +kernel
theorem dL_patterns_180 : decode cL_patterns 180 = .ok (.iload_n 1, 1) := by decide +kernel
theorem dL_patterns_181 : decode cL_patterns 181 = .ok (.iconst 3, 1) := by decide +kernel
theorem dL_patterns_182 : decode cL_patterns 182 = .ok (.iload 6, 2) := by decide +kernel
theorem dL_patterns_184 : decode cL_patterns 184 = .ok (.iadd, 1) := by decide +kernel
theorem dL_patterns_185 : decode cL_patterns 185 = .ok (.ishr, 1) := by decide +kernel
theorem dL_patterns_186 : decode cL_patterns 186 = .ok (.iconst 3, 1) := by decide +kernel
theorem dL_patterns_187 : decode cL_patterns 187 = .ok (.invokestatic 38, 3) := by decide +kernel
theorem dL_patterns_190 : decode cL_patterns 190 = .ok (.iload_n 1, 1) := by decide +kernel
theorem dL_patterns_191 : decode cL_patterns 191 = .ok (.iload 6, 2) := by decide +kernel
theorem dL_patterns_193 : decode cL_patterns 193 = .ok (.ishr, 1) := by decide +kernel
theorem dL_patterns_194 : decode cL_patterns 194 = .ok (.iconst 2, 1) := by decide +kernel
theorem dL_patterns_195 : decode cL_patterns 195 = .ok (.invokestatic 38, 3) := by decide +kernel
theorem dL_patterns_198 : decode cL_patterns 198 = .ok (.ifCond .ne 20, 3) := by decide +kernel
theorem dL_patterns_201 : decode cL_patterns 201 = .ok (.bipush 10, 2) := by decide +kernel
theorem dL_patterns_203 : decode cL_patterns 203 = .ok (.iload_n 1, 1) := by decide +kernel
theorem dL_patterns_204 : decode cL_patterns 204 = .ok (.iconst 2, 1) := by decide +kernel
theorem dL_patterns_205 : decode cL_patterns 205 = .ok (.iload 6, 2) := by decide +kernel
theorem dL_patterns_207 : decode cL_patterns 207 = .ok (.imul, 1) := by decide +kernel
theorem dL_patterns_208 : decode cL_patterns 208 = .ok (.ishr, 1) := by decide +kernel
theorem dL_patterns_209 : decode cL_patterns 209 = .ok (.bipush 10, 2) := by decide +kernel
theorem dL_patterns_211 : decode cL_patterns 211 = .ok (.invokestatic 38, 3) := by decide +kernel
theorem dL_patterns_214 : decode cL_patterns 214 = .ok (.imul, 1) := by decide +kernel
theorem dL_patterns_215 : decode cL_patterns 215 = .ok (.goto 4, 3) := by decide +kernel
theorem dL_patterns_218 : decode cL_patterns 218 = .ok (.iconst 0, 1) := by decide +kernel
theorem dL_patterns_219 : decode cL_patterns 219 = .ok (.iadd, 1) := by decide +kernel
theorem dL_patterns_220 : decode cL_patterns 220 = .ok (.if_icmp .eq 5, 3) := by decide +kernel
theorem dL_patterns_223 : decode cL_patterns 223 = .ok (.iconst 0, 1) := by decide +kernel
theorem dL_patterns_224 : decode cL_patterns 224 = .ok (.ireturn, 1) := by decide +kernel
theorem dL_patterns_225 : decode cL_patterns 225 = .ok (.iinc 6 1, 3) := by decide +kernel
theorem dL_patterns_228 : decode cL_patterns 228 = .ok (.goto (-65), 3) := by decide +kernel
theorem dL_patterns_231 : decode cL_patterns 231 = .ok (.iload 4, 2) := by decide +kernel
theorem dL_patterns_233 : decode cL_patterns 233 = .ok (.ifCond .ne 12, 3) := by decide +kernel
theorem dL_patterns_236 : decode cL_patterns 236 = .ok (.aload_n 0, 1) := by decide +kernel
theorem dL_patterns_237 : decode cL_patterns 237 = .ok (.iconst 3, 1) := by decide +kernel
theorem dL_patterns_238 : decode cL_patterns 238 = .ok (.invokevirtual 9, 3) := by decide +kernel
theorem dL_patterns_241 : decode cL_patterns 241 = .ok (.iload_n 2, 1) := by decide +kernel
theorem dL_patterns_242 : decode cL_patterns 242 = .ok (.if_icmp .ne 7, 3) := by decide +kernel
theorem dL_patterns_245 : decode cL_patterns 245 = .ok (.iconst 1, 1) := by decide +kernel
theorem dL_patterns_246 : decode cL_patterns 246 = .ok (.goto 4, 3) := by decide +kernel
theorem dL_patterns_249 : decode cL_patterns 249 = .ok (.iconst 0, 1) := by decide +kernel
theorem dL_patterns_250 : decode cL_patterns 250 = .ok (.ireturn, 1) := by decide +kernel
theorem dL_lays_0 : decode cL_lays 0 = .ok (.aload_n 0, 1) := by decide +kernel
theorem dL_lays_1 : decode cL_lays 1 = .ok (.iload_n 1, 1) := by decide +kernel
theorem dL_lays_2 : decode cL_lays 2 = .ok (.iload_n 2, 1) := by decide +kernel
theorem dL_lays_3 : decode cL_lays 3 = .ok (.invokevirtual 25, 3) := by decide +kernel
theorem dL_lays_6 : decode cL_lays 6 = .ok (.istore_n 3, 1) := by decide +kernel
theorem dL_lays_7 : decode cL_lays 7 = .ok (.aload_n 0, 1) := by decide +kernel
theorem dL_lays_8 : decode cL_lays 8 = .ok (.bipush 6, 2) := by decide +kernel
theorem dL_lays_10 : decode cL_lays 10 = .ok (.invokevirtual 9, 3) := by decide +kernel
theorem dL_lays_13 : decode cL_lays 13 = .ok (.istore 4, 2) := by decide +kernel
theorem dL_lays_15 : decode cL_lays 15 = .ok (.iload_n 3, 1) := by decide +kernel
theorem dL_lays_16 : decode cL_lays 16 = .ok (.bipush (-4), 2) := by decide +kernel
theorem dL_lays_18 : decode cL_lays 18 = .ok (.if_icmp .ne 7, 3) := by decide +kernel
theorem dL_lays_21 : decode cL_lays 21 = .ok (.iconst 0, 1) := by decide +kernel
theorem dL_lays_22 : decode cL_lays 22 = .ok (.goto 8, 3) := by decide +kernel
theorem dL_lays_25 : decode cL_lays 25 = .ok (.aload_n 0, 1) := by decide +kernel
theorem dL_lays_26 : decode cL_lays 26 = .ok (.iload_n 3, 1) := by decide +kernel
theorem dL_lays_27 : decode cL_lays 27 = .ok (.invokevirtual 32, 3) := by decide +kernel
theorem dL_lays_30 : decode cL_lays 30 = .ok (.istore 5, 2) := by decide +kernel
theorem dL_lays_32 : decode cL_lays 32 = .ok (.aload_n 0, 1) := by decide +kernel
theorem dL_lays_33 : decode cL_lays 33 = .ok (.iload_n 1, 1) := by decide +kernel
theorem dL_lays_34 : decode cL_lays 34 = .ok (.iload_n 2, 1) := by decide +kernel
theorem dL_lays_35 : decode cL_lays 35 = .ok (.iconst 1, 1) := by decide +kernel
theorem dL_lays_36 : decode cL_lays 36 = .ok (.invokevirtual 21, 3) := by decide +kernel
theorem dL_lays_39 : decode cL_lays 39 = .ok (.bipush (-4), 2) := by decide +kernel
theorem dL_lays_41 : decode cL_lays 41 = .ok (.if_icmp .ne 7, 3) := by decide +kernel
theorem dL_lays_44 : decode cL_lays 44 = .ok (.iconst 1, 1) := by decide +kernel
theorem dL_lays_45 : decode cL_lays 45 = .ok (.goto 4, 3) := by decide +kernel
theorem dL_lays_48 : decode cL_lays 48 = .ok (.iconst 0, 1) := by decide +kernel
theorem dL_lays_49 : decode cL_lays 49 = .ok (.istore 6, 2) := by decide +kernel
theorem dL_lays_51 : decode cL_lays 51 = .ok (.aload_n 0, 1) := by decide +kernel
theorem dL_lays_52 : decode cL_lays 52 = .ok (.iload_n 1, 1) := by decide +kernel
theorem dL_lays_53 : decode cL_lays 53 = .ok (.iload_n 2, 1) := by decide +kernel
theorem dL_lays_54 : decode cL_lays 54 = .ok (.invokevirtual 55, 3) := by decide +kernel
theorem dL_lays_57 : decode cL_lays 57 = .ok (.istore 7, 2) := by decide +kernel
theorem dL_lays_59 : decode cL_lays 59 = .ok (.iload_n 3, 1) := by decide +kernel
theorem dL_lays_60 : decode cL_lays 60 = .ok (.bipush (-4), 2) := by decide +kernel
theorem dL_lays_62 : decode cL_lays 62 = .ok (.if_icmp .ne 27, 3) := by decide +kernel
theorem dL_lays_65 : decode cL_lays 65 = .ok (.iload 7, 2) := by decide +kernel
theorem dL_lays_67 : decode cL_lays 67 = .ok (.bipush (-2), 2) := by decide +kernel
theorem dL_lays_69 : decode cL_lays 69 = .ok (.if_icmp .ne 18, 3) := by decide +kernel
theorem dL_lays_72 : decode cL_lays 72 = .ok (.aload_n 0, 1) := by decide +kernel
theorem dL_lays_73 : decode cL_lays 73 = .ok (.bipush 6, 2) := by decide +kernel
theorem dL_lays_75 : decode cL_lays 75 = .ok (.invokevirtual 9, 3) := by decide +kernel
theorem dL_lays_78 : decode cL_lays 78 = .ok (.iload 4, 2) := by decide +kernel
theorem dL_lays_80 : decode cL_lays 80 = .ok (.if_icmp .ne 7, 3) := by decide +kernel
theorem dL_lays_83 : decode cL_lays 83 = .ok (.iconst 1, 1) := by decide +kernel
theorem dL_lays_84 : decode cL_lays 84 = .ok (.goto 4, 3) := by decide +kernel
theorem dL_lays_87 : decode cL_lays 87 = .ok (.iconst 0, 1) := by decide +kernel
theorem dL_lays_88 : decode cL_lays 88 = .ok (.ireturn, 1) := by decide +kernel
theorem dL_lays_89 : decode cL_lays 89 = .ok (.iload 6, 2) := by decide +kernel
theorem dL_lays_91 : decode cL_lays 91 = .ok (.ifCond .eq 49, 3) := by decide +kernel
theorem dL_lays_94 : decode cL_lays 94 = .ok (.iload 7, 2) := by decide +kernel
theorem dL_lays_96 : decode cL_lays 96 = .ok (.iload_n 3, 1) := by decide +kernel
theorem dL_lays_97 : decode cL_lays 97 = .ok (.if_icmp .ne 43, 3) := by decide +kernel
theorem dL_lays_100 : decode cL_lays 100 = .ok (.aload_n 0, 1) := by decide +kernel
theorem dL_lays_101 : decode cL_lays 101 = .ok (.iload_n 1, 1) := by decide +kernel
theorem dL_lays_102 : decode cL_lays 102 = .ok (.iload_n 2, 1) := by decide +kernel
theorem dL_lays_103 : decode cL_lays 103 = .ok (.iconst 1, 1) := by decide +kernel
theorem dL_lays_104 : decode cL_lays 104 = .ok (.invokevirtual 21, 3) := by decide +kernel
theorem dL_lays_107 : decode cL_lays 107 = .ok (.iload_n 3, 1) := by decide +kernel
theorem dL_lays_108 : decode cL_lays 108 = .ok (.if_icmp .ne 32, 3) := by decide +kernel
theorem dL_lays_111 : decode cL_lays 111 = .ok (.aload_n 0, 1) := by decide +kernel
theorem dL_lays_112 : decode cL_lays 112 = .ok (.bipush 6, 2) := by decide +kernel
theorem dL_lays_114 : decode cL_lays 114 = .ok (.invokevirtual 9, 3) := by decide +kernel
theorem dL_lays_117 : decode cL_lays 117 = .ok (.iload 4, 2) := by decide +kernel
theorem dL_lays_119 : decode cL_lays 119 = .ok (.iconst 1, 1) := by decide +kernel
theorem dL_lays_120 : decode cL_lays 120 = .ok (.iadd, 1) := by decide +kernel
theorem dL_lays_121 : decode cL_lays 121 = .ok (.if_icmp .ne 19, 3) := by decide +kernel
theorem dL_lays_124 : decode cL_lays 124 = .ok (.aload_n 0, 1) := by decide +kernel
theorem dL_lays_125 : decode cL_lays 125 = .ok (.iload_n 3, 1) := by decide +kernel
theorem dL_lays_126 : decode cL_lays 126 = .ok (.invokevirtual 32, 3) := by decide +kernel
theorem dL_lays_129 : decode cL_lays 129 = .ok (.iload 5, 2) := by decide +kernel
theorem dL_lays_131 : decode cL_lays 131 = .ok (.iconst 1, 1) := by decide +kernel
theorem dL_lays_132 : decode cL_lays 132 = .ok (.isub, 1) := by decide +kernel
theorem dL_lays_133 : decode cL_lays 133 = .ok (.if_icmp .ne 7, 3) := by decide +kernel
theorem dL_lays_136 : decode cL_lays 136 = .ok (.iconst 1, 1) := by decide +kernel
theorem dL_lays_137 : decode cL_lays 137 = .ok (.goto 4, 3) := by decide +kernel
theorem dL_lays_140 : decode cL_lays 140 = .ok (.iconst 0, 1) := by decide +kernel
theorem dL_lays_141 : decode cL_lays 141 = .ok (.ireturn, 1) := by decide +kernel
theorem dL_refuses_0 : decode cL_refuses 0 = .ok (.aload_n 0, 1) := by decide +kernel
theorem dL_refuses_1 : decode cL_refuses 1 = .ok (.bipush 13, 2) := by decide +kernel
theorem dL_refuses_3 : decode cL_refuses 3 = .ok (.invokevirtual 9, 3) := by decide +kernel
theorem dL_refuses_6 : decode cL_refuses 6 = .ok (.istore_n 1, 1) := by decide +kernel
theorem dL_refuses_7 : decode cL_refuses 7 = .ok (.aload_n 0, 1) := by decide +kernel
theorem dL_refuses_8 : decode cL_refuses 8 = .ok (.iconst 0, 1) := by decide +kernel
theorem dL_refuses_9 : decode cL_refuses 9 = .ok (.invokevirtual 9, 3) := by decide +kernel
theorem dL_refuses_12 : decode cL_refuses 12 = .ok (.istore_n 2, 1) := by decide +kernel
theorem dL_refuses_13 : decode cL_refuses 13 = .ok (.aload_n 0, 1) := by decide +kernel
theorem dL_refuses_14 : decode cL_refuses 14 = .ok (.iconst 1, 1) := by decide +kernel
theorem dL_refuses_15 : decode cL_refuses 15 = .ok (.invokevirtual 9, 3) := by decide +kernel
theorem dL_refuses_18 : decode cL_refuses 18 = .ok (.istore_n 3, 1) := by decide +kernel
theorem dL_refuses_19 : decode cL_refuses 19 = .ok (.aload_n 0, 1) := by decide +kernel
theorem dL_refuses_20 : decode cL_refuses 20 = .ok (.bipush 9, 2) := by decide +kernel
theorem dL_refuses_22 : decode cL_refuses 22 = .ok (.invokevirtual 9, 3) := by decide +kernel
theorem dL_refuses_25 : decode cL_refuses 25 = .ok (.istore 4, 2) := by decide +kernel
theorem dL_refuses_27 : decode cL_refuses 27 = .ok (.aload_n 0, 1) := by decide +kernel
theorem dL_refuses_28 : decode cL_refuses 28 = .ok (.iconst 2, 1) := by decide +kernel
theorem dL_refuses_29 : decode cL_refuses 29 = .ok (.iconst 3, 1) := by decide +kernel
theorem dL_refuses_30 : decode cL_refuses 30 = .ok (.invokevirtual 58, 3) := by decide +kernel
theorem dL_refuses_33 : decode cL_refuses 33 = .ok (.iconst (-1), 1) := by decide +kernel
theorem dL_refuses_34 : decode cL_refuses 34 = .ok (.if_icmp .ne 266, 3) := by decide +kernel
theorem dL_refuses_37 : decode cL_refuses 37 = .ok (.aload_n 0, 1) := by decide +kernel
theorem dL_refuses_38 : decode cL_refuses 38 = .ok (.iconst 3, 1) := by decide +kernel
theorem dL_refuses_39 : decode cL_refuses 39 = .ok (.bipush 13, 2) := by decide +kernel
theorem dL_refuses_41 : decode cL_refuses 41 = .ok (.invokevirtual 58, 3) := by decide +kernel
theorem dL_refuses_44 : decode cL_refuses 44 = .ok (.iconst (-1), 1) := by decide +kernel
theorem dL_refuses_45 : decode cL_refuses 45 = .ok (.if_icmp .ne 255, 3) := by decide +kernel
theorem dL_refuses_48 : decode cL_refuses 48 = .ok (.aload_n 0, 1) := by decide +kernel
theorem dL_refuses_49 : decode cL_refuses 49 = .ok (.iconst 0, 1) := by decide +kernel
theorem dL_refuses_50 : decode cL_refuses 50 = .ok (.iconst 4, 1) := by decide +kernel
theorem dL_refuses_51 : decode cL_refuses 51 = .ok (.invokevirtual 61, 3) := by decide +kernel
theorem dL_refuses_54 : decode cL_refuses 54 = .ok (.iconst (-1), 1) := by decide +kernel
theorem dL_refuses_55 : decode cL_refuses 55 = .ok (.if_icmp .ne 245, 3) := by decide +kernel
theorem dL_refuses_58 : decode cL_refuses 58 = .ok (.aload_n 0, 1) := by decide +kernel
theorem dL_refuses_59 : decode cL_refuses 59 = .ok (.iconst 1, 1) := by decide +kernel
theorem dL_refuses_60 : decode cL_refuses 60 = .ok (.bipush 6, 2) := by decide +kernel
theorem dL_refuses_62 : decode cL_refuses 62 = .ok (.invokevirtual 61, 3) := by decide +kernel
theorem dL_refuses_65 : decode cL_refuses 65 = .ok (.iconst (-1), 1) := by decide +kernel
theorem dL_refuses_66 : decode cL_refuses 66 = .ok (.if_icmp .ne 234, 3) := by decide +kernel
theorem dL_refuses_69 : decode cL_refuses 69 = .ok (.aload_n 0, 1) := by decide +kernel
theorem dL_refuses_70 : decode cL_refuses 70 = .ok (.iconst 2, 1) := by decide +kernel
theorem dL_refuses_71 : decode cL_refuses 71 = .ok (.iconst 5, 1) := by decide +kernel
theorem dL_refuses_72 : decode cL_refuses 72 = .ok (.invokevirtual 61, 3) := by decide +kernel
theorem dL_refuses_75 : decode cL_refuses 75 = .ok (.iconst (-1), 1) := by decide +kernel
theorem dL_refuses_76 : decode cL_refuses 76 = .ok (.if_icmp .ne 224, 3) := by decide +kernel
theorem dL_refuses_79 : decode cL_refuses 79 = .ok (.aload_n 0, 1) := by decide +kernel
theorem dL_refuses_80 : decode cL_refuses 80 = .ok (.iconst 3, 1) := by decide +kernel
theorem dL_refuses_81 : decode cL_refuses 81 = .ok (.invokevirtual 64, 3) := by decide +kernel
theorem dL_refuses_84 : decode cL_refuses 84 = .ok (.iconst (-1), 1) := by decide +kernel
theorem dL_refuses_85 : decode cL_refuses 85 = .ok (.if_icmp .ne 215, 3) := by decide +kernel
theorem dL_refuses_88 : decode cL_refuses 88 = .ok (.aload_n 0, 1) := by decide +kernel
theorem dL_refuses_89 : decode cL_refuses 89 = .ok (.iload_n 2, 1) := by decide +kernel
theorem dL_refuses_90 : decode cL_refuses 90 = .ok (.iconst 0, 1) := by decide +kernel
theorem dL_refuses_91 : decode cL_refuses 91 = .ok (.iconst 0, 1) := by decide +kernel
theorem dL_refuses_92 : decode cL_refuses 92 = .ok (.invokevirtual 67, 3) := by decide +kernel
theorem dL_refuses_95 : decode cL_refuses 95 = .ok (.iconst (-1), 1) := by decide +kernel
theorem dL_refuses_96 : decode cL_refuses 96 = .ok (.if_icmp .ne 204, 3) := by decide +kernel
theorem dL_refuses_99 : decode cL_refuses 99 = .ok (.aload_n 0, 1) := by decide +kernel
theorem dL_refuses_100 : decode cL_refuses 100 = .ok (.iconst 1, 1) := by decide +kernel
theorem dL_refuses_101 : decode cL_refuses 101 = .ok (.iconst 1, 1) := by decide +kernel
theorem dL_refuses_102 : decode cL_refuses 102 = .ok (.bipush 100, 2) := by decide +kernel
theorem dL_refuses_104 : decode cL_refuses 104 = .ok (.invokevirtual 67, 3) := by decide +kernel
theorem dL_refuses_107 : decode cL_refuses 107 = .ok (.iconst (-1), 1) := by decide +kernel
theorem dL_refuses_108 : decode cL_refuses 108 = .ok (.if_icmp .ne 192, 3) := by decide +kernel
theorem dL_refuses_111 : decode cL_refuses 111 = .ok (.aload_n 0, 1) := by decide +kernel
theorem dL_refuses_112 : decode cL_refuses 112 = .ok (.iconst 0, 1) := by decide +kernel
theorem dL_refuses_113 : decode cL_refuses 113 = .ok (.iload_n 3, 1) := by decide +kernel
theorem dL_refuses_114 : decode cL_refuses 114 = .ok (.iconst 0, 1) := by decide +kernel
theorem dL_refuses_115 : decode cL_refuses 115 = .ok (.invokevirtual 21, 3) := by decide +kernel
theorem dL_refuses_118 : decode cL_refuses 118 = .ok (.iconst (-1), 1) := by decide +kernel
theorem dL_refuses_119 : decode cL_refuses 119 = .ok (.if_icmp .ne 181, 3) := by decide +kernel
theorem dL_refuses_122 : decode cL_refuses 122 = .ok (.aload_n 0, 1) := by decide +kernel
theorem dL_refuses_123 : decode cL_refuses 123 = .ok (.iconst 0, 1) := by decide +kernel
theorem dL_refuses_124 : decode cL_refuses 124 = .ok (.iconst 0, 1) := by decide +kernel
theorem dL_refuses_125 : decode cL_refuses 125 = .ok (.iconst 4, 1) := by decide +kernel
theorem dL_refuses_126 : decode cL_refuses 126 = .ok (.invokevirtual 21, 3) := by decide +kernel
theorem dL_refuses_129 : decode cL_refuses 129 = .ok (.iconst (-1), 1) := by decide +kernel
theorem dL_refuses_130 : decode cL_refuses 130 = .ok (.if_icmp .ne 170, 3) := by decide +kernel
theorem dL_refuses_133 : decode cL_refuses 133 = .ok (.aload_n 0, 1) := by decide +kernel
theorem dL_refuses_134 : decode cL_refuses 134 = .ok (.bipush 27, 2) := by decide +kernel
theorem dL_refuses_136 : decode cL_refuses 136 = .ok (.invokevirtual 9, 3) := by decide +kernel
theorem dL_refuses_139 : decode cL_refuses 139 = .ok (.iconst (-1), 1) := by decide +kernel
theorem dL_refuses_140 : decode cL_refuses 140 = .ok (.if_icmp .ne 160, 3) := by decide +kernel
theorem dL_refuses_143 : decode cL_refuses 143 = .ok (.aload_n 0, 1) := by decide +kernel
theorem dL_refuses_144 : decode cL_refuses 144 = .ok (.bipush 17, 2) := by decide +kernel
theorem dL_refuses_146 : decode cL_refuses 146 = .ok (.invokevirtual 9, 3) := by decide +kernel
theorem dL_refuses_149 : decode cL_refuses 149 = .ok (.iconst (-1), 1) := by decide +kernel
theorem dL_refuses_150 : decode cL_refuses 150 = .ok (.if_icmp .ne 150, 3) := by decide +kernel
theorem dL_refuses_153 : decode cL_refuses 153 = .ok (.aload_n 0, 1) := by decide +kernel
theorem dL_refuses_154 : decode cL_refuses 154 = .ok (.iconst (-1), 1) := by decide +kernel
theorem dL_refuses_155 : decode cL_refuses 155 = .ok (.invokevirtual 29, 3) := by decide +kernel
theorem dL_refuses_158 : decode cL_refuses 158 = .ok (.iconst (-1), 1) := by decide +kernel
theorem dL_refuses_159 : decode cL_refuses 159 = .ok (.if_icmp .ne 141, 3) := by decide +kernel
theorem dL_refuses_162 : decode cL_refuses 162 = .ok (.aload_n 0, 1) := by decide +kernel
theorem dL_refuses_163 : decode cL_refuses 163 = .ok (.bipush 19, 2) := by decide +kernel
theorem dL_refuses_165 : decode cL_refuses 165 = .ok (.iconst 0, 1) := by decide +kernel
theorem dL_refuses_166 : decode cL_refuses 166 = .ok (.invokevirtual 70, 3) := by decide +kernel
theorem dL_refuses_169 : decode cL_refuses 169 = .ok (.iconst (-1), 1) := by decide +kernel
theorem dL_refuses_170 : decode cL_refuses 170 = .ok (.if_icmp .ne 130, 3) := by decide +kernel
theorem dL_refuses_173 : decode cL_refuses 173 = .ok (.aload_n 0, 1) := by decide +kernel
theorem dL_refuses_174 : decode cL_refuses 174 = .ok (.bipush 20, 2) := by decide +kernel
theorem dL_refuses_176 : decode cL_refuses 176 = .ok (.bipush 100, 2) := by decide +kernel
theorem dL_refuses_178 : decode cL_refuses 178 = .ok (.invokevirtual 70, 3) := by decide +kernel
theorem dL_refuses_181 : decode cL_refuses 181 = .ok (.iconst (-1), 1) := by decide +kernel
theorem dL_refuses_182 : decode cL_refuses 182 = .ok (.if_icmp .ne 118, 3) := by decide +kernel
theorem dL_refuses_185 : decode cL_refuses 185 = .ok (.aload_n 0, 1) := by decide +kernel
theorem dL_refuses_186 : decode cL_refuses 186 = .ok (.iload 4, 2) := by decide +kernel
theorem dL_refuses_188 : decode cL_refuses 188 = .ok (.iconst 0, 1) := by decide +kernel
theorem dL_refuses_189 : decode cL_refuses 189 = .ok (.invokevirtual 73, 3) := by decide +kernel
theorem dL_refuses_192 : decode cL_refuses 192 = .ok (.iconst (-1), 1) := by decide +kernel
theorem dL_refuses_193 : decode cL_refuses 193 = .ok (.if_icmp .ne 107, 3) := by decide +kernel
theorem dL_refuses_196 : decode cL_refuses 196 = .ok (.aload_n 0, 1) := by decide +kernel
theorem dL_refuses_197 : decode cL_refuses 197 = .ok (.iconst (-1), 1) := by decide +kernel
theorem dL_refuses_198 : decode cL_refuses 198 = .ok (.iconst 0, 1) := by decide +kernel
theorem dL_refuses_199 : decode cL_refuses 199 = .ok (.invokevirtual 73, 3) := by decide +kernel
theorem dL_refuses_202 : decode cL_refuses 202 = .ok (.iconst (-1), 1) := by decide +kernel
theorem dL_refuses_203 : decode cL_refuses 203 = .ok (.if_icmp .ne 97, 3) := by decide +kernel
theorem dL_refuses_206 : decode cL_refuses 206 = .ok (.aload_n 0, 1) := by decide +kernel
theorem dL_refuses_207 : decode cL_refuses 207 = .ok (.iload 4, 2) := by decide +kernel
theorem dL_refuses_209 : decode cL_refuses 209 = .ok (.invokevirtual 76, 3) := by decide +kernel
theorem dL_refuses_212 : decode cL_refuses 212 = .ok (.iconst (-1), 1) := by decide +kernel
theorem dL_refuses_213 : decode cL_refuses 213 = .ok (.if_icmp .ne 87, 3) := by decide +kernel
theorem dL_refuses_216 : decode cL_refuses 216 = .ok (.aload_n 0, 1) := by decide +kernel
theorem dL_refuses_217 : decode cL_refuses 217 = .ok (.iload 4, 2) := by decide +kernel
theorem dL_refuses_219 : decode cL_refuses 219 = .ok (.iconst 0, 1) := by decide +kernel
theorem dL_refuses_220 : decode cL_refuses 220 = .ok (.invokevirtual 15, 3) := by decide +kernel
theorem dL_refuses_223 : decode cL_refuses 223 = .ok (.iconst (-1), 1) := by decide +kernel
theorem dL_refuses_224 : decode cL_refuses 224 = .ok (.if_icmp .ne 76, 3) := by decide +kernel
theorem dL_refuses_227 : decode cL_refuses 227 = .ok (.aload_n 0, 1) := by decide +kernel
theorem dL_refuses_228 : decode cL_refuses 228 = .ok (.iload_n 2, 1) := by decide +kernel
theorem dL_refuses_229 : decode cL_refuses 229 = .ok (.iconst 0, 1) := by decide +kernel
theorem dL_refuses_230 : decode cL_refuses 230 = .ok (.invokevirtual 55, 3) := by decide +kernel
theorem dL_refuses_233 : decode cL_refuses 233 = .ok (.iconst (-1), 1) := by decide +kernel
theorem dL_refuses_234 : decode cL_refuses 234 = .ok (.if_icmp .ne 66, 3) := by decide +kernel
theorem dL_refuses_237 : decode cL_refuses 237 = .ok (.aload_n 0, 1) := by decide +kernel
theorem dL_refuses_238 : decode cL_refuses 238 = .ok (.iconst (-1), 1) := by decide +kernel
theorem dL_refuses_239 : decode cL_refuses 239 = .ok (.iconst 0, 1) := by decide +kernel
theorem dL_refuses_240 : decode cL_refuses 240 = .ok (.invokevirtual 79, 3) := by decide +kernel
theorem dL_refuses_243 : decode cL_refuses 243 = .ok (.iconst (-1), 1) := by decide +kernel
theorem dL_refuses_244 : decode cL_refuses 244 = .ok (.if_icmp .ne 56, 3) := by decide +kernel
theorem dL_refuses_247 : decode cL_refuses 247 = .ok (.aload_n 0, 1) := by decide +kernel
theorem dL_refuses_248 : decode cL_refuses 248 = .ok (.iconst 0, 1) := by decide +kernel
theorem dL_refuses_249 : decode cL_refuses 249 = .ok (.iload_n 3, 1) := by decide +kernel
theorem dL_refuses_250 : decode cL_refuses 250 = .ok (.invokevirtual 25, 3) := by decide +kernel
theorem dL_refuses_253 : decode cL_refuses 253 = .ok (.iconst (-1), 1) := by decide +kernel
theorem dL_refuses_254 : decode cL_refuses 254 = .ok (.if_icmp .ne 46, 3) := by decide +kernel
theorem dL_refuses_257 : decode cL_refuses 257 = .ok (.aload_n 0, 1) := by decide +kernel
theorem dL_refuses_258 : decode cL_refuses 258 = .ok (.bipush 100, 2) := by decide +kernel
theorem dL_refuses_260 : decode cL_refuses 260 = .ok (.invokevirtual 32, 3) := by decide +kernel
theorem dL_refuses_263 : decode cL_refuses 263 = .ok (.iconst (-1), 1) := by decide +kernel
theorem dL_refuses_264 : decode cL_refuses 264 = .ok (.if_icmp .ne 36, 3) := by decide +kernel
theorem dL_refuses_267 : decode cL_refuses 267 = .ok (.aload_n 0, 1) := by decide +kernel
theorem dL_refuses_268 : decode cL_refuses 268 = .ok (.iconst (-1), 1) := by decide +kernel
theorem dL_refuses_269 : decode cL_refuses 269 = .ok (.invokevirtual 82, 3) := by decide +kernel
theorem dL_refuses_272 : decode cL_refuses 272 = .ok (.iconst (-1), 1) := by decide +kernel
theorem dL_refuses_273 : decode cL_refuses 273 = .ok (.if_icmp .ne 27, 3) := by decide +kernel
theorem dL_refuses_276 : decode cL_refuses 276 = .ok (.aload_n 0, 1) := by decide +kernel
theorem dL_refuses_277 : decode cL_refuses 277 = .ok (.bipush 100, 2) := by decide +kernel
theorem dL_refuses_279 : decode cL_refuses 279 = .ok (.invokevirtual 85, 3) := by decide +kernel
theorem dL_refuses_282 : decode cL_refuses 282 = .ok (.iconst (-1), 1) := by decide +kernel
theorem dL_refuses_283 : decode cL_refuses 283 = .ok (.if_icmp .ne 17, 3) := by decide +kernel
theorem dL_refuses_286 : decode cL_refuses 286 = .ok (.aload_n 0, 1) := by decide +kernel
theorem dL_refuses_287 : decode cL_refuses 287 = .ok (.bipush 31, 2) := by decide +kernel
theorem dL_refuses_289 : decode cL_refuses 289 = .ok (.invokevirtual 35, 3) := by decide +kernel
theorem dL_refuses_292 : decode cL_refuses 292 = .ok (.iconst (-1), 1) := by decide +kernel
theorem dL_refuses_293 : decode cL_refuses 293 = .ok (.if_icmp .ne 7, 3) := by decide +kernel
theorem dL_refuses_296 : decode cL_refuses 296 = .ok (.iconst 1, 1) := by decide +kernel
theorem dL_refuses_297 : decode cL_refuses 297 = .ok (.goto 4, 3) := by decide +kernel
theorem dL_refuses_300 : decode cL_refuses 300 = .ok (.iconst 0, 1) := by decide +kernel
theorem dL_refuses_301 : decode cL_refuses 301 = .ok (.istore 5, 2) := by decide +kernel
theorem dL_refuses_303 : decode cL_refuses 303 = .ok (.iload 5, 2) := by decide +kernel
theorem dL_refuses_305 : decode cL_refuses 305 = .ok (.ifCond .eq 28, 3) := by decide +kernel
theorem dL_refuses_308 : decode cL_refuses 308 = .ok (.aload_n 0, 1) := by decide +kernel
theorem dL_refuses_309 : decode cL_refuses 309 = .ok (.bipush 13, 2) := by decide +kernel
theorem dL_refuses_311 : decode cL_refuses 311 = .ok (.invokevirtual 9, 3) := by decide +kernel
theorem dL_refuses_314 : decode cL_refuses 314 = .ok (.iload_n 1, 1) := by decide +kernel
theorem dL_refuses_315 : decode cL_refuses 315 = .ok (.if_icmp .ne 18, 3) := by decide +kernel
theorem dL_refuses_318 : decode cL_refuses 318 = .ok (.aload_n 0, 1) := by decide +kernel
theorem dL_refuses_319 : decode cL_refuses 319 = .ok (.bipush 9, 2) := by decide +kernel
theorem dL_refuses_321 : decode cL_refuses 321 = .ok (.invokevirtual 9, 3) := by decide +kernel
theorem dL_refuses_324 : decode cL_refuses 324 = .ok (.iload 4, 2) := by decide +kernel
theorem dL_refuses_326 : decode cL_refuses 326 = .ok (.if_icmp .ne 7, 3) := by decide +kernel
theorem dL_refuses_329 : decode cL_refuses 329 = .ok (.iconst 1, 1) := by decide +kernel
theorem dL_refuses_330 : decode cL_refuses 330 = .ok (.goto 4, 3) := by decide +kernel
theorem dL_refuses_333 : decode cL_refuses 333 = .ok (.iconst 0, 1) := by decide +kernel
theorem dL_refuses_334 : decode cL_refuses 334 = .ok (.ireturn, 1) := by decide +kernel
