theorem dX11_reads_255 : decode cX11_reads 255 = .ok (.getfield 29, 3) := by decide +kernel
theorem dX11_reads_258 : decode cX11_reads 258 = .ok (.aload_n 0, 1) := by decide +kernel
theorem dX11_reads_259 : decode cX11_reads 259 = .ok (.getfield 171, 3) := by decide +kernel
theorem dX11_reads_262 : decode cX11_reads 262 = .ok (.iaload, 1) := by decide +kernel
theorem dX11_reads_263 : decode cX11_reads 263 = .ok (.istore 6, 2) := by decide +kernel
theorem dX11_reads_265 : decode cX11_reads 265 = .ok (.iload 5, 2) := by decide +kernel
theorem dX11_reads_267 : decode cX11_reads 267 = .ok (.iconst (-1), 1) := by decide +kernel
theorem dX11_reads_268 : decode cX11_reads 268 = .ok (.if_icmp .ne 23, 3) := by decide +kernel
theorem dX11_reads_271 : decode cX11_reads 271 = .ok (.aload_n 0, 1) := by decide +kernel
theorem dX11_reads_272 : decode cX11_reads 272 = .ok (.getfield 26, 3) := by decide +kernel
theorem dX11_reads_275 : decode cX11_reads 275 = .ok (.aload_n 0, 1) := by decide +kernel
theorem dX11_reads_276 : decode cX11_reads 276 = .ok (.getfield 171, 3) := by decide +kernel
theorem dX11_reads_279 : decode cX11_reads 279 = .ok (.iaload, 1) := by decide +kernel
theorem dX11_reads_280 : decode cX11_reads 280 = .ok (.ifCond .ne 11, 3) := by decide +kernel
theorem dX11_reads_283 : decode cX11_reads 283 = .ok (.aload_n 0, 1) := by decide +kernel
theorem dX11_reads_284 : decode cX11_reads 284 = .ok (.iload 6, 2) := by decide +kernel
theorem dX11_reads_286 : decode cX11_reads 286 = .ok (.invokevirtual 200, 3) := by decide +kernel
theorem dX11_reads_289 : decode cX11_reads 289 = .ok (.iconst (-1), 1) := by decide +kernel
theorem dX11_reads_290 : decode cX11_reads 290 = .ok (.ireturn, 1) := by decide +kernel
theorem dX11_reads_291 : decode cX11_reads 291 = .ok (.iload 5, 2) := by decide +kernel
theorem dX11_reads_293 : decode cX11_reads 293 = .ok (.bipush 41, 2) := by decide +kernel
theorem dX11_reads_295 : decode cX11_reads 295 = .ok (.if_icmp .ne 35, 3) := by decide +kernel
theorem dX11_reads_298 : decode cX11_reads 298 = .ok (.aload_n 0, 1) := by decide +kernel
theorem dX11_reads_299 : decode cX11_reads 299 = .ok (.getfield 26, 3) := by decide +kernel
theorem dX11_reads_302 : decode cX11_reads 302 = .ok (.aload_n 0, 1) := by decide +kernel
theorem dX11_reads_303 : decode cX11_reads 303 = .ok (.getfield 171, 3) := by decide +kernel
theorem dX11_reads_306 : decode cX11_reads 306 = .ok (.iaload, 1) := by decide +kernel
theorem dX11_reads_307 : decode cX11_reads 307 = .ok (.iconst 1, 1) := by decide +kernel
theorem dX11_reads_308 : decode cX11_reads 308 = .ok (.if_icmp .ne 22, 3) := by decide +kernel
theorem dX11_reads_311 : decode cX11_reads 311 = .ok (.aload_n 0, 1) := by decide +kernel
theorem dX11_reads_312 : decode cX11_reads 312 = .ok (.dup, 1) := by decide +kernel
theorem dX11_reads_313 : decode cX11_reads 313 = .ok (.getfield 171, 3) := by decide +kernel
theorem dX11_reads_316 : decode cX11_reads 316 = .ok (.iconst 1, 1) := by decide +kernel
theorem dX11_reads_317 : decode cX11_reads 317 = .ok (.isub, 1) := by decide +kernel
theorem dX11_reads_318 : decode cX11_reads 318 = .ok (.putfield 171, 3) := by decide +kernel
theorem dX11_reads_321 : decode cX11_reads 321 = .ok (.aload_n 0, 1) := by decide +kernel
theorem dX11_reads_322 : decode cX11_reads 322 = .ok (.iload 6, 2) := by decide +kernel
theorem dX11_reads_324 : decode cX11_reads 324 = .ok (.invokevirtual 193, 3) := by decide +kernel
theorem dX11_reads_327 : decode cX11_reads 327 = .ok (.goto 60, 3) := by decide +kernel
theorem dX11_reads_330 : decode cX11_reads 330 = .ok (.iload 5, 2) := by decide +kernel
theorem dX11_reads_332 : decode cX11_reads 332 = .ok (.bipush 59, 2) := by decide +kernel
theorem dX11_reads_334 : decode cX11_reads 334 = .ok (.if_icmp .ne 50, 3) := by decide +kernel
theorem dX11_reads_337 : decode cX11_reads 337 = .ok (.aload_n 0, 1) := by decide +kernel
theorem dX11_reads_338 : decode cX11_reads 338 = .ok (.getfield 26, 3) := by decide +kernel
theorem dX11_reads_341 : decode cX11_reads 341 = .ok (.aload_n 0, 1) := by decide +kernel
theorem dX11_reads_342 : decode cX11_reads 342 = .ok (.getfield 171, 3) := by decide +kernel
theorem dX11_reads_345 : decode cX11_reads 345 = .ok (.iaload, 1) := by decide +kernel
theorem dX11_reads_346 : decode cX11_reads 346 = .ok (.iconst 3, 1) := by decide +kernel
theorem dX11_reads_347 : decode cX11_reads 347 = .ok (.if_icmp .ne 37, 3) := by decide +kernel
theorem dX11_reads_350 : decode cX11_reads 350 = .ok (.aload_n 0, 1) := by decide +kernel
theorem dX11_reads_351 : decode cX11_reads 351 = .ok (.getfield 26, 3) := by decide +kernel
theorem dX11_reads_354 : decode cX11_reads 354 = .ok (.aload_n 0, 1) := by decide +kernel
theorem dX11_reads_355 : decode cX11_reads 355 = .ok (.getfield 171, 3) := by decide +kernel
theorem dX11_reads_358 : decode cX11_reads 358 = .ok (.iconst 4, 1) := by decide +kernel
theorem dX11_reads_359 : decode cX11_reads 359 = .ok (.iastore, 1) := by decide +kernel
theorem dX11_reads_360 : decode cX11_reads 360 = .ok (.aload_n 0, 1) := by decide +kernel
theorem dX11_reads_361 : decode cX11_reads 361 = .ok (.getfield 38, 3) := by decide +kernel
theorem dX11_reads_364 : decode cX11_reads 364 = .ok (.aload_n 0, 1) := by decide +kernel
theorem dX11_reads_365 : decode cX11_reads 365 = .ok (.getfield 171, 3) := by decide +kernel
theorem dX11_reads_368 : decode cX11_reads 368 = .ok (.iload 6, 2) := by decide +kernel
theorem dX11_reads_370 : decode cX11_reads 370 = .ok (.iastore, 1) := by decide +kernel
theorem dX11_reads_371 : decode cX11_reads 371 = .ok (.aload_n 0, 1) := by decide +kernel
theorem dX11_reads_372 : decode cX11_reads 372 = .ok (.getfield 29, 3) := by decide +kernel
theorem dX11_reads_375 : decode cX11_reads 375 = .ok (.aload_n 0, 1) := by decide +kernel
theorem dX11_reads_376 : decode cX11_reads 376 = .ok (.getfield 171, 3) := by decide +kernel
theorem dX11_reads_379 : decode cX11_reads 379 = .ok (.iconst (-1), 1) := by decide +kernel
theorem dX11_reads_380 : decode cX11_reads 380 = .ok (.iastore, 1) := by decide +kernel
theorem dX11_reads_381 : decode cX11_reads 381 = .ok (.goto 6, 3) := by decide +kernel
theorem dX11_reads_384 : decode cX11_reads 384 = .ok (.iload 4, 2) := by decide +kernel
theorem dX11_reads_386 : decode cX11_reads 386 = .ok (.ireturn, 1) := by decide +kernel
theorem dX11_reads_387 : decode cX11_reads 387 = .ok (.iinc 4 1, 3) := by decide +kernel
theorem dX11_reads_390 : decode cX11_reads 390 = .ok (.goto (-370), 3) := by decide +kernel
theorem dX11_numbers_0 : decode cX11_numbers 0 = .ok (.aload_n 0, 1) := by decide +kernel
theorem dX11_numbers_1 : decode cX11_numbers 1 = .ok (.iconst 0, 1) := by decide +kernel
theorem dX11_numbers_2 : decode cX11_numbers 2 = .ok (.putfield 203, 3) := by decide +kernel
theorem dX11_numbers_5 : decode cX11_numbers 5 = .ok (.iconst 1, 1) := by decide +kernel
theorem dX11_numbers_6 : decode cX11_numbers 6 = .ok (.istore_n 2, 1) := by decide +kernel
theorem dX11_numbers_7 : decode cX11_numbers 7 = .ok (.aload_n 0, 1) := by decide +kernel
theorem dX11_numbers_8 : decode cX11_numbers 8 = .ok (.getfield 77, 3) := by decide +kernel
theorem dX11_numbers_11 : decode cX11_numbers 11 = .ok (.iconst 0, 1) := by decide +kernel
theorem dX11_numbers_12 : decode cX11_numbers 12 = .ok (.iload_n 1, 1) := by decide +kernel
theorem dX11_numbers_13 : decode cX11_numbers 13 = .ok (.iastore, 1) := by decide +kernel
theorem dX11_numbers_14 : decode cX11_numbers 14 = .ok (.aload_n 0, 1) := by decide +kernel
theorem dX11_numbers_15 : decode cX11_numbers 15 = .ok (.getfield 80, 3) := by decide +kernel
theorem dX11_numbers_18 : decode cX11_numbers 18 = .ok (.iconst 0, 1) := by decide +kernel
theorem dX11_numbers_19 : decode cX11_numbers 19 = .ok (.iconst (-1), 1) := by decide +kernel
theorem dX11_numbers_20 : decode cX11_numbers 20 = .ok (.iastore, 1) := by decide +kernel
theorem dX11_numbers_21 : decode cX11_numbers 21 = .ok (.iload_n 2, 1) := by decide +kernel
theorem dX11_numbers_22 : decode cX11_numbers 22 = .ok (.ifCond .le 234, 3) := by decide +kernel
theorem dX11_numbers_25 : decode cX11_numbers 25 = .ok (.iinc 2 (-1), 3) := by decide +kernel
theorem dX11_numbers_28 : decode cX11_numbers 28 = .ok (.aload_n 0, 1) := by decide +kernel
theorem dX11_numbers_29 : decode cX11_numbers 29 = .ok (.getfield 77, 3) := by decide +kernel
theorem dX11_numbers_32 : decode cX11_numbers 32 = .ok (.iload_n 2, 1) := by decide +kernel
theorem dX11_numbers_33 : decode cX11_numbers 33 = .ok (.iaload, 1) := by decide +kernel
theorem dX11_numbers_34 : decode cX11_numbers 34 = .ok (.istore_n 3, 1) := by decide +kernel
theorem dX11_numbers_35 : decode cX11_numbers 35 = .ok (.aload_n 0, 1) := by decide +kernel
theorem dX11_numbers_36 : decode cX11_numbers 36 = .ok (.getfield 80, 3) := by decide +kernel
theorem dX11_numbers_39 : decode cX11_numbers 39 = .ok (.iload_n 2, 1) := by decide +kernel
theorem dX11_numbers_40 : decode cX11_numbers 40 = .ok (.iaload, 1) := by decide +kernel
theorem dX11_numbers_41 : decode cX11_numbers 41 = .ok (.istore 4, 2) := by decide +kernel
theorem dX11_numbers_43 : decode cX11_numbers 43 = .ok (.aload_n 0, 1) := by decide +kernel
theorem dX11_numbers_44 : decode cX11_numbers 44 = .ok (.getfield 203, 3) := by decide +kernel
theorem dX11_numbers_47 : decode cX11_numbers 47 = .ok (.istore 5, 2) := by decide +kernel
theorem dX11_numbers_49 : decode cX11_numbers 49 = .ok (.aload_n 0, 1) := by decide +kernel
theorem dX11_numbers_50 : decode cX11_numbers 50 = .ok (.dup, 1) := by decide +kernel
theorem dX11_numbers_51 : decode cX11_numbers 51 = .ok (.getfield 203, 3) := by decide +kernel
theorem dX11_numbers_54 : decode cX11_numbers 54 = .ok (.iconst 1, 1) := by decide +kernel
theorem dX11_numbers_55 : decode cX11_numbers 55 = .ok (.iadd, 1) := by decide +kernel
theorem dX11_numbers_56 : decode cX11_numbers 56 = .ok (.putfield 203, 3) := by decide +kernel
theorem dX11_numbers_59 : decode cX11_numbers 59 = .ok (.aload_n 0, 1) := by decide +kernel
theorem dX11_numbers_60 : decode cX11_numbers 60 = .ok (.getfield 56, 3) := by decide +kernel
theorem dX11_numbers_63 : decode cX11_numbers 63 = .ok (.iload 5, 2) := by decide +kernel
theorem dX11_numbers_65 : decode cX11_numbers 65 = .ok (.aload_n 0, 1) := by decide +kernel
theorem dX11_numbers_66 : decode cX11_numbers 66 = .ok (.getfield 41, 3) := by decide +kernel
theorem dX11_numbers_69 : decode cX11_numbers 69 = .ok (.iload_n 3, 1) := by decide +kernel
theorem dX11_numbers_70 : decode cX11_numbers 70 = .ok (.iaload, 1) := by decide +kernel
theorem dX11_numbers_71 : decode cX11_numbers 71 = .ok (.iastore, 1) := by decide +kernel
theorem dX11_numbers_72 : decode cX11_numbers 72 = .ok (.aload_n 0, 1) := by decide +kernel
theorem dX11_numbers_73 : decode cX11_numbers 73 = .ok (.getfield 59, 3) := by decide +kernel
theorem dX11_numbers_76 : decode cX11_numbers 76 = .ok (.iload 5, 2) := by decide +kernel
theorem dX11_numbers_78 : decode cX11_numbers 78 = .ok (.aload_n 0, 1) := by decide +kernel
theorem dX11_numbers_79 : decode cX11_numbers 79 = .ok (.getfield 44, 3) := by decide +kernel
theorem dX11_numbers_82 : decode cX11_numbers 82 = .ok (.iload_n 3, 1) := by decide +kernel
theorem dX11_numbers_83 : decode cX11_numbers 83 = .ok (.iaload, 1) := by decide +kernel
theorem dX11_numbers_84 : decode cX11_numbers 84 = .ok (.iastore, 1) := by decide +kernel
theorem dX11_numbers_85 : decode cX11_numbers 85 = .ok (.aload_n 0, 1) := by decide +kernel
theorem dX11_numbers_86 : decode cX11_numbers 86 = .ok (.getfield 74, 3) := by decide +kernel
theorem dX11_numbers_89 : decode cX11_numbers 89 = .ok (.iload 5, 2) := by decide +kernel
theorem dX11_numbers_91 : decode cX11_numbers 91 = .ok (.aload_n 0, 1) := by decide +kernel
theorem dX11_numbers_92 : decode cX11_numbers 92 = .ok (.getfield 53, 3) := by decide +kernel
theorem dX11_numbers_95 : decode cX11_numbers 95 = .ok (.iload_n 3, 1) := by decide +kernel
theorem dX11_numbers_96 : decode cX11_numbers 96 = .ok (.iaload, 1) := by decide +kernel
theorem dX11_numbers_97 : decode cX11_numbers 97 = .ok (.iastore, 1) := by decide +kernel
theorem dX11_numbers_98 : decode cX11_numbers 98 = .ok (.aload_n 0, 1) := by decide +kernel
theorem dX11_numbers_99 : decode cX11_numbers 99 = .ok (.getfield 68, 3) := by decide +kernel
theorem dX11_numbers_102 : decode cX11_numbers 102 = .ok (.iload 5, 2) := by decide +kernel
theorem dX11_numbers_104 : decode cX11_numbers 104 = .ok (.iload 4, 2) := by decide +kernel
theorem dX11_numbers_106 : decode cX11_numbers 106 = .ok (.iastore, 1) := by decide +kernel
theorem dX11_numbers_107 : decode cX11_numbers 107 = .ok (.aload_n 0, 1) := by decide +kernel
theorem dX11_numbers_108 : decode cX11_numbers 108 = .ok (.getfield 71, 3) := by decide +kernel
theorem dX11_numbers_111 : decode cX11_numbers 111 = .ok (.iload 5, 2) := by decide +kernel
theorem dX11_numbers_113 : decode cX11_numbers 113 = .ok (.iload 4, 2) := by decide +kernel
theorem dX11_numbers_115 : decode cX11_numbers 115 = .ok (.ifCond .ge 7, 3) := by decide +kernel
theorem dX11_numbers_118 : decode cX11_numbers 118 = .ok (.iconst 0, 1) := by decide +kernel
theorem dX11_numbers_119 : decode cX11_numbers 119 = .ok (.goto 12, 3) := by decide +kernel
theorem dX11_numbers_122 : decode cX11_numbers 122 = .ok (.aload_n 0, 1) := by decide +kernel
theorem dX11_numbers_123 : decode cX11_numbers 123 = .ok (.getfield 71, 3) := by decide +kernel
theorem dX11_numbers_126 : decode cX11_numbers 126 = .ok (.iload 4, 2) := by decide +kernel
theorem dX11_numbers_128 : decode cX11_numbers 128 = .ok (.iaload, 1) := by decide +kernel
theorem dX11_numbers_129 : decode cX11_numbers 129 = .ok (.iconst 1, 1) := by decide +kernel
theorem dX11_numbers_130 : decode cX11_numbers 130 = .ok (.iadd, 1) := by decide +kernel
theorem dX11_numbers_131 : decode cX11_numbers 131 = .ok (.iastore, 1) := by decide +kernel
theorem dX11_numbers_132 : decode cX11_numbers 132 = .ok (.aload_n 0, 1) := by decide +kernel
theorem dX11_numbers_133 : decode cX11_numbers 133 = .ok (.getfield 62, 3) := by decide +kernel
theorem dX11_numbers_136 : decode cX11_numbers 136 = .ok (.iload 5, 2) := by decide +kernel
theorem dX11_numbers_138 : decode cX11_numbers 138 = .ok (.iconst (-1), 1) := by decide +kernel
theorem dX11_numbers_139 : decode cX11_numbers 139 = .ok (.iastore, 1) := by decide +kernel
theorem dX11_numbers_140 : decode cX11_numbers 140 = .ok (.aload_n 0, 1) := by decide +kernel
theorem dX11_numbers_141 : decode cX11_numbers 141 = .ok (.getfield 65, 3) := by decide +kernel
theorem dX11_numbers_144 : decode cX11_numbers 144 = .ok (.iload 5, 2) := by decide +kernel
theorem dX11_numbers_146 : decode cX11_numbers 146 = .ok (.iconst (-1), 1) := by decide +kernel
theorem dX11_numbers_147 : decode cX11_numbers 147 = .ok (.iastore, 1) := by decide +kernel
theorem dX11_numbers_148 : decode cX11_numbers 148 = .ok (.iload 4, 2) := by decide +kernel
theorem dX11_numbers_150 : decode cX11_numbers 150 = .ok (.ifCond .lt 25, 3) := by decide +kernel
theorem dX11_numbers_153 : decode cX11_numbers 153 = .ok (.aload_n 0, 1) := by decide +kernel
theorem dX11_numbers_154 : decode cX11_numbers 154 = .ok (.getfield 62, 3) := by decide +kernel
theorem dX11_numbers_157 : decode cX11_numbers 157 = .ok (.iload 4, 2) := by decide +kernel
theorem dX11_numbers_159 : decode cX11_numbers 159 = .ok (.iaload, 1) := by decide +kernel
theorem dX11_numbers_160 : decode cX11_numbers 160 = .ok (.ifCond .ge 15, 3) := by decide +kernel
theorem dX11_numbers_163 : decode cX11_numbers 163 = .ok (.aload_n 0, 1) := by decide +kernel
theorem dX11_numbers_164 : decode cX11_numbers 164 = .ok (.getfield 62, 3) := by decide +kernel
theorem dX11_numbers_167 : decode cX11_numbers 167 = .ok (.iload 4, 2) := by decide +kernel
theorem dX11_numbers_169 : decode cX11_numbers 169 = .ok (.iload 5, 2) := by decide +kernel
theorem dX11_numbers_171 : decode cX11_numbers 171 = .ok (.iastore, 1) := by decide +kernel
theorem dX11_numbers_172 : decode cX11_numbers 172 = .ok (.goto 17, 3) := by decide +kernel
theorem dX11_numbers_175 : decode cX11_numbers 175 = .ok (.iload 4, 2) := by decide +kernel
theorem dX11_numbers_177 : decode cX11_numbers 177 = .ok (.ifCond .lt 12, 3) := by decide +kernel
theorem dX11_numbers_180 : decode cX11_numbers 180 = .ok (.aload_n 0, 1) := by decide +kernel
theorem dX11_numbers_181 : decode cX11_numbers 181 = .ok (.getfield 65, 3) := by decide +kernel
theorem dX11_numbers_184 : decode cX11_numbers 184 = .ok (.iload 4, 2) := by decide +kernel
theorem dX11_numbers_186 : decode cX11_numbers 186 = .ok (.iload 5, 2) := by decide +kernel
theorem dX11_numbers_188 : decode cX11_numbers 188 = .ok (.iastore, 1) := by decide +kernel
theorem dX11_numbers_189 : decode cX11_numbers 189 = .ok (.aload_n 0, 1) := by decide +kernel
theorem dX11_numbers_190 : decode cX11_numbers 190 = .ok (.getfield 50, 3) := by decide +kernel
theorem dX11_numbers_193 : decode cX11_numbers 193 = .ok (.iload_n 3, 1) := by decide +kernel
theorem dX11_numbers_194 : decode cX11_numbers 194 = .ok (.iaload, 1) := by decide +kernel
theorem dX11_numbers_195 : decode cX11_numbers 195 = .ok (.ifCond .lt 26, 3) := by decide +kernel
theorem dX11_numbers_198 : decode cX11_numbers 198 = .ok (.aload_n 0, 1) := by decide +kernel
theorem dX11_numbers_199 : decode cX11_numbers 199 = .ok (.getfield 77, 3) := by decide +kernel
theorem dX11_numbers_202 : decode cX11_numbers 202 = .ok (.iload_n 2, 1) := by decide +kernel
theorem dX11_numbers_203 : decode cX11_numbers 203 = .ok (.aload_n 0, 1) := by decide +kernel
theorem dX11_numbers_204 : decode cX11_numbers 204 = .ok (.getfield 50, 3) := by decide +kernel
theorem dX11_numbers_207 : decode cX11_numbers 207 = .ok (.iload_n 3, 1) := by decide +kernel
theorem dX11_numbers_208 : decode cX11_numbers 208 = .ok (.iaload, 1) := by decide +kernel
theorem dX11_numbers_209 : decode cX11_numbers 209 = .ok (.iastore, 1) := by decide +kernel
theorem dX11_numbers_210 : decode cX11_numbers 210 = .ok (.aload_n 0, 1) := by decide +kernel
theorem dX11_numbers_211 : decode cX11_numbers 211 = .ok (.getfield 80, 3) := by decide +kernel
theorem dX11_numbers_214 : decode cX11_numbers 214 = .ok (.iload_n 2, 1) := by decide +kernel
theorem dX11_numbers_215 : decode cX11_numbers 215 = .ok (.iload 5, 2) := by decide +kernel
theorem dX11_numbers_217 : decode cX11_numbers 217 = .ok (.iastore, 1) := by decide +kernel
theorem dX11_numbers_218 : decode cX11_numbers 218 = .ok (.iinc 2 1, 3) := by decide +kernel
theorem dX11_numbers_221 : decode cX11_numbers 221 = .ok (.aload_n 0, 1) := by decide +kernel
theorem dX11_numbers_222 : decode cX11_numbers 222 = .ok (.getfield 47, 3) := by decide +kernel
theorem dX11_numbers_225 : decode cX11_numbers 225 = .ok (.iload_n 3, 1) := by decide +kernel
theorem dX11_numbers_226 : decode cX11_numbers 226 = .ok (.iaload, 1) := by decide +kernel
theorem dX11_numbers_227 : decode cX11_numbers 227 = .ok (.ifCond .lt 26, 3) := by decide +kernel
theorem dX11_numbers_230 : decode cX11_numbers 230 = .ok (.aload_n 0, 1) := by decide +kernel
theorem dX11_numbers_231 : decode cX11_numbers 231 = .ok (.getfield 77, 3) := by decide +kernel
theorem dX11_numbers_234 : decode cX11_numbers 234 = .ok (.iload_n 2, 1) := by decide +kernel
theorem dX11_numbers_235 : decode cX11_numbers 235 = .ok (.aload_n 0, 1) := by decide +kernel
theorem dX11_numbers_236 : decode cX11_numbers 236 = .ok (.getfield 47, 3) := by decide +kernel
theorem dX11_numbers_239 : decode cX11_numbers 239 = .ok (.iload_n 3, 1) := by decide +kernel
theorem dX11_numbers_240 : decode cX11_numbers 240 = .ok (.iaload, 1) := by decide +kernel
theorem dX11_numbers_241 : decode cX11_numbers 241 = .ok (.iastore, 1) := by decide +kernel
theorem dX11_numbers_242 : decode cX11_numbers 242 = .ok (.aload_n 0, 1) := by decide +kernel
theorem dX11_numbers_243 : decode cX11_numbers 243 = .ok (.getfield 80, 3) := by decide +kernel
theorem dX11_numbers_246 : decode cX11_numbers 246 = .ok (.iload_n 2, 1) := by decide +kernel
theorem dX11_numbers_247 : decode cX11_numbers 247 = .ok (.iload 5, 2) := by decide +kernel
theorem dX11_numbers_249 : decode cX11_numbers 249 = .ok (.iastore, 1) := by decide +kernel
theorem dX11_numbers_250 : decode cX11_numbers 250 = .ok (.iinc 2 1, 3) := by decide +kernel
theorem dX11_numbers_253 : decode cX11_numbers 253 = .ok (.goto (-232), 3) := by decide +kernel
theorem dX11_numbers_256 : decode cX11_numbers 256 = .ok (.return_, 1) := by decide +kernel
theorem dX11_nodesOf_0 : decode cX11_nodesOf 0 = .ok (.aload_n 0, 1) := by decide +kernel
theorem dX11_nodesOf_1 : decode cX11_nodesOf 1 = .ok (.aload_n 0, 1) := by decide +kernel
theorem dX11_nodesOf_2 : decode cX11_nodesOf 2 = .ok (.getfield 13, 3) := by decide +kernel
theorem dX11_nodesOf_5 : decode cX11_nodesOf 5 = .ok (.iload_n 1, 1) := by decide +kernel
theorem dX11_nodesOf_6 : decode cX11_nodesOf 6 = .ok (.invokestatic 206, 3) := by decide +kernel
theorem dX11_nodesOf_9 : decode cX11_nodesOf 9 = .ok (.iconst 1, 1) := by decide +kernel
theorem dX11_nodesOf_10 : decode cX11_nodesOf 10 = .ok (.iadd, 1) := by decide +kernel
theorem dX11_nodesOf_11 : decode cX11_nodesOf 11 = .ok (.aload_n 0, 1) := by decide +kernel
theorem dX11_nodesOf_12 : decode cX11_nodesOf 12 = .ok (.getfield 13, 3) := by decide +kernel
theorem dX11_nodesOf_15 : decode cX11_nodesOf 15 = .ok (.iload_n 1, 1) := by decide +kernel
theorem dX11_nodesOf_16 : decode cX11_nodesOf 16 = .ok (.invokestatic 206, 3) := by decide +kernel
theorem dX11_nodesOf_19 : decode cX11_nodesOf 19 = .ok (.iaload, 1) := by decide +kernel
theorem dX11_nodesOf_20 : decode cX11_nodesOf 20 = .ok (.invokevirtual 209, 3) := by decide +kernel
theorem dX11_nodesOf_23 : decode cX11_nodesOf 23 = .ok (.istore_n 2, 1) := by decide +kernel
theorem dX11_nodesOf_24 : decode cX11_nodesOf 24 = .ok (.return_, 1) := by decide +kernel
theorem dX11_binderOf_0 : decode cX11_binderOf 0 = .ok (.iload_n 1, 1) := by decide +kernel
theorem dX11_binderOf_1 : decode cX11_binderOf 1 = .ok (.istore_n 2, 1) := by decide +kernel
theorem dX11_binderOf_2 : decode cX11_binderOf 2 = .ok (.aload_n 0, 1) := by decide +kernel
theorem dX11_binderOf_3 : decode cX11_binderOf 3 = .ok (.getfield 68, 3) := by decide +kernel
theorem dX11_binderOf_6 : decode cX11_binderOf 6 = .ok (.iload_n 1, 1) := by decide +kernel
theorem dX11_binderOf_7 : decode cX11_binderOf 7 = .ok (.iaload, 1) := by decide +kernel
theorem dX11_binderOf_8 : decode cX11_binderOf 8 = .ok (.istore_n 3, 1) := by decide +kernel
theorem dX11_binderOf_9 : decode cX11_binderOf 9 = .ok (.iload_n 3, 1) := by decide +kernel
theorem dX11_binderOf_10 : decode cX11_binderOf 10 = .ok (.ifCond .lt 74, 3) := by decide +kernel
theorem dX11_binderOf_13 : decode cX11_binderOf 13 = .ok (.aload_n 0, 1) := by decide +kernel
theorem dX11_binderOf_14 : decode cX11_binderOf 14 = .ok (.getfield 56, 3) := by decide +kernel
theorem dX11_binderOf_17 : decode cX11_binderOf 17 = .ok (.iload_n 3, 1) := by decide +kernel
theorem dX11_binderOf_18 : decode cX11_binderOf 18 = .ok (.iaload, 1) := by decide +kernel
theorem dX11_binderOf_19 : decode cX11_binderOf 19 = .ok (.iconst 4, 1) := by decide +kernel
theorem dX11_binderOf_20 : decode cX11_binderOf 20 = .ok (.if_icmp .eq 23, 3) := by decide +kernel
theorem dX11_binderOf_23 : decode cX11_binderOf 23 = .ok (.aload_n 0, 1) := by decide +kernel
theorem dX11_binderOf_24 : decode cX11_binderOf 24 = .ok (.getfield 56, 3) := by decide +kernel
theorem dX11_binderOf_27 : decode cX11_binderOf 27 = .ok (.iload_n 3, 1) := by decide +kernel
theorem dX11_binderOf_28 : decode cX11_binderOf 28 = .ok (.iaload, 1) := by decide +kernel
theorem dX11_binderOf_29 : decode cX11_binderOf 29 = .ok (.iconst 5, 1) := by decide +kernel
theorem dX11_binderOf_30 : decode cX11_binderOf 30 = .ok (.if_icmp .ne 17, 3) := by decide +kernel
theorem dX11_binderOf_33 : decode cX11_binderOf 33 = .ok (.aload_n 0, 1) := by decide +kernel
theorem dX11_binderOf_34 : decode cX11_binderOf 34 = .ok (.getfield 65, 3) := by decide +kernel
theorem dX11_binderOf_37 : decode cX11_binderOf 37 = .ok (.iload_n 3, 1) := by decide +kernel
theorem dX11_binderOf_38 : decode cX11_binderOf 38 = .ok (.iaload, 1) := by decide +kernel
theorem dX11_binderOf_39 : decode cX11_binderOf 39 = .ok (.iload_n 2, 1) := by decide +kernel
theorem dX11_binderOf_40 : decode cX11_binderOf 40 = .ok (.if_icmp .ne 7, 3) := by decide +kernel
theorem dX11_binderOf_43 : decode cX11_binderOf 43 = .ok (.iconst 1, 1) := by decide +kernel
theorem dX11_binderOf_44 : decode cX11_binderOf 44 = .ok (.goto 4, 3) := by decide +kernel
theorem dX11_binderOf_47 : decode cX11_binderOf 47 = .ok (.iconst 0, 1) := by decide +kernel
theorem dX11_binderOf_48 : decode cX11_binderOf 48 = .ok (.istore 4, 2) := by decide +kernel
theorem dX11_binderOf_50 : decode cX11_binderOf 50 = .ok (.iload 4, 2) := by decide +kernel
theorem dX11_binderOf_52 : decode cX11_binderOf 52 = .ok (.ifCond .eq 20, 3) := by decide +kernel
theorem dX11_binderOf_55 : decode cX11_binderOf 55 = .ok (.aload_n 0, 1) := by decide +kernel
theorem dX11_binderOf_56 : decode cX11_binderOf 56 = .ok (.getfield 59, 3) := by decide +kernel
theorem dX11_binderOf_59 : decode cX11_binderOf 59 = .ok (.iload_n 3, 1) := by decide +kernel
theorem dX11_binderOf_60 : decode cX11_binderOf 60 = .ok (.iaload, 1) := by decide +kernel
theorem dX11_binderOf_61 : decode cX11_binderOf 61 = .ok (.aload_n 0, 1) := by decide +kernel
theorem dX11_binderOf_62 : decode cX11_binderOf 62 = .ok (.getfield 59, 3) := by decide +kernel
theorem dX11_binderOf_65 : decode cX11_binderOf 65 = .ok (.iload_n 1, 1) := by decide +kernel
theorem dX11_binderOf_66 : decode cX11_binderOf 66 = .ok (.iaload, 1) := by decide +kernel
theorem dX11_binderOf_67 : decode cX11_binderOf 67 = .ok (.if_icmp .ne 5, 3) := by decide +kernel
theorem dX11_binderOf_70 : decode cX11_binderOf 70 = .ok (.iload_n 3, 1) := by decide +kernel
theorem dX11_binderOf_71 : decode cX11_binderOf 71 = .ok (.ireturn, 1) := by decide +kernel
theorem dX11_binderOf_72 : decode cX11_binderOf 72 = .ok (.iload_n 3, 1) := by decide +kernel
theorem dX11_binderOf_73 : decode cX11_binderOf 73 = .ok (.istore_n 2, 1) := by decide +kernel
theorem dX11_binderOf_74 : decode cX11_binderOf 74 = .ok (.aload_n 0, 1) := by decide +kernel
theorem dX11_binderOf_75 : decode cX11_binderOf 75 = .ok (.getfield 68, 3) := by decide +kernel
theorem dX11_binderOf_78 : decode cX11_binderOf 78 = .ok (.iload_n 3, 1) := by decide +kernel
theorem dX11_binderOf_79 : decode cX11_binderOf 79 = .ok (.iaload, 1) := by decide +kernel
theorem dX11_binderOf_80 : decode cX11_binderOf 80 = .ok (.istore_n 3, 1) := by decide +kernel
theorem dX11_binderOf_81 : decode cX11_binderOf 81 = .ok (.goto (-72), 3) := by decide +kernel
theorem dX11_binderOf_84 : decode cX11_binderOf 84 = .ok (.iconst (-1), 1) := by decide +kernel
theorem dX11_binderOf_85 : decode cX11_binderOf 85 = .ok (.ireturn, 1) := by decide +kernel
theorem dX11_part_0 : decode cX11_part 0 = .ok (.aload_n 0, 1) := by decide +kernel
theorem dX11_part_1 : decode cX11_part 1 = .ok (.getfield 83, 3) := by decide +kernel
theorem dX11_part_4 : decode cX11_part 4 = .ok (.aload_n 0, 1) := by decide +kernel
theorem dX11_part_5 : decode cX11_part 5 = .ok (.getfield 213, 3) := by decide +kernel
theorem dX11_part_8 : decode cX11_part 8 = .ok (.iload_n 1, 1) := by decide +kernel
theorem dX11_part_9 : decode cX11_part 9 = .ok (.iastore, 1) := by decide +kernel
theorem dX11_part_10 : decode cX11_part 10 = .ok (.aload_n 0, 1) := by decide +kernel
theorem dX11_part_11 : decode cX11_part 11 = .ok (.getfield 86, 3) := by decide +kernel
theorem dX11_part_14 : decode cX11_part 14 = .ok (.aload_n 0, 1) := by decide +kernel
theorem dX11_part_15 : decode cX11_part 15 = .ok (.getfield 213, 3) := by decide +kernel
theorem dX11_part_18 : decode cX11_part 18 = .ok (.iload_n 2, 1) := by decide +kernel
theorem dX11_part_19 : decode cX11_part 19 = .ok (.iastore, 1) := by decide +kernel
theorem dX11_part_20 : decode cX11_part 20 = .ok (.aload_n 0, 1) := by decide +kernel
theorem dX11_part_21 : decode cX11_part 21 = .ok (.getfield 89, 3) := by decide +kernel
theorem dX11_part_24 : decode cX11_part 24 = .ok (.aload_n 0, 1) := by decide +kernel
theorem dX11_part_25 : decode cX11_part 25 = .ok (.getfield 213, 3) := by decide +kernel
theorem dX11_part_28 : decode cX11_part 28 = .ok (.iload_n 3, 1) := by decide +kernel
theorem dX11_part_29 : decode cX11_part 29 = .ok (.iastore, 1) := by decide +kernel
theorem dX11_part_30 : decode cX11_part 30 = .ok (.aload_n 0, 1) := by decide +kernel
theorem dX11_part_31 : decode cX11_part 31 = .ok (.getfield 92, 3) := by decide +kernel
theorem dX11_part_34 : decode cX11_part 34 = .ok (.aload_n 0, 1) := by decide +kernel
theorem dX11_part_35 : decode cX11_part 35 = .ok (.getfield 213, 3) := by decide +kernel
theorem dX11_part_38 : decode cX11_part 38 = .ok (.iconst (-1), 1) := by decide +kernel
theorem dX11_part_39 : decode cX11_part 39 = .ok (.iastore, 1) := by decide +kernel
theorem dX11_part_40 : decode cX11_part 40 = .ok (.aload_n 0, 1) := by decide +kernel
theorem dX11_part_41 : decode cX11_part 41 = .ok (.getfield 95, 3) := by decide +kernel
theorem dX11_part_44 : decode cX11_part 44 = .ok (.aload_n 0, 1) := by decide +kernel
theorem dX11_part_45 : decode cX11_part 45 = .ok (.getfield 213, 3) := by decide +kernel
theorem dX11_part_48 : decode cX11_part 48 = .ok (.iconst 0, 1) := by decide +kernel
theorem dX11_part_49 : decode cX11_part 49 = .ok (.iastore, 1) := by decide +kernel
theorem dX11_part_50 : decode cX11_part 50 = .ok (.aload_n 0, 1) := by decide +kernel
theorem dX11_part_51 : decode cX11_part 51 = .ok (.dup, 1) := by decide +kernel
theorem dX11_part_52 : decode cX11_part 52 = .ok (.getfield 213, 3) := by decide +kernel
theorem dX11_part_55 : decode cX11_part 55 = .ok (.iconst 1, 1) := by decide +kernel
theorem dX11_part_56 : decode cX11_part 56 = .ok (.iadd, 1) := by decide +kernel
theorem dX11_part_57 : decode cX11_part 57 = .ok (.putfield 213, 3) := by decide +kernel
theorem dX11_part_60 : decode cX11_part 60 = .ok (.aload_n 0, 1) := by decide +kernel
theorem dX11_part_61 : decode cX11_part 61 = .ok (.getfield 213, 3) := by decide +kernel
theorem dX11_part_64 : decode cX11_part 64 = .ok (.iconst 1, 1) := by decide +kernel
theorem dX11_part_65 : decode cX11_part 65 = .ok (.isub, 1) := by decide +kernel
theorem dX11_part_66 : decode cX11_part 66 = .ok (.ireturn, 1) := by decide +kernel
theorem dX11_fresh_0 : decode cX11_fresh 0 = .ok (.aload_n 0, 1) := by decide +kernel
theorem dX11_fresh_1 : decode cX11_fresh 1 = .ok (.iconst 3, 1) := by decide +kernel
theorem dX11_fresh_2 : decode cX11_fresh 2 = .ok (.iconst (-1), 1) := by decide +kernel
theorem dX11_fresh_3 : decode cX11_fresh 3 = .ok (.iconst (-1), 1) := by decide +kernel
theorem dX11_fresh_4 : decode cX11_fresh 4 = .ok (.invokevirtual 216, 3) := by decide +kernel
theorem dX11_fresh_7 : decode cX11_fresh 7 = .ok (.ireturn, 1) := by decide +kernel
theorem dX11_is_0 : decode cX11_is 0 = .ok (.iload_n 1, 1) := by decide +kernel
theorem dX11_is_1 : decode cX11_is 1 = .ok (.istore_n 2, 1) := by decide +kernel
theorem dX11_is_2 : decode cX11_is 2 = .ok (.aload_n 0, 1) := by decide +kernel
theorem dX11_is_3 : decode cX11_is 3 = .ok (.getfield 92, 3) := by decide +kernel
theorem dX11_is_6 : decode cX11_is 6 = .ok (.iload_n 2, 1) := by decide +kernel
theorem dX11_is_7 : decode cX11_is 7 = .ok (.iaload, 1) := by decide +kernel
theorem dX11_is_8 : decode cX11_is 8 = .ok (.ifCond .lt 13, 3) := by decide +kernel
theorem dX11_is_11 : decode cX11_is 11 = .ok (.aload_n 0, 1) := by decide +kernel
theorem dX11_is_12 : decode cX11_is 12 = .ok (.getfield 92, 3) := by decide +kernel
theorem dX11_is_15 : decode cX11_is 15 = .ok (.iload_n 2, 1) := by decide +kernel
theorem dX11_is_16 : decode cX11_is 16 = .ok (.iaload, 1) := by decide +kernel
theorem dX11_is_17 : decode cX11_is 17 = .ok (.istore_n 2, 1) := by decide +kernel
theorem dX11_is_18 : decode cX11_is 18 = .ok (.goto (-16), 3) := by decide +kernel
theorem dX11_is_21 : decode cX11_is 21 = .ok (.iload_n 2, 1) := by decide +kernel
theorem dX11_is_22 : decode cX11_is 22 = .ok (.ireturn, 1) := by decide +kernel
theorem dX11_turn_0 : decode cX11_turn 0 = .ok (.aload_n 0, 1) := by decide +kernel
theorem dX11_turn_1 : decode cX11_turn 1 = .ok (.aload_n 0, 1) := by decide +kernel
theorem dX11_turn_2 : decode cX11_turn 2 = .ok (.getfield 107, 3) := by decide +kernel
theorem dX11_turn_5 : decode cX11_turn 5 = .ok (.aload_n 0, 1) := by decide +kernel
theorem dX11_turn_6 : decode cX11_turn 6 = .ok (.getfield 220, 3) := by decide +kernel
theorem dX11_turn_9 : decode cX11_turn 9 = .ok (.iconst 1, 1) := by decide +kernel
theorem dX11_turn_10 : decode cX11_turn 10 = .ok (.isub, 1) := by decide +kernel
theorem dX11_turn_11 : decode cX11_turn 11 = .ok (.iaload, 1) := by decide +kernel
theorem dX11_turn_12 : decode cX11_turn 12 = .ok (.invokevirtual 223, 3) := by decide +kernel
theorem dX11_turn_15 : decode cX11_turn 15 = .ok (.istore_n 1, 1) := by decide +kernel
theorem dX11_turn_16 : decode cX11_turn 16 = .ok (.aload_n 0, 1) := by decide +kernel
theorem dX11_turn_17 : decode cX11_turn 17 = .ok (.getfield 98, 3) := by decide +kernel
theorem dX11_turn_20 : decode cX11_turn 20 = .ok (.iload_n 1, 1) := by decide +kernel
theorem dX11_turn_21 : decode cX11_turn 21 = .ok (.iaload, 1) := by decide +kernel
theorem dX11_turn_22 : decode cX11_turn 22 = .ok (.aload_n 0, 1) := by decide +kernel
theorem dX11_turn_23 : decode cX11_turn 23 = .ok (.getfield 226, 3) := by decide +kernel
theorem dX11_turn_26 : decode cX11_turn 26 = .ok (.if_icmp .ne 15, 3) := by decide +kernel
theorem dX11_turn_29 : decode cX11_turn 29 = .ok (.aload_n 0, 1) := by decide +kernel
theorem dX11_turn_30 : decode cX11_turn 30 = .ok (.dup, 1) := by decide +kernel
theorem dX11_turn_31 : decode cX11_turn 31 = .ok (.getfield 220, 3) := by decide +kernel
theorem dX11_turn_34 : decode cX11_turn 34 = .ok (.iconst 1, 1) := by decide +kernel
theorem dX11_turn_35 : decode cX11_turn 35 = .ok (.isub, 1) := by decide +kernel
theorem dX11_turn_36 : decode cX11_turn 36 = .ok (.putfield 220, 3) := by decide +kernel
theorem dX11_turn_39 : decode cX11_turn 39 = .ok (.iconst (-1), 1) := by decide +kernel
theorem dX11_turn_40 : decode cX11_turn 40 = .ok (.ireturn, 1) := by decide +kernel
theorem dX11_turn_41 : decode cX11_turn 41 = .ok (.aload_n 0, 1) := by decide +kernel
theorem dX11_turn_42 : decode cX11_turn 42 = .ok (.getfield 83, 3) := by decide +kernel
theorem dX11_turn_45 : decode cX11_turn 45 = .ok (.iload_n 1, 1) := by decide +kernel
theorem dX11_turn_46 : decode cX11_turn 46 = .ok (.iaload, 1) := by decide +kernel
theorem dX11_turn_47 : decode cX11_turn 47 = .ok (.iconst 2, 1) := by decide +kernel
theorem dX11_turn_48 : decode cX11_turn 48 = .ok (.if_icmp .ne 57, 3) := by decide +kernel
theorem dX11_turn_51 : decode cX11_turn 51 = .ok (.aload_n 0, 1) := by decide +kernel
theorem dX11_turn_52 : decode cX11_turn 52 = .ok (.getfield 98, 3) := by decide +kernel
theorem dX11_turn_55 : decode cX11_turn 55 = .ok (.aload_n 0, 1) := by decide +kernel
theorem dX11_turn_56 : decode cX11_turn 56 = .ok (.aload_n 0, 1) := by decide +kernel
theorem dX11_turn_57 : decode cX11_turn 57 = .ok (.getfield 86, 3) := by decide +kernel
theorem dX11_turn_60 : decode cX11_turn 60 = .ok (.iload_n 1, 1) := by decide +kernel
theorem dX11_turn_61 : decode cX11_turn 61 = .ok (.iaload, 1) := by decide +kernel
theorem dX11_turn_62 : decode cX11_turn 62 = .ok (.invokevirtual 223, 3) := by decide +kernel
theorem dX11_turn_65 : decode cX11_turn 65 = .ok (.iaload, 1) := by decide +kernel
theorem dX11_turn_66 : decode cX11_turn 66 = .ok (.aload_n 0, 1) := by decide +kernel
theorem dX11_turn_67 : decode cX11_turn 67 = .ok (.getfield 226, 3) := by decide +kernel
theorem dX11_turn_70 : decode cX11_turn 70 = .ok (.if_icmp .eq 35, 3) := by decide +kernel
theorem dX11_turn_73 : decode cX11_turn 73 = .ok (.aload_n 0, 1) := by decide +kernel
theorem dX11_turn_74 : decode cX11_turn 74 = .ok (.getfield 107, 3) := by decide +kernel
theorem dX11_turn_77 : decode cX11_turn 77 = .ok (.aload_n 0, 1) := by decide +kernel
theorem dX11_turn_78 : decode cX11_turn 78 = .ok (.getfield 220, 3) := by decide +kernel
theorem dX11_turn_81 : decode cX11_turn 81 = .ok (.aload_n 0, 1) := by decide +kernel
theorem dX11_turn_82 : decode cX11_turn 82 = .ok (.aload_n 0, 1) := by decide +kernel
theorem dX11_turn_83 : decode cX11_turn 83 = .ok (.getfield 86, 3) := by decide +kernel
theorem dX11_turn_86 : decode cX11_turn 86 = .ok (.iload_n 1, 1) := by decide +kernel
theorem dX11_turn_87 : decode cX11_turn 87 = .ok (.iaload, 1) := by decide +kernel
theorem dX11_turn_88 : decode cX11_turn 88 = .ok (.invokevirtual 223, 3) := by decide +kernel
theorem dX11_turn_91 : decode cX11_turn 91 = .ok (.iastore, 1) := by decide +kernel
theorem dX11_turn_92 : decode cX11_turn 92 = .ok (.aload_n 0, 1) := by decide +kernel
theorem dX11_turn_93 : decode cX11_turn 93 = .ok (.dup, 1) := by decide +kernel
theorem dX11_turn_94 : decode cX11_turn 94 = .ok (.getfield 220, 3) := by decide +kernel
theorem dX11_turn_97 : decode cX11_turn 97 = .ok (.iconst 1, 1) := by decide +kernel
theorem dX11_turn_98 : decode cX11_turn 98 = .ok (.iadd, 1) := by decide +kernel
theorem dX11_turn_99 : decode cX11_turn 99 = .ok (.putfield 220, 3) := by decide +kernel
theorem dX11_turn_102 : decode cX11_turn 102 = .ok (.goto 89, 3) := by decide +kernel
theorem dX11_turn_105 : decode cX11_turn 105 = .ok (.aload_n 0, 1) := by decide +kernel
theorem dX11_turn_106 : decode cX11_turn 106 = .ok (.getfield 83, 3) := by decide +kernel
theorem dX11_turn_109 : decode cX11_turn 109 = .ok (.iload_n 1, 1) := by decide +kernel
theorem dX11_turn_110 : decode cX11_turn 110 = .ok (.iaload, 1) := by decide +kernel
theorem dX11_turn_111 : decode cX11_turn 111 = .ok (.iconst 2, 1) := by decide +kernel
theorem dX11_turn_112 : decode cX11_turn 112 = .ok (.if_icmp .ne 57, 3) := by decide +kernel
theorem dX11_turn_115 : decode cX11_turn 115 = .ok (.aload_n 0, 1) := by decide +kernel
theorem dX11_turn_116 : decode cX11_turn 116 = .ok (.getfield 98, 3) := by decide +kernel
theorem dX11_turn_119 : decode cX11_turn 119 = .ok (.aload_n 0, 1) := by decide +kernel
theorem dX11_turn_120 : decode cX11_turn 120 = .ok (.aload_n 0, 1) := by decide +kernel
theorem dX11_turn_121 : decode cX11_turn 121 = .ok (.getfield 89, 3) := by decide +kernel
theorem dX11_turn_124 : decode cX11_turn 124 = .ok (.iload_n 1, 1) := by decide +kernel
theorem dX11_turn_125 : decode cX11_turn 125 = .ok (.iaload, 1) := by decide +kernel
theorem dX11_turn_126 : decode cX11_turn 126 = .ok (.invokevirtual 223, 3) := by decide +kernel
theorem dX11_turn_129 : decode cX11_turn 129 = .ok (.iaload, 1) := by decide +kernel
theorem dX11_turn_130 : decode cX11_turn 130 = .ok (.aload_n 0, 1) := by decide +kernel
theorem dX11_turn_131 : decode cX11_turn 131 = .ok (.getfield 226, 3) := by decide +kernel
theorem dX11_turn_134 : decode cX11_turn 134 = .ok (.if_icmp .eq 35, 3) := by decide +kernel
theorem dX11_turn_137 : decode cX11_turn 137 = .ok (.aload_n 0, 1) := by decide +kernel
theorem dX11_turn_138 : decode cX11_turn 138 = .ok (.getfield 107, 3) := by decide +kernel
theorem dX11_turn_141 : decode cX11_turn 141 = .ok (.aload_n 0, 1) := by decide +kernel
theorem dX11_turn_142 : decode cX11_turn 142 = .ok (.getfield 220, 3) := by decide +kernel
theorem dX11_turn_145 : decode cX11_turn 145 = .ok (.aload_n 0, 1) := by decide +kernel
theorem dX11_turn_146 : decode cX11_turn 146 = .ok (.aload_n 0, 1) := by decide +kernel
theorem dX11_turn_147 : decode cX11_turn 147 = .ok (.getfield 89, 3) := by decide +kernel
theorem dX11_turn_150 : decode cX11_turn 150 = .ok (.iload_n 1, 1) := by decide +kernel
theorem dX11_turn_151 : decode cX11_turn 151 = .ok (.iaload, 1) := by decide +kernel
theorem dX11_turn_152 : decode cX11_turn 152 = .ok (.invokevirtual 223, 3) := by decide +kernel
theorem dX11_turn_155 : decode cX11_turn 155 = .ok (.iastore, 1) := by decide +kernel
theorem dX11_turn_156 : decode cX11_turn 156 = .ok (.aload_n 0, 1) := by decide +kernel
theorem dX11_turn_157 : decode cX11_turn 157 = .ok (.dup, 1) := by decide +kernel
theorem dX11_turn_158 : decode cX11_turn 158 = .ok (.getfield 220, 3) := by decide +kernel
theorem dX11_turn_161 : decode cX11_turn 161 = .ok (.iconst 1, 1) := by decide +kernel
theorem dX11_turn_162 : decode cX11_turn 162 = .ok (.iadd, 1) := by decide +kernel
theorem dX11_turn_163 : decode cX11_turn 163 = .ok (.putfield 220, 3) := by decide +kernel
theorem dX11_turn_166 : decode cX11_turn 166 = .ok (.goto 25, 3) := by decide +kernel
theorem dX11_turn_169 : decode cX11_turn 169 = .ok (.aload_n 0, 1) := by decide +kernel
theorem dX11_turn_170 : decode cX11_turn 170 = .ok (.getfield 98, 3) := by decide +kernel
theorem dX11_turn_173 : decode cX11_turn 173 = .ok (.iload_n 1, 1) := by decide +kernel
theorem dX11_turn_174 : decode cX11_turn 174 = .ok (.aload_n 0, 1) := by decide +kernel
theorem dX11_turn_175 : decode cX11_turn 175 = .ok (.getfield 226, 3) := by decide +kernel
theorem dX11_turn_178 : decode cX11_turn 178 = .ok (.iastore, 1) := by decide +kernel
theorem dX11_turn_179 : decode cX11_turn 179 = .ok (.aload_n 0, 1) := by decide +kernel
theorem dX11_turn_180 : decode cX11_turn 180 = .ok (.dup, 1) := by decide +kernel
theorem dX11_turn_181 : decode cX11_turn 181 = .ok (.getfield 220, 3) := by decide +kernel
theorem dX11_turn_184 : decode cX11_turn 184 = .ok (.iconst 1, 1) := by decide +kernel
theorem dX11_turn_185 : decode cX11_turn 185 = .ok (.isub, 1) := by decide +kernel
theorem dX11_turn_186 : decode cX11_turn 186 = .ok (.putfield 220, 3) := by decide +kernel
theorem dX11_turn_189 : decode cX11_turn 189 = .ok (.iload_n 1, 1) := by decide +kernel
theorem dX11_turn_190 : decode cX11_turn 190 = .ok (.ireturn, 1) := by decide +kernel
theorem dX11_turn_191 : decode cX11_turn 191 = .ok (.goto (-191), 3) := by decide +kernel
theorem dX11_starts_0 : decode cX11_starts 0 = .ok (.aload_n 0, 1) := by decide +kernel
theorem dX11_starts_1 : decode cX11_starts 1 = .ok (.getfield 107, 3) := by decide +kernel
theorem dX11_starts_4 : decode cX11_starts 4 = .ok (.iconst 0, 1) := by decide +kernel
theorem dX11_starts_5 : decode cX11_starts 5 = .ok (.aload_n 0, 1) := by decide +kernel
theorem dX11_starts_6 : decode cX11_starts 6 = .ok (.iload_n 1, 1) := by decide +kernel
theorem dX11_starts_7 : decode cX11_starts 7 = .ok (.invokevirtual 223, 3) := by decide +kernel
theorem dX11_starts_10 : decode cX11_starts 10 = .ok (.iastore, 1) := by decide +kernel
theorem dX11_starts_11 : decode cX11_starts 11 = .ok (.aload_n 0, 1) := by decide +kernel
theorem dX11_starts_12 : decode cX11_starts 12 = .ok (.iconst 1, 1) := by decide +kernel
theorem dX11_starts_13 : decode cX11_starts 13 = .ok (.putfield 220, 3) := by decide +kernel
theorem dX11_starts_16 : decode cX11_starts 16 = .ok (.return_, 1) := by decide +kernel
theorem dX11_size_0 : decode cX11_size 0 = .ok (.aload_n 0, 1) := by decide +kernel
theorem dX11_size_1 : decode cX11_size 1 = .ok (.dup, 1) := by decide +kernel
theorem dX11_size_2 : decode cX11_size 2 = .ok (.getfield 226, 3) := by decide +kernel
theorem dX11_size_5 : decode cX11_size 5 = .ok (.iconst 1, 1) := by decide +kernel
theorem dX11_size_6 : decode cX11_size 6 = .ok (.iadd, 1) := by decide +kernel
theorem dX11_size_7 : decode cX11_size 7 = .ok (.putfield 226, 3) := by decide +kernel
theorem dX11_size_10 : decode cX11_size 10 = .ok (.aload_n 0, 1) := by decide +kernel
theorem dX11_size_11 : decode cX11_size 11 = .ok (.iload_n 1, 1) := by decide +kernel
theorem dX11_size_12 : decode cX11_size 12 = .ok (.invokevirtual 229, 3) := by decide +kernel
theorem dX11_size_15 : decode cX11_size 15 = .ok (.aload_n 0, 1) := by decide +kernel
theorem dX11_size_16 : decode cX11_size 16 = .ok (.getfield 220, 3) := by decide +kernel
theorem dX11_size_19 : decode cX11_size 19 = .ok (.ifCond .le 150, 3) := by decide +kernel
theorem dX11_size_22 : decode cX11_size 22 = .ok (.aload_n 0, 1) := by decide +kernel
theorem dX11_size_23 : decode cX11_size 23 = .ok (.invokevirtual 232, 3) := by decide +kernel
theorem dX11_size_26 : decode cX11_size 26 = .ok (.istore_n 2, 1) := by decide +kernel
theorem dX11_size_27 : decode cX11_size 27 = .ok (.iload_n 2, 1) := by decide +kernel
theorem dX11_size_28 : decode cX11_size 28 = .ok (.ifCond .ge 6, 3) := by decide +kernel
theorem dX11_size_31 : decode cX11_size 31 = .ok (.goto (-16), 3) := by decide +kernel
theorem dX11_size_34 : decode cX11_size 34 = .ok (.aload_n 0, 1) := by decide +kernel
theorem dX11_size_35 : decode cX11_size 35 = .ok (.getfield 101, 3) := by decide +kernel
theorem dX11_size_38 : decode cX11_size 38 = .ok (.iload_n 2, 1) := by decide +kernel
theorem dX11_size_39 : decode cX11_size 39 = .ok (.iconst 1, 1) := by decide +kernel
theorem dX11_size_40 : decode cX11_size 40 = .ok (.iastore, 1) := by decide +kernel
theorem dX11_size_41 : decode cX11_size 41 = .ok (.aload_n 0, 1) := by decide +kernel
theorem dX11_size_42 : decode cX11_size 42 = .ok (.getfield 104, 3) := by decide +kernel
theorem dX11_size_45 : decode cX11_size 45 = .ok (.iload_n 2, 1) := by decide +kernel
theorem dX11_size_46 : decode cX11_size 46 = .ok (.iconst 0, 1) := by decide +kernel
theorem dX11_size_47 : decode cX11_size 47 = .ok (.iastore, 1) := by decide +kernel
theorem dX11_size_48 : decode cX11_size 48 = .ok (.aload_n 0, 1) := by decide +kernel
theorem dX11_size_49 : decode cX11_size 49 = .ok (.getfield 83, 3) := by decide +kernel
theorem dX11_size_52 : decode cX11_size 52 = .ok (.iload_n 2, 1) := by decide +kernel
theorem dX11_size_53 : decode cX11_size 53 = .ok (.iaload, 1) := by decide +kernel
theorem dX11_size_54 : decode cX11_size 54 = .ok (.iconst 2, 1) := by decide +kernel
theorem dX11_size_55 : decode cX11_size 55 = .ok (.if_icmp .eq 6, 3) := by decide +kernel
theorem dX11_size_58 : decode cX11_size 58 = .ok (.goto (-43), 3) := by decide +kernel
theorem dX11_size_61 : decode cX11_size 61 = .ok (.aload_n 0, 1) := by decide +kernel
theorem dX11_size_62 : decode cX11_size 62 = .ok (.aload_n 0, 1) := by decide +kernel
theorem dX11_size_63 : decode cX11_size 63 = .ok (.getfield 86, 3) := by decide +kernel
theorem dX11_size_66 : decode cX11_size 66 = .ok (.iload_n 2, 1) := by decide +kernel
theorem dX11_size_67 : decode cX11_size 67 = .ok (.iaload, 1) := by decide +kernel
theorem dX11_size_68 : decode cX11_size 68 = .ok (.invokevirtual 223, 3) := by decide +kernel
theorem dX11_size_71 : decode cX11_size 71 = .ok (.istore_n 3, 1) := by decide +kernel
theorem dX11_size_72 : decode cX11_size 72 = .ok (.aload_n 0, 1) := by decide +kernel
theorem dX11_size_73 : decode cX11_size 73 = .ok (.aload_n 0, 1) := by decide +kernel
theorem dX11_size_74 : decode cX11_size 74 = .ok (.getfield 89, 3) := by decide +kernel
theorem dX11_size_77 : decode cX11_size 77 = .ok (.iload_n 2, 1) := by decide +kernel
theorem dX11_size_78 : decode cX11_size 78 = .ok (.iaload, 1) := by decide +kernel
theorem dX11_size_79 : decode cX11_size 79 = .ok (.invokevirtual 223, 3) := by decide +kernel
theorem dX11_size_82 : decode cX11_size 82 = .ok (.istore 4, 2) := by decide +kernel
theorem dX11_size_84 : decode cX11_size 84 = .ok (.iconst 1, 1) := by decide +kernel
theorem dX11_size_85 : decode cX11_size 85 = .ok (.aload_n 0, 1) := by decide +kernel
theorem dX11_size_86 : decode cX11_size 86 = .ok (.getfield 101, 3) := by decide +kernel
theorem dX11_size_89 : decode cX11_size 89 = .ok (.iload_n 3, 1) := by decide +kernel
theorem dX11_size_90 : decode cX11_size 90 = .ok (.iaload, 1) := by decide +kernel
theorem dX11_size_91 : decode cX11_size 91 = .ok (.iadd, 1) := by decide +kernel
theorem dX11_size_92 : decode cX11_size 92 = .ok (.aload_n 0, 1) := by decide +kernel
theorem dX11_size_93 : decode cX11_size 93 = .ok (.getfield 101, 3) := by decide +kernel
theorem dX11_size_96 : decode cX11_size 96 = .ok (.iload 4, 2) := by decide +kernel
theorem dX11_size_98 : decode cX11_size 98 = .ok (.iaload, 1) := by decide +kernel
theorem dX11_size_99 : decode cX11_size 99 = .ok (.iadd, 1) := by decide +kernel
theorem dX11_size_100 : decode cX11_size 100 = .ok (.istore 5, 2) := by decide +kernel
theorem dX11_size_102 : decode cX11_size 102 = .ok (.aload_n 0, 1) := by decide +kernel
theorem dX11_size_103 : decode cX11_size 103 = .ok (.getfield 101, 3) := by decide +kernel
theorem dX11_size_106 : decode cX11_size 106 = .ok (.iload_n 2, 1) := by decide +kernel
theorem dX11_size_107 : decode cX11_size 107 = .ok (.iload 5, 2) := by decide +kernel
theorem dX11_size_109 : decode cX11_size 109 = .ok (.sipush 201, 3) := by decide +kernel
theorem dX11_size_112 : decode cX11_size 112 = .ok (.if_icmp .le 9, 3) := by decide +kernel
theorem dX11_size_115 : decode cX11_size 115 = .ok (.sipush 201, 3) := by decide +kernel
theorem dX11_size_118 : decode cX11_size 118 = .ok (.goto 5, 3) := by decide +kernel
theorem dX11_size_121 : decode cX11_size 121 = .ok (.iload 5, 2) := by decide +kernel
theorem dX11_size_123 : decode cX11_size 123 = .ok (.iastore, 1) := by decide +kernel
theorem dX11_size_124 : decode cX11_size 124 = .ok (.aload_n 0, 1) := by decide +kernel
theorem dX11_size_125 : decode cX11_size 125 = .ok (.getfield 104, 3) := by decide +kernel
theorem dX11_size_128 : decode cX11_size 128 = .ok (.iload_n 2, 1) := by decide +kernel
theorem dX11_size_129 : decode cX11_size 129 = .ok (.aload_n 0, 1) := by decide +kernel
theorem dX11_size_130 : decode cX11_size 130 = .ok (.getfield 104, 3) := by decide +kernel
theorem dX11_size_133 : decode cX11_size 133 = .ok (.iload_n 3, 1) := by decide +kernel
theorem dX11_size_134 : decode cX11_size 134 = .ok (.iaload, 1) := by decide +kernel
theorem dX11_size_135 : decode cX11_size 135 = .ok (.iconst 1, 1) := by decide +kernel
theorem dX11_size_136 : decode cX11_size 136 = .ok (.iadd, 1) := by decide +kernel
theorem dX11_size_137 : decode cX11_size 137 = .ok (.aload_n 0, 1) := by decide +kernel
theorem dX11_size_138 : decode cX11_size 138 = .ok (.getfield 104, 3) := by decide +kernel
theorem dX11_size_141 : decode cX11_size 141 = .ok (.iload 4, 2) := by decide +kernel
theorem dX11_size_143 : decode cX11_size 143 = .ok (.iaload, 1) := by decide +kernel
theorem dX11_size_144 : decode cX11_size 144 = .ok (.if_icmp .le 14, 3) := by decide +kernel
theorem dX11_size_147 : decode cX11_size 147 = .ok (.aload_n 0, 1) := by decide +kernel
theorem dX11_size_148 : decode cX11_size 148 = .ok (.getfield 104, 3) := by decide +kernel
theorem dX11_size_151 : decode cX11_size 151 = .ok (.iload_n 3, 1) := by decide +kernel
theorem dX11_size_152 : decode cX11_size 152 = .ok (.iaload, 1) := by decide +kernel
theorem dX11_size_153 : decode cX11_size 153 = .ok (.iconst 1, 1) := by decide +kernel
theorem dX11_size_154 : decode cX11_size 154 = .ok (.iadd, 1) := by decide +kernel
theorem dX11_size_155 : decode cX11_size 155 = .ok (.goto 10, 3) := by decide +kernel
theorem dX11_size_158 : decode cX11_size 158 = .ok (.aload_n 0, 1) := by decide +kernel
theorem dX11_size_159 : decode cX11_size 159 = .ok (.getfield 104, 3) := by decide +kernel
theorem dX11_size_162 : decode cX11_size 162 = .ok (.iload 4, 2) := by decide +kernel
theorem dX11_size_164 : decode cX11_size 164 = .ok (.iaload, 1) := by decide +kernel
theorem dX11_size_165 : decode cX11_size 165 = .ok (.iastore, 1) := by decide +kernel
theorem dX11_size_166 : decode cX11_size 166 = .ok (.goto (-151), 3) := by decide +kernel
theorem dX11_size_169 : decode cX11_size 169 = .ok (.aload_n 0, 1) := by decide +kernel
theorem dX11_size_170 : decode cX11_size 170 = .ok (.getfield 101, 3) := by decide +kernel
theorem dX11_size_173 : decode cX11_size 173 = .ok (.aload_n 0, 1) := by decide +kernel
theorem dX11_size_174 : decode cX11_size 174 = .ok (.iload_n 1, 1) := by decide +kernel
theorem dX11_size_175 : decode cX11_size 175 = .ok (.invokevirtual 223, 3) := by decide +kernel
theorem dX11_size_178 : decode cX11_size 178 = .ok (.iaload, 1) := by decide +kernel
theorem dX11_size_179 : decode cX11_size 179 = .ok (.ireturn, 1) := by decide +kernel
theorem dX11_marks_0 : decode cX11_marks 0 = .ok (.aload_n 0, 1) := by decide +kernel
theorem dX11_marks_1 : decode cX11_marks 1 = .ok (.iload_n 1, 1) := by decide +kernel
theorem dX11_marks_2 : decode cX11_marks 2 = .ok (.invokevirtual 229, 3) := by decide +kernel
theorem dX11_marks_5 : decode cX11_marks 5 = .ok (.aload_n 0, 1) := by decide +kernel
theorem dX11_marks_6 : decode cX11_marks 6 = .ok (.getfield 220, 3) := by decide +kernel
theorem dX11_marks_9 : decode cX11_marks 9 = .ok (.ifCond .le 11, 3) := by decide +kernel
theorem dX11_marks_12 : decode cX11_marks 12 = .ok (.aload_n 0, 1) := by decide +kernel
theorem dX11_marks_13 : decode cX11_marks 13 = .ok (.invokevirtual 232, 3) := by decide +kernel
theorem dX11_marks_16 : decode cX11_marks 16 = .ok (.istore_n 2, 1) := by decide +kernel
theorem dX11_marks_17 : decode cX11_marks 17 = .ok (.goto (-12), 3) := by decide +kernel
theorem dX11_marks_20 : decode cX11_marks 20 = .ok (.return_, 1) := by decide +kernel
theorem dX11_has_0 : decode cX11_has 0 = .ok (.aload_n 0, 1) := by decide +kernel
theorem dX11_has_1 : decode cX11_has 1 = .ok (.dup, 1) := by decide +kernel
theorem dX11_has_2 : decode cX11_has 2 = .ok (.getfield 226, 3) := by decide +kernel
theorem dX11_has_5 : decode cX11_has 5 = .ok (.iconst 1, 1) := by decide +kernel
theorem dX11_has_6 : decode cX11_has 6 = .ok (.iadd, 1) := by decide +kernel
theorem dX11_has_7 : decode cX11_has 7 = .ok (.putfield 226, 3) := by decide +kernel
theorem dX11_has_10 : decode cX11_has 10 = .ok (.aload_n 0, 1) := by decide +kernel
theorem dX11_has_11 : decode cX11_has 11 = .ok (.iload_n 1, 1) := by decide +kernel
theorem dX11_has_12 : decode cX11_has 12 = .ok (.invokevirtual 236, 3) := by decide +kernel
theorem dX11_has_15 : decode cX11_has 15 = .ok (.aload_n 0, 1) := by decide +kernel
theorem dX11_has_16 : decode cX11_has 16 = .ok (.getfield 98, 3) := by decide +kernel
theorem dX11_has_19 : decode cX11_has 19 = .ok (.iload_n 2, 1) := by decide +kernel
theorem dX11_has_20 : decode cX11_has 20 = .ok (.iaload, 1) := by decide +kernel
theorem dX11_has_21 : decode cX11_has 21 = .ok (.aload_n 0, 1) := by decide +kernel
theorem dX11_has_22 : decode cX11_has 22 = .ok (.getfield 226, 3) := by decide +kernel
theorem dX11_has_25 : decode cX11_has 25 = .ok (.if_icmp .ne 7, 3) := by decide +kernel
theorem dX11_has_28 : decode cX11_has 28 = .ok (.iconst 1, 1) := by decide +kernel
theorem dX11_has_29 : decode cX11_has 29 = .ok (.goto 4, 3) := by decide +kernel
theorem dX11_has_32 : decode cX11_has 32 = .ok (.iconst 0, 1) := by decide +kernel
theorem dX11_has_33 : decode cX11_has 33 = .ok (.ireturn, 1) := by decide +kernel
theorem dX11_copied_0 : decode cX11_copied 0 = .ok (.aload_n 0, 1) := by decide +kernel
theorem dX11_copied_1 : decode cX11_copied 1 = .ok (.dup, 1) := by decide +kernel
theorem dX11_copied_2 : decode cX11_copied 2 = .ok (.getfield 226, 3) := by decide +kernel
theorem dX11_copied_5 : decode cX11_copied 5 = .ok (.iconst 1, 1) := by decide +kernel
theorem dX11_copied_6 : decode cX11_copied 6 = .ok (.iadd, 1) := by decide +kernel
theorem dX11_copied_7 : decode cX11_copied 7 = .ok (.putfield 226, 3) := by decide +kernel
theorem dX11_copied_10 : decode cX11_copied 10 = .ok (.aload_n 0, 1) := by decide +kernel
theorem dX11_copied_11 : decode cX11_copied 11 = .ok (.iload_n 1, 1) := by decide +kernel
theorem dX11_copied_12 : decode cX11_copied 12 = .ok (.invokevirtual 229, 3) := by decide +kernel
theorem dX11_copied_15 : decode cX11_copied 15 = .ok (.aload_n 0, 1) := by decide +kernel
theorem dX11_copied_16 : decode cX11_copied 16 = .ok (.getfield 220, 3) := by decide +kernel
theorem dX11_copied_19 : decode cX11_copied 19 = .ok (.ifCond .le 168, 3) := by decide +kernel
theorem dX11_copied_22 : decode cX11_copied 22 = .ok (.aload_n 0, 1) := by decide +kernel
theorem dX11_copied_23 : decode cX11_copied 23 = .ok (.invokevirtual 232, 3) := by decide +kernel
theorem dX11_copied_26 : decode cX11_copied 26 = .ok (.istore_n 2, 1) := by decide +kernel
theorem dX11_copied_27 : decode cX11_copied 27 = .ok (.iload_n 2, 1) := by decide +kernel
theorem dX11_copied_28 : decode cX11_copied 28 = .ok (.ifCond .ge 6, 3) := by decide +kernel
theorem dX11_copied_31 : decode cX11_copied 31 = .ok (.goto (-16), 3) := by decide +kernel
theorem dX11_copied_34 : decode cX11_copied 34 = .ok (.aload_n 0, 1) := by decide +kernel
theorem dX11_copied_35 : decode cX11_copied 35 = .ok (.getfield 101, 3) := by decide +kernel
theorem dX11_copied_38 : decode cX11_copied 38 = .ok (.iload_n 2, 1) := by decide +kernel
theorem dX11_copied_39 : decode cX11_copied 39 = .ok (.iload_n 2, 1) := by decide +kernel
theorem dX11_copied_40 : decode cX11_copied 40 = .ok (.iastore, 1) := by decide +kernel
theorem dX11_copied_41 : decode cX11_copied 41 = .ok (.aload_n 0, 1) := by decide +kernel
theorem dX11_copied_42 : decode cX11_copied 42 = .ok (.getfield 83, 3) := by decide +kernel
theorem dX11_copied_45 : decode cX11_copied 45 = .ok (.iload_n 2, 1) := by decide +kernel
theorem dX11_copied_46 : decode cX11_copied 46 = .ok (.iaload, 1) := by decide +kernel
theorem dX11_copied_47 : decode cX11_copied 47 = .ok (.iconst 3, 1) := by decide +kernel
theorem dX11_copied_48 : decode cX11_copied 48 = .ok (.if_icmp .ne 35, 3) := by decide +kernel
theorem dX11_copied_51 : decode cX11_copied 51 = .ok (.aload_n 0, 1) := by decide +kernel
theorem dX11_copied_52 : decode cX11_copied 52 = .ok (.getfield 95, 3) := by decide +kernel
theorem dX11_copied_55 : decode cX11_copied 55 = .ok (.iload_n 2, 1) := by decide +kernel
theorem dX11_copied_56 : decode cX11_copied 56 = .ok (.iaload, 1) := by decide +kernel
theorem dX11_copied_57 : decode cX11_copied 57 = .ok (.iconst 1, 1) := by decide +kernel
theorem dX11_copied_58 : decode cX11_copied 58 = .ok (.if_icmp .ne 25, 3) := by decide +kernel
theorem dX11_copied_61 : decode cX11_copied 61 = .ok (.aload_n 0, 1) := by decide +kernel
theorem dX11_copied_62 : decode cX11_copied 62 = .ok (.getfield 101, 3) := by decide +kernel
theorem dX11_copied_65 : decode cX11_copied 65 = .ok (.iload_n 2, 1) := by decide +kernel
theorem dX11_copied_66 : decode cX11_copied 66 = .ok (.aload_n 0, 1) := by decide +kernel
theorem dX11_copied_67 : decode cX11_copied 67 = .ok (.invokevirtual 239, 3) := by decide +kernel
theorem dX11_copied_70 : decode cX11_copied 70 = .ok (.iastore, 1) := by decide +kernel
theorem dX11_copied_71 : decode cX11_copied 71 = .ok (.aload_n 0, 1) := by decide +kernel
theorem dX11_copied_72 : decode cX11_copied 72 = .ok (.getfield 98, 3) := by decide +kernel
theorem dX11_copied_75 : decode cX11_copied 75 = .ok (.aload_n 0, 1) := by decide +kernel
theorem dX11_copied_76 : decode cX11_copied 76 = .ok (.getfield 101, 3) := by decide +kernel
theorem dX11_copied_79 : decode cX11_copied 79 = .ok (.iload_n 2, 1) := by decide +kernel
theorem dX11_copied_80 : decode cX11_copied 80 = .ok (.iaload, 1) := by decide +kernel
theorem dX11_copied_81 : decode cX11_copied 81 = .ok (.iconst 0, 1) := by decide +kernel
theorem dX11_copied_82 : decode cX11_copied 82 = .ok (.iastore, 1) := by decide +kernel
theorem dX11_copied_83 : decode cX11_copied 83 = .ok (.aload_n 0, 1) := by decide +kernel
theorem dX11_copied_84 : decode cX11_copied 84 = .ok (.getfield 83, 3) := by decide +kernel
theorem dX11_copied_87 : decode cX11_copied 87 = .ok (.iload_n 2, 1) := by decide +kernel
theorem dX11_copied_88 : decode cX11_copied 88 = .ok (.iaload, 1) := by decide +kernel
theorem dX11_copied_89 : decode cX11_copied 89 = .ok (.iconst 2, 1) := by decide +kernel
theorem dX11_copied_90 : decode cX11_copied 90 = .ok (.if_icmp .eq 6, 3) := by decide +kernel
theorem dX11_copied_93 : decode cX11_copied 93 = .ok (.goto (-78), 3) := by decide +kernel
theorem dX11_copied_96 : decode cX11_copied 96 = .ok (.aload_n 0, 1) := by decide +kernel
theorem dX11_copied_97 : decode cX11_copied 97 = .ok (.getfield 101, 3) := by decide +kernel
theorem dX11_copied_100 : decode cX11_copied 100 = .ok (.aload_n 0, 1) := by decide +kernel
theorem dX11_copied_101 : decode cX11_copied 101 = .ok (.aload_n 0, 1) := by decide +kernel
theorem dX11_copied_102 : decode cX11_copied 102 = .ok (.getfield 86, 3) := by decide +kernel
theorem dX11_copied_105 : decode cX11_copied 105 = .ok (.iload_n 2, 1) := by decide +kernel
theorem dX11_copied_106 : decode cX11_copied 106 = .ok (.iaload, 1) := by decide +kernel
theorem dX11_copied_107 : decode cX11_copied 107 = .ok (.invokevirtual 223, 3) := by decide +kernel
theorem dX11_copied_110 : decode cX11_copied 110 = .ok (.iaload, 1) := by decide +kernel
theorem dX11_copied_111 : decode cX11_copied 111 = .ok (.istore_n 3, 1) := by decide +kernel
theorem dX11_copied_112 : decode cX11_copied 112 = .ok (.aload_n 0, 1) := by decide +kernel
theorem dX11_copied_113 : decode cX11_copied 113 = .ok (.getfield 101, 3) := by decide +kernel
theorem dX11_copied_116 : decode cX11_copied 116 = .ok (.aload_n 0, 1) := by decide +kernel
theorem dX11_copied_117 : decode cX11_copied 117 = .ok (.aload_n 0, 1) := by decide +kernel
theorem dX11_copied_118 : decode cX11_copied 118 = .ok (.getfield 89, 3) := by decide +kernel
theorem dX11_copied_121 : decode cX11_copied 121 = .ok (.iload_n 2, 1) := by decide +kernel
theorem dX11_copied_122 : decode cX11_copied 122 = .ok (.iaload, 1) := by decide +kernel
theorem dX11_copied_123 : decode cX11_copied 123 = .ok (.invokevirtual 223, 3) := by decide +kernel
theorem dX11_copied_126 : decode cX11_copied 126 = .ok (.iaload, 1) := by decide +kernel
theorem dX11_copied_127 : decode cX11_copied 127 = .ok (.istore 4, 2) := by decide +kernel
theorem dX11_copied_129 : decode cX11_copied 129 = .ok (.iload_n 3, 1) := by decide +kernel
theorem dX11_copied_130 : decode cX11_copied 130 = .ok (.aload_n 0, 1) := by decide +kernel
theorem dX11_copied_131 : decode cX11_copied 131 = .ok (.aload_n 0, 1) := by decide +kernel
theorem dX11_copied_132 : decode cX11_copied 132 = .ok (.getfield 86, 3) := by decide +kernel
theorem dX11_copied_135 : decode cX11_copied 135 = .ok (.iload_n 2, 1) := by decide +kernel
theorem dX11_copied_136 : decode cX11_copied 136 = .ok (.iaload, 1) := by decide +kernel
theorem dX11_copied_137 : decode cX11_copied 137 = .ok (.invokevirtual 223, 3) := by decide +kernel
theorem dX11_copied_140 : decode cX11_copied 140 = .ok (.if_icmp .ne 18, 3) := by decide +kernel
theorem dX11_copied_143 : decode cX11_copied 143 = .ok (.iload 4, 2) := by decide +kernel
theorem dX11_copied_145 : decode cX11_copied 145 = .ok (.aload_n 0, 1) := by decide +kernel
theorem dX11_copied_146 : decode cX11_copied 146 = .ok (.aload_n 0, 1) := by decide +kernel
theorem dX11_copied_147 : decode cX11_copied 147 = .ok (.getfield 89, 3) := by decide +kernel
theorem dX11_copied_150 : decode cX11_copied 150 = .ok (.iload_n 2, 1) := by decide +kernel
theorem dX11_copied_151 : decode cX11_copied 151 = .ok (.iaload, 1) := by decide +kernel
theorem dX11_copied_152 : decode cX11_copied 152 = .ok (.invokevirtual 223, 3) := by decide +kernel
theorem dX11_copied_155 : decode cX11_copied 155 = .ok (.if_icmp .eq 29, 3) := by decide +kernel
theorem dX11_copied_158 : decode cX11_copied 158 = .ok (.aload_n 0, 1) := by decide +kernel
theorem dX11_copied_159 : decode cX11_copied 159 = .ok (.getfield 101, 3) := by decide +kernel
theorem dX11_copied_162 : decode cX11_copied 162 = .ok (.iload_n 2, 1) := by decide +kernel
theorem dX11_copied_163 : decode cX11_copied 163 = .ok (.aload_n 0, 1) := by decide +kernel
theorem dX11_copied_164 : decode cX11_copied 164 = .ok (.iconst 2, 1) := by decide +kernel
theorem dX11_copied_165 : decode cX11_copied 165 = .ok (.iload_n 3, 1) := by decide +kernel
theorem dX11_copied_166 : decode cX11_copied 166 = .ok (.iload 4, 2) := by decide +kernel
theorem dX11_copied_168 : decode cX11_copied 168 = .ok (.invokevirtual 216, 3) := by decide +kernel
theorem dX11_copied_171 : decode cX11_copied 171 = .ok (.iastore, 1) := by decide +kernel
theorem dX11_copied_172 : decode cX11_copied 172 = .ok (.aload_n 0, 1) := by decide +kernel
theorem dX11_copied_173 : decode cX11_copied 173 = .ok (.getfield 98, 3) := by decide +kernel
theorem dX11_copied_176 : decode cX11_copied 176 = .ok (.aload_n 0, 1) := by decide +kernel
theorem dX11_copied_177 : decode cX11_copied 177 = .ok (.getfield 101, 3) := by decide +kernel
theorem dX11_copied_180 : decode cX11_copied 180 = .ok (.iload_n 2, 1) := by decide +kernel
theorem dX11_copied_181 : decode cX11_copied 181 = .ok (.iaload, 1) := by decide +kernel
theorem dX11_copied_182 : decode cX11_copied 182 = .ok (.iconst 0, 1) := by decide +kernel
theorem dX11_copied_183 : decode cX11_copied 183 = .ok (.iastore, 1) := by decide +kernel
theorem dX11_copied_184 : decode cX11_copied 184 = .ok (.goto (-169), 3) := by decide +kernel
theorem dX11_copied_187 : decode cX11_copied 187 = .ok (.aload_n 0, 1) := by decide +kernel
theorem dX11_copied_188 : decode cX11_copied 188 = .ok (.getfield 101, 3) := by decide +kernel
theorem dX11_copied_191 : decode cX11_copied 191 = .ok (.aload_n 0, 1) := by decide +kernel
theorem dX11_copied_192 : decode cX11_copied 192 = .ok (.iload_n 1, 1) := by decide +kernel
theorem dX11_copied_193 : decode cX11_copied 193 = .ok (.invokevirtual 223, 3) := by decide +kernel
theorem dX11_copied_196 : decode cX11_copied 196 = .ok (.iaload, 1) := by decide +kernel
theorem dX11_copied_197 : decode cX11_copied 197 = .ok (.ireturn, 1) := by decide +kernel
theorem dX11_pairs_0 : decode cX11_pairs 0 = .ok (.aload_n 0, 1) := by decide +kernel
theorem dX11_pairs_1 : decode cX11_pairs 1 = .ok (.getfield 110, 3) := by decide +kernel
theorem dX11_pairs_4 : decode cX11_pairs 4 = .ok (.iload_n 1, 1) := by decide +kernel
theorem dX11_pairs_5 : decode cX11_pairs 5 = .ok (.iload_n 2, 1) := by decide +kernel
theorem dX11_pairs_6 : decode cX11_pairs 6 = .ok (.iastore, 1) := by decide +kernel
theorem dX11_pairs_7 : decode cX11_pairs 7 = .ok (.aload_n 0, 1) := by decide +kernel
theorem dX11_pairs_8 : decode cX11_pairs 8 = .ok (.getfield 113, 3) := by decide +kernel
theorem dX11_pairs_11 : decode cX11_pairs 11 = .ok (.iload_n 1, 1) := by decide +kernel
theorem dX11_pairs_12 : decode cX11_pairs 12 = .ok (.iload_n 3, 1) := by decide +kernel
theorem dX11_pairs_13 : decode cX11_pairs 13 = .ok (.iastore, 1) := by decide +kernel
theorem dX11_pairs_14 : decode cX11_pairs 14 = .ok (.aload_n 0, 1) := by decide +kernel
theorem dX11_pairs_15 : decode cX11_pairs 15 = .ok (.getfield 116, 3) := by decide +kernel
theorem dX11_pairs_18 : decode cX11_pairs 18 = .ok (.iload_n 1, 1) := by decide +kernel
theorem dX11_pairs_19 : decode cX11_pairs 19 = .ok (.iload 4, 2) := by decide +kernel
theorem dX11_pairs_21 : decode cX11_pairs 21 = .ok (.iastore, 1) := by decide +kernel
theorem dX11_pairs_22 : decode cX11_pairs 22 = .ok (.return_, 1) := by decide +kernel
theorem dX11_fails_0 : decode cX11_fails 0 = .ok (.aload_n 0, 1) := by decide +kernel
theorem dX11_fails_1 : decode cX11_fails 1 = .ok (.iload_n 1, 1) := by decide +kernel
theorem dX11_fails_2 : decode cX11_fails 2 = .ok (.putfield 242, 3) := by decide +kernel
theorem dX11_fails_5 : decode cX11_fails 5 = .ok (.aload_n 0, 1) := by decide +kernel
theorem dX11_fails_6 : decode cX11_fails 6 = .ok (.iload_n 2, 1) := by decide +kernel
theorem dX11_fails_7 : decode cX11_fails 7 = .ok (.putfield 245, 3) := by decide +kernel
theorem dX11_fails_10 : decode cX11_fails 10 = .ok (.aload_n 0, 1) := by decide +kernel
theorem dX11_fails_11 : decode cX11_fails 11 = .ok (.iload_n 3, 1) := by decide +kernel
theorem dX11_fails_12 : decode cX11_fails 12 = .ok (.putfield 248, 3) := by decide +kernel
theorem dX11_fails_15 : decode cX11_fails 15 = .ok (.iload_n 1, 1) := by decide +kernel
theorem dX11_fails_16 : decode cX11_fails 16 = .ok (.ireturn, 1) := by decide +kernel
theorem dX11_fits_0 : decode cX11_fits 0 = .ok (.iconst 1, 1) := by decide +kernel
theorem dX11_fits_1 : decode cX11_fits 1 = .ok (.istore_n 3, 1) := by decide +kernel
theorem dX11_fits_2 : decode cX11_fits 2 = .ok (.aload_n 0, 1) := by decide +kernel
theorem dX11_fits_3 : decode cX11_fits 3 = .ok (.iconst 0, 1) := by decide +kernel
theorem dX11_fits_4 : decode cX11_fits 4 = .ok (.iload_n 1, 1) := by decide +kernel
theorem dX11_fits_5 : decode cX11_fits 5 = .ok (.iload_n 2, 1) := by decide +kernel
theorem dX11_fits_6 : decode cX11_fits 6 = .ok (.iconst 0, 1) := by decide +kernel
theorem dX11_fits_7 : decode cX11_fits 7 = .ok (.invokevirtual 251, 3) := by decide +kernel
theorem dX11_fits_10 : decode cX11_fits 10 = .ok (.iload_n 3, 1) := by decide +kernel
theorem dX11_fits_11 : decode cX11_fits 11 = .ok (.ifCond .le 262, 3) := by decide +kernel
theorem dX11_fits_14 : decode cX11_fits 14 = .ok (.iinc 3 (-1), 3) := by decide +kernel
theorem dX11_fits_17 : decode cX11_fits 17 = .ok (.aload_n 0, 1) := by decide +kernel
theorem dX11_fits_18 : decode cX11_fits 18 = .ok (.aload_n 0, 1) := by decide +kernel
theorem dX11_fits_19 : decode cX11_fits 19 = .ok (.getfield 110, 3) := by decide +kernel
theorem dX11_fits_22 : decode cX11_fits 22 = .ok (.iload_n 3, 1) := by decide +kernel
theorem dX11_fits_23 : decode cX11_fits 23 = .ok (.iaload, 1) := by decide +kernel
theorem dX11_fits_24 : decode cX11_fits 24 = .ok (.invokevirtual 223, 3) := by decide +kernel
theorem dX11_fits_27 : decode cX11_fits 27 = .ok (.istore 4, 2) := by decide +kernel
theorem dX11_fits_29 : decode cX11_fits 29 = .ok (.aload_n 0, 1) := by decide +kernel
theorem dX11_fits_30 : decode cX11_fits 30 = .ok (.aload_n 0, 1) := by decide +kernel
theorem dX11_fits_31 : decode cX11_fits 31 = .ok (.getfield 113, 3) := by decide +kernel
theorem dX11_fits_34 : decode cX11_fits 34 = .ok (.iload_n 3, 1) := by decide +kernel
theorem dX11_fits_35 : decode cX11_fits 35 = .ok (.iaload, 1) := by decide +kernel
theorem dX11_fits_36 : decode cX11_fits 36 = .ok (.invokevirtual 223, 3) := by decide +kernel
theorem dX11_fits_39 : decode cX11_fits 39 = .ok (.istore 5, 2) := by decide +kernel
theorem dX11_fits_41 : decode cX11_fits 41 = .ok (.iload 4, 2) := by decide +kernel
theorem dX11_fits_43 : decode cX11_fits 43 = .ok (.iload 5, 2) := by decide +kernel
theorem dX11_fits_45 : decode cX11_fits 45 = .ok (.if_icmp .ne 6, 3) := by decide +kernel
theorem dX11_fits_48 : decode cX11_fits 48 = .ok (.goto (-38), 3) := by decide +kernel
theorem dX11_fits_51 : decode cX11_fits 51 = .ok (.aload_n 0, 1) := by decide +kernel
theorem dX11_fits_52 : decode cX11_fits 52 = .ok (.getfield 116, 3) := by decide +kernel
theorem dX11_fits_55 : decode cX11_fits 55 = .ok (.iload_n 3, 1) := by decide +kernel
theorem dX11_fits_56 : decode cX11_fits 56 = .ok (.iaload, 1) := by decide +kernel
theorem dX11_fits_57 : decode cX11_fits 57 = .ok (.iconst 1, 1) := by decide +kernel
theorem dX11_fits_58 : decode cX11_fits 58 = .ok (.if_icmp .ne 15, 3) := by decide +kernel
theorem dX11_fits_61 : decode cX11_fits 61 = .ok (.aload_n 0, 1) := by decide +kernel
theorem dX11_fits_62 : decode cX11_fits 62 = .ok (.getfield 92, 3) := by decide +kernel
theorem dX11_fits_65 : decode cX11_fits 65 = .ok (.iload 5, 2) := by decide +kernel
theorem dX11_fits_67 : decode cX11_fits 67 = .ok (.iload 4, 2) := by decide +kernel
theorem dX11_fits_69 : decode cX11_fits 69 = .ok (.iastore, 1) := by decide +kernel
theorem dX11_fits_70 : decode cX11_fits 70 = .ok (.goto (-60), 3) := by decide +kernel
theorem dX11_fits_73 : decode cX11_fits 73 = .ok (.aload_n 0, 1) := by decide +kernel
theorem dX11_fits_74 : decode cX11_fits 74 = .ok (.getfield 83, 3) := by decide +kernel
theorem dX11_fits_77 : decode cX11_fits 77 = .ok (.iload 4, 2) := by decide +kernel
theorem dX11_fits_79 : decode cX11_fits 79 = .ok (.iaload, 1) := by decide +kernel
theorem dX11_fits_80 : decode cX11_fits 80 = .ok (.iconst 3, 1) := by decide +kernel
theorem dX11_fits_81 : decode cX11_fits 81 = .ok (.if_icmp .eq 14, 3) := by decide +kernel
theorem dX11_fits_84 : decode cX11_fits 84 = .ok (.aload_n 0, 1) := by decide +kernel
theorem dX11_fits_85 : decode cX11_fits 85 = .ok (.getfield 83, 3) := by decide +kernel
theorem dX11_fits_88 : decode cX11_fits 88 = .ok (.iload 5, 2) := by decide +kernel
theorem dX11_fits_90 : decode cX11_fits 90 = .ok (.iaload, 1) := by decide +kernel
theorem dX11_fits_91 : decode cX11_fits 91 = .ok (.iconst 3, 1) := by decide +kernel
theorem dX11_fits_92 : decode cX11_fits 92 = .ok (.if_icmp .ne 70, 3) := by decide +kernel
theorem dX11_fits_95 : decode cX11_fits 95 = .ok (.aload_n 0, 1) := by decide +kernel
theorem dX11_fits_96 : decode cX11_fits 96 = .ok (.getfield 83, 3) := by decide +kernel
theorem dX11_fits_99 : decode cX11_fits 99 = .ok (.iload 4, 2) := by decide +kernel
theorem dX11_fits_101 : decode cX11_fits 101 = .ok (.iaload, 1) := by decide +kernel
theorem dX11_fits_102 : decode cX11_fits 102 = .ok (.iconst 3, 1) := by decide +kernel
theorem dX11_fits_103 : decode cX11_fits 103 = .ok (.if_icmp .ne 8, 3) := by decide +kernel
theorem dX11_fits_106 : decode cX11_fits 106 = .ok (.iload 4, 2) := by decide +kernel
theorem dX11_fits_108 : decode cX11_fits 108 = .ok (.goto 5, 3) := by decide +kernel
theorem dX11_fits_111 : decode cX11_fits 111 = .ok (.iload 5, 2) := by decide +kernel
theorem dX11_fits_113 : decode cX11_fits 113 = .ok (.istore 6, 2) := by decide +kernel
theorem dX11_fits_115 : decode cX11_fits 115 = .ok (.iload 6, 2) := by decide +kernel
theorem dX11_fits_117 : decode cX11_fits 117 = .ok (.iload 4, 2) := by decide +kernel
theorem dX11_fits_119 : decode cX11_fits 119 = .ok (.if_icmp .ne 8, 3) := by decide +kernel
theorem dX11_fits_122 : decode cX11_fits 122 = .ok (.iload 5, 2) := by decide +kernel
theorem dX11_fits_124 : decode cX11_fits 124 = .ok (.goto 5, 3) := by decide +kernel
theorem dX11_fits_127 : decode cX11_fits 127 = .ok (.iload 4, 2) := by decide +kernel
theorem dX11_fits_129 : decode cX11_fits 129 = .ok (.istore 7, 2) := by decide +kernel
theorem dX11_fits_131 : decode cX11_fits 131 = .ok (.aload_n 0, 1) := by decide +kernel
theorem dX11_fits_132 : decode cX11_fits 132 = .ok (.iload 7, 2) := by decide +kernel
theorem dX11_fits_134 : decode cX11_fits 134 = .ok (.iload 6, 2) := by decide +kernel
theorem dX11_fits_136 : decode cX11_fits 136 = .ok (.invokevirtual 255, 3) := by decide +kernel
theorem dX11_fits_139 : decode cX11_fits 139 = .ok (.ifCond .eq 11, 3) := by decide +kernel
theorem dX11_fits_142 : decode cX11_fits 142 = .ok (.aload_n 0, 1) := by decide +kernel
theorem dX11_fits_143 : decode cX11_fits 143 = .ok (.iconst 5, 1) := by decide +kernel
theorem dX11_fits_144 : decode cX11_fits 144 = .ok (.iconst (-1), 1) := by decide +kernel
theorem dX11_fits_145 : decode cX11_fits 145 = .ok (.iconst (-1), 1) := by decide +kernel
theorem dX11_fits_146 : decode cX11_fits 146 = .ok (.invokevirtual 259, 3) := by decide +kernel
theorem dX11_fits_149 : decode cX11_fits 149 = .ok (.ireturn, 1) := by decide +kernel
theorem dX11_fits_150 : decode cX11_fits 150 = .ok (.aload_n 0, 1) := by decide +kernel
theorem dX11_fits_151 : decode cX11_fits 151 = .ok (.getfield 92, 3) := by decide +kernel
theorem dX11_fits_154 : decode cX11_fits 154 = .ok (.iload 6, 2) := by decide +kernel
theorem dX11_fits_156 : decode cX11_fits 156 = .ok (.iload 7, 2) := by decide +kernel
theorem dX11_fits_158 : decode cX11_fits 158 = .ok (.iastore, 1) := by decide +kernel
theorem dX11_fits_159 : decode cX11_fits 159 = .ok (.goto (-149), 3) := by decide +kernel
theorem dX11_fits_162 : decode cX11_fits 162 = .ok (.aload_n 0, 1) := by decide +kernel
theorem dX11_fits_163 : decode cX11_fits 163 = .ok (.getfield 83, 3) := by decide +kernel
theorem dX11_fits_166 : decode cX11_fits 166 = .ok (.iload 4, 2) := by decide +kernel
theorem dX11_fits_168 : decode cX11_fits 168 = .ok (.iaload, 1) := by decide +kernel
theorem dX11_fits_169 : decode cX11_fits 169 = .ok (.aload_n 0, 1) := by decide +kernel
theorem dX11_fits_170 : decode cX11_fits 170 = .ok (.getfield 83, 3) := by decide +kernel
theorem dX11_fits_173 : decode cX11_fits 173 = .ok (.iload 5, 2) := by decide +kernel
theorem dX11_fits_175 : decode cX11_fits 175 = .ok (.iaload, 1) := by decide +kernel
theorem dX11_fits_176 : decode cX11_fits 176 = .ok (.if_icmp .eq 23, 3) := by decide +kernel
theorem dX11_fits_179 : decode cX11_fits 179 = .ok (.aload_n 0, 1) := by decide +kernel
theorem dX11_fits_180 : decode cX11_fits 180 = .ok (.iconst 4, 1) := by decide +kernel
theorem dX11_fits_181 : decode cX11_fits 181 = .ok (.aload_n 0, 1) := by decide +kernel
theorem dX11_fits_182 : decode cX11_fits 182 = .ok (.getfield 83, 3) := by decide +kernel
theorem dX11_fits_185 : decode cX11_fits 185 = .ok (.iload 4, 2) := by decide +kernel
theorem dX11_fits_187 : decode cX11_fits 187 = .ok (.iaload, 1) := by decide +kernel
theorem dX11_fits_188 : decode cX11_fits 188 = .ok (.aload_n 0, 1) := by decide +kernel
theorem dX11_fits_189 : decode cX11_fits 189 = .ok (.getfield 83, 3) := by decide +kernel
theorem dX11_fits_192 : decode cX11_fits 192 = .ok (.iload 5, 2) := by decide +kernel
theorem dX11_fits_194 : decode cX11_fits 194 = .ok (.iaload, 1) := by decide +kernel
theorem dX11_fits_195 : decode cX11_fits 195 = .ok (.invokevirtual 259, 3) := by decide +kernel
theorem dX11_fits_198 : decode cX11_fits 198 = .ok (.ireturn, 1) := by decide +kernel
theorem dX11_fits_199 : decode cX11_fits 199 = .ok (.aload_n 0, 1) := by decide +kernel
theorem dX11_fits_200 : decode cX11_fits 200 = .ok (.getfield 83, 3) := by decide +kernel
theorem dX11_fits_203 : decode cX11_fits 203 = .ok (.iload 4, 2) := by decide +kernel
theorem dX11_fits_205 : decode cX11_fits 205 = .ok (.iaload, 1) := by decide +kernel
theorem dX11_fits_206 : decode cX11_fits 206 = .ok (.iconst 2, 1) := by decide +kernel
theorem dX11_fits_207 : decode cX11_fits 207 = .ok (.if_icmp .eq 6, 3) := by decide +kernel
theorem dX11_fits_210 : decode cX11_fits 210 = .ok (.goto (-200), 3) := by decide +kernel
theorem dX11_fits_213 : decode cX11_fits 213 = .ok (.aload_n 0, 1) := by decide +kernel
theorem dX11_fits_214 : decode cX11_fits 214 = .ok (.iload_n 3, 1) := by decide +kernel
theorem dX11_fits_215 : decode cX11_fits 215 = .ok (.iload 4, 2) := by decide +kernel
theorem dX11_fits_217 : decode cX11_fits 217 = .ok (.iload 5, 2) := by decide +kernel
theorem dX11_fits_219 : decode cX11_fits 219 = .ok (.iconst 1, 1) := by decide +kernel
theorem dX11_fits_220 : decode cX11_fits 220 = .ok (.invokevirtual 251, 3) := by decide +kernel
theorem dX11_fits_223 : decode cX11_fits 223 = .ok (.aload_n 0, 1) := by decide +kernel
theorem dX11_fits_224 : decode cX11_fits 224 = .ok (.iload_n 3, 1) := by decide +kernel
theorem dX11_fits_225 : decode cX11_fits 225 = .ok (.iconst 1, 1) := by decide +kernel
theorem dX11_fits_226 : decode cX11_fits 226 = .ok (.iadd, 1) := by decide +kernel
theorem dX11_fits_227 : decode cX11_fits 227 = .ok (.aload_n 0, 1) := by decide +kernel
theorem dX11_fits_228 : decode cX11_fits 228 = .ok (.getfield 89, 3) := by decide +kernel
theorem dX11_fits_231 : decode cX11_fits 231 = .ok (.iload 4, 2) := by decide +kernel
theorem dX11_fits_233 : decode cX11_fits 233 = .ok (.iaload, 1) := by decide +kernel
theorem dX11_fits_234 : decode cX11_fits 234 = .ok (.aload_n 0, 1) := by decide +kernel
theorem dX11_fits_235 : decode cX11_fits 235 = .ok (.getfield 89, 3) := by decide +kernel
theorem dX11_fits_238 : decode cX11_fits 238 = .ok (.iload 5, 2) := by decide +kernel
theorem dX11_fits_240 : decode cX11_fits 240 = .ok (.iaload, 1) := by decide +kernel
theorem dX11_fits_241 : decode cX11_fits 241 = .ok (.iconst 0, 1) := by decide +kernel
theorem dX11_fits_242 : decode cX11_fits 242 = .ok (.invokevirtual 251, 3) := by decide +kernel
theorem dX11_fits_245 : decode cX11_fits 245 = .ok (.aload_n 0, 1) := by decide +kernel
theorem dX11_fits_246 : decode cX11_fits 246 = .ok (.iload_n 3, 1) := by decide +kernel
theorem dX11_fits_247 : decode cX11_fits 247 = .ok (.iconst 2, 1) := by decide +kernel
theorem dX11_fits_248 : decode cX11_fits 248 = .ok (.iadd, 1) := by decide +kernel
theorem dX11_fits_249 : decode cX11_fits 249 = .ok (.aload_n 0, 1) := by decide +kernel
theorem dX11_fits_250 : decode cX11_fits 250 = .ok (.getfield 86, 3) := by decide +kernel
theorem dX11_fits_253 : decode cX11_fits 253 = .ok (.iload 4, 2) := by decide +kernel
theorem dX11_fits_255 : decode cX11_fits 255 = .ok (.iaload, 1) := by decide +kernel
theorem dX11_fits_256 : decode cX11_fits 256 = .ok (.aload_n 0, 1) := by decide +kernel
theorem dX11_fits_257 : decode cX11_fits 257 = .ok (.getfield 86, 3) := by decide +kernel
theorem dX11_fits_260 : decode cX11_fits 260 = .ok (.iload 5, 2) := by decide +kernel
theorem dX11_fits_262 : decode cX11_fits 262 = .ok (.iaload, 1) := by decide +kernel
theorem dX11_fits_263 : decode cX11_fits 263 = .ok (.iconst 0, 1) := by decide +kernel
theorem dX11_fits_264 : decode cX11_fits 264 = .ok (.invokevirtual 251, 3) := by decide +kernel
theorem dX11_fits_267 : decode cX11_fits 267 = .ok (.iinc 3 3, 3) := by decide +kernel
theorem dX11_fits_270 : decode cX11_fits 270 = .ok (.goto (-260), 3) := by decide +kernel
theorem dX11_fits_273 : decode cX11_fits 273 = .ok (.iconst 0, 1) := by decide +kernel
theorem dX11_fits_274 : decode cX11_fits 274 = .ok (.ireturn, 1) := by decide +kernel
theorem dX11_writesRow_0 : decode cX11_writesRow 0 = .ok (.aload_n 0, 1) := by decide +kernel
theorem dX11_writesRow_1 : decode cX11_writesRow 1 = .ok (.dup, 1) := by decide +kernel
theorem dX11_writesRow_2 : decode cX11_writesRow 2 = .ok (.getfield 226, 3) := by decide +kernel
theorem dX11_writesRow_5 : decode cX11_writesRow 5 = .ok (.iconst 1, 1) := by decide +kernel
theorem dX11_writesRow_6 : decode cX11_writesRow 6 = .ok (.iadd, 1) := by decide +kernel
theorem dX11_writesRow_7 : decode cX11_writesRow 7 = .ok (.putfield 226, 3) := by decide +kernel
theorem dX11_writesRow_10 : decode cX11_writesRow 10 = .ok (.aload_n 0, 1) := by decide +kernel
theorem dX11_writesRow_11 : decode cX11_writesRow 11 = .ok (.iconst 0, 1) := by decide +kernel
theorem dX11_writesRow_12 : decode cX11_writesRow 12 = .ok (.putfield 262, 3) := by decide +kernel
theorem dX11_writesRow_15 : decode cX11_writesRow 15 = .ok (.aload_n 0, 1) := by decide +kernel
theorem dX11_writesRow_16 : decode cX11_writesRow 16 = .ok (.iconst 0, 1) := by decide +kernel
theorem dX11_writesRow_17 : decode cX11_writesRow 17 = .ok (.putfield 265, 3) := by decide +kernel
theorem dX11_writesRow_20 : decode cX11_writesRow 20 = .ok (.aload_n 0, 1) := by decide +kernel
theorem dX11_writesRow_21 : decode cX11_writesRow 21 = .ok (.iload_n 1, 1) := by decide +kernel
theorem dX11_writesRow_22 : decode cX11_writesRow 22 = .ok (.invokevirtual 229, 3) := by decide +kernel
theorem dX11_writesRow_25 : decode cX11_writesRow 25 = .ok (.aload_n 0, 1) := by decide +kernel
theorem dX11_writesRow_26 : decode cX11_writesRow 26 = .ok (.getfield 220, 3) := by decide +kernel
theorem dX11_writesRow_29 : decode cX11_writesRow 29 = .ok (.ifCond .le 184, 3) := by decide +kernel
theorem dX11_writesRow_32 : decode cX11_writesRow 32 = .ok (.aload_n 0, 1) := by decide +kernel
theorem dX11_writesRow_33 : decode cX11_writesRow 33 = .ok (.dup, 1) := by decide +kernel
theorem dX11_writesRow_34 : decode cX11_writesRow 34 = .ok (.getfield 220, 3) := by decide +kernel
theorem dX11_writesRow_37 : decode cX11_writesRow 37 = .ok (.iconst 1, 1) := by decide +kernel
theorem dX11_writesRow_38 : decode cX11_writesRow 38 = .ok (.isub, 1) := by decide +kernel
theorem dX11_writesRow_39 : decode cX11_writesRow 39 = .ok (.putfield 220, 3) := by decide +kernel
theorem dX11_writesRow_42 : decode cX11_writesRow 42 = .ok (.aload_n 0, 1) := by decide +kernel
theorem dX11_writesRow_43 : decode cX11_writesRow 43 = .ok (.aload_n 0, 1) := by decide +kernel
theorem dX11_writesRow_44 : decode cX11_writesRow 44 = .ok (.getfield 107, 3) := by decide +kernel
theorem dX11_writesRow_47 : decode cX11_writesRow 47 = .ok (.aload_n 0, 1) := by decide +kernel
theorem dX11_writesRow_48 : decode cX11_writesRow 48 = .ok (.getfield 220, 3) := by decide +kernel
theorem dX11_writesRow_51 : decode cX11_writesRow 51 = .ok (.iaload, 1) := by decide +kernel
theorem dX11_writesRow_52 : decode cX11_writesRow 52 = .ok (.invokevirtual 223, 3) := by decide +kernel
theorem dX11_writesRow_55 : decode cX11_writesRow 55 = .ok (.istore_n 2, 1) := by decide +kernel
theorem dX11_writesRow_56 : decode cX11_writesRow 56 = .ok (.aload_n 0, 1) := by decide +kernel
theorem dX11_writesRow_57 : decode cX11_writesRow 57 = .ok (.getfield 83, 3) := by decide +kernel
theorem dX11_writesRow_60 : decode cX11_writesRow 60 = .ok (.iload_n 2, 1) := by decide +kernel
theorem dX11_writesRow_61 : decode cX11_writesRow 61 = .ok (.iaload, 1) := by decide +kernel
theorem dX11_writesRow_62 : decode cX11_writesRow 62 = .ok (.iconst 3, 1) := by decide +kernel
theorem dX11_writesRow_63 : decode cX11_writesRow 63 = .ok (.if_icmp .ne 48, 3) := by decide +kernel
theorem dX11_writesRow_66 : decode cX11_writesRow 66 = .ok (.aload_n 0, 1) := by decide +kernel
theorem dX11_writesRow_67 : decode cX11_writesRow 67 = .ok (.getfield 98, 3) := by decide +kernel
theorem dX11_writesRow_70 : decode cX11_writesRow 70 = .ok (.iload_n 2, 1) := by decide +kernel
theorem dX11_writesRow_71 : decode cX11_writesRow 71 = .ok (.iaload, 1) := by decide +kernel
theorem dX11_writesRow_72 : decode cX11_writesRow 72 = .ok (.aload_n 0, 1) := by decide +kernel
theorem dX11_writesRow_73 : decode cX11_writesRow 73 = .ok (.getfield 226, 3) := by decide +kernel
theorem dX11_writesRow_76 : decode cX11_writesRow 76 = .ok (.if_icmp .eq 35, 3) := by decide +kernel
theorem dX11_writesRow_79 : decode cX11_writesRow 79 = .ok (.aload_n 0, 1) := by decide +kernel
theorem dX11_writesRow_80 : decode cX11_writesRow 80 = .ok (.getfield 98, 3) := by decide +kernel
theorem dX11_writesRow_83 : decode cX11_writesRow 83 = .ok (.iload_n 2, 1) := by decide +kernel
theorem dX11_writesRow_84 : decode cX11_writesRow 84 = .ok (.aload_n 0, 1) := by decide +kernel
theorem dX11_writesRow_85 : decode cX11_writesRow 85 = .ok (.getfield 226, 3) := by decide +kernel
theorem dX11_writesRow_88 : decode cX11_writesRow 88 = .ok (.iastore, 1) := by decide +kernel
theorem dX11_writesRow_89 : decode cX11_writesRow 89 = .ok (.aload_n 0, 1) := by decide +kernel
theorem dX11_writesRow_90 : decode cX11_writesRow 90 = .ok (.getfield 101, 3) := by decide +kernel
theorem dX11_writesRow_93 : decode cX11_writesRow 93 = .ok (.iload_n 2, 1) := by decide +kernel
theorem dX11_writesRow_94 : decode cX11_writesRow 94 = .ok (.iconst 3, 1) := by decide +kernel
theorem dX11_writesRow_95 : decode cX11_writesRow 95 = .ok (.aload_n 0, 1) := by decide +kernel
theorem dX11_writesRow_96 : decode cX11_writesRow 96 = .ok (.getfield 265, 3) := by decide +kernel
theorem dX11_writesRow_99 : decode cX11_writesRow 99 = .ok (.iadd, 1) := by decide +kernel
theorem dX11_writesRow_100 : decode cX11_writesRow 100 = .ok (.iastore, 1) := by decide +kernel
theorem dX11_writesRow_101 : decode cX11_writesRow 101 = .ok (.aload_n 0, 1) := by decide +kernel
theorem dX11_writesRow_102 : decode cX11_writesRow 102 = .ok (.dup, 1) := by decide +kernel
theorem dX11_writesRow_103 : decode cX11_writesRow 103 = .ok (.getfield 265, 3) := by decide +kernel
theorem dX11_writesRow_106 : decode cX11_writesRow 106 = .ok (.iconst 1, 1) := by decide +kernel
theorem dX11_writesRow_107 : decode cX11_writesRow 107 = .ok (.iadd, 1) := by decide +kernel
theorem dX11_writesRow_108 : decode cX11_writesRow 108 = .ok (.putfield 265, 3) := by decide +kernel
theorem dX11_writesRow_111 : decode cX11_writesRow 111 = .ok (.aload_n 0, 1) := by decide +kernel
theorem dX11_writesRow_112 : decode cX11_writesRow 112 = .ok (.getfield 119, 3) := by decide +kernel
theorem dX11_writesRow_115 : decode cX11_writesRow 115 = .ok (.aload_n 0, 1) := by decide +kernel
theorem dX11_writesRow_116 : decode cX11_writesRow 116 = .ok (.getfield 262, 3) := by decide +kernel
theorem dX11_writesRow_119 : decode cX11_writesRow 119 = .ok (.aload_n 0, 1) := by decide +kernel
theorem dX11_writesRow_120 : decode cX11_writesRow 120 = .ok (.getfield 83, 3) := by decide +kernel
theorem dX11_writesRow_123 : decode cX11_writesRow 123 = .ok (.iload_n 2, 1) := by decide +kernel
theorem dX11_writesRow_124 : decode cX11_writesRow 124 = .ok (.iaload, 1) := by decide +kernel
theorem dX11_writesRow_125 : decode cX11_writesRow 125 = .ok (.iconst 3, 1) := by decide +kernel
theorem dX11_writesRow_126 : decode cX11_writesRow 126 = .ok (.if_icmp .ne 12, 3) := by decide +kernel
theorem dX11_writesRow_129 : decode cX11_writesRow 129 = .ok (.aload_n 0, 1) := by decide +kernel
theorem dX11_writesRow_130 : decode cX11_writesRow 130 = .ok (.getfield 101, 3) := by decide +kernel
theorem dX11_writesRow_133 : decode cX11_writesRow 133 = .ok (.iload_n 2, 1) := by decide +kernel
theorem dX11_writesRow_134 : decode cX11_writesRow 134 = .ok (.iaload, 1) := by decide +kernel
theorem dX11_writesRow_135 : decode cX11_writesRow 135 = .ok (.goto 9, 3) := by decide +kernel
theorem dX11_writesRow_138 : decode cX11_writesRow 138 = .ok (.aload_n 0, 1) := by decide +kernel
theorem dX11_writesRow_139 : decode cX11_writesRow 139 = .ok (.getfield 83, 3) := by decide +kernel
theorem dX11_writesRow_142 : decode cX11_writesRow 142 = .ok (.iload_n 2, 1) := by decide +kernel
theorem dX11_writesRow_143 : decode cX11_writesRow 143 = .ok (.iaload, 1) := by decide +kernel
theorem dX11_writesRow_144 : decode cX11_writesRow 144 = .ok (.iastore, 1) := by decide +kernel
theorem dX11_writesRow_145 : decode cX11_writesRow 145 = .ok (.aload_n 0, 1) := by decide +kernel
theorem dX11_writesRow_146 : decode cX11_writesRow 146 = .ok (.dup, 1) := by decide +kernel
theorem dX11_writesRow_147 : decode cX11_writesRow 147 = .ok (.getfield 262, 3) := by decide +kernel
theorem dX11_writesRow_150 : decode cX11_writesRow 150 = .ok (.iconst 1, 1) := by decide +kernel
theorem dX11_writesRow_151 : decode cX11_writesRow 151 = .ok (.iadd, 1) := by decide +kernel
theorem dX11_writesRow_152 : decode cX11_writesRow 152 = .ok (.putfield 262, 3) := by decide +kernel
theorem dX11_writesRow_155 : decode cX11_writesRow 155 = .ok (.aload_n 0, 1) := by decide +kernel
theorem dX11_writesRow_156 : decode cX11_writesRow 156 = .ok (.getfield 83, 3) := by decide +kernel
theorem dX11_writesRow_159 : decode cX11_writesRow 159 = .ok (.iload_n 2, 1) := by decide +kernel
theorem dX11_writesRow_160 : decode cX11_writesRow 160 = .ok (.iaload, 1) := by decide +kernel
theorem dX11_writesRow_161 : decode cX11_writesRow 161 = .ok (.iconst 2, 1) := by decide +kernel
theorem dX11_writesRow_162 : decode cX11_writesRow 162 = .ok (.if_icmp .eq 6, 3) := by decide +kernel
theorem dX11_writesRow_165 : decode cX11_writesRow 165 = .ok (.goto (-140), 3) := by decide +kernel
theorem dX11_writesRow_168 : decode cX11_writesRow 168 = .ok (.aload_n 0, 1) := by decide +kernel
theorem dX11_writesRow_169 : decode cX11_writesRow 169 = .ok (.getfield 107, 3) := by decide +kernel
theorem dX11_writesRow_172 : decode cX11_writesRow 172 = .ok (.aload_n 0, 1) := by decide +kernel
theorem dX11_writesRow_173 : decode cX11_writesRow 173 = .ok (.getfield 220, 3) := by decide +kernel
theorem dX11_writesRow_176 : decode cX11_writesRow 176 = .ok (.aload_n 0, 1) := by decide +kernel
theorem dX11_writesRow_177 : decode cX11_writesRow 177 = .ok (.getfield 89, 3) := by decide +kernel
theorem dX11_writesRow_180 : decode cX11_writesRow 180 = .ok (.iload_n 2, 1) := by decide +kernel
theorem dX11_writesRow_181 : decode cX11_writesRow 181 = .ok (.iaload, 1) := by decide +kernel
theorem dX11_writesRow_182 : decode cX11_writesRow 182 = .ok (.iastore, 1) := by decide +kernel
theorem dX11_writesRow_183 : decode cX11_writesRow 183 = .ok (.aload_n 0, 1) := by decide +kernel
theorem dX11_writesRow_184 : decode cX11_writesRow 184 = .ok (.getfield 107, 3) := by decide +kernel
theorem dX11_writesRow_187 : decode cX11_writesRow 187 = .ok (.aload_n 0, 1) := by decide +kernel
theorem dX11_writesRow_188 : decode cX11_writesRow 188 = .ok (.getfield 220, 3) := by decide +kernel
theorem dX11_writesRow_191 : decode cX11_writesRow 191 = .ok (.iconst 1, 1) := by decide +kernel
theorem dX11_writesRow_192 : decode cX11_writesRow 192 = .ok (.iadd, 1) := by decide +kernel
theorem dX11_writesRow_193 : decode cX11_writesRow 193 = .ok (.aload_n 0, 1) := by decide +kernel
theorem dX11_writesRow_194 : decode cX11_writesRow 194 = .ok (.getfield 86, 3) := by decide +kernel
theorem dX11_writesRow_197 : decode cX11_writesRow 197 = .ok (.iload_n 2, 1) := by decide +kernel
theorem dX11_writesRow_198 : decode cX11_writesRow 198 = .ok (.iaload, 1) := by decide +kernel
theorem dX11_writesRow_199 : decode cX11_writesRow 199 = .ok (.iastore, 1) := by decide +kernel
theorem dX11_writesRow_200 : decode cX11_writesRow 200 = .ok (.aload_n 0, 1) := by decide +kernel
theorem dX11_writesRow_201 : decode cX11_writesRow 201 = .ok (.dup, 1) := by decide +kernel
theorem dX11_writesRow_202 : decode cX11_writesRow 202 = .ok (.getfield 220, 3) := by decide +kernel
theorem dX11_writesRow_205 : decode cX11_writesRow 205 = .ok (.iconst 2, 1) := by decide +kernel
theorem dX11_writesRow_206 : decode cX11_writesRow 206 = .ok (.iadd, 1) := by decide +kernel
theorem dX11_writesRow_207 : decode cX11_writesRow 207 = .ok (.putfield 220, 3) := by decide +kernel
theorem dX11_writesRow_210 : decode cX11_writesRow 210 = .ok (.goto (-185), 3) := by decide +kernel
theorem dX11_writesRow_213 : decode cX11_writesRow 213 = .ok (.return_, 1) := by decide +kernel
theorem dX11_makes_0 : decode cX11_makes 0 = .ok (.iconst 0, 1) := by decide +kernel
theorem dX11_makes_1 : decode cX11_makes 1 = .ok (.istore 4, 2) := by decide +kernel
theorem dX11_makes_3 : decode cX11_makes 3 = .ok (.iload 4, 2) := by decide +kernel
theorem dX11_makes_5 : decode cX11_makes 5 = .ok (.sipush 210, 3) := by decide +kernel
theorem dX11_makes_8 : decode cX11_makes 8 = .ok (.if_icmp .ge 17, 3) := by decide +kernel
theorem dX11_makes_11 : decode cX11_makes 11 = .ok (.aload_n 0, 1) := by decide +kernel
theorem dX11_makes_12 : decode cX11_makes 12 = .ok (.getfield 128, 3) := by decide +kernel
theorem dX11_makes_15 : decode cX11_makes 15 = .ok (.iload 4, 2) := by decide +kernel
theorem dX11_makes_17 : decode cX11_makes 17 = .ok (.iconst (-1), 1) := by decide +kernel
theorem dX11_makes_18 : decode cX11_makes 18 = .ok (.iastore, 1) := by decide +kernel
theorem dX11_makes_19 : decode cX11_makes 19 = .ok (.iinc 4 1, 3) := by decide +kernel
theorem dX11_makes_22 : decode cX11_makes 22 = .ok (.goto (-19), 3) := by decide +kernel
theorem dX11_makes_25 : decode cX11_makes 25 = .ok (.iconst 0, 1) := by decide +kernel
theorem dX11_makes_26 : decode cX11_makes 26 = .ok (.istore 4, 2) := by decide +kernel
theorem dX11_makes_28 : decode cX11_makes 28 = .ok (.iconst (-1), 1) := by decide +kernel
theorem dX11_makes_29 : decode cX11_makes 29 = .ok (.istore 5, 2) := by decide +kernel
theorem dX11_makes_31 : decode cX11_makes 31 = .ok (.iload_n 3, 1) := by decide +kernel
theorem dX11_makes_32 : decode cX11_makes 32 = .ok (.iconst 1, 1) := by decide +kernel
theorem dX11_makes_33 : decode cX11_makes 33 = .ok (.isub, 1) := by decide +kernel
theorem dX11_makes_34 : decode cX11_makes 34 = .ok (.istore 6, 2) := by decide +kernel
theorem dX11_makes_36 : decode cX11_makes 36 = .ok (.iload 6, 2) := by decide +kernel
theorem dX11_makes_38 : decode cX11_makes 38 = .ok (.ifCond .lt 125, 3) := by decide +kernel
theorem dX11_makes_41 : decode cX11_makes 41 = .ok (.aload_n 1, 1) := by decide +kernel
theorem dX11_makes_42 : decode cX11_makes 42 = .ok (.iload_n 2, 1) := by decide +kernel
theorem dX11_makes_43 : decode cX11_makes 43 = .ok (.iload 6, 2) := by decide +kernel
theorem dX11_makes_45 : decode cX11_makes 45 = .ok (.iadd, 1) := by decide +kernel
theorem dX11_makes_46 : decode cX11_makes 46 = .ok (.iaload, 1) := by decide +kernel
theorem dX11_makes_47 : decode cX11_makes 47 = .ok (.istore 7, 2) := by decide +kernel
theorem dX11_makes_49 : decode cX11_makes 49 = .ok (.iload 7, 2) := by decide +kernel
theorem dX11_makes_51 : decode cX11_makes 51 = .ok (.iconst 3, 1) := by decide +kernel
theorem dX11_makes_52 : decode cX11_makes 52 = .ok (.if_icmp .lt 28, 3) := by decide +kernel
theorem dX11_makes_55 : decode cX11_makes 55 = .ok (.aload_n 0, 1) := by decide +kernel
theorem dX11_makes_56 : decode cX11_makes 56 = .ok (.getfield 128, 3) := by decide +kernel
theorem dX11_makes_59 : decode cX11_makes 59 = .ok (.iload 7, 2) := by decide +kernel
theorem dX11_makes_61 : decode cX11_makes 61 = .ok (.iconst 3, 1) := by decide +kernel
theorem dX11_makes_62 : decode cX11_makes 62 = .ok (.isub, 1) := by decide +kernel
theorem dX11_makes_63 : decode cX11_makes 63 = .ok (.iaload, 1) := by decide +kernel
theorem dX11_makes_64 : decode cX11_makes 64 = .ok (.ifCond .ge 16, 3) := by decide +kernel
theorem dX11_makes_67 : decode cX11_makes 67 = .ok (.aload_n 0, 1) := by decide +kernel
theorem dX11_makes_68 : decode cX11_makes 68 = .ok (.getfield 128, 3) := by decide +kernel
theorem dX11_makes_71 : decode cX11_makes 71 = .ok (.iload 7, 2) := by decide +kernel
theorem dX11_makes_73 : decode cX11_makes 73 = .ok (.iconst 3, 1) := by decide +kernel
theorem dX11_makes_74 : decode cX11_makes 74 = .ok (.isub, 1) := by decide +kernel
theorem dX11_makes_75 : decode cX11_makes 75 = .ok (.aload_n 0, 1) := by decide +kernel
theorem dX11_makes_76 : decode cX11_makes 76 = .ok (.invokevirtual 239, 3) := by decide +kernel
theorem dX11_makes_79 : decode cX11_makes 79 = .ok (.iastore, 1) := by decide +kernel
theorem dX11_makes_80 : decode cX11_makes 80 = .ok (.iload 7, 2) := by decide +kernel
theorem dX11_makes_82 : decode cX11_makes 82 = .ok (.iconst 2, 1) := by decide +kernel
theorem dX11_makes_83 : decode cX11_makes 83 = .ok (.if_icmp .ne 34, 3) := by decide +kernel
theorem dX11_makes_86 : decode cX11_makes 86 = .ok (.aload_n 0, 1) := by decide +kernel
theorem dX11_makes_87 : decode cX11_makes 87 = .ok (.iconst 2, 1) := by decide +kernel
theorem dX11_makes_88 : decode cX11_makes 88 = .ok (.aload_n 0, 1) := by decide +kernel
theorem dX11_makes_89 : decode cX11_makes 89 = .ok (.getfield 134, 3) := by decide +kernel
theorem dX11_makes_92 : decode cX11_makes 92 = .ok (.iload 4, 2) := by decide +kernel
theorem dX11_makes_94 : decode cX11_makes 94 = .ok (.iconst 1, 1) := by decide +kernel
theorem dX11_makes_95 : decode cX11_makes 95 = .ok (.isub, 1) := by decide +kernel
theorem dX11_makes_96 : decode cX11_makes 96 = .ok (.iaload, 1) := by decide +kernel
theorem dX11_makes_97 : decode cX11_makes 97 = .ok (.aload_n 0, 1) := by decide +kernel
theorem dX11_makes_98 : decode cX11_makes 98 = .ok (.getfield 134, 3) := by decide +kernel
theorem dX11_makes_101 : decode cX11_makes 101 = .ok (.iload 4, 2) := by decide +kernel
theorem dX11_makes_103 : decode cX11_makes 103 = .ok (.iconst 2, 1) := by decide +kernel
theorem dX11_makes_104 : decode cX11_makes 104 = .ok (.isub, 1) := by decide +kernel
theorem dX11_makes_105 : decode cX11_makes 105 = .ok (.iaload, 1) := by decide +kernel
theorem dX11_makes_106 : decode cX11_makes 106 = .ok (.invokevirtual 216, 3) := by decide +kernel
theorem dX11_makes_109 : decode cX11_makes 109 = .ok (.istore 5, 2) := by decide +kernel
theorem dX11_makes_111 : decode cX11_makes 111 = .ok (.iinc 4 (-2), 3) := by decide +kernel
theorem dX11_makes_114 : decode cX11_makes 114 = .ok (.goto 31, 3) := by decide +kernel
theorem dX11_makes_117 : decode cX11_makes 117 = .ok (.iload 7, 2) := by decide +kernel
theorem dX11_makes_119 : decode cX11_makes 119 = .ok (.iconst 3, 1) := by decide +kernel
theorem dX11_makes_120 : decode cX11_makes 120 = .ok (.if_icmp .lt 15, 3) := by decide +kernel
theorem dX11_makes_123 : decode cX11_makes 123 = .ok (.aload_n 0, 1) := by decide +kernel
theorem dX11_makes_124 : decode cX11_makes 124 = .ok (.getfield 128, 3) := by decide +kernel
theorem dX11_makes_127 : decode cX11_makes 127 = .ok (.iload 7, 2) := by decide +kernel
theorem dX11_makes_129 : decode cX11_makes 129 = .ok (.iconst 3, 1) := by decide +kernel
theorem dX11_makes_130 : decode cX11_makes 130 = .ok (.isub, 1) := by decide +kernel
theorem dX11_makes_131 : decode cX11_makes 131 = .ok (.iaload, 1) := by decide +kernel
theorem dX11_makes_132 : decode cX11_makes 132 = .ok (.goto 11, 3) := by decide +kernel
theorem dX11_makes_135 : decode cX11_makes 135 = .ok (.aload_n 0, 1) := by decide +kernel
theorem dX11_makes_136 : decode cX11_makes 136 = .ok (.iload 7, 2) := by decide +kernel
theorem dX11_makes_138 : decode cX11_makes 138 = .ok (.iconst (-1), 1) := by decide +kernel
theorem dX11_makes_139 : decode cX11_makes 139 = .ok (.iconst (-1), 1) := by decide +kernel
theorem dX11_makes_140 : decode cX11_makes 140 = .ok (.invokevirtual 216, 3) := by decide +kernel
theorem dX11_makes_143 : decode cX11_makes 143 = .ok (.istore 5, 2) := by decide +kernel
theorem dX11_makes_145 : decode cX11_makes 145 = .ok (.aload_n 0, 1) := by decide +kernel
theorem dX11_makes_146 : decode cX11_makes 146 = .ok (.getfield 134, 3) := by decide +kernel
theorem dX11_makes_149 : decode cX11_makes 149 = .ok (.iload 4, 2) := by decide +kernel
theorem dX11_makes_151 : decode cX11_makes 151 = .ok (.iload 5, 2) := by decide +kernel
theorem dX11_makes_153 : decode cX11_makes 153 = .ok (.iastore, 1) := by decide +kernel
theorem dX11_makes_154 : decode cX11_makes 154 = .ok (.iinc 4 1, 3) := by decide +kernel
theorem dX11_makes_157 : decode cX11_makes 157 = .ok (.iinc 6 (-1), 3) := by decide +kernel
theorem dX11_makes_160 : decode cX11_makes 160 = .ok (.goto (-124), 3) := by decide +kernel
theorem dX11_makes_163 : decode cX11_makes 163 = .ok (.iload 5, 2) := by decide +kernel
theorem dX11_makes_165 : decode cX11_makes 165 = .ok (.ireturn, 1) := by decide +kernel
theorem dX11_goes_0 : decode cX11_goes 0 = .ok (.aload_n 0, 1) := by decide +kernel
theorem dX11_goes_1 : decode cX11_goes 1 = .ok (.getfield 143, 3) := by decide +kernel
theorem dX11_goes_4 : decode cX11_goes 4 = .ok (.aload_n 0, 1) := by decide +kernel
theorem dX11_goes_5 : decode cX11_goes 5 = .ok (.getfield 268, 3) := by decide +kernel
theorem dX11_goes_8 : decode cX11_goes 8 = .ok (.iload_n 1, 1) := by decide +kernel
theorem dX11_goes_9 : decode cX11_goes 9 = .ok (.iastore, 1) := by decide +kernel
theorem dX11_goes_10 : decode cX11_goes 10 = .ok (.aload_n 0, 1) := by decide +kernel
theorem dX11_goes_11 : decode cX11_goes 11 = .ok (.getfield 146, 3) := by decide +kernel
theorem dX11_goes_14 : decode cX11_goes 14 = .ok (.aload_n 0, 1) := by decide +kernel
theorem dX11_goes_15 : decode cX11_goes 15 = .ok (.getfield 268, 3) := by decide +kernel
theorem dX11_goes_18 : decode cX11_goes 18 = .ok (.iload_n 2, 1) := by decide +kernel
theorem dX11_goes_19 : decode cX11_goes 19 = .ok (.iastore, 1) := by decide +kernel
theorem dX11_goes_20 : decode cX11_goes 20 = .ok (.aload_n 0, 1) := by decide +kernel
theorem dX11_goes_21 : decode cX11_goes 21 = .ok (.dup, 1) := by decide +kernel
theorem dX11_goes_22 : decode cX11_goes 22 = .ok (.getfield 268, 3) := by decide +kernel
theorem dX11_goes_25 : decode cX11_goes 25 = .ok (.iconst 1, 1) := by decide +kernel
theorem dX11_goes_26 : decode cX11_goes 26 = .ok (.iadd, 1) := by decide +kernel
theorem dX11_goes_27 : decode cX11_goes 27 = .ok (.putfield 268, 3) := by decide +kernel
theorem dX11_goes_30 : decode cX11_goes 30 = .ok (.return_, 1) := by decide +kernel
theorem dX11_arrow_0 : decode cX11_arrow 0 = .ok (.aload_n 0, 1) := by decide +kernel
theorem dX11_arrow_1 : decode cX11_arrow 1 = .ok (.iconst 2, 1) := by decide +kernel
theorem dX11_arrow_2 : decode cX11_arrow 2 = .ok (.iload_n 1, 1) := by decide +kernel
theorem dX11_arrow_3 : decode cX11_arrow 3 = .ok (.iload_n 2, 1) := by decide +kernel
theorem dX11_arrow_4 : decode cX11_arrow 4 = .ok (.invokevirtual 216, 3) := by decide +kernel
theorem dX11_arrow_7 : decode cX11_arrow 7 = .ok (.ireturn, 1) := by decide +kernel
theorem dX11_signType_0 : decode cX11_signType 0 = .ok (.iload_n 1, 1) := by decide +kernel
theorem dX11_signType_1 : decode cX11_signType 1 = .ok (.bipush 63, 2) := by decide +kernel
theorem dX11_signType_3 : decode cX11_signType 3 = .ok (.if_icmp .ne 10, 3) := by decide +kernel
theorem dX11_signType_6 : decode cX11_signType 6 = .ok (.aload_n 0, 1) := by decide +kernel
theorem dX11_signType_7 : decode cX11_signType 7 = .ok (.invokevirtual 239, 3) := by decide +kernel
theorem dX11_signType_10 : decode cX11_signType 10 = .ok (.goto 10, 3) := by decide +kernel
theorem dX11_signType_13 : decode cX11_signType 13 = .ok (.aload_n 0, 1) := by decide +kernel
theorem dX11_signType_14 : decode cX11_signType 14 = .ok (.iconst 0, 1) := by decide +kernel
theorem dX11_signType_15 : decode cX11_signType 15 = .ok (.iconst (-1), 1) := by decide +kernel
theorem dX11_signType_16 : decode cX11_signType 16 = .ok (.iconst (-1), 1) := by decide +kernel
theorem dX11_signType_17 : decode cX11_signType 17 = .ok (.invokevirtual 216, 3) := by decide +kernel
theorem dX11_signType_20 : decode cX11_signType 20 = .ok (.istore_n 2, 1) := by decide +kernel
theorem dX11_signType_21 : decode cX11_signType 21 = .ok (.iload_n 1, 1) := by decide +kernel
theorem dX11_signType_22 : decode cX11_signType 22 = .ok (.bipush 63, 2) := by decide +kernel
theorem dX11_signType_24 : decode cX11_signType 24 = .ok (.if_icmp .ne 7, 3) := by decide +kernel
theorem dX11_signType_27 : decode cX11_signType 27 = .ok (.iload_n 2, 1) := by decide +kernel
theorem dX11_signType_28 : decode cX11_signType 28 = .ok (.goto 20, 3) := by decide +kernel
theorem dX11_signType_31 : decode cX11_signType 31 = .ok (.aload_n 0, 1) := by decide +kernel
theorem dX11_signType_32 : decode cX11_signType 32 = .ok (.iload_n 1, 1) := by decide +kernel
theorem dX11_signType_33 : decode cX11_signType 33 = .ok (.bipush 43, 2) := by decide +kernel
theorem dX11_signType_35 : decode cX11_signType 35 = .ok (.if_icmp .ne 7, 3) := by decide +kernel
theorem dX11_signType_38 : decode cX11_signType 38 = .ok (.iconst 0, 1) := by decide +kernel
theorem dX11_signType_39 : decode cX11_signType 39 = .ok (.goto 4, 3) := by decide +kernel
theorem dX11_signType_42 : decode cX11_signType 42 = .ok (.iconst 1, 1) := by decide +kernel
theorem dX11_signType_43 : decode cX11_signType 43 = .ok (.iconst (-1), 1) := by decide +kernel
theorem dX11_signType_44 : decode cX11_signType 44 = .ok (.iconst (-1), 1) := by decide +kernel
theorem dX11_signType_45 : decode cX11_signType 45 = .ok (.invokevirtual 216, 3) := by decide +kernel
theorem dX11_signType_48 : decode cX11_signType 48 = .ok (.istore_n 3, 1) := by decide +kernel
theorem dX11_signType_49 : decode cX11_signType 49 = .ok (.aload_n 0, 1) := by decide +kernel
theorem dX11_signType_50 : decode cX11_signType 50 = .ok (.iload_n 1, 1) := by decide +kernel
theorem dX11_signType_51 : decode cX11_signType 51 = .ok (.bipush 63, 2) := by decide +kernel
theorem dX11_signType_53 : decode cX11_signType 53 = .ok (.if_icmp .ne 13, 3) := by decide +kernel
theorem dX11_signType_56 : decode cX11_signType 56 = .ok (.aload_n 0, 1) := by decide +kernel
theorem dX11_signType_57 : decode cX11_signType 57 = .ok (.iconst 1, 1) := by decide +kernel
theorem dX11_signType_58 : decode cX11_signType 58 = .ok (.iconst (-1), 1) := by decide +kernel
theorem dX11_signType_59 : decode cX11_signType 59 = .ok (.iconst (-1), 1) := by decide +kernel
theorem dX11_signType_60 : decode cX11_signType 60 = .ok (.invokevirtual 216, 3) := by decide +kernel
theorem dX11_signType_63 : decode cX11_signType 63 = .ok (.goto 4, 3) := by decide +kernel
theorem dX11_signType_66 : decode cX11_signType 66 = .ok (.iload_n 2, 1) := by decide +kernel
theorem dX11_signType_67 : decode cX11_signType 67 = .ok (.aload_n 0, 1) := by decide +kernel
theorem dX11_signType_68 : decode cX11_signType 68 = .ok (.iload_n 2, 1) := by decide +kernel
theorem dX11_signType_69 : decode cX11_signType 69 = .ok (.iload_n 1, 1) := by decide +kernel
theorem dX11_signType_70 : decode cX11_signType 70 = .ok (.bipush 63, 2) := by decide +kernel
theorem dX11_signType_72 : decode cX11_signType 72 = .ok (.if_icmp .ne 12, 3) := by decide +kernel
theorem dX11_signType_75 : decode cX11_signType 75 = .ok (.aload_n 0, 1) := by decide +kernel
theorem dX11_signType_76 : decode cX11_signType 76 = .ok (.iload_n 2, 1) := by decide +kernel
theorem dX11_signType_77 : decode cX11_signType 77 = .ok (.iload_n 2, 1) := by decide +kernel
theorem dX11_signType_78 : decode cX11_signType 78 = .ok (.invokevirtual 271, 3) := by decide +kernel
theorem dX11_signType_81 : decode cX11_signType 81 = .ok (.goto 4, 3) := by decide +kernel
theorem dX11_signType_84 : decode cX11_signType 84 = .ok (.iload_n 3, 1) := by decide +kernel
theorem dX11_signType_85 : decode cX11_signType 85 = .ok (.invokevirtual 271, 3) := by decide +kernel
theorem dX11_signType_88 : decode cX11_signType 88 = .ok (.invokevirtual 271, 3) := by decide +kernel
theorem dX11_signType_91 : decode cX11_signType 91 = .ok (.ireturn, 1) := by decide +kernel
theorem dX11_failsAt_0 : decode cX11_failsAt 0 = .ok (.aload_n 0, 1) := by decide +kernel
theorem dX11_failsAt_1 : decode cX11_failsAt 1 = .ok (.iload_n 1, 1) := by decide +kernel
theorem dX11_failsAt_2 : decode cX11_failsAt 2 = .ok (.iconst (-1), 1) := by decide +kernel
theorem dX11_failsAt_3 : decode cX11_failsAt 3 = .ok (.iconst (-1), 1) := by decide +kernel
theorem dX11_failsAt_4 : decode cX11_failsAt 4 = .ok (.invokevirtual 259, 3) := by decide +kernel
theorem dX11_failsAt_7 : decode cX11_failsAt 7 = .ok (.istore_n 3, 1) := by decide +kernel
theorem dX11_failsAt_8 : decode cX11_failsAt 8 = .ok (.aload_n 0, 1) := by decide +kernel
theorem dX11_failsAt_9 : decode cX11_failsAt 9 = .ok (.iload_n 2, 1) := by decide +kernel
theorem dX11_failsAt_10 : decode cX11_failsAt 10 = .ok (.putfield 275, 3) := by decide +kernel
theorem dX11_failsAt_13 : decode cX11_failsAt 13 = .ok (.return_, 1) := by decide +kernel
theorem dX11_leaf_0 : decode cX11_leaf 0 = .ok (.aload_n 0, 1) := by decide +kernel
theorem dX11_leaf_1 : decode cX11_leaf 1 = .ok (.getfield 56, 3) := by decide +kernel
theorem dX11_leaf_4 : decode cX11_leaf 4 = .ok (.iload_n 1, 1) := by decide +kernel
theorem dX11_leaf_5 : decode cX11_leaf 5 = .ok (.iaload, 1) := by decide +kernel
theorem dX11_leaf_6 : decode cX11_leaf 6 = .ok (.iconst 1, 1) := by decide +kernel
theorem dX11_leaf_7 : decode cX11_leaf 7 = .ok (.if_icmp .ne 64, 3) := by decide +kernel
theorem dX11_leaf_10 : decode cX11_leaf 10 = .ok (.aload_n 0, 1) := by decide +kernel
theorem dX11_leaf_11 : decode cX11_leaf 11 = .ok (.getfield 59, 3) := by decide +kernel
theorem dX11_leaf_14 : decode cX11_leaf 14 = .ok (.iload_n 1, 1) := by decide +kernel
theorem dX11_leaf_15 : decode cX11_leaf 15 = .ok (.iaload, 1) := by decide +kernel
theorem dX11_leaf_16 : decode cX11_leaf 16 = .ok (.bipush 65, 2) := by decide +kernel
theorem dX11_leaf_18 : decode cX11_leaf 18 = .ok (.isub, 1) := by decide +kernel
theorem dX11_leaf_19 : decode cX11_leaf 19 = .ok (.istore_n 2, 1) := by decide +kernel
theorem dX11_leaf_20 : decode cX11_leaf 20 = .ok (.aload_n 0, 1) := by decide +kernel
theorem dX11_leaf_21 : decode cX11_leaf 21 = .ok (.getfield 13, 3) := by decide +kernel
theorem dX11_leaf_24 : decode cX11_leaf 24 = .ok (.iload_n 2, 1) := by decide +kernel
theorem dX11_leaf_25 : decode cX11_leaf 25 = .ok (.invokestatic 278, 3) := by decide +kernel
theorem dX11_leaf_28 : decode cX11_leaf 28 = .ok (.iaload, 1) := by decide +kernel
theorem dX11_leaf_29 : decode cX11_leaf 29 = .ok (.ifCond .ne 12, 3) := by decide +kernel
theorem dX11_leaf_32 : decode cX11_leaf 32 = .ok (.aload_n 0, 1) := by decide +kernel
theorem dX11_leaf_33 : decode cX11_leaf 33 = .ok (.iconst 3, 1) := by decide +kernel
theorem dX11_leaf_34 : decode cX11_leaf 34 = .ok (.iload_n 1, 1) := by decide +kernel
theorem dX11_leaf_35 : decode cX11_leaf 35 = .ok (.invokevirtual 281, 3) := by decide +kernel
theorem dX11_leaf_38 : decode cX11_leaf 38 = .ok (.goto 32, 3) := by decide +kernel
theorem dX11_leaf_41 : decode cX11_leaf 41 = .ok (.aload_n 0, 1) := by decide +kernel
theorem dX11_leaf_42 : decode cX11_leaf 42 = .ok (.getfield 137, 3) := by decide +kernel
theorem dX11_leaf_45 : decode cX11_leaf 45 = .ok (.iload_n 1, 1) := by decide +kernel
theorem dX11_leaf_46 : decode cX11_leaf 46 = .ok (.aload_n 0, 1) := by decide +kernel
theorem dX11_leaf_47 : decode cX11_leaf 47 = .ok (.aload_n 0, 1) := by decide +kernel
theorem dX11_leaf_48 : decode cX11_leaf 48 = .ok (.getfield 13, 3) := by decide +kernel
theorem dX11_leaf_51 : decode cX11_leaf 51 = .ok (.iload_n 2, 1) := by decide +kernel
theorem dX11_leaf_52 : decode cX11_leaf 52 = .ok (.invokestatic 278, 3) := by decide +kernel
theorem dX11_leaf_55 : decode cX11_leaf 55 = .ok (.iconst 1, 1) := by decide +kernel
theorem dX11_leaf_56 : decode cX11_leaf 56 = .ok (.iadd, 1) := by decide +kernel
theorem dX11_leaf_57 : decode cX11_leaf 57 = .ok (.aload_n 0, 1) := by decide +kernel
theorem dX11_leaf_58 : decode cX11_leaf 58 = .ok (.getfield 13, 3) := by decide +kernel
theorem dX11_leaf_61 : decode cX11_leaf 61 = .ok (.iload_n 2, 1) := by decide +kernel
theorem dX11_leaf_62 : decode cX11_leaf 62 = .ok (.invokestatic 278, 3) := by decide +kernel
theorem dX11_leaf_65 : decode cX11_leaf 65 = .ok (.iaload, 1) := by decide +kernel
theorem dX11_leaf_66 : decode cX11_leaf 66 = .ok (.invokevirtual 285, 3) := by decide +kernel
theorem dX11_leaf_69 : decode cX11_leaf 69 = .ok (.iastore, 1) := by decide +kernel
theorem dX11_leaf_70 : decode cX11_leaf 70 = .ok (.return_, 1) := by decide +kernel
theorem dX11_leaf_71 : decode cX11_leaf 71 = .ok (.aload_n 0, 1) := by decide +kernel
theorem dX11_leaf_72 : decode cX11_leaf 72 = .ok (.getfield 56, 3) := by decide +kernel
theorem dX11_leaf_75 : decode cX11_leaf 75 = .ok (.iload_n 1, 1) := by decide +kernel
theorem dX11_leaf_76 : decode cX11_leaf 76 = .ok (.iaload, 1) := by decide +kernel
theorem dX11_leaf_77 : decode cX11_leaf 77 = .ok (.ifCond .eq 40, 3) := by decide +kernel
theorem dX11_leaf_80 : decode cX11_leaf 80 = .ok (.aload_n 0, 1) := by decide +kernel
theorem dX11_leaf_81 : decode cX11_leaf 81 = .ok (.getfield 137, 3) := by decide +kernel
theorem dX11_leaf_84 : decode cX11_leaf 84 = .ok (.iload_n 1, 1) := by decide +kernel
theorem dX11_leaf_85 : decode cX11_leaf 85 = .ok (.aload_n 0, 1) := by decide +kernel
theorem dX11_leaf_86 : decode cX11_leaf 86 = .ok (.getfield 56, 3) := by decide +kernel
theorem dX11_leaf_89 : decode cX11_leaf 89 = .ok (.iload_n 1, 1) := by decide +kernel
theorem dX11_leaf_90 : decode cX11_leaf 90 = .ok (.iaload, 1) := by decide +kernel
theorem dX11_leaf_91 : decode cX11_leaf 91 = .ok (.iconst 2, 1) := by decide +kernel
theorem dX11_leaf_92 : decode cX11_leaf 92 = .ok (.if_icmp .ne 13, 3) := by decide +kernel
theorem dX11_leaf_95 : decode cX11_leaf 95 = .ok (.aload_n 0, 1) := by decide +kernel
theorem dX11_leaf_96 : decode cX11_leaf 96 = .ok (.iconst 0, 1) := by decide +kernel
theorem dX11_leaf_97 : decode cX11_leaf 97 = .ok (.iconst (-1), 1) := by decide +kernel
theorem dX11_leaf_98 : decode cX11_leaf 98 = .ok (.iconst (-1), 1) := by decide +kernel
theorem dX11_leaf_99 : decode cX11_leaf 99 = .ok (.invokevirtual 216, 3) := by decide +kernel
theorem dX11_leaf_102 : decode cX11_leaf 102 = .ok (.goto 13, 3) := by decide +kernel
theorem dX11_leaf_105 : decode cX11_leaf 105 = .ok (.aload_n 0, 1) := by decide +kernel
theorem dX11_leaf_106 : decode cX11_leaf 106 = .ok (.aload_n 0, 1) := by decide +kernel
theorem dX11_leaf_107 : decode cX11_leaf 107 = .ok (.getfield 59, 3) := by decide +kernel
theorem dX11_leaf_110 : decode cX11_leaf 110 = .ok (.iload_n 1, 1) := by decide +kernel
theorem dX11_leaf_111 : decode cX11_leaf 111 = .ok (.iaload, 1) := by decide +kernel
theorem dX11_leaf_112 : decode cX11_leaf 112 = .ok (.invokevirtual 288, 3) := by decide +kernel
theorem dX11_leaf_115 : decode cX11_leaf 115 = .ok (.iastore, 1) := by decide +kernel
theorem dX11_leaf_116 : decode cX11_leaf 116 = .ok (.return_, 1) := by decide +kernel
theorem dX11_leaf_117 : decode cX11_leaf 117 = .ok (.aload_n 0, 1) := by decide +kernel
theorem dX11_leaf_118 : decode cX11_leaf 118 = .ok (.iload_n 1, 1) := by decide +kernel
theorem dX11_leaf_119 : decode cX11_leaf 119 = .ok (.invokevirtual 291, 3) := by decide +kernel
theorem dX11_leaf_122 : decode cX11_leaf 122 = .ok (.istore_n 2, 1) := by decide +kernel
theorem dX11_leaf_123 : decode cX11_leaf 123 = .ok (.iload_n 2, 1) := by decide +kernel
theorem dX11_leaf_124 : decode cX11_leaf 124 = .ok (.ifCond .ge 12, 3) := by decide +kernel
theorem dX11_leaf_127 : decode cX11_leaf 127 = .ok (.aload_n 0, 1) := by decide +kernel
theorem dX11_leaf_128 : decode cX11_leaf 128 = .ok (.iconst 3, 1) := by decide +kernel
theorem dX11_leaf_129 : decode cX11_leaf 129 = .ok (.iload_n 1, 1) := by decide +kernel
theorem dX11_leaf_130 : decode cX11_leaf 130 = .ok (.invokevirtual 281, 3) := by decide +kernel
theorem dX11_leaf_133 : decode cX11_leaf 133 = .ok (.goto 43, 3) := by decide +kernel
theorem dX11_leaf_136 : decode cX11_leaf 136 = .ok (.aload_n 0, 1) := by decide +kernel
theorem dX11_leaf_137 : decode cX11_leaf 137 = .ok (.getfield 137, 3) := by decide +kernel
theorem dX11_leaf_140 : decode cX11_leaf 140 = .ok (.iload_n 1, 1) := by decide +kernel
theorem dX11_leaf_141 : decode cX11_leaf 141 = .ok (.aload_n 0, 1) := by decide +kernel
theorem dX11_leaf_142 : decode cX11_leaf 142 = .ok (.getfield 56, 3) := by decide +kernel
theorem dX11_leaf_145 : decode cX11_leaf 145 = .ok (.iload_n 2, 1) := by decide +kernel
theorem dX11_leaf_146 : decode cX11_leaf 146 = .ok (.iaload, 1) := by decide +kernel
theorem dX11_leaf_147 : decode cX11_leaf 147 = .ok (.iconst 4, 1) := by decide +kernel
theorem dX11_leaf_148 : decode cX11_leaf 148 = .ok (.if_icmp .ne 12, 3) := by decide +kernel
theorem dX11_leaf_151 : decode cX11_leaf 151 = .ok (.aload_n 0, 1) := by decide +kernel
theorem dX11_leaf_152 : decode cX11_leaf 152 = .ok (.getfield 140, 3) := by decide +kernel
theorem dX11_leaf_155 : decode cX11_leaf 155 = .ok (.iload_n 2, 1) := by decide +kernel
theorem dX11_leaf_156 : decode cX11_leaf 156 = .ok (.iaload, 1) := by decide +kernel
theorem dX11_leaf_157 : decode cX11_leaf 157 = .ok (.goto 18, 3) := by decide +kernel
theorem dX11_leaf_160 : decode cX11_leaf 160 = .ok (.aload_n 0, 1) := by decide +kernel
theorem dX11_leaf_161 : decode cX11_leaf 161 = .ok (.aload_n 0, 1) := by decide +kernel
theorem dX11_leaf_162 : decode cX11_leaf 162 = .ok (.getfield 137, 3) := by decide +kernel
theorem dX11_leaf_165 : decode cX11_leaf 165 = .ok (.aload_n 0, 1) := by decide +kernel
theorem dX11_leaf_166 : decode cX11_leaf 166 = .ok (.getfield 62, 3) := by decide +kernel
theorem dX11_leaf_169 : decode cX11_leaf 169 = .ok (.iload_n 2, 1) := by decide +kernel
theorem dX11_leaf_170 : decode cX11_leaf 170 = .ok (.iaload, 1) := by decide +kernel
theorem dX11_leaf_171 : decode cX11_leaf 171 = .ok (.iaload, 1) := by decide +kernel
theorem dX11_leaf_172 : decode cX11_leaf 172 = .ok (.invokevirtual 294, 3) := by decide +kernel
theorem dX11_leaf_175 : decode cX11_leaf 175 = .ok (.iastore, 1) := by decide +kernel
theorem dX11_leaf_176 : decode cX11_leaf 176 = .ok (.return_, 1) := by decide +kernel
theorem dX11_generalises_0 : decode cX11_generalises 0 = .ok (.aload_n 0, 1) := by decide +kernel
theorem dX11_generalises_1 : decode cX11_generalises 1 = .ok (.dup, 1) := by decide +kernel
theorem dX11_generalises_2 : decode cX11_generalises 2 = .ok (.getfield 226, 3) := by decide +kernel
theorem dX11_generalises_5 : decode cX11_generalises 5 = .ok (.iconst 1, 1) := by decide +kernel
theorem dX11_generalises_6 : decode cX11_generalises 6 = .ok (.iadd, 1) := by decide +kernel
theorem dX11_generalises_7 : decode cX11_generalises 7 = .ok (.putfield 226, 3) := by decide +kernel
theorem dX11_generalises_10 : decode cX11_generalises 10 = .ok (.aload_n 0, 1) := by decide +kernel
theorem dX11_generalises_11 : decode cX11_generalises 11 = .ok (.getfield 68, 3) := by decide +kernel
theorem dX11_generalises_14 : decode cX11_generalises 14 = .ok (.iload_n 1, 1) := by decide +kernel
theorem dX11_generalises_15 : decode cX11_generalises 15 = .ok (.iaload, 1) := by decide +kernel
theorem dX11_generalises_16 : decode cX11_generalises 16 = .ok (.istore_n 2, 1) := by decide +kernel
theorem dX11_generalises_17 : decode cX11_generalises 17 = .ok (.iload_n 2, 1) := by decide +kernel
theorem dX11_generalises_18 : decode cX11_generalises 18 = .ok (.ifCond .lt 33, 3) := by decide +kernel
theorem dX11_generalises_21 : decode cX11_generalises 21 = .ok (.aload_n 0, 1) := by decide +kernel
theorem dX11_generalises_22 : decode cX11_generalises 22 = .ok (.getfield 56, 3) := by decide +kernel
theorem dX11_generalises_25 : decode cX11_generalises 25 = .ok (.iload_n 2, 1) := by decide +kernel
theorem dX11_generalises_26 : decode cX11_generalises 26 = .ok (.iaload, 1) := by decide +kernel
theorem dX11_generalises_27 : decode cX11_generalises 27 = .ok (.iconst 4, 1) := by decide +kernel
theorem dX11_generalises_28 : decode cX11_generalises 28 = .ok (.if_icmp .ne 13, 3) := by decide +kernel
theorem dX11_generalises_31 : decode cX11_generalises 31 = .ok (.aload_n 0, 1) := by decide +kernel
theorem dX11_generalises_32 : decode cX11_generalises 32 = .ok (.aload_n 0, 1) := by decide +kernel
theorem dX11_generalises_33 : decode cX11_generalises 33 = .ok (.getfield 140, 3) := by decide +kernel
theorem dX11_generalises_36 : decode cX11_generalises 36 = .ok (.iload_n 2, 1) := by decide +kernel
theorem dX11_generalises_37 : decode cX11_generalises 37 = .ok (.iaload, 1) := by decide +kernel
theorem dX11_generalises_38 : decode cX11_generalises 38 = .ok (.invokevirtual 236, 3) := by decide +kernel
theorem dX11_generalises_41 : decode cX11_generalises 41 = .ok (.aload_n 0, 1) := by decide +kernel
theorem dX11_generalises_42 : decode cX11_generalises 42 = .ok (.getfield 68, 3) := by decide +kernel
theorem dX11_generalises_45 : decode cX11_generalises 45 = .ok (.iload_n 2, 1) := by decide +kernel
theorem dX11_generalises_46 : decode cX11_generalises 46 = .ok (.iaload, 1) := by decide +kernel
theorem dX11_generalises_47 : decode cX11_generalises 47 = .ok (.istore_n 2, 1) := by decide +kernel
theorem dX11_generalises_48 : decode cX11_generalises 48 = .ok (.goto (-31), 3) := by decide +kernel
theorem dX11_generalises_51 : decode cX11_generalises 51 = .ok (.aload_n 0, 1) := by decide +kernel
theorem dX11_generalises_52 : decode cX11_generalises 52 = .ok (.aload_n 0, 1) := by decide +kernel
theorem dX11_generalises_53 : decode cX11_generalises 53 = .ok (.getfield 137, 3) := by decide +kernel
theorem dX11_generalises_56 : decode cX11_generalises 56 = .ok (.aload_n 0, 1) := by decide +kernel
theorem dX11_generalises_57 : decode cX11_generalises 57 = .ok (.getfield 62, 3) := by decide +kernel
theorem dX11_generalises_60 : decode cX11_generalises 60 = .ok (.iload_n 1, 1) := by decide +kernel
theorem dX11_generalises_61 : decode cX11_generalises 61 = .ok (.iaload, 1) := by decide +kernel
theorem dX11_generalises_62 : decode cX11_generalises 62 = .ok (.iaload, 1) := by decide +kernel
theorem dX11_generalises_63 : decode cX11_generalises 63 = .ok (.invokevirtual 229, 3) := by decide +kernel
theorem dX11_generalises_66 : decode cX11_generalises 66 = .ok (.aload_n 0, 1) := by decide +kernel
theorem dX11_generalises_67 : decode cX11_generalises 67 = .ok (.getfield 220, 3) := by decide +kernel
theorem dX11_generalises_70 : decode cX11_generalises 70 = .ok (.ifCond .le 32, 3) := by decide +kernel
theorem dX11_generalises_73 : decode cX11_generalises 73 = .ok (.aload_n 0, 1) := by decide +kernel
theorem dX11_generalises_74 : decode cX11_generalises 74 = .ok (.invokevirtual 232, 3) := by decide +kernel
theorem dX11_generalises_77 : decode cX11_generalises 77 = .ok (.istore_n 2, 1) := by decide +kernel
theorem dX11_generalises_78 : decode cX11_generalises 78 = .ok (.iload_n 2, 1) := by decide +kernel
theorem dX11_generalises_79 : decode cX11_generalises 79 = .ok (.ifCond .lt 20, 3) := by decide +kernel
theorem dX11_generalises_82 : decode cX11_generalises 82 = .ok (.aload_n 0, 1) := by decide +kernel
theorem dX11_generalises_83 : decode cX11_generalises 83 = .ok (.getfield 83, 3) := by decide +kernel
theorem dX11_generalises_86 : decode cX11_generalises 86 = .ok (.iload_n 2, 1) := by decide +kernel
theorem dX11_generalises_87 : decode cX11_generalises 87 = .ok (.iaload, 1) := by decide +kernel
theorem dX11_generalises_88 : decode cX11_generalises 88 = .ok (.iconst 3, 1) := by decide +kernel
theorem dX11_generalises_89 : decode cX11_generalises 89 = .ok (.if_icmp .ne 10, 3) := by decide +kernel
theorem dX11_generalises_92 : decode cX11_generalises 92 = .ok (.aload_n 0, 1) := by decide +kernel
theorem dX11_generalises_93 : decode cX11_generalises 93 = .ok (.getfield 95, 3) := by decide +kernel
theorem dX11_generalises_96 : decode cX11_generalises 96 = .ok (.iload_n 2, 1) := by decide +kernel
theorem dX11_generalises_97 : decode cX11_generalises 97 = .ok (.iconst 1, 1) := by decide +kernel
theorem dX11_generalises_98 : decode cX11_generalises 98 = .ok (.iastore, 1) := by decide +kernel
theorem dX11_generalises_99 : decode cX11_generalises 99 = .ok (.goto (-33), 3) := by decide +kernel
theorem dX11_generalises_102 : decode cX11_generalises 102 = .ok (.return_, 1) := by decide +kernel
theorem dX11_applies_0 : decode cX11_applies 0 = .ok (.aload_n 0, 1) := by decide +kernel
theorem dX11_applies_1 : decode cX11_applies 1 = .ok (.getfield 137, 3) := by decide +kernel
theorem dX11_applies_4 : decode cX11_applies 4 = .ok (.aload_n 0, 1) := by decide +kernel
theorem dX11_applies_5 : decode cX11_applies 5 = .ok (.getfield 62, 3) := by decide +kernel
theorem dX11_applies_8 : decode cX11_applies 8 = .ok (.iload_n 1, 1) := by decide +kernel
theorem dX11_applies_9 : decode cX11_applies 9 = .ok (.iaload, 1) := by decide +kernel
theorem dX11_applies_10 : decode cX11_applies 10 = .ok (.iaload, 1) := by decide +kernel
theorem dX11_applies_11 : decode cX11_applies 11 = .ok (.istore_n 2, 1) := by decide +kernel
theorem dX11_applies_12 : decode cX11_applies 12 = .ok (.aload_n 0, 1) := by decide +kernel
theorem dX11_applies_13 : decode cX11_applies 13 = .ok (.iload_n 2, 1) := by decide +kernel
theorem dX11_applies_14 : decode cX11_applies 14 = .ok (.invokevirtual 297, 3) := by decide +kernel
theorem dX11_applies_17 : decode cX11_applies 17 = .ok (.sipush 201, 3) := by decide +kernel
theorem dX11_applies_20 : decode cX11_applies 20 = .ok (.if_icmp .eq 24, 3) := by decide +kernel
theorem dX11_applies_23 : decode cX11_applies 23 = .ok (.aload_n 0, 1) := by decide +kernel
theorem dX11_applies_24 : decode cX11_applies 24 = .ok (.aload_n 0, 1) := by decide +kernel
theorem dX11_applies_25 : decode cX11_applies 25 = .ok (.getfield 137, 3) := by decide +kernel
theorem dX11_applies_28 : decode cX11_applies 28 = .ok (.aload_n 0, 1) := by decide +kernel
theorem dX11_applies_29 : decode cX11_applies 29 = .ok (.getfield 65, 3) := by decide +kernel
theorem dX11_applies_32 : decode cX11_applies 32 = .ok (.iload_n 1, 1) := by decide +kernel
theorem dX11_applies_33 : decode cX11_applies 33 = .ok (.iaload, 1) := by decide +kernel
theorem dX11_applies_34 : decode cX11_applies 34 = .ok (.iaload, 1) := by decide +kernel
theorem dX11_applies_35 : decode cX11_applies 35 = .ok (.invokevirtual 297, 3) := by decide +kernel
theorem dX11_applies_38 : decode cX11_applies 38 = .ok (.sipush 201, 3) := by decide +kernel
theorem dX11_applies_41 : decode cX11_applies 41 = .ok (.if_icmp .ne 11, 3) := by decide +kernel
theorem dX11_applies_44 : decode cX11_applies 44 = .ok (.aload_n 0, 1) := by decide +kernel
theorem dX11_applies_45 : decode cX11_applies 45 = .ok (.bipush 10, 2) := by decide +kernel
theorem dX11_applies_47 : decode cX11_applies 47 = .ok (.iload_n 1, 1) := by decide +kernel
theorem dX11_applies_48 : decode cX11_applies 48 = .ok (.invokevirtual 281, 3) := by decide +kernel
theorem dX11_applies_51 : decode cX11_applies 51 = .ok (.return_, 1) := by decide +kernel
theorem dX11_applies_52 : decode cX11_applies 52 = .ok (.aload_n 0, 1) := by decide +kernel
theorem dX11_applies_53 : decode cX11_applies 53 = .ok (.getfield 137, 3) := by decide +kernel
theorem dX11_applies_56 : decode cX11_applies 56 = .ok (.iload_n 1, 1) := by decide +kernel
theorem dX11_applies_57 : decode cX11_applies 57 = .ok (.aload_n 0, 1) := by decide +kernel
theorem dX11_applies_58 : decode cX11_applies 58 = .ok (.invokevirtual 239, 3) := by decide +kernel
theorem dX11_applies_61 : decode cX11_applies 61 = .ok (.iastore, 1) := by decide +kernel
theorem dX11_applies_62 : decode cX11_applies 62 = .ok (.aload_n 0, 1) := by decide +kernel
theorem dX11_applies_63 : decode cX11_applies 63 = .ok (.iload_n 2, 1) := by decide +kernel
theorem dX11_applies_64 : decode cX11_applies 64 = .ok (.aload_n 0, 1) := by decide +kernel
theorem dX11_applies_65 : decode cX11_applies 65 = .ok (.aload_n 0, 1) := by decide +kernel
theorem dX11_applies_66 : decode cX11_applies 66 = .ok (.getfield 137, 3) := by decide +kernel
theorem dX11_applies_69 : decode cX11_applies 69 = .ok (.aload_n 0, 1) := by decide +kernel
theorem dX11_applies_70 : decode cX11_applies 70 = .ok (.getfield 65, 3) := by decide +kernel
theorem dX11_applies_73 : decode cX11_applies 73 = .ok (.iload_n 1, 1) := by decide +kernel
theorem dX11_applies_74 : decode cX11_applies 74 = .ok (.iaload, 1) := by decide +kernel
theorem dX11_applies_75 : decode cX11_applies 75 = .ok (.iaload, 1) := by decide +kernel
theorem dX11_applies_76 : decode cX11_applies 76 = .ok (.aload_n 0, 1) := by decide +kernel
theorem dX11_applies_77 : decode cX11_applies 77 = .ok (.getfield 137, 3) := by decide +kernel
theorem dX11_applies_80 : decode cX11_applies 80 = .ok (.iload_n 1, 1) := by decide +kernel
theorem dX11_applies_81 : decode cX11_applies 81 = .ok (.iaload, 1) := by decide +kernel
theorem dX11_applies_82 : decode cX11_applies 82 = .ok (.invokevirtual 271, 3) := by decide +kernel
theorem dX11_applies_85 : decode cX11_applies 85 = .ok (.invokevirtual 300, 3) := by decide +kernel
theorem dX11_applies_88 : decode cX11_applies 88 = .ok (.ifCond .eq 11, 3) := by decide +kernel
theorem dX11_applies_91 : decode cX11_applies 91 = .ok (.aload_n 0, 1) := by decide +kernel
theorem dX11_applies_92 : decode cX11_applies 92 = .ok (.iload_n 1, 1) := by decide +kernel
theorem dX11_applies_93 : decode cX11_applies 93 = .ok (.putfield 275, 3) := by decide +kernel
theorem dX11_applies_96 : decode cX11_applies 96 = .ok (.goto 21, 3) := by decide +kernel
theorem dX11_applies_99 : decode cX11_applies 99 = .ok (.aload_n 0, 1) := by decide +kernel
theorem dX11_applies_100 : decode cX11_applies 100 = .ok (.iload_n 2, 1) := by decide +kernel
theorem dX11_applies_101 : decode cX11_applies 101 = .ok (.invokevirtual 297, 3) := by decide +kernel
theorem dX11_applies_104 : decode cX11_applies 104 = .ok (.sipush 201, 3) := by decide +kernel
theorem dX11_applies_107 : decode cX11_applies 107 = .ok (.if_icmp .ne 10, 3) := by decide +kernel
theorem dX11_applies_110 : decode cX11_applies 110 = .ok (.aload_n 0, 1) := by decide +kernel
theorem dX11_applies_111 : decode cX11_applies 111 = .ok (.bipush 10, 2) := by decide +kernel
theorem dX11_applies_113 : decode cX11_applies 113 = .ok (.iload_n 1, 1) := by decide +kernel
theorem dX11_applies_114 : decode cX11_applies 114 = .ok (.invokevirtual 281, 3) := by decide +kernel
theorem dX11_applies_117 : decode cX11_applies 117 = .ok (.return_, 1) := by decide +kernel
theorem dX11_steps_0 : decode cX11_steps 0 = .ok (.aload_n 0, 1) := by decide +kernel
theorem dX11_steps_1 : decode cX11_steps 1 = .ok (.getfield 56, 3) := by decide +kernel
theorem dX11_steps_4 : decode cX11_steps 4 = .ok (.iload_n 1, 1) := by decide +kernel
theorem dX11_steps_5 : decode cX11_steps 5 = .ok (.iaload, 1) := by decide +kernel
theorem dX11_steps_6 : decode cX11_steps 6 = .ok (.iconst 4, 1) := by decide +kernel
theorem dX11_steps_7 : decode cX11_steps 7 = .ok (.if_icmp .ge 11, 3) := by decide +kernel
theorem dX11_steps_10 : decode cX11_steps 10 = .ok (.aload_n 0, 1) := by decide +kernel
theorem dX11_steps_11 : decode cX11_steps 11 = .ok (.iload_n 1, 1) := by decide +kernel
theorem dX11_steps_12 : decode cX11_steps 12 = .ok (.invokevirtual 303, 3) := by decide +kernel
theorem dX11_steps_15 : decode cX11_steps 15 = .ok (.goto 206, 3) := by decide +kernel
theorem dX11_steps_18 : decode cX11_steps 18 = .ok (.iload_n 2, 1) := by decide +kernel
theorem dX11_steps_19 : decode cX11_steps 19 = .ok (.ifCond .ne 65, 3) := by decide +kernel
theorem dX11_steps_22 : decode cX11_steps 22 = .ok (.aload_n 0, 1) := by decide +kernel
theorem dX11_steps_23 : decode cX11_steps 23 = .ok (.getfield 56, 3) := by decide +kernel
theorem dX11_steps_26 : decode cX11_steps 26 = .ok (.iload_n 1, 1) := by decide +kernel
theorem dX11_steps_27 : decode cX11_steps 27 = .ok (.iaload, 1) := by decide +kernel
theorem dX11_steps_28 : decode cX11_steps 28 = .ok (.iconst 4, 1) := by decide +kernel
theorem dX11_steps_29 : decode cX11_steps 29 = .ok (.if_icmp .ne 13, 3) := by decide +kernel
theorem dX11_steps_32 : decode cX11_steps 32 = .ok (.aload_n 0, 1) := by decide +kernel
theorem dX11_steps_33 : decode cX11_steps 33 = .ok (.getfield 140, 3) := by decide +kernel
theorem dX11_steps_36 : decode cX11_steps 36 = .ok (.iload_n 1, 1) := by decide +kernel
theorem dX11_steps_37 : decode cX11_steps 37 = .ok (.aload_n 0, 1) := by decide +kernel
theorem dX11_steps_38 : decode cX11_steps 38 = .ok (.invokevirtual 239, 3) := by decide +kernel
theorem dX11_steps_41 : decode cX11_steps 41 = .ok (.iastore, 1) := by decide +kernel
theorem dX11_steps_42 : decode cX11_steps 42 = .ok (.aload_n 0, 1) := by decide +kernel
theorem dX11_steps_43 : decode cX11_steps 43 = .ok (.iload_n 1, 1) := by decide +kernel
theorem dX11_steps_44 : decode cX11_steps 44 = .ok (.iconst 1, 1) := by decide +kernel
theorem dX11_steps_45 : decode cX11_steps 45 = .ok (.invokevirtual 306, 3) := by decide +kernel
theorem dX11_steps_48 : decode cX11_steps 48 = .ok (.aload_n 0, 1) := by decide +kernel
theorem dX11_steps_49 : decode cX11_steps 49 = .ok (.getfield 56, 3) := by decide +kernel
theorem dX11_steps_52 : decode cX11_steps 52 = .ok (.iload_n 1, 1) := by decide +kernel
theorem dX11_steps_53 : decode cX11_steps 53 = .ok (.iaload, 1) := by decide +kernel
theorem dX11_steps_54 : decode cX11_steps 54 = .ok (.bipush 6, 2) := by decide +kernel
theorem dX11_steps_56 : decode cX11_steps 56 = .ok (.if_icmp .ne 14, 3) := by decide +kernel
theorem dX11_steps_59 : decode cX11_steps 59 = .ok (.aload_n 0, 1) := by decide +kernel
theorem dX11_steps_60 : decode cX11_steps 60 = .ok (.aload_n 0, 1) := by decide +kernel
theorem dX11_steps_61 : decode cX11_steps 61 = .ok (.getfield 65, 3) := by decide +kernel
theorem dX11_steps_64 : decode cX11_steps 64 = .ok (.iload_n 1, 1) := by decide +kernel
theorem dX11_steps_65 : decode cX11_steps 65 = .ok (.iaload, 1) := by decide +kernel
theorem dX11_steps_66 : decode cX11_steps 66 = .ok (.iconst 0, 1) := by decide +kernel
theorem dX11_steps_67 : decode cX11_steps 67 = .ok (.invokevirtual 306, 3) := by decide +kernel
theorem dX11_steps_70 : decode cX11_steps 70 = .ok (.aload_n 0, 1) := by decide +kernel
theorem dX11_steps_71 : decode cX11_steps 71 = .ok (.aload_n 0, 1) := by decide +kernel
theorem dX11_steps_72 : decode cX11_steps 72 = .ok (.getfield 62, 3) := by decide +kernel
theorem dX11_steps_75 : decode cX11_steps 75 = .ok (.iload_n 1, 1) := by decide +kernel
theorem dX11_steps_76 : decode cX11_steps 76 = .ok (.iaload, 1) := by decide +kernel
theorem dX11_steps_77 : decode cX11_steps 77 = .ok (.iconst 0, 1) := by decide +kernel
theorem dX11_steps_78 : decode cX11_steps 78 = .ok (.invokevirtual 306, 3) := by decide +kernel
theorem dX11_steps_81 : decode cX11_steps 81 = .ok (.goto 140, 3) := by decide +kernel
theorem dX11_steps_84 : decode cX11_steps 84 = .ok (.aload_n 0, 1) := by decide +kernel
theorem dX11_steps_85 : decode cX11_steps 85 = .ok (.getfield 56, 3) := by decide +kernel
theorem dX11_steps_88 : decode cX11_steps 88 = .ok (.iload_n 1, 1) := by decide +kernel
theorem dX11_steps_89 : decode cX11_steps 89 = .ok (.iaload, 1) := by decide +kernel
theorem dX11_steps_90 : decode cX11_steps 90 = .ok (.iconst 4, 1) := by decide +kernel
theorem dX11_steps_91 : decode cX11_steps 91 = .ok (.if_icmp .ne 33, 3) := by decide +kernel
theorem dX11_steps_94 : decode cX11_steps 94 = .ok (.aload_n 0, 1) := by decide +kernel
theorem dX11_steps_95 : decode cX11_steps 95 = .ok (.getfield 137, 3) := by decide +kernel
theorem dX11_steps_98 : decode cX11_steps 98 = .ok (.iload_n 1, 1) := by decide +kernel
theorem dX11_steps_99 : decode cX11_steps 99 = .ok (.aload_n 0, 1) := by decide +kernel
theorem dX11_steps_100 : decode cX11_steps 100 = .ok (.aload_n 0, 1) := by decide +kernel
theorem dX11_steps_101 : decode cX11_steps 101 = .ok (.getfield 140, 3) := by decide +kernel
theorem dX11_steps_104 : decode cX11_steps 104 = .ok (.iload_n 1, 1) := by decide +kernel
theorem dX11_steps_105 : decode cX11_steps 105 = .ok (.iaload, 1) := by decide +kernel
theorem dX11_steps_106 : decode cX11_steps 106 = .ok (.aload_n 0, 1) := by decide +kernel
theorem dX11_steps_107 : decode cX11_steps 107 = .ok (.getfield 137, 3) := by decide +kernel
theorem dX11_steps_110 : decode cX11_steps 110 = .ok (.aload_n 0, 1) := by decide +kernel
theorem dX11_steps_111 : decode cX11_steps 111 = .ok (.getfield 62, 3) := by decide +kernel
theorem dX11_steps_114 : decode cX11_steps 114 = .ok (.iload_n 1, 1) := by decide +kernel
theorem dX11_steps_115 : decode cX11_steps 115 = .ok (.iaload, 1) := by decide +kernel
theorem dX11_steps_116 : decode cX11_steps 116 = .ok (.iaload, 1) := by decide +kernel
theorem dX11_steps_117 : decode cX11_steps 117 = .ok (.invokevirtual 271, 3) := by decide +kernel
theorem dX11_steps_120 : decode cX11_steps 120 = .ok (.iastore, 1) := by decide +kernel
theorem dX11_steps_121 : decode cX11_steps 121 = .ok (.goto 100, 3) := by decide +kernel
theorem dX11_steps_124 : decode cX11_steps 124 = .ok (.aload_n 0, 1) := by decide +kernel
theorem dX11_steps_125 : decode cX11_steps 125 = .ok (.getfield 56, 3) := by decide +kernel
theorem dX11_steps_128 : decode cX11_steps 128 = .ok (.iload_n 1, 1) := by decide +kernel
theorem dX11_steps_129 : decode cX11_steps 129 = .ok (.iaload, 1) := by decide +kernel
theorem dX11_steps_130 : decode cX11_steps 130 = .ok (.bipush 6, 2) := by decide +kernel
theorem dX11_steps_132 : decode cX11_steps 132 = .ok (.if_icmp .ne 11, 3) := by decide +kernel
theorem dX11_steps_135 : decode cX11_steps 135 = .ok (.aload_n 0, 1) := by decide +kernel
theorem dX11_steps_136 : decode cX11_steps 136 = .ok (.iload_n 1, 1) := by decide +kernel
theorem dX11_steps_137 : decode cX11_steps 137 = .ok (.invokevirtual 309, 3) := by decide +kernel
theorem dX11_steps_140 : decode cX11_steps 140 = .ok (.goto 81, 3) := by decide +kernel
theorem dX11_steps_143 : decode cX11_steps 143 = .ok (.iload_n 2, 1) := by decide +kernel
theorem dX11_steps_144 : decode cX11_steps 144 = .ok (.iconst 2, 1) := by decide +kernel
theorem dX11_steps_145 : decode cX11_steps 145 = .ok (.if_icmp .ne 23, 3) := by decide +kernel
theorem dX11_steps_148 : decode cX11_steps 148 = .ok (.aload_n 0, 1) := by decide +kernel
theorem dX11_steps_149 : decode cX11_steps 149 = .ok (.getfield 137, 3) := by decide +kernel
theorem dX11_steps_152 : decode cX11_steps 152 = .ok (.iload_n 1, 1) := by decide +kernel
theorem dX11_steps_153 : decode cX11_steps 153 = .ok (.aload_n 0, 1) := by decide +kernel
theorem dX11_steps_154 : decode cX11_steps 154 = .ok (.getfield 137, 3) := by decide +kernel
theorem dX11_steps_157 : decode cX11_steps 157 = .ok (.aload_n 0, 1) := by decide +kernel
theorem dX11_steps_158 : decode cX11_steps 158 = .ok (.getfield 65, 3) := by decide +kernel
theorem dX11_steps_161 : decode cX11_steps 161 = .ok (.iload_n 1, 1) := by decide +kernel
theorem dX11_steps_162 : decode cX11_steps 162 = .ok (.iaload, 1) := by decide +kernel
theorem dX11_steps_163 : decode cX11_steps 163 = .ok (.iaload, 1) := by decide +kernel
theorem dX11_steps_164 : decode cX11_steps 164 = .ok (.iastore, 1) := by decide +kernel
theorem dX11_steps_165 : decode cX11_steps 165 = .ok (.goto 56, 3) := by decide +kernel
theorem dX11_steps_168 : decode cX11_steps 168 = .ok (.aload_n 0, 1) := by decide +kernel
theorem dX11_steps_169 : decode cX11_steps 169 = .ok (.aload_n 0, 1) := by decide +kernel
theorem dX11_steps_170 : decode cX11_steps 170 = .ok (.getfield 137, 3) := by decide +kernel
theorem dX11_steps_173 : decode cX11_steps 173 = .ok (.aload_n 0, 1) := by decide +kernel
theorem dX11_steps_174 : decode cX11_steps 174 = .ok (.getfield 62, 3) := by decide +kernel
theorem dX11_steps_177 : decode cX11_steps 177 = .ok (.iload_n 1, 1) := by decide +kernel
theorem dX11_steps_178 : decode cX11_steps 178 = .ok (.iaload, 1) := by decide +kernel
theorem dX11_steps_179 : decode cX11_steps 179 = .ok (.iaload, 1) := by decide +kernel
theorem dX11_steps_180 : decode cX11_steps 180 = .ok (.invokevirtual 297, 3) := by decide +kernel
theorem dX11_steps_183 : decode cX11_steps 183 = .ok (.sipush 201, 3) := by decide +kernel
theorem dX11_steps_186 : decode cX11_steps 186 = .ok (.if_icmp .ne 13, 3) := by decide +kernel
theorem dX11_steps_189 : decode cX11_steps 189 = .ok (.aload_n 0, 1) := by decide +kernel
theorem dX11_steps_190 : decode cX11_steps 190 = .ok (.bipush 10, 2) := by decide +kernel
theorem dX11_steps_192 : decode cX11_steps 192 = .ok (.iload_n 1, 1) := by decide +kernel
theorem dX11_steps_193 : decode cX11_steps 193 = .ok (.invokevirtual 281, 3) := by decide +kernel
theorem dX11_steps_196 : decode cX11_steps 196 = .ok (.goto 25, 3) := by decide +kernel
theorem dX11_steps_199 : decode cX11_steps 199 = .ok (.aload_n 0, 1) := by decide +kernel
theorem dX11_steps_200 : decode cX11_steps 200 = .ok (.iload_n 1, 1) := by decide +kernel
theorem dX11_steps_201 : decode cX11_steps 201 = .ok (.invokevirtual 312, 3) := by decide +kernel
theorem dX11_steps_204 : decode cX11_steps 204 = .ok (.aload_n 0, 1) := by decide +kernel
theorem dX11_steps_205 : decode cX11_steps 205 = .ok (.iload_n 1, 1) := by decide +kernel
theorem dX11_steps_206 : decode cX11_steps 206 = .ok (.iconst 2, 1) := by decide +kernel
theorem dX11_steps_207 : decode cX11_steps 207 = .ok (.invokevirtual 306, 3) := by decide +kernel
theorem dX11_steps_210 : decode cX11_steps 210 = .ok (.aload_n 0, 1) := by decide +kernel
theorem dX11_steps_211 : decode cX11_steps 211 = .ok (.aload_n 0, 1) := by decide +kernel
theorem dX11_steps_212 : decode cX11_steps 212 = .ok (.getfield 65, 3) := by decide +kernel
theorem dX11_steps_215 : decode cX11_steps 215 = .ok (.iload_n 1, 1) := by decide +kernel
theorem dX11_steps_216 : decode cX11_steps 216 = .ok (.iaload, 1) := by decide +kernel
theorem dX11_steps_217 : decode cX11_steps 217 = .ok (.iconst 0, 1) := by decide +kernel
theorem dX11_steps_218 : decode cX11_steps 218 = .ok (.invokevirtual 306, 3) := by decide +kernel
theorem dX11_steps_221 : decode cX11_steps 221 = .ok (.return_, 1) := by decide +kernel
theorem dX11_finds_0 : decode cX11_finds 0 = .ok (.aload_n 0, 1) := by decide +kernel
theorem dX11_finds_1 : decode cX11_finds 1 = .ok (.iload_n 1, 1) := by decide +kernel
theorem dX11_finds_2 : decode cX11_finds 2 = .ok (.invokevirtual 315, 3) := by decide +kernel
theorem dX11_finds_5 : decode cX11_finds 5 = .ok (.aload_n 0, 1) := by decide +kernel
theorem dX11_finds_6 : decode cX11_finds 6 = .ok (.iconst 0, 1) := by decide +kernel
theorem dX11_finds_7 : decode cX11_finds 7 = .ok (.putfield 213, 3) := by decide +kernel
theorem dX11_finds_10 : decode cX11_finds 10 = .ok (.aload_n 0, 1) := by decide +kernel
theorem dX11_finds_11 : decode cX11_finds 11 = .ok (.iconst 0, 1) := by decide +kernel
theorem dX11_finds_12 : decode cX11_finds 12 = .ok (.putfield 242, 3) := by decide +kernel
theorem dX11_finds_15 : decode cX11_finds 15 = .ok (.aload_n 0, 1) := by decide +kernel
theorem dX11_finds_16 : decode cX11_finds 16 = .ok (.iconst 0, 1) := by decide +kernel
theorem dX11_finds_17 : decode cX11_finds 17 = .ok (.putfield 268, 3) := by decide +kernel
theorem dX11_finds_20 : decode cX11_finds 20 = .ok (.aload_n 0, 1) := by decide +kernel
theorem dX11_finds_21 : decode cX11_finds 21 = .ok (.iconst 0, 1) := by decide +kernel
theorem dX11_finds_22 : decode cX11_finds 22 = .ok (.iconst 0, 1) := by decide +kernel
theorem dX11_finds_23 : decode cX11_finds 23 = .ok (.invokevirtual 306, 3) := by decide +kernel
theorem dX11_finds_26 : decode cX11_finds 26 = .ok (.aload_n 0, 1) := by decide +kernel
theorem dX11_finds_27 : decode cX11_finds 27 = .ok (.getfield 268, 3) := by decide +kernel
theorem dX11_finds_30 : decode cX11_finds 30 = .ok (.ifCond .le 45, 3) := by decide +kernel
theorem dX11_finds_33 : decode cX11_finds 33 = .ok (.aload_n 0, 1) := by decide +kernel
theorem dX11_finds_34 : decode cX11_finds 34 = .ok (.getfield 242, 3) := by decide +kernel
theorem dX11_finds_37 : decode cX11_finds 37 = .ok (.ifCond .ne 38, 3) := by decide +kernel
theorem dX11_finds_40 : decode cX11_finds 40 = .ok (.aload_n 0, 1) := by decide +kernel
theorem dX11_finds_41 : decode cX11_finds 41 = .ok (.dup, 1) := by decide +kernel
theorem dX11_finds_42 : decode cX11_finds 42 = .ok (.getfield 268, 3) := by decide +kernel
theorem dX11_finds_45 : decode cX11_finds 45 = .ok (.iconst 1, 1) := by decide +kernel
theorem dX11_finds_46 : decode cX11_finds 46 = .ok (.isub, 1) := by decide +kernel
theorem dX11_finds_47 : decode cX11_finds 47 = .ok (.putfield 268, 3) := by decide +kernel
theorem dX11_finds_50 : decode cX11_finds 50 = .ok (.aload_n 0, 1) := by decide +kernel
theorem dX11_finds_51 : decode cX11_finds 51 = .ok (.aload_n 0, 1) := by decide +kernel
theorem dX11_finds_52 : decode cX11_finds 52 = .ok (.getfield 143, 3) := by decide +kernel
theorem dX11_finds_55 : decode cX11_finds 55 = .ok (.aload_n 0, 1) := by decide +kernel
theorem dX11_finds_56 : decode cX11_finds 56 = .ok (.getfield 268, 3) := by decide +kernel
theorem dX11_finds_59 : decode cX11_finds 59 = .ok (.iaload, 1) := by decide +kernel
theorem dX11_finds_60 : decode cX11_finds 60 = .ok (.aload_n 0, 1) := by decide +kernel
theorem dX11_finds_61 : decode cX11_finds 61 = .ok (.getfield 146, 3) := by decide +kernel
theorem dX11_finds_64 : decode cX11_finds 64 = .ok (.aload_n 0, 1) := by decide +kernel
theorem dX11_finds_65 : decode cX11_finds 65 = .ok (.getfield 268, 3) := by decide +kernel
theorem dX11_finds_68 : decode cX11_finds 68 = .ok (.iaload, 1) := by decide +kernel
theorem dX11_finds_69 : decode cX11_finds 69 = .ok (.invokevirtual 318, 3) := by decide +kernel
theorem dX11_finds_72 : decode cX11_finds 72 = .ok (.goto (-46), 3) := by decide +kernel
theorem dX11_finds_75 : decode cX11_finds 75 = .ok (.iconst 0, 1) := by decide +kernel
theorem dX11_finds_76 : decode cX11_finds 76 = .ok (.istore_n 2, 1) := by decide +kernel
theorem dX11_finds_77 : decode cX11_finds 77 = .ok (.iload_n 2, 1) := by decide +kernel
theorem dX11_finds_78 : decode cX11_finds 78 = .ok (.aload_n 0, 1) := by decide +kernel
theorem dX11_finds_79 : decode cX11_finds 79 = .ok (.getfield 203, 3) := by decide +kernel
theorem dX11_finds_82 : decode cX11_finds 82 = .ok (.if_icmp .ge 39, 3) := by decide +kernel
theorem dX11_finds_85 : decode cX11_finds 85 = .ok (.aload_n 0, 1) := by decide +kernel
theorem dX11_finds_86 : decode cX11_finds 86 = .ok (.getfield 242, 3) := by decide +kernel
theorem dX11_finds_89 : decode cX11_finds 89 = .ok (.ifCond .ne 32, 3) := by decide +kernel
theorem dX11_finds_92 : decode cX11_finds 92 = .ok (.aload_n 0, 1) := by decide +kernel
theorem dX11_finds_93 : decode cX11_finds 93 = .ok (.aload_n 0, 1) := by decide +kernel
theorem dX11_finds_94 : decode cX11_finds 94 = .ok (.getfield 137, 3) := by decide +kernel
theorem dX11_finds_97 : decode cX11_finds 97 = .ok (.iload_n 2, 1) := by decide +kernel
theorem dX11_finds_98 : decode cX11_finds 98 = .ok (.iaload, 1) := by decide +kernel
theorem dX11_finds_99 : decode cX11_finds 99 = .ok (.invokevirtual 297, 3) := by decide +kernel
theorem dX11_finds_102 : decode cX11_finds 102 = .ok (.sipush 201, 3) := by decide +kernel
theorem dX11_finds_105 : decode cX11_finds 105 = .ok (.if_icmp .ne 10, 3) := by decide +kernel
theorem dX11_finds_108 : decode cX11_finds 108 = .ok (.aload_n 0, 1) := by decide +kernel
theorem dX11_finds_109 : decode cX11_finds 109 = .ok (.bipush 10, 2) := by decide +kernel
theorem dX11_finds_111 : decode cX11_finds 111 = .ok (.iload_n 2, 1) := by decide +kernel
theorem dX11_finds_112 : decode cX11_finds 112 = .ok (.invokevirtual 281, 3) := by decide +kernel
theorem dX11_finds_115 : decode cX11_finds 115 = .ok (.iinc 2 1, 3) := by decide +kernel
theorem dX11_finds_118 : decode cX11_finds 118 = .ok (.goto (-41), 3) := by decide +kernel
theorem dX11_finds_121 : decode cX11_finds 121 = .ok (.aload_n 0, 1) := by decide +kernel
theorem dX11_finds_122 : decode cX11_finds 122 = .ok (.getfield 242, 3) := by decide +kernel
theorem dX11_finds_125 : decode cX11_finds 125 = .ok (.ifCond .ne 7, 3) := by decide +kernel
theorem dX11_finds_128 : decode cX11_finds 128 = .ok (.iconst 1, 1) := by decide +kernel
theorem dX11_finds_129 : decode cX11_finds 129 = .ok (.goto 4, 3) := by decide +kernel
theorem dX11_finds_132 : decode cX11_finds 132 = .ok (.iconst 0, 1) := by decide +kernel
theorem dX11_finds_133 : decode cX11_finds 133 = .ok (.ireturn, 1) := by decide +kernel
theorem dX11_refuses_0 : decode cX11_refuses 0 = .ok (.aload_n 0, 1) := by decide +kernel
theorem dX11_refuses_1 : decode cX11_refuses 1 = .ok (.iconst 1, 1) := by decide +kernel
theorem dX11_refuses_2 : decode cX11_refuses 2 = .ok (.putfield 321, 3) := by decide +kernel
theorem dX11_refuses_5 : decode cX11_refuses 5 = .ok (.aload_n 0, 1) := by decide +kernel
theorem dX11_refuses_6 : decode cX11_refuses 6 = .ok (.iload_n 1, 1) := by decide +kernel
theorem dX11_refuses_7 : decode cX11_refuses 7 = .ok (.putfield 325, 3) := by decide +kernel
theorem dX11_refuses_10 : decode cX11_refuses 10 = .ok (.aload_n 0, 1) := by decide +kernel
theorem dX11_refuses_11 : decode cX11_refuses 11 = .ok (.iload_n 2, 1) := by decide +kernel
theorem dX11_refuses_12 : decode cX11_refuses 12 = .ok (.putfield 328, 3) := by decide +kernel
theorem dX11_refuses_15 : decode cX11_refuses 15 = .ok (.iconst 0, 1) := by decide +kernel
theorem dX11_refuses_16 : decode cX11_refuses 16 = .ok (.ireturn, 1) := by decide +kernel
theorem dX11_begins_0 : decode cX11_begins 0 = .ok (.aload_n 0, 1) := by decide +kernel
theorem dX11_begins_1 : decode cX11_begins 1 = .ok (.iconst 0, 1) := by decide +kernel
theorem dX11_begins_2 : decode cX11_begins 2 = .ok (.putfield 161, 3) := by decide +kernel
theorem dX11_begins_5 : decode cX11_begins 5 = .ok (.aload_n 0, 1) := by decide +kernel
theorem dX11_begins_6 : decode cX11_begins 6 = .ok (.iconst 0, 1) := by decide +kernel
theorem dX11_begins_7 : decode cX11_begins 7 = .ok (.putfield 321, 3) := by decide +kernel
theorem dX11_begins_10 : decode cX11_begins 10 = .ok (.aload_n 0, 1) := by decide +kernel
theorem dX11_begins_11 : decode cX11_begins 11 = .ok (.getfield 17, 3) := by decide +kernel
theorem dX11_begins_14 : decode cX11_begins 14 = .ok (.aload_n 0, 1) := by decide +kernel
theorem dX11_begins_15 : decode cX11_begins 15 = .ok (.getfield 13, 3) := by decide +kernel
theorem dX11_begins_18 : decode cX11_begins 18 = .ok (.invokestatic 331, 3) := by decide +kernel
theorem dX11_begins_21 : decode cX11_begins 21 = .ok (.return_, 1) := by decide +kernel
theorem dX11_ends_0 : decode cX11_ends 0 = .ok (.aload_n 0, 1) := by decide +kernel
theorem dX11_ends_1 : decode cX11_ends 1 = .ok (.getfield 321, 3) := by decide +kernel
theorem dX11_ends_4 : decode cX11_ends 4 = .ok (.ifCond .eq 41, 3) := by decide +kernel
theorem dX11_ends_7 : decode cX11_ends 7 = .ok (.aload_n 0, 1) := by decide +kernel
theorem dX11_ends_8 : decode cX11_ends 8 = .ok (.getfield 13, 3) := by decide +kernel
theorem dX11_ends_11 : decode cX11_ends 11 = .ok (.aload_n 0, 1) := by decide +kernel
theorem dX11_ends_12 : decode cX11_ends 12 = .ok (.getfield 17, 3) := by decide +kernel
theorem dX11_ends_15 : decode cX11_ends 15 = .ok (.invokestatic 331, 3) := by decide +kernel
theorem dX11_ends_18 : decode cX11_ends 18 = .ok (.aload_n 0, 1) := by decide +kernel
theorem dX11_ends_19 : decode cX11_ends 19 = .ok (.aload_n 0, 1) := by decide +kernel
theorem dX11_ends_20 : decode cX11_ends 20 = .ok (.getfield 325, 3) := by decide +kernel
theorem dX11_ends_23 : decode cX11_ends 23 = .ok (.putfield 335, 3) := by decide +kernel
theorem dX11_ends_26 : decode cX11_ends 26 = .ok (.aload_n 0, 1) := by decide +kernel
theorem dX11_ends_27 : decode cX11_ends 27 = .ok (.aload_n 0, 1) := by decide +kernel
theorem dX11_ends_28 : decode cX11_ends 28 = .ok (.getfield 328, 3) := by decide +kernel
theorem dX11_ends_31 : decode cX11_ends 31 = .ok (.putfield 338, 3) := by decide +kernel
theorem dX11_ends_34 : decode cX11_ends 34 = .ok (.aload_n 0, 1) := by decide +kernel
theorem dX11_ends_35 : decode cX11_ends 35 = .ok (.iconst 0, 1) := by decide +kernel
theorem dX11_ends_36 : decode cX11_ends 36 = .ok (.putfield 341, 3) := by decide +kernel
theorem dX11_ends_39 : decode cX11_ends 39 = .ok (.aload_n 0, 1) := by decide +kernel
theorem dX11_ends_40 : decode cX11_ends 40 = .ok (.iload_n 2, 1) := by decide +kernel
theorem dX11_ends_41 : decode cX11_ends 41 = .ok (.invokevirtual 344, 3) := by decide +kernel
theorem dX11_ends_44 : decode cX11_ends 44 = .ok (.ireturn, 1) := by decide +kernel
theorem dX11_ends_45 : decode cX11_ends 45 = .ok (.aload_n 0, 1) := by decide +kernel
theorem dX11_ends_46 : decode cX11_ends 46 = .ok (.getfield 347, 3) := by decide +kernel
theorem dX11_ends_49 : decode cX11_ends 49 = .ok (.bipush 8, 2) := by decide +kernel
theorem dX11_ends_51 : decode cX11_ends 51 = .ok (.if_icmp .ne 44, 3) := by decide +kernel
theorem dX11_ends_54 : decode cX11_ends 54 = .ok (.iconst 0, 1) := by decide +kernel
theorem dX11_ends_55 : decode cX11_ends 55 = .ok (.istore_n 3, 1) := by decide +kernel
theorem dX11_ends_56 : decode cX11_ends 56 = .ok (.iload_n 3, 1) := by decide +kernel
theorem dX11_ends_57 : decode cX11_ends 57 = .ok (.sipush 3983, 3) := by decide +kernel
theorem dX11_ends_60 : decode cX11_ends 60 = .ok (.if_icmp .ge 25, 3) := by decide +kernel
theorem dX11_ends_63 : decode cX11_ends 63 = .ok (.aload_n 0, 1) := by decide +kernel
theorem dX11_ends_64 : decode cX11_ends 64 = .ok (.getfield 23, 3) := by decide +kernel
theorem dX11_ends_67 : decode cX11_ends 67 = .ok (.iload_n 3, 1) := by decide +kernel
theorem dX11_ends_68 : decode cX11_ends 68 = .ok (.aload_n 0, 1) := by decide +kernel
theorem dX11_ends_69 : decode cX11_ends 69 = .ok (.getfield 23, 3) := by decide +kernel
theorem dX11_ends_72 : decode cX11_ends 72 = .ok (.iload_n 3, 1) := by decide +kernel
theorem dX11_ends_73 : decode cX11_ends 73 = .ok (.sipush 569, 3) := by decide +kernel
theorem dX11_ends_76 : decode cX11_ends 76 = .ok (.iadd, 1) := by decide +kernel
theorem dX11_ends_77 : decode cX11_ends 77 = .ok (.iaload, 1) := by decide +kernel
theorem dX11_ends_78 : decode cX11_ends 78 = .ok (.iastore, 1) := by decide +kernel
theorem dX11_ends_79 : decode cX11_ends 79 = .ok (.iinc 3 1, 3) := by decide +kernel
theorem dX11_ends_82 : decode cX11_ends 82 = .ok (.goto (-26), 3) := by decide +kernel
theorem dX11_ends_85 : decode cX11_ends 85 = .ok (.aload_n 0, 1) := by decide +kernel
theorem dX11_ends_86 : decode cX11_ends 86 = .ok (.dup, 1) := by decide +kernel
theorem dX11_ends_87 : decode cX11_ends 87 = .ok (.getfield 347, 3) := by decide +kernel
theorem dX11_ends_90 : decode cX11_ends 90 = .ok (.iconst 1, 1) := by decide +kernel
theorem dX11_ends_91 : decode cX11_ends 91 = .ok (.isub, 1) := by decide +kernel
theorem dX11_ends_92 : decode cX11_ends 92 = .ok (.putfield 347, 3) := by decide +kernel
theorem dX11_ends_95 : decode cX11_ends 95 = .ok (.iconst 0, 1) := by decide +kernel
theorem dX11_ends_96 : decode cX11_ends 96 = .ok (.istore_n 3, 1) := by decide +kernel
theorem dX11_ends_97 : decode cX11_ends 97 = .ok (.iload_n 3, 1) := by decide +kernel
theorem dX11_ends_98 : decode cX11_ends 98 = .ok (.sipush 569, 3) := by decide +kernel
theorem dX11_ends_101 : decode cX11_ends 101 = .ok (.if_icmp .ge 30, 3) := by decide +kernel
theorem dX11_ends_104 : decode cX11_ends 104 = .ok (.aload_n 0, 1) := by decide +kernel
theorem dX11_ends_105 : decode cX11_ends 105 = .ok (.getfield 23, 3) := by decide +kernel
theorem dX11_ends_108 : decode cX11_ends 108 = .ok (.aload_n 0, 1) := by decide +kernel
theorem dX11_ends_109 : decode cX11_ends 109 = .ok (.getfield 347, 3) := by decide +kernel
theorem dX11_ends_112 : decode cX11_ends 112 = .ok (.sipush 569, 3) := by decide +kernel
theorem dX11_ends_115 : decode cX11_ends 115 = .ok (.imul, 1) := by decide +kernel
theorem dX11_ends_116 : decode cX11_ends 116 = .ok (.iload_n 3, 1) := by decide +kernel
theorem dX11_ends_117 : decode cX11_ends 117 = .ok (.iadd, 1) := by decide +kernel
theorem dX11_ends_118 : decode cX11_ends 118 = .ok (.aload_n 0, 1) := by decide +kernel
theorem dX11_ends_119 : decode cX11_ends 119 = .ok (.getfield 17, 3) := by decide +kernel
theorem dX11_ends_122 : decode cX11_ends 122 = .ok (.iload_n 3, 1) := by decide +kernel
theorem dX11_ends_123 : decode cX11_ends 123 = .ok (.iaload, 1) := by decide +kernel
theorem dX11_ends_124 : decode cX11_ends 124 = .ok (.iastore, 1) := by decide +kernel
theorem dX11_ends_125 : decode cX11_ends 125 = .ok (.iinc 3 1, 3) := by decide +kernel
theorem dX11_ends_128 : decode cX11_ends 128 = .ok (.goto (-31), 3) := by decide +kernel
theorem dX11_ends_131 : decode cX11_ends 131 = .ok (.aload_n 0, 1) := by decide +kernel
theorem dX11_ends_132 : decode cX11_ends 132 = .ok (.dup, 1) := by decide +kernel
theorem dX11_ends_133 : decode cX11_ends 133 = .ok (.getfield 347, 3) := by decide +kernel
theorem dX11_ends_136 : decode cX11_ends 136 = .ok (.iconst 1, 1) := by decide +kernel
theorem dX11_ends_137 : decode cX11_ends 137 = .ok (.iadd, 1) := by decide +kernel
theorem dX11_ends_138 : decode cX11_ends 138 = .ok (.putfield 347, 3) := by decide +kernel
theorem dX11_ends_141 : decode cX11_ends 141 = .ok (.iload_n 1, 1) := by decide +kernel
theorem dX11_ends_142 : decode cX11_ends 142 = .ok (.ireturn, 1) := by decide +kernel
theorem dX11_lesson_0 : decode cX11_lesson 0 = .ok (.aload_n 0, 1) := by decide +kernel
theorem dX11_lesson_1 : decode cX11_lesson 1 = .ok (.invokevirtual 350, 3) := by decide +kernel
theorem dX11_lesson_4 : decode cX11_lesson 4 = .ok (.aload_n 0, 1) := by decide +kernel
theorem dX11_lesson_5 : decode cX11_lesson 5 = .ok (.aload_n 0, 1) := by decide +kernel
theorem dX11_lesson_6 : decode cX11_lesson 6 = .ok (.aload_n 0, 1) := by decide +kernel
theorem dX11_lesson_7 : decode cX11_lesson 7 = .ok (.getfield 149, 3) := by decide +kernel
theorem dX11_lesson_10 : decode cX11_lesson 10 = .ok (.iconst 0, 1) := by decide +kernel
theorem dX11_lesson_11 : decode cX11_lesson 11 = .ok (.aload_n 0, 1) := by decide +kernel
theorem dX11_lesson_12 : decode cX11_lesson 12 = .ok (.getfield 353, 3) := by decide +kernel
theorem dX11_lesson_15 : decode cX11_lesson 15 = .ok (.invokevirtual 209, 3) := by decide +kernel
theorem dX11_lesson_18 : decode cX11_lesson 18 = .ok (.putfield 7, 3) := by decide +kernel
theorem dX11_lesson_21 : decode cX11_lesson 21 = .ok (.aload_n 0, 1) := by decide +kernel
theorem dX11_lesson_22 : decode cX11_lesson 22 = .ok (.getfield 353, 3) := by decide +kernel
theorem dX11_lesson_25 : decode cX11_lesson 25 = .ok (.istore_n 1, 1) := by decide +kernel
theorem dX11_lesson_26 : decode cX11_lesson 26 = .ok (.aload_n 0, 1) := by decide +kernel
theorem dX11_lesson_27 : decode cX11_lesson 27 = .ok (.iconst 0, 1) := by decide +kernel
theorem dX11_lesson_28 : decode cX11_lesson 28 = .ok (.putfield 353, 3) := by decide +kernel
theorem dX11_lesson_31 : decode cX11_lesson 31 = .ok (.aload_n 0, 1) := by decide +kernel
theorem dX11_lesson_32 : decode cX11_lesson 32 = .ok (.getfield 7, 3) := by decide +kernel
theorem dX11_lesson_35 : decode cX11_lesson 35 = .ok (.ifCond .lt 9, 3) := by decide +kernel
theorem dX11_lesson_38 : decode cX11_lesson 38 = .ok (.aload_n 0, 1) := by decide +kernel
theorem dX11_lesson_39 : decode cX11_lesson 39 = .ok (.iconst 1, 1) := by decide +kernel
theorem dX11_lesson_40 : decode cX11_lesson 40 = .ok (.invokevirtual 344, 3) := by decide +kernel
theorem dX11_lesson_43 : decode cX11_lesson 43 = .ok (.ireturn, 1) := by decide +kernel
theorem dX11_lesson_44 : decode cX11_lesson 44 = .ok (.aload_n 0, 1) := by decide +kernel
theorem dX11_lesson_45 : decode cX11_lesson 45 = .ok (.getfield 13, 3) := by decide +kernel
theorem dX11_lesson_48 : decode cX11_lesson 48 = .ok (.iconst 0, 1) := by decide +kernel
theorem dX11_lesson_49 : decode cX11_lesson 49 = .ok (.iaload, 1) := by decide +kernel
theorem dX11_lesson_50 : decode cX11_lesson 50 = .ok (.istore_n 2, 1) := by decide +kernel
theorem dX11_lesson_51 : decode cX11_lesson 51 = .ok (.iload_n 2, 1) := by decide +kernel
theorem dX11_lesson_52 : decode cX11_lesson 52 = .ok (.bipush 6, 2) := by decide +kernel
theorem dX11_lesson_54 : decode cX11_lesson 54 = .ok (.if_icmp .ne 16, 3) := by decide +kernel
theorem dX11_lesson_57 : decode cX11_lesson 57 = .ok (.aload_n 0, 1) := by decide +kernel
theorem dX11_lesson_58 : decode cX11_lesson 58 = .ok (.aload_n 0, 1) := by decide +kernel
theorem dX11_lesson_59 : decode cX11_lesson 59 = .ok (.iconst 1, 1) := by decide +kernel
theorem dX11_lesson_60 : decode cX11_lesson 60 = .ok (.bipush 6, 2) := by decide +kernel
theorem dX11_lesson_62 : decode cX11_lesson 62 = .ok (.invokevirtual 356, 3) := by decide +kernel
theorem dX11_lesson_65 : decode cX11_lesson 65 = .ok (.iconst 2, 1) := by decide +kernel
theorem dX11_lesson_66 : decode cX11_lesson 66 = .ok (.invokevirtual 359, 3) := by decide +kernel
theorem dX11_lesson_69 : decode cX11_lesson 69 = .ok (.ireturn, 1) := by decide +kernel
theorem dX11_lesson_70 : decode cX11_lesson 70 = .ok (.aload_n 0, 1) := by decide +kernel
theorem dX11_lesson_71 : decode cX11_lesson 71 = .ok (.getfield 13, 3) := by decide +kernel
theorem dX11_lesson_74 : decode cX11_lesson 74 = .ok (.iload_n 2, 1) := by decide +kernel
theorem dX11_lesson_75 : decode cX11_lesson 75 = .ok (.invokestatic 206, 3) := by decide +kernel
theorem dX11_lesson_78 : decode cX11_lesson 78 = .ok (.iload_n 1, 1) := by decide +kernel
theorem dX11_lesson_79 : decode cX11_lesson 79 = .ok (.iastore, 1) := by decide +kernel
theorem dX11_lesson_80 : decode cX11_lesson 80 = .ok (.iconst 0, 1) := by decide +kernel
theorem dX11_lesson_81 : decode cX11_lesson 81 = .ok (.istore_n 3, 1) := by decide +kernel
theorem dX11_lesson_82 : decode cX11_lesson 82 = .ok (.iload_n 3, 1) := by decide +kernel
theorem dX11_lesson_83 : decode cX11_lesson 83 = .ok (.bipush 60, 2) := by decide +kernel
theorem dX11_lesson_85 : decode cX11_lesson 85 = .ok (.if_icmp .ge 37, 3) := by decide +kernel
theorem dX11_lesson_88 : decode cX11_lesson 88 = .ok (.aload_n 0, 1) := by decide +kernel
theorem dX11_lesson_89 : decode cX11_lesson 89 = .ok (.getfield 13, 3) := by decide +kernel
theorem dX11_lesson_92 : decode cX11_lesson 92 = .ok (.iload_n 2, 1) := by decide +kernel
theorem dX11_lesson_93 : decode cX11_lesson 93 = .ok (.invokestatic 206, 3) := by decide +kernel
theorem dX11_lesson_96 : decode cX11_lesson 96 = .ok (.iconst 1, 1) := by decide +kernel
theorem dX11_lesson_97 : decode cX11_lesson 97 = .ok (.iadd, 1) := by decide +kernel
theorem dX11_lesson_98 : decode cX11_lesson 98 = .ok (.iload_n 3, 1) := by decide +kernel
theorem dX11_lesson_99 : decode cX11_lesson 99 = .ok (.iadd, 1) := by decide +kernel
theorem dX11_lesson_100 : decode cX11_lesson 100 = .ok (.iload_n 3, 1) := by decide +kernel
theorem dX11_lesson_101 : decode cX11_lesson 101 = .ok (.iload_n 1, 1) := by decide +kernel
theorem dX11_lesson_102 : decode cX11_lesson 102 = .ok (.if_icmp .ge 12, 3) := by decide +kernel
theorem dX11_lesson_105 : decode cX11_lesson 105 = .ok (.aload_n 0, 1) := by decide +kernel
theorem dX11_lesson_106 : decode cX11_lesson 106 = .ok (.getfield 149, 3) := by decide +kernel
theorem dX11_lesson_109 : decode cX11_lesson 109 = .ok (.iload_n 3, 1) := by decide +kernel
theorem dX11_lesson_110 : decode cX11_lesson 110 = .ok (.iaload, 1) := by decide +kernel
theorem dX11_lesson_111 : decode cX11_lesson 111 = .ok (.goto 4, 3) := by decide +kernel
theorem dX11_lesson_114 : decode cX11_lesson 114 = .ok (.iconst 0, 1) := by decide +kernel
theorem dX11_lesson_115 : decode cX11_lesson 115 = .ok (.iastore, 1) := by decide +kernel
theorem dX11_lesson_116 : decode cX11_lesson 116 = .ok (.iinc 3 1, 3) := by decide +kernel
theorem dX11_lesson_119 : decode cX11_lesson 119 = .ok (.goto (-37), 3) := by decide +kernel
theorem dX11_lesson_122 : decode cX11_lesson 122 = .ok (.aload_n 0, 1) := by decide +kernel
theorem dX11_lesson_123 : decode cX11_lesson 123 = .ok (.getfield 13, 3) := by decide +kernel
theorem dX11_lesson_126 : decode cX11_lesson 126 = .ok (.iconst 0, 1) := by decide +kernel
theorem dX11_lesson_127 : decode cX11_lesson 127 = .ok (.dup2, 1) := by decide +kernel
theorem dX11_lesson_128 : decode cX11_lesson 128 = .ok (.iaload, 1) := by decide +kernel
theorem dX11_lesson_129 : decode cX11_lesson 129 = .ok (.iconst 1, 1) := by decide +kernel
theorem dX11_lesson_130 : decode cX11_lesson 130 = .ok (.iadd, 1) := by decide +kernel
theorem dX11_lesson_131 : decode cX11_lesson 131 = .ok (.iastore, 1) := by decide +kernel
theorem dX11_lesson_132 : decode cX11_lesson 132 = .ok (.aload_n 0, 1) := by decide +kernel
theorem dX11_lesson_133 : decode cX11_lesson 133 = .ok (.getfield 13, 3) := by decide +kernel
theorem dX11_lesson_136 : decode cX11_lesson 136 = .ok (.iconst 1, 1) := by decide +kernel
theorem dX11_lesson_137 : decode cX11_lesson 137 = .ok (.dup2, 1) := by decide +kernel
theorem dX11_lesson_138 : decode cX11_lesson 138 = .ok (.iaload, 1) := by decide +kernel
theorem dX11_lesson_139 : decode cX11_lesson 139 = .ok (.iconst 1, 1) := by decide +kernel
theorem dX11_lesson_140 : decode cX11_lesson 140 = .ok (.iadd, 1) := by decide +kernel
theorem dX11_lesson_141 : decode cX11_lesson 141 = .ok (.iastore, 1) := by decide +kernel
theorem dX11_lesson_142 : decode cX11_lesson 142 = .ok (.aload_n 0, 1) := by decide +kernel
theorem dX11_lesson_143 : decode cX11_lesson 143 = .ok (.iload_n 2, 1) := by decide +kernel
theorem dX11_lesson_144 : decode cX11_lesson 144 = .ok (.iconst 2, 1) := by decide +kernel
theorem dX11_lesson_145 : decode cX11_lesson 145 = .ok (.invokevirtual 359, 3) := by decide +kernel
theorem dX11_lesson_148 : decode cX11_lesson 148 = .ok (.ireturn, 1) := by decide +kernel
theorem dX11_drops_0 : decode cX11_drops 0 = .ok (.aload_n 0, 1) := by decide +kernel
theorem dX11_drops_1 : decode cX11_drops 1 = .ok (.iload_n 1, 1) := by decide +kernel
theorem dX11_drops_2 : decode cX11_drops 2 = .ok (.invokevirtual 361, 3) := by decide +kernel
theorem dX11_drops_5 : decode cX11_drops 5 = .ok (.ifCond .ne 10, 3) := by decide +kernel
theorem dX11_drops_8 : decode cX11_drops 8 = .ok (.aload_n 0, 1) := by decide +kernel
theorem dX11_drops_9 : decode cX11_drops 9 = .ok (.iconst 2, 1) := by decide +kernel
theorem dX11_drops_10 : decode cX11_drops 10 = .ok (.iload_n 1, 1) := by decide +kernel
theorem dX11_drops_11 : decode cX11_drops 11 = .ok (.invokevirtual 356, 3) := by decide +kernel
theorem dX11_drops_14 : decode cX11_drops 14 = .ok (.ireturn, 1) := by decide +kernel
theorem dX11_drops_15 : decode cX11_drops 15 = .ok (.aload_n 0, 1) := by decide +kernel
theorem dX11_drops_16 : decode cX11_drops 16 = .ok (.iload_n 1, 1) := by decide +kernel
theorem dX11_drops_17 : decode cX11_drops 17 = .ok (.invokevirtual 315, 3) := by decide +kernel
theorem dX11_drops_20 : decode cX11_drops 20 = .ok (.iload_n 1, 1) := by decide +kernel
theorem dX11_drops_21 : decode cX11_drops 21 = .ok (.invokestatic 206, 3) := by decide +kernel
theorem dX11_drops_24 : decode cX11_drops 24 = .ok (.istore_n 2, 1) := by decide +kernel
theorem dX11_drops_25 : decode cX11_drops 25 = .ok (.iload_n 2, 1) := by decide +kernel
theorem dX11_drops_26 : decode cX11_drops 26 = .ok (.iconst 5, 1) := by decide +kernel
theorem dX11_drops_27 : decode cX11_drops 27 = .ok (.invokestatic 206, 3) := by decide +kernel
theorem dX11_drops_30 : decode cX11_drops 30 = .ok (.if_icmp .ge 24, 3) := by decide +kernel
theorem dX11_drops_33 : decode cX11_drops 33 = .ok (.aload_n 0, 1) := by decide +kernel
theorem dX11_drops_34 : decode cX11_drops 34 = .ok (.getfield 13, 3) := by decide +kernel
theorem dX11_drops_37 : decode cX11_drops 37 = .ok (.iload_n 2, 1) := by decide +kernel
theorem dX11_drops_38 : decode cX11_drops 38 = .ok (.aload_n 0, 1) := by decide +kernel
theorem dX11_drops_39 : decode cX11_drops 39 = .ok (.getfield 13, 3) := by decide +kernel
theorem dX11_drops_42 : decode cX11_drops 42 = .ok (.iload_n 2, 1) := by decide +kernel
theorem dX11_drops_43 : decode cX11_drops 43 = .ok (.bipush 61, 2) := by decide +kernel
theorem dX11_drops_45 : decode cX11_drops 45 = .ok (.iadd, 1) := by decide +kernel
theorem dX11_drops_46 : decode cX11_drops 46 = .ok (.iaload, 1) := by decide +kernel
theorem dX11_drops_47 : decode cX11_drops 47 = .ok (.iastore, 1) := by decide +kernel
theorem dX11_drops_48 : decode cX11_drops 48 = .ok (.iinc 2 1, 3) := by decide +kernel
theorem dX11_drops_51 : decode cX11_drops 51 = .ok (.goto (-26), 3) := by decide +kernel
theorem dX11_drops_54 : decode cX11_drops 54 = .ok (.iconst 5, 1) := by decide +kernel
theorem dX11_drops_55 : decode cX11_drops 55 = .ok (.invokestatic 206, 3) := by decide +kernel
theorem dX11_drops_58 : decode cX11_drops 58 = .ok (.istore_n 2, 1) := by decide +kernel
theorem dX11_drops_59 : decode cX11_drops 59 = .ok (.iload_n 2, 1) := by decide +kernel
theorem dX11_drops_60 : decode cX11_drops 60 = .ok (.sipush 369, 3) := by decide +kernel
theorem dX11_drops_63 : decode cX11_drops 63 = .ok (.if_icmp .ge 16, 3) := by decide +kernel
theorem dX11_drops_66 : decode cX11_drops 66 = .ok (.aload_n 0, 1) := by decide +kernel
theorem dX11_drops_67 : decode cX11_drops 67 = .ok (.getfield 13, 3) := by decide +kernel
theorem dX11_drops_70 : decode cX11_drops 70 = .ok (.iload_n 2, 1) := by decide +kernel
theorem dX11_drops_71 : decode cX11_drops 71 = .ok (.iconst 0, 1) := by decide +kernel
theorem dX11_drops_72 : decode cX11_drops 72 = .ok (.iastore, 1) := by decide +kernel
theorem dX11_drops_73 : decode cX11_drops 73 = .ok (.iinc 2 1, 3) := by decide +kernel
theorem dX11_drops_76 : decode cX11_drops 76 = .ok (.goto (-17), 3) := by decide +kernel
theorem dX11_drops_79 : decode cX11_drops 79 = .ok (.aload_n 0, 1) := by decide +kernel
theorem dX11_drops_80 : decode cX11_drops 80 = .ok (.getfield 13, 3) := by decide +kernel
theorem dX11_drops_83 : decode cX11_drops 83 = .ok (.iconst 0, 1) := by decide +kernel
theorem dX11_drops_84 : decode cX11_drops 84 = .ok (.dup2, 1) := by decide +kernel
theorem dX11_drops_85 : decode cX11_drops 85 = .ok (.iaload, 1) := by decide +kernel
theorem dX11_drops_86 : decode cX11_drops 86 = .ok (.iconst 1, 1) := by decide +kernel
theorem dX11_drops_87 : decode cX11_drops 87 = .ok (.isub, 1) := by decide +kernel
theorem dX11_drops_88 : decode cX11_drops 88 = .ok (.iastore, 1) := by decide +kernel
theorem dX11_drops_89 : decode cX11_drops 89 = .ok (.aload_n 0, 1) := by decide +kernel
theorem dX11_drops_90 : decode cX11_drops 90 = .ok (.getfield 203, 3) := by decide +kernel
theorem dX11_drops_93 : decode cX11_drops 93 = .ok (.ireturn, 1) := by decide +kernel
theorem dX11_drop_0 : decode cX11_drop 0 = .ok (.aload_n 0, 1) := by decide +kernel
theorem dX11_drop_1 : decode cX11_drop 1 = .ok (.invokevirtual 350, 3) := by decide +kernel
theorem dX11_drop_4 : decode cX11_drop 4 = .ok (.aload_n 0, 1) := by decide +kernel
theorem dX11_drop_5 : decode cX11_drop 5 = .ok (.aload_n 0, 1) := by decide +kernel
theorem dX11_drop_6 : decode cX11_drop 6 = .ok (.iload_n 1, 1) := by decide +kernel
theorem dX11_drop_7 : decode cX11_drop 7 = .ok (.invokevirtual 364, 3) := by decide +kernel
theorem dX11_drop_10 : decode cX11_drop 10 = .ok (.iconst 1, 1) := by decide +kernel
theorem dX11_drop_11 : decode cX11_drop 11 = .ok (.invokevirtual 359, 3) := by decide +kernel
theorem dX11_drop_14 : decode cX11_drop 14 = .ok (.ireturn, 1) := by decide +kernel
theorem dX11_keeps_0 : decode cX11_keeps 0 = .ok (.aload_n 0, 1) := by decide +kernel
theorem dX11_keeps_1 : decode cX11_keeps 1 = .ok (.iload_n 1, 1) := by decide +kernel
theorem dX11_keeps_2 : decode cX11_keeps 2 = .ok (.invokevirtual 361, 3) := by decide +kernel
theorem dX11_keeps_5 : decode cX11_keeps 5 = .ok (.ifCond .ne 10, 3) := by decide +kernel
theorem dX11_keeps_8 : decode cX11_keeps 8 = .ok (.aload_n 0, 1) := by decide +kernel
theorem dX11_keeps_9 : decode cX11_keeps 9 = .ok (.iconst 2, 1) := by decide +kernel
theorem dX11_keeps_10 : decode cX11_keeps 10 = .ok (.iload_n 1, 1) := by decide +kernel
theorem dX11_keeps_11 : decode cX11_keeps 11 = .ok (.invokevirtual 356, 3) := by decide +kernel
theorem dX11_keeps_14 : decode cX11_keeps 14 = .ok (.ireturn, 1) := by decide +kernel
theorem dX11_keeps_15 : decode cX11_keeps 15 = .ok (.iload_n 2, 1) := by decide +kernel
theorem dX11_keeps_16 : decode cX11_keeps 16 = .ok (.iconst 0, 1) := by decide +kernel
theorem dX11_keeps_17 : decode cX11_keeps 17 = .ok (.bipush 7, 2) := by decide +kernel
theorem dX11_keeps_19 : decode cX11_keeps 19 = .ok (.invokestatic 164, 3) := by decide +kernel
theorem dX11_keeps_22 : decode cX11_keeps 22 = .ok (.ifCond .ne 11, 3) := by decide +kernel
theorem dX11_keeps_25 : decode cX11_keeps 25 = .ok (.aload_n 0, 1) := by decide +kernel
theorem dX11_keeps_26 : decode cX11_keeps 26 = .ok (.bipush 8, 2) := by decide +kernel
theorem dX11_keeps_28 : decode cX11_keeps 28 = .ok (.iload_n 2, 1) := by decide +kernel
theorem dX11_keeps_29 : decode cX11_keeps 29 = .ok (.invokevirtual 356, 3) := by decide +kernel
theorem dX11_keeps_32 : decode cX11_keeps 32 = .ok (.ireturn, 1) := by decide +kernel
theorem dX11_keeps_33 : decode cX11_keeps 33 = .ok (.aload_n 0, 1) := by decide +kernel
theorem dX11_keeps_34 : decode cX11_keeps 34 = .ok (.iload_n 1, 1) := by decide +kernel
theorem dX11_keeps_35 : decode cX11_keeps 35 = .ok (.invokevirtual 367, 3) := by decide +kernel
theorem dX11_keeps_38 : decode cX11_keeps 38 = .ok (.ifCond .ne 16, 3) := by decide +kernel
theorem dX11_keeps_41 : decode cX11_keeps 41 = .ok (.aload_n 0, 1) := by decide +kernel
theorem dX11_keeps_42 : decode cX11_keeps 42 = .ok (.aload_n 0, 1) := by decide +kernel
theorem dX11_keeps_43 : decode cX11_keeps 43 = .ok (.getfield 242, 3) := by decide +kernel
theorem dX11_keeps_46 : decode cX11_keeps 46 = .ok (.aload_n 0, 1) := by decide +kernel
theorem dX11_keeps_47 : decode cX11_keeps 47 = .ok (.getfield 275, 3) := by decide +kernel
theorem dX11_keeps_50 : decode cX11_keeps 50 = .ok (.invokevirtual 356, 3) := by decide +kernel
theorem dX11_keeps_53 : decode cX11_keeps 53 = .ok (.ireturn, 1) := by decide +kernel
theorem dX11_keeps_54 : decode cX11_keeps 54 = .ok (.aload_n 0, 1) := by decide +kernel
theorem dX11_keeps_55 : decode cX11_keeps 55 = .ok (.aload_n 0, 1) := by decide +kernel
theorem dX11_keeps_56 : decode cX11_keeps 56 = .ok (.getfield 137, 3) := by decide +kernel
theorem dX11_keeps_59 : decode cX11_keeps 59 = .ok (.iconst 0, 1) := by decide +kernel
theorem dX11_keeps_60 : decode cX11_keeps 60 = .ok (.iaload, 1) := by decide +kernel
theorem dX11_keeps_61 : decode cX11_keeps 61 = .ok (.invokevirtual 370, 3) := by decide +kernel
theorem dX11_keeps_64 : decode cX11_keeps 64 = .ok (.aload_n 0, 1) := by decide +kernel
theorem dX11_keeps_65 : decode cX11_keeps 65 = .ok (.getfield 262, 3) := by decide +kernel
theorem dX11_keeps_68 : decode cX11_keeps 68 = .ok (.bipush 24, 2) := by decide +kernel
theorem dX11_keeps_70 : decode cX11_keeps 70 = .ok (.if_icmp .le 14, 3) := by decide +kernel
theorem dX11_keeps_73 : decode cX11_keeps 73 = .ok (.aload_n 0, 1) := by decide +kernel
theorem dX11_keeps_74 : decode cX11_keeps 74 = .ok (.bipush 7, 2) := by decide +kernel
theorem dX11_keeps_76 : decode cX11_keeps 76 = .ok (.aload_n 0, 1) := by decide +kernel
theorem dX11_keeps_77 : decode cX11_keeps 77 = .ok (.getfield 262, 3) := by decide +kernel
theorem dX11_keeps_80 : decode cX11_keeps 80 = .ok (.invokevirtual 356, 3) := by decide +kernel
theorem dX11_keeps_83 : decode cX11_keeps 83 = .ok (.ireturn, 1) := by decide +kernel
theorem dX11_keeps_84 : decode cX11_keeps 84 = .ok (.aload_n 0, 1) := by decide +kernel
theorem dX11_keeps_85 : decode cX11_keeps 85 = .ok (.getfield 13, 3) := by decide +kernel
theorem dX11_keeps_88 : decode cX11_keeps 88 = .ok (.iload_n 2, 1) := by decide +kernel
theorem dX11_keeps_89 : decode cX11_keeps 89 = .ok (.invokestatic 278, 3) := by decide +kernel
theorem dX11_keeps_92 : decode cX11_keeps 92 = .ok (.aload_n 0, 1) := by decide +kernel
theorem dX11_keeps_93 : decode cX11_keeps 93 = .ok (.getfield 262, 3) := by decide +kernel
theorem dX11_keeps_96 : decode cX11_keeps 96 = .ok (.iastore, 1) := by decide +kernel
theorem dX11_keeps_97 : decode cX11_keeps 97 = .ok (.iconst 0, 1) := by decide +kernel
theorem dX11_keeps_98 : decode cX11_keeps 98 = .ok (.istore_n 3, 1) := by decide +kernel
theorem dX11_keeps_99 : decode cX11_keeps 99 = .ok (.iload_n 3, 1) := by decide +kernel
theorem dX11_keeps_100 : decode cX11_keeps 100 = .ok (.bipush 24, 2) := by decide +kernel
theorem dX11_keeps_102 : decode cX11_keeps 102 = .ok (.if_icmp .ge 40, 3) := by decide +kernel
theorem dX11_keeps_105 : decode cX11_keeps 105 = .ok (.aload_n 0, 1) := by decide +kernel
theorem dX11_keeps_106 : decode cX11_keeps 106 = .ok (.getfield 13, 3) := by decide +kernel
theorem dX11_keeps_109 : decode cX11_keeps 109 = .ok (.iload_n 2, 1) := by decide +kernel
theorem dX11_keeps_110 : decode cX11_keeps 110 = .ok (.invokestatic 278, 3) := by decide +kernel
theorem dX11_keeps_113 : decode cX11_keeps 113 = .ok (.iconst 1, 1) := by decide +kernel
theorem dX11_keeps_114 : decode cX11_keeps 114 = .ok (.iadd, 1) := by decide +kernel
theorem dX11_keeps_115 : decode cX11_keeps 115 = .ok (.iload_n 3, 1) := by decide +kernel
theorem dX11_keeps_116 : decode cX11_keeps 116 = .ok (.iadd, 1) := by decide +kernel
theorem dX11_keeps_117 : decode cX11_keeps 117 = .ok (.iload_n 3, 1) := by decide +kernel
theorem dX11_keeps_118 : decode cX11_keeps 118 = .ok (.aload_n 0, 1) := by decide +kernel
theorem dX11_keeps_119 : decode cX11_keeps 119 = .ok (.getfield 262, 3) := by decide +kernel
theorem dX11_keeps_122 : decode cX11_keeps 122 = .ok (.if_icmp .ge 12, 3) := by decide +kernel
theorem dX11_keeps_125 : decode cX11_keeps 125 = .ok (.aload_n 0, 1) := by decide +kernel
theorem dX11_keeps_126 : decode cX11_keeps 126 = .ok (.getfield 119, 3) := by decide +kernel
theorem dX11_keeps_129 : decode cX11_keeps 129 = .ok (.iload_n 3, 1) := by decide +kernel
theorem dX11_keeps_130 : decode cX11_keeps 130 = .ok (.iaload, 1) := by decide +kernel
theorem dX11_keeps_131 : decode cX11_keeps 131 = .ok (.goto 4, 3) := by decide +kernel
theorem dX11_keeps_134 : decode cX11_keeps 134 = .ok (.iconst 0, 1) := by decide +kernel
theorem dX11_keeps_135 : decode cX11_keeps 135 = .ok (.iastore, 1) := by decide +kernel
theorem dX11_keeps_136 : decode cX11_keeps 136 = .ok (.iinc 3 1, 3) := by decide +kernel
theorem dX11_keeps_139 : decode cX11_keeps 139 = .ok (.goto (-40), 3) := by decide +kernel
theorem dX11_keeps_142 : decode cX11_keeps 142 = .ok (.aload_n 0, 1) := by decide +kernel
theorem dX11_keeps_143 : decode cX11_keeps 143 = .ok (.getfield 13, 3) := by decide +kernel
theorem dX11_keeps_146 : decode cX11_keeps 146 = .ok (.iconst 2, 1) := by decide +kernel
theorem dX11_keeps_147 : decode cX11_keeps 147 = .ok (.dup2, 1) := by decide +kernel
theorem dX11_keeps_148 : decode cX11_keeps 148 = .ok (.iaload, 1) := by decide +kernel
theorem dX11_keeps_149 : decode cX11_keeps 149 = .ok (.iconst 1, 1) := by decide +kernel
theorem dX11_keeps_150 : decode cX11_keeps 150 = .ok (.iadd, 1) := by decide +kernel
theorem dX11_keeps_151 : decode cX11_keeps 151 = .ok (.iastore, 1) := by decide +kernel
theorem dX11_keeps_152 : decode cX11_keeps 152 = .ok (.aload_n 0, 1) := by decide +kernel
theorem dX11_keeps_153 : decode cX11_keeps 153 = .ok (.getfield 265, 3) := by decide +kernel
theorem dX11_keeps_156 : decode cX11_keeps 156 = .ok (.ireturn, 1) := by decide +kernel
theorem dX11_keep_0 : decode cX11_keep 0 = .ok (.aload_n 0, 1) := by decide +kernel
theorem dX11_keep_1 : decode cX11_keep 1 = .ok (.invokevirtual 350, 3) := by decide +kernel
theorem dX11_keep_4 : decode cX11_keep 4 = .ok (.aload_n 0, 1) := by decide +kernel
theorem dX11_keep_5 : decode cX11_keep 5 = .ok (.aload_n 0, 1) := by decide +kernel
theorem dX11_keep_6 : decode cX11_keep 6 = .ok (.iload_n 1, 1) := by decide +kernel
theorem dX11_keep_7 : decode cX11_keep 7 = .ok (.iload_n 2, 1) := by decide +kernel
theorem dX11_keep_8 : decode cX11_keep 8 = .ok (.invokevirtual 373, 3) := by decide +kernel
theorem dX11_keep_11 : decode cX11_keep 11 = .ok (.iconst 1, 1) := by decide +kernel
theorem dX11_keep_12 : decode cX11_keep 12 = .ok (.invokevirtual 359, 3) := by decide +kernel
theorem dX11_keep_15 : decode cX11_keep 15 = .ok (.ireturn, 1) := by decide +kernel
theorem dX11_unkeeps_0 : decode cX11_unkeeps 0 = .ok (.iload_n 1, 1) := by decide +kernel
theorem dX11_unkeeps_1 : decode cX11_unkeeps 1 = .ok (.iconst 0, 1) := by decide +kernel
theorem dX11_unkeeps_2 : decode cX11_unkeeps 2 = .ok (.bipush 7, 2) := by decide +kernel
theorem dX11_unkeeps_4 : decode cX11_unkeeps 4 = .ok (.invokestatic 164, 3) := by decide +kernel
theorem dX11_unkeeps_7 : decode cX11_unkeeps 7 = .ok (.ifCond .ne 11, 3) := by decide +kernel
theorem dX11_unkeeps_10 : decode cX11_unkeeps 10 = .ok (.aload_n 0, 1) := by decide +kernel
theorem dX11_unkeeps_11 : decode cX11_unkeeps 11 = .ok (.bipush 8, 2) := by decide +kernel
theorem dX11_unkeeps_13 : decode cX11_unkeeps 13 = .ok (.iload_n 1, 1) := by decide +kernel
theorem dX11_unkeeps_14 : decode cX11_unkeeps 14 = .ok (.invokevirtual 356, 3) := by decide +kernel
theorem dX11_unkeeps_17 : decode cX11_unkeeps 17 = .ok (.ireturn, 1) := by decide +kernel
theorem dX11_unkeeps_18 : decode cX11_unkeeps 18 = .ok (.aload_n 0, 1) := by decide +kernel
theorem dX11_unkeeps_19 : decode cX11_unkeeps 19 = .ok (.getfield 13, 3) := by decide +kernel
theorem dX11_unkeeps_22 : decode cX11_unkeeps 22 = .ok (.iload_n 1, 1) := by decide +kernel
theorem dX11_unkeeps_23 : decode cX11_unkeeps 23 = .ok (.invokestatic 278, 3) := by decide +kernel
theorem dX11_unkeeps_26 : decode cX11_unkeeps 26 = .ok (.iaload, 1) := by decide +kernel
theorem dX11_unkeeps_27 : decode cX11_unkeeps 27 = .ok (.istore_n 2, 1) := by decide +kernel
theorem dX11_unkeeps_28 : decode cX11_unkeeps 28 = .ok (.iload_n 2, 1) := by decide +kernel
theorem dX11_unkeeps_29 : decode cX11_unkeeps 29 = .ok (.ifCond .ne 11, 3) := by decide +kernel
theorem dX11_unkeeps_32 : decode cX11_unkeeps 32 = .ok (.aload_n 0, 1) := by decide +kernel
theorem dX11_unkeeps_33 : decode cX11_unkeeps 33 = .ok (.bipush 6, 2) := by decide +kernel
theorem dX11_unkeeps_35 : decode cX11_unkeeps 35 = .ok (.iload_n 1, 1) := by decide +kernel
theorem dX11_unkeeps_36 : decode cX11_unkeeps 36 = .ok (.invokevirtual 356, 3) := by decide +kernel
theorem dX11_unkeeps_39 : decode cX11_unkeeps 39 = .ok (.ireturn, 1) := by decide +kernel
theorem dX11_unkeeps_40 : decode cX11_unkeeps 40 = .ok (.iconst 0, 1) := by decide +kernel
theorem dX11_unkeeps_41 : decode cX11_unkeeps 41 = .ok (.istore_n 3, 1) := by decide +kernel
theorem dX11_unkeeps_42 : decode cX11_unkeeps 42 = .ok (.iload_n 3, 1) := by decide +kernel
theorem dX11_unkeeps_43 : decode cX11_unkeeps 43 = .ok (.bipush 25, 2) := by decide +kernel
theorem dX11_unkeeps_45 : decode cX11_unkeeps 45 = .ok (.if_icmp .ge 21, 3) := by decide +kernel
theorem dX11_unkeeps_48 : decode cX11_unkeeps 48 = .ok (.aload_n 0, 1) := by decide +kernel
theorem dX11_unkeeps_49 : decode cX11_unkeeps 49 = .ok (.getfield 13, 3) := by decide +kernel
theorem dX11_unkeeps_52 : decode cX11_unkeeps 52 = .ok (.iload_n 1, 1) := by decide +kernel
theorem dX11_unkeeps_53 : decode cX11_unkeeps 53 = .ok (.invokestatic 278, 3) := by decide +kernel
theorem dX11_unkeeps_56 : decode cX11_unkeeps 56 = .ok (.iload_n 3, 1) := by decide +kernel
theorem dX11_unkeeps_57 : decode cX11_unkeeps 57 = .ok (.iadd, 1) := by decide +kernel
theorem dX11_unkeeps_58 : decode cX11_unkeeps 58 = .ok (.iconst 0, 1) := by decide +kernel
theorem dX11_unkeeps_59 : decode cX11_unkeeps 59 = .ok (.iastore, 1) := by decide +kernel
theorem dX11_unkeeps_60 : decode cX11_unkeeps 60 = .ok (.iinc 3 1, 3) := by decide +kernel
theorem dX11_unkeeps_63 : decode cX11_unkeeps 63 = .ok (.goto (-21), 3) := by decide +kernel
theorem dX11_unkeeps_66 : decode cX11_unkeeps 66 = .ok (.iload_n 2, 1) := by decide +kernel
theorem dX11_unkeeps_67 : decode cX11_unkeeps 67 = .ok (.ireturn, 1) := by decide +kernel
theorem dX11_unkeep_0 : decode cX11_unkeep 0 = .ok (.aload_n 0, 1) := by decide +kernel
theorem dX11_unkeep_1 : decode cX11_unkeep 1 = .ok (.invokevirtual 350, 3) := by decide +kernel
theorem dX11_unkeep_4 : decode cX11_unkeep 4 = .ok (.aload_n 0, 1) := by decide +kernel
theorem dX11_unkeep_5 : decode cX11_unkeep 5 = .ok (.aload_n 0, 1) := by decide +kernel
theorem dX11_unkeep_6 : decode cX11_unkeep 6 = .ok (.iload_n 1, 1) := by decide +kernel
theorem dX11_unkeep_7 : decode cX11_unkeep 7 = .ok (.invokevirtual 376, 3) := by decide +kernel
theorem dX11_unkeep_10 : decode cX11_unkeep 10 = .ok (.iconst 1, 1) := by decide +kernel
theorem dX11_unkeep_11 : decode cX11_unkeep 11 = .ok (.invokevirtual 359, 3) := by decide +kernel
theorem dX11_unkeep_14 : decode cX11_unkeep 14 = .ok (.ireturn, 1) := by decide +kernel
theorem dX11_nodes_0 : decode cX11_nodes 0 = .ok (.aload_n 0, 1) := by decide +kernel
theorem dX11_nodes_1 : decode cX11_nodes 1 = .ok (.aload_n 0, 1) := by decide +kernel
theorem dX11_nodes_2 : decode cX11_nodes 2 = .ok (.iload_n 1, 1) := by decide +kernel
theorem dX11_nodes_3 : decode cX11_nodes 3 = .ok (.invokevirtual 361, 3) := by decide +kernel
theorem dX11_nodes_6 : decode cX11_nodes 6 = .ok (.ifCond .eq 7, 3) := by decide +kernel
theorem dX11_nodes_9 : decode cX11_nodes 9 = .ok (.iconst 0, 1) := by decide +kernel
theorem dX11_nodes_10 : decode cX11_nodes 10 = .ok (.goto 4, 3) := by decide +kernel
theorem dX11_nodes_13 : decode cX11_nodes 13 = .ok (.iconst 1, 1) := by decide +kernel
theorem dX11_nodes_14 : decode cX11_nodes 14 = .ok (.putfield 161, 3) := by decide +kernel
theorem dX11_nodes_17 : decode cX11_nodes 17 = .ok (.aload_n 0, 1) := by decide +kernel
theorem dX11_nodes_18 : decode cX11_nodes 18 = .ok (.getfield 161, 3) := by decide +kernel
theorem dX11_nodes_21 : decode cX11_nodes 21 = .ok (.ifCond .eq 5, 3) := by decide +kernel
theorem dX11_nodes_24 : decode cX11_nodes 24 = .ok (.iconst 0, 1) := by decide +kernel
theorem dX11_nodes_25 : decode cX11_nodes 25 = .ok (.ireturn, 1) := by decide +kernel
theorem dX11_nodes_26 : decode cX11_nodes 26 = .ok (.aload_n 0, 1) := by decide +kernel
theorem dX11_nodes_27 : decode cX11_nodes 27 = .ok (.iload_n 1, 1) := by decide +kernel
theorem dX11_nodes_28 : decode cX11_nodes 28 = .ok (.invokevirtual 315, 3) := by decide +kernel
theorem dX11_nodes_31 : decode cX11_nodes 31 = .ok (.aload_n 0, 1) := by decide +kernel
theorem dX11_nodes_32 : decode cX11_nodes 32 = .ok (.getfield 203, 3) := by decide +kernel
theorem dX11_nodes_35 : decode cX11_nodes 35 = .ok (.ireturn, 1) := by decide +kernel
theorem dX11_isNode_0 : decode cX11_isNode 0 = .ok (.aload_n 0, 1) := by decide +kernel
theorem dX11_isNode_1 : decode cX11_isNode 1 = .ok (.iload_n 1, 1) := by decide +kernel
theorem dX11_isNode_2 : decode cX11_isNode 2 = .ok (.invokevirtual 361, 3) := by decide +kernel
theorem dX11_isNode_5 : decode cX11_isNode 5 = .ok (.ifCond .ne 5, 3) := by decide +kernel
theorem dX11_isNode_8 : decode cX11_isNode 8 = .ok (.iconst 0, 1) := by decide +kernel
theorem dX11_isNode_9 : decode cX11_isNode 9 = .ok (.ireturn, 1) := by decide +kernel
theorem dX11_isNode_10 : decode cX11_isNode 10 = .ok (.aload_n 0, 1) := by decide +kernel
theorem dX11_isNode_11 : decode cX11_isNode 11 = .ok (.iload_n 1, 1) := by decide +kernel
theorem dX11_isNode_12 : decode cX11_isNode 12 = .ok (.invokevirtual 315, 3) := by decide +kernel
theorem dX11_isNode_15 : decode cX11_isNode 15 = .ok (.iload_n 2, 1) := by decide +kernel
theorem dX11_isNode_16 : decode cX11_isNode 16 = .ok (.iconst 0, 1) := by decide +kernel
theorem dX11_isNode_17 : decode cX11_isNode 17 = .ok (.aload_n 0, 1) := by decide +kernel
theorem dX11_isNode_18 : decode cX11_isNode 18 = .ok (.getfield 203, 3) := by decide +kernel
theorem dX11_isNode_21 : decode cX11_isNode 21 = .ok (.iconst 1, 1) := by decide +kernel
theorem dX11_isNode_22 : decode cX11_isNode 22 = .ok (.isub, 1) := by decide +kernel
theorem dX11_isNode_23 : decode cX11_isNode 23 = .ok (.invokestatic 164, 3) := by decide +kernel
theorem dX11_isNode_26 : decode cX11_isNode 26 = .ok (.ireturn, 1) := by decide +kernel
theorem dX11_nodeOf_0 : decode cX11_nodeOf 0 = .ok (.aload_n 0, 1) := by decide +kernel
theorem dX11_nodeOf_1 : decode cX11_nodeOf 1 = .ok (.aload_n 0, 1) := by decide +kernel
theorem dX11_nodeOf_2 : decode cX11_nodeOf 2 = .ok (.iload_n 1, 1) := by decide +kernel
theorem dX11_nodeOf_3 : decode cX11_nodeOf 3 = .ok (.iload_n 2, 1) := by decide +kernel
theorem dX11_nodeOf_4 : decode cX11_nodeOf 4 = .ok (.invokevirtual 379, 3) := by decide +kernel
theorem dX11_nodeOf_7 : decode cX11_nodeOf 7 = .ok (.ifCond .ne 7, 3) := by decide +kernel
theorem dX11_nodeOf_10 : decode cX11_nodeOf 10 = .ok (.iconst 1, 1) := by decide +kernel
theorem dX11_nodeOf_11 : decode cX11_nodeOf 11 = .ok (.goto 17, 3) := by decide +kernel
theorem dX11_nodeOf_14 : decode cX11_nodeOf 14 = .ok (.iload_n 3, 1) := by decide +kernel
theorem dX11_nodeOf_15 : decode cX11_nodeOf 15 = .ok (.iconst 0, 1) := by decide +kernel
theorem dX11_nodeOf_16 : decode cX11_nodeOf 16 = .ok (.iconst 5, 1) := by decide +kernel
theorem dX11_nodeOf_17 : decode cX11_nodeOf 17 = .ok (.invokestatic 164, 3) := by decide +kernel
theorem dX11_nodeOf_20 : decode cX11_nodeOf 20 = .ok (.ifCond .eq 7, 3) := by decide +kernel
theorem dX11_nodeOf_23 : decode cX11_nodeOf 23 = .ok (.iconst 0, 1) := by decide +kernel
theorem dX11_nodeOf_24 : decode cX11_nodeOf 24 = .ok (.goto 4, 3) := by decide +kernel
theorem dX11_nodeOf_27 : decode cX11_nodeOf 27 = .ok (.iconst 2, 1) := by decide +kernel
theorem dX11_nodeOf_28 : decode cX11_nodeOf 28 = .ok (.putfield 161, 3) := by decide +kernel
theorem dX11_nodeOf_31 : decode cX11_nodeOf 31 = .ok (.aload_n 0, 1) := by decide +kernel
theorem dX11_nodeOf_32 : decode cX11_nodeOf 32 = .ok (.getfield 161, 3) := by decide +kernel
theorem dX11_nodeOf_35 : decode cX11_nodeOf 35 = .ok (.ifCond .eq 5, 3) := by decide +kernel
theorem dX11_nodeOf_38 : decode cX11_nodeOf 38 = .ok (.iconst 0, 1) := by decide +kernel
theorem dX11_nodeOf_39 : decode cX11_nodeOf 39 = .ok (.ireturn, 1) := by decide +kernel
theorem dX11_nodeOf_40 : decode cX11_nodeOf 40 = .ok (.iload_n 3, 1) := by decide +kernel
theorem dX11_nodeOf_41 : decode cX11_nodeOf 41 = .ok (.ifCond .ne 12, 3) := by decide +kernel
theorem dX11_nodeOf_44 : decode cX11_nodeOf 44 = .ok (.aload_n 0, 1) := by decide +kernel
theorem dX11_nodeOf_45 : decode cX11_nodeOf 45 = .ok (.getfield 56, 3) := by decide +kernel
theorem dX11_nodeOf_48 : decode cX11_nodeOf 48 = .ok (.iload_n 2, 1) := by decide +kernel
theorem dX11_nodeOf_49 : decode cX11_nodeOf 49 = .ok (.iaload, 1) := by decide +kernel
theorem dX11_nodeOf_50 : decode cX11_nodeOf 50 = .ok (.goto 65, 3) := by decide +kernel
theorem dX11_nodeOf_53 : decode cX11_nodeOf 53 = .ok (.iload_n 3, 1) := by decide +kernel
theorem dX11_nodeOf_54 : decode cX11_nodeOf 54 = .ok (.iconst 1, 1) := by decide +kernel
theorem dX11_nodeOf_55 : decode cX11_nodeOf 55 = .ok (.if_icmp .ne 12, 3) := by decide +kernel
theorem dX11_nodeOf_58 : decode cX11_nodeOf 58 = .ok (.aload_n 0, 1) := by decide +kernel
theorem dX11_nodeOf_59 : decode cX11_nodeOf 59 = .ok (.getfield 68, 3) := by decide +kernel
theorem dX11_nodeOf_62 : decode cX11_nodeOf 62 = .ok (.iload_n 2, 1) := by decide +kernel
theorem dX11_nodeOf_63 : decode cX11_nodeOf 63 = .ok (.iaload, 1) := by decide +kernel
theorem dX11_nodeOf_64 : decode cX11_nodeOf 64 = .ok (.goto 51, 3) := by decide +kernel
theorem dX11_nodeOf_67 : decode cX11_nodeOf 67 = .ok (.iload_n 3, 1) := by decide +kernel
theorem dX11_nodeOf_68 : decode cX11_nodeOf 68 = .ok (.iconst 2, 1) := by decide +kernel
theorem dX11_nodeOf_69 : decode cX11_nodeOf 69 = .ok (.if_icmp .ne 12, 3) := by decide +kernel
theorem dX11_nodeOf_72 : decode cX11_nodeOf 72 = .ok (.aload_n 0, 1) := by decide +kernel
theorem dX11_nodeOf_73 : decode cX11_nodeOf 73 = .ok (.getfield 62, 3) := by decide +kernel
theorem dX11_nodeOf_76 : decode cX11_nodeOf 76 = .ok (.iload_n 2, 1) := by decide +kernel
theorem dX11_nodeOf_77 : decode cX11_nodeOf 77 = .ok (.iaload, 1) := by decide +kernel
theorem dX11_nodeOf_78 : decode cX11_nodeOf 78 = .ok (.goto 37, 3) := by decide +kernel
theorem dX11_nodeOf_81 : decode cX11_nodeOf 81 = .ok (.iload_n 3, 1) := by decide +kernel
theorem dX11_nodeOf_82 : decode cX11_nodeOf 82 = .ok (.iconst 3, 1) := by decide +kernel
theorem dX11_nodeOf_83 : decode cX11_nodeOf 83 = .ok (.if_icmp .ne 12, 3) := by decide +kernel
theorem dX11_nodeOf_86 : decode cX11_nodeOf 86 = .ok (.aload_n 0, 1) := by decide +kernel
theorem dX11_nodeOf_87 : decode cX11_nodeOf 87 = .ok (.getfield 65, 3) := by decide +kernel
theorem dX11_nodeOf_90 : decode cX11_nodeOf 90 = .ok (.iload_n 2, 1) := by decide +kernel
theorem dX11_nodeOf_91 : decode cX11_nodeOf 91 = .ok (.iaload, 1) := by decide +kernel
theorem dX11_nodeOf_92 : decode cX11_nodeOf 92 = .ok (.goto 23, 3) := by decide +kernel
theorem dX11_nodeOf_95 : decode cX11_nodeOf 95 = .ok (.iload_n 3, 1) := by decide +kernel
theorem dX11_nodeOf_96 : decode cX11_nodeOf 96 = .ok (.iconst 4, 1) := by decide +kernel
theorem dX11_nodeOf_97 : decode cX11_nodeOf 97 = .ok (.if_icmp .ne 12, 3) := by decide +kernel
theorem dX11_nodeOf_100 : decode cX11_nodeOf 100 = .ok (.aload_n 0, 1) := by decide +kernel
theorem dX11_nodeOf_101 : decode cX11_nodeOf 101 = .ok (.getfield 71, 3) := by decide +kernel
theorem dX11_nodeOf_104 : decode cX11_nodeOf 104 = .ok (.iload_n 2, 1) := by decide +kernel
theorem dX11_nodeOf_105 : decode cX11_nodeOf 105 = .ok (.iaload, 1) := by decide +kernel
theorem dX11_nodeOf_106 : decode cX11_nodeOf 106 = .ok (.goto 9, 3) := by decide +kernel
theorem dX11_nodeOf_109 : decode cX11_nodeOf 109 = .ok (.aload_n 0, 1) := by decide +kernel
theorem dX11_nodeOf_110 : decode cX11_nodeOf 110 = .ok (.getfield 74, 3) := by decide +kernel
theorem dX11_nodeOf_113 : decode cX11_nodeOf 113 = .ok (.iload_n 2, 1) := by decide +kernel
theorem dX11_nodeOf_114 : decode cX11_nodeOf 114 = .ok (.iaload, 1) := by decide +kernel
theorem dX11_nodeOf_115 : decode cX11_nodeOf 115 = .ok (.ireturn, 1) := by decide +kernel
theorem dX11_signOf_0 : decode cX11_signOf 0 = .ok (.aload_n 0, 1) := by decide +kernel
theorem dX11_signOf_1 : decode cX11_signOf 1 = .ok (.aload_n 0, 1) := by decide +kernel
theorem dX11_signOf_2 : decode cX11_signOf 2 = .ok (.iload_n 1, 1) := by decide +kernel
theorem dX11_signOf_3 : decode cX11_signOf 3 = .ok (.iload_n 2, 1) := by decide +kernel
theorem dX11_signOf_4 : decode cX11_signOf 4 = .ok (.invokevirtual 379, 3) := by decide +kernel
theorem dX11_signOf_7 : decode cX11_signOf 7 = .ok (.ifCond .ne 7, 3) := by decide +kernel
theorem dX11_signOf_10 : decode cX11_signOf 10 = .ok (.iconst 1, 1) := by decide +kernel
theorem dX11_signOf_11 : decode cX11_signOf 11 = .ok (.goto 19, 3) := by decide +kernel
theorem dX11_signOf_14 : decode cX11_signOf 14 = .ok (.aload_n 0, 1) := by decide +kernel
theorem dX11_signOf_15 : decode cX11_signOf 15 = .ok (.getfield 56, 3) := by decide +kernel
theorem dX11_signOf_18 : decode cX11_signOf 18 = .ok (.iload_n 2, 1) := by decide +kernel
theorem dX11_signOf_19 : decode cX11_signOf 19 = .ok (.iaload, 1) := by decide +kernel
theorem dX11_signOf_20 : decode cX11_signOf 20 = .ok (.bipush 6, 2) := by decide +kernel
theorem dX11_signOf_22 : decode cX11_signOf 22 = .ok (.if_icmp .ne 7, 3) := by decide +kernel
theorem dX11_signOf_25 : decode cX11_signOf 25 = .ok (.iconst 2, 1) := by decide +kernel
theorem dX11_signOf_26 : decode cX11_signOf 26 = .ok (.goto 4, 3) := by decide +kernel
theorem dX11_signOf_29 : decode cX11_signOf 29 = .ok (.iconst 0, 1) := by decide +kernel
theorem dX11_signOf_30 : decode cX11_signOf 30 = .ok (.putfield 161, 3) := by decide +kernel
theorem dX11_signOf_33 : decode cX11_signOf 33 = .ok (.aload_n 0, 1) := by decide +kernel
theorem dX11_signOf_34 : decode cX11_signOf 34 = .ok (.getfield 161, 3) := by decide +kernel
theorem dX11_signOf_37 : decode cX11_signOf 37 = .ok (.ifCond .ne 13, 3) := by decide +kernel
theorem dX11_signOf_40 : decode cX11_signOf 40 = .ok (.aload_n 0, 1) := by decide +kernel
theorem dX11_signOf_41 : decode cX11_signOf 41 = .ok (.getfield 59, 3) := by decide +kernel
theorem dX11_signOf_44 : decode cX11_signOf 44 = .ok (.iload_n 2, 1) := by decide +kernel
theorem dX11_signOf_45 : decode cX11_signOf 45 = .ok (.iaload, 1) := by decide +kernel
theorem dX11_signOf_46 : decode cX11_signOf 46 = .ok (.i2c, 1) := by decide +kernel
theorem dX11_signOf_47 : decode cX11_signOf 47 = .ok (.goto 4, 3) := by decide +kernel
theorem dX11_signOf_50 : decode cX11_signOf 50 = .ok (.iconst 0, 1) := by decide +kernel
theorem dX11_signOf_51 : decode cX11_signOf 51 = .ok (.ireturn, 1) := by decide +kernel
theorem dX11_binder_0 : decode cX11_binder 0 = .ok (.aload_n 0, 1) := by decide +kernel
theorem dX11_binder_1 : decode cX11_binder 1 = .ok (.aload_n 0, 1) := by decide +kernel
theorem dX11_binder_2 : decode cX11_binder 2 = .ok (.iload_n 1, 1) := by decide +kernel
theorem dX11_binder_3 : decode cX11_binder 3 = .ok (.iload_n 2, 1) := by decide +kernel
theorem dX11_binder_4 : decode cX11_binder 4 = .ok (.invokevirtual 379, 3) := by decide +kernel
theorem dX11_binder_7 : decode cX11_binder 7 = .ok (.ifCond .ne 7, 3) := by decide +kernel
theorem dX11_binder_10 : decode cX11_binder 10 = .ok (.iconst 1, 1) := by decide +kernel
theorem dX11_binder_11 : decode cX11_binder 11 = .ok (.goto 25, 3) := by decide +kernel
theorem dX11_binder_14 : decode cX11_binder 14 = .ok (.aload_n 0, 1) := by decide +kernel
theorem dX11_binder_15 : decode cX11_binder 15 = .ok (.getfield 56, 3) := by decide +kernel
theorem dX11_binder_18 : decode cX11_binder 18 = .ok (.iload_n 2, 1) := by decide +kernel
theorem dX11_binder_19 : decode cX11_binder 19 = .ok (.iaload, 1) := by decide +kernel
theorem dX11_binder_20 : decode cX11_binder 20 = .ok (.ifCond .ne 11, 3) := by decide +kernel
theorem dX11_binder_23 : decode cX11_binder 23 = .ok (.aload_n 0, 1) := by decide +kernel
theorem dX11_binder_24 : decode cX11_binder 24 = .ok (.iload_n 2, 1) := by decide +kernel
theorem dX11_binder_25 : decode cX11_binder 25 = .ok (.invokevirtual 291, 3) := by decide +kernel
theorem dX11_binder_28 : decode cX11_binder 28 = .ok (.ifCond .ge 7, 3) := by decide +kernel
theorem dX11_binder_31 : decode cX11_binder 31 = .ok (.iconst 2, 1) := by decide +kernel
theorem dX11_binder_32 : decode cX11_binder 32 = .ok (.goto 4, 3) := by decide +kernel
theorem dX11_binder_35 : decode cX11_binder 35 = .ok (.iconst 0, 1) := by decide +kernel
theorem dX11_binder_36 : decode cX11_binder 36 = .ok (.putfield 161, 3) := by decide +kernel
theorem dX11_binder_39 : decode cX11_binder 39 = .ok (.aload_n 0, 1) := by decide +kernel
theorem dX11_binder_40 : decode cX11_binder 40 = .ok (.getfield 161, 3) := by decide +kernel
theorem dX11_binder_43 : decode cX11_binder 43 = .ok (.ifCond .ne 11, 3) := by decide +kernel
theorem dX11_binder_46 : decode cX11_binder 46 = .ok (.aload_n 0, 1) := by decide +kernel
theorem dX11_binder_47 : decode cX11_binder 47 = .ok (.iload_n 2, 1) := by decide +kernel
theorem dX11_binder_48 : decode cX11_binder 48 = .ok (.invokevirtual 291, 3) := by decide +kernel
theorem dX11_binder_51 : decode cX11_binder 51 = .ok (.goto 4, 3) := by decide +kernel
theorem dX11_binder_54 : decode cX11_binder 54 = .ok (.iconst 0, 1) := by decide +kernel
theorem dX11_binder_55 : decode cX11_binder 55 = .ok (.ireturn, 1) := by decide +kernel
theorem dX11_boundBy_0 : decode cX11_boundBy 0 = .ok (.iconst 0, 1) := by decide +kernel
theorem dX11_boundBy_1 : decode cX11_boundBy 1 = .ok (.istore_n 2, 1) := by decide +kernel
theorem dX11_boundBy_2 : decode cX11_boundBy 2 = .ok (.iconst 0, 1) := by decide +kernel
theorem dX11_boundBy_3 : decode cX11_boundBy 3 = .ok (.istore_n 3, 1) := by decide +kernel
theorem dX11_boundBy_4 : decode cX11_boundBy 4 = .ok (.iload_n 3, 1) := by decide +kernel
theorem dX11_boundBy_5 : decode cX11_boundBy 5 = .ok (.aload_n 0, 1) := by decide +kernel
theorem dX11_boundBy_6 : decode cX11_boundBy 6 = .ok (.getfield 203, 3) := by decide +kernel
theorem dX11_boundBy_9 : decode cX11_boundBy 9 = .ok (.if_icmp .ge 35, 3) := by decide +kernel
theorem dX11_boundBy_12 : decode cX11_boundBy 12 = .ok (.iload_n 2, 1) := by decide +kernel
theorem dX11_boundBy_13 : decode cX11_boundBy 13 = .ok (.aload_n 0, 1) := by decide +kernel
theorem dX11_boundBy_14 : decode cX11_boundBy 14 = .ok (.getfield 56, 3) := by decide +kernel
theorem dX11_boundBy_17 : decode cX11_boundBy 17 = .ok (.iload_n 3, 1) := by decide +kernel
theorem dX11_boundBy_18 : decode cX11_boundBy 18 = .ok (.iaload, 1) := by decide +kernel
theorem dX11_boundBy_19 : decode cX11_boundBy 19 = .ok (.ifCond .ne 16, 3) := by decide +kernel
theorem dX11_boundBy_22 : decode cX11_boundBy 22 = .ok (.aload_n 0, 1) := by decide +kernel
theorem dX11_boundBy_23 : decode cX11_boundBy 23 = .ok (.iload_n 3, 1) := by decide +kernel
theorem dX11_boundBy_24 : decode cX11_boundBy 24 = .ok (.invokevirtual 291, 3) := by decide +kernel
theorem dX11_boundBy_27 : decode cX11_boundBy 27 = .ok (.iload_n 1, 1) := by decide +kernel
theorem dX11_boundBy_28 : decode cX11_boundBy 28 = .ok (.if_icmp .ne 7, 3) := by decide +kernel
theorem dX11_boundBy_31 : decode cX11_boundBy 31 = .ok (.iconst 1, 1) := by decide +kernel
theorem dX11_boundBy_32 : decode cX11_boundBy 32 = .ok (.goto 4, 3) := by decide +kernel
theorem dX11_boundBy_35 : decode cX11_boundBy 35 = .ok (.iconst 0, 1) := by decide +kernel
theorem dX11_boundBy_36 : decode cX11_boundBy 36 = .ok (.iadd, 1) := by decide +kernel
theorem dX11_boundBy_37 : decode cX11_boundBy 37 = .ok (.istore_n 2, 1) := by decide +kernel
theorem dX11_boundBy_38 : decode cX11_boundBy 38 = .ok (.iinc 3 1, 3) := by decide +kernel
theorem dX11_boundBy_41 : decode cX11_boundBy 41 = .ok (.goto (-37), 3) := by decide +kernel
theorem dX11_boundBy_44 : decode cX11_boundBy 44 = .ok (.iload_n 2, 1) := by decide +kernel
theorem dX11_boundBy_45 : decode cX11_boundBy 45 = .ok (.ireturn, 1) := by decide +kernel
theorem dX11_uses_0 : decode cX11_uses 0 = .ok (.aload_n 0, 1) := by decide +kernel
theorem dX11_uses_1 : decode cX11_uses 1 = .ok (.aload_n 0, 1) := by decide +kernel
theorem dX11_uses_2 : decode cX11_uses 2 = .ok (.iload_n 1, 1) := by decide +kernel
theorem dX11_uses_3 : decode cX11_uses 3 = .ok (.iload_n 2, 1) := by decide +kernel
theorem dX11_uses_4 : decode cX11_uses 4 = .ok (.invokevirtual 379, 3) := by decide +kernel
theorem dX11_uses_7 : decode cX11_uses 7 = .ok (.ifCond .ne 7, 3) := by decide +kernel
theorem dX11_uses_10 : decode cX11_uses 10 = .ok (.iconst 1, 1) := by decide +kernel
theorem dX11_uses_11 : decode cX11_uses 11 = .ok (.goto 28, 3) := by decide +kernel
theorem dX11_uses_14 : decode cX11_uses 14 = .ok (.aload_n 0, 1) := by decide +kernel
theorem dX11_uses_15 : decode cX11_uses 15 = .ok (.getfield 56, 3) := by decide +kernel
theorem dX11_uses_18 : decode cX11_uses 18 = .ok (.iload_n 2, 1) := by decide +kernel
theorem dX11_uses_19 : decode cX11_uses 19 = .ok (.iaload, 1) := by decide +kernel
theorem dX11_uses_20 : decode cX11_uses 20 = .ok (.iconst 4, 1) := by decide +kernel
theorem dX11_uses_21 : decode cX11_uses 21 = .ok (.if_icmp .eq 13, 3) := by decide +kernel
theorem dX11_uses_24 : decode cX11_uses 24 = .ok (.aload_n 0, 1) := by decide +kernel
theorem dX11_uses_25 : decode cX11_uses 25 = .ok (.getfield 56, 3) := by decide +kernel
theorem dX11_uses_28 : decode cX11_uses 28 = .ok (.iload_n 2, 1) := by decide +kernel
theorem dX11_uses_29 : decode cX11_uses 29 = .ok (.iaload, 1) := by decide +kernel
theorem dX11_uses_30 : decode cX11_uses 30 = .ok (.iconst 5, 1) := by decide +kernel
theorem dX11_uses_31 : decode cX11_uses 31 = .ok (.if_icmp .ne 7, 3) := by decide +kernel
theorem dX11_uses_34 : decode cX11_uses 34 = .ok (.iconst 0, 1) := by decide +kernel
theorem dX11_uses_35 : decode cX11_uses 35 = .ok (.goto 4, 3) := by decide +kernel
theorem dX11_uses_38 : decode cX11_uses 38 = .ok (.iconst 2, 1) := by decide +kernel
theorem dX11_uses_39 : decode cX11_uses 39 = .ok (.putfield 161, 3) := by decide +kernel
theorem dX11_uses_42 : decode cX11_uses 42 = .ok (.aload_n 0, 1) := by decide +kernel
theorem dX11_uses_43 : decode cX11_uses 43 = .ok (.getfield 161, 3) := by decide +kernel
theorem dX11_uses_46 : decode cX11_uses 46 = .ok (.ifCond .ne 11, 3) := by decide +kernel
theorem dX11_uses_49 : decode cX11_uses 49 = .ok (.aload_n 0, 1) := by decide +kernel
theorem dX11_uses_50 : decode cX11_uses 50 = .ok (.iload_n 2, 1) := by decide +kernel
theorem dX11_uses_51 : decode cX11_uses 51 = .ok (.invokevirtual 382, 3) := by decide +kernel
theorem dX11_uses_54 : decode cX11_uses 54 = .ok (.goto 4, 3) := by decide +kernel
theorem dX11_uses_57 : decode cX11_uses 57 = .ok (.iconst 0, 1) := by decide +kernel
theorem dX11_uses_58 : decode cX11_uses 58 = .ok (.ireturn, 1) := by decide +kernel
theorem dX11_unbound_0 : decode cX11_unbound 0 = .ok (.aload_n 0, 1) := by decide +kernel
theorem dX11_unbound_1 : decode cX11_unbound 1 = .ok (.aload_n 0, 1) := by decide +kernel
theorem dX11_unbound_2 : decode cX11_unbound 2 = .ok (.iload_n 1, 1) := by decide +kernel
theorem dX11_unbound_3 : decode cX11_unbound 3 = .ok (.invokevirtual 361, 3) := by decide +kernel
theorem dX11_unbound_6 : decode cX11_unbound 6 = .ok (.ifCond .eq 7, 3) := by decide +kernel
theorem dX11_unbound_9 : decode cX11_unbound 9 = .ok (.iconst 0, 1) := by decide +kernel
theorem dX11_unbound_10 : decode cX11_unbound 10 = .ok (.goto 4, 3) := by decide +kernel
theorem dX11_unbound_13 : decode cX11_unbound 13 = .ok (.iconst 1, 1) := by decide +kernel
theorem dX11_unbound_14 : decode cX11_unbound 14 = .ok (.putfield 161, 3) := by decide +kernel
theorem dX11_unbound_17 : decode cX11_unbound 17 = .ok (.aload_n 0, 1) := by decide +kernel
theorem dX11_unbound_18 : decode cX11_unbound 18 = .ok (.getfield 161, 3) := by decide +kernel
theorem dX11_unbound_21 : decode cX11_unbound 21 = .ok (.ifCond .eq 5, 3) := by decide +kernel
theorem dX11_unbound_24 : decode cX11_unbound 24 = .ok (.iconst 0, 1) := by decide +kernel
theorem dX11_unbound_25 : decode cX11_unbound 25 = .ok (.ireturn, 1) := by decide +kernel
theorem dX11_unbound_26 : decode cX11_unbound 26 = .ok (.aload_n 0, 1) := by decide +kernel
theorem dX11_unbound_27 : decode cX11_unbound 27 = .ok (.iload_n 1, 1) := by decide +kernel
theorem dX11_unbound_28 : decode cX11_unbound 28 = .ok (.invokevirtual 315, 3) := by decide +kernel
theorem dX11_unbound_31 : decode cX11_unbound 31 = .ok (.aload_n 0, 1) := by decide +kernel
theorem dX11_unbound_32 : decode cX11_unbound 32 = .ok (.iconst (-1), 1) := by decide +kernel
theorem dX11_unbound_33 : decode cX11_unbound 33 = .ok (.invokevirtual 382, 3) := by decide +kernel
theorem dX11_unbound_36 : decode cX11_unbound 36 = .ok (.ireturn, 1) := by decide +kernel
theorem dX11_isTyped_0 : decode cX11_isTyped 0 = .ok (.aload_n 0, 1) := by decide +kernel
theorem dX11_isTyped_1 : decode cX11_isTyped 1 = .ok (.aload_n 0, 1) := by decide +kernel
theorem dX11_isTyped_2 : decode cX11_isTyped 2 = .ok (.iload_n 1, 1) := by decide +kernel
theorem dX11_isTyped_3 : decode cX11_isTyped 3 = .ok (.invokevirtual 361, 3) := by decide +kernel
theorem dX11_isTyped_6 : decode cX11_isTyped 6 = .ok (.ifCond .eq 7, 3) := by decide +kernel
theorem dX11_isTyped_9 : decode cX11_isTyped 9 = .ok (.iconst 0, 1) := by decide +kernel
theorem dX11_isTyped_10 : decode cX11_isTyped 10 = .ok (.goto 4, 3) := by decide +kernel
theorem dX11_isTyped_13 : decode cX11_isTyped 13 = .ok (.iconst 1, 1) := by decide +kernel
theorem dX11_isTyped_14 : decode cX11_isTyped 14 = .ok (.putfield 161, 3) := by decide +kernel
theorem dX11_isTyped_17 : decode cX11_isTyped 17 = .ok (.aload_n 0, 1) := by decide +kernel
theorem dX11_isTyped_18 : decode cX11_isTyped 18 = .ok (.getfield 161, 3) := by decide +kernel
theorem dX11_isTyped_21 : decode cX11_isTyped 21 = .ok (.ifCond .ne 15, 3) := by decide +kernel
theorem dX11_isTyped_24 : decode cX11_isTyped 24 = .ok (.aload_n 0, 1) := by decide +kernel
theorem dX11_isTyped_25 : decode cX11_isTyped 25 = .ok (.iload_n 1, 1) := by decide +kernel
theorem dX11_isTyped_26 : decode cX11_isTyped 26 = .ok (.invokevirtual 367, 3) := by decide +kernel
theorem dX11_isTyped_29 : decode cX11_isTyped 29 = .ok (.ifCond .eq 7, 3) := by decide +kernel
theorem dX11_isTyped_32 : decode cX11_isTyped 32 = .ok (.iconst 1, 1) := by decide +kernel
theorem dX11_isTyped_33 : decode cX11_isTyped 33 = .ok (.goto 4, 3) := by decide +kernel
theorem dX11_isTyped_36 : decode cX11_isTyped 36 = .ok (.iconst 0, 1) := by decide +kernel
theorem dX11_isTyped_37 : decode cX11_isTyped 37 = .ok (.ireturn, 1) := by decide +kernel
theorem dX11_failure_0 : decode cX11_failure 0 = .ok (.aload_n 0, 1) := by decide +kernel
theorem dX11_failure_1 : decode cX11_failure 1 = .ok (.aload_n 0, 1) := by decide +kernel
theorem dX11_failure_2 : decode cX11_failure 2 = .ok (.iload_n 1, 1) := by decide +kernel
theorem dX11_failure_3 : decode cX11_failure 3 = .ok (.invokevirtual 361, 3) := by decide +kernel
theorem dX11_failure_6 : decode cX11_failure 6 = .ok (.ifCond .ne 7, 3) := by decide +kernel
theorem dX11_failure_9 : decode cX11_failure 9 = .ok (.iconst 1, 1) := by decide +kernel
theorem dX11_failure_10 : decode cX11_failure 10 = .ok (.goto 29, 3) := by decide +kernel
theorem dX11_failure_13 : decode cX11_failure 13 = .ok (.iload_n 2, 1) := by decide +kernel
theorem dX11_failure_14 : decode cX11_failure 14 = .ok (.iconst 0, 1) := by decide +kernel
theorem dX11_failure_15 : decode cX11_failure 15 = .ok (.iconst 3, 1) := by decide +kernel
theorem dX11_failure_16 : decode cX11_failure 16 = .ok (.invokestatic 164, 3) := by decide +kernel
theorem dX11_failure_19 : decode cX11_failure 19 = .ok (.ifCond .ne 7, 3) := by decide +kernel
theorem dX11_failure_22 : decode cX11_failure 22 = .ok (.iconst 2, 1) := by decide +kernel
theorem dX11_failure_23 : decode cX11_failure 23 = .ok (.goto 16, 3) := by decide +kernel
theorem dX11_failure_26 : decode cX11_failure 26 = .ok (.aload_n 0, 1) := by decide +kernel
theorem dX11_failure_27 : decode cX11_failure 27 = .ok (.iload_n 1, 1) := by decide +kernel
theorem dX11_failure_28 : decode cX11_failure 28 = .ok (.invokevirtual 367, 3) := by decide +kernel
theorem dX11_failure_31 : decode cX11_failure 31 = .ok (.ifCond .eq 7, 3) := by decide +kernel
theorem dX11_failure_34 : decode cX11_failure 34 = .ok (.iconst 3, 1) := by decide +kernel
theorem dX11_failure_35 : decode cX11_failure 35 = .ok (.goto 4, 3) := by decide +kernel
theorem dX11_failure_38 : decode cX11_failure 38 = .ok (.iconst 0, 1) := by decide +kernel
theorem dX11_failure_39 : decode cX11_failure 39 = .ok (.putfield 161, 3) := by decide +kernel
theorem dX11_failure_42 : decode cX11_failure 42 = .ok (.aload_n 0, 1) := by decide +kernel
theorem dX11_failure_43 : decode cX11_failure 43 = .ok (.getfield 161, 3) := by decide +kernel
theorem dX11_failure_46 : decode cX11_failure 46 = .ok (.ifCond .eq 5, 3) := by decide +kernel
theorem dX11_failure_49 : decode cX11_failure 49 = .ok (.iconst 0, 1) := by decide +kernel
theorem dX11_failure_50 : decode cX11_failure 50 = .ok (.ireturn, 1) := by decide +kernel
theorem dX11_failure_51 : decode cX11_failure 51 = .ok (.iload_n 2, 1) := by decide +kernel
theorem dX11_failure_52 : decode cX11_failure 52 = .ok (.ifCond .ne 10, 3) := by decide +kernel
theorem dX11_failure_55 : decode cX11_failure 55 = .ok (.aload_n 0, 1) := by decide +kernel
theorem dX11_failure_56 : decode cX11_failure 56 = .ok (.getfield 242, 3) := by decide +kernel
theorem dX11_failure_59 : decode cX11_failure 59 = .ok (.goto 31, 3) := by decide +kernel
theorem dX11_failure_62 : decode cX11_failure 62 = .ok (.iload_n 2, 1) := by decide +kernel
theorem dX11_failure_63 : decode cX11_failure 63 = .ok (.iconst 1, 1) := by decide +kernel
theorem dX11_failure_64 : decode cX11_failure 64 = .ok (.if_icmp .ne 10, 3) := by decide +kernel
theorem dX11_failure_67 : decode cX11_failure 67 = .ok (.aload_n 0, 1) := by decide +kernel
theorem dX11_failure_68 : decode cX11_failure 68 = .ok (.getfield 275, 3) := by decide +kernel
theorem dX11_failure_71 : decode cX11_failure 71 = .ok (.goto 19, 3) := by decide +kernel
theorem dX11_failure_74 : decode cX11_failure 74 = .ok (.iload_n 2, 1) := by decide +kernel
theorem dX11_failure_75 : decode cX11_failure 75 = .ok (.iconst 2, 1) := by decide +kernel
theorem dX11_failure_76 : decode cX11_failure 76 = .ok (.if_icmp .ne 10, 3) := by decide +kernel
theorem dX11_failure_79 : decode cX11_failure 79 = .ok (.aload_n 0, 1) := by decide +kernel
theorem dX11_failure_80 : decode cX11_failure 80 = .ok (.getfield 245, 3) := by decide +kernel
theorem dX11_failure_83 : decode cX11_failure 83 = .ok (.goto 7, 3) := by decide +kernel
theorem dX11_failure_86 : decode cX11_failure 86 = .ok (.aload_n 0, 1) := by decide +kernel
theorem dX11_failure_87 : decode cX11_failure 87 = .ok (.getfield 248, 3) := by decide +kernel
theorem dX11_failure_90 : decode cX11_failure 90 = .ok (.ireturn, 1) := by decide +kernel
theorem dX11_places_0 : decode cX11_places 0 = .ok (.iconst 0, 1) := by decide +kernel
theorem dX11_places_1 : decode cX11_places 1 = .ok (.istore_n 1, 1) := by decide +kernel
theorem dX11_places_2 : decode cX11_places 2 = .ok (.iconst 0, 1) := by decide +kernel
theorem dX11_places_3 : decode cX11_places 3 = .ok (.istore_n 2, 1) := by decide +kernel
theorem dX11_places_4 : decode cX11_places 4 = .ok (.aload_n 0, 1) := by decide +kernel
theorem dX11_places_5 : decode cX11_places 5 = .ok (.getfield 119, 3) := by decide +kernel
theorem dX11_places_8 : decode cX11_places 8 = .ok (.iload_n 2, 1) := by decide +kernel
theorem dX11_places_9 : decode cX11_places 9 = .ok (.iaload, 1) := by decide +kernel
theorem dX11_places_10 : decode cX11_places 10 = .ok (.iconst 2, 1) := by decide +kernel
theorem dX11_places_11 : decode cX11_places 11 = .ok (.if_icmp .ne 42, 3) := by decide +kernel
theorem dX11_places_14 : decode cX11_places 14 = .ok (.iinc 1 1, 3) := by decide +kernel
theorem dX11_places_17 : decode cX11_places 17 = .ok (.iinc 2 1, 3) := by decide +kernel
theorem dX11_places_20 : decode cX11_places 20 = .ok (.iconst 1, 1) := by decide +kernel
theorem dX11_places_21 : decode cX11_places 21 = .ok (.istore_n 3, 1) := by decide +kernel
theorem dX11_places_22 : decode cX11_places 22 = .ok (.iload_n 3, 1) := by decide +kernel
theorem dX11_places_23 : decode cX11_places 23 = .ok (.ifCond .le 27, 3) := by decide +kernel
theorem dX11_places_26 : decode cX11_places 26 = .ok (.iload_n 3, 1) := by decide +kernel
theorem dX11_places_27 : decode cX11_places 27 = .ok (.aload_n 0, 1) := by decide +kernel
theorem dX11_places_28 : decode cX11_places 28 = .ok (.getfield 119, 3) := by decide +kernel
theorem dX11_places_31 : decode cX11_places 31 = .ok (.iload_n 2, 1) := by decide +kernel
theorem dX11_places_32 : decode cX11_places 32 = .ok (.iaload, 1) := by decide +kernel
theorem dX11_places_33 : decode cX11_places 33 = .ok (.iconst 2, 1) := by decide +kernel
theorem dX11_places_34 : decode cX11_places 34 = .ok (.if_icmp .ne 7, 3) := by decide +kernel
theorem dX11_places_37 : decode cX11_places 37 = .ok (.iconst 1, 1) := by decide +kernel
theorem dX11_places_38 : decode cX11_places 38 = .ok (.goto 4, 3) := by decide +kernel
theorem dX11_places_41 : decode cX11_places 41 = .ok (.iconst (-1), 1) := by decide +kernel
theorem dX11_places_42 : decode cX11_places 42 = .ok (.iadd, 1) := by decide +kernel
theorem dX11_places_43 : decode cX11_places 43 = .ok (.istore_n 3, 1) := by decide +kernel
theorem dX11_places_44 : decode cX11_places 44 = .ok (.iinc 2 1, 3) := by decide +kernel
theorem dX11_places_47 : decode cX11_places 47 = .ok (.goto (-25), 3) := by decide +kernel
theorem dX11_places_50 : decode cX11_places 50 = .ok (.goto (-46), 3) := by decide +kernel
theorem dX11_places_53 : decode cX11_places 53 = .ok (.iload_n 1, 1) := by decide +kernel
theorem dX11_places_54 : decode cX11_places 54 = .ok (.ireturn, 1) := by decide +kernel
theorem dX11_number_0 : decode cX11_number 0 = .ok (.aload_n 0, 1) := by decide +kernel
theorem dX11_number_1 : decode cX11_number 1 = .ok (.iload_n 1, 1) := by decide +kernel
theorem dX11_number_2 : decode cX11_number 2 = .ok (.invokevirtual 297, 3) := by decide +kernel
theorem dX11_number_5 : decode cX11_number 5 = .ok (.istore_n 3, 1) := by decide +kernel
theorem dX11_number_6 : decode cX11_number 6 = .ok (.aload_n 0, 1) := by decide +kernel
theorem dX11_number_7 : decode cX11_number 7 = .ok (.getfield 104, 3) := by decide +kernel
theorem dX11_number_10 : decode cX11_number 10 = .ok (.aload_n 0, 1) := by decide +kernel
theorem dX11_number_11 : decode cX11_number 11 = .ok (.iload_n 1, 1) := by decide +kernel
theorem dX11_number_12 : decode cX11_number 12 = .ok (.invokevirtual 223, 3) := by decide +kernel
theorem dX11_number_15 : decode cX11_number 15 = .ok (.iaload, 1) := by decide +kernel
theorem dX11_number_16 : decode cX11_number 16 = .ok (.istore 4, 2) := by decide +kernel
theorem dX11_number_18 : decode cX11_number 18 = .ok (.aload_n 0, 1) := by decide +kernel
theorem dX11_number_19 : decode cX11_number 19 = .ok (.iload_n 1, 1) := by decide +kernel
theorem dX11_number_20 : decode cX11_number 20 = .ok (.invokevirtual 370, 3) := by decide +kernel
theorem dX11_number_23 : decode cX11_number 23 = .ok (.iload_n 2, 1) := by decide +kernel
theorem dX11_number_24 : decode cX11_number 24 = .ok (.ifCond .ne 7, 3) := by decide +kernel
theorem dX11_number_27 : decode cX11_number 27 = .ok (.iload_n 3, 1) := by decide +kernel
theorem dX11_number_28 : decode cX11_number 28 = .ok (.goto 40, 3) := by decide +kernel
theorem dX11_number_31 : decode cX11_number 31 = .ok (.iload_n 2, 1) := by decide +kernel
theorem dX11_number_32 : decode cX11_number 32 = .ok (.iconst 1, 1) := by decide +kernel
theorem dX11_number_33 : decode cX11_number 33 = .ok (.if_icmp .ne 9, 3) := by decide +kernel
theorem dX11_number_36 : decode cX11_number 36 = .ok (.iload_n 3, 1) := by decide +kernel
theorem dX11_number_37 : decode cX11_number 37 = .ok (.iconst 2, 1) := by decide +kernel
theorem dX11_number_38 : decode cX11_number 38 = .ok (.idiv, 1) := by decide +kernel
theorem dX11_number_39 : decode cX11_number 39 = .ok (.goto 29, 3) := by decide +kernel
theorem dX11_number_42 : decode cX11_number 42 = .ok (.iload_n 2, 1) := by decide +kernel
theorem dX11_number_43 : decode cX11_number 43 = .ok (.iconst 2, 1) := by decide +kernel
theorem dX11_number_44 : decode cX11_number 44 = .ok (.if_icmp .ne 10, 3) := by decide +kernel
theorem dX11_number_47 : decode cX11_number 47 = .ok (.aload_n 0, 1) := by decide +kernel
theorem dX11_number_48 : decode cX11_number 48 = .ok (.getfield 265, 3) := by decide +kernel
theorem dX11_number_51 : decode cX11_number 51 = .ok (.goto 17, 3) := by decide +kernel
theorem dX11_number_54 : decode cX11_number 54 = .ok (.iload_n 2, 1) := by decide +kernel
theorem dX11_number_55 : decode cX11_number 55 = .ok (.iconst 3, 1) := by decide +kernel
theorem dX11_number_56 : decode cX11_number 56 = .ok (.if_icmp .ne 8, 3) := by decide +kernel
theorem dX11_number_59 : decode cX11_number 59 = .ok (.iload 4, 2) := by decide +kernel
theorem dX11_number_61 : decode cX11_number 61 = .ok (.goto 7, 3) := by decide +kernel
theorem dX11_number_64 : decode cX11_number 64 = .ok (.aload_n 0, 1) := by decide +kernel
theorem dX11_number_65 : decode cX11_number 65 = .ok (.invokevirtual 385, 3) := by decide +kernel
theorem dX11_number_68 : decode cX11_number 68 = .ok (.ireturn, 1) := by decide +kernel
theorem dX11_typeOf_0 : decode cX11_typeOf 0 = .ok (.aload_n 0, 1) := by decide +kernel
theorem dX11_typeOf_1 : decode cX11_typeOf 1 = .ok (.aload_n 0, 1) := by decide +kernel
theorem dX11_typeOf_2 : decode cX11_typeOf 2 = .ok (.iload_n 1, 1) := by decide +kernel
theorem dX11_typeOf_3 : decode cX11_typeOf 3 = .ok (.invokevirtual 361, 3) := by decide +kernel
theorem dX11_typeOf_6 : decode cX11_typeOf 6 = .ok (.ifCond .ne 7, 3) := by decide +kernel
theorem dX11_typeOf_9 : decode cX11_typeOf 9 = .ok (.iconst 1, 1) := by decide +kernel
theorem dX11_typeOf_10 : decode cX11_typeOf 10 = .ok (.goto 29, 3) := by decide +kernel
theorem dX11_typeOf_13 : decode cX11_typeOf 13 = .ok (.iload_n 2, 1) := by decide +kernel
theorem dX11_typeOf_14 : decode cX11_typeOf 14 = .ok (.iconst 0, 1) := by decide +kernel
theorem dX11_typeOf_15 : decode cX11_typeOf 15 = .ok (.iconst 4, 1) := by decide +kernel
theorem dX11_typeOf_16 : decode cX11_typeOf 16 = .ok (.invokestatic 164, 3) := by decide +kernel
theorem dX11_typeOf_19 : decode cX11_typeOf 19 = .ok (.ifCond .ne 7, 3) := by decide +kernel
theorem dX11_typeOf_22 : decode cX11_typeOf 22 = .ok (.iconst 2, 1) := by decide +kernel
theorem dX11_typeOf_23 : decode cX11_typeOf 23 = .ok (.goto 16, 3) := by decide +kernel
theorem dX11_typeOf_26 : decode cX11_typeOf 26 = .ok (.aload_n 0, 1) := by decide +kernel
theorem dX11_typeOf_27 : decode cX11_typeOf 27 = .ok (.iload_n 1, 1) := by decide +kernel
theorem dX11_typeOf_28 : decode cX11_typeOf 28 = .ok (.invokevirtual 367, 3) := by decide +kernel
theorem dX11_typeOf_31 : decode cX11_typeOf 31 = .ok (.ifCond .eq 7, 3) := by decide +kernel
theorem dX11_typeOf_34 : decode cX11_typeOf 34 = .ok (.iconst 0, 1) := by decide +kernel
theorem dX11_typeOf_35 : decode cX11_typeOf 35 = .ok (.goto 4, 3) := by decide +kernel
theorem dX11_typeOf_38 : decode cX11_typeOf 38 = .ok (.iconst 3, 1) := by decide +kernel
theorem dX11_typeOf_39 : decode cX11_typeOf 39 = .ok (.putfield 161, 3) := by decide +kernel
theorem dX11_typeOf_42 : decode cX11_typeOf 42 = .ok (.aload_n 0, 1) := by decide +kernel
theorem dX11_typeOf_43 : decode cX11_typeOf 43 = .ok (.getfield 161, 3) := by decide +kernel
theorem dX11_typeOf_46 : decode cX11_typeOf 46 = .ok (.ifCond .ne 17, 3) := by decide +kernel
theorem dX11_typeOf_49 : decode cX11_typeOf 49 = .ok (.aload_n 0, 1) := by decide +kernel
theorem dX11_typeOf_50 : decode cX11_typeOf 50 = .ok (.aload_n 0, 1) := by decide +kernel
theorem dX11_typeOf_51 : decode cX11_typeOf 51 = .ok (.getfield 137, 3) := by decide +kernel
theorem dX11_typeOf_54 : decode cX11_typeOf 54 = .ok (.iconst 0, 1) := by decide +kernel
theorem dX11_typeOf_55 : decode cX11_typeOf 55 = .ok (.iaload, 1) := by decide +kernel
theorem dX11_typeOf_56 : decode cX11_typeOf 56 = .ok (.iload_n 2, 1) := by decide +kernel
theorem dX11_typeOf_57 : decode cX11_typeOf 57 = .ok (.invokevirtual 388, 3) := by decide +kernel
theorem dX11_typeOf_60 : decode cX11_typeOf 60 = .ok (.goto 4, 3) := by decide +kernel
theorem dX11_typeOf_63 : decode cX11_typeOf 63 = .ok (.iconst 0, 1) := by decide +kernel
theorem dX11_typeOf_64 : decode cX11_typeOf 64 = .ok (.ireturn, 1) := by decide +kernel
theorem dX11_again_0 : decode cX11_again 0 = .ok (.iconst 0, 1) := by decide +kernel
theorem dX11_again_1 : decode cX11_again 1 = .ok (.istore_n 1, 1) := by decide +kernel
theorem dX11_again_2 : decode cX11_again 2 = .ok (.iload_n 1, 1) := by decide +kernel
theorem dX11_again_3 : decode cX11_again 3 = .ok (.aload_n 0, 1) := by decide +kernel
theorem dX11_again_4 : decode cX11_again 4 = .ok (.getfield 203, 3) := by decide +kernel
theorem dX11_again_7 : decode cX11_again 7 = .ok (.if_icmp .ge 16, 3) := by decide +kernel
theorem dX11_again_10 : decode cX11_again 10 = .ok (.aload_n 0, 1) := by decide +kernel
theorem dX11_again_11 : decode cX11_again 11 = .ok (.getfield 152, 3) := by decide +kernel
theorem dX11_again_14 : decode cX11_again 14 = .ok (.iload_n 1, 1) := by decide +kernel
theorem dX11_again_15 : decode cX11_again 15 = .ok (.iconst 0, 1) := by decide +kernel
theorem dX11_again_16 : decode cX11_again 16 = .ok (.iastore, 1) := by decide +kernel
theorem dX11_again_17 : decode cX11_again 17 = .ok (.iinc 1 1, 3) := by decide +kernel
theorem dX11_again_20 : decode cX11_again 20 = .ok (.goto (-18), 3) := by decide +kernel
theorem dX11_again_23 : decode cX11_again 23 = .ok (.iconst 0, 1) := by decide +kernel
theorem dX11_again_24 : decode cX11_again 24 = .ok (.istore_n 1, 1) := by decide +kernel
theorem dX11_again_25 : decode cX11_again 25 = .ok (.iload_n 1, 1) := by decide +kernel
theorem dX11_again_26 : decode cX11_again 26 = .ok (.ifCond .ne 172, 3) := by decide +kernel
theorem dX11_again_29 : decode cX11_again 29 = .ok (.iconst 1, 1) := by decide +kernel
theorem dX11_again_30 : decode cX11_again 30 = .ok (.istore_n 1, 1) := by decide +kernel
theorem dX11_again_31 : decode cX11_again 31 = .ok (.aload_n 0, 1) := by decide +kernel
theorem dX11_again_32 : decode cX11_again 32 = .ok (.getfield 203, 3) := by decide +kernel
theorem dX11_again_35 : decode cX11_again 35 = .ok (.iconst 1, 1) := by decide +kernel
theorem dX11_again_36 : decode cX11_again 36 = .ok (.isub, 1) := by decide +kernel
theorem dX11_again_37 : decode cX11_again 37 = .ok (.istore_n 2, 1) := by decide +kernel
theorem dX11_again_38 : decode cX11_again 38 = .ok (.iload_n 2, 1) := by decide +kernel
theorem dX11_again_39 : decode cX11_again 39 = .ok (.ifCond .lt 156, 3) := by decide +kernel
theorem dX11_again_42 : decode cX11_again 42 = .ok (.aload_n 0, 1) := by decide +kernel
theorem dX11_again_43 : decode cX11_again 43 = .ok (.getfield 56, 3) := by decide +kernel
theorem dX11_again_46 : decode cX11_again 46 = .ok (.iload_n 2, 1) := by decide +kernel
theorem dX11_again_47 : decode cX11_again 47 = .ok (.iaload, 1) := by decide +kernel
theorem dX11_again_48 : decode cX11_again 48 = .ok (.ifCond .ne 11, 3) := by decide +kernel
theorem dX11_again_51 : decode cX11_again 51 = .ok (.aload_n 0, 1) := by decide +kernel
theorem dX11_again_52 : decode cX11_again 52 = .ok (.iload_n 2, 1) := by decide +kernel
theorem dX11_again_53 : decode cX11_again 53 = .ok (.invokevirtual 291, 3) := by decide +kernel
theorem dX11_again_56 : decode cX11_again 56 = .ok (.goto 4, 3) := by decide +kernel
theorem dX11_again_59 : decode cX11_again 59 = .ok (.iconst (-1), 1) := by decide +kernel
theorem dX11_again_60 : decode cX11_again 60 = .ok (.istore_n 3, 1) := by decide +kernel
theorem dX11_again_61 : decode cX11_again 61 = .ok (.iconst 1, 1) := by decide +kernel
theorem dX11_again_62 : decode cX11_again 62 = .ok (.aload_n 0, 1) := by decide +kernel
theorem dX11_again_63 : decode cX11_again 63 = .ok (.getfield 62, 3) := by decide +kernel
theorem dX11_again_66 : decode cX11_again 66 = .ok (.iload_n 2, 1) := by decide +kernel
theorem dX11_again_67 : decode cX11_again 67 = .ok (.iaload, 1) := by decide +kernel
theorem dX11_again_68 : decode cX11_again 68 = .ok (.ifCond .ge 7, 3) := by decide +kernel
theorem dX11_again_71 : decode cX11_again 71 = .ok (.iconst 0, 1) := by decide +kernel
theorem dX11_again_72 : decode cX11_again 72 = .ok (.goto 14, 3) := by decide +kernel
theorem dX11_again_75 : decode cX11_again 75 = .ok (.aload_n 0, 1) := by decide +kernel
theorem dX11_again_76 : decode cX11_again 76 = .ok (.getfield 152, 3) := by decide +kernel
theorem dX11_again_79 : decode cX11_again 79 = .ok (.aload_n 0, 1) := by decide +kernel
theorem dX11_again_80 : decode cX11_again 80 = .ok (.getfield 62, 3) := by decide +kernel
theorem dX11_again_83 : decode cX11_again 83 = .ok (.iload_n 2, 1) := by decide +kernel
theorem dX11_again_84 : decode cX11_again 84 = .ok (.iaload, 1) := by decide +kernel
theorem dX11_again_85 : decode cX11_again 85 = .ok (.iaload, 1) := by decide +kernel
theorem dX11_again_86 : decode cX11_again 86 = .ok (.iadd, 1) := by decide +kernel
theorem dX11_again_87 : decode cX11_again 87 = .ok (.aload_n 0, 1) := by decide +kernel
theorem dX11_again_88 : decode cX11_again 88 = .ok (.getfield 65, 3) := by decide +kernel
theorem dX11_again_91 : decode cX11_again 91 = .ok (.iload_n 2, 1) := by decide +kernel
theorem dX11_again_92 : decode cX11_again 92 = .ok (.iaload, 1) := by decide +kernel
theorem dX11_again_93 : decode cX11_again 93 = .ok (.ifCond .ge 7, 3) := by decide +kernel
theorem dX11_again_96 : decode cX11_again 96 = .ok (.iconst 0, 1) := by decide +kernel
theorem dX11_again_97 : decode cX11_again 97 = .ok (.goto 14, 3) := by decide +kernel
theorem dX11_again_100 : decode cX11_again 100 = .ok (.aload_n 0, 1) := by decide +kernel
theorem dX11_again_101 : decode cX11_again 101 = .ok (.getfield 152, 3) := by decide +kernel
theorem dX11_again_104 : decode cX11_again 104 = .ok (.aload_n 0, 1) := by decide +kernel
theorem dX11_again_105 : decode cX11_again 105 = .ok (.getfield 65, 3) := by decide +kernel
theorem dX11_again_108 : decode cX11_again 108 = .ok (.iload_n 2, 1) := by decide +kernel
theorem dX11_again_109 : decode cX11_again 109 = .ok (.iaload, 1) := by decide +kernel
theorem dX11_again_110 : decode cX11_again 110 = .ok (.iaload, 1) := by decide +kernel
theorem dX11_again_111 : decode cX11_again 111 = .ok (.iadd, 1) := by decide +kernel
theorem dX11_again_112 : decode cX11_again 112 = .ok (.iload_n 3, 1) := by decide +kernel
theorem dX11_again_113 : decode cX11_again 113 = .ok (.ifCond .lt 27, 3) := by decide +kernel
theorem dX11_again_116 : decode cX11_again 116 = .ok (.aload_n 0, 1) := by decide +kernel
theorem dX11_again_117 : decode cX11_again 117 = .ok (.getfield 56, 3) := by decide +kernel
theorem dX11_again_120 : decode cX11_again 120 = .ok (.iload_n 3, 1) := by decide +kernel
theorem dX11_again_121 : decode cX11_again 121 = .ok (.iaload, 1) := by decide +kernel
theorem dX11_again_122 : decode cX11_again 122 = .ok (.iconst 5, 1) := by decide +kernel
theorem dX11_again_123 : decode cX11_again 123 = .ok (.if_icmp .ne 17, 3) := by decide +kernel
theorem dX11_again_126 : decode cX11_again 126 = .ok (.aload_n 0, 1) := by decide +kernel
theorem dX11_again_127 : decode cX11_again 127 = .ok (.getfield 152, 3) := by decide +kernel
theorem dX11_again_130 : decode cX11_again 130 = .ok (.aload_n 0, 1) := by decide +kernel
theorem dX11_again_131 : decode cX11_again 131 = .ok (.getfield 62, 3) := by decide +kernel
theorem dX11_again_134 : decode cX11_again 134 = .ok (.iload_n 3, 1) := by decide +kernel
theorem dX11_again_135 : decode cX11_again 135 = .ok (.iaload, 1) := by decide +kernel
theorem dX11_again_136 : decode cX11_again 136 = .ok (.iaload, 1) := by decide +kernel
theorem dX11_again_137 : decode cX11_again 137 = .ok (.goto 4, 3) := by decide +kernel
theorem dX11_again_140 : decode cX11_again 140 = .ok (.iconst 0, 1) := by decide +kernel
theorem dX11_again_141 : decode cX11_again 141 = .ok (.iadd, 1) := by decide +kernel
theorem dX11_again_142 : decode cX11_again 142 = .ok (.istore 4, 2) := by decide +kernel
theorem dX11_again_144 : decode cX11_again 144 = .ok (.iload 4, 2) := by decide +kernel
theorem dX11_again_146 : decode cX11_again 146 = .ok (.sipush 300, 3) := by decide +kernel
theorem dX11_again_149 : decode cX11_again 149 = .ok (.if_icmp .le 9, 3) := by decide +kernel
theorem dX11_again_152 : decode cX11_again 152 = .ok (.sipush 301, 3) := by decide +kernel
theorem dX11_again_155 : decode cX11_again 155 = .ok (.goto 5, 3) := by decide +kernel
theorem dX11_again_158 : decode cX11_again 158 = .ok (.iload 4, 2) := by decide +kernel
theorem dX11_again_160 : decode cX11_again 160 = .ok (.istore 4, 2) := by decide +kernel
theorem dX11_again_162 : decode cX11_again 162 = .ok (.iload_n 1, 1) := by decide +kernel
theorem dX11_again_163 : decode cX11_again 163 = .ok (.iload 4, 2) := by decide +kernel
theorem dX11_again_165 : decode cX11_again 165 = .ok (.aload_n 0, 1) := by decide +kernel
theorem dX11_again_166 : decode cX11_again 166 = .ok (.getfield 152, 3) := by decide +kernel
theorem dX11_again_169 : decode cX11_again 169 = .ok (.iload_n 2, 1) := by decide +kernel
theorem dX11_again_170 : decode cX11_again 170 = .ok (.iaload, 1) := by decide +kernel
theorem dX11_again_171 : decode cX11_again 171 = .ok (.if_icmp .ne 7, 3) := by decide +kernel
theorem dX11_again_174 : decode cX11_again 174 = .ok (.iconst 1, 1) := by decide +kernel
theorem dX11_again_175 : decode cX11_again 175 = .ok (.goto 4, 3) := by decide +kernel
theorem dX11_again_178 : decode cX11_again 178 = .ok (.iconst 0, 1) := by decide +kernel
theorem dX11_again_179 : decode cX11_again 179 = .ok (.iand, 1) := by decide +kernel
theorem dX11_again_180 : decode cX11_again 180 = .ok (.istore_n 1, 1) := by decide +kernel
theorem dX11_again_181 : decode cX11_again 181 = .ok (.aload_n 0, 1) := by decide +kernel
theorem dX11_again_182 : decode cX11_again 182 = .ok (.getfield 152, 3) := by decide +kernel
theorem dX11_again_185 : decode cX11_again 185 = .ok (.iload_n 2, 1) := by decide +kernel
theorem dX11_again_186 : decode cX11_again 186 = .ok (.iload 4, 2) := by decide +kernel
theorem dX11_again_188 : decode cX11_again 188 = .ok (.iastore, 1) := by decide +kernel
theorem dX11_again_189 : decode cX11_again 189 = .ok (.iinc 2 (-1), 3) := by decide +kernel
theorem dX11_again_192 : decode cX11_again 192 = .ok (.goto (-154), 3) := by decide +kernel
theorem dX11_again_195 : decode cX11_again 195 = .ok (.goto (-170), 3) := by decide +kernel
theorem dX11_again_198 : decode cX11_again 198 = .ok (.aload_n 0, 1) := by decide +kernel
theorem dX11_again_199 : decode cX11_again 199 = .ok (.getfield 152, 3) := by decide +kernel
theorem dX11_again_202 : decode cX11_again 202 = .ok (.iconst 0, 1) := by decide +kernel
theorem dX11_again_203 : decode cX11_again 203 = .ok (.iaload, 1) := by decide +kernel
theorem dX11_again_204 : decode cX11_again 204 = .ok (.ireturn, 1) := by decide +kernel
theorem dX11_typeAgain_0 : decode cX11_typeAgain 0 = .ok (.aload_n 0, 1) := by decide +kernel
theorem dX11_typeAgain_1 : decode cX11_typeAgain 1 = .ok (.aload_n 0, 1) := by decide +kernel
theorem dX11_typeAgain_2 : decode cX11_typeAgain 2 = .ok (.iload_n 1, 1) := by decide +kernel
theorem dX11_typeAgain_3 : decode cX11_typeAgain 3 = .ok (.invokevirtual 361, 3) := by decide +kernel
theorem dX11_typeAgain_6 : decode cX11_typeAgain 6 = .ok (.ifCond .ne 7, 3) := by decide +kernel
theorem dX11_typeAgain_9 : decode cX11_typeAgain 9 = .ok (.iconst 1, 1) := by decide +kernel
theorem dX11_typeAgain_10 : decode cX11_typeAgain 10 = .ok (.goto 39, 3) := by decide +kernel
theorem dX11_typeAgain_13 : decode cX11_typeAgain 13 = .ok (.iload_n 2, 1) := by decide +kernel
