theorem dX9_toldUnit_66 : decode cX9_toldUnit 66 = .ok (.iconst 1, 1) := by decide +kernel
theorem dX9_toldUnit_67 : decode cX9_toldUnit 67 = .ok (.goto 4, 3) := by decide +kernel
theorem dX9_toldUnit_70 : decode cX9_toldUnit 70 = .ok (.iconst 0, 1) := by decide +kernel
theorem dX9_toldUnit_71 : decode cX9_toldUnit 71 = .ok (.bastore, 1) := by decide +kernel
theorem dX9_toldUnit_72 : decode cX9_toldUnit 72 = .ok (.aload_n 0, 1) := by decide +kernel
theorem dX9_toldUnit_73 : decode cX9_toldUnit 73 = .ok (.aload_n 0, 1) := by decide +kernel
theorem dX9_toldUnit_74 : decode cX9_toldUnit 74 = .ok (.getfield 64, 3) := by decide +kernel
theorem dX9_toldUnit_77 : decode cX9_toldUnit 77 = .ok (.iload_n 2, 1) := by decide +kernel
theorem dX9_toldUnit_78 : decode cX9_toldUnit 78 = .ok (.baload, 1) := by decide +kernel
theorem dX9_toldUnit_79 : decode cX9_toldUnit 79 = .ok (.ifCond .eq 8, 3) := by decide +kernel
theorem dX9_toldUnit_82 : decode cX9_toldUnit 82 = .ok (.bipush 7, 2) := by decide +kernel
theorem dX9_toldUnit_84 : decode cX9_toldUnit 84 = .ok (.goto 4, 3) := by decide +kernel
theorem dX9_toldUnit_87 : decode cX9_toldUnit 87 = .ok (.iconst 5, 1) := by decide +kernel
theorem dX9_toldUnit_88 : decode cX9_toldUnit 88 = .ok (.invokevirtual 349, 3) := by decide +kernel
theorem dX9_toldUnit_91 : decode cX9_toldUnit 91 = .ok (.aload_n 0, 1) := by decide +kernel
theorem dX9_toldUnit_92 : decode cX9_toldUnit 92 = .ok (.invokevirtual 345, 3) := by decide +kernel
theorem dX9_toldUnit_95 : decode cX9_toldUnit 95 = .ok (.lstore_n 3, 1) := by decide +kernel
theorem dX9_toldUnit_96 : decode cX9_toldUnit 96 = .ok (.aload_n 0, 1) := by decide +kernel
theorem dX9_toldUnit_97 : decode cX9_toldUnit 97 = .ok (.getfield 71, 3) := by decide +kernel
theorem dX9_toldUnit_100 : decode cX9_toldUnit 100 = .ok (.iload_n 2, 1) := by decide +kernel
theorem dX9_toldUnit_101 : decode cX9_toldUnit 101 = .ok (.iconst (-1), 1) := by decide +kernel
theorem dX9_toldUnit_102 : decode cX9_toldUnit 102 = .ok (.iastore, 1) := by decide +kernel
theorem dX9_toldUnit_103 : decode cX9_toldUnit 103 = .ok (.aload_n 0, 1) := by decide +kernel
theorem dX9_toldUnit_104 : decode cX9_toldUnit 104 = .ok (.getfield 74, 3) := by decide +kernel
theorem dX9_toldUnit_107 : decode cX9_toldUnit 107 = .ok (.iload_n 2, 1) := by decide +kernel
theorem dX9_toldUnit_108 : decode cX9_toldUnit 108 = .ok (.iconst 0, 1) := by decide +kernel
theorem dX9_toldUnit_109 : decode cX9_toldUnit 109 = .ok (.iastore, 1) := by decide +kernel
theorem dX9_toldUnit_110 : decode cX9_toldUnit 110 = .ok (.aload_n 0, 1) := by decide +kernel
theorem dX9_toldUnit_111 : decode cX9_toldUnit 111 = .ok (.getfield 80, 3) := by decide +kernel
theorem dX9_toldUnit_114 : decode cX9_toldUnit 114 = .ok (.iload_n 2, 1) := by decide +kernel
theorem dX9_toldUnit_115 : decode cX9_toldUnit 115 = .ok (.iconst 0, 1) := by decide +kernel
theorem dX9_toldUnit_116 : decode cX9_toldUnit 116 = .ok (.iastore, 1) := by decide +kernel
theorem dX9_toldUnit_117 : decode cX9_toldUnit 117 = .ok (.aload_n 0, 1) := by decide +kernel
theorem dX9_toldUnit_118 : decode cX9_toldUnit 118 = .ok (.getfield 95, 3) := by decide +kernel
theorem dX9_toldUnit_121 : decode cX9_toldUnit 121 = .ok (.iload_n 2, 1) := by decide +kernel
theorem dX9_toldUnit_122 : decode cX9_toldUnit 122 = .ok (.iconst 0, 1) := by decide +kernel
theorem dX9_toldUnit_123 : decode cX9_toldUnit 123 = .ok (.iastore, 1) := by decide +kernel
theorem dX9_toldUnit_124 : decode cX9_toldUnit 124 = .ok (.aload_n 0, 1) := by decide +kernel
theorem dX9_toldUnit_125 : decode cX9_toldUnit 125 = .ok (.getfield 98, 3) := by decide +kernel
theorem dX9_toldUnit_128 : decode cX9_toldUnit 128 = .ok (.iload_n 2, 1) := by decide +kernel
theorem dX9_toldUnit_129 : decode cX9_toldUnit 129 = .ok (.iconst 0, 1) := by decide +kernel
theorem dX9_toldUnit_130 : decode cX9_toldUnit 130 = .ok (.iastore, 1) := by decide +kernel
theorem dX9_toldUnit_131 : decode cX9_toldUnit 131 = .ok (.aload_n 0, 1) := by decide +kernel
theorem dX9_toldUnit_132 : decode cX9_toldUnit 132 = .ok (.getfield 104, 3) := by decide +kernel
theorem dX9_toldUnit_135 : decode cX9_toldUnit 135 = .ok (.iload_n 2, 1) := by decide +kernel
theorem dX9_toldUnit_136 : decode cX9_toldUnit 136 = .ok (.iconst (-1), 1) := by decide +kernel
theorem dX9_toldUnit_137 : decode cX9_toldUnit 137 = .ok (.iastore, 1) := by decide +kernel
theorem dX9_toldUnit_138 : decode cX9_toldUnit 138 = .ok (.aload_n 0, 1) := by decide +kernel
theorem dX9_toldUnit_139 : decode cX9_toldUnit 139 = .ok (.getfield 64, 3) := by decide +kernel
theorem dX9_toldUnit_142 : decode cX9_toldUnit 142 = .ok (.iload_n 2, 1) := by decide +kernel
theorem dX9_toldUnit_143 : decode cX9_toldUnit 143 = .ok (.baload, 1) := by decide +kernel
theorem dX9_toldUnit_144 : decode cX9_toldUnit 144 = .ok (.ifCond .eq 33, 3) := by decide +kernel
theorem dX9_toldUnit_147 : decode cX9_toldUnit 147 = .ok (.aload_n 0, 1) := by decide +kernel
theorem dX9_toldUnit_148 : decode cX9_toldUnit 148 = .ok (.bipush 8, 2) := by decide +kernel
theorem dX9_toldUnit_150 : decode cX9_toldUnit 150 = .ok (.invokevirtual 294, 3) := by decide +kernel
theorem dX9_toldUnit_153 : decode cX9_toldUnit 153 = .ok (.ifCond .eq 24, 3) := by decide +kernel
theorem dX9_toldUnit_156 : decode cX9_toldUnit 156 = .ok (.aload_n 0, 1) := by decide +kernel
theorem dX9_toldUnit_157 : decode cX9_toldUnit 157 = .ok (.getfield 71, 3) := by decide +kernel
theorem dX9_toldUnit_160 : decode cX9_toldUnit 160 = .ok (.iload_n 2, 1) := by decide +kernel
theorem dX9_toldUnit_161 : decode cX9_toldUnit 161 = .ok (.aload_n 0, 1) := by decide +kernel
theorem dX9_toldUnit_162 : decode cX9_toldUnit 162 = .ok (.iconst 1, 1) := by decide +kernel
theorem dX9_toldUnit_163 : decode cX9_toldUnit 163 = .ok (.invokevirtual 360, 3) := by decide +kernel
theorem dX9_toldUnit_166 : decode cX9_toldUnit 166 = .ok (.iastore, 1) := by decide +kernel
theorem dX9_toldUnit_167 : decode cX9_toldUnit 167 = .ok (.aload_n 0, 1) := by decide +kernel
theorem dX9_toldUnit_168 : decode cX9_toldUnit 168 = .ok (.dup, 1) := by decide +kernel
theorem dX9_toldUnit_169 : decode cX9_toldUnit 169 = .ok (.getfield 278, 3) := by decide +kernel
theorem dX9_toldUnit_172 : decode cX9_toldUnit 172 = .ok (.iconst 1, 1) := by decide +kernel
theorem dX9_toldUnit_173 : decode cX9_toldUnit 173 = .ok (.iadd, 1) := by decide +kernel
theorem dX9_toldUnit_174 : decode cX9_toldUnit 174 = .ok (.putfield 278, 3) := by decide +kernel
theorem dX9_toldUnit_177 : decode cX9_toldUnit 177 = .ok (.aload_n 0, 1) := by decide +kernel
theorem dX9_toldUnit_178 : decode cX9_toldUnit 178 = .ok (.aload_n 0, 1) := by decide +kernel
theorem dX9_toldUnit_179 : decode cX9_toldUnit 179 = .ok (.getfield 64, 3) := by decide +kernel
theorem dX9_toldUnit_182 : decode cX9_toldUnit 182 = .ok (.iload_n 2, 1) := by decide +kernel
theorem dX9_toldUnit_183 : decode cX9_toldUnit 183 = .ok (.baload, 1) := by decide +kernel
theorem dX9_toldUnit_184 : decode cX9_toldUnit 184 = .ok (.ifCond .eq 8, 3) := by decide +kernel
theorem dX9_toldUnit_187 : decode cX9_toldUnit 187 = .ok (.bipush 9, 2) := by decide +kernel
theorem dX9_toldUnit_189 : decode cX9_toldUnit 189 = .ok (.goto 5, 3) := by decide +kernel
theorem dX9_toldUnit_192 : decode cX9_toldUnit 192 = .ok (.bipush 6, 2) := by decide +kernel
theorem dX9_toldUnit_194 : decode cX9_toldUnit 194 = .ok (.invokevirtual 294, 3) := by decide +kernel
theorem dX9_toldUnit_197 : decode cX9_toldUnit 197 = .ok (.ifCond .eq 8, 3) := by decide +kernel
theorem dX9_toldUnit_200 : decode cX9_toldUnit 200 = .ok (.aload_n 0, 1) := by decide +kernel
theorem dX9_toldUnit_201 : decode cX9_toldUnit 201 = .ok (.iload_n 2, 1) := by decide +kernel
theorem dX9_toldUnit_202 : decode cX9_toldUnit 202 = .ok (.invokevirtual 367, 3) := by decide +kernel
theorem dX9_toldUnit_205 : decode cX9_toldUnit 205 = .ok (.aload_n 0, 1) := by decide +kernel
theorem dX9_toldUnit_206 : decode cX9_toldUnit 206 = .ok (.getfield 281, 3) := by decide +kernel
theorem dX9_toldUnit_209 : decode cX9_toldUnit 209 = .ok (.ifCond .le 4, 3) := by decide +kernel
theorem dX9_toldUnit_212 : decode cX9_toldUnit 212 = .ok (.return_, 1) := by decide +kernel
theorem dX9_toldUnit_213 : decode cX9_toldUnit 213 = .ok (.aload_n 0, 1) := by decide +kernel
theorem dX9_toldUnit_214 : decode cX9_toldUnit 214 = .ok (.getfield 61, 3) := by decide +kernel
theorem dX9_toldUnit_217 : decode cX9_toldUnit 217 = .ok (.iload_n 2, 1) := by decide +kernel
theorem dX9_toldUnit_218 : decode cX9_toldUnit 218 = .ok (.lload_n 3, 1) := by decide +kernel
theorem dX9_toldUnit_219 : decode cX9_toldUnit 219 = .ok (.lastore, 1) := by decide +kernel
theorem dX9_toldUnit_220 : decode cX9_toldUnit 220 = .ok (.aload_n 0, 1) := by decide +kernel
theorem dX9_toldUnit_221 : decode cX9_toldUnit 221 = .ok (.getfield 58, 3) := by decide +kernel
theorem dX9_toldUnit_224 : decode cX9_toldUnit 224 = .ok (.aload_n 0, 1) := by decide +kernel
theorem dX9_toldUnit_225 : decode cX9_toldUnit 225 = .ok (.getfield 297, 3) := by decide +kernel
theorem dX9_toldUnit_228 : decode cX9_toldUnit 228 = .ok (.dup2, 1) := by decide +kernel
theorem dX9_toldUnit_229 : decode cX9_toldUnit 229 = .ok (.iaload, 1) := by decide +kernel
theorem dX9_toldUnit_230 : decode cX9_toldUnit 230 = .ok (.iconst 1, 1) := by decide +kernel
theorem dX9_toldUnit_231 : decode cX9_toldUnit 231 = .ok (.iadd, 1) := by decide +kernel
theorem dX9_toldUnit_232 : decode cX9_toldUnit 232 = .ok (.iastore, 1) := by decide +kernel
theorem dX9_toldUnit_233 : decode cX9_toldUnit 233 = .ok (.aload_n 0, 1) := by decide +kernel
theorem dX9_toldUnit_234 : decode cX9_toldUnit 234 = .ok (.iload_n 1, 1) := by decide +kernel
theorem dX9_toldUnit_235 : decode cX9_toldUnit 235 = .ok (.putfield 370, 3) := by decide +kernel
theorem dX9_toldUnit_238 : decode cX9_toldUnit 238 = .ok (.aload_n 0, 1) := by decide +kernel
theorem dX9_toldUnit_239 : decode cX9_toldUnit 239 = .ok (.iconst 0, 1) := by decide +kernel
theorem dX9_toldUnit_240 : decode cX9_toldUnit 240 = .ok (.putfield 373, 3) := by decide +kernel
theorem dX9_toldUnit_243 : decode cX9_toldUnit 243 = .ok (.aload_n 0, 1) := by decide +kernel
theorem dX9_toldUnit_244 : decode cX9_toldUnit 244 = .ok (.getfield 101, 3) := by decide +kernel
theorem dX9_toldUnit_247 : decode cX9_toldUnit 247 = .ok (.iload_n 2, 1) := by decide +kernel
theorem dX9_toldUnit_248 : decode cX9_toldUnit 248 = .ok (.aload_n 0, 1) := by decide +kernel
theorem dX9_toldUnit_249 : decode cX9_toldUnit 249 = .ok (.getfield 313, 3) := by decide +kernel
theorem dX9_toldUnit_252 : decode cX9_toldUnit 252 = .ok (.aload_n 0, 1) := by decide +kernel
theorem dX9_toldUnit_253 : decode cX9_toldUnit 253 = .ok (.getfield 310, 3) := by decide +kernel
theorem dX9_toldUnit_256 : decode cX9_toldUnit 256 = .ok (.iadd, 1) := by decide +kernel
theorem dX9_toldUnit_257 : decode cX9_toldUnit 257 = .ok (.iastore, 1) := by decide +kernel
theorem dX9_toldUnit_258 : decode cX9_toldUnit 258 = .ok (.aload_n 0, 1) := by decide +kernel
theorem dX9_toldUnit_259 : decode cX9_toldUnit 259 = .ok (.bipush 123, 2) := by decide +kernel
theorem dX9_toldUnit_261 : decode cX9_toldUnit 261 = .ok (.invokevirtual 357, 3) := by decide +kernel
theorem dX9_toldUnit_264 : decode cX9_toldUnit 264 = .ok (.aload_n 0, 1) := by decide +kernel
theorem dX9_toldUnit_265 : decode cX9_toldUnit 265 = .ok (.getfield 281, 3) := by decide +kernel
theorem dX9_toldUnit_268 : decode cX9_toldUnit 268 = .ok (.ifCond .ne 38, 3) := by decide +kernel
theorem dX9_toldUnit_271 : decode cX9_toldUnit 271 = .ok (.aload_n 0, 1) := by decide +kernel
theorem dX9_toldUnit_272 : decode cX9_toldUnit 272 = .ok (.bipush 125, 2) := by decide +kernel
theorem dX9_toldUnit_274 : decode cX9_toldUnit 274 = .ok (.invokevirtual 284, 3) := by decide +kernel
theorem dX9_toldUnit_277 : decode cX9_toldUnit 277 = .ok (.ifCond .ne 29, 3) := by decide +kernel
theorem dX9_toldUnit_280 : decode cX9_toldUnit 280 = .ok (.aload_n 0, 1) := by decide +kernel
theorem dX9_toldUnit_281 : decode cX9_toldUnit 281 = .ok (.getfield 64, 3) := by decide +kernel
theorem dX9_toldUnit_284 : decode cX9_toldUnit 284 = .ok (.iload_n 2, 1) := by decide +kernel
theorem dX9_toldUnit_285 : decode cX9_toldUnit 285 = .ok (.baload, 1) := by decide +kernel
theorem dX9_toldUnit_286 : decode cX9_toldUnit 286 = .ok (.ifCond .eq 12, 3) := by decide +kernel
theorem dX9_toldUnit_289 : decode cX9_toldUnit 289 = .ok (.aload_n 0, 1) := by decide +kernel
theorem dX9_toldUnit_290 : decode cX9_toldUnit 290 = .ok (.bipush 11, 2) := by decide +kernel
theorem dX9_toldUnit_292 : decode cX9_toldUnit 292 = .ok (.invokevirtual 291, 3) := by decide +kernel
theorem dX9_toldUnit_295 : decode cX9_toldUnit 295 = .ok (.ifCond .ne 11, 3) := by decide +kernel
theorem dX9_toldUnit_298 : decode cX9_toldUnit 298 = .ok (.aload_n 0, 1) := by decide +kernel
theorem dX9_toldUnit_299 : decode cX9_toldUnit 299 = .ok (.iload_n 2, 1) := by decide +kernel
theorem dX9_toldUnit_300 : decode cX9_toldUnit 300 = .ok (.invokevirtual 376, 3) := by decide +kernel
theorem dX9_toldUnit_303 : decode cX9_toldUnit 303 = .ok (.goto (-39), 3) := by decide +kernel
theorem dX9_toldUnit_306 : decode cX9_toldUnit 306 = .ok (.aload_n 0, 1) := by decide +kernel
theorem dX9_toldUnit_307 : decode cX9_toldUnit 307 = .ok (.iconst 0, 1) := by decide +kernel
theorem dX9_toldUnit_308 : decode cX9_toldUnit 308 = .ok (.iconst 0, 1) := by decide +kernel
theorem dX9_toldUnit_309 : decode cX9_toldUnit 309 = .ok (.iconst 0, 1) := by decide +kernel
theorem dX9_toldUnit_310 : decode cX9_toldUnit 310 = .ok (.invokevirtual 379, 3) := by decide +kernel
theorem dX9_toldUnit_313 : decode cX9_toldUnit 313 = .ok (.pop, 1) := by decide +kernel
theorem dX9_toldUnit_314 : decode cX9_toldUnit 314 = .ok (.aload_n 0, 1) := by decide +kernel
theorem dX9_toldUnit_315 : decode cX9_toldUnit 315 = .ok (.getfield 64, 3) := by decide +kernel
theorem dX9_toldUnit_318 : decode cX9_toldUnit 318 = .ok (.iload_n 2, 1) := by decide +kernel
theorem dX9_toldUnit_319 : decode cX9_toldUnit 319 = .ok (.baload, 1) := by decide +kernel
theorem dX9_toldUnit_320 : decode cX9_toldUnit 320 = .ok (.ifCond .eq 39, 3) := by decide +kernel
theorem dX9_toldUnit_323 : decode cX9_toldUnit 323 = .ok (.aload_n 0, 1) := by decide +kernel
theorem dX9_toldUnit_324 : decode cX9_toldUnit 324 = .ok (.bipush 11, 2) := by decide +kernel
theorem dX9_toldUnit_326 : decode cX9_toldUnit 326 = .ok (.invokevirtual 294, 3) := by decide +kernel
theorem dX9_toldUnit_329 : decode cX9_toldUnit 329 = .ok (.ifCond .eq 30, 3) := by decide +kernel
theorem dX9_toldUnit_332 : decode cX9_toldUnit 332 = .ok (.aload_n 0, 1) := by decide +kernel
theorem dX9_toldUnit_333 : decode cX9_toldUnit 333 = .ok (.getfield 104, 3) := by decide +kernel
theorem dX9_toldUnit_336 : decode cX9_toldUnit 336 = .ok (.iload_n 2, 1) := by decide +kernel
theorem dX9_toldUnit_337 : decode cX9_toldUnit 337 = .ok (.aload_n 0, 1) := by decide +kernel
theorem dX9_toldUnit_338 : decode cX9_toldUnit 338 = .ok (.getfield 313, 3) := by decide +kernel
theorem dX9_toldUnit_341 : decode cX9_toldUnit 341 = .ok (.aload_n 0, 1) := by decide +kernel
theorem dX9_toldUnit_342 : decode cX9_toldUnit 342 = .ok (.getfield 310, 3) := by decide +kernel
theorem dX9_toldUnit_345 : decode cX9_toldUnit 345 = .ok (.iadd, 1) := by decide +kernel
theorem dX9_toldUnit_346 : decode cX9_toldUnit 346 = .ok (.iastore, 1) := by decide +kernel
theorem dX9_toldUnit_347 : decode cX9_toldUnit 347 = .ok (.aload_n 0, 1) := by decide +kernel
theorem dX9_toldUnit_348 : decode cX9_toldUnit 348 = .ok (.invokevirtual 383, 3) := by decide +kernel
theorem dX9_toldUnit_351 : decode cX9_toldUnit 351 = .ok (.aload_n 0, 1) := by decide +kernel
theorem dX9_toldUnit_352 : decode cX9_toldUnit 352 = .ok (.iconst 0, 1) := by decide +kernel
theorem dX9_toldUnit_353 : decode cX9_toldUnit 353 = .ok (.iconst 0, 1) := by decide +kernel
theorem dX9_toldUnit_354 : decode cX9_toldUnit 354 = .ok (.iconst 0, 1) := by decide +kernel
theorem dX9_toldUnit_355 : decode cX9_toldUnit 355 = .ok (.invokevirtual 379, 3) := by decide +kernel
theorem dX9_toldUnit_358 : decode cX9_toldUnit 358 = .ok (.pop, 1) := by decide +kernel
theorem dX9_toldUnit_359 : decode cX9_toldUnit 359 = .ok (.aload_n 0, 1) := by decide +kernel
theorem dX9_toldUnit_360 : decode cX9_toldUnit 360 = .ok (.bipush 125, 2) := by decide +kernel
theorem dX9_toldUnit_362 : decode cX9_toldUnit 362 = .ok (.invokevirtual 357, 3) := by decide +kernel
theorem dX9_toldUnit_365 : decode cX9_toldUnit 365 = .ok (.aload_n 0, 1) := by decide +kernel
theorem dX9_toldUnit_366 : decode cX9_toldUnit 366 = .ok (.getfield 71, 3) := by decide +kernel
theorem dX9_toldUnit_369 : decode cX9_toldUnit 369 = .ok (.iload_n 2, 1) := by decide +kernel
theorem dX9_toldUnit_370 : decode cX9_toldUnit 370 = .ok (.iaload, 1) := by decide +kernel
theorem dX9_toldUnit_371 : decode cX9_toldUnit 371 = .ok (.ifCond .lt 20, 3) := by decide +kernel
theorem dX9_toldUnit_374 : decode cX9_toldUnit 374 = .ok (.aload_n 0, 1) := by decide +kernel
theorem dX9_toldUnit_375 : decode cX9_toldUnit 375 = .ok (.getfield 107, 3) := by decide +kernel
theorem dX9_toldUnit_378 : decode cX9_toldUnit 378 = .ok (.bipush 24, 2) := by decide +kernel
theorem dX9_toldUnit_380 : decode cX9_toldUnit 380 = .ok (.iload_n 2, 1) := by decide +kernel
theorem dX9_toldUnit_381 : decode cX9_toldUnit 381 = .ok (.imul, 1) := by decide +kernel
theorem dX9_toldUnit_382 : decode cX9_toldUnit 382 = .ok (.aload_n 0, 1) := by decide +kernel
theorem dX9_toldUnit_383 : decode cX9_toldUnit 383 = .ok (.getfield 71, 3) := by decide +kernel
theorem dX9_toldUnit_386 : decode cX9_toldUnit 386 = .ok (.iload_n 2, 1) := by decide +kernel
theorem dX9_toldUnit_387 : decode cX9_toldUnit 387 = .ok (.iaload, 1) := by decide +kernel
theorem dX9_toldUnit_388 : decode cX9_toldUnit 388 = .ok (.iadd, 1) := by decide +kernel
theorem dX9_toldUnit_389 : decode cX9_toldUnit 389 = .ok (.iconst 1, 1) := by decide +kernel
theorem dX9_toldUnit_390 : decode cX9_toldUnit 390 = .ok (.bastore, 1) := by decide +kernel
theorem dX9_toldUnit_391 : decode cX9_toldUnit 391 = .ok (.iconst 0, 1) := by decide +kernel
theorem dX9_toldUnit_392 : decode cX9_toldUnit 392 = .ok (.istore 5, 2) := by decide +kernel
theorem dX9_toldUnit_394 : decode cX9_toldUnit 394 = .ok (.iload 5, 2) := by decide +kernel
theorem dX9_toldUnit_396 : decode cX9_toldUnit 396 = .ok (.aload_n 0, 1) := by decide +kernel
theorem dX9_toldUnit_397 : decode cX9_toldUnit 397 = .ok (.getfield 74, 3) := by decide +kernel
theorem dX9_toldUnit_400 : decode cX9_toldUnit 400 = .ok (.iload_n 2, 1) := by decide +kernel
theorem dX9_toldUnit_401 : decode cX9_toldUnit 401 = .ok (.iaload, 1) := by decide +kernel
theorem dX9_toldUnit_402 : decode cX9_toldUnit 402 = .ok (.if_icmp .ge 32, 3) := by decide +kernel
theorem dX9_toldUnit_405 : decode cX9_toldUnit 405 = .ok (.aload_n 0, 1) := by decide +kernel
theorem dX9_toldUnit_406 : decode cX9_toldUnit 406 = .ok (.getfield 107, 3) := by decide +kernel
theorem dX9_toldUnit_409 : decode cX9_toldUnit 409 = .ok (.bipush 24, 2) := by decide +kernel
theorem dX9_toldUnit_411 : decode cX9_toldUnit 411 = .ok (.iload_n 2, 1) := by decide +kernel
theorem dX9_toldUnit_412 : decode cX9_toldUnit 412 = .ok (.imul, 1) := by decide +kernel
theorem dX9_toldUnit_413 : decode cX9_toldUnit 413 = .ok (.aload_n 0, 1) := by decide +kernel
theorem dX9_toldUnit_414 : decode cX9_toldUnit 414 = .ok (.getfield 77, 3) := by decide +kernel
theorem dX9_toldUnit_417 : decode cX9_toldUnit 417 = .ok (.bipush 6, 2) := by decide +kernel
theorem dX9_toldUnit_419 : decode cX9_toldUnit 419 = .ok (.iload_n 2, 1) := by decide +kernel
theorem dX9_toldUnit_420 : decode cX9_toldUnit 420 = .ok (.imul, 1) := by decide +kernel
theorem dX9_toldUnit_421 : decode cX9_toldUnit 421 = .ok (.iload 5, 2) := by decide +kernel
theorem dX9_toldUnit_423 : decode cX9_toldUnit 423 = .ok (.iadd, 1) := by decide +kernel
theorem dX9_toldUnit_424 : decode cX9_toldUnit 424 = .ok (.iaload, 1) := by decide +kernel
theorem dX9_toldUnit_425 : decode cX9_toldUnit 425 = .ok (.iadd, 1) := by decide +kernel
theorem dX9_toldUnit_426 : decode cX9_toldUnit 426 = .ok (.iconst 1, 1) := by decide +kernel
theorem dX9_toldUnit_427 : decode cX9_toldUnit 427 = .ok (.bastore, 1) := by decide +kernel
theorem dX9_toldUnit_428 : decode cX9_toldUnit 428 = .ok (.iinc 5 1, 3) := by decide +kernel
theorem dX9_toldUnit_431 : decode cX9_toldUnit 431 = .ok (.goto (-37), 3) := by decide +kernel
theorem dX9_toldUnit_434 : decode cX9_toldUnit 434 = .ok (.return_, 1) := by decide +kernel
theorem dX9_item_0 : decode cX9_item 0 = .ok (.aload_n 0, 1) := by decide +kernel
theorem dX9_item_1 : decode cX9_item 1 = .ok (.bipush 12, 2) := by decide +kernel
theorem dX9_item_3 : decode cX9_item 3 = .ok (.invokevirtual 291, 3) := by decide +kernel
theorem dX9_item_6 : decode cX9_item 6 = .ok (.istore_n 2, 1) := by decide +kernel
theorem dX9_item_7 : decode cX9_item 7 = .ok (.iload_n 2, 1) := by decide +kernel
theorem dX9_item_8 : decode cX9_item 8 = .ok (.ifCond .ne 17, 3) := by decide +kernel
theorem dX9_item_11 : decode cX9_item 11 = .ok (.aload_n 0, 1) := by decide +kernel
theorem dX9_item_12 : decode cX9_item 12 = .ok (.bipush 13, 2) := by decide +kernel
theorem dX9_item_14 : decode cX9_item 14 = .ok (.invokevirtual 291, 3) := by decide +kernel
theorem dX9_item_17 : decode cX9_item 17 = .ok (.ifCond .ne 8, 3) := by decide +kernel
theorem dX9_item_20 : decode cX9_item 20 = .ok (.aload_n 0, 1) := by decide +kernel
theorem dX9_item_21 : decode cX9_item 21 = .ok (.invokevirtual 386, 3) := by decide +kernel
theorem dX9_item_24 : decode cX9_item 24 = .ok (.return_, 1) := by decide +kernel
theorem dX9_item_25 : decode cX9_item 25 = .ok (.iload_n 2, 1) := by decide +kernel
theorem dX9_item_26 : decode cX9_item 26 = .ok (.ifCond .eq 7, 3) := by decide +kernel
theorem dX9_item_29 : decode cX9_item 29 = .ok (.iconst (-1), 1) := by decide +kernel
theorem dX9_item_30 : decode cX9_item 30 = .ok (.goto 10, 3) := by decide +kernel
theorem dX9_item_33 : decode cX9_item 33 = .ok (.aload_n 0, 1) := by decide +kernel
theorem dX9_item_34 : decode cX9_item 34 = .ok (.iconst 1, 1) := by decide +kernel
theorem dX9_item_35 : decode cX9_item 35 = .ok (.iconst 0, 1) := by decide +kernel
theorem dX9_item_36 : decode cX9_item 36 = .ok (.iconst 0, 1) := by decide +kernel
theorem dX9_item_37 : decode cX9_item 37 = .ok (.invokevirtual 379, 3) := by decide +kernel
theorem dX9_item_40 : decode cX9_item 40 = .ok (.istore_n 3, 1) := by decide +kernel
theorem dX9_item_41 : decode cX9_item 41 = .ok (.aload_n 0, 1) := by decide +kernel
theorem dX9_item_42 : decode cX9_item 42 = .ok (.dup, 1) := by decide +kernel
theorem dX9_item_43 : decode cX9_item 43 = .ok (.getfield 278, 3) := by decide +kernel
theorem dX9_item_46 : decode cX9_item 46 = .ok (.iconst 1, 1) := by decide +kernel
theorem dX9_item_47 : decode cX9_item 47 = .ok (.iadd, 1) := by decide +kernel
theorem dX9_item_48 : decode cX9_item 48 = .ok (.putfield 278, 3) := by decide +kernel
theorem dX9_item_51 : decode cX9_item 51 = .ok (.aload_n 0, 1) := by decide +kernel
theorem dX9_item_52 : decode cX9_item 52 = .ok (.getfield 281, 3) := by decide +kernel
theorem dX9_item_55 : decode cX9_item 55 = .ok (.ifCond .ne 18, 3) := by decide +kernel
theorem dX9_item_58 : decode cX9_item 58 = .ok (.aload_n 0, 1) := by decide +kernel
theorem dX9_item_59 : decode cX9_item 59 = .ok (.invokevirtual 337, 3) := by decide +kernel
theorem dX9_item_62 : decode cX9_item 62 = .ok (.ifCond .ne 11, 3) := by decide +kernel
theorem dX9_item_65 : decode cX9_item 65 = .ok (.aload_n 0, 1) := by decide +kernel
theorem dX9_item_66 : decode cX9_item 66 = .ok (.iconst 1, 1) := by decide +kernel
theorem dX9_item_67 : decode cX9_item 67 = .ok (.invokevirtual 287, 3) := by decide +kernel
theorem dX9_item_70 : decode cX9_item 70 = .ok (.goto 71, 3) := by decide +kernel
theorem dX9_item_73 : decode cX9_item 73 = .ok (.aload_n 0, 1) := by decide +kernel
theorem dX9_item_74 : decode cX9_item 74 = .ok (.getfield 281, 3) := by decide +kernel
theorem dX9_item_77 : decode cX9_item 77 = .ok (.ifCond .ne 41, 3) := by decide +kernel
theorem dX9_item_80 : decode cX9_item 80 = .ok (.aload_n 0, 1) := by decide +kernel
theorem dX9_item_81 : decode cX9_item 81 = .ok (.aload_n 0, 1) := by decide +kernel
theorem dX9_item_82 : decode cX9_item 82 = .ok (.getfield 83, 3) := by decide +kernel
theorem dX9_item_85 : decode cX9_item 85 = .ok (.bipush 8, 2) := by decide +kernel
theorem dX9_item_87 : decode cX9_item 87 = .ok (.iload_n 1, 1) := by decide +kernel
theorem dX9_item_88 : decode cX9_item 88 = .ok (.imul, 1) := by decide +kernel
theorem dX9_item_89 : decode cX9_item 89 = .ok (.aload_n 0, 1) := by decide +kernel
theorem dX9_item_90 : decode cX9_item 90 = .ok (.getfield 80, 3) := by decide +kernel
theorem dX9_item_93 : decode cX9_item 93 = .ok (.iload_n 1, 1) := by decide +kernel
theorem dX9_item_94 : decode cX9_item 94 = .ok (.iaload, 1) := by decide +kernel
theorem dX9_item_95 : decode cX9_item 95 = .ok (.aload_n 0, 1) := by decide +kernel
theorem dX9_item_96 : decode cX9_item 96 = .ok (.getfield 30, 3) := by decide +kernel
theorem dX9_item_99 : decode cX9_item 99 = .ok (.aload_n 0, 1) := by decide +kernel
theorem dX9_item_100 : decode cX9_item 100 = .ok (.getfield 278, 3) := by decide +kernel
theorem dX9_item_103 : decode cX9_item 103 = .ok (.laload, 1) := by decide +kernel
theorem dX9_item_104 : decode cX9_item 104 = .ok (.invokevirtual 300, 3) := by decide +kernel
theorem dX9_item_107 : decode cX9_item 107 = .ok (.ifCond .lt 11, 3) := by decide +kernel
theorem dX9_item_110 : decode cX9_item 110 = .ok (.aload_n 0, 1) := by decide +kernel
theorem dX9_item_111 : decode cX9_item 111 = .ok (.iconst 3, 1) := by decide +kernel
theorem dX9_item_112 : decode cX9_item 112 = .ok (.invokevirtual 287, 3) := by decide +kernel
theorem dX9_item_115 : decode cX9_item 115 = .ok (.goto 26, 3) := by decide +kernel
theorem dX9_item_118 : decode cX9_item 118 = .ok (.aload_n 0, 1) := by decide +kernel
theorem dX9_item_119 : decode cX9_item 119 = .ok (.getfield 281, 3) := by decide +kernel
theorem dX9_item_122 : decode cX9_item 122 = .ok (.ifCond .ne 19, 3) := by decide +kernel
theorem dX9_item_125 : decode cX9_item 125 = .ok (.aload_n 0, 1) := by decide +kernel
theorem dX9_item_126 : decode cX9_item 126 = .ok (.getfield 80, 3) := by decide +kernel
theorem dX9_item_129 : decode cX9_item 129 = .ok (.iload_n 1, 1) := by decide +kernel
theorem dX9_item_130 : decode cX9_item 130 = .ok (.iaload, 1) := by decide +kernel
theorem dX9_item_131 : decode cX9_item 131 = .ok (.bipush 8, 2) := by decide +kernel
theorem dX9_item_133 : decode cX9_item 133 = .ok (.if_icmp .ne 8, 3) := by decide +kernel
theorem dX9_item_136 : decode cX9_item 136 = .ok (.aload_n 0, 1) := by decide +kernel
theorem dX9_item_137 : decode cX9_item 137 = .ok (.iconst 5, 1) := by decide +kernel
theorem dX9_item_138 : decode cX9_item 138 = .ok (.invokevirtual 287, 3) := by decide +kernel
theorem dX9_item_141 : decode cX9_item 141 = .ok (.aload_n 0, 1) := by decide +kernel
theorem dX9_item_142 : decode cX9_item 142 = .ok (.getfield 30, 3) := by decide +kernel
theorem dX9_item_145 : decode cX9_item 145 = .ok (.aload_n 0, 1) := by decide +kernel
theorem dX9_item_146 : decode cX9_item 146 = .ok (.getfield 278, 3) := by decide +kernel
theorem dX9_item_149 : decode cX9_item 149 = .ok (.laload, 1) := by decide +kernel
theorem dX9_item_150 : decode cX9_item 150 = .ok (.lstore 4, 2) := by decide +kernel
theorem dX9_item_152 : decode cX9_item 152 = .ok (.aload_n 0, 1) := by decide +kernel
theorem dX9_item_153 : decode cX9_item 153 = .ok (.dup, 1) := by decide +kernel
theorem dX9_item_154 : decode cX9_item 154 = .ok (.getfield 278, 3) := by decide +kernel
theorem dX9_item_157 : decode cX9_item 157 = .ok (.iconst 1, 1) := by decide +kernel
theorem dX9_item_158 : decode cX9_item 158 = .ok (.iadd, 1) := by decide +kernel
theorem dX9_item_159 : decode cX9_item 159 = .ok (.putfield 278, 3) := by decide +kernel
theorem dX9_item_162 : decode cX9_item 162 = .ok (.aload_n 0, 1) := by decide +kernel
theorem dX9_item_163 : decode cX9_item 163 = .ok (.bipush 61, 2) := by decide +kernel
theorem dX9_item_165 : decode cX9_item 165 = .ok (.invokevirtual 357, 3) := by decide +kernel
theorem dX9_item_168 : decode cX9_item 168 = .ok (.bipush 8, 2) := by decide +kernel
theorem dX9_item_170 : decode cX9_item 170 = .ok (.iload_n 1, 1) := by decide +kernel
theorem dX9_item_171 : decode cX9_item 171 = .ok (.imul, 1) := by decide +kernel
theorem dX9_item_172 : decode cX9_item 172 = .ok (.aload_n 0, 1) := by decide +kernel
theorem dX9_item_173 : decode cX9_item 173 = .ok (.getfield 80, 3) := by decide +kernel
theorem dX9_item_176 : decode cX9_item 176 = .ok (.iload_n 1, 1) := by decide +kernel
theorem dX9_item_177 : decode cX9_item 177 = .ok (.iaload, 1) := by decide +kernel
theorem dX9_item_178 : decode cX9_item 178 = .ok (.iadd, 1) := by decide +kernel
theorem dX9_item_179 : decode cX9_item 179 = .ok (.istore 6, 2) := by decide +kernel
theorem dX9_item_181 : decode cX9_item 181 = .ok (.iconst 0, 1) := by decide +kernel
theorem dX9_item_182 : decode cX9_item 182 = .ok (.istore 7, 2) := by decide +kernel
theorem dX9_item_184 : decode cX9_item 184 = .ok (.iload_n 2, 1) := by decide +kernel
theorem dX9_item_185 : decode cX9_item 185 = .ok (.ifCond .eq 39, 3) := by decide +kernel
theorem dX9_item_188 : decode cX9_item 188 = .ok (.aload_n 0, 1) := by decide +kernel
theorem dX9_item_189 : decode cX9_item 189 = .ok (.bipush 45, 2) := by decide +kernel
theorem dX9_item_191 : decode cX9_item 191 = .ok (.invokevirtual 364, 3) := by decide +kernel
theorem dX9_item_194 : decode cX9_item 194 = .ok (.istore 8, 2) := by decide +kernel
theorem dX9_item_196 : decode cX9_item 196 = .ok (.aload_n 0, 1) := by decide +kernel
theorem dX9_item_197 : decode cX9_item 197 = .ok (.iconst 0, 1) := by decide +kernel
theorem dX9_item_198 : decode cX9_item 198 = .ok (.ldc_w 352, 3) := by decide +kernel
theorem dX9_item_201 : decode cX9_item 201 = .ok (.invokevirtual 353, 3) := by decide +kernel
theorem dX9_item_204 : decode cX9_item 204 = .ok (.istore 7, 2) := by decide +kernel
theorem dX9_item_206 : decode cX9_item 206 = .ok (.iload 8, 2) := by decide +kernel
theorem dX9_item_208 : decode cX9_item 208 = .ok (.ifCond .eq 9, 3) := by decide +kernel
theorem dX9_item_211 : decode cX9_item 211 = .ok (.iload 7, 2) := by decide +kernel
theorem dX9_item_213 : decode cX9_item 213 = .ok (.ineg, 1) := by decide +kernel
theorem dX9_item_214 : decode cX9_item 214 = .ok (.goto 5, 3) := by decide +kernel
theorem dX9_item_217 : decode cX9_item 217 = .ok (.iload 7, 2) := by decide +kernel
theorem dX9_item_219 : decode cX9_item 219 = .ok (.istore 7, 2) := by decide +kernel
theorem dX9_item_221 : decode cX9_item 221 = .ok (.goto 23, 3) := by decide +kernel
theorem dX9_item_224 : decode cX9_item 224 = .ok (.aload_n 0, 1) := by decide +kernel
theorem dX9_item_225 : decode cX9_item 225 = .ok (.invokevirtual 389, 3) := by decide +kernel
theorem dX9_item_228 : decode cX9_item 228 = .ok (.aload_n 0, 1) := by decide +kernel
theorem dX9_item_229 : decode cX9_item 229 = .ok (.iconst 5, 1) := by decide +kernel
theorem dX9_item_230 : decode cX9_item 230 = .ok (.aload_n 0, 1) := by decide +kernel
theorem dX9_item_231 : decode cX9_item 231 = .ok (.getfield 370, 3) := by decide +kernel
theorem dX9_item_234 : decode cX9_item 234 = .ok (.aload_n 0, 1) := by decide +kernel
theorem dX9_item_235 : decode cX9_item 235 = .ok (.getfield 80, 3) := by decide +kernel
theorem dX9_item_238 : decode cX9_item 238 = .ok (.iload_n 1, 1) := by decide +kernel
theorem dX9_item_239 : decode cX9_item 239 = .ok (.iaload, 1) := by decide +kernel
theorem dX9_item_240 : decode cX9_item 240 = .ok (.invokevirtual 379, 3) := by decide +kernel
theorem dX9_item_243 : decode cX9_item 243 = .ok (.pop, 1) := by decide +kernel
theorem dX9_item_244 : decode cX9_item 244 = .ok (.aload_n 0, 1) := by decide +kernel
theorem dX9_item_245 : decode cX9_item 245 = .ok (.bipush 59, 2) := by decide +kernel
theorem dX9_item_247 : decode cX9_item 247 = .ok (.invokevirtual 357, 3) := by decide +kernel
theorem dX9_item_250 : decode cX9_item 250 = .ok (.aload_n 0, 1) := by decide +kernel
theorem dX9_item_251 : decode cX9_item 251 = .ok (.getfield 281, 3) := by decide +kernel
theorem dX9_item_254 : decode cX9_item 254 = .ok (.ifCond .le 4, 3) := by decide +kernel
theorem dX9_item_257 : decode cX9_item 257 = .ok (.return_, 1) := by decide +kernel
theorem dX9_item_258 : decode cX9_item 258 = .ok (.aload_n 0, 1) := by decide +kernel
theorem dX9_item_259 : decode cX9_item 259 = .ok (.getfield 83, 3) := by decide +kernel
theorem dX9_item_262 : decode cX9_item 262 = .ok (.iload 6, 2) := by decide +kernel
theorem dX9_item_264 : decode cX9_item 264 = .ok (.lload 4, 2) := by decide +kernel
theorem dX9_item_266 : decode cX9_item 266 = .ok (.lastore, 1) := by decide +kernel
theorem dX9_item_267 : decode cX9_item 267 = .ok (.aload_n 0, 1) := by decide +kernel
theorem dX9_item_268 : decode cX9_item 268 = .ok (.getfield 86, 3) := by decide +kernel
theorem dX9_item_271 : decode cX9_item 271 = .ok (.iload 6, 2) := by decide +kernel
theorem dX9_item_273 : decode cX9_item 273 = .ok (.iload_n 2, 1) := by decide +kernel
theorem dX9_item_274 : decode cX9_item 274 = .ok (.bastore, 1) := by decide +kernel
theorem dX9_item_275 : decode cX9_item 275 = .ok (.aload_n 0, 1) := by decide +kernel
theorem dX9_item_276 : decode cX9_item 276 = .ok (.getfield 89, 3) := by decide +kernel
theorem dX9_item_279 : decode cX9_item 279 = .ok (.iload 6, 2) := by decide +kernel
theorem dX9_item_281 : decode cX9_item 281 = .ok (.iload 7, 2) := by decide +kernel
theorem dX9_item_283 : decode cX9_item 283 = .ok (.iastore, 1) := by decide +kernel
theorem dX9_item_284 : decode cX9_item 284 = .ok (.aload_n 0, 1) := by decide +kernel
theorem dX9_item_285 : decode cX9_item 285 = .ok (.getfield 92, 3) := by decide +kernel
theorem dX9_item_288 : decode cX9_item 288 = .ok (.iload 6, 2) := by decide +kernel
theorem dX9_item_290 : decode cX9_item 290 = .ok (.iload_n 2, 1) := by decide +kernel
theorem dX9_item_291 : decode cX9_item 291 = .ok (.ifCond .eq 12, 3) := by decide +kernel
theorem dX9_item_294 : decode cX9_item 294 = .ok (.aload_n 0, 1) := by decide +kernel
theorem dX9_item_295 : decode cX9_item 295 = .ok (.getfield 95, 3) := by decide +kernel
theorem dX9_item_298 : decode cX9_item 298 = .ok (.iload_n 1, 1) := by decide +kernel
theorem dX9_item_299 : decode cX9_item 299 = .ok (.iaload, 1) := by decide +kernel
theorem dX9_item_300 : decode cX9_item 300 = .ok (.goto 9, 3) := by decide +kernel
theorem dX9_item_303 : decode cX9_item 303 = .ok (.aload_n 0, 1) := by decide +kernel
theorem dX9_item_304 : decode cX9_item 304 = .ok (.getfield 98, 3) := by decide +kernel
theorem dX9_item_307 : decode cX9_item 307 = .ok (.iload_n 1, 1) := by decide +kernel
theorem dX9_item_308 : decode cX9_item 308 = .ok (.iaload, 1) := by decide +kernel
theorem dX9_item_309 : decode cX9_item 309 = .ok (.iastore, 1) := by decide +kernel
theorem dX9_item_310 : decode cX9_item 310 = .ok (.aload_n 0, 1) := by decide +kernel
theorem dX9_item_311 : decode cX9_item 311 = .ok (.getfield 95, 3) := by decide +kernel
theorem dX9_item_314 : decode cX9_item 314 = .ok (.iload_n 1, 1) := by decide +kernel
theorem dX9_item_315 : decode cX9_item 315 = .ok (.dup2, 1) := by decide +kernel
theorem dX9_item_316 : decode cX9_item 316 = .ok (.iaload, 1) := by decide +kernel
theorem dX9_item_317 : decode cX9_item 317 = .ok (.iload_n 2, 1) := by decide +kernel
theorem dX9_item_318 : decode cX9_item 318 = .ok (.ifCond .eq 7, 3) := by decide +kernel
theorem dX9_item_321 : decode cX9_item 321 = .ok (.iconst 1, 1) := by decide +kernel
theorem dX9_item_322 : decode cX9_item 322 = .ok (.goto 4, 3) := by decide +kernel
theorem dX9_item_325 : decode cX9_item 325 = .ok (.iconst 0, 1) := by decide +kernel
theorem dX9_item_326 : decode cX9_item 326 = .ok (.iadd, 1) := by decide +kernel
theorem dX9_item_327 : decode cX9_item 327 = .ok (.iastore, 1) := by decide +kernel
theorem dX9_item_328 : decode cX9_item 328 = .ok (.aload_n 0, 1) := by decide +kernel
theorem dX9_item_329 : decode cX9_item 329 = .ok (.getfield 98, 3) := by decide +kernel
theorem dX9_item_332 : decode cX9_item 332 = .ok (.iload_n 1, 1) := by decide +kernel
theorem dX9_item_333 : decode cX9_item 333 = .ok (.dup2, 1) := by decide +kernel
theorem dX9_item_334 : decode cX9_item 334 = .ok (.iaload, 1) := by decide +kernel
theorem dX9_item_335 : decode cX9_item 335 = .ok (.iload_n 2, 1) := by decide +kernel
theorem dX9_item_336 : decode cX9_item 336 = .ok (.ifCond .eq 7, 3) := by decide +kernel
theorem dX9_item_339 : decode cX9_item 339 = .ok (.iconst 0, 1) := by decide +kernel
theorem dX9_item_340 : decode cX9_item 340 = .ok (.goto 4, 3) := by decide +kernel
theorem dX9_item_343 : decode cX9_item 343 = .ok (.iconst 1, 1) := by decide +kernel
theorem dX9_item_344 : decode cX9_item 344 = .ok (.iadd, 1) := by decide +kernel
theorem dX9_item_345 : decode cX9_item 345 = .ok (.iastore, 1) := by decide +kernel
theorem dX9_item_346 : decode cX9_item 346 = .ok (.aload_n 0, 1) := by decide +kernel
theorem dX9_item_347 : decode cX9_item 347 = .ok (.getfield 80, 3) := by decide +kernel
theorem dX9_item_350 : decode cX9_item 350 = .ok (.iload_n 1, 1) := by decide +kernel
theorem dX9_item_351 : decode cX9_item 351 = .ok (.dup2, 1) := by decide +kernel
theorem dX9_item_352 : decode cX9_item 352 = .ok (.iaload, 1) := by decide +kernel
theorem dX9_item_353 : decode cX9_item 353 = .ok (.iconst 1, 1) := by decide +kernel
theorem dX9_item_354 : decode cX9_item 354 = .ok (.iadd, 1) := by decide +kernel
theorem dX9_item_355 : decode cX9_item 355 = .ok (.iastore, 1) := by decide +kernel
theorem dX9_item_356 : decode cX9_item 356 = .ok (.return_, 1) := by decide +kernel
theorem dX9_toldDemand_0 : decode cX9_toldDemand 0 = .ok (.bipush 20, 2) := by decide +kernel
theorem dX9_toldDemand_2 : decode cX9_toldDemand 2 = .ok (.aload_n 0, 1) := by decide +kernel
theorem dX9_toldDemand_3 : decode cX9_toldDemand 3 = .ok (.getfield 297, 3) := by decide +kernel
theorem dX9_toldDemand_6 : decode cX9_toldDemand 6 = .ok (.imul, 1) := by decide +kernel
theorem dX9_toldDemand_7 : decode cX9_toldDemand 7 = .ok (.aload_n 0, 1) := by decide +kernel
theorem dX9_toldDemand_8 : decode cX9_toldDemand 8 = .ok (.getfield 110, 3) := by decide +kernel
theorem dX9_toldDemand_11 : decode cX9_toldDemand 11 = .ok (.aload_n 0, 1) := by decide +kernel
theorem dX9_toldDemand_12 : decode cX9_toldDemand 12 = .ok (.getfield 297, 3) := by decide +kernel
theorem dX9_toldDemand_15 : decode cX9_toldDemand 15 = .ok (.iaload, 1) := by decide +kernel
theorem dX9_toldDemand_16 : decode cX9_toldDemand 16 = .ok (.iadd, 1) := by decide +kernel
theorem dX9_toldDemand_17 : decode cX9_toldDemand 17 = .ok (.istore_n 1, 1) := by decide +kernel
theorem dX9_toldDemand_18 : decode cX9_toldDemand 18 = .ok (.aload_n 0, 1) := by decide +kernel
theorem dX9_toldDemand_19 : decode cX9_toldDemand 19 = .ok (.getfield 110, 3) := by decide +kernel
theorem dX9_toldDemand_22 : decode cX9_toldDemand 22 = .ok (.aload_n 0, 1) := by decide +kernel
theorem dX9_toldDemand_23 : decode cX9_toldDemand 23 = .ok (.getfield 297, 3) := by decide +kernel
theorem dX9_toldDemand_26 : decode cX9_toldDemand 26 = .ok (.iaload, 1) := by decide +kernel
theorem dX9_toldDemand_27 : decode cX9_toldDemand 27 = .ok (.bipush 20, 2) := by decide +kernel
theorem dX9_toldDemand_29 : decode cX9_toldDemand 29 = .ok (.if_icmp .ne 9, 3) := by decide +kernel
theorem dX9_toldDemand_32 : decode cX9_toldDemand 32 = .ok (.aload_n 0, 1) := by decide +kernel
theorem dX9_toldDemand_33 : decode cX9_toldDemand 33 = .ok (.iconst 5, 1) := by decide +kernel
theorem dX9_toldDemand_34 : decode cX9_toldDemand 34 = .ok (.invokevirtual 287, 3) := by decide +kernel
theorem dX9_toldDemand_37 : decode cX9_toldDemand 37 = .ok (.return_, 1) := by decide +kernel
theorem dX9_toldDemand_38 : decode cX9_toldDemand 38 = .ok (.aload_n 0, 1) := by decide +kernel
theorem dX9_toldDemand_39 : decode cX9_toldDemand 39 = .ok (.dup, 1) := by decide +kernel
theorem dX9_toldDemand_40 : decode cX9_toldDemand 40 = .ok (.getfield 278, 3) := by decide +kernel
theorem dX9_toldDemand_43 : decode cX9_toldDemand 43 = .ok (.iconst 1, 1) := by decide +kernel
theorem dX9_toldDemand_44 : decode cX9_toldDemand 44 = .ok (.iadd, 1) := by decide +kernel
theorem dX9_toldDemand_45 : decode cX9_toldDemand 45 = .ok (.putfield 278, 3) := by decide +kernel
theorem dX9_toldDemand_48 : decode cX9_toldDemand 48 = .ok (.aload_n 0, 1) := by decide +kernel
theorem dX9_toldDemand_49 : decode cX9_toldDemand 49 = .ok (.getfield 113, 3) := by decide +kernel
theorem dX9_toldDemand_52 : decode cX9_toldDemand 52 = .ok (.iload_n 1, 1) := by decide +kernel
theorem dX9_toldDemand_53 : decode cX9_toldDemand 53 = .ok (.aload_n 0, 1) := by decide +kernel
theorem dX9_toldDemand_54 : decode cX9_toldDemand 54 = .ok (.invokevirtual 345, 3) := by decide +kernel
theorem dX9_toldDemand_57 : decode cX9_toldDemand 57 = .ok (.lastore, 1) := by decide +kernel
theorem dX9_toldDemand_58 : decode cX9_toldDemand 58 = .ok (.aload_n 0, 1) := by decide +kernel
theorem dX9_toldDemand_59 : decode cX9_toldDemand 59 = .ok (.iconst (-1), 1) := by decide +kernel
theorem dX9_toldDemand_60 : decode cX9_toldDemand 60 = .ok (.putfield 370, 3) := by decide +kernel
theorem dX9_toldDemand_63 : decode cX9_toldDemand 63 = .ok (.aload_n 0, 1) := by decide +kernel
theorem dX9_toldDemand_64 : decode cX9_toldDemand 64 = .ok (.iconst 0, 1) := by decide +kernel
theorem dX9_toldDemand_65 : decode cX9_toldDemand 65 = .ok (.putfield 373, 3) := by decide +kernel
theorem dX9_toldDemand_68 : decode cX9_toldDemand 68 = .ok (.aload_n 0, 1) := by decide +kernel
theorem dX9_toldDemand_69 : decode cX9_toldDemand 69 = .ok (.getfield 116, 3) := by decide +kernel
theorem dX9_toldDemand_72 : decode cX9_toldDemand 72 = .ok (.iload_n 1, 1) := by decide +kernel
theorem dX9_toldDemand_73 : decode cX9_toldDemand 73 = .ok (.aload_n 0, 1) := by decide +kernel
theorem dX9_toldDemand_74 : decode cX9_toldDemand 74 = .ok (.getfield 313, 3) := by decide +kernel
theorem dX9_toldDemand_77 : decode cX9_toldDemand 77 = .ok (.aload_n 0, 1) := by decide +kernel
theorem dX9_toldDemand_78 : decode cX9_toldDemand 78 = .ok (.getfield 310, 3) := by decide +kernel
theorem dX9_toldDemand_81 : decode cX9_toldDemand 81 = .ok (.iadd, 1) := by decide +kernel
theorem dX9_toldDemand_82 : decode cX9_toldDemand 82 = .ok (.iastore, 1) := by decide +kernel
theorem dX9_toldDemand_83 : decode cX9_toldDemand 83 = .ok (.aload_n 0, 1) := by decide +kernel
theorem dX9_toldDemand_84 : decode cX9_toldDemand 84 = .ok (.invokevirtual 383, 3) := by decide +kernel
theorem dX9_toldDemand_87 : decode cX9_toldDemand 87 = .ok (.aload_n 0, 1) := by decide +kernel
theorem dX9_toldDemand_88 : decode cX9_toldDemand 88 = .ok (.iconst 0, 1) := by decide +kernel
theorem dX9_toldDemand_89 : decode cX9_toldDemand 89 = .ok (.iconst 0, 1) := by decide +kernel
theorem dX9_toldDemand_90 : decode cX9_toldDemand 90 = .ok (.iconst 0, 1) := by decide +kernel
theorem dX9_toldDemand_91 : decode cX9_toldDemand 91 = .ok (.invokevirtual 379, 3) := by decide +kernel
theorem dX9_toldDemand_94 : decode cX9_toldDemand 94 = .ok (.pop, 1) := by decide +kernel
theorem dX9_toldDemand_95 : decode cX9_toldDemand 95 = .ok (.aload_n 0, 1) := by decide +kernel
theorem dX9_toldDemand_96 : decode cX9_toldDemand 96 = .ok (.getfield 110, 3) := by decide +kernel
theorem dX9_toldDemand_99 : decode cX9_toldDemand 99 = .ok (.aload_n 0, 1) := by decide +kernel
theorem dX9_toldDemand_100 : decode cX9_toldDemand 100 = .ok (.getfield 297, 3) := by decide +kernel
theorem dX9_toldDemand_103 : decode cX9_toldDemand 103 = .ok (.dup2, 1) := by decide +kernel
theorem dX9_toldDemand_104 : decode cX9_toldDemand 104 = .ok (.iaload, 1) := by decide +kernel
theorem dX9_toldDemand_105 : decode cX9_toldDemand 105 = .ok (.iconst 1, 1) := by decide +kernel
theorem dX9_toldDemand_106 : decode cX9_toldDemand 106 = .ok (.iadd, 1) := by decide +kernel
theorem dX9_toldDemand_107 : decode cX9_toldDemand 107 = .ok (.iastore, 1) := by decide +kernel
theorem dX9_toldDemand_108 : decode cX9_toldDemand 108 = .ok (.return_, 1) := by decide +kernel
theorem dX9_looks_0 : decode cX9_looks 0 = .ok (.iconst 0, 1) := by decide +kernel
theorem dX9_looks_1 : decode cX9_looks 1 = .ok (.istore 4, 2) := by decide +kernel
theorem dX9_looks_3 : decode cX9_looks 3 = .ok (.iload 4, 2) := by decide +kernel
theorem dX9_looks_5 : decode cX9_looks 5 = .ok (.bipush 24, 2) := by decide +kernel
theorem dX9_looks_7 : decode cX9_looks 7 = .ok (.if_icmp .ge 17, 3) := by decide +kernel
theorem dX9_looks_10 : decode cX9_looks 10 = .ok (.aload_n 0, 1) := by decide +kernel
theorem dX9_looks_11 : decode cX9_looks 11 = .ok (.getfield 143, 3) := by decide +kernel
theorem dX9_looks_14 : decode cX9_looks 14 = .ok (.iload 4, 2) := by decide +kernel
theorem dX9_looks_16 : decode cX9_looks 16 = .ok (.iconst 0, 1) := by decide +kernel
theorem dX9_looks_17 : decode cX9_looks 17 = .ok (.bastore, 1) := by decide +kernel
theorem dX9_looks_18 : decode cX9_looks 18 = .ok (.iinc 4 1, 3) := by decide +kernel
theorem dX9_looks_21 : decode cX9_looks 21 = .ok (.goto (-18), 3) := by decide +kernel
theorem dX9_looks_24 : decode cX9_looks 24 = .ok (.aload_n 0, 1) := by decide +kernel
theorem dX9_looks_25 : decode cX9_looks 25 = .ok (.iload_n 1, 1) := by decide +kernel
theorem dX9_looks_26 : decode cX9_looks 26 = .ok (.lload_n 2, 1) := by decide +kernel
theorem dX9_looks_27 : decode cX9_looks 27 = .ok (.invokevirtual 392, 3) := by decide +kernel
theorem dX9_looks_30 : decode cX9_looks 30 = .ok (.ireturn, 1) := by decide +kernel
theorem dX9_finds_0 : decode cX9_finds 0 = .ok (.aload_n 0, 1) := by decide +kernel
theorem dX9_finds_1 : decode cX9_finds 1 = .ok (.getfield 143, 3) := by decide +kernel
theorem dX9_finds_4 : decode cX9_finds 4 = .ok (.iload_n 1, 1) := by decide +kernel
theorem dX9_finds_5 : decode cX9_finds 5 = .ok (.baload, 1) := by decide +kernel
theorem dX9_finds_6 : decode cX9_finds 6 = .ok (.ifCond .eq 5, 3) := by decide +kernel
theorem dX9_finds_9 : decode cX9_finds 9 = .ok (.iconst 0, 1) := by decide +kernel
theorem dX9_finds_10 : decode cX9_finds 10 = .ok (.ireturn, 1) := by decide +kernel
theorem dX9_finds_11 : decode cX9_finds 11 = .ok (.aload_n 0, 1) := by decide +kernel
theorem dX9_finds_12 : decode cX9_finds 12 = .ok (.getfield 143, 3) := by decide +kernel
theorem dX9_finds_15 : decode cX9_finds 15 = .ok (.iload_n 1, 1) := by decide +kernel
theorem dX9_finds_16 : decode cX9_finds 16 = .ok (.iconst 1, 1) := by decide +kernel
theorem dX9_finds_17 : decode cX9_finds 17 = .ok (.bastore, 1) := by decide +kernel
theorem dX9_finds_18 : decode cX9_finds 18 = .ok (.bipush 24, 2) := by decide +kernel
theorem dX9_finds_20 : decode cX9_finds 20 = .ok (.aload_n 0, 1) := by decide +kernel
theorem dX9_finds_21 : decode cX9_finds 21 = .ok (.getfield 297, 3) := by decide +kernel
theorem dX9_finds_24 : decode cX9_finds 24 = .ok (.imul, 1) := by decide +kernel
theorem dX9_finds_25 : decode cX9_finds 25 = .ok (.iload_n 1, 1) := by decide +kernel
theorem dX9_finds_26 : decode cX9_finds 26 = .ok (.iadd, 1) := by decide +kernel
theorem dX9_finds_27 : decode cX9_finds 27 = .ok (.istore 4, 2) := by decide +kernel
theorem dX9_finds_29 : decode cX9_finds 29 = .ok (.aload_n 0, 1) := by decide +kernel
theorem dX9_finds_30 : decode cX9_finds 30 = .ok (.aload_n 0, 1) := by decide +kernel
theorem dX9_finds_31 : decode cX9_finds 31 = .ok (.getfield 83, 3) := by decide +kernel
theorem dX9_finds_34 : decode cX9_finds 34 = .ok (.bipush 8, 2) := by decide +kernel
theorem dX9_finds_36 : decode cX9_finds 36 = .ok (.iload 4, 2) := by decide +kernel
theorem dX9_finds_38 : decode cX9_finds 38 = .ok (.imul, 1) := by decide +kernel
theorem dX9_finds_39 : decode cX9_finds 39 = .ok (.aload_n 0, 1) := by decide +kernel
theorem dX9_finds_40 : decode cX9_finds 40 = .ok (.getfield 80, 3) := by decide +kernel
theorem dX9_finds_43 : decode cX9_finds 43 = .ok (.iload 4, 2) := by decide +kernel
theorem dX9_finds_45 : decode cX9_finds 45 = .ok (.iaload, 1) := by decide +kernel
theorem dX9_finds_46 : decode cX9_finds 46 = .ok (.lload_n 2, 1) := by decide +kernel
theorem dX9_finds_47 : decode cX9_finds 47 = .ok (.invokevirtual 300, 3) := by decide +kernel
theorem dX9_finds_50 : decode cX9_finds 50 = .ok (.istore 5, 2) := by decide +kernel
theorem dX9_finds_52 : decode cX9_finds 52 = .ok (.iload 5, 2) := by decide +kernel
theorem dX9_finds_54 : decode cX9_finds 54 = .ok (.ifCond .lt 16, 3) := by decide +kernel
theorem dX9_finds_57 : decode cX9_finds 57 = .ok (.aload_n 0, 1) := by decide +kernel
theorem dX9_finds_58 : decode cX9_finds 58 = .ok (.iload_n 1, 1) := by decide +kernel
theorem dX9_finds_59 : decode cX9_finds 59 = .ok (.putfield 396, 3) := by decide +kernel
theorem dX9_finds_62 : decode cX9_finds 62 = .ok (.aload_n 0, 1) := by decide +kernel
theorem dX9_finds_63 : decode cX9_finds 63 = .ok (.iload 5, 2) := by decide +kernel
theorem dX9_finds_65 : decode cX9_finds 65 = .ok (.putfield 399, 3) := by decide +kernel
theorem dX9_finds_68 : decode cX9_finds 68 = .ok (.iconst 1, 1) := by decide +kernel
theorem dX9_finds_69 : decode cX9_finds 69 = .ok (.ireturn, 1) := by decide +kernel
theorem dX9_finds_70 : decode cX9_finds 70 = .ok (.iconst 0, 1) := by decide +kernel
theorem dX9_finds_71 : decode cX9_finds 71 = .ok (.istore 6, 2) := by decide +kernel
theorem dX9_finds_73 : decode cX9_finds 73 = .ok (.iload 6, 2) := by decide +kernel
theorem dX9_finds_75 : decode cX9_finds 75 = .ok (.aload_n 0, 1) := by decide +kernel
theorem dX9_finds_76 : decode cX9_finds 76 = .ok (.getfield 74, 3) := by decide +kernel
theorem dX9_finds_79 : decode cX9_finds 79 = .ok (.iload 4, 2) := by decide +kernel
theorem dX9_finds_81 : decode cX9_finds 81 = .ok (.iaload, 1) := by decide +kernel
theorem dX9_finds_82 : decode cX9_finds 82 = .ok (.if_icmp .ge 32, 3) := by decide +kernel
theorem dX9_finds_85 : decode cX9_finds 85 = .ok (.aload_n 0, 1) := by decide +kernel
theorem dX9_finds_86 : decode cX9_finds 86 = .ok (.aload_n 0, 1) := by decide +kernel
theorem dX9_finds_87 : decode cX9_finds 87 = .ok (.getfield 77, 3) := by decide +kernel
theorem dX9_finds_90 : decode cX9_finds 90 = .ok (.bipush 6, 2) := by decide +kernel
theorem dX9_finds_92 : decode cX9_finds 92 = .ok (.iload 4, 2) := by decide +kernel
theorem dX9_finds_94 : decode cX9_finds 94 = .ok (.imul, 1) := by decide +kernel
theorem dX9_finds_95 : decode cX9_finds 95 = .ok (.iload 6, 2) := by decide +kernel
theorem dX9_finds_97 : decode cX9_finds 97 = .ok (.iadd, 1) := by decide +kernel
theorem dX9_finds_98 : decode cX9_finds 98 = .ok (.iaload, 1) := by decide +kernel
theorem dX9_finds_99 : decode cX9_finds 99 = .ok (.lload_n 2, 1) := by decide +kernel
theorem dX9_finds_100 : decode cX9_finds 100 = .ok (.invokevirtual 392, 3) := by decide +kernel
theorem dX9_finds_103 : decode cX9_finds 103 = .ok (.ifCond .eq 5, 3) := by decide +kernel
theorem dX9_finds_106 : decode cX9_finds 106 = .ok (.iconst 1, 1) := by decide +kernel
theorem dX9_finds_107 : decode cX9_finds 107 = .ok (.ireturn, 1) := by decide +kernel
theorem dX9_finds_108 : decode cX9_finds 108 = .ok (.iinc 6 1, 3) := by decide +kernel
theorem dX9_finds_111 : decode cX9_finds 111 = .ok (.goto (-38), 3) := by decide +kernel
theorem dX9_finds_114 : decode cX9_finds 114 = .ok (.aload_n 0, 1) := by decide +kernel
theorem dX9_finds_115 : decode cX9_finds 115 = .ok (.getfield 71, 3) := by decide +kernel
theorem dX9_finds_118 : decode cX9_finds 118 = .ok (.iload 4, 2) := by decide +kernel
theorem dX9_finds_120 : decode cX9_finds 120 = .ok (.iaload, 1) := by decide +kernel
theorem dX9_finds_121 : decode cX9_finds 121 = .ok (.ifCond .lt 22, 3) := by decide +kernel
theorem dX9_finds_124 : decode cX9_finds 124 = .ok (.aload_n 0, 1) := by decide +kernel
theorem dX9_finds_125 : decode cX9_finds 125 = .ok (.aload_n 0, 1) := by decide +kernel
theorem dX9_finds_126 : decode cX9_finds 126 = .ok (.getfield 71, 3) := by decide +kernel
theorem dX9_finds_129 : decode cX9_finds 129 = .ok (.iload 4, 2) := by decide +kernel
theorem dX9_finds_131 : decode cX9_finds 131 = .ok (.iaload, 1) := by decide +kernel
theorem dX9_finds_132 : decode cX9_finds 132 = .ok (.lload_n 2, 1) := by decide +kernel
theorem dX9_finds_133 : decode cX9_finds 133 = .ok (.invokevirtual 392, 3) := by decide +kernel
theorem dX9_finds_136 : decode cX9_finds 136 = .ok (.ifCond .eq 7, 3) := by decide +kernel
theorem dX9_finds_139 : decode cX9_finds 139 = .ok (.iconst 1, 1) := by decide +kernel
theorem dX9_finds_140 : decode cX9_finds 140 = .ok (.goto 4, 3) := by decide +kernel
theorem dX9_finds_143 : decode cX9_finds 143 = .ok (.iconst 0, 1) := by decide +kernel
theorem dX9_finds_144 : decode cX9_finds 144 = .ok (.ireturn, 1) := by decide +kernel
theorem dX9_late_0 : decode cX9_late 0 = .ok (.aload_n 0, 1) := by decide +kernel
theorem dX9_late_1 : decode cX9_late 1 = .ok (.aload_n 0, 1) := by decide +kernel
theorem dX9_late_2 : decode cX9_late 2 = .ok (.getfield 30, 3) := by decide +kernel
theorem dX9_late_5 : decode cX9_late 5 = .ok (.aload_n 0, 1) := by decide +kernel
theorem dX9_late_6 : decode cX9_late 6 = .ok (.getfield 128, 3) := by decide +kernel
theorem dX9_late_9 : decode cX9_late 9 = .ok (.iload_n 1, 1) := by decide +kernel
theorem dX9_late_10 : decode cX9_late 10 = .ok (.iaload, 1) := by decide +kernel
theorem dX9_late_11 : decode cX9_late 11 = .ok (.laload, 1) := by decide +kernel
theorem dX9_late_12 : decode cX9_late 12 = .ok (.invokevirtual 341, 3) := by decide +kernel
theorem dX9_late_15 : decode cX9_late 15 = .ok (.istore_n 2, 1) := by decide +kernel
theorem dX9_late_16 : decode cX9_late 16 = .ok (.iload_n 2, 1) := by decide +kernel
theorem dX9_late_17 : decode cX9_late 17 = .ok (.ifCond .ge 19, 3) := by decide +kernel
theorem dX9_late_20 : decode cX9_late 20 = .ok (.aload_n 0, 1) := by decide +kernel
theorem dX9_late_21 : decode cX9_late 21 = .ok (.aload_n 0, 1) := by decide +kernel
theorem dX9_late_22 : decode cX9_late 22 = .ok (.getfield 128, 3) := by decide +kernel
theorem dX9_late_25 : decode cX9_late 25 = .ok (.iload_n 1, 1) := by decide +kernel
theorem dX9_late_26 : decode cX9_late 26 = .ok (.iaload, 1) := by decide +kernel
theorem dX9_late_27 : decode cX9_late 27 = .ok (.putfield 278, 3) := by decide +kernel
theorem dX9_late_30 : decode cX9_late 30 = .ok (.aload_n 0, 1) := by decide +kernel
theorem dX9_late_31 : decode cX9_late 31 = .ok (.iconst 2, 1) := by decide +kernel
theorem dX9_late_32 : decode cX9_late 32 = .ok (.invokevirtual 287, 3) := by decide +kernel
theorem dX9_late_35 : decode cX9_late 35 = .ok (.return_, 1) := by decide +kernel
theorem dX9_late_36 : decode cX9_late 36 = .ok (.aload_n 0, 1) := by decide +kernel
theorem dX9_late_37 : decode cX9_late 37 = .ok (.getfield 140, 3) := by decide +kernel
theorem dX9_late_40 : decode cX9_late 40 = .ok (.iload_n 1, 1) := by decide +kernel
theorem dX9_late_41 : decode cX9_late 41 = .ok (.iaload, 1) := by decide +kernel
theorem dX9_late_42 : decode cX9_late 42 = .ok (.ifCond .lt 28, 3) := by decide +kernel
theorem dX9_late_45 : decode cX9_late 45 = .ok (.aload_n 0, 1) := by decide +kernel
theorem dX9_late_46 : decode cX9_late 46 = .ok (.getfield 107, 3) := by decide +kernel
theorem dX9_late_49 : decode cX9_late 49 = .ok (.bipush 24, 2) := by decide +kernel
theorem dX9_late_51 : decode cX9_late 51 = .ok (.bipush 24, 2) := by decide +kernel
theorem dX9_late_53 : decode cX9_late 53 = .ok (.aload_n 0, 1) := by decide +kernel
theorem dX9_late_54 : decode cX9_late 54 = .ok (.getfield 297, 3) := by decide +kernel
theorem dX9_late_57 : decode cX9_late 57 = .ok (.imul, 1) := by decide +kernel
theorem dX9_late_58 : decode cX9_late 58 = .ok (.aload_n 0, 1) := by decide +kernel
theorem dX9_late_59 : decode cX9_late 59 = .ok (.getfield 140, 3) := by decide +kernel
theorem dX9_late_62 : decode cX9_late 62 = .ok (.iload_n 1, 1) := by decide +kernel
theorem dX9_late_63 : decode cX9_late 63 = .ok (.iaload, 1) := by decide +kernel
theorem dX9_late_64 : decode cX9_late 64 = .ok (.iadd, 1) := by decide +kernel
theorem dX9_late_65 : decode cX9_late 65 = .ok (.imul, 1) := by decide +kernel
theorem dX9_late_66 : decode cX9_late 66 = .ok (.iload_n 2, 1) := by decide +kernel
theorem dX9_late_67 : decode cX9_late 67 = .ok (.iadd, 1) := by decide +kernel
theorem dX9_late_68 : decode cX9_late 68 = .ok (.iconst 1, 1) := by decide +kernel
theorem dX9_late_69 : decode cX9_late 69 = .ok (.bastore, 1) := by decide +kernel
theorem dX9_late_70 : decode cX9_late 70 = .ok (.aload_n 0, 1) := by decide +kernel
theorem dX9_late_71 : decode cX9_late 71 = .ok (.getfield 313, 3) := by decide +kernel
theorem dX9_late_74 : decode cX9_late 74 = .ok (.aload_n 0, 1) := by decide +kernel
theorem dX9_late_75 : decode cX9_late 75 = .ok (.getfield 134, 3) := by decide +kernel
theorem dX9_late_78 : decode cX9_late 78 = .ok (.iload_n 1, 1) := by decide +kernel
theorem dX9_late_79 : decode cX9_late 79 = .ok (.iaload, 1) := by decide +kernel
theorem dX9_late_80 : decode cX9_late 80 = .ok (.iadd, 1) := by decide +kernel
theorem dX9_late_81 : decode cX9_late 81 = .ok (.istore_n 3, 1) := by decide +kernel
theorem dX9_late_82 : decode cX9_late 82 = .ok (.aload_n 0, 1) := by decide +kernel
theorem dX9_late_83 : decode cX9_late 83 = .ok (.getfield 131, 3) := by decide +kernel
theorem dX9_late_86 : decode cX9_late 86 = .ok (.iload_n 1, 1) := by decide +kernel
theorem dX9_late_87 : decode cX9_late 87 = .ok (.iaload, 1) := by decide +kernel
theorem dX9_late_88 : decode cX9_late 88 = .ok (.ifCond .ge 11, 3) := by decide +kernel
theorem dX9_late_91 : decode cX9_late 91 = .ok (.aload_n 0, 1) := by decide +kernel
theorem dX9_late_92 : decode cX9_late 92 = .ok (.getfield 122, 3) := by decide +kernel
theorem dX9_late_95 : decode cX9_late 95 = .ok (.iload_n 3, 1) := by decide +kernel
theorem dX9_late_96 : decode cX9_late 96 = .ok (.iload_n 2, 1) := by decide +kernel
theorem dX9_late_97 : decode cX9_late 97 = .ok (.iastore, 1) := by decide +kernel
theorem dX9_late_98 : decode cX9_late 98 = .ok (.return_, 1) := by decide +kernel
theorem dX9_late_99 : decode cX9_late 99 = .ok (.aload_n 0, 1) := by decide +kernel
theorem dX9_late_100 : decode cX9_late 100 = .ok (.aload_n 0, 1) := by decide +kernel
theorem dX9_late_101 : decode cX9_late 101 = .ok (.getfield 131, 3) := by decide +kernel
theorem dX9_late_104 : decode cX9_late 104 = .ok (.iload_n 1, 1) := by decide +kernel
theorem dX9_late_105 : decode cX9_late 105 = .ok (.iaload, 1) := by decide +kernel
theorem dX9_late_106 : decode cX9_late 106 = .ok (.putfield 278, 3) := by decide +kernel
theorem dX9_late_109 : decode cX9_late 109 = .ok (.aload_n 0, 1) := by decide +kernel
theorem dX9_late_110 : decode cX9_late 110 = .ok (.iload_n 2, 1) := by decide +kernel
theorem dX9_late_111 : decode cX9_late 111 = .ok (.aload_n 0, 1) := by decide +kernel
theorem dX9_late_112 : decode cX9_late 112 = .ok (.getfield 30, 3) := by decide +kernel
theorem dX9_late_115 : decode cX9_late 115 = .ok (.aload_n 0, 1) := by decide +kernel
theorem dX9_late_116 : decode cX9_late 116 = .ok (.getfield 131, 3) := by decide +kernel
theorem dX9_late_119 : decode cX9_late 119 = .ok (.iload_n 1, 1) := by decide +kernel
theorem dX9_late_120 : decode cX9_late 120 = .ok (.iaload, 1) := by decide +kernel
theorem dX9_late_121 : decode cX9_late 121 = .ok (.laload, 1) := by decide +kernel
theorem dX9_late_122 : decode cX9_late 122 = .ok (.invokevirtual 402, 3) := by decide +kernel
theorem dX9_late_125 : decode cX9_late 125 = .ok (.ifCond .ne 9, 3) := by decide +kernel
theorem dX9_late_128 : decode cX9_late 128 = .ok (.aload_n 0, 1) := by decide +kernel
theorem dX9_late_129 : decode cX9_late 129 = .ok (.iconst 2, 1) := by decide +kernel
theorem dX9_late_130 : decode cX9_late 130 = .ok (.invokevirtual 287, 3) := by decide +kernel
theorem dX9_late_133 : decode cX9_late 133 = .ok (.return_, 1) := by decide +kernel
theorem dX9_late_134 : decode cX9_late 134 = .ok (.aload_n 0, 1) := by decide +kernel
theorem dX9_late_135 : decode cX9_late 135 = .ok (.iload_n 3, 1) := by decide +kernel
theorem dX9_late_136 : decode cX9_late 136 = .ok (.aload_n 0, 1) := by decide +kernel
theorem dX9_late_137 : decode cX9_late 137 = .ok (.getfield 137, 3) := by decide +kernel
theorem dX9_late_140 : decode cX9_late 140 = .ok (.iload_n 1, 1) := by decide +kernel
theorem dX9_late_141 : decode cX9_late 141 = .ok (.baload, 1) := by decide +kernel
theorem dX9_late_142 : decode cX9_late 142 = .ok (.invokevirtual 405, 3) := by decide +kernel
theorem dX9_late_145 : decode cX9_late 145 = .ok (.return_, 1) := by decide +kernel
theorem dX9_place_0 : decode cX9_place 0 = .ok (.aload_n 0, 1) := by decide +kernel
theorem dX9_place_1 : decode cX9_place 1 = .ok (.getfield 86, 3) := by decide +kernel
theorem dX9_place_4 : decode cX9_place 4 = .ok (.bipush 8, 2) := by decide +kernel
theorem dX9_place_6 : decode cX9_place 6 = .ok (.bipush 24, 2) := by decide +kernel
theorem dX9_place_8 : decode cX9_place 8 = .ok (.aload_n 0, 1) := by decide +kernel
theorem dX9_place_9 : decode cX9_place 9 = .ok (.getfield 297, 3) := by decide +kernel
theorem dX9_place_12 : decode cX9_place 12 = .ok (.imul, 1) := by decide +kernel
theorem dX9_place_13 : decode cX9_place 13 = .ok (.aload_n 0, 1) := by decide +kernel
theorem dX9_place_14 : decode cX9_place 14 = .ok (.getfield 396, 3) := by decide +kernel
theorem dX9_place_17 : decode cX9_place 17 = .ok (.iadd, 1) := by decide +kernel
theorem dX9_place_18 : decode cX9_place 18 = .ok (.imul, 1) := by decide +kernel
theorem dX9_place_19 : decode cX9_place 19 = .ok (.aload_n 0, 1) := by decide +kernel
theorem dX9_place_20 : decode cX9_place 20 = .ok (.getfield 399, 3) := by decide +kernel
theorem dX9_place_23 : decode cX9_place 23 = .ok (.iadd, 1) := by decide +kernel
theorem dX9_place_24 : decode cX9_place 24 = .ok (.baload, 1) := by decide +kernel
theorem dX9_place_25 : decode cX9_place 25 = .ok (.istore_n 3, 1) := by decide +kernel
theorem dX9_place_26 : decode cX9_place 26 = .ok (.iload_n 2, 1) := by decide +kernel
theorem dX9_place_27 : decode cX9_place 27 = .ok (.ifCond .eq 13, 3) := by decide +kernel
theorem dX9_place_30 : decode cX9_place 30 = .ok (.iload_n 3, 1) := by decide +kernel
theorem dX9_place_31 : decode cX9_place 31 = .ok (.ifCond .eq 9, 3) := by decide +kernel
theorem dX9_place_34 : decode cX9_place 34 = .ok (.aload_n 0, 1) := by decide +kernel
theorem dX9_place_35 : decode cX9_place 35 = .ok (.bipush 6, 2) := by decide +kernel
theorem dX9_place_37 : decode cX9_place 37 = .ok (.invokevirtual 287, 3) := by decide +kernel
theorem dX9_place_40 : decode cX9_place 40 = .ok (.aload_n 0, 1) := by decide +kernel
theorem dX9_place_41 : decode cX9_place 41 = .ok (.getfield 119, 3) := by decide +kernel
theorem dX9_place_44 : decode cX9_place 44 = .ok (.iload_n 1, 1) := by decide +kernel
theorem dX9_place_45 : decode cX9_place 45 = .ok (.iload_n 2, 1) := by decide +kernel
theorem dX9_place_46 : decode cX9_place 46 = .ok (.ifCond .eq 7, 3) := by decide +kernel
theorem dX9_place_49 : decode cX9_place 49 = .ok (.iconst 5, 1) := by decide +kernel
theorem dX9_place_50 : decode cX9_place 50 = .ok (.goto 12, 3) := by decide +kernel
theorem dX9_place_53 : decode cX9_place 53 = .ok (.iload_n 3, 1) := by decide +kernel
theorem dX9_place_54 : decode cX9_place 54 = .ok (.ifCond .eq 7, 3) := by decide +kernel
theorem dX9_place_57 : decode cX9_place 57 = .ok (.iconst 3, 1) := by decide +kernel
theorem dX9_place_58 : decode cX9_place 58 = .ok (.goto 4, 3) := by decide +kernel
theorem dX9_place_61 : decode cX9_place 61 = .ok (.iconst 4, 1) := by decide +kernel
theorem dX9_place_62 : decode cX9_place 62 = .ok (.iastore, 1) := by decide +kernel
theorem dX9_place_63 : decode cX9_place 63 = .ok (.aload_n 0, 1) := by decide +kernel
theorem dX9_place_64 : decode cX9_place 64 = .ok (.getfield 122, 3) := by decide +kernel
theorem dX9_place_67 : decode cX9_place 67 = .ok (.iload_n 1, 1) := by decide +kernel
theorem dX9_place_68 : decode cX9_place 68 = .ok (.aload_n 0, 1) := by decide +kernel
theorem dX9_place_69 : decode cX9_place 69 = .ok (.getfield 396, 3) := by decide +kernel
theorem dX9_place_72 : decode cX9_place 72 = .ok (.iastore, 1) := by decide +kernel
theorem dX9_place_73 : decode cX9_place 73 = .ok (.aload_n 0, 1) := by decide +kernel
theorem dX9_place_74 : decode cX9_place 74 = .ok (.getfield 125, 3) := by decide +kernel
theorem dX9_place_77 : decode cX9_place 77 = .ok (.iload_n 1, 1) := by decide +kernel
theorem dX9_place_78 : decode cX9_place 78 = .ok (.aload_n 0, 1) := by decide +kernel
theorem dX9_place_79 : decode cX9_place 79 = .ok (.getfield 399, 3) := by decide +kernel
theorem dX9_place_82 : decode cX9_place 82 = .ok (.iastore, 1) := by decide +kernel
theorem dX9_place_83 : decode cX9_place 83 = .ok (.return_, 1) := by decide +kernel
theorem dX9_leanOn_0 : decode cX9_leanOn 0 = .ok (.iconst 0, 1) := by decide +kernel
theorem dX9_leanOn_1 : decode cX9_leanOn 1 = .ok (.istore_n 1, 1) := by decide +kernel
theorem dX9_leanOn_2 : decode cX9_leanOn 2 = .ok (.iload_n 1, 1) := by decide +kernel
theorem dX9_leanOn_3 : decode cX9_leanOn 3 = .ok (.bipush 24, 2) := by decide +kernel
theorem dX9_leanOn_5 : decode cX9_leanOn 5 = .ok (.if_icmp .ge 111, 3) := by decide +kernel
theorem dX9_leanOn_8 : decode cX9_leanOn 8 = .ok (.iconst 0, 1) := by decide +kernel
theorem dX9_leanOn_9 : decode cX9_leanOn 9 = .ok (.istore_n 2, 1) := by decide +kernel
theorem dX9_leanOn_10 : decode cX9_leanOn 10 = .ok (.iload_n 2, 1) := by decide +kernel
theorem dX9_leanOn_11 : decode cX9_leanOn 11 = .ok (.bipush 24, 2) := by decide +kernel
theorem dX9_leanOn_13 : decode cX9_leanOn 13 = .ok (.if_icmp .ge 97, 3) := by decide +kernel
theorem dX9_leanOn_16 : decode cX9_leanOn 16 = .ok (.iconst 0, 1) := by decide +kernel
theorem dX9_leanOn_17 : decode cX9_leanOn 17 = .ok (.istore_n 3, 1) := by decide +kernel
theorem dX9_leanOn_18 : decode cX9_leanOn 18 = .ok (.iload_n 3, 1) := by decide +kernel
theorem dX9_leanOn_19 : decode cX9_leanOn 19 = .ok (.bipush 24, 2) := by decide +kernel
theorem dX9_leanOn_21 : decode cX9_leanOn 21 = .ok (.if_icmp .ge 83, 3) := by decide +kernel
theorem dX9_leanOn_24 : decode cX9_leanOn 24 = .ok (.bipush 24, 2) := by decide +kernel
theorem dX9_leanOn_26 : decode cX9_leanOn 26 = .ok (.bipush 24, 2) := by decide +kernel
theorem dX9_leanOn_28 : decode cX9_leanOn 28 = .ok (.aload_n 0, 1) := by decide +kernel
theorem dX9_leanOn_29 : decode cX9_leanOn 29 = .ok (.getfield 297, 3) := by decide +kernel
theorem dX9_leanOn_32 : decode cX9_leanOn 32 = .ok (.imul, 1) := by decide +kernel
theorem dX9_leanOn_33 : decode cX9_leanOn 33 = .ok (.iload_n 2, 1) := by decide +kernel
theorem dX9_leanOn_34 : decode cX9_leanOn 34 = .ok (.iadd, 1) := by decide +kernel
theorem dX9_leanOn_35 : decode cX9_leanOn 35 = .ok (.imul, 1) := by decide +kernel
theorem dX9_leanOn_36 : decode cX9_leanOn 36 = .ok (.istore 4, 2) := by decide +kernel
theorem dX9_leanOn_38 : decode cX9_leanOn 38 = .ok (.aload_n 0, 1) := by decide +kernel
theorem dX9_leanOn_39 : decode cX9_leanOn 39 = .ok (.getfield 107, 3) := by decide +kernel
theorem dX9_leanOn_42 : decode cX9_leanOn 42 = .ok (.iload 4, 2) := by decide +kernel
theorem dX9_leanOn_44 : decode cX9_leanOn 44 = .ok (.iload_n 3, 1) := by decide +kernel
theorem dX9_leanOn_45 : decode cX9_leanOn 45 = .ok (.iadd, 1) := by decide +kernel
theorem dX9_leanOn_46 : decode cX9_leanOn 46 = .ok (.aload_n 0, 1) := by decide +kernel
theorem dX9_leanOn_47 : decode cX9_leanOn 47 = .ok (.getfield 107, 3) := by decide +kernel
theorem dX9_leanOn_50 : decode cX9_leanOn 50 = .ok (.iload 4, 2) := by decide +kernel
theorem dX9_leanOn_52 : decode cX9_leanOn 52 = .ok (.iload_n 3, 1) := by decide +kernel
theorem dX9_leanOn_53 : decode cX9_leanOn 53 = .ok (.iadd, 1) := by decide +kernel
theorem dX9_leanOn_54 : decode cX9_leanOn 54 = .ok (.baload, 1) := by decide +kernel
theorem dX9_leanOn_55 : decode cX9_leanOn 55 = .ok (.ifCond .ne 37, 3) := by decide +kernel
theorem dX9_leanOn_58 : decode cX9_leanOn 58 = .ok (.aload_n 0, 1) := by decide +kernel
theorem dX9_leanOn_59 : decode cX9_leanOn 59 = .ok (.getfield 107, 3) := by decide +kernel
theorem dX9_leanOn_62 : decode cX9_leanOn 62 = .ok (.iload 4, 2) := by decide +kernel
theorem dX9_leanOn_64 : decode cX9_leanOn 64 = .ok (.iload_n 1, 1) := by decide +kernel
theorem dX9_leanOn_65 : decode cX9_leanOn 65 = .ok (.iadd, 1) := by decide +kernel
theorem dX9_leanOn_66 : decode cX9_leanOn 66 = .ok (.baload, 1) := by decide +kernel
theorem dX9_leanOn_67 : decode cX9_leanOn 67 = .ok (.ifCond .eq 29, 3) := by decide +kernel
theorem dX9_leanOn_70 : decode cX9_leanOn 70 = .ok (.aload_n 0, 1) := by decide +kernel
theorem dX9_leanOn_71 : decode cX9_leanOn 71 = .ok (.getfield 107, 3) := by decide +kernel
theorem dX9_leanOn_74 : decode cX9_leanOn 74 = .ok (.bipush 24, 2) := by decide +kernel
theorem dX9_leanOn_76 : decode cX9_leanOn 76 = .ok (.bipush 24, 2) := by decide +kernel
theorem dX9_leanOn_78 : decode cX9_leanOn 78 = .ok (.aload_n 0, 1) := by decide +kernel
theorem dX9_leanOn_79 : decode cX9_leanOn 79 = .ok (.getfield 297, 3) := by decide +kernel
theorem dX9_leanOn_82 : decode cX9_leanOn 82 = .ok (.imul, 1) := by decide +kernel
theorem dX9_leanOn_83 : decode cX9_leanOn 83 = .ok (.iload_n 1, 1) := by decide +kernel
theorem dX9_leanOn_84 : decode cX9_leanOn 84 = .ok (.iadd, 1) := by decide +kernel
theorem dX9_leanOn_85 : decode cX9_leanOn 85 = .ok (.imul, 1) := by decide +kernel
theorem dX9_leanOn_86 : decode cX9_leanOn 86 = .ok (.iload_n 3, 1) := by decide +kernel
theorem dX9_leanOn_87 : decode cX9_leanOn 87 = .ok (.iadd, 1) := by decide +kernel
theorem dX9_leanOn_88 : decode cX9_leanOn 88 = .ok (.baload, 1) := by decide +kernel
theorem dX9_leanOn_89 : decode cX9_leanOn 89 = .ok (.ifCond .eq 7, 3) := by decide +kernel
theorem dX9_leanOn_92 : decode cX9_leanOn 92 = .ok (.iconst 1, 1) := by decide +kernel
theorem dX9_leanOn_93 : decode cX9_leanOn 93 = .ok (.goto 4, 3) := by decide +kernel
theorem dX9_leanOn_96 : decode cX9_leanOn 96 = .ok (.iconst 0, 1) := by decide +kernel
theorem dX9_leanOn_97 : decode cX9_leanOn 97 = .ok (.bastore, 1) := by decide +kernel
theorem dX9_leanOn_98 : decode cX9_leanOn 98 = .ok (.iinc 3 1, 3) := by decide +kernel
theorem dX9_leanOn_101 : decode cX9_leanOn 101 = .ok (.goto (-83), 3) := by decide +kernel
theorem dX9_leanOn_104 : decode cX9_leanOn 104 = .ok (.iinc 2 1, 3) := by decide +kernel
theorem dX9_leanOn_107 : decode cX9_leanOn 107 = .ok (.goto (-97), 3) := by decide +kernel
theorem dX9_leanOn_110 : decode cX9_leanOn 110 = .ok (.iinc 1 1, 3) := by decide +kernel
theorem dX9_leanOn_113 : decode cX9_leanOn 113 = .ok (.goto (-111), 3) := by decide +kernel
theorem dX9_leanOn_116 : decode cX9_leanOn 116 = .ok (.return_, 1) := by decide +kernel
theorem dX9_emit_0 : decode cX9_emit 0 = .ok (.aload_n 0, 1) := by decide +kernel
theorem dX9_emit_1 : decode cX9_emit 1 = .ok (.getfield 119, 3) := by decide +kernel
theorem dX9_emit_4 : decode cX9_emit 4 = .ok (.aload_n 0, 1) := by decide +kernel
theorem dX9_emit_5 : decode cX9_emit 5 = .ok (.getfield 313, 3) := by decide +kernel
theorem dX9_emit_8 : decode cX9_emit 8 = .ok (.aload_n 0, 1) := by decide +kernel
theorem dX9_emit_9 : decode cX9_emit 9 = .ok (.getfield 310, 3) := by decide +kernel
theorem dX9_emit_12 : decode cX9_emit 12 = .ok (.iadd, 1) := by decide +kernel
theorem dX9_emit_13 : decode cX9_emit 13 = .ok (.iload_n 1, 1) := by decide +kernel
theorem dX9_emit_14 : decode cX9_emit 14 = .ok (.iastore, 1) := by decide +kernel
theorem dX9_emit_15 : decode cX9_emit 15 = .ok (.aload_n 0, 1) := by decide +kernel
theorem dX9_emit_16 : decode cX9_emit 16 = .ok (.getfield 122, 3) := by decide +kernel
theorem dX9_emit_19 : decode cX9_emit 19 = .ok (.aload_n 0, 1) := by decide +kernel
theorem dX9_emit_20 : decode cX9_emit 20 = .ok (.getfield 313, 3) := by decide +kernel
theorem dX9_emit_23 : decode cX9_emit 23 = .ok (.aload_n 0, 1) := by decide +kernel
theorem dX9_emit_24 : decode cX9_emit 24 = .ok (.getfield 310, 3) := by decide +kernel
theorem dX9_emit_27 : decode cX9_emit 27 = .ok (.iadd, 1) := by decide +kernel
theorem dX9_emit_28 : decode cX9_emit 28 = .ok (.iload_n 2, 1) := by decide +kernel
theorem dX9_emit_29 : decode cX9_emit 29 = .ok (.iastore, 1) := by decide +kernel
theorem dX9_emit_30 : decode cX9_emit 30 = .ok (.aload_n 0, 1) := by decide +kernel
theorem dX9_emit_31 : decode cX9_emit 31 = .ok (.getfield 125, 3) := by decide +kernel
theorem dX9_emit_34 : decode cX9_emit 34 = .ok (.aload_n 0, 1) := by decide +kernel
theorem dX9_emit_35 : decode cX9_emit 35 = .ok (.getfield 313, 3) := by decide +kernel
theorem dX9_emit_38 : decode cX9_emit 38 = .ok (.aload_n 0, 1) := by decide +kernel
theorem dX9_emit_39 : decode cX9_emit 39 = .ok (.getfield 310, 3) := by decide +kernel
theorem dX9_emit_42 : decode cX9_emit 42 = .ok (.iadd, 1) := by decide +kernel
theorem dX9_emit_43 : decode cX9_emit 43 = .ok (.iload_n 3, 1) := by decide +kernel
theorem dX9_emit_44 : decode cX9_emit 44 = .ok (.iastore, 1) := by decide +kernel
theorem dX9_emit_45 : decode cX9_emit 45 = .ok (.aload_n 0, 1) := by decide +kernel
theorem dX9_emit_46 : decode cX9_emit 46 = .ok (.dup, 1) := by decide +kernel
theorem dX9_emit_47 : decode cX9_emit 47 = .ok (.getfield 310, 3) := by decide +kernel
theorem dX9_emit_50 : decode cX9_emit 50 = .ok (.iconst 1, 1) := by decide +kernel
theorem dX9_emit_51 : decode cX9_emit 51 = .ok (.iadd, 1) := by decide +kernel
theorem dX9_emit_52 : decode cX9_emit 52 = .ok (.putfield 310, 3) := by decide +kernel
theorem dX9_emit_55 : decode cX9_emit 55 = .ok (.aload_n 0, 1) := by decide +kernel
theorem dX9_emit_56 : decode cX9_emit 56 = .ok (.getfield 310, 3) := by decide +kernel
theorem dX9_emit_59 : decode cX9_emit 59 = .ok (.iconst 1, 1) := by decide +kernel
theorem dX9_emit_60 : decode cX9_emit 60 = .ok (.isub, 1) := by decide +kernel
theorem dX9_emit_61 : decode cX9_emit 61 = .ok (.ireturn, 1) := by decide +kernel
theorem dX9_here_0 : decode cX9_here 0 = .ok (.aload_n 0, 1) := by decide +kernel
theorem dX9_here_1 : decode cX9_here 1 = .ok (.getfield 122, 3) := by decide +kernel
theorem dX9_here_4 : decode cX9_here 4 = .ok (.aload_n 0, 1) := by decide +kernel
theorem dX9_here_5 : decode cX9_here 5 = .ok (.getfield 313, 3) := by decide +kernel
theorem dX9_here_8 : decode cX9_here 8 = .ok (.iload_n 1, 1) := by decide +kernel
theorem dX9_here_9 : decode cX9_here 9 = .ok (.iadd, 1) := by decide +kernel
theorem dX9_here_10 : decode cX9_here 10 = .ok (.aload_n 0, 1) := by decide +kernel
theorem dX9_here_11 : decode cX9_here 11 = .ok (.getfield 313, 3) := by decide +kernel
theorem dX9_here_14 : decode cX9_here 14 = .ok (.aload_n 0, 1) := by decide +kernel
theorem dX9_here_15 : decode cX9_here 15 = .ok (.getfield 310, 3) := by decide +kernel
theorem dX9_here_18 : decode cX9_here 18 = .ok (.iadd, 1) := by decide +kernel
theorem dX9_here_19 : decode cX9_here 19 = .ok (.iastore, 1) := by decide +kernel
theorem dX9_here_20 : decode cX9_here 20 = .ok (.return_, 1) := by decide +kernel
theorem dX9_within_0 : decode cX9_within 0 = .ok (.iload_n 1, 1) := by decide +kernel
theorem dX9_within_1 : decode cX9_within 1 = .ok (.ifCond .ne 11, 3) := by decide +kernel
theorem dX9_within_4 : decode cX9_within 4 = .ok (.aload_n 0, 1) := by decide +kernel
theorem dX9_within_5 : decode cX9_within 5 = .ok (.iconst 1, 1) := by decide +kernel
theorem dX9_within_6 : decode cX9_within 6 = .ok (.invokevirtual 287, 3) := by decide +kernel
theorem dX9_within_9 : decode cX9_within 9 = .ok (.goto 17, 3) := by decide +kernel
theorem dX9_within_12 : decode cX9_within 12 = .ok (.aload_n 0, 1) := by decide +kernel
theorem dX9_within_13 : decode cX9_within 13 = .ok (.getfield 373, 3) := by decide +kernel
theorem dX9_within_16 : decode cX9_within 16 = .ok (.bipush 10, 2) := by decide +kernel
theorem dX9_within_18 : decode cX9_within 18 = .ok (.if_icmp .ne 8, 3) := by decide +kernel
theorem dX9_within_21 : decode cX9_within 21 = .ok (.aload_n 0, 1) := by decide +kernel
theorem dX9_within_22 : decode cX9_within 22 = .ok (.iconst 5, 1) := by decide +kernel
theorem dX9_within_23 : decode cX9_within 23 = .ok (.invokevirtual 287, 3) := by decide +kernel
theorem dX9_within_26 : decode cX9_within 26 = .ok (.aload_n 0, 1) := by decide +kernel
theorem dX9_within_27 : decode cX9_within 27 = .ok (.dup, 1) := by decide +kernel
theorem dX9_within_28 : decode cX9_within 28 = .ok (.getfield 373, 3) := by decide +kernel
theorem dX9_within_31 : decode cX9_within 31 = .ok (.iconst 1, 1) := by decide +kernel
theorem dX9_within_32 : decode cX9_within 32 = .ok (.iadd, 1) := by decide +kernel
theorem dX9_within_33 : decode cX9_within 33 = .ok (.putfield 373, 3) := by decide +kernel
theorem dX9_within_36 : decode cX9_within 36 = .ok (.return_, 1) := by decide +kernel
theorem dX9_block_0 : decode cX9_block 0 = .ok (.aload_n 0, 1) := by decide +kernel
theorem dX9_block_1 : decode cX9_block 1 = .ok (.aload_n 0, 1) := by decide +kernel
theorem dX9_block_2 : decode cX9_block 2 = .ok (.bipush 123, 2) := by decide +kernel
theorem dX9_block_4 : decode cX9_block 4 = .ok (.invokevirtual 284, 3) := by decide +kernel
theorem dX9_block_7 : decode cX9_block 7 = .ok (.invokevirtual 408, 3) := by decide +kernel
theorem dX9_block_10 : decode cX9_block 10 = .ok (.aload_n 0, 1) := by decide +kernel
theorem dX9_block_11 : decode cX9_block 11 = .ok (.bipush 123, 2) := by decide +kernel
theorem dX9_block_13 : decode cX9_block 13 = .ok (.invokevirtual 357, 3) := by decide +kernel
theorem dX9_block_16 : decode cX9_block 16 = .ok (.aload_n 0, 1) := by decide +kernel
theorem dX9_block_17 : decode cX9_block 17 = .ok (.getfield 281, 3) := by decide +kernel
theorem dX9_block_20 : decode cX9_block 20 = .ok (.ifCond .ne 19, 3) := by decide +kernel
theorem dX9_block_23 : decode cX9_block 23 = .ok (.aload_n 0, 1) := by decide +kernel
theorem dX9_block_24 : decode cX9_block 24 = .ok (.bipush 125, 2) := by decide +kernel
theorem dX9_block_26 : decode cX9_block 26 = .ok (.invokevirtual 284, 3) := by decide +kernel
theorem dX9_block_29 : decode cX9_block 29 = .ok (.ifCond .ne 10, 3) := by decide +kernel
theorem dX9_block_32 : decode cX9_block 32 = .ok (.aload_n 0, 1) := by decide +kernel
theorem dX9_block_33 : decode cX9_block 33 = .ok (.invokevirtual 386, 3) := by decide +kernel
theorem dX9_block_36 : decode cX9_block 36 = .ok (.goto (-20), 3) := by decide +kernel
theorem dX9_block_39 : decode cX9_block 39 = .ok (.aload_n 0, 1) := by decide +kernel
theorem dX9_block_40 : decode cX9_block 40 = .ok (.bipush 125, 2) := by decide +kernel
theorem dX9_block_42 : decode cX9_block 42 = .ok (.invokevirtual 357, 3) := by decide +kernel
theorem dX9_block_45 : decode cX9_block 45 = .ok (.aload_n 0, 1) := by decide +kernel
theorem dX9_block_46 : decode cX9_block 46 = .ok (.dup, 1) := by decide +kernel
theorem dX9_block_47 : decode cX9_block 47 = .ok (.getfield 373, 3) := by decide +kernel
theorem dX9_block_50 : decode cX9_block 50 = .ok (.iconst 1, 1) := by decide +kernel
theorem dX9_block_51 : decode cX9_block 51 = .ok (.isub, 1) := by decide +kernel
theorem dX9_block_52 : decode cX9_block 52 = .ok (.putfield 373, 3) := by decide +kernel
theorem dX9_block_55 : decode cX9_block 55 = .ok (.return_, 1) := by decide +kernel
theorem dX9_takeDevice_0 : decode cX9_takeDevice 0 = .ok (.aload_n 0, 1) := by decide +kernel
theorem dX9_takeDevice_1 : decode cX9_takeDevice 1 = .ok (.getfield 281, 3) := by decide +kernel
theorem dX9_takeDevice_4 : decode cX9_takeDevice 4 = .ok (.ifCond .ne 15, 3) := by decide +kernel
theorem dX9_takeDevice_7 : decode cX9_takeDevice 7 = .ok (.aload_n 0, 1) := by decide +kernel
theorem dX9_takeDevice_8 : decode cX9_takeDevice 8 = .ok (.invokevirtual 337, 3) := by decide +kernel
theorem dX9_takeDevice_11 : decode cX9_takeDevice 11 = .ok (.ifCond .ne 8, 3) := by decide +kernel
theorem dX9_takeDevice_14 : decode cX9_takeDevice 14 = .ok (.aload_n 0, 1) := by decide +kernel
theorem dX9_takeDevice_15 : decode cX9_takeDevice 15 = .ok (.iconst 1, 1) := by decide +kernel
theorem dX9_takeDevice_16 : decode cX9_takeDevice 16 = .ok (.invokevirtual 287, 3) := by decide +kernel
theorem dX9_takeDevice_19 : decode cX9_takeDevice 19 = .ok (.aload_n 0, 1) := by decide +kernel
theorem dX9_takeDevice_20 : decode cX9_takeDevice 20 = .ok (.getfield 281, 3) := by decide +kernel
theorem dX9_takeDevice_23 : decode cX9_takeDevice 23 = .ok (.ifCond .ne 39, 3) := by decide +kernel
theorem dX9_takeDevice_26 : decode cX9_takeDevice 26 = .ok (.aload_n 0, 1) := by decide +kernel
theorem dX9_takeDevice_27 : decode cX9_takeDevice 27 = .ok (.aload_n 0, 1) := by decide +kernel
theorem dX9_takeDevice_28 : decode cX9_takeDevice 28 = .ok (.getfield 46, 3) := by decide +kernel
theorem dX9_takeDevice_31 : decode cX9_takeDevice 31 = .ok (.bipush 24, 2) := by decide +kernel
theorem dX9_takeDevice_33 : decode cX9_takeDevice 33 = .ok (.aload_n 0, 1) := by decide +kernel
theorem dX9_takeDevice_34 : decode cX9_takeDevice 34 = .ok (.getfield 297, 3) := by decide +kernel
theorem dX9_takeDevice_37 : decode cX9_takeDevice 37 = .ok (.imul, 1) := by decide +kernel
theorem dX9_takeDevice_38 : decode cX9_takeDevice 38 = .ok (.aload_n 0, 1) := by decide +kernel
theorem dX9_takeDevice_39 : decode cX9_takeDevice 39 = .ok (.getfield 43, 3) := by decide +kernel
theorem dX9_takeDevice_42 : decode cX9_takeDevice 42 = .ok (.aload_n 0, 1) := by decide +kernel
theorem dX9_takeDevice_43 : decode cX9_takeDevice 43 = .ok (.getfield 297, 3) := by decide +kernel
theorem dX9_takeDevice_46 : decode cX9_takeDevice 46 = .ok (.iaload, 1) := by decide +kernel
theorem dX9_takeDevice_47 : decode cX9_takeDevice 47 = .ok (.aload_n 0, 1) := by decide +kernel
theorem dX9_takeDevice_48 : decode cX9_takeDevice 48 = .ok (.getfield 30, 3) := by decide +kernel
theorem dX9_takeDevice_51 : decode cX9_takeDevice 51 = .ok (.aload_n 0, 1) := by decide +kernel
theorem dX9_takeDevice_52 : decode cX9_takeDevice 52 = .ok (.getfield 278, 3) := by decide +kernel
theorem dX9_takeDevice_55 : decode cX9_takeDevice 55 = .ok (.laload, 1) := by decide +kernel
theorem dX9_takeDevice_56 : decode cX9_takeDevice 56 = .ok (.invokevirtual 300, 3) := by decide +kernel
theorem dX9_takeDevice_59 : decode cX9_takeDevice 59 = .ok (.goto 4, 3) := by decide +kernel
theorem dX9_takeDevice_62 : decode cX9_takeDevice 62 = .ok (.iconst (-1), 1) := by decide +kernel
theorem dX9_takeDevice_63 : decode cX9_takeDevice 63 = .ok (.istore_n 1, 1) := by decide +kernel
theorem dX9_takeDevice_64 : decode cX9_takeDevice 64 = .ok (.aload_n 0, 1) := by decide +kernel
theorem dX9_takeDevice_65 : decode cX9_takeDevice 65 = .ok (.getfield 281, 3) := by decide +kernel
theorem dX9_takeDevice_68 : decode cX9_takeDevice 68 = .ok (.ifCond .ne 12, 3) := by decide +kernel
theorem dX9_takeDevice_71 : decode cX9_takeDevice 71 = .ok (.iload_n 1, 1) := by decide +kernel
theorem dX9_takeDevice_72 : decode cX9_takeDevice 72 = .ok (.ifCond .ge 8, 3) := by decide +kernel
theorem dX9_takeDevice_75 : decode cX9_takeDevice 75 = .ok (.aload_n 0, 1) := by decide +kernel
theorem dX9_takeDevice_76 : decode cX9_takeDevice 76 = .ok (.iconst 2, 1) := by decide +kernel
theorem dX9_takeDevice_77 : decode cX9_takeDevice 77 = .ok (.invokevirtual 287, 3) := by decide +kernel
theorem dX9_takeDevice_80 : decode cX9_takeDevice 80 = .ok (.aload_n 0, 1) := by decide +kernel
theorem dX9_takeDevice_81 : decode cX9_takeDevice 81 = .ok (.dup, 1) := by decide +kernel
theorem dX9_takeDevice_82 : decode cX9_takeDevice 82 = .ok (.getfield 278, 3) := by decide +kernel
theorem dX9_takeDevice_85 : decode cX9_takeDevice 85 = .ok (.iconst 1, 1) := by decide +kernel
theorem dX9_takeDevice_86 : decode cX9_takeDevice 86 = .ok (.iadd, 1) := by decide +kernel
theorem dX9_takeDevice_87 : decode cX9_takeDevice 87 = .ok (.putfield 278, 3) := by decide +kernel
theorem dX9_takeDevice_90 : decode cX9_takeDevice 90 = .ok (.iload_n 1, 1) := by decide +kernel
theorem dX9_takeDevice_91 : decode cX9_takeDevice 91 = .ok (.ireturn, 1) := by decide +kernel
theorem dX9_later_0 : decode cX9_later 0 = .ok (.aload_n 0, 1) := by decide +kernel
theorem dX9_later_1 : decode cX9_later 1 = .ok (.getfield 281, 3) := by decide +kernel
theorem dX9_later_4 : decode cX9_later 4 = .ok (.ifCond .le 4, 3) := by decide +kernel
theorem dX9_later_7 : decode cX9_later 7 = .ok (.return_, 1) := by decide +kernel
theorem dX9_later_8 : decode cX9_later 8 = .ok (.aload_n 0, 1) := by decide +kernel
theorem dX9_later_9 : decode cX9_later 9 = .ok (.getfield 128, 3) := by decide +kernel
theorem dX9_later_12 : decode cX9_later 12 = .ok (.aload_n 0, 1) := by decide +kernel
theorem dX9_later_13 : decode cX9_later 13 = .ok (.getfield 316, 3) := by decide +kernel
theorem dX9_later_16 : decode cX9_later 16 = .ok (.iload_n 1, 1) := by decide +kernel
theorem dX9_later_17 : decode cX9_later 17 = .ok (.iastore, 1) := by decide +kernel
theorem dX9_later_18 : decode cX9_later 18 = .ok (.aload_n 0, 1) := by decide +kernel
theorem dX9_later_19 : decode cX9_later 19 = .ok (.getfield 131, 3) := by decide +kernel
theorem dX9_later_22 : decode cX9_later 22 = .ok (.aload_n 0, 1) := by decide +kernel
theorem dX9_later_23 : decode cX9_later 23 = .ok (.getfield 316, 3) := by decide +kernel
theorem dX9_later_26 : decode cX9_later 26 = .ok (.iload_n 2, 1) := by decide +kernel
theorem dX9_later_27 : decode cX9_later 27 = .ok (.iastore, 1) := by decide +kernel
theorem dX9_later_28 : decode cX9_later 28 = .ok (.aload_n 0, 1) := by decide +kernel
theorem dX9_later_29 : decode cX9_later 29 = .ok (.getfield 134, 3) := by decide +kernel
theorem dX9_later_32 : decode cX9_later 32 = .ok (.aload_n 0, 1) := by decide +kernel
theorem dX9_later_33 : decode cX9_later 33 = .ok (.getfield 316, 3) := by decide +kernel
theorem dX9_later_36 : decode cX9_later 36 = .ok (.iload_n 3, 1) := by decide +kernel
theorem dX9_later_37 : decode cX9_later 37 = .ok (.iastore, 1) := by decide +kernel
theorem dX9_later_38 : decode cX9_later 38 = .ok (.aload_n 0, 1) := by decide +kernel
theorem dX9_later_39 : decode cX9_later 39 = .ok (.getfield 137, 3) := by decide +kernel
theorem dX9_later_42 : decode cX9_later 42 = .ok (.aload_n 0, 1) := by decide +kernel
theorem dX9_later_43 : decode cX9_later 43 = .ok (.getfield 316, 3) := by decide +kernel
theorem dX9_later_46 : decode cX9_later 46 = .ok (.iload 4, 2) := by decide +kernel
theorem dX9_later_48 : decode cX9_later 48 = .ok (.bastore, 1) := by decide +kernel
theorem dX9_later_49 : decode cX9_later 49 = .ok (.aload_n 0, 1) := by decide +kernel
theorem dX9_later_50 : decode cX9_later 50 = .ok (.getfield 140, 3) := by decide +kernel
theorem dX9_later_53 : decode cX9_later 53 = .ok (.aload_n 0, 1) := by decide +kernel
theorem dX9_later_54 : decode cX9_later 54 = .ok (.getfield 316, 3) := by decide +kernel
theorem dX9_later_57 : decode cX9_later 57 = .ok (.aload_n 0, 1) := by decide +kernel
theorem dX9_later_58 : decode cX9_later 58 = .ok (.getfield 370, 3) := by decide +kernel
theorem dX9_later_61 : decode cX9_later 61 = .ok (.iastore, 1) := by decide +kernel
theorem dX9_later_62 : decode cX9_later 62 = .ok (.aload_n 0, 1) := by decide +kernel
theorem dX9_later_63 : decode cX9_later 63 = .ok (.dup, 1) := by decide +kernel
theorem dX9_later_64 : decode cX9_later 64 = .ok (.getfield 316, 3) := by decide +kernel
theorem dX9_later_67 : decode cX9_later 67 = .ok (.iconst 1, 1) := by decide +kernel
theorem dX9_later_68 : decode cX9_later 68 = .ok (.iadd, 1) := by decide +kernel
theorem dX9_later_69 : decode cX9_later 69 = .ok (.putfield 316, 3) := by decide +kernel
theorem dX9_later_72 : decode cX9_later 72 = .ok (.aload_n 0, 1) := by decide +kernel
theorem dX9_later_73 : decode cX9_later 73 = .ok (.getfield 316, 3) := by decide +kernel
theorem dX9_later_76 : decode cX9_later 76 = .ok (.iconst 1, 1) := by decide +kernel
theorem dX9_later_77 : decode cX9_later 77 = .ok (.isub, 1) := by decide +kernel
theorem dX9_later_78 : decode cX9_later 78 = .ok (.istore 5, 2) := by decide +kernel
theorem dX9_later_80 : decode cX9_later 80 = .ok (.iload 5, 2) := by decide +kernel
theorem dX9_later_82 : decode cX9_later 82 = .ok (.ifCond .le 34, 3) := by decide +kernel
theorem dX9_later_85 : decode cX9_later 85 = .ok (.aload_n 0, 1) := by decide +kernel
theorem dX9_later_86 : decode cX9_later 86 = .ok (.getfield 128, 3) := by decide +kernel
theorem dX9_later_89 : decode cX9_later 89 = .ok (.iload 5, 2) := by decide +kernel
theorem dX9_later_91 : decode cX9_later 91 = .ok (.iconst 1, 1) := by decide +kernel
theorem dX9_later_92 : decode cX9_later 92 = .ok (.isub, 1) := by decide +kernel
theorem dX9_later_93 : decode cX9_later 93 = .ok (.iaload, 1) := by decide +kernel
theorem dX9_later_94 : decode cX9_later 94 = .ok (.aload_n 0, 1) := by decide +kernel
theorem dX9_later_95 : decode cX9_later 95 = .ok (.getfield 128, 3) := by decide +kernel
theorem dX9_later_98 : decode cX9_later 98 = .ok (.iload 5, 2) := by decide +kernel
theorem dX9_later_100 : decode cX9_later 100 = .ok (.iaload, 1) := by decide +kernel
theorem dX9_later_101 : decode cX9_later 101 = .ok (.if_icmp .le 15, 3) := by decide +kernel
theorem dX9_later_104 : decode cX9_later 104 = .ok (.aload_n 0, 1) := by decide +kernel
theorem dX9_later_105 : decode cX9_later 105 = .ok (.iload 5, 2) := by decide +kernel
theorem dX9_later_107 : decode cX9_later 107 = .ok (.invokevirtual 412, 3) := by decide +kernel
theorem dX9_later_110 : decode cX9_later 110 = .ok (.iinc 5 (-1), 3) := by decide +kernel
theorem dX9_later_113 : decode cX9_later 113 = .ok (.goto (-33), 3) := by decide +kernel
theorem dX9_later_116 : decode cX9_later 116 = .ok (.return_, 1) := by decide +kernel
theorem dX9_turns_0 : decode cX9_turns 0 = .ok (.aload_n 0, 1) := by decide +kernel
theorem dX9_turns_1 : decode cX9_turns 1 = .ok (.getfield 128, 3) := by decide +kernel
theorem dX9_turns_4 : decode cX9_turns 4 = .ok (.iload_n 1, 1) := by decide +kernel
theorem dX9_turns_5 : decode cX9_turns 5 = .ok (.iaload, 1) := by decide +kernel
theorem dX9_turns_6 : decode cX9_turns 6 = .ok (.istore_n 2, 1) := by decide +kernel
theorem dX9_turns_7 : decode cX9_turns 7 = .ok (.aload_n 0, 1) := by decide +kernel
theorem dX9_turns_8 : decode cX9_turns 8 = .ok (.getfield 131, 3) := by decide +kernel
theorem dX9_turns_11 : decode cX9_turns 11 = .ok (.iload_n 1, 1) := by decide +kernel
theorem dX9_turns_12 : decode cX9_turns 12 = .ok (.iaload, 1) := by decide +kernel
theorem dX9_turns_13 : decode cX9_turns 13 = .ok (.istore_n 3, 1) := by decide +kernel
theorem dX9_turns_14 : decode cX9_turns 14 = .ok (.aload_n 0, 1) := by decide +kernel
theorem dX9_turns_15 : decode cX9_turns 15 = .ok (.getfield 134, 3) := by decide +kernel
theorem dX9_turns_18 : decode cX9_turns 18 = .ok (.iload_n 1, 1) := by decide +kernel
theorem dX9_turns_19 : decode cX9_turns 19 = .ok (.iaload, 1) := by decide +kernel
theorem dX9_turns_20 : decode cX9_turns 20 = .ok (.istore 4, 2) := by decide +kernel
theorem dX9_turns_22 : decode cX9_turns 22 = .ok (.aload_n 0, 1) := by decide +kernel
theorem dX9_turns_23 : decode cX9_turns 23 = .ok (.getfield 137, 3) := by decide +kernel
theorem dX9_turns_26 : decode cX9_turns 26 = .ok (.iload_n 1, 1) := by decide +kernel
theorem dX9_turns_27 : decode cX9_turns 27 = .ok (.baload, 1) := by decide +kernel
theorem dX9_turns_28 : decode cX9_turns 28 = .ok (.istore 5, 2) := by decide +kernel
theorem dX9_turns_30 : decode cX9_turns 30 = .ok (.aload_n 0, 1) := by decide +kernel
theorem dX9_turns_31 : decode cX9_turns 31 = .ok (.getfield 140, 3) := by decide +kernel
theorem dX9_turns_34 : decode cX9_turns 34 = .ok (.iload_n 1, 1) := by decide +kernel
theorem dX9_turns_35 : decode cX9_turns 35 = .ok (.iaload, 1) := by decide +kernel
theorem dX9_turns_36 : decode cX9_turns 36 = .ok (.istore 6, 2) := by decide +kernel
theorem dX9_turns_38 : decode cX9_turns 38 = .ok (.aload_n 0, 1) := by decide +kernel
theorem dX9_turns_39 : decode cX9_turns 39 = .ok (.getfield 128, 3) := by decide +kernel
theorem dX9_turns_42 : decode cX9_turns 42 = .ok (.iload_n 1, 1) := by decide +kernel
theorem dX9_turns_43 : decode cX9_turns 43 = .ok (.aload_n 0, 1) := by decide +kernel
theorem dX9_turns_44 : decode cX9_turns 44 = .ok (.getfield 128, 3) := by decide +kernel
theorem dX9_turns_47 : decode cX9_turns 47 = .ok (.iload_n 1, 1) := by decide +kernel
theorem dX9_turns_48 : decode cX9_turns 48 = .ok (.iconst 1, 1) := by decide +kernel
theorem dX9_turns_49 : decode cX9_turns 49 = .ok (.isub, 1) := by decide +kernel
theorem dX9_turns_50 : decode cX9_turns 50 = .ok (.iaload, 1) := by decide +kernel
theorem dX9_turns_51 : decode cX9_turns 51 = .ok (.iastore, 1) := by decide +kernel
theorem dX9_turns_52 : decode cX9_turns 52 = .ok (.aload_n 0, 1) := by decide +kernel
theorem dX9_turns_53 : decode cX9_turns 53 = .ok (.getfield 131, 3) := by decide +kernel
theorem dX9_turns_56 : decode cX9_turns 56 = .ok (.iload_n 1, 1) := by decide +kernel
theorem dX9_turns_57 : decode cX9_turns 57 = .ok (.aload_n 0, 1) := by decide +kernel
theorem dX9_turns_58 : decode cX9_turns 58 = .ok (.getfield 131, 3) := by decide +kernel
theorem dX9_turns_61 : decode cX9_turns 61 = .ok (.iload_n 1, 1) := by decide +kernel
theorem dX9_turns_62 : decode cX9_turns 62 = .ok (.iconst 1, 1) := by decide +kernel
theorem dX9_turns_63 : decode cX9_turns 63 = .ok (.isub, 1) := by decide +kernel
theorem dX9_turns_64 : decode cX9_turns 64 = .ok (.iaload, 1) := by decide +kernel
theorem dX9_turns_65 : decode cX9_turns 65 = .ok (.iastore, 1) := by decide +kernel
theorem dX9_turns_66 : decode cX9_turns 66 = .ok (.aload_n 0, 1) := by decide +kernel
theorem dX9_turns_67 : decode cX9_turns 67 = .ok (.getfield 134, 3) := by decide +kernel
theorem dX9_turns_70 : decode cX9_turns 70 = .ok (.iload_n 1, 1) := by decide +kernel
theorem dX9_turns_71 : decode cX9_turns 71 = .ok (.aload_n 0, 1) := by decide +kernel
theorem dX9_turns_72 : decode cX9_turns 72 = .ok (.getfield 134, 3) := by decide +kernel
theorem dX9_turns_75 : decode cX9_turns 75 = .ok (.iload_n 1, 1) := by decide +kernel
theorem dX9_turns_76 : decode cX9_turns 76 = .ok (.iconst 1, 1) := by decide +kernel
theorem dX9_turns_77 : decode cX9_turns 77 = .ok (.isub, 1) := by decide +kernel
theorem dX9_turns_78 : decode cX9_turns 78 = .ok (.iaload, 1) := by decide +kernel
theorem dX9_turns_79 : decode cX9_turns 79 = .ok (.iastore, 1) := by decide +kernel
theorem dX9_turns_80 : decode cX9_turns 80 = .ok (.aload_n 0, 1) := by decide +kernel
theorem dX9_turns_81 : decode cX9_turns 81 = .ok (.getfield 137, 3) := by decide +kernel
theorem dX9_turns_84 : decode cX9_turns 84 = .ok (.iload_n 1, 1) := by decide +kernel
theorem dX9_turns_85 : decode cX9_turns 85 = .ok (.aload_n 0, 1) := by decide +kernel
theorem dX9_turns_86 : decode cX9_turns 86 = .ok (.getfield 137, 3) := by decide +kernel
theorem dX9_turns_89 : decode cX9_turns 89 = .ok (.iload_n 1, 1) := by decide +kernel
theorem dX9_turns_90 : decode cX9_turns 90 = .ok (.iconst 1, 1) := by decide +kernel
theorem dX9_turns_91 : decode cX9_turns 91 = .ok (.isub, 1) := by decide +kernel
theorem dX9_turns_92 : decode cX9_turns 92 = .ok (.baload, 1) := by decide +kernel
theorem dX9_turns_93 : decode cX9_turns 93 = .ok (.bastore, 1) := by decide +kernel
theorem dX9_turns_94 : decode cX9_turns 94 = .ok (.aload_n 0, 1) := by decide +kernel
theorem dX9_turns_95 : decode cX9_turns 95 = .ok (.getfield 140, 3) := by decide +kernel
theorem dX9_turns_98 : decode cX9_turns 98 = .ok (.iload_n 1, 1) := by decide +kernel
theorem dX9_turns_99 : decode cX9_turns 99 = .ok (.aload_n 0, 1) := by decide +kernel
theorem dX9_turns_100 : decode cX9_turns 100 = .ok (.getfield 140, 3) := by decide +kernel
theorem dX9_turns_103 : decode cX9_turns 103 = .ok (.iload_n 1, 1) := by decide +kernel
theorem dX9_turns_104 : decode cX9_turns 104 = .ok (.iconst 1, 1) := by decide +kernel
theorem dX9_turns_105 : decode cX9_turns 105 = .ok (.isub, 1) := by decide +kernel
theorem dX9_turns_106 : decode cX9_turns 106 = .ok (.iaload, 1) := by decide +kernel
theorem dX9_turns_107 : decode cX9_turns 107 = .ok (.iastore, 1) := by decide +kernel
theorem dX9_turns_108 : decode cX9_turns 108 = .ok (.aload_n 0, 1) := by decide +kernel
theorem dX9_turns_109 : decode cX9_turns 109 = .ok (.getfield 128, 3) := by decide +kernel
theorem dX9_turns_112 : decode cX9_turns 112 = .ok (.iload_n 1, 1) := by decide +kernel
theorem dX9_turns_113 : decode cX9_turns 113 = .ok (.iconst 1, 1) := by decide +kernel
theorem dX9_turns_114 : decode cX9_turns 114 = .ok (.isub, 1) := by decide +kernel
theorem dX9_turns_115 : decode cX9_turns 115 = .ok (.iload_n 2, 1) := by decide +kernel
theorem dX9_turns_116 : decode cX9_turns 116 = .ok (.iastore, 1) := by decide +kernel
theorem dX9_turns_117 : decode cX9_turns 117 = .ok (.aload_n 0, 1) := by decide +kernel
theorem dX9_turns_118 : decode cX9_turns 118 = .ok (.getfield 131, 3) := by decide +kernel
theorem dX9_turns_121 : decode cX9_turns 121 = .ok (.iload_n 1, 1) := by decide +kernel
theorem dX9_turns_122 : decode cX9_turns 122 = .ok (.iconst 1, 1) := by decide +kernel
theorem dX9_turns_123 : decode cX9_turns 123 = .ok (.isub, 1) := by decide +kernel
theorem dX9_turns_124 : decode cX9_turns 124 = .ok (.iload_n 3, 1) := by decide +kernel
theorem dX9_turns_125 : decode cX9_turns 125 = .ok (.iastore, 1) := by decide +kernel
theorem dX9_turns_126 : decode cX9_turns 126 = .ok (.aload_n 0, 1) := by decide +kernel
theorem dX9_turns_127 : decode cX9_turns 127 = .ok (.getfield 134, 3) := by decide +kernel
theorem dX9_turns_130 : decode cX9_turns 130 = .ok (.iload_n 1, 1) := by decide +kernel
theorem dX9_turns_131 : decode cX9_turns 131 = .ok (.iconst 1, 1) := by decide +kernel
theorem dX9_turns_132 : decode cX9_turns 132 = .ok (.isub, 1) := by decide +kernel
theorem dX9_turns_133 : decode cX9_turns 133 = .ok (.iload 4, 2) := by decide +kernel
theorem dX9_turns_135 : decode cX9_turns 135 = .ok (.iastore, 1) := by decide +kernel
theorem dX9_turns_136 : decode cX9_turns 136 = .ok (.aload_n 0, 1) := by decide +kernel
theorem dX9_turns_137 : decode cX9_turns 137 = .ok (.getfield 137, 3) := by decide +kernel
theorem dX9_turns_140 : decode cX9_turns 140 = .ok (.iload_n 1, 1) := by decide +kernel
theorem dX9_turns_141 : decode cX9_turns 141 = .ok (.iconst 1, 1) := by decide +kernel
theorem dX9_turns_142 : decode cX9_turns 142 = .ok (.isub, 1) := by decide +kernel
theorem dX9_turns_143 : decode cX9_turns 143 = .ok (.iload 5, 2) := by decide +kernel
theorem dX9_turns_145 : decode cX9_turns 145 = .ok (.bastore, 1) := by decide +kernel
theorem dX9_turns_146 : decode cX9_turns 146 = .ok (.aload_n 0, 1) := by decide +kernel
theorem dX9_turns_147 : decode cX9_turns 147 = .ok (.getfield 140, 3) := by decide +kernel
theorem dX9_turns_150 : decode cX9_turns 150 = .ok (.iload_n 1, 1) := by decide +kernel
theorem dX9_turns_151 : decode cX9_turns 151 = .ok (.iconst 1, 1) := by decide +kernel
theorem dX9_turns_152 : decode cX9_turns 152 = .ok (.isub, 1) := by decide +kernel
theorem dX9_turns_153 : decode cX9_turns 153 = .ok (.iload 6, 2) := by decide +kernel
theorem dX9_turns_155 : decode cX9_turns 155 = .ok (.iastore, 1) := by decide +kernel
theorem dX9_turns_156 : decode cX9_turns 156 = .ok (.return_, 1) := by decide +kernel
theorem dX9_statement_0 : decode cX9_statement 0 = .ok (.aload_n 0, 1) := by decide +kernel
theorem dX9_statement_1 : decode cX9_statement 1 = .ok (.bipush 20, 2) := by decide +kernel
theorem dX9_statement_3 : decode cX9_statement 3 = .ok (.invokevirtual 294, 3) := by decide +kernel
theorem dX9_statement_6 : decode cX9_statement 6 = .ok (.ifCond .eq 48, 3) := by decide +kernel
theorem dX9_statement_9 : decode cX9_statement 9 = .ok (.aload_n 0, 1) := by decide +kernel
theorem dX9_statement_10 : decode cX9_statement 10 = .ok (.iconst 1, 1) := by decide +kernel
theorem dX9_statement_11 : decode cX9_statement 11 = .ok (.iconst 0, 1) := by decide +kernel
theorem dX9_statement_12 : decode cX9_statement 12 = .ok (.iconst 0, 1) := by decide +kernel
theorem dX9_statement_13 : decode cX9_statement 13 = .ok (.invokevirtual 379, 3) := by decide +kernel
theorem dX9_statement_16 : decode cX9_statement 16 = .ok (.istore_n 2, 1) := by decide +kernel
theorem dX9_statement_17 : decode cX9_statement 17 = .ok (.aload_n 0, 1) := by decide +kernel
theorem dX9_statement_18 : decode cX9_statement 18 = .ok (.invokevirtual 389, 3) := by decide +kernel
theorem dX9_statement_21 : decode cX9_statement 21 = .ok (.aload_n 0, 1) := by decide +kernel
theorem dX9_statement_22 : decode cX9_statement 22 = .ok (.bipush 11, 2) := by decide +kernel
theorem dX9_statement_24 : decode cX9_statement 24 = .ok (.iconst 0, 1) := by decide +kernel
theorem dX9_statement_25 : decode cX9_statement 25 = .ok (.iconst 0, 1) := by decide +kernel
theorem dX9_statement_26 : decode cX9_statement 26 = .ok (.invokevirtual 379, 3) := by decide +kernel
theorem dX9_statement_29 : decode cX9_statement 29 = .ok (.istore_n 3, 1) := by decide +kernel
theorem dX9_statement_30 : decode cX9_statement 30 = .ok (.aload_n 0, 1) := by decide +kernel
theorem dX9_statement_31 : decode cX9_statement 31 = .ok (.invokevirtual 383, 3) := by decide +kernel
theorem dX9_statement_34 : decode cX9_statement 34 = .ok (.aload_n 0, 1) := by decide +kernel
theorem dX9_statement_35 : decode cX9_statement 35 = .ok (.bipush 10, 2) := by decide +kernel
theorem dX9_statement_37 : decode cX9_statement 37 = .ok (.aload_n 0, 1) := by decide +kernel
theorem dX9_statement_38 : decode cX9_statement 38 = .ok (.getfield 313, 3) := by decide +kernel
theorem dX9_statement_41 : decode cX9_statement 41 = .ok (.iload_n 2, 1) := by decide +kernel
theorem dX9_statement_42 : decode cX9_statement 42 = .ok (.iadd, 1) := by decide +kernel
theorem dX9_statement_43 : decode cX9_statement 43 = .ok (.iconst 0, 1) := by decide +kernel
theorem dX9_statement_44 : decode cX9_statement 44 = .ok (.invokevirtual 379, 3) := by decide +kernel
theorem dX9_statement_47 : decode cX9_statement 47 = .ok (.istore_n 1, 1) := by decide +kernel
theorem dX9_statement_48 : decode cX9_statement 48 = .ok (.aload_n 0, 1) := by decide +kernel
theorem dX9_statement_49 : decode cX9_statement 49 = .ok (.iload_n 3, 1) := by decide +kernel
theorem dX9_statement_50 : decode cX9_statement 50 = .ok (.invokevirtual 415, 3) := by decide +kernel
theorem dX9_statement_53 : decode cX9_statement 53 = .ok (.return_, 1) := by decide +kernel
theorem dX9_statement_54 : decode cX9_statement 54 = .ok (.aload_n 0, 1) := by decide +kernel
theorem dX9_statement_55 : decode cX9_statement 55 = .ok (.iconst 1, 1) := by decide +kernel
theorem dX9_statement_56 : decode cX9_statement 56 = .ok (.iconst 0, 1) := by decide +kernel
theorem dX9_statement_57 : decode cX9_statement 57 = .ok (.iconst 0, 1) := by decide +kernel
theorem dX9_statement_58 : decode cX9_statement 58 = .ok (.invokevirtual 379, 3) := by decide +kernel
theorem dX9_statement_61 : decode cX9_statement 61 = .ok (.istore_n 1, 1) := by decide +kernel
theorem dX9_statement_62 : decode cX9_statement 62 = .ok (.aload_n 0, 1) := by decide +kernel
theorem dX9_statement_63 : decode cX9_statement 63 = .ok (.bipush 18, 2) := by decide +kernel
theorem dX9_statement_65 : decode cX9_statement 65 = .ok (.invokevirtual 294, 3) := by decide +kernel
theorem dX9_statement_68 : decode cX9_statement 68 = .ok (.ifCond .eq 10, 3) := by decide +kernel
theorem dX9_statement_71 : decode cX9_statement 71 = .ok (.aload_n 0, 1) := by decide +kernel
theorem dX9_statement_72 : decode cX9_statement 72 = .ok (.invokevirtual 418, 3) := by decide +kernel
theorem dX9_statement_75 : decode cX9_statement 75 = .ok (.goto 67, 3) := by decide +kernel
theorem dX9_statement_78 : decode cX9_statement 78 = .ok (.aload_n 0, 1) := by decide +kernel
theorem dX9_statement_79 : decode cX9_statement 79 = .ok (.bipush 21, 2) := by decide +kernel
theorem dX9_statement_81 : decode cX9_statement 81 = .ok (.invokevirtual 294, 3) := by decide +kernel
theorem dX9_statement_84 : decode cX9_statement 84 = .ok (.ifCond .eq 48, 3) := by decide +kernel
theorem dX9_statement_87 : decode cX9_statement 87 = .ok (.aload_n 0, 1) := by decide +kernel
theorem dX9_statement_88 : decode cX9_statement 88 = .ok (.bipush 12, 2) := by decide +kernel
theorem dX9_statement_90 : decode cX9_statement 90 = .ok (.iconst 0, 1) := by decide +kernel
theorem dX9_statement_91 : decode cX9_statement 91 = .ok (.iconst 0, 1) := by decide +kernel
theorem dX9_statement_92 : decode cX9_statement 92 = .ok (.invokevirtual 379, 3) := by decide +kernel
theorem dX9_statement_95 : decode cX9_statement 95 = .ok (.istore_n 2, 1) := by decide +kernel
theorem dX9_statement_96 : decode cX9_statement 96 = .ok (.aload_n 0, 1) := by decide +kernel
theorem dX9_statement_97 : decode cX9_statement 97 = .ok (.invokevirtual 383, 3) := by decide +kernel
theorem dX9_statement_100 : decode cX9_statement 100 = .ok (.aload_n 0, 1) := by decide +kernel
theorem dX9_statement_101 : decode cX9_statement 101 = .ok (.bipush 13, 2) := by decide +kernel
theorem dX9_statement_103 : decode cX9_statement 103 = .ok (.iconst 0, 1) := by decide +kernel
theorem dX9_statement_104 : decode cX9_statement 104 = .ok (.iconst 0, 1) := by decide +kernel
theorem dX9_statement_105 : decode cX9_statement 105 = .ok (.invokevirtual 379, 3) := by decide +kernel
theorem dX9_statement_108 : decode cX9_statement 108 = .ok (.istore_n 3, 1) := by decide +kernel
theorem dX9_statement_109 : decode cX9_statement 109 = .ok (.aload_n 0, 1) := by decide +kernel
theorem dX9_statement_110 : decode cX9_statement 110 = .ok (.iload_n 2, 1) := by decide +kernel
theorem dX9_statement_111 : decode cX9_statement 111 = .ok (.invokevirtual 415, 3) := by decide +kernel
theorem dX9_statement_114 : decode cX9_statement 114 = .ok (.aload_n 0, 1) := by decide +kernel
theorem dX9_statement_115 : decode cX9_statement 115 = .ok (.bipush 8, 2) := by decide +kernel
theorem dX9_statement_117 : decode cX9_statement 117 = .ok (.invokevirtual 349, 3) := by decide +kernel
theorem dX9_statement_120 : decode cX9_statement 120 = .ok (.aload_n 0, 1) := by decide +kernel
theorem dX9_statement_121 : decode cX9_statement 121 = .ok (.invokevirtual 383, 3) := by decide +kernel
theorem dX9_statement_124 : decode cX9_statement 124 = .ok (.aload_n 0, 1) := by decide +kernel
theorem dX9_statement_125 : decode cX9_statement 125 = .ok (.iload_n 3, 1) := by decide +kernel
theorem dX9_statement_126 : decode cX9_statement 126 = .ok (.invokevirtual 415, 3) := by decide +kernel
theorem dX9_statement_129 : decode cX9_statement 129 = .ok (.goto 13, 3) := by decide +kernel
theorem dX9_statement_132 : decode cX9_statement 132 = .ok (.aload_n 0, 1) := by decide +kernel
theorem dX9_statement_133 : decode cX9_statement 133 = .ok (.invokevirtual 421, 3) := by decide +kernel
theorem dX9_statement_136 : decode cX9_statement 136 = .ok (.aload_n 0, 1) := by decide +kernel
theorem dX9_statement_137 : decode cX9_statement 137 = .ok (.bipush 59, 2) := by decide +kernel
theorem dX9_statement_139 : decode cX9_statement 139 = .ok (.invokevirtual 357, 3) := by decide +kernel
theorem dX9_statement_142 : decode cX9_statement 142 = .ok (.return_, 1) := by decide +kernel
theorem dX9_choice_0 : decode cX9_choice 0 = .ok (.aload_n 0, 1) := by decide +kernel
theorem dX9_choice_1 : decode cX9_choice 1 = .ok (.invokevirtual 389, 3) := by decide +kernel
theorem dX9_choice_4 : decode cX9_choice 4 = .ok (.aload_n 0, 1) := by decide +kernel
theorem dX9_choice_5 : decode cX9_choice 5 = .ok (.bipush 11, 2) := by decide +kernel
theorem dX9_choice_7 : decode cX9_choice 7 = .ok (.iconst 0, 1) := by decide +kernel
theorem dX9_choice_8 : decode cX9_choice 8 = .ok (.iconst 0, 1) := by decide +kernel
theorem dX9_choice_9 : decode cX9_choice 9 = .ok (.invokevirtual 379, 3) := by decide +kernel
theorem dX9_choice_12 : decode cX9_choice 12 = .ok (.istore_n 1, 1) := by decide +kernel
theorem dX9_choice_13 : decode cX9_choice 13 = .ok (.aload_n 0, 1) := by decide +kernel
theorem dX9_choice_14 : decode cX9_choice 14 = .ok (.invokevirtual 383, 3) := by decide +kernel
theorem dX9_choice_17 : decode cX9_choice 17 = .ok (.aload_n 0, 1) := by decide +kernel
theorem dX9_choice_18 : decode cX9_choice 18 = .ok (.bipush 19, 2) := by decide +kernel
theorem dX9_choice_20 : decode cX9_choice 20 = .ok (.invokevirtual 294, 3) := by decide +kernel
theorem dX9_choice_23 : decode cX9_choice 23 = .ok (.ifCond .eq 29, 3) := by decide +kernel
theorem dX9_choice_26 : decode cX9_choice 26 = .ok (.aload_n 0, 1) := by decide +kernel
theorem dX9_choice_27 : decode cX9_choice 27 = .ok (.bipush 10, 2) := by decide +kernel
theorem dX9_choice_29 : decode cX9_choice 29 = .ok (.iconst 0, 1) := by decide +kernel
theorem dX9_choice_30 : decode cX9_choice 30 = .ok (.iconst 0, 1) := by decide +kernel
theorem dX9_choice_31 : decode cX9_choice 31 = .ok (.invokevirtual 379, 3) := by decide +kernel
theorem dX9_choice_34 : decode cX9_choice 34 = .ok (.istore_n 2, 1) := by decide +kernel
theorem dX9_choice_35 : decode cX9_choice 35 = .ok (.aload_n 0, 1) := by decide +kernel
theorem dX9_choice_36 : decode cX9_choice 36 = .ok (.iload_n 1, 1) := by decide +kernel
theorem dX9_choice_37 : decode cX9_choice 37 = .ok (.invokevirtual 415, 3) := by decide +kernel
theorem dX9_choice_40 : decode cX9_choice 40 = .ok (.aload_n 0, 1) := by decide +kernel
theorem dX9_choice_41 : decode cX9_choice 41 = .ok (.invokevirtual 383, 3) := by decide +kernel
theorem dX9_choice_44 : decode cX9_choice 44 = .ok (.aload_n 0, 1) := by decide +kernel
theorem dX9_choice_45 : decode cX9_choice 45 = .ok (.iload_n 2, 1) := by decide +kernel
theorem dX9_choice_46 : decode cX9_choice 46 = .ok (.invokevirtual 415, 3) := by decide +kernel
theorem dX9_choice_49 : decode cX9_choice 49 = .ok (.goto 8, 3) := by decide +kernel
theorem dX9_choice_52 : decode cX9_choice 52 = .ok (.aload_n 0, 1) := by decide +kernel
theorem dX9_choice_53 : decode cX9_choice 53 = .ok (.iload_n 1, 1) := by decide +kernel
theorem dX9_choice_54 : decode cX9_choice 54 = .ok (.invokevirtual 415, 3) := by decide +kernel
theorem dX9_choice_57 : decode cX9_choice 57 = .ok (.return_, 1) := by decide +kernel
theorem dX9_plain_0 : decode cX9_plain 0 = .ok (.aload_n 0, 1) := by decide +kernel
theorem dX9_plain_1 : decode cX9_plain 1 = .ok (.bipush 14, 2) := by decide +kernel
theorem dX9_plain_3 : decode cX9_plain 3 = .ok (.invokevirtual 294, 3) := by decide +kernel
theorem dX9_plain_6 : decode cX9_plain 6 = .ok (.ifCond .eq 53, 3) := by decide +kernel
theorem dX9_plain_9 : decode cX9_plain 9 = .ok (.aload_n 0, 1) := by decide +kernel
theorem dX9_plain_10 : decode cX9_plain 10 = .ok (.getfield 281, 3) := by decide +kernel
theorem dX9_plain_13 : decode cX9_plain 13 = .ok (.ifCond .ne 15, 3) := by decide +kernel
theorem dX9_plain_16 : decode cX9_plain 16 = .ok (.aload_n 0, 1) := by decide +kernel
theorem dX9_plain_17 : decode cX9_plain 17 = .ok (.invokevirtual 337, 3) := by decide +kernel
theorem dX9_plain_20 : decode cX9_plain 20 = .ok (.ifCond .ne 8, 3) := by decide +kernel
theorem dX9_plain_23 : decode cX9_plain 23 = .ok (.aload_n 0, 1) := by decide +kernel
theorem dX9_plain_24 : decode cX9_plain 24 = .ok (.iconst 1, 1) := by decide +kernel
theorem dX9_plain_25 : decode cX9_plain 25 = .ok (.invokevirtual 287, 3) := by decide +kernel
theorem dX9_plain_28 : decode cX9_plain 28 = .ok (.aload_n 0, 1) := by decide +kernel
theorem dX9_plain_29 : decode cX9_plain 29 = .ok (.aload_n 0, 1) := by decide +kernel
theorem dX9_plain_30 : decode cX9_plain 30 = .ok (.getfield 278, 3) := by decide +kernel
theorem dX9_plain_33 : decode cX9_plain 33 = .ok (.iconst (-1), 1) := by decide +kernel
theorem dX9_plain_34 : decode cX9_plain 34 = .ok (.aload_n 0, 1) := by decide +kernel
theorem dX9_plain_35 : decode cX9_plain 35 = .ok (.bipush 6, 2) := by decide +kernel
theorem dX9_plain_37 : decode cX9_plain 37 = .ok (.iconst 0, 1) := by decide +kernel
theorem dX9_plain_38 : decode cX9_plain 38 = .ok (.iconst 0, 1) := by decide +kernel
theorem dX9_plain_39 : decode cX9_plain 39 = .ok (.invokevirtual 379, 3) := by decide +kernel
theorem dX9_plain_42 : decode cX9_plain 42 = .ok (.iconst 0, 1) := by decide +kernel
theorem dX9_plain_43 : decode cX9_plain 43 = .ok (.invokevirtual 424, 3) := by decide +kernel
theorem dX9_plain_46 : decode cX9_plain 46 = .ok (.aload_n 0, 1) := by decide +kernel
theorem dX9_plain_47 : decode cX9_plain 47 = .ok (.dup, 1) := by decide +kernel
theorem dX9_plain_48 : decode cX9_plain 48 = .ok (.getfield 278, 3) := by decide +kernel
theorem dX9_plain_51 : decode cX9_plain 51 = .ok (.iconst 1, 1) := by decide +kernel
theorem dX9_plain_52 : decode cX9_plain 52 = .ok (.iadd, 1) := by decide +kernel
theorem dX9_plain_53 : decode cX9_plain 53 = .ok (.putfield 278, 3) := by decide +kernel
theorem dX9_plain_56 : decode cX9_plain 56 = .ok (.goto 89, 3) := by decide +kernel
theorem dX9_plain_59 : decode cX9_plain 59 = .ok (.aload_n 0, 1) := by decide +kernel
theorem dX9_plain_60 : decode cX9_plain 60 = .ok (.bipush 15, 2) := by decide +kernel
theorem dX9_plain_62 : decode cX9_plain 62 = .ok (.invokevirtual 294, 3) := by decide +kernel
theorem dX9_plain_65 : decode cX9_plain 65 = .ok (.ifCond .eq 24, 3) := by decide +kernel
theorem dX9_plain_68 : decode cX9_plain 68 = .ok (.aload_n 0, 1) := by decide +kernel
theorem dX9_plain_69 : decode cX9_plain 69 = .ok (.invokevirtual 428, 3) := by decide +kernel
theorem dX9_plain_72 : decode cX9_plain 72 = .ok (.istore_n 2, 1) := by decide +kernel
theorem dX9_plain_73 : decode cX9_plain 73 = .ok (.aload_n 0, 1) := by decide +kernel
theorem dX9_plain_74 : decode cX9_plain 74 = .ok (.invokevirtual 389, 3) := by decide +kernel
theorem dX9_plain_77 : decode cX9_plain 77 = .ok (.aload_n 0, 1) := by decide +kernel
theorem dX9_plain_78 : decode cX9_plain 78 = .ok (.bipush 7, 2) := by decide +kernel
theorem dX9_plain_80 : decode cX9_plain 80 = .ok (.iload_n 2, 1) := by decide +kernel
theorem dX9_plain_81 : decode cX9_plain 81 = .ok (.iconst 0, 1) := by decide +kernel
theorem dX9_plain_82 : decode cX9_plain 82 = .ok (.invokevirtual 379, 3) := by decide +kernel
theorem dX9_plain_85 : decode cX9_plain 85 = .ok (.istore_n 1, 1) := by decide +kernel
theorem dX9_plain_86 : decode cX9_plain 86 = .ok (.goto 59, 3) := by decide +kernel
theorem dX9_plain_89 : decode cX9_plain 89 = .ok (.aload_n 0, 1) := by decide +kernel
theorem dX9_plain_90 : decode cX9_plain 90 = .ok (.bipush 16, 2) := by decide +kernel
theorem dX9_plain_92 : decode cX9_plain 92 = .ok (.invokevirtual 294, 3) := by decide +kernel
theorem dX9_plain_95 : decode cX9_plain 95 = .ok (.ifCond .eq 19, 3) := by decide +kernel
theorem dX9_plain_98 : decode cX9_plain 98 = .ok (.aload_n 0, 1) := by decide +kernel
theorem dX9_plain_99 : decode cX9_plain 99 = .ok (.invokevirtual 389, 3) := by decide +kernel
theorem dX9_plain_102 : decode cX9_plain 102 = .ok (.aload_n 0, 1) := by decide +kernel
theorem dX9_plain_103 : decode cX9_plain 103 = .ok (.bipush 8, 2) := by decide +kernel
theorem dX9_plain_105 : decode cX9_plain 105 = .ok (.iconst 0, 1) := by decide +kernel
theorem dX9_plain_106 : decode cX9_plain 106 = .ok (.iconst 0, 1) := by decide +kernel
theorem dX9_plain_107 : decode cX9_plain 107 = .ok (.invokevirtual 379, 3) := by decide +kernel
theorem dX9_plain_110 : decode cX9_plain 110 = .ok (.istore_n 1, 1) := by decide +kernel
theorem dX9_plain_111 : decode cX9_plain 111 = .ok (.goto 34, 3) := by decide +kernel
theorem dX9_plain_114 : decode cX9_plain 114 = .ok (.aload_n 0, 1) := by decide +kernel
theorem dX9_plain_115 : decode cX9_plain 115 = .ok (.bipush 17, 2) := by decide +kernel
theorem dX9_plain_117 : decode cX9_plain 117 = .ok (.invokevirtual 294, 3) := by decide +kernel
theorem dX9_plain_120 : decode cX9_plain 120 = .ok (.ifCond .eq 21, 3) := by decide +kernel
theorem dX9_plain_123 : decode cX9_plain 123 = .ok (.aload_n 0, 1) := by decide +kernel
theorem dX9_plain_124 : decode cX9_plain 124 = .ok (.bipush 9, 2) := by decide +kernel
theorem dX9_plain_126 : decode cX9_plain 126 = .ok (.aload_n 0, 1) := by decide +kernel
theorem dX9_plain_127 : decode cX9_plain 127 = .ok (.iconst 1, 1) := by decide +kernel
theorem dX9_plain_128 : decode cX9_plain 128 = .ok (.bipush 9, 2) := by decide +kernel
theorem dX9_plain_130 : decode cX9_plain 130 = .ok (.invokevirtual 353, 3) := by decide +kernel
theorem dX9_plain_133 : decode cX9_plain 133 = .ok (.iconst 0, 1) := by decide +kernel
theorem dX9_plain_134 : decode cX9_plain 134 = .ok (.invokevirtual 379, 3) := by decide +kernel
theorem dX9_plain_137 : decode cX9_plain 137 = .ok (.istore_n 1, 1) := by decide +kernel
theorem dX9_plain_138 : decode cX9_plain 138 = .ok (.goto 7, 3) := by decide +kernel
theorem dX9_plain_141 : decode cX9_plain 141 = .ok (.aload_n 0, 1) := by decide +kernel
theorem dX9_plain_142 : decode cX9_plain 142 = .ok (.invokevirtual 431, 3) := by decide +kernel
theorem dX9_plain_145 : decode cX9_plain 145 = .ok (.return_, 1) := by decide +kernel
theorem dX9_isPoint_0 : decode cX9_isPoint 0 = .ok (.aload_n 0, 1) := by decide +kernel
theorem dX9_isPoint_1 : decode cX9_isPoint 1 = .ok (.getfield 281, 3) := by decide +kernel
theorem dX9_isPoint_4 : decode cX9_isPoint 4 = .ok (.ifCond .ne 40, 3) := by decide +kernel
theorem dX9_isPoint_7 : decode cX9_isPoint 7 = .ok (.aload_n 0, 1) := by decide +kernel
theorem dX9_isPoint_8 : decode cX9_isPoint 8 = .ok (.getfield 24, 3) := by decide +kernel
theorem dX9_isPoint_11 : decode cX9_isPoint 11 = .ok (.aload_n 0, 1) := by decide +kernel
theorem dX9_isPoint_12 : decode cX9_isPoint 12 = .ok (.getfield 278, 3) := by decide +kernel
theorem dX9_isPoint_15 : decode cX9_isPoint 15 = .ok (.iconst 1, 1) := by decide +kernel
theorem dX9_isPoint_16 : decode cX9_isPoint 16 = .ok (.iadd, 1) := by decide +kernel
theorem dX9_isPoint_17 : decode cX9_isPoint 17 = .ok (.iaload, 1) := by decide +kernel
theorem dX9_isPoint_18 : decode cX9_isPoint 18 = .ok (.iconst 3, 1) := by decide +kernel
theorem dX9_isPoint_19 : decode cX9_isPoint 19 = .ok (.if_icmp .ne 25, 3) := by decide +kernel
theorem dX9_isPoint_22 : decode cX9_isPoint 22 = .ok (.aload_n 0, 1) := by decide +kernel
theorem dX9_isPoint_23 : decode cX9_isPoint 23 = .ok (.getfield 30, 3) := by decide +kernel
theorem dX9_isPoint_26 : decode cX9_isPoint 26 = .ok (.aload_n 0, 1) := by decide +kernel
theorem dX9_isPoint_27 : decode cX9_isPoint 27 = .ok (.getfield 278, 3) := by decide +kernel
theorem dX9_isPoint_30 : decode cX9_isPoint 30 = .ok (.iconst 1, 1) := by decide +kernel
theorem dX9_isPoint_31 : decode cX9_isPoint 31 = .ok (.iadd, 1) := by decide +kernel
theorem dX9_isPoint_32 : decode cX9_isPoint 32 = .ok (.laload, 1) := by decide +kernel
theorem dX9_isPoint_33 : decode cX9_isPoint 33 = .ok (.ldc2_w 434, 3) := by decide +kernel
theorem dX9_isPoint_36 : decode cX9_isPoint 36 = .ok (.lcmp, 1) := by decide +kernel
theorem dX9_isPoint_37 : decode cX9_isPoint 37 = .ok (.ifCond .ne 7, 3) := by decide +kernel
theorem dX9_isPoint_40 : decode cX9_isPoint 40 = .ok (.iconst 1, 1) := by decide +kernel
theorem dX9_isPoint_41 : decode cX9_isPoint 41 = .ok (.goto 4, 3) := by decide +kernel
theorem dX9_isPoint_44 : decode cX9_isPoint 44 = .ok (.iconst 0, 1) := by decide +kernel
theorem dX9_isPoint_45 : decode cX9_isPoint 45 = .ok (.ireturn, 1) := by decide +kernel
theorem dX9_set_0 : decode cX9_set 0 = .ok (.aload_n 0, 1) := by decide +kernel
theorem dX9_set_1 : decode cX9_set 1 = .ok (.invokevirtual 337, 3) := by decide +kernel
theorem dX9_set_4 : decode cX9_set 4 = .ok (.ifCond .ne 9, 3) := by decide +kernel
theorem dX9_set_7 : decode cX9_set 7 = .ok (.aload_n 0, 1) := by decide +kernel
theorem dX9_set_8 : decode cX9_set 8 = .ok (.iconst 1, 1) := by decide +kernel
theorem dX9_set_9 : decode cX9_set 9 = .ok (.invokevirtual 287, 3) := by decide +kernel
theorem dX9_set_12 : decode cX9_set 12 = .ok (.return_, 1) := by decide +kernel
theorem dX9_set_13 : decode cX9_set 13 = .ok (.aload_n 0, 1) := by decide +kernel
theorem dX9_set_14 : decode cX9_set 14 = .ok (.getfield 278, 3) := by decide +kernel
theorem dX9_set_17 : decode cX9_set 17 = .ok (.istore_n 1, 1) := by decide +kernel
theorem dX9_set_18 : decode cX9_set 18 = .ok (.aload_n 0, 1) := by decide +kernel
theorem dX9_set_19 : decode cX9_set 19 = .ok (.invokevirtual 436, 3) := by decide +kernel
theorem dX9_set_22 : decode cX9_set 22 = .ok (.istore_n 2, 1) := by decide +kernel
theorem dX9_set_23 : decode cX9_set 23 = .ok (.iconst (-1), 1) := by decide +kernel
theorem dX9_set_24 : decode cX9_set 24 = .ok (.istore_n 3, 1) := by decide +kernel
theorem dX9_set_25 : decode cX9_set 25 = .ok (.iconst (-1), 1) := by decide +kernel
theorem dX9_set_26 : decode cX9_set 26 = .ok (.istore 4, 2) := by decide +kernel
theorem dX9_set_28 : decode cX9_set 28 = .ok (.iload_n 2, 1) := by decide +kernel
theorem dX9_set_29 : decode cX9_set 29 = .ok (.ifCond .eq 10, 3) := by decide +kernel
theorem dX9_set_32 : decode cX9_set 32 = .ok (.aload_n 0, 1) := by decide +kernel
theorem dX9_set_33 : decode cX9_set 33 = .ok (.invokevirtual 439, 3) := by decide +kernel
theorem dX9_set_36 : decode cX9_set 36 = .ok (.goto 19, 3) := by decide +kernel
theorem dX9_set_39 : decode cX9_set 39 = .ok (.aload_n 0, 1) := by decide +kernel
theorem dX9_set_40 : decode cX9_set 40 = .ok (.iconst 1, 1) := by decide +kernel
theorem dX9_set_41 : decode cX9_set 41 = .ok (.invokevirtual 442, 3) := by decide +kernel
theorem dX9_set_44 : decode cX9_set 44 = .ok (.aload_n 0, 1) := by decide +kernel
theorem dX9_set_45 : decode cX9_set 45 = .ok (.getfield 396, 3) := by decide +kernel
theorem dX9_set_48 : decode cX9_set 48 = .ok (.istore_n 3, 1) := by decide +kernel
theorem dX9_set_49 : decode cX9_set 49 = .ok (.aload_n 0, 1) := by decide +kernel
theorem dX9_set_50 : decode cX9_set 50 = .ok (.getfield 399, 3) := by decide +kernel
theorem dX9_set_53 : decode cX9_set 53 = .ok (.istore 4, 2) := by decide +kernel
theorem dX9_set_55 : decode cX9_set 55 = .ok (.aload_n 0, 1) := by decide +kernel
theorem dX9_set_56 : decode cX9_set 56 = .ok (.bipush 61, 2) := by decide +kernel
theorem dX9_set_58 : decode cX9_set 58 = .ok (.invokevirtual 357, 3) := by decide +kernel
theorem dX9_set_61 : decode cX9_set 61 = .ok (.aload_n 0, 1) := by decide +kernel
theorem dX9_set_62 : decode cX9_set 62 = .ok (.invokevirtual 389, 3) := by decide +kernel
theorem dX9_set_65 : decode cX9_set 65 = .ok (.aload_n 0, 1) := by decide +kernel
theorem dX9_set_66 : decode cX9_set 66 = .ok (.iconst 5, 1) := by decide +kernel
theorem dX9_set_67 : decode cX9_set 67 = .ok (.iload_n 3, 1) := by decide +kernel
theorem dX9_set_68 : decode cX9_set 68 = .ok (.iload 4, 2) := by decide +kernel
theorem dX9_set_70 : decode cX9_set 70 = .ok (.invokevirtual 379, 3) := by decide +kernel
theorem dX9_set_73 : decode cX9_set 73 = .ok (.istore 5, 2) := by decide +kernel
theorem dX9_set_75 : decode cX9_set 75 = .ok (.iload_n 2, 1) := by decide +kernel
theorem dX9_set_76 : decode cX9_set 76 = .ok (.ifCond .eq 14, 3) := by decide +kernel
theorem dX9_set_79 : decode cX9_set 79 = .ok (.aload_n 0, 1) := by decide +kernel
theorem dX9_set_80 : decode cX9_set 80 = .ok (.iload_n 1, 1) := by decide +kernel
theorem dX9_set_81 : decode cX9_set 81 = .ok (.iload_n 1, 1) := by decide +kernel
theorem dX9_set_82 : decode cX9_set 82 = .ok (.iconst 2, 1) := by decide +kernel
theorem dX9_set_83 : decode cX9_set 83 = .ok (.iadd, 1) := by decide +kernel
theorem dX9_set_84 : decode cX9_set 84 = .ok (.iload 5, 2) := by decide +kernel
theorem dX9_set_86 : decode cX9_set 86 = .ok (.iconst 1, 1) := by decide +kernel
theorem dX9_set_87 : decode cX9_set 87 = .ok (.invokevirtual 424, 3) := by decide +kernel
theorem dX9_set_90 : decode cX9_set 90 = .ok (.return_, 1) := by decide +kernel
theorem dX9_farName_0 : decode cX9_farName 0 = .ok (.aload_n 0, 1) := by decide +kernel
theorem dX9_farName_1 : decode cX9_farName 1 = .ok (.dup, 1) := by decide +kernel
theorem dX9_farName_2 : decode cX9_farName 2 = .ok (.getfield 278, 3) := by decide +kernel
theorem dX9_farName_5 : decode cX9_farName 5 = .ok (.iconst 2, 1) := by decide +kernel
theorem dX9_farName_6 : decode cX9_farName 6 = .ok (.iadd, 1) := by decide +kernel
theorem dX9_farName_7 : decode cX9_farName 7 = .ok (.putfield 278, 3) := by decide +kernel
theorem dX9_farName_10 : decode cX9_farName 10 = .ok (.aload_n 0, 1) := by decide +kernel
theorem dX9_farName_11 : decode cX9_farName 11 = .ok (.getfield 281, 3) := by decide +kernel
theorem dX9_farName_14 : decode cX9_farName 14 = .ok (.ifCond .ne 15, 3) := by decide +kernel
