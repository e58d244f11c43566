theorem dX9_thrown_0 : decode cX9_thrown 0 = .ok (.aload_n 0, 1) := by decide +kernel
theorem dX9_thrown_1 : decode cX9_thrown 1 = .ok (.getfield 1, 3) := by decide +kernel
theorem dX9_thrown_4 : decode cX9_thrown 4 = .ok (.ireturn, 1) := by decide +kernel
theorem dX9_feed_0 : decode cX9_feed 0 = .ok (.aload_n 0, 1) := by decide +kernel
theorem dX9_feed_1 : decode cX9_feed 1 = .ok (.iconst 0, 1) := by decide +kernel
theorem dX9_feed_2 : decode cX9_feed 2 = .ok (.putfield 1, 3) := by decide +kernel
theorem dX9_feed_5 : decode cX9_feed 5 = .ok (.aload_n 0, 1) := by decide +kernel
theorem dX9_feed_6 : decode cX9_feed 6 = .ok (.lload_n 1, 1) := by decide +kernel
theorem dX9_feed_7 : decode cX9_feed 7 = .ok (.invokevirtual 7, 3) := by decide +kernel
theorem dX9_feed_10 : decode cX9_feed 10 = .ok (.aload_n 0, 1) := by decide +kernel
theorem dX9_feed_11 : decode cX9_feed 11 = .ok (.lload_n 3, 1) := by decide +kernel
theorem dX9_feed_12 : decode cX9_feed 12 = .ok (.invokevirtual 7, 3) := by decide +kernel
theorem dX9_feed_15 : decode cX9_feed 15 = .ok (.aload_n 0, 1) := by decide +kernel
theorem dX9_feed_16 : decode cX9_feed 16 = .ok (.lload 5, 2) := by decide +kernel
theorem dX9_feed_18 : decode cX9_feed 18 = .ok (.invokevirtual 7, 3) := by decide +kernel
theorem dX9_feed_21 : decode cX9_feed 21 = .ok (.aload_n 0, 1) := by decide +kernel
theorem dX9_feed_22 : decode cX9_feed 22 = .ok (.getfield 11, 3) := by decide +kernel
theorem dX9_feed_25 : decode cX9_feed 25 = .ok (.ireturn, 1) := by decide +kernel
theorem dX9_lay_0 : decode cX9_lay 0 = .ok (.bipush 56, 2) := by decide +kernel
theorem dX9_lay_2 : decode cX9_lay 2 = .ok (.istore_n 3, 1) := by decide +kernel
theorem dX9_lay_3 : decode cX9_lay 3 = .ok (.iload_n 3, 1) := by decide +kernel
theorem dX9_lay_4 : decode cX9_lay 4 = .ok (.ifCond .lt 71, 3) := by decide +kernel
theorem dX9_lay_7 : decode cX9_lay 7 = .ok (.lload_n 1, 1) := by decide +kernel
theorem dX9_lay_8 : decode cX9_lay 8 = .ok (.iload_n 3, 1) := by decide +kernel
theorem dX9_lay_9 : decode cX9_lay 9 = .ok (.lshr, 1) := by decide +kernel
theorem dX9_lay_10 : decode cX9_lay 10 = .ok (.l2i, 1) := by decide +kernel
theorem dX9_lay_11 : decode cX9_lay 11 = .ok (.sipush 255, 3) := by decide +kernel
theorem dX9_lay_14 : decode cX9_lay 14 = .ok (.iand, 1) := by decide +kernel
theorem dX9_lay_15 : decode cX9_lay 15 = .ok (.istore 4, 2) := by decide +kernel
theorem dX9_lay_17 : decode cX9_lay 17 = .ok (.iload 4, 2) := by decide +kernel
theorem dX9_lay_19 : decode cX9_lay 19 = .ok (.bipush 10, 2) := by decide +kernel
theorem dX9_lay_21 : decode cX9_lay 21 = .ok (.if_icmp .eq 17, 3) := by decide +kernel
theorem dX9_lay_24 : decode cX9_lay 24 = .ok (.iload 4, 2) := by decide +kernel
theorem dX9_lay_26 : decode cX9_lay 26 = .ok (.bipush 32, 2) := by decide +kernel
theorem dX9_lay_28 : decode cX9_lay 28 = .ok (.if_icmp .lt 41, 3) := by decide +kernel
theorem dX9_lay_31 : decode cX9_lay 31 = .ok (.iload 4, 2) := by decide +kernel
theorem dX9_lay_33 : decode cX9_lay 33 = .ok (.bipush 126, 2) := by decide +kernel
theorem dX9_lay_35 : decode cX9_lay 35 = .ok (.if_icmp .gt 34, 3) := by decide +kernel
theorem dX9_lay_38 : decode cX9_lay 38 = .ok (.aload_n 0, 1) := by decide +kernel
theorem dX9_lay_39 : decode cX9_lay 39 = .ok (.getfield 11, 3) := by decide +kernel
theorem dX9_lay_42 : decode cX9_lay 42 = .ok (.sipush 4000, 3) := by decide +kernel
theorem dX9_lay_45 : decode cX9_lay 45 = .ok (.if_icmp .ge 24, 3) := by decide +kernel
theorem dX9_lay_48 : decode cX9_lay 48 = .ok (.aload_n 0, 1) := by decide +kernel
theorem dX9_lay_49 : decode cX9_lay 49 = .ok (.getfield 14, 3) := by decide +kernel
theorem dX9_lay_52 : decode cX9_lay 52 = .ok (.aload_n 0, 1) := by decide +kernel
theorem dX9_lay_53 : decode cX9_lay 53 = .ok (.getfield 11, 3) := by decide +kernel
theorem dX9_lay_56 : decode cX9_lay 56 = .ok (.iload 4, 2) := by decide +kernel
theorem dX9_lay_58 : decode cX9_lay 58 = .ok (.iastore, 1) := by decide +kernel
theorem dX9_lay_59 : decode cX9_lay 59 = .ok (.aload_n 0, 1) := by decide +kernel
theorem dX9_lay_60 : decode cX9_lay 60 = .ok (.dup, 1) := by decide +kernel
theorem dX9_lay_61 : decode cX9_lay 61 = .ok (.getfield 11, 3) := by decide +kernel
theorem dX9_lay_64 : decode cX9_lay 64 = .ok (.iconst 1, 1) := by decide +kernel
theorem dX9_lay_65 : decode cX9_lay 65 = .ok (.iadd, 1) := by decide +kernel
theorem dX9_lay_66 : decode cX9_lay 66 = .ok (.putfield 11, 3) := by decide +kernel
theorem dX9_lay_69 : decode cX9_lay 69 = .ok (.iinc 3 (-8), 3) := by decide +kernel
theorem dX9_lay_72 : decode cX9_lay 72 = .ok (.goto (-69), 3) := by decide +kernel
theorem dX9_lay_75 : decode cX9_lay 75 = .ok (.return_, 1) := by decide +kernel
theorem dX9_init_0 : decode cX9_init 0 = .ok (.aload_n 0, 1) := by decide +kernel
theorem dX9_init_1 : decode cX9_init 1 = .ok (.invokespecial 18, 3) := by decide +kernel
theorem dX9_init_4 : decode cX9_init 4 = .ok (.aload_n 0, 1) := by decide +kernel
theorem dX9_init_5 : decode cX9_init 5 = .ok (.sipush 4000, 3) := by decide +kernel
theorem dX9_init_8 : decode cX9_init 8 = .ok (.newarray .int, 2) := by decide +kernel
theorem dX9_init_10 : decode cX9_init 10 = .ok (.putfield 14, 3) := by decide +kernel
theorem dX9_init_13 : decode cX9_init 13 = .ok (.aload_n 0, 1) := by decide +kernel
theorem dX9_init_14 : decode cX9_init 14 = .ok (.sipush 4002, 3) := by decide +kernel
theorem dX9_init_17 : decode cX9_init 17 = .ok (.newarray .int, 2) := by decide +kernel
theorem dX9_init_19 : decode cX9_init 19 = .ok (.putfield 24, 3) := by decide +kernel
theorem dX9_init_22 : decode cX9_init 22 = .ok (.aload_n 0, 1) := by decide +kernel
theorem dX9_init_23 : decode cX9_init 23 = .ok (.sipush 4002, 3) := by decide +kernel
theorem dX9_init_26 : decode cX9_init 26 = .ok (.newarray .int, 2) := by decide +kernel
theorem dX9_init_28 : decode cX9_init 28 = .ok (.putfield 27, 3) := by decide +kernel
theorem dX9_init_31 : decode cX9_init 31 = .ok (.aload_n 0, 1) := by decide +kernel
theorem dX9_init_32 : decode cX9_init 32 = .ok (.sipush 4002, 3) := by decide +kernel
theorem dX9_init_35 : decode cX9_init 35 = .ok (.newarray .long, 2) := by decide +kernel
theorem dX9_init_37 : decode cX9_init 37 = .ok (.putfield 30, 3) := by decide +kernel
theorem dX9_init_40 : decode cX9_init 40 = .ok (.aload_n 0, 1) := by decide +kernel
theorem dX9_init_41 : decode cX9_init 41 = .ok (.ldc 34, 2) := by decide +kernel
theorem dX9_init_43 : decode cX9_init 43 = .ok (.putfield 36, 3) := by decide +kernel
theorem dX9_init_46 : decode cX9_init 46 = .ok (.aload_n 0, 1) := by decide +kernel
theorem dX9_init_47 : decode cX9_init 47 = .ok (.bipush 26, 2) := by decide +kernel
theorem dX9_init_49 : decode cX9_init 49 = .ok (.newarray .long, 2) := by decide +kernel
theorem dX9_init_51 : decode cX9_init 51 = .ok (.putfield 40, 3) := by decide +kernel
theorem dX9_init_54 : decode cX9_init 54 = .ok (.aload_n 0, 1) := by decide +kernel
theorem dX9_init_55 : decode cX9_init 55 = .ok (.iconst 2, 1) := by decide +kernel
theorem dX9_init_56 : decode cX9_init 56 = .ok (.newarray .int, 2) := by decide +kernel
theorem dX9_init_58 : decode cX9_init 58 = .ok (.putfield 43, 3) := by decide +kernel
theorem dX9_init_61 : decode cX9_init 61 = .ok (.aload_n 0, 1) := by decide +kernel
theorem dX9_init_62 : decode cX9_init 62 = .ok (.bipush 48, 2) := by decide +kernel
theorem dX9_init_64 : decode cX9_init 64 = .ok (.newarray .long, 2) := by decide +kernel
theorem dX9_init_66 : decode cX9_init 66 = .ok (.putfield 46, 3) := by decide +kernel
theorem dX9_init_69 : decode cX9_init 69 = .ok (.aload_n 0, 1) := by decide +kernel
theorem dX9_init_70 : decode cX9_init 70 = .ok (.bipush 48, 2) := by decide +kernel
theorem dX9_init_72 : decode cX9_init 72 = .ok (.newarray .int, 2) := by decide +kernel
theorem dX9_init_74 : decode cX9_init 74 = .ok (.putfield 49, 3) := by decide +kernel
theorem dX9_init_77 : decode cX9_init 77 = .ok (.aload_n 0, 1) := by decide +kernel
theorem dX9_init_78 : decode cX9_init 78 = .ok (.bipush 48, 2) := by decide +kernel
theorem dX9_init_80 : decode cX9_init 80 = .ok (.newarray .int, 2) := by decide +kernel
theorem dX9_init_82 : decode cX9_init 82 = .ok (.putfield 52, 3) := by decide +kernel
theorem dX9_init_85 : decode cX9_init 85 = .ok (.aload_n 0, 1) := by decide +kernel
theorem dX9_init_86 : decode cX9_init 86 = .ok (.bipush 48, 2) := by decide +kernel
theorem dX9_init_88 : decode cX9_init 88 = .ok (.newarray .int, 2) := by decide +kernel
theorem dX9_init_90 : decode cX9_init 90 = .ok (.putfield 55, 3) := by decide +kernel
theorem dX9_init_93 : decode cX9_init 93 = .ok (.aload_n 0, 1) := by decide +kernel
theorem dX9_init_94 : decode cX9_init 94 = .ok (.iconst 2, 1) := by decide +kernel
theorem dX9_init_95 : decode cX9_init 95 = .ok (.newarray .int, 2) := by decide +kernel
theorem dX9_init_97 : decode cX9_init 97 = .ok (.putfield 58, 3) := by decide +kernel
theorem dX9_init_100 : decode cX9_init 100 = .ok (.aload_n 0, 1) := by decide +kernel
theorem dX9_init_101 : decode cX9_init 101 = .ok (.bipush 48, 2) := by decide +kernel
theorem dX9_init_103 : decode cX9_init 103 = .ok (.newarray .long, 2) := by decide +kernel
theorem dX9_init_105 : decode cX9_init 105 = .ok (.putfield 61, 3) := by decide +kernel
theorem dX9_init_108 : decode cX9_init 108 = .ok (.aload_n 0, 1) := by decide +kernel
theorem dX9_init_109 : decode cX9_init 109 = .ok (.bipush 48, 2) := by decide +kernel
theorem dX9_init_111 : decode cX9_init 111 = .ok (.newarray .boolean, 2) := by decide +kernel
theorem dX9_init_113 : decode cX9_init 113 = .ok (.putfield 64, 3) := by decide +kernel
theorem dX9_init_116 : decode cX9_init 116 = .ok (.aload_n 0, 1) := by decide +kernel
theorem dX9_init_117 : decode cX9_init 117 = .ok (.bipush 48, 2) := by decide +kernel
theorem dX9_init_119 : decode cX9_init 119 = .ok (.newarray .boolean, 2) := by decide +kernel
theorem dX9_init_121 : decode cX9_init 121 = .ok (.putfield 68, 3) := by decide +kernel
theorem dX9_init_124 : decode cX9_init 124 = .ok (.aload_n 0, 1) := by decide +kernel
theorem dX9_init_125 : decode cX9_init 125 = .ok (.bipush 48, 2) := by decide +kernel
theorem dX9_init_127 : decode cX9_init 127 = .ok (.newarray .int, 2) := by decide +kernel
theorem dX9_init_129 : decode cX9_init 129 = .ok (.putfield 71, 3) := by decide +kernel
theorem dX9_init_132 : decode cX9_init 132 = .ok (.aload_n 0, 1) := by decide +kernel
theorem dX9_init_133 : decode cX9_init 133 = .ok (.bipush 48, 2) := by decide +kernel
theorem dX9_init_135 : decode cX9_init 135 = .ok (.newarray .int, 2) := by decide +kernel
theorem dX9_init_137 : decode cX9_init 137 = .ok (.putfield 74, 3) := by decide +kernel
theorem dX9_init_140 : decode cX9_init 140 = .ok (.aload_n 0, 1) := by decide +kernel
theorem dX9_init_141 : decode cX9_init 141 = .ok (.sipush 288, 3) := by decide +kernel
theorem dX9_init_144 : decode cX9_init 144 = .ok (.newarray .int, 2) := by decide +kernel
theorem dX9_init_146 : decode cX9_init 146 = .ok (.putfield 77, 3) := by decide +kernel
theorem dX9_init_149 : decode cX9_init 149 = .ok (.aload_n 0, 1) := by decide +kernel
theorem dX9_init_150 : decode cX9_init 150 = .ok (.bipush 48, 2) := by decide +kernel
theorem dX9_init_152 : decode cX9_init 152 = .ok (.newarray .int, 2) := by decide +kernel
theorem dX9_init_154 : decode cX9_init 154 = .ok (.putfield 80, 3) := by decide +kernel
theorem dX9_init_157 : decode cX9_init 157 = .ok (.aload_n 0, 1) := by decide +kernel
theorem dX9_init_158 : decode cX9_init 158 = .ok (.sipush 384, 3) := by decide +kernel
theorem dX9_init_161 : decode cX9_init 161 = .ok (.newarray .long, 2) := by decide +kernel
theorem dX9_init_163 : decode cX9_init 163 = .ok (.putfield 83, 3) := by decide +kernel
theorem dX9_init_166 : decode cX9_init 166 = .ok (.aload_n 0, 1) := by decide +kernel
theorem dX9_init_167 : decode cX9_init 167 = .ok (.sipush 384, 3) := by decide +kernel
theorem dX9_init_170 : decode cX9_init 170 = .ok (.newarray .boolean, 2) := by decide +kernel
theorem dX9_init_172 : decode cX9_init 172 = .ok (.putfield 86, 3) := by decide +kernel
theorem dX9_init_175 : decode cX9_init 175 = .ok (.aload_n 0, 1) := by decide +kernel
theorem dX9_init_176 : decode cX9_init 176 = .ok (.sipush 384, 3) := by decide +kernel
theorem dX9_init_179 : decode cX9_init 179 = .ok (.newarray .int, 2) := by decide +kernel
theorem dX9_init_181 : decode cX9_init 181 = .ok (.putfield 89, 3) := by decide +kernel
theorem dX9_init_184 : decode cX9_init 184 = .ok (.aload_n 0, 1) := by decide +kernel
theorem dX9_init_185 : decode cX9_init 185 = .ok (.sipush 384, 3) := by decide +kernel
theorem dX9_init_188 : decode cX9_init 188 = .ok (.newarray .int, 2) := by decide +kernel
theorem dX9_init_190 : decode cX9_init 190 = .ok (.putfield 92, 3) := by decide +kernel
theorem dX9_init_193 : decode cX9_init 193 = .ok (.aload_n 0, 1) := by decide +kernel
theorem dX9_init_194 : decode cX9_init 194 = .ok (.bipush 48, 2) := by decide +kernel
theorem dX9_init_196 : decode cX9_init 196 = .ok (.newarray .int, 2) := by decide +kernel
theorem dX9_init_198 : decode cX9_init 198 = .ok (.putfield 95, 3) := by decide +kernel
theorem dX9_init_201 : decode cX9_init 201 = .ok (.aload_n 0, 1) := by decide +kernel
theorem dX9_init_202 : decode cX9_init 202 = .ok (.bipush 48, 2) := by decide +kernel
theorem dX9_init_204 : decode cX9_init 204 = .ok (.newarray .int, 2) := by decide +kernel
theorem dX9_init_206 : decode cX9_init 206 = .ok (.putfield 98, 3) := by decide +kernel
theorem dX9_init_209 : decode cX9_init 209 = .ok (.aload_n 0, 1) := by decide +kernel
theorem dX9_init_210 : decode cX9_init 210 = .ok (.bipush 48, 2) := by decide +kernel
theorem dX9_init_212 : decode cX9_init 212 = .ok (.newarray .int, 2) := by decide +kernel
theorem dX9_init_214 : decode cX9_init 214 = .ok (.putfield 101, 3) := by decide +kernel
theorem dX9_init_217 : decode cX9_init 217 = .ok (.aload_n 0, 1) := by decide +kernel
theorem dX9_init_218 : decode cX9_init 218 = .ok (.bipush 48, 2) := by decide +kernel
theorem dX9_init_220 : decode cX9_init 220 = .ok (.newarray .int, 2) := by decide +kernel
theorem dX9_init_222 : decode cX9_init 222 = .ok (.putfield 104, 3) := by decide +kernel
theorem dX9_init_225 : decode cX9_init 225 = .ok (.aload_n 0, 1) := by decide +kernel
theorem dX9_init_226 : decode cX9_init 226 = .ok (.sipush 1152, 3) := by decide +kernel
theorem dX9_init_229 : decode cX9_init 229 = .ok (.newarray .boolean, 2) := by decide +kernel
theorem dX9_init_231 : decode cX9_init 231 = .ok (.putfield 107, 3) := by decide +kernel
theorem dX9_init_234 : decode cX9_init 234 = .ok (.aload_n 0, 1) := by decide +kernel
theorem dX9_init_235 : decode cX9_init 235 = .ok (.iconst 2, 1) := by decide +kernel
theorem dX9_init_236 : decode cX9_init 236 = .ok (.newarray .int, 2) := by decide +kernel
theorem dX9_init_238 : decode cX9_init 238 = .ok (.putfield 110, 3) := by decide +kernel
theorem dX9_init_241 : decode cX9_init 241 = .ok (.aload_n 0, 1) := by decide +kernel
theorem dX9_init_242 : decode cX9_init 242 = .ok (.bipush 40, 2) := by decide +kernel
theorem dX9_init_244 : decode cX9_init 244 = .ok (.newarray .long, 2) := by decide +kernel
theorem dX9_init_246 : decode cX9_init 246 = .ok (.putfield 113, 3) := by decide +kernel
theorem dX9_init_249 : decode cX9_init 249 = .ok (.aload_n 0, 1) := by decide +kernel
theorem dX9_init_250 : decode cX9_init 250 = .ok (.bipush 40, 2) := by decide +kernel
theorem dX9_init_252 : decode cX9_init 252 = .ok (.newarray .int, 2) := by decide +kernel
theorem dX9_init_254 : decode cX9_init 254 = .ok (.putfield 116, 3) := by decide +kernel
theorem dX9_init_257 : decode cX9_init 257 = .ok (.aload_n 0, 1) := by decide +kernel
theorem dX9_init_258 : decode cX9_init 258 = .ok (.sipush 20000, 3) := by decide +kernel
theorem dX9_init_261 : decode cX9_init 261 = .ok (.newarray .int, 2) := by decide +kernel
theorem dX9_init_263 : decode cX9_init 263 = .ok (.putfield 119, 3) := by decide +kernel
theorem dX9_init_266 : decode cX9_init 266 = .ok (.aload_n 0, 1) := by decide +kernel
theorem dX9_init_267 : decode cX9_init 267 = .ok (.sipush 20000, 3) := by decide +kernel
theorem dX9_init_270 : decode cX9_init 270 = .ok (.newarray .int, 2) := by decide +kernel
theorem dX9_init_272 : decode cX9_init 272 = .ok (.putfield 122, 3) := by decide +kernel
theorem dX9_init_275 : decode cX9_init 275 = .ok (.aload_n 0, 1) := by decide +kernel
theorem dX9_init_276 : decode cX9_init 276 = .ok (.sipush 20000, 3) := by decide +kernel
theorem dX9_init_279 : decode cX9_init 279 = .ok (.newarray .int, 2) := by decide +kernel
theorem dX9_init_281 : decode cX9_init 281 = .ok (.putfield 125, 3) := by decide +kernel
theorem dX9_init_284 : decode cX9_init 284 = .ok (.aload_n 0, 1) := by decide +kernel
theorem dX9_init_285 : decode cX9_init 285 = .ok (.sipush 2000, 3) := by decide +kernel
theorem dX9_init_288 : decode cX9_init 288 = .ok (.newarray .int, 2) := by decide +kernel
theorem dX9_init_290 : decode cX9_init 290 = .ok (.putfield 128, 3) := by decide +kernel
theorem dX9_init_293 : decode cX9_init 293 = .ok (.aload_n 0, 1) := by decide +kernel
theorem dX9_init_294 : decode cX9_init 294 = .ok (.sipush 2000, 3) := by decide +kernel
theorem dX9_init_297 : decode cX9_init 297 = .ok (.newarray .int, 2) := by decide +kernel
theorem dX9_init_299 : decode cX9_init 299 = .ok (.putfield 131, 3) := by decide +kernel
theorem dX9_init_302 : decode cX9_init 302 = .ok (.aload_n 0, 1) := by decide +kernel
theorem dX9_init_303 : decode cX9_init 303 = .ok (.sipush 2000, 3) := by decide +kernel
theorem dX9_init_306 : decode cX9_init 306 = .ok (.newarray .int, 2) := by decide +kernel
theorem dX9_init_308 : decode cX9_init 308 = .ok (.putfield 134, 3) := by decide +kernel
theorem dX9_init_311 : decode cX9_init 311 = .ok (.aload_n 0, 1) := by decide +kernel
theorem dX9_init_312 : decode cX9_init 312 = .ok (.sipush 2000, 3) := by decide +kernel
theorem dX9_init_315 : decode cX9_init 315 = .ok (.newarray .boolean, 2) := by decide +kernel
theorem dX9_init_317 : decode cX9_init 317 = .ok (.putfield 137, 3) := by decide +kernel
theorem dX9_init_320 : decode cX9_init 320 = .ok (.aload_n 0, 1) := by decide +kernel
theorem dX9_init_321 : decode cX9_init 321 = .ok (.sipush 2000, 3) := by decide +kernel
theorem dX9_init_324 : decode cX9_init 324 = .ok (.newarray .int, 2) := by decide +kernel
theorem dX9_init_326 : decode cX9_init 326 = .ok (.putfield 140, 3) := by decide +kernel
theorem dX9_init_329 : decode cX9_init 329 = .ok (.aload_n 0, 1) := by decide +kernel
theorem dX9_init_330 : decode cX9_init 330 = .ok (.bipush 24, 2) := by decide +kernel
theorem dX9_init_332 : decode cX9_init 332 = .ok (.newarray .boolean, 2) := by decide +kernel
theorem dX9_init_334 : decode cX9_init 334 = .ok (.putfield 143, 3) := by decide +kernel
theorem dX9_init_337 : decode cX9_init 337 = .ok (.aload_n 0, 1) := by decide +kernel
theorem dX9_init_338 : decode cX9_init 338 = .ok (.bipush 24, 2) := by decide +kernel
theorem dX9_init_340 : decode cX9_init 340 = .ok (.newarray .int, 2) := by decide +kernel
theorem dX9_init_342 : decode cX9_init 342 = .ok (.putfield 146, 3) := by decide +kernel
theorem dX9_init_345 : decode cX9_init 345 = .ok (.aload_n 0, 1) := by decide +kernel
theorem dX9_init_346 : decode cX9_init 346 = .ok (.bipush 24, 2) := by decide +kernel
theorem dX9_init_348 : decode cX9_init 348 = .ok (.newarray .int, 2) := by decide +kernel
theorem dX9_init_350 : decode cX9_init 350 = .ok (.putfield 149, 3) := by decide +kernel
theorem dX9_init_353 : decode cX9_init 353 = .ok (.aload_n 0, 1) := by decide +kernel
theorem dX9_init_354 : decode cX9_init 354 = .ok (.sipush 192, 3) := by decide +kernel
theorem dX9_init_357 : decode cX9_init 357 = .ok (.newarray .int, 2) := by decide +kernel
theorem dX9_init_359 : decode cX9_init 359 = .ok (.putfield 152, 3) := by decide +kernel
theorem dX9_init_362 : decode cX9_init 362 = .ok (.aload_n 0, 1) := by decide +kernel
theorem dX9_init_363 : decode cX9_init 363 = .ok (.bipush 24, 2) := by decide +kernel
theorem dX9_init_365 : decode cX9_init 365 = .ok (.newarray .int, 2) := by decide +kernel
theorem dX9_init_367 : decode cX9_init 367 = .ok (.putfield 155, 3) := by decide +kernel
theorem dX9_init_370 : decode cX9_init 370 = .ok (.aload_n 0, 1) := by decide +kernel
theorem dX9_init_371 : decode cX9_init 371 = .ok (.bipush 24, 2) := by decide +kernel
theorem dX9_init_373 : decode cX9_init 373 = .ok (.newarray .int, 2) := by decide +kernel
theorem dX9_init_375 : decode cX9_init 375 = .ok (.putfield 158, 3) := by decide +kernel
theorem dX9_init_378 : decode cX9_init 378 = .ok (.aload_n 0, 1) := by decide +kernel
theorem dX9_init_379 : decode cX9_init 379 = .ok (.sipush 576, 3) := by decide +kernel
theorem dX9_init_382 : decode cX9_init 382 = .ok (.newarray .int, 2) := by decide +kernel
theorem dX9_init_384 : decode cX9_init 384 = .ok (.putfield 161, 3) := by decide +kernel
theorem dX9_init_387 : decode cX9_init 387 = .ok (.aload_n 0, 1) := by decide +kernel
theorem dX9_init_388 : decode cX9_init 388 = .ok (.bipush 24, 2) := by decide +kernel
theorem dX9_init_390 : decode cX9_init 390 = .ok (.newarray .int, 2) := by decide +kernel
theorem dX9_init_392 : decode cX9_init 392 = .ok (.putfield 164, 3) := by decide +kernel
theorem dX9_init_395 : decode cX9_init 395 = .ok (.aload_n 0, 1) := by decide +kernel
theorem dX9_init_396 : decode cX9_init 396 = .ok (.bipush 24, 2) := by decide +kernel
theorem dX9_init_398 : decode cX9_init 398 = .ok (.newarray .int, 2) := by decide +kernel
theorem dX9_init_400 : decode cX9_init 400 = .ok (.putfield 167, 3) := by decide +kernel
theorem dX9_init_403 : decode cX9_init 403 = .ok (.aload_n 0, 1) := by decide +kernel
theorem dX9_init_404 : decode cX9_init 404 = .ok (.bipush 24, 2) := by decide +kernel
theorem dX9_init_406 : decode cX9_init 406 = .ok (.newarray .int, 2) := by decide +kernel
theorem dX9_init_408 : decode cX9_init 408 = .ok (.putfield 170, 3) := by decide +kernel
theorem dX9_init_411 : decode cX9_init 411 = .ok (.aload_n 0, 1) := by decide +kernel
theorem dX9_init_412 : decode cX9_init 412 = .ok (.bipush 40, 2) := by decide +kernel
theorem dX9_init_414 : decode cX9_init 414 = .ok (.newarray .int, 2) := by decide +kernel
theorem dX9_init_416 : decode cX9_init 416 = .ok (.putfield 173, 3) := by decide +kernel
theorem dX9_init_419 : decode cX9_init 419 = .ok (.aload_n 0, 1) := by decide +kernel
theorem dX9_init_420 : decode cX9_init 420 = .ok (.bipush 40, 2) := by decide +kernel
theorem dX9_init_422 : decode cX9_init 422 = .ok (.newarray .int, 2) := by decide +kernel
theorem dX9_init_424 : decode cX9_init 424 = .ok (.putfield 176, 3) := by decide +kernel
theorem dX9_init_427 : decode cX9_init 427 = .ok (.aload_n 0, 1) := by decide +kernel
theorem dX9_init_428 : decode cX9_init 428 = .ok (.sipush 800, 3) := by decide +kernel
theorem dX9_init_431 : decode cX9_init 431 = .ok (.newarray .int, 2) := by decide +kernel
theorem dX9_init_433 : decode cX9_init 433 = .ok (.putfield 179, 3) := by decide +kernel
theorem dX9_init_436 : decode cX9_init 436 = .ok (.aload_n 0, 1) := by decide +kernel
theorem dX9_init_437 : decode cX9_init 437 = .ok (.sipush 800, 3) := by decide +kernel
theorem dX9_init_440 : decode cX9_init 440 = .ok (.newarray .int, 2) := by decide +kernel
theorem dX9_init_442 : decode cX9_init 442 = .ok (.putfield 182, 3) := by decide +kernel
theorem dX9_init_445 : decode cX9_init 445 = .ok (.aload_n 0, 1) := by decide +kernel
theorem dX9_init_446 : decode cX9_init 446 = .ok (.sipush 800, 3) := by decide +kernel
theorem dX9_init_449 : decode cX9_init 449 = .ok (.newarray .int, 2) := by decide +kernel
theorem dX9_init_451 : decode cX9_init 451 = .ok (.putfield 185, 3) := by decide +kernel
theorem dX9_init_454 : decode cX9_init 454 = .ok (.aload_n 0, 1) := by decide +kernel
theorem dX9_init_455 : decode cX9_init 455 = .ok (.sipush 200, 3) := by decide +kernel
theorem dX9_init_458 : decode cX9_init 458 = .ok (.newarray .int, 2) := by decide +kernel
theorem dX9_init_460 : decode cX9_init 460 = .ok (.putfield 188, 3) := by decide +kernel
theorem dX9_init_463 : decode cX9_init 463 = .ok (.aload_n 0, 1) := by decide +kernel
theorem dX9_init_464 : decode cX9_init 464 = .ok (.sipush 200, 3) := by decide +kernel
theorem dX9_init_467 : decode cX9_init 467 = .ok (.newarray .int, 2) := by decide +kernel
theorem dX9_init_469 : decode cX9_init 469 = .ok (.putfield 191, 3) := by decide +kernel
theorem dX9_init_472 : decode cX9_init 472 = .ok (.aload_n 0, 1) := by decide +kernel
theorem dX9_init_473 : decode cX9_init 473 = .ok (.sipush 200, 3) := by decide +kernel
theorem dX9_init_476 : decode cX9_init 476 = .ok (.newarray .int, 2) := by decide +kernel
theorem dX9_init_478 : decode cX9_init 478 = .ok (.putfield 194, 3) := by decide +kernel
theorem dX9_init_481 : decode cX9_init 481 = .ok (.aload_n 0, 1) := by decide +kernel
theorem dX9_init_482 : decode cX9_init 482 = .ok (.sipush 200, 3) := by decide +kernel
theorem dX9_init_485 : decode cX9_init 485 = .ok (.newarray .int, 2) := by decide +kernel
theorem dX9_init_487 : decode cX9_init 487 = .ok (.putfield 197, 3) := by decide +kernel
theorem dX9_init_490 : decode cX9_init 490 = .ok (.aload_n 0, 1) := by decide +kernel
theorem dX9_init_491 : decode cX9_init 491 = .ok (.sipush 200, 3) := by decide +kernel
theorem dX9_init_494 : decode cX9_init 494 = .ok (.newarray .int, 2) := by decide +kernel
theorem dX9_init_496 : decode cX9_init 496 = .ok (.putfield 200, 3) := by decide +kernel
theorem dX9_init_499 : decode cX9_init 499 = .ok (.aload_n 0, 1) := by decide +kernel
theorem dX9_init_500 : decode cX9_init 500 = .ok (.sipush 200, 3) := by decide +kernel
theorem dX9_init_503 : decode cX9_init 503 = .ok (.newarray .int, 2) := by decide +kernel
theorem dX9_init_505 : decode cX9_init 505 = .ok (.putfield 203, 3) := by decide +kernel
theorem dX9_init_508 : decode cX9_init 508 = .ok (.aload_n 0, 1) := by decide +kernel
theorem dX9_init_509 : decode cX9_init 509 = .ok (.sipush 200, 3) := by decide +kernel
theorem dX9_init_512 : decode cX9_init 512 = .ok (.newarray .boolean, 2) := by decide +kernel
theorem dX9_init_514 : decode cX9_init 514 = .ok (.putfield 206, 3) := by decide +kernel
theorem dX9_init_517 : decode cX9_init 517 = .ok (.aload_n 0, 1) := by decide +kernel
theorem dX9_init_518 : decode cX9_init 518 = .ok (.bipush 24, 2) := by decide +kernel
theorem dX9_init_520 : decode cX9_init 520 = .ok (.newarray .int, 2) := by decide +kernel
theorem dX9_init_522 : decode cX9_init 522 = .ok (.putfield 209, 3) := by decide +kernel
theorem dX9_init_525 : decode cX9_init 525 = .ok (.aload_n 0, 1) := by decide +kernel
theorem dX9_init_526 : decode cX9_init 526 = .ok (.bipush 24, 2) := by decide +kernel
theorem dX9_init_528 : decode cX9_init 528 = .ok (.newarray .int, 2) := by decide +kernel
theorem dX9_init_530 : decode cX9_init 530 = .ok (.putfield 212, 3) := by decide +kernel
theorem dX9_init_533 : decode cX9_init 533 = .ok (.aload_n 0, 1) := by decide +kernel
theorem dX9_init_534 : decode cX9_init 534 = .ok (.sipush 576, 3) := by decide +kernel
theorem dX9_init_537 : decode cX9_init 537 = .ok (.newarray .boolean, 2) := by decide +kernel
theorem dX9_init_539 : decode cX9_init 539 = .ok (.putfield 215, 3) := by decide +kernel
theorem dX9_init_542 : decode cX9_init 542 = .ok (.aload_n 0, 1) := by decide +kernel
theorem dX9_init_543 : decode cX9_init 543 = .ok (.sipush 4000, 3) := by decide +kernel
theorem dX9_init_546 : decode cX9_init 546 = .ok (.newarray .int, 2) := by decide +kernel
theorem dX9_init_548 : decode cX9_init 548 = .ok (.putfield 218, 3) := by decide +kernel
theorem dX9_init_551 : decode cX9_init 551 = .ok (.aload_n 0, 1) := by decide +kernel
theorem dX9_init_552 : decode cX9_init 552 = .ok (.sipush 600, 3) := by decide +kernel
theorem dX9_init_555 : decode cX9_init 555 = .ok (.newarray .int, 2) := by decide +kernel
theorem dX9_init_557 : decode cX9_init 557 = .ok (.putfield 221, 3) := by decide +kernel
theorem dX9_init_560 : decode cX9_init 560 = .ok (.aload_n 0, 1) := by decide +kernel
theorem dX9_init_561 : decode cX9_init 561 = .ok (.bipush 24, 2) := by decide +kernel
theorem dX9_init_563 : decode cX9_init 563 = .ok (.newarray .int, 2) := by decide +kernel
theorem dX9_init_565 : decode cX9_init 565 = .ok (.putfield 224, 3) := by decide +kernel
theorem dX9_init_568 : decode cX9_init 568 = .ok (.aload_n 0, 1) := by decide +kernel
theorem dX9_init_569 : decode cX9_init 569 = .ok (.bipush 24, 2) := by decide +kernel
theorem dX9_init_571 : decode cX9_init 571 = .ok (.newarray .int, 2) := by decide +kernel
theorem dX9_init_573 : decode cX9_init 573 = .ok (.putfield 227, 3) := by decide +kernel
theorem dX9_init_576 : decode cX9_init 576 = .ok (.aload_n 0, 1) := by decide +kernel
theorem dX9_init_577 : decode cX9_init 577 = .ok (.sipush 192, 3) := by decide +kernel
theorem dX9_init_580 : decode cX9_init 580 = .ok (.newarray .int, 2) := by decide +kernel
theorem dX9_init_582 : decode cX9_init 582 = .ok (.putfield 230, 3) := by decide +kernel
theorem dX9_init_585 : decode cX9_init 585 = .ok (.aload_n 0, 1) := by decide +kernel
theorem dX9_init_586 : decode cX9_init 586 = .ok (.bipush 24, 2) := by decide +kernel
theorem dX9_init_588 : decode cX9_init 588 = .ok (.newarray .int, 2) := by decide +kernel
theorem dX9_init_590 : decode cX9_init 590 = .ok (.putfield 233, 3) := by decide +kernel
theorem dX9_init_593 : decode cX9_init 593 = .ok (.aload_n 0, 1) := by decide +kernel
theorem dX9_init_594 : decode cX9_init 594 = .ok (.bipush 24, 2) := by decide +kernel
theorem dX9_init_596 : decode cX9_init 596 = .ok (.newarray .int, 2) := by decide +kernel
theorem dX9_init_598 : decode cX9_init 598 = .ok (.putfield 236, 3) := by decide +kernel
theorem dX9_init_601 : decode cX9_init 601 = .ok (.aload_n 0, 1) := by decide +kernel
theorem dX9_init_602 : decode cX9_init 602 = .ok (.bipush 24, 2) := by decide +kernel
theorem dX9_init_604 : decode cX9_init 604 = .ok (.newarray .int, 2) := by decide +kernel
theorem dX9_init_606 : decode cX9_init 606 = .ok (.putfield 239, 3) := by decide +kernel
theorem dX9_init_609 : decode cX9_init 609 = .ok (.aload_n 0, 1) := by decide +kernel
theorem dX9_init_610 : decode cX9_init 610 = .ok (.bipush 24, 2) := by decide +kernel
theorem dX9_init_612 : decode cX9_init 612 = .ok (.newarray .int, 2) := by decide +kernel
theorem dX9_init_614 : decode cX9_init 614 = .ok (.putfield 242, 3) := by decide +kernel
theorem dX9_init_617 : decode cX9_init 617 = .ok (.iconst 0, 1) := by decide +kernel
theorem dX9_init_618 : decode cX9_init 618 = .ok (.istore_n 1, 1) := by decide +kernel
theorem dX9_init_619 : decode cX9_init 619 = .ok (.lconst 0, 1) := by decide +kernel
theorem dX9_init_620 : decode cX9_init 620 = .ok (.lstore_n 2, 1) := by decide +kernel
theorem dX9_init_621 : decode cX9_init 621 = .ok (.iconst 0, 1) := by decide +kernel
theorem dX9_init_622 : decode cX9_init 622 = .ok (.istore 4, 2) := by decide +kernel
theorem dX9_init_624 : decode cX9_init 624 = .ok (.iload 4, 2) := by decide +kernel
theorem dX9_init_626 : decode cX9_init 626 = .ok (.ldc 34, 2) := by decide +kernel
theorem dX9_init_628 : decode cX9_init 628 = .ok (.invokevirtual 245, 3) := by decide +kernel
theorem dX9_init_631 : decode cX9_init 631 = .ok (.if_icmp .ge 53, 3) := by decide +kernel
theorem dX9_init_634 : decode cX9_init 634 = .ok (.ldc 34, 2) := by decide +kernel
theorem dX9_init_636 : decode cX9_init 636 = .ok (.iload 4, 2) := by decide +kernel
theorem dX9_init_638 : decode cX9_init 638 = .ok (.invokevirtual 251, 3) := by decide +kernel
theorem dX9_init_641 : decode cX9_init 641 = .ok (.istore 5, 2) := by decide +kernel
theorem dX9_init_643 : decode cX9_init 643 = .ok (.iload 5, 2) := by decide +kernel
theorem dX9_init_645 : decode cX9_init 645 = .ok (.bipush 32, 2) := by decide +kernel
theorem dX9_init_647 : decode cX9_init 647 = .ok (.if_icmp .ne 18, 3) := by decide +kernel
theorem dX9_init_650 : decode cX9_init 650 = .ok (.aload_n 0, 1) := by decide +kernel
theorem dX9_init_651 : decode cX9_init 651 = .ok (.getfield 40, 3) := by decide +kernel
theorem dX9_init_654 : decode cX9_init 654 = .ok (.iload_n 1, 1) := by decide +kernel
theorem dX9_init_655 : decode cX9_init 655 = .ok (.lload_n 2, 1) := by decide +kernel
theorem dX9_init_656 : decode cX9_init 656 = .ok (.lastore, 1) := by decide +kernel
theorem dX9_init_657 : decode cX9_init 657 = .ok (.iinc 1 1, 3) := by decide +kernel
theorem dX9_init_660 : decode cX9_init 660 = .ok (.lconst 0, 1) := by decide +kernel
theorem dX9_init_661 : decode cX9_init 661 = .ok (.lstore_n 2, 1) := by decide +kernel
theorem dX9_init_662 : decode cX9_init 662 = .ok (.goto 16, 3) := by decide +kernel
theorem dX9_init_665 : decode cX9_init 665 = .ok (.ldc2_w 255, 3) := by decide +kernel
theorem dX9_init_668 : decode cX9_init 668 = .ok (.lload_n 2, 1) := by decide +kernel
theorem dX9_init_669 : decode cX9_init 669 = .ok (.lmul, 1) := by decide +kernel
theorem dX9_init_670 : decode cX9_init 670 = .ok (.iload 5, 2) := by decide +kernel
theorem dX9_init_672 : decode cX9_init 672 = .ok (.invokestatic 257, 3) := by decide +kernel
theorem dX9_init_675 : decode cX9_init 675 = .ok (.i2l, 1) := by decide +kernel
theorem dX9_init_676 : decode cX9_init 676 = .ok (.ladd, 1) := by decide +kernel
theorem dX9_init_677 : decode cX9_init 677 = .ok (.lstore_n 2, 1) := by decide +kernel
theorem dX9_init_678 : decode cX9_init 678 = .ok (.iinc 4 1, 3) := by decide +kernel
theorem dX9_init_681 : decode cX9_init 681 = .ok (.goto (-57), 3) := by decide +kernel
theorem dX9_init_684 : decode cX9_init 684 = .ok (.return_, 1) := by decide +kernel
theorem dX9_isLetter_0 : decode cX9_isLetter 0 = .ok (.iload_n 0, 1) := by decide +kernel
theorem dX9_isLetter_1 : decode cX9_isLetter 1 = .ok (.bipush 97, 2) := by decide +kernel
theorem dX9_isLetter_3 : decode cX9_isLetter 3 = .ok (.if_icmp .lt 13, 3) := by decide +kernel
theorem dX9_isLetter_6 : decode cX9_isLetter 6 = .ok (.iload_n 0, 1) := by decide +kernel
theorem dX9_isLetter_7 : decode cX9_isLetter 7 = .ok (.bipush 122, 2) := by decide +kernel
theorem dX9_isLetter_9 : decode cX9_isLetter 9 = .ok (.if_icmp .gt 7, 3) := by decide +kernel
theorem dX9_isLetter_12 : decode cX9_isLetter 12 = .ok (.iconst 1, 1) := by decide +kernel
theorem dX9_isLetter_13 : decode cX9_isLetter 13 = .ok (.goto 4, 3) := by decide +kernel
theorem dX9_isLetter_16 : decode cX9_isLetter 16 = .ok (.iconst 0, 1) := by decide +kernel
theorem dX9_isLetter_17 : decode cX9_isLetter 17 = .ok (.ireturn, 1) := by decide +kernel
theorem dX9_isDigit_0 : decode cX9_isDigit 0 = .ok (.iload_n 0, 1) := by decide +kernel
theorem dX9_isDigit_1 : decode cX9_isDigit 1 = .ok (.bipush 48, 2) := by decide +kernel
theorem dX9_isDigit_3 : decode cX9_isDigit 3 = .ok (.if_icmp .lt 13, 3) := by decide +kernel
theorem dX9_isDigit_6 : decode cX9_isDigit 6 = .ok (.iload_n 0, 1) := by decide +kernel
theorem dX9_isDigit_7 : decode cX9_isDigit 7 = .ok (.bipush 57, 2) := by decide +kernel
theorem dX9_isDigit_9 : decode cX9_isDigit 9 = .ok (.if_icmp .gt 7, 3) := by decide +kernel
theorem dX9_isDigit_12 : decode cX9_isDigit 12 = .ok (.iconst 1, 1) := by decide +kernel
theorem dX9_isDigit_13 : decode cX9_isDigit 13 = .ok (.goto 4, 3) := by decide +kernel
theorem dX9_isDigit_16 : decode cX9_isDigit 16 = .ok (.iconst 0, 1) := by decide +kernel
theorem dX9_isDigit_17 : decode cX9_isDigit 17 = .ok (.ireturn, 1) := by decide +kernel
theorem dX9_rank_0 : decode cX9_rank 0 = .ok (.iload_n 0, 1) := by decide +kernel
theorem dX9_rank_1 : decode cX9_rank 1 = .ok (.invokestatic 261, 3) := by decide +kernel
theorem dX9_rank_4 : decode cX9_rank 4 = .ok (.ifCond .eq 10, 3) := by decide +kernel
theorem dX9_rank_7 : decode cX9_rank 7 = .ok (.iload_n 0, 1) := by decide +kernel
theorem dX9_rank_8 : decode cX9_rank 8 = .ok (.bipush 96, 2) := by decide +kernel
theorem dX9_rank_10 : decode cX9_rank 10 = .ok (.isub, 1) := by decide +kernel
theorem dX9_rank_11 : decode cX9_rank 11 = .ok (.goto 7, 3) := by decide +kernel
theorem dX9_rank_14 : decode cX9_rank 14 = .ok (.iload_n 0, 1) := by decide +kernel
theorem dX9_rank_15 : decode cX9_rank 15 = .ok (.bipush 21, 2) := by decide +kernel
theorem dX9_rank_17 : decode cX9_rank 17 = .ok (.isub, 1) := by decide +kernel
theorem dX9_rank_18 : decode cX9_rank 18 = .ok (.ireturn, 1) := by decide +kernel
theorem dX9_isSignOf_0 : decode cX9_isSignOf 0 = .ok (.iload_n 0, 1) := by decide +kernel
theorem dX9_isSignOf_1 : decode cX9_isSignOf 1 = .ok (.bipush 123, 2) := by decide +kernel
theorem dX9_isSignOf_3 : decode cX9_isSignOf 3 = .ok (.if_icmp .eq 81, 3) := by decide +kernel
theorem dX9_isSignOf_6 : decode cX9_isSignOf 6 = .ok (.iload_n 0, 1) := by decide +kernel
theorem dX9_isSignOf_7 : decode cX9_isSignOf 7 = .ok (.bipush 125, 2) := by decide +kernel
theorem dX9_isSignOf_9 : decode cX9_isSignOf 9 = .ok (.if_icmp .eq 75, 3) := by decide +kernel
theorem dX9_isSignOf_12 : decode cX9_isSignOf 12 = .ok (.iload_n 0, 1) := by decide +kernel
theorem dX9_isSignOf_13 : decode cX9_isSignOf 13 = .ok (.bipush 40, 2) := by decide +kernel
theorem dX9_isSignOf_15 : decode cX9_isSignOf 15 = .ok (.if_icmp .eq 69, 3) := by decide +kernel
theorem dX9_isSignOf_18 : decode cX9_isSignOf 18 = .ok (.iload_n 0, 1) := by decide +kernel
theorem dX9_isSignOf_19 : decode cX9_isSignOf 19 = .ok (.bipush 41, 2) := by decide +kernel
theorem dX9_isSignOf_21 : decode cX9_isSignOf 21 = .ok (.if_icmp .eq 63, 3) := by decide +kernel
theorem dX9_isSignOf_24 : decode cX9_isSignOf 24 = .ok (.iload_n 0, 1) := by decide +kernel
theorem dX9_isSignOf_25 : decode cX9_isSignOf 25 = .ok (.bipush 44, 2) := by decide +kernel
theorem dX9_isSignOf_27 : decode cX9_isSignOf 27 = .ok (.if_icmp .eq 57, 3) := by decide +kernel
theorem dX9_isSignOf_30 : decode cX9_isSignOf 30 = .ok (.iload_n 0, 1) := by decide +kernel
theorem dX9_isSignOf_31 : decode cX9_isSignOf 31 = .ok (.bipush 59, 2) := by decide +kernel
theorem dX9_isSignOf_33 : decode cX9_isSignOf 33 = .ok (.if_icmp .eq 51, 3) := by decide +kernel
theorem dX9_isSignOf_36 : decode cX9_isSignOf 36 = .ok (.iload_n 0, 1) := by decide +kernel
theorem dX9_isSignOf_37 : decode cX9_isSignOf 37 = .ok (.bipush 61, 2) := by decide +kernel
theorem dX9_isSignOf_39 : decode cX9_isSignOf 39 = .ok (.if_icmp .eq 45, 3) := by decide +kernel
theorem dX9_isSignOf_42 : decode cX9_isSignOf 42 = .ok (.iload_n 0, 1) := by decide +kernel
theorem dX9_isSignOf_43 : decode cX9_isSignOf 43 = .ok (.bipush 60, 2) := by decide +kernel
theorem dX9_isSignOf_45 : decode cX9_isSignOf 45 = .ok (.if_icmp .eq 39, 3) := by decide +kernel
theorem dX9_isSignOf_48 : decode cX9_isSignOf 48 = .ok (.iload_n 0, 1) := by decide +kernel
theorem dX9_isSignOf_49 : decode cX9_isSignOf 49 = .ok (.bipush 43, 2) := by decide +kernel
theorem dX9_isSignOf_51 : decode cX9_isSignOf 51 = .ok (.if_icmp .eq 33, 3) := by decide +kernel
theorem dX9_isSignOf_54 : decode cX9_isSignOf 54 = .ok (.iload_n 0, 1) := by decide +kernel
theorem dX9_isSignOf_55 : decode cX9_isSignOf 55 = .ok (.bipush 45, 2) := by decide +kernel
theorem dX9_isSignOf_57 : decode cX9_isSignOf 57 = .ok (.if_icmp .eq 27, 3) := by decide +kernel
theorem dX9_isSignOf_60 : decode cX9_isSignOf 60 = .ok (.iload_n 0, 1) := by decide +kernel
theorem dX9_isSignOf_61 : decode cX9_isSignOf 61 = .ok (.bipush 42, 2) := by decide +kernel
theorem dX9_isSignOf_63 : decode cX9_isSignOf 63 = .ok (.if_icmp .eq 21, 3) := by decide +kernel
theorem dX9_isSignOf_66 : decode cX9_isSignOf 66 = .ok (.iload_n 0, 1) := by decide +kernel
theorem dX9_isSignOf_67 : decode cX9_isSignOf 67 = .ok (.bipush 47, 2) := by decide +kernel
theorem dX9_isSignOf_69 : decode cX9_isSignOf 69 = .ok (.if_icmp .eq 15, 3) := by decide +kernel
theorem dX9_isSignOf_72 : decode cX9_isSignOf 72 = .ok (.iload_n 0, 1) := by decide +kernel
theorem dX9_isSignOf_73 : decode cX9_isSignOf 73 = .ok (.bipush 37, 2) := by decide +kernel
theorem dX9_isSignOf_75 : decode cX9_isSignOf 75 = .ok (.if_icmp .eq 9, 3) := by decide +kernel
theorem dX9_isSignOf_78 : decode cX9_isSignOf 78 = .ok (.iload_n 0, 1) := by decide +kernel
theorem dX9_isSignOf_79 : decode cX9_isSignOf 79 = .ok (.bipush 46, 2) := by decide +kernel
theorem dX9_isSignOf_81 : decode cX9_isSignOf 81 = .ok (.if_icmp .ne 7, 3) := by decide +kernel
theorem dX9_isSignOf_84 : decode cX9_isSignOf 84 = .ok (.iconst 1, 1) := by decide +kernel
theorem dX9_isSignOf_85 : decode cX9_isSignOf 85 = .ok (.goto 4, 3) := by decide +kernel
theorem dX9_isSignOf_88 : decode cX9_isSignOf 88 = .ok (.iconst 0, 1) := by decide +kernel
theorem dX9_isSignOf_89 : decode cX9_isSignOf 89 = .ok (.ireturn, 1) := by decide +kernel
theorem dX9_cutAll_0 : decode cX9_cutAll 0 = .ok (.aload_n 0, 1) := by decide +kernel
theorem dX9_cutAll_1 : decode cX9_cutAll 1 = .ok (.aload_n 0, 1) := by decide +kernel
theorem dX9_cutAll_2 : decode cX9_cutAll 2 = .ok (.getfield 11, 3) := by decide +kernel
theorem dX9_cutAll_5 : decode cX9_cutAll 5 = .ok (.putfield 265, 3) := by decide +kernel
theorem dX9_cutAll_8 : decode cX9_cutAll 8 = .ok (.aload_n 0, 1) := by decide +kernel
theorem dX9_cutAll_9 : decode cX9_cutAll 9 = .ok (.iconst 0, 1) := by decide +kernel
theorem dX9_cutAll_10 : decode cX9_cutAll 10 = .ok (.putfield 11, 3) := by decide +kernel
theorem dX9_cutAll_13 : decode cX9_cutAll 13 = .ok (.iconst 0, 1) := by decide +kernel
theorem dX9_cutAll_14 : decode cX9_cutAll 14 = .ok (.istore_n 1, 1) := by decide +kernel
theorem dX9_cutAll_15 : decode cX9_cutAll 15 = .ok (.iconst 0, 1) := by decide +kernel
theorem dX9_cutAll_16 : decode cX9_cutAll 16 = .ok (.istore_n 2, 1) := by decide +kernel
theorem dX9_cutAll_17 : decode cX9_cutAll 17 = .ok (.iload_n 2, 1) := by decide +kernel
theorem dX9_cutAll_18 : decode cX9_cutAll 18 = .ok (.aload_n 0, 1) := by decide +kernel
theorem dX9_cutAll_19 : decode cX9_cutAll 19 = .ok (.getfield 265, 3) := by decide +kernel
theorem dX9_cutAll_22 : decode cX9_cutAll 22 = .ok (.if_icmp .ge 271, 3) := by decide +kernel
theorem dX9_cutAll_25 : decode cX9_cutAll 25 = .ok (.aload_n 0, 1) := by decide +kernel
theorem dX9_cutAll_26 : decode cX9_cutAll 26 = .ok (.getfield 14, 3) := by decide +kernel
theorem dX9_cutAll_29 : decode cX9_cutAll 29 = .ok (.iload_n 2, 1) := by decide +kernel
theorem dX9_cutAll_30 : decode cX9_cutAll 30 = .ok (.iaload, 1) := by decide +kernel
theorem dX9_cutAll_31 : decode cX9_cutAll 31 = .ok (.istore_n 3, 1) := by decide +kernel
theorem dX9_cutAll_32 : decode cX9_cutAll 32 = .ok (.iload_n 3, 1) := by decide +kernel
theorem dX9_cutAll_33 : decode cX9_cutAll 33 = .ok (.bipush 10, 2) := by decide +kernel
theorem dX9_cutAll_35 : decode cX9_cutAll 35 = .ok (.if_icmp .eq 9, 3) := by decide +kernel
theorem dX9_cutAll_38 : decode cX9_cutAll 38 = .ok (.iload_n 3, 1) := by decide +kernel
theorem dX9_cutAll_39 : decode cX9_cutAll 39 = .ok (.bipush 32, 2) := by decide +kernel
theorem dX9_cutAll_41 : decode cX9_cutAll 41 = .ok (.if_icmp .ne 9, 3) := by decide +kernel
theorem dX9_cutAll_44 : decode cX9_cutAll 44 = .ok (.iinc 2 1, 3) := by decide +kernel
theorem dX9_cutAll_47 : decode cX9_cutAll 47 = .ok (.goto (-30), 3) := by decide +kernel
theorem dX9_cutAll_50 : decode cX9_cutAll 50 = .ok (.iload_n 2, 1) := by decide +kernel
theorem dX9_cutAll_51 : decode cX9_cutAll 51 = .ok (.istore 4, 2) := by decide +kernel
theorem dX9_cutAll_53 : decode cX9_cutAll 53 = .ok (.lconst 0, 1) := by decide +kernel
theorem dX9_cutAll_54 : decode cX9_cutAll 54 = .ok (.lstore 5, 2) := by decide +kernel
theorem dX9_cutAll_56 : decode cX9_cutAll 56 = .ok (.aload_n 0, 1) := by decide +kernel
theorem dX9_cutAll_57 : decode cX9_cutAll 57 = .ok (.getfield 27, 3) := by decide +kernel
theorem dX9_cutAll_60 : decode cX9_cutAll 60 = .ok (.iload_n 1, 1) := by decide +kernel
theorem dX9_cutAll_61 : decode cX9_cutAll 61 = .ok (.iload_n 2, 1) := by decide +kernel
theorem dX9_cutAll_62 : decode cX9_cutAll 62 = .ok (.iastore, 1) := by decide +kernel
theorem dX9_cutAll_63 : decode cX9_cutAll 63 = .ok (.iload_n 3, 1) := by decide +kernel
theorem dX9_cutAll_64 : decode cX9_cutAll 64 = .ok (.invokestatic 261, 3) := by decide +kernel
theorem dX9_cutAll_67 : decode cX9_cutAll 67 = .ok (.ifCond .eq 97, 3) := by decide +kernel
theorem dX9_cutAll_70 : decode cX9_cutAll 70 = .ok (.iload_n 2, 1) := by decide +kernel
theorem dX9_cutAll_71 : decode cX9_cutAll 71 = .ok (.aload_n 0, 1) := by decide +kernel
theorem dX9_cutAll_72 : decode cX9_cutAll 72 = .ok (.getfield 265, 3) := by decide +kernel
theorem dX9_cutAll_75 : decode cX9_cutAll 75 = .ok (.if_icmp .ge 66, 3) := by decide +kernel
theorem dX9_cutAll_78 : decode cX9_cutAll 78 = .ok (.aload_n 0, 1) := by decide +kernel
theorem dX9_cutAll_79 : decode cX9_cutAll 79 = .ok (.getfield 14, 3) := by decide +kernel
theorem dX9_cutAll_82 : decode cX9_cutAll 82 = .ok (.iload_n 2, 1) := by decide +kernel
theorem dX9_cutAll_83 : decode cX9_cutAll 83 = .ok (.iaload, 1) := by decide +kernel
theorem dX9_cutAll_84 : decode cX9_cutAll 84 = .ok (.invokestatic 261, 3) := by decide +kernel
theorem dX9_cutAll_87 : decode cX9_cutAll 87 = .ok (.ifCond .ne 15, 3) := by decide +kernel
theorem dX9_cutAll_90 : decode cX9_cutAll 90 = .ok (.aload_n 0, 1) := by decide +kernel
theorem dX9_cutAll_91 : decode cX9_cutAll 91 = .ok (.getfield 14, 3) := by decide +kernel
theorem dX9_cutAll_94 : decode cX9_cutAll 94 = .ok (.iload_n 2, 1) := by decide +kernel
theorem dX9_cutAll_95 : decode cX9_cutAll 95 = .ok (.iaload, 1) := by decide +kernel
theorem dX9_cutAll_96 : decode cX9_cutAll 96 = .ok (.invokestatic 268, 3) := by decide +kernel
theorem dX9_cutAll_99 : decode cX9_cutAll 99 = .ok (.ifCond .eq 42, 3) := by decide +kernel
theorem dX9_cutAll_102 : decode cX9_cutAll 102 = .ok (.iload_n 2, 1) := by decide +kernel
theorem dX9_cutAll_103 : decode cX9_cutAll 103 = .ok (.iload 4, 2) := by decide +kernel
theorem dX9_cutAll_105 : decode cX9_cutAll 105 = .ok (.isub, 1) := by decide +kernel
theorem dX9_cutAll_106 : decode cX9_cutAll 106 = .ok (.bipush 12, 2) := by decide +kernel
theorem dX9_cutAll_108 : decode cX9_cutAll 108 = .ok (.if_icmp .ge 23, 3) := by decide +kernel
theorem dX9_cutAll_111 : decode cX9_cutAll 111 = .ok (.ldc2_w 255, 3) := by decide +kernel
theorem dX9_cutAll_114 : decode cX9_cutAll 114 = .ok (.lload 5, 2) := by decide +kernel
theorem dX9_cutAll_116 : decode cX9_cutAll 116 = .ok (.lmul, 1) := by decide +kernel
theorem dX9_cutAll_117 : decode cX9_cutAll 117 = .ok (.aload_n 0, 1) := by decide +kernel
theorem dX9_cutAll_118 : decode cX9_cutAll 118 = .ok (.getfield 14, 3) := by decide +kernel
theorem dX9_cutAll_121 : decode cX9_cutAll 121 = .ok (.iload_n 2, 1) := by decide +kernel
theorem dX9_cutAll_122 : decode cX9_cutAll 122 = .ok (.iaload, 1) := by decide +kernel
theorem dX9_cutAll_123 : decode cX9_cutAll 123 = .ok (.invokestatic 257, 3) := by decide +kernel
theorem dX9_cutAll_126 : decode cX9_cutAll 126 = .ok (.i2l, 1) := by decide +kernel
theorem dX9_cutAll_127 : decode cX9_cutAll 127 = .ok (.ladd, 1) := by decide +kernel
theorem dX9_cutAll_128 : decode cX9_cutAll 128 = .ok (.goto 5, 3) := by decide +kernel
theorem dX9_cutAll_131 : decode cX9_cutAll 131 = .ok (.lload 5, 2) := by decide +kernel
theorem dX9_cutAll_133 : decode cX9_cutAll 133 = .ok (.lstore 5, 2) := by decide +kernel
theorem dX9_cutAll_135 : decode cX9_cutAll 135 = .ok (.iinc 2 1, 3) := by decide +kernel
theorem dX9_cutAll_138 : decode cX9_cutAll 138 = .ok (.goto (-68), 3) := by decide +kernel
theorem dX9_cutAll_141 : decode cX9_cutAll 141 = .ok (.aload_n 0, 1) := by decide +kernel
theorem dX9_cutAll_142 : decode cX9_cutAll 142 = .ok (.getfield 24, 3) := by decide +kernel
theorem dX9_cutAll_145 : decode cX9_cutAll 145 = .ok (.iload_n 1, 1) := by decide +kernel
theorem dX9_cutAll_146 : decode cX9_cutAll 146 = .ok (.iload_n 2, 1) := by decide +kernel
theorem dX9_cutAll_147 : decode cX9_cutAll 147 = .ok (.iload 4, 2) := by decide +kernel
theorem dX9_cutAll_149 : decode cX9_cutAll 149 = .ok (.isub, 1) := by decide +kernel
theorem dX9_cutAll_150 : decode cX9_cutAll 150 = .ok (.bipush 12, 2) := by decide +kernel
theorem dX9_cutAll_152 : decode cX9_cutAll 152 = .ok (.if_icmp .le 7, 3) := by decide +kernel
theorem dX9_cutAll_155 : decode cX9_cutAll 155 = .ok (.iconst 4, 1) := by decide +kernel
theorem dX9_cutAll_156 : decode cX9_cutAll 156 = .ok (.goto 4, 3) := by decide +kernel
theorem dX9_cutAll_159 : decode cX9_cutAll 159 = .ok (.iconst 1, 1) := by decide +kernel
theorem dX9_cutAll_160 : decode cX9_cutAll 160 = .ok (.iastore, 1) := by decide +kernel
theorem dX9_cutAll_161 : decode cX9_cutAll 161 = .ok (.goto 118, 3) := by decide +kernel
theorem dX9_cutAll_164 : decode cX9_cutAll 164 = .ok (.iload_n 3, 1) := by decide +kernel
theorem dX9_cutAll_165 : decode cX9_cutAll 165 = .ok (.invokestatic 268, 3) := by decide +kernel
theorem dX9_cutAll_168 : decode cX9_cutAll 168 = .ok (.ifCond .eq 86, 3) := by decide +kernel
theorem dX9_cutAll_171 : decode cX9_cutAll 171 = .ok (.iload_n 2, 1) := by decide +kernel
theorem dX9_cutAll_172 : decode cX9_cutAll 172 = .ok (.aload_n 0, 1) := by decide +kernel
theorem dX9_cutAll_173 : decode cX9_cutAll 173 = .ok (.getfield 265, 3) := by decide +kernel
theorem dX9_cutAll_176 : decode cX9_cutAll 176 = .ok (.if_icmp .ge 55, 3) := by decide +kernel
theorem dX9_cutAll_179 : decode cX9_cutAll 179 = .ok (.aload_n 0, 1) := by decide +kernel
theorem dX9_cutAll_180 : decode cX9_cutAll 180 = .ok (.getfield 14, 3) := by decide +kernel
theorem dX9_cutAll_183 : decode cX9_cutAll 183 = .ok (.iload_n 2, 1) := by decide +kernel
theorem dX9_cutAll_184 : decode cX9_cutAll 184 = .ok (.iaload, 1) := by decide +kernel
theorem dX9_cutAll_185 : decode cX9_cutAll 185 = .ok (.invokestatic 268, 3) := by decide +kernel
theorem dX9_cutAll_188 : decode cX9_cutAll 188 = .ok (.ifCond .eq 43, 3) := by decide +kernel
theorem dX9_cutAll_191 : decode cX9_cutAll 191 = .ok (.iload_n 2, 1) := by decide +kernel
theorem dX9_cutAll_192 : decode cX9_cutAll 192 = .ok (.iload 4, 2) := by decide +kernel
theorem dX9_cutAll_194 : decode cX9_cutAll 194 = .ok (.isub, 1) := by decide +kernel
theorem dX9_cutAll_195 : decode cX9_cutAll 195 = .ok (.bipush 9, 2) := by decide +kernel
theorem dX9_cutAll_197 : decode cX9_cutAll 197 = .ok (.if_icmp .ge 24, 3) := by decide +kernel
theorem dX9_cutAll_200 : decode cX9_cutAll 200 = .ok (.ldc2_w 271, 3) := by decide +kernel
theorem dX9_cutAll_203 : decode cX9_cutAll 203 = .ok (.lload 5, 2) := by decide +kernel
theorem dX9_cutAll_205 : decode cX9_cutAll 205 = .ok (.lmul, 1) := by decide +kernel
theorem dX9_cutAll_206 : decode cX9_cutAll 206 = .ok (.aload_n 0, 1) := by decide +kernel
theorem dX9_cutAll_207 : decode cX9_cutAll 207 = .ok (.getfield 14, 3) := by decide +kernel
theorem dX9_cutAll_210 : decode cX9_cutAll 210 = .ok (.iload_n 2, 1) := by decide +kernel
theorem dX9_cutAll_211 : decode cX9_cutAll 211 = .ok (.iaload, 1) := by decide +kernel
theorem dX9_cutAll_212 : decode cX9_cutAll 212 = .ok (.i2l, 1) := by decide +kernel
theorem dX9_cutAll_213 : decode cX9_cutAll 213 = .ok (.ladd, 1) := by decide +kernel
theorem dX9_cutAll_214 : decode cX9_cutAll 214 = .ok (.ldc2_w 273, 3) := by decide +kernel
theorem dX9_cutAll_217 : decode cX9_cutAll 217 = .ok (.lsub, 1) := by decide +kernel
theorem dX9_cutAll_218 : decode cX9_cutAll 218 = .ok (.goto 5, 3) := by decide +kernel
theorem dX9_cutAll_221 : decode cX9_cutAll 221 = .ok (.lload 5, 2) := by decide +kernel
theorem dX9_cutAll_223 : decode cX9_cutAll 223 = .ok (.lstore 5, 2) := by decide +kernel
theorem dX9_cutAll_225 : decode cX9_cutAll 225 = .ok (.iinc 2 1, 3) := by decide +kernel
theorem dX9_cutAll_228 : decode cX9_cutAll 228 = .ok (.goto (-57), 3) := by decide +kernel
theorem dX9_cutAll_231 : decode cX9_cutAll 231 = .ok (.aload_n 0, 1) := by decide +kernel
theorem dX9_cutAll_232 : decode cX9_cutAll 232 = .ok (.getfield 24, 3) := by decide +kernel
theorem dX9_cutAll_235 : decode cX9_cutAll 235 = .ok (.iload_n 1, 1) := by decide +kernel
theorem dX9_cutAll_236 : decode cX9_cutAll 236 = .ok (.iload_n 2, 1) := by decide +kernel
theorem dX9_cutAll_237 : decode cX9_cutAll 237 = .ok (.iload 4, 2) := by decide +kernel
theorem dX9_cutAll_239 : decode cX9_cutAll 239 = .ok (.isub, 1) := by decide +kernel
theorem dX9_cutAll_240 : decode cX9_cutAll 240 = .ok (.bipush 9, 2) := by decide +kernel
theorem dX9_cutAll_242 : decode cX9_cutAll 242 = .ok (.if_icmp .le 7, 3) := by decide +kernel
theorem dX9_cutAll_245 : decode cX9_cutAll 245 = .ok (.iconst 4, 1) := by decide +kernel
theorem dX9_cutAll_246 : decode cX9_cutAll 246 = .ok (.goto 4, 3) := by decide +kernel
theorem dX9_cutAll_249 : decode cX9_cutAll 249 = .ok (.iconst 2, 1) := by decide +kernel
theorem dX9_cutAll_250 : decode cX9_cutAll 250 = .ok (.iastore, 1) := by decide +kernel
theorem dX9_cutAll_251 : decode cX9_cutAll 251 = .ok (.goto 28, 3) := by decide +kernel
theorem dX9_cutAll_254 : decode cX9_cutAll 254 = .ok (.iload_n 3, 1) := by decide +kernel
theorem dX9_cutAll_255 : decode cX9_cutAll 255 = .ok (.i2l, 1) := by decide +kernel
theorem dX9_cutAll_256 : decode cX9_cutAll 256 = .ok (.lstore 5, 2) := by decide +kernel
theorem dX9_cutAll_258 : decode cX9_cutAll 258 = .ok (.aload_n 0, 1) := by decide +kernel
theorem dX9_cutAll_259 : decode cX9_cutAll 259 = .ok (.getfield 24, 3) := by decide +kernel
theorem dX9_cutAll_262 : decode cX9_cutAll 262 = .ok (.iload_n 1, 1) := by decide +kernel
theorem dX9_cutAll_263 : decode cX9_cutAll 263 = .ok (.iload_n 3, 1) := by decide +kernel
theorem dX9_cutAll_264 : decode cX9_cutAll 264 = .ok (.invokestatic 275, 3) := by decide +kernel
theorem dX9_cutAll_267 : decode cX9_cutAll 267 = .ok (.ifCond .eq 7, 3) := by decide +kernel
theorem dX9_cutAll_270 : decode cX9_cutAll 270 = .ok (.iconst 3, 1) := by decide +kernel
theorem dX9_cutAll_271 : decode cX9_cutAll 271 = .ok (.goto 4, 3) := by decide +kernel
theorem dX9_cutAll_274 : decode cX9_cutAll 274 = .ok (.iconst 4, 1) := by decide +kernel
theorem dX9_cutAll_275 : decode cX9_cutAll 275 = .ok (.iastore, 1) := by decide +kernel
theorem dX9_cutAll_276 : decode cX9_cutAll 276 = .ok (.iinc 2 1, 3) := by decide +kernel
theorem dX9_cutAll_279 : decode cX9_cutAll 279 = .ok (.aload_n 0, 1) := by decide +kernel
theorem dX9_cutAll_280 : decode cX9_cutAll 280 = .ok (.getfield 30, 3) := by decide +kernel
theorem dX9_cutAll_283 : decode cX9_cutAll 283 = .ok (.iload_n 1, 1) := by decide +kernel
theorem dX9_cutAll_284 : decode cX9_cutAll 284 = .ok (.lload 5, 2) := by decide +kernel
theorem dX9_cutAll_286 : decode cX9_cutAll 286 = .ok (.lastore, 1) := by decide +kernel
theorem dX9_cutAll_287 : decode cX9_cutAll 287 = .ok (.iinc 1 1, 3) := by decide +kernel
theorem dX9_cutAll_290 : decode cX9_cutAll 290 = .ok (.goto (-273), 3) := by decide +kernel
theorem dX9_cutAll_293 : decode cX9_cutAll 293 = .ok (.aload_n 0, 1) := by decide +kernel
theorem dX9_cutAll_294 : decode cX9_cutAll 294 = .ok (.getfield 24, 3) := by decide +kernel
theorem dX9_cutAll_297 : decode cX9_cutAll 297 = .ok (.iload_n 1, 1) := by decide +kernel
theorem dX9_cutAll_298 : decode cX9_cutAll 298 = .ok (.iconst 0, 1) := by decide +kernel
theorem dX9_cutAll_299 : decode cX9_cutAll 299 = .ok (.iastore, 1) := by decide +kernel
theorem dX9_cutAll_300 : decode cX9_cutAll 300 = .ok (.aload_n 0, 1) := by decide +kernel
theorem dX9_cutAll_301 : decode cX9_cutAll 301 = .ok (.getfield 27, 3) := by decide +kernel
theorem dX9_cutAll_304 : decode cX9_cutAll 304 = .ok (.iload_n 1, 1) := by decide +kernel
theorem dX9_cutAll_305 : decode cX9_cutAll 305 = .ok (.aload_n 0, 1) := by decide +kernel
theorem dX9_cutAll_306 : decode cX9_cutAll 306 = .ok (.getfield 265, 3) := by decide +kernel
theorem dX9_cutAll_309 : decode cX9_cutAll 309 = .ok (.iastore, 1) := by decide +kernel
theorem dX9_cutAll_310 : decode cX9_cutAll 310 = .ok (.aload_n 0, 1) := by decide +kernel
theorem dX9_cutAll_311 : decode cX9_cutAll 311 = .ok (.iconst 0, 1) := by decide +kernel
theorem dX9_cutAll_312 : decode cX9_cutAll 312 = .ok (.putfield 278, 3) := by decide +kernel
theorem dX9_cutAll_315 : decode cX9_cutAll 315 = .ok (.aload_n 0, 1) := by decide +kernel
theorem dX9_cutAll_316 : decode cX9_cutAll 316 = .ok (.iconst 0, 1) := by decide +kernel
theorem dX9_cutAll_317 : decode cX9_cutAll 317 = .ok (.putfield 281, 3) := by decide +kernel
theorem dX9_cutAll_320 : decode cX9_cutAll 320 = .ok (.return_, 1) := by decide +kernel
theorem dX9_wrong_0 : decode cX9_wrong 0 = .ok (.aload_n 0, 1) := by decide +kernel
theorem dX9_wrong_1 : decode cX9_wrong 1 = .ok (.getfield 281, 3) := by decide +kernel
theorem dX9_wrong_4 : decode cX9_wrong 4 = .ok (.ifCond .ne 21, 3) := by decide +kernel
theorem dX9_wrong_7 : decode cX9_wrong 7 = .ok (.aload_n 0, 1) := by decide +kernel
theorem dX9_wrong_8 : decode cX9_wrong 8 = .ok (.iload_n 1, 1) := by decide +kernel
theorem dX9_wrong_9 : decode cX9_wrong 9 = .ok (.bipush 16, 2) := by decide +kernel
theorem dX9_wrong_11 : decode cX9_wrong 11 = .ok (.aload_n 0, 1) := by decide +kernel
theorem dX9_wrong_12 : decode cX9_wrong 12 = .ok (.getfield 27, 3) := by decide +kernel
theorem dX9_wrong_15 : decode cX9_wrong 15 = .ok (.aload_n 0, 1) := by decide +kernel
theorem dX9_wrong_16 : decode cX9_wrong 16 = .ok (.getfield 278, 3) := by decide +kernel
theorem dX9_wrong_19 : decode cX9_wrong 19 = .ok (.iaload, 1) := by decide +kernel
theorem dX9_wrong_20 : decode cX9_wrong 20 = .ok (.imul, 1) := by decide +kernel
theorem dX9_wrong_21 : decode cX9_wrong 21 = .ok (.iadd, 1) := by decide +kernel
theorem dX9_wrong_22 : decode cX9_wrong 22 = .ok (.putfield 281, 3) := by decide +kernel
theorem dX9_wrong_25 : decode cX9_wrong 25 = .ok (.return_, 1) := by decide +kernel
theorem dX9_isSign_0 : decode cX9_isSign 0 = .ok (.aload_n 0, 1) := by decide +kernel
theorem dX9_isSign_1 : decode cX9_isSign 1 = .ok (.getfield 281, 3) := by decide +kernel
theorem dX9_isSign_4 : decode cX9_isSign 4 = .ok (.ifCond .ne 35, 3) := by decide +kernel
theorem dX9_isSign_7 : decode cX9_isSign 7 = .ok (.aload_n 0, 1) := by decide +kernel
theorem dX9_isSign_8 : decode cX9_isSign 8 = .ok (.getfield 24, 3) := by decide +kernel
theorem dX9_isSign_11 : decode cX9_isSign 11 = .ok (.aload_n 0, 1) := by decide +kernel
theorem dX9_isSign_12 : decode cX9_isSign 12 = .ok (.getfield 278, 3) := by decide +kernel
theorem dX9_isSign_15 : decode cX9_isSign 15 = .ok (.iaload, 1) := by decide +kernel
theorem dX9_isSign_16 : decode cX9_isSign 16 = .ok (.iconst 3, 1) := by decide +kernel
theorem dX9_isSign_17 : decode cX9_isSign 17 = .ok (.if_icmp .ne 22, 3) := by decide +kernel
theorem dX9_isSign_20 : decode cX9_isSign 20 = .ok (.aload_n 0, 1) := by decide +kernel
theorem dX9_isSign_21 : decode cX9_isSign 21 = .ok (.getfield 30, 3) := by decide +kernel
theorem dX9_isSign_24 : decode cX9_isSign 24 = .ok (.aload_n 0, 1) := by decide +kernel
theorem dX9_isSign_25 : decode cX9_isSign 25 = .ok (.getfield 278, 3) := by decide +kernel
theorem dX9_isSign_28 : decode cX9_isSign 28 = .ok (.laload, 1) := by decide +kernel
theorem dX9_isSign_29 : decode cX9_isSign 29 = .ok (.iload_n 1, 1) := by decide +kernel
theorem dX9_isSign_30 : decode cX9_isSign 30 = .ok (.i2l, 1) := by decide +kernel
theorem dX9_isSign_31 : decode cX9_isSign 31 = .ok (.lcmp, 1) := by decide +kernel
theorem dX9_isSign_32 : decode cX9_isSign 32 = .ok (.ifCond .ne 7, 3) := by decide +kernel
theorem dX9_isSign_35 : decode cX9_isSign 35 = .ok (.iconst 1, 1) := by decide +kernel
theorem dX9_isSign_36 : decode cX9_isSign 36 = .ok (.goto 4, 3) := by decide +kernel
theorem dX9_isSign_39 : decode cX9_isSign 39 = .ok (.iconst 0, 1) := by decide +kernel
theorem dX9_isSign_40 : decode cX9_isSign 40 = .ok (.ireturn, 1) := by decide +kernel
theorem dX9_isWord_0 : decode cX9_isWord 0 = .ok (.aload_n 0, 1) := by decide +kernel
theorem dX9_isWord_1 : decode cX9_isWord 1 = .ok (.getfield 281, 3) := by decide +kernel
theorem dX9_isWord_4 : decode cX9_isWord 4 = .ok (.ifCond .ne 39, 3) := by decide +kernel
theorem dX9_isWord_7 : decode cX9_isWord 7 = .ok (.aload_n 0, 1) := by decide +kernel
theorem dX9_isWord_8 : decode cX9_isWord 8 = .ok (.getfield 24, 3) := by decide +kernel
theorem dX9_isWord_11 : decode cX9_isWord 11 = .ok (.aload_n 0, 1) := by decide +kernel
theorem dX9_isWord_12 : decode cX9_isWord 12 = .ok (.getfield 278, 3) := by decide +kernel
theorem dX9_isWord_15 : decode cX9_isWord 15 = .ok (.iaload, 1) := by decide +kernel
theorem dX9_isWord_16 : decode cX9_isWord 16 = .ok (.iconst 1, 1) := by decide +kernel
theorem dX9_isWord_17 : decode cX9_isWord 17 = .ok (.if_icmp .ne 26, 3) := by decide +kernel
theorem dX9_isWord_20 : decode cX9_isWord 20 = .ok (.aload_n 0, 1) := by decide +kernel
theorem dX9_isWord_21 : decode cX9_isWord 21 = .ok (.getfield 30, 3) := by decide +kernel
theorem dX9_isWord_24 : decode cX9_isWord 24 = .ok (.aload_n 0, 1) := by decide +kernel
theorem dX9_isWord_25 : decode cX9_isWord 25 = .ok (.getfield 278, 3) := by decide +kernel
theorem dX9_isWord_28 : decode cX9_isWord 28 = .ok (.laload, 1) := by decide +kernel
theorem dX9_isWord_29 : decode cX9_isWord 29 = .ok (.aload_n 0, 1) := by decide +kernel
theorem dX9_isWord_30 : decode cX9_isWord 30 = .ok (.getfield 40, 3) := by decide +kernel
theorem dX9_isWord_33 : decode cX9_isWord 33 = .ok (.iload_n 1, 1) := by decide +kernel
theorem dX9_isWord_34 : decode cX9_isWord 34 = .ok (.laload, 1) := by decide +kernel
theorem dX9_isWord_35 : decode cX9_isWord 35 = .ok (.lcmp, 1) := by decide +kernel
theorem dX9_isWord_36 : decode cX9_isWord 36 = .ok (.ifCond .ne 7, 3) := by decide +kernel
theorem dX9_isWord_39 : decode cX9_isWord 39 = .ok (.iconst 1, 1) := by decide +kernel
theorem dX9_isWord_40 : decode cX9_isWord 40 = .ok (.goto 4, 3) := by decide +kernel
theorem dX9_isWord_43 : decode cX9_isWord 43 = .ok (.iconst 0, 1) := by decide +kernel
theorem dX9_isWord_44 : decode cX9_isWord 44 = .ok (.ireturn, 1) := by decide +kernel
theorem dX9_takeSign_0 : decode cX9_takeSign 0 = .ok (.aload_n 0, 1) := by decide +kernel
theorem dX9_takeSign_1 : decode cX9_takeSign 1 = .ok (.iload_n 1, 1) := by decide +kernel
theorem dX9_takeSign_2 : decode cX9_takeSign 2 = .ok (.invokevirtual 284, 3) := by decide +kernel
theorem dX9_takeSign_5 : decode cX9_takeSign 5 = .ok (.ifCond .eq 16, 3) := by decide +kernel
theorem dX9_takeSign_8 : decode cX9_takeSign 8 = .ok (.aload_n 0, 1) := by decide +kernel
theorem dX9_takeSign_9 : decode cX9_takeSign 9 = .ok (.dup, 1) := by decide +kernel
theorem dX9_takeSign_10 : decode cX9_takeSign 10 = .ok (.getfield 278, 3) := by decide +kernel
theorem dX9_takeSign_13 : decode cX9_takeSign 13 = .ok (.iconst 1, 1) := by decide +kernel
theorem dX9_takeSign_14 : decode cX9_takeSign 14 = .ok (.iadd, 1) := by decide +kernel
theorem dX9_takeSign_15 : decode cX9_takeSign 15 = .ok (.putfield 278, 3) := by decide +kernel
theorem dX9_takeSign_18 : decode cX9_takeSign 18 = .ok (.goto 8, 3) := by decide +kernel
theorem dX9_takeSign_21 : decode cX9_takeSign 21 = .ok (.aload_n 0, 1) := by decide +kernel
theorem dX9_takeSign_22 : decode cX9_takeSign 22 = .ok (.iconst 1, 1) := by decide +kernel
theorem dX9_takeSign_23 : decode cX9_takeSign 23 = .ok (.invokevirtual 287, 3) := by decide +kernel
theorem dX9_takeSign_26 : decode cX9_takeSign 26 = .ok (.return_, 1) := by decide +kernel
theorem dX9_hasSign_0 : decode cX9_hasSign 0 = .ok (.aload_n 0, 1) := by decide +kernel
theorem dX9_hasSign_1 : decode cX9_hasSign 1 = .ok (.iload_n 1, 1) := by decide +kernel
theorem dX9_hasSign_2 : decode cX9_hasSign 2 = .ok (.invokevirtual 284, 3) := by decide +kernel
theorem dX9_hasSign_5 : decode cX9_hasSign 5 = .ok (.istore_n 2, 1) := by decide +kernel
theorem dX9_hasSign_6 : decode cX9_hasSign 6 = .ok (.aload_n 0, 1) := by decide +kernel
theorem dX9_hasSign_7 : decode cX9_hasSign 7 = .ok (.dup, 1) := by decide +kernel
theorem dX9_hasSign_8 : decode cX9_hasSign 8 = .ok (.getfield 278, 3) := by decide +kernel
theorem dX9_hasSign_11 : decode cX9_hasSign 11 = .ok (.iload_n 2, 1) := by decide +kernel
theorem dX9_hasSign_12 : decode cX9_hasSign 12 = .ok (.ifCond .eq 7, 3) := by decide +kernel
theorem dX9_hasSign_15 : decode cX9_hasSign 15 = .ok (.iconst 1, 1) := by decide +kernel
theorem dX9_hasSign_16 : decode cX9_hasSign 16 = .ok (.goto 4, 3) := by decide +kernel
theorem dX9_hasSign_19 : decode cX9_hasSign 19 = .ok (.iconst 0, 1) := by decide +kernel
theorem dX9_hasSign_20 : decode cX9_hasSign 20 = .ok (.iadd, 1) := by decide +kernel
theorem dX9_hasSign_21 : decode cX9_hasSign 21 = .ok (.putfield 278, 3) := by decide +kernel
theorem dX9_hasSign_24 : decode cX9_hasSign 24 = .ok (.iload_n 2, 1) := by decide +kernel
theorem dX9_hasSign_25 : decode cX9_hasSign 25 = .ok (.ireturn, 1) := by decide +kernel
theorem dX9_hasWord_0 : decode cX9_hasWord 0 = .ok (.aload_n 0, 1) := by decide +kernel
theorem dX9_hasWord_1 : decode cX9_hasWord 1 = .ok (.iload_n 1, 1) := by decide +kernel
theorem dX9_hasWord_2 : decode cX9_hasWord 2 = .ok (.invokevirtual 291, 3) := by decide +kernel
theorem dX9_hasWord_5 : decode cX9_hasWord 5 = .ok (.istore_n 2, 1) := by decide +kernel
theorem dX9_hasWord_6 : decode cX9_hasWord 6 = .ok (.aload_n 0, 1) := by decide +kernel
theorem dX9_hasWord_7 : decode cX9_hasWord 7 = .ok (.dup, 1) := by decide +kernel
theorem dX9_hasWord_8 : decode cX9_hasWord 8 = .ok (.getfield 278, 3) := by decide +kernel
theorem dX9_hasWord_11 : decode cX9_hasWord 11 = .ok (.iload_n 2, 1) := by decide +kernel
theorem dX9_hasWord_12 : decode cX9_hasWord 12 = .ok (.ifCond .eq 7, 3) := by decide +kernel
theorem dX9_hasWord_15 : decode cX9_hasWord 15 = .ok (.iconst 1, 1) := by decide +kernel
theorem dX9_hasWord_16 : decode cX9_hasWord 16 = .ok (.goto 4, 3) := by decide +kernel
theorem dX9_hasWord_19 : decode cX9_hasWord 19 = .ok (.iconst 0, 1) := by decide +kernel
theorem dX9_hasWord_20 : decode cX9_hasWord 20 = .ok (.iadd, 1) := by decide +kernel
theorem dX9_hasWord_21 : decode cX9_hasWord 21 = .ok (.putfield 278, 3) := by decide +kernel
theorem dX9_hasWord_24 : decode cX9_hasWord 24 = .ok (.iload_n 2, 1) := by decide +kernel
theorem dX9_hasWord_25 : decode cX9_hasWord 25 = .ok (.ireturn, 1) := by decide +kernel
theorem dX9_takeWord_0 : decode cX9_takeWord 0 = .ok (.aload_n 0, 1) := by decide +kernel
theorem dX9_takeWord_1 : decode cX9_takeWord 1 = .ok (.iload_n 1, 1) := by decide +kernel
theorem dX9_takeWord_2 : decode cX9_takeWord 2 = .ok (.invokevirtual 294, 3) := by decide +kernel
theorem dX9_takeWord_5 : decode cX9_takeWord 5 = .ok (.ifCond .ne 8, 3) := by decide +kernel
theorem dX9_takeWord_8 : decode cX9_takeWord 8 = .ok (.aload_n 0, 1) := by decide +kernel
theorem dX9_takeWord_9 : decode cX9_takeWord 9 = .ok (.iconst 1, 1) := by decide +kernel
theorem dX9_takeWord_10 : decode cX9_takeWord 10 = .ok (.invokevirtual 287, 3) := by decide +kernel
theorem dX9_takeWord_13 : decode cX9_takeWord 13 = .ok (.return_, 1) := by decide +kernel
theorem dX9_isName_0 : decode cX9_isName 0 = .ok (.aload_n 0, 1) := by decide +kernel
theorem dX9_isName_1 : decode cX9_isName 1 = .ok (.getfield 281, 3) := by decide +kernel
theorem dX9_isName_4 : decode cX9_isName 4 = .ok (.ifCond .ne 20, 3) := by decide +kernel
theorem dX9_isName_7 : decode cX9_isName 7 = .ok (.aload_n 0, 1) := by decide +kernel
theorem dX9_isName_8 : decode cX9_isName 8 = .ok (.getfield 24, 3) := by decide +kernel
theorem dX9_isName_11 : decode cX9_isName 11 = .ok (.aload_n 0, 1) := by decide +kernel
theorem dX9_isName_12 : decode cX9_isName 12 = .ok (.getfield 278, 3) := by decide +kernel
theorem dX9_isName_15 : decode cX9_isName 15 = .ok (.iaload, 1) := by decide +kernel
theorem dX9_isName_16 : decode cX9_isName 16 = .ok (.iconst 1, 1) := by decide +kernel
theorem dX9_isName_17 : decode cX9_isName 17 = .ok (.if_icmp .ne 7, 3) := by decide +kernel
theorem dX9_isName_20 : decode cX9_isName 20 = .ok (.iconst 1, 1) := by decide +kernel
theorem dX9_isName_21 : decode cX9_isName 21 = .ok (.goto 4, 3) := by decide +kernel
theorem dX9_isName_24 : decode cX9_isName 24 = .ok (.iconst 0, 1) := by decide +kernel
theorem dX9_isName_25 : decode cX9_isName 25 = .ok (.istore_n 1, 1) := by decide +kernel
theorem dX9_isName_26 : decode cX9_isName 26 = .ok (.iconst 0, 1) := by decide +kernel
theorem dX9_isName_27 : decode cX9_isName 27 = .ok (.istore_n 2, 1) := by decide +kernel
theorem dX9_isName_28 : decode cX9_isName 28 = .ok (.iload_n 2, 1) := by decide +kernel
theorem dX9_isName_29 : decode cX9_isName 29 = .ok (.bipush 25, 2) := by decide +kernel
theorem dX9_isName_31 : decode cX9_isName 31 = .ok (.if_icmp .ge 38, 3) := by decide +kernel
theorem dX9_isName_34 : decode cX9_isName 34 = .ok (.iload_n 1, 1) := by decide +kernel
theorem dX9_isName_35 : decode cX9_isName 35 = .ok (.ifCond .eq 34, 3) := by decide +kernel
theorem dX9_isName_38 : decode cX9_isName 38 = .ok (.aload_n 0, 1) := by decide +kernel
theorem dX9_isName_39 : decode cX9_isName 39 = .ok (.getfield 30, 3) := by decide +kernel
theorem dX9_isName_42 : decode cX9_isName 42 = .ok (.aload_n 0, 1) := by decide +kernel
theorem dX9_isName_43 : decode cX9_isName 43 = .ok (.getfield 278, 3) := by decide +kernel
theorem dX9_isName_46 : decode cX9_isName 46 = .ok (.laload, 1) := by decide +kernel
theorem dX9_isName_47 : decode cX9_isName 47 = .ok (.aload_n 0, 1) := by decide +kernel
theorem dX9_isName_48 : decode cX9_isName 48 = .ok (.getfield 40, 3) := by decide +kernel
theorem dX9_isName_51 : decode cX9_isName 51 = .ok (.iload_n 2, 1) := by decide +kernel
theorem dX9_isName_52 : decode cX9_isName 52 = .ok (.laload, 1) := by decide +kernel
theorem dX9_isName_53 : decode cX9_isName 53 = .ok (.lcmp, 1) := by decide +kernel
theorem dX9_isName_54 : decode cX9_isName 54 = .ok (.ifCond .eq 7, 3) := by decide +kernel
theorem dX9_isName_57 : decode cX9_isName 57 = .ok (.iconst 1, 1) := by decide +kernel
theorem dX9_isName_58 : decode cX9_isName 58 = .ok (.goto 4, 3) := by decide +kernel
theorem dX9_isName_61 : decode cX9_isName 61 = .ok (.iconst 0, 1) := by decide +kernel
theorem dX9_isName_62 : decode cX9_isName 62 = .ok (.istore_n 1, 1) := by decide +kernel
theorem dX9_isName_63 : decode cX9_isName 63 = .ok (.iinc 2 1, 3) := by decide +kernel
theorem dX9_isName_66 : decode cX9_isName 66 = .ok (.goto (-38), 3) := by decide +kernel
theorem dX9_isName_69 : decode cX9_isName 69 = .ok (.iload_n 1, 1) := by decide +kernel
theorem dX9_isName_70 : decode cX9_isName 70 = .ok (.ireturn, 1) := by decide +kernel
theorem dX9_takeNumber_0 : decode cX9_takeNumber 0 = .ok (.aload_n 0, 1) := by decide +kernel
theorem dX9_takeNumber_1 : decode cX9_takeNumber 1 = .ok (.getfield 281, 3) := by decide +kernel
theorem dX9_takeNumber_4 : decode cX9_takeNumber 4 = .ok (.ifCond .ne 24, 3) := by decide +kernel
theorem dX9_takeNumber_7 : decode cX9_takeNumber 7 = .ok (.aload_n 0, 1) := by decide +kernel
theorem dX9_takeNumber_8 : decode cX9_takeNumber 8 = .ok (.getfield 24, 3) := by decide +kernel
theorem dX9_takeNumber_11 : decode cX9_takeNumber 11 = .ok (.aload_n 0, 1) := by decide +kernel
theorem dX9_takeNumber_12 : decode cX9_takeNumber 12 = .ok (.getfield 278, 3) := by decide +kernel
theorem dX9_takeNumber_15 : decode cX9_takeNumber 15 = .ok (.iaload, 1) := by decide +kernel
theorem dX9_takeNumber_16 : decode cX9_takeNumber 16 = .ok (.iconst 2, 1) := by decide +kernel
theorem dX9_takeNumber_17 : decode cX9_takeNumber 17 = .ok (.if_icmp .eq 11, 3) := by decide +kernel
theorem dX9_takeNumber_20 : decode cX9_takeNumber 20 = .ok (.aload_n 0, 1) := by decide +kernel
theorem dX9_takeNumber_21 : decode cX9_takeNumber 21 = .ok (.iconst 1, 1) := by decide +kernel
theorem dX9_takeNumber_22 : decode cX9_takeNumber 22 = .ok (.invokevirtual 287, 3) := by decide +kernel
theorem dX9_takeNumber_25 : decode cX9_takeNumber 25 = .ok (.goto 45, 3) := by decide +kernel
theorem dX9_takeNumber_28 : decode cX9_takeNumber 28 = .ok (.aload_n 0, 1) := by decide +kernel
theorem dX9_takeNumber_29 : decode cX9_takeNumber 29 = .ok (.getfield 281, 3) := by decide +kernel
theorem dX9_takeNumber_32 : decode cX9_takeNumber 32 = .ok (.ifCond .ne 38, 3) := by decide +kernel
theorem dX9_takeNumber_35 : decode cX9_takeNumber 35 = .ok (.aload_n 0, 1) := by decide +kernel
theorem dX9_takeNumber_36 : decode cX9_takeNumber 36 = .ok (.getfield 30, 3) := by decide +kernel
theorem dX9_takeNumber_39 : decode cX9_takeNumber 39 = .ok (.aload_n 0, 1) := by decide +kernel
theorem dX9_takeNumber_40 : decode cX9_takeNumber 40 = .ok (.getfield 278, 3) := by decide +kernel
theorem dX9_takeNumber_43 : decode cX9_takeNumber 43 = .ok (.laload, 1) := by decide +kernel
theorem dX9_takeNumber_44 : decode cX9_takeNumber 44 = .ok (.iload_n 1, 1) := by decide +kernel
theorem dX9_takeNumber_45 : decode cX9_takeNumber 45 = .ok (.i2l, 1) := by decide +kernel
theorem dX9_takeNumber_46 : decode cX9_takeNumber 46 = .ok (.lcmp, 1) := by decide +kernel
theorem dX9_takeNumber_47 : decode cX9_takeNumber 47 = .ok (.ifCond .lt 18, 3) := by decide +kernel
theorem dX9_takeNumber_50 : decode cX9_takeNumber 50 = .ok (.aload_n 0, 1) := by decide +kernel
theorem dX9_takeNumber_51 : decode cX9_takeNumber 51 = .ok (.getfield 30, 3) := by decide +kernel
theorem dX9_takeNumber_54 : decode cX9_takeNumber 54 = .ok (.aload_n 0, 1) := by decide +kernel
theorem dX9_takeNumber_55 : decode cX9_takeNumber 55 = .ok (.getfield 278, 3) := by decide +kernel
theorem dX9_takeNumber_58 : decode cX9_takeNumber 58 = .ok (.laload, 1) := by decide +kernel
theorem dX9_takeNumber_59 : decode cX9_takeNumber 59 = .ok (.iload_n 2, 1) := by decide +kernel
theorem dX9_takeNumber_60 : decode cX9_takeNumber 60 = .ok (.i2l, 1) := by decide +kernel
theorem dX9_takeNumber_61 : decode cX9_takeNumber 61 = .ok (.lcmp, 1) := by decide +kernel
theorem dX9_takeNumber_62 : decode cX9_takeNumber 62 = .ok (.ifCond .le 8, 3) := by decide +kernel
theorem dX9_takeNumber_65 : decode cX9_takeNumber 65 = .ok (.aload_n 0, 1) := by decide +kernel
theorem dX9_takeNumber_66 : decode cX9_takeNumber 66 = .ok (.iconst 4, 1) := by decide +kernel
theorem dX9_takeNumber_67 : decode cX9_takeNumber 67 = .ok (.invokevirtual 287, 3) := by decide +kernel
theorem dX9_takeNumber_70 : decode cX9_takeNumber 70 = .ok (.aload_n 0, 1) := by decide +kernel
theorem dX9_takeNumber_71 : decode cX9_takeNumber 71 = .ok (.dup, 1) := by decide +kernel
theorem dX9_takeNumber_72 : decode cX9_takeNumber 72 = .ok (.getfield 278, 3) := by decide +kernel
theorem dX9_takeNumber_75 : decode cX9_takeNumber 75 = .ok (.iconst 1, 1) := by decide +kernel
theorem dX9_takeNumber_76 : decode cX9_takeNumber 76 = .ok (.iadd, 1) := by decide +kernel
theorem dX9_takeNumber_77 : decode cX9_takeNumber 77 = .ok (.putfield 278, 3) := by decide +kernel
theorem dX9_takeNumber_80 : decode cX9_takeNumber 80 = .ok (.aload_n 0, 1) := by decide +kernel
theorem dX9_takeNumber_81 : decode cX9_takeNumber 81 = .ok (.getfield 281, 3) := by decide +kernel
theorem dX9_takeNumber_84 : decode cX9_takeNumber 84 = .ok (.ifCond .le 7, 3) := by decide +kernel
theorem dX9_takeNumber_87 : decode cX9_takeNumber 87 = .ok (.iconst 0, 1) := by decide +kernel
theorem dX9_takeNumber_88 : decode cX9_takeNumber 88 = .ok (.goto 15, 3) := by decide +kernel
theorem dX9_takeNumber_91 : decode cX9_takeNumber 91 = .ok (.aload_n 0, 1) := by decide +kernel
theorem dX9_takeNumber_92 : decode cX9_takeNumber 92 = .ok (.getfield 30, 3) := by decide +kernel
theorem dX9_takeNumber_95 : decode cX9_takeNumber 95 = .ok (.aload_n 0, 1) := by decide +kernel
theorem dX9_takeNumber_96 : decode cX9_takeNumber 96 = .ok (.getfield 278, 3) := by decide +kernel
theorem dX9_takeNumber_99 : decode cX9_takeNumber 99 = .ok (.iconst 1, 1) := by decide +kernel
theorem dX9_takeNumber_100 : decode cX9_takeNumber 100 = .ok (.isub, 1) := by decide +kernel
theorem dX9_takeNumber_101 : decode cX9_takeNumber 101 = .ok (.laload, 1) := by decide +kernel
theorem dX9_takeNumber_102 : decode cX9_takeNumber 102 = .ok (.l2i, 1) := by decide +kernel
theorem dX9_takeNumber_103 : decode cX9_takeNumber 103 = .ok (.ireturn, 1) := by decide +kernel
theorem dX9_find_0 : decode cX9_find 0 = .ok (.iconst (-1), 1) := by decide +kernel
theorem dX9_find_1 : decode cX9_find 1 = .ok (.istore 6, 2) := by decide +kernel
theorem dX9_find_3 : decode cX9_find 3 = .ok (.iconst 0, 1) := by decide +kernel
theorem dX9_find_4 : decode cX9_find 4 = .ok (.istore 7, 2) := by decide +kernel
theorem dX9_find_6 : decode cX9_find 6 = .ok (.iload 7, 2) := by decide +kernel
theorem dX9_find_8 : decode cX9_find 8 = .ok (.iload_n 3, 1) := by decide +kernel
theorem dX9_find_9 : decode cX9_find 9 = .ok (.if_icmp .ge 30, 3) := by decide +kernel
theorem dX9_find_12 : decode cX9_find 12 = .ok (.aload_n 1, 1) := by decide +kernel
theorem dX9_find_13 : decode cX9_find 13 = .ok (.iload_n 2, 1) := by decide +kernel
theorem dX9_find_14 : decode cX9_find 14 = .ok (.iload 7, 2) := by decide +kernel
theorem dX9_find_16 : decode cX9_find 16 = .ok (.iadd, 1) := by decide +kernel
theorem dX9_find_17 : decode cX9_find 17 = .ok (.laload, 1) := by decide +kernel
theorem dX9_find_18 : decode cX9_find 18 = .ok (.lload 4, 2) := by decide +kernel
theorem dX9_find_20 : decode cX9_find 20 = .ok (.lcmp, 1) := by decide +kernel
theorem dX9_find_21 : decode cX9_find 21 = .ok (.ifCond .ne 8, 3) := by decide +kernel
theorem dX9_find_24 : decode cX9_find 24 = .ok (.iload 7, 2) := by decide +kernel
theorem dX9_find_26 : decode cX9_find 26 = .ok (.goto 5, 3) := by decide +kernel
theorem dX9_find_29 : decode cX9_find 29 = .ok (.iload 6, 2) := by decide +kernel
theorem dX9_find_31 : decode cX9_find 31 = .ok (.istore 6, 2) := by decide +kernel
theorem dX9_find_33 : decode cX9_find 33 = .ok (.iinc 7 1, 3) := by decide +kernel
theorem dX9_find_36 : decode cX9_find 36 = .ok (.goto (-30), 3) := by decide +kernel
theorem dX9_find_39 : decode cX9_find 39 = .ok (.iload 6, 2) := by decide +kernel
theorem dX9_find_41 : decode cX9_find 41 = .ok (.ireturn, 1) := by decide +kernel
theorem dX9_findUnit_0 : decode cX9_findUnit 0 = .ok (.aload_n 0, 1) := by decide +kernel
theorem dX9_findUnit_1 : decode cX9_findUnit 1 = .ok (.aload_n 0, 1) := by decide +kernel
theorem dX9_findUnit_2 : decode cX9_findUnit 2 = .ok (.getfield 61, 3) := by decide +kernel
theorem dX9_findUnit_5 : decode cX9_findUnit 5 = .ok (.bipush 24, 2) := by decide +kernel
theorem dX9_findUnit_7 : decode cX9_findUnit 7 = .ok (.aload_n 0, 1) := by decide +kernel
theorem dX9_findUnit_8 : decode cX9_findUnit 8 = .ok (.getfield 297, 3) := by decide +kernel
theorem dX9_findUnit_11 : decode cX9_findUnit 11 = .ok (.imul, 1) := by decide +kernel
theorem dX9_findUnit_12 : decode cX9_findUnit 12 = .ok (.aload_n 0, 1) := by decide +kernel
theorem dX9_findUnit_13 : decode cX9_findUnit 13 = .ok (.getfield 58, 3) := by decide +kernel
theorem dX9_findUnit_16 : decode cX9_findUnit 16 = .ok (.aload_n 0, 1) := by decide +kernel
theorem dX9_findUnit_17 : decode cX9_findUnit 17 = .ok (.getfield 297, 3) := by decide +kernel
theorem dX9_findUnit_20 : decode cX9_findUnit 20 = .ok (.iaload, 1) := by decide +kernel
theorem dX9_findUnit_21 : decode cX9_findUnit 21 = .ok (.lload_n 1, 1) := by decide +kernel
theorem dX9_findUnit_22 : decode cX9_findUnit 22 = .ok (.invokevirtual 300, 3) := by decide +kernel
theorem dX9_findUnit_25 : decode cX9_findUnit 25 = .ok (.ireturn, 1) := by decide +kernel
theorem dX9_station_0 : decode cX9_station 0 = .ok (.aload_n 0, 1) := by decide +kernel
theorem dX9_station_1 : decode cX9_station 1 = .ok (.iconst 0, 1) := by decide +kernel
theorem dX9_station_2 : decode cX9_station 2 = .ok (.putfield 1, 3) := by decide +kernel
theorem dX9_station_5 : decode cX9_station 5 = .ok (.aload_n 0, 1) := by decide +kernel
theorem dX9_station_6 : decode cX9_station 6 = .ok (.invokevirtual 304, 3) := by decide +kernel
theorem dX9_station_9 : decode cX9_station 9 = .ok (.aload_n 0, 1) := by decide +kernel
theorem dX9_station_10 : decode cX9_station 10 = .ok (.iconst 1, 1) := by decide +kernel
theorem dX9_station_11 : decode cX9_station 11 = .ok (.aload_n 0, 1) := by decide +kernel
theorem dX9_station_12 : decode cX9_station 12 = .ok (.getfield 307, 3) := by decide +kernel
theorem dX9_station_15 : decode cX9_station 15 = .ok (.isub, 1) := by decide +kernel
theorem dX9_station_16 : decode cX9_station 16 = .ok (.putfield 297, 3) := by decide +kernel
theorem dX9_station_19 : decode cX9_station 19 = .ok (.aload_n 0, 1) := by decide +kernel
theorem dX9_station_20 : decode cX9_station 20 = .ok (.getfield 43, 3) := by decide +kernel
theorem dX9_station_23 : decode cX9_station 23 = .ok (.aload_n 0, 1) := by decide +kernel
theorem dX9_station_24 : decode cX9_station 24 = .ok (.getfield 297, 3) := by decide +kernel
theorem dX9_station_27 : decode cX9_station 27 = .ok (.iconst 0, 1) := by decide +kernel
theorem dX9_station_28 : decode cX9_station 28 = .ok (.iastore, 1) := by decide +kernel
theorem dX9_station_29 : decode cX9_station 29 = .ok (.aload_n 0, 1) := by decide +kernel
theorem dX9_station_30 : decode cX9_station 30 = .ok (.getfield 58, 3) := by decide +kernel
theorem dX9_station_33 : decode cX9_station 33 = .ok (.aload_n 0, 1) := by decide +kernel
theorem dX9_station_34 : decode cX9_station 34 = .ok (.getfield 297, 3) := by decide +kernel
theorem dX9_station_37 : decode cX9_station 37 = .ok (.iconst 0, 1) := by decide +kernel
theorem dX9_station_38 : decode cX9_station 38 = .ok (.iastore, 1) := by decide +kernel
theorem dX9_station_39 : decode cX9_station 39 = .ok (.aload_n 0, 1) := by decide +kernel
theorem dX9_station_40 : decode cX9_station 40 = .ok (.getfield 110, 3) := by decide +kernel
theorem dX9_station_43 : decode cX9_station 43 = .ok (.aload_n 0, 1) := by decide +kernel
theorem dX9_station_44 : decode cX9_station 44 = .ok (.getfield 297, 3) := by decide +kernel
theorem dX9_station_47 : decode cX9_station 47 = .ok (.iconst 0, 1) := by decide +kernel
theorem dX9_station_48 : decode cX9_station 48 = .ok (.iastore, 1) := by decide +kernel
theorem dX9_station_49 : decode cX9_station 49 = .ok (.aload_n 0, 1) := by decide +kernel
theorem dX9_station_50 : decode cX9_station 50 = .ok (.iconst 0, 1) := by decide +kernel
theorem dX9_station_51 : decode cX9_station 51 = .ok (.putfield 310, 3) := by decide +kernel
theorem dX9_station_54 : decode cX9_station 54 = .ok (.aload_n 0, 1) := by decide +kernel
theorem dX9_station_55 : decode cX9_station 55 = .ok (.sipush 10000, 3) := by decide +kernel
theorem dX9_station_58 : decode cX9_station 58 = .ok (.aload_n 0, 1) := by decide +kernel
theorem dX9_station_59 : decode cX9_station 59 = .ok (.getfield 297, 3) := by decide +kernel
theorem dX9_station_62 : decode cX9_station 62 = .ok (.imul, 1) := by decide +kernel
theorem dX9_station_63 : decode cX9_station 63 = .ok (.putfield 313, 3) := by decide +kernel
theorem dX9_station_66 : decode cX9_station 66 = .ok (.aload_n 0, 1) := by decide +kernel
theorem dX9_station_67 : decode cX9_station 67 = .ok (.iconst 0, 1) := by decide +kernel
theorem dX9_station_68 : decode cX9_station 68 = .ok (.putfield 316, 3) := by decide +kernel
theorem dX9_station_71 : decode cX9_station 71 = .ok (.iconst 0, 1) := by decide +kernel
theorem dX9_station_72 : decode cX9_station 72 = .ok (.istore_n 1, 1) := by decide +kernel
theorem dX9_station_73 : decode cX9_station 73 = .ok (.iload_n 1, 1) := by decide +kernel
theorem dX9_station_74 : decode cX9_station 74 = .ok (.sipush 576, 3) := by decide +kernel
theorem dX9_station_77 : decode cX9_station 77 = .ok (.if_icmp .ge 25, 3) := by decide +kernel
theorem dX9_station_80 : decode cX9_station 80 = .ok (.aload_n 0, 1) := by decide +kernel
theorem dX9_station_81 : decode cX9_station 81 = .ok (.getfield 107, 3) := by decide +kernel
theorem dX9_station_84 : decode cX9_station 84 = .ok (.sipush 576, 3) := by decide +kernel
theorem dX9_station_87 : decode cX9_station 87 = .ok (.aload_n 0, 1) := by decide +kernel
theorem dX9_station_88 : decode cX9_station 88 = .ok (.getfield 297, 3) := by decide +kernel
theorem dX9_station_91 : decode cX9_station 91 = .ok (.imul, 1) := by decide +kernel
theorem dX9_station_92 : decode cX9_station 92 = .ok (.iload_n 1, 1) := by decide +kernel
theorem dX9_station_93 : decode cX9_station 93 = .ok (.iadd, 1) := by decide +kernel
theorem dX9_station_94 : decode cX9_station 94 = .ok (.iconst 0, 1) := by decide +kernel
theorem dX9_station_95 : decode cX9_station 95 = .ok (.bastore, 1) := by decide +kernel
theorem dX9_station_96 : decode cX9_station 96 = .ok (.iinc 1 1, 3) := by decide +kernel
theorem dX9_station_99 : decode cX9_station 99 = .ok (.goto (-26), 3) := by decide +kernel
theorem dX9_station_102 : decode cX9_station 102 = .ok (.aload_n 0, 1) := by decide +kernel
theorem dX9_station_103 : decode cX9_station 103 = .ok (.getfield 281, 3) := by decide +kernel
theorem dX9_station_106 : decode cX9_station 106 = .ok (.ifCond .ne 86, 3) := by decide +kernel
theorem dX9_station_109 : decode cX9_station 109 = .ok (.aload_n 0, 1) := by decide +kernel
theorem dX9_station_110 : decode cX9_station 110 = .ok (.getfield 24, 3) := by decide +kernel
theorem dX9_station_113 : decode cX9_station 113 = .ok (.aload_n 0, 1) := by decide +kernel
theorem dX9_station_114 : decode cX9_station 114 = .ok (.getfield 278, 3) := by decide +kernel
theorem dX9_station_117 : decode cX9_station 117 = .ok (.iaload, 1) := by decide +kernel
theorem dX9_station_118 : decode cX9_station 118 = .ok (.ifCond .eq 74, 3) := by decide +kernel
theorem dX9_station_121 : decode cX9_station 121 = .ok (.aload_n 0, 1) := by decide +kernel
theorem dX9_station_122 : decode cX9_station 122 = .ok (.iconst 0, 1) := by decide +kernel
theorem dX9_station_123 : decode cX9_station 123 = .ok (.invokevirtual 291, 3) := by decide +kernel
theorem dX9_station_126 : decode cX9_station 126 = .ok (.ifCond .eq 10, 3) := by decide +kernel
theorem dX9_station_129 : decode cX9_station 129 = .ok (.aload_n 0, 1) := by decide +kernel
theorem dX9_station_130 : decode cX9_station 130 = .ok (.invokevirtual 319, 3) := by decide +kernel
theorem dX9_station_133 : decode cX9_station 133 = .ok (.goto (-31), 3) := by decide +kernel
theorem dX9_station_136 : decode cX9_station 136 = .ok (.aload_n 0, 1) := by decide +kernel
theorem dX9_station_137 : decode cX9_station 137 = .ok (.iconst 4, 1) := by decide +kernel
theorem dX9_station_138 : decode cX9_station 138 = .ok (.invokevirtual 291, 3) := by decide +kernel
theorem dX9_station_141 : decode cX9_station 141 = .ok (.ifCond .ne 20, 3) := by decide +kernel
theorem dX9_station_144 : decode cX9_station 144 = .ok (.aload_n 0, 1) := by decide +kernel
theorem dX9_station_145 : decode cX9_station 145 = .ok (.iconst 5, 1) := by decide +kernel
theorem dX9_station_146 : decode cX9_station 146 = .ok (.invokevirtual 291, 3) := by decide +kernel
theorem dX9_station_149 : decode cX9_station 149 = .ok (.ifCond .ne 12, 3) := by decide +kernel
theorem dX9_station_152 : decode cX9_station 152 = .ok (.aload_n 0, 1) := by decide +kernel
theorem dX9_station_153 : decode cX9_station 153 = .ok (.bipush 7, 2) := by decide +kernel
theorem dX9_station_155 : decode cX9_station 155 = .ok (.invokevirtual 291, 3) := by decide +kernel
theorem dX9_station_158 : decode cX9_station 158 = .ok (.ifCond .eq 10, 3) := by decide +kernel
theorem dX9_station_161 : decode cX9_station 161 = .ok (.aload_n 0, 1) := by decide +kernel
theorem dX9_station_162 : decode cX9_station 162 = .ok (.invokevirtual 322, 3) := by decide +kernel
theorem dX9_station_165 : decode cX9_station 165 = .ok (.goto (-63), 3) := by decide +kernel
theorem dX9_station_168 : decode cX9_station 168 = .ok (.aload_n 0, 1) := by decide +kernel
theorem dX9_station_169 : decode cX9_station 169 = .ok (.bipush 10, 2) := by decide +kernel
theorem dX9_station_171 : decode cX9_station 171 = .ok (.invokevirtual 291, 3) := by decide +kernel
theorem dX9_station_174 : decode cX9_station 174 = .ok (.ifCond .eq 10, 3) := by decide +kernel
theorem dX9_station_177 : decode cX9_station 177 = .ok (.aload_n 0, 1) := by decide +kernel
theorem dX9_station_178 : decode cX9_station 178 = .ok (.invokevirtual 325, 3) := by decide +kernel
theorem dX9_station_181 : decode cX9_station 181 = .ok (.goto (-79), 3) := by decide +kernel
theorem dX9_station_184 : decode cX9_station 184 = .ok (.aload_n 0, 1) := by decide +kernel
theorem dX9_station_185 : decode cX9_station 185 = .ok (.iconst 1, 1) := by decide +kernel
theorem dX9_station_186 : decode cX9_station 186 = .ok (.invokevirtual 287, 3) := by decide +kernel
theorem dX9_station_189 : decode cX9_station 189 = .ok (.goto (-87), 3) := by decide +kernel
theorem dX9_station_192 : decode cX9_station 192 = .ok (.iconst 0, 1) := by decide +kernel
theorem dX9_station_193 : decode cX9_station 193 = .ok (.istore_n 1, 1) := by decide +kernel
theorem dX9_station_194 : decode cX9_station 194 = .ok (.iload_n 1, 1) := by decide +kernel
theorem dX9_station_195 : decode cX9_station 195 = .ok (.aload_n 0, 1) := by decide +kernel
theorem dX9_station_196 : decode cX9_station 196 = .ok (.getfield 316, 3) := by decide +kernel
theorem dX9_station_199 : decode cX9_station 199 = .ok (.if_icmp .ge 21, 3) := by decide +kernel
theorem dX9_station_202 : decode cX9_station 202 = .ok (.aload_n 0, 1) := by decide +kernel
theorem dX9_station_203 : decode cX9_station 203 = .ok (.getfield 281, 3) := by decide +kernel
theorem dX9_station_206 : decode cX9_station 206 = .ok (.ifCond .ne 14, 3) := by decide +kernel
theorem dX9_station_209 : decode cX9_station 209 = .ok (.aload_n 0, 1) := by decide +kernel
theorem dX9_station_210 : decode cX9_station 210 = .ok (.iload_n 1, 1) := by decide +kernel
theorem dX9_station_211 : decode cX9_station 211 = .ok (.invokevirtual 328, 3) := by decide +kernel
theorem dX9_station_214 : decode cX9_station 214 = .ok (.iinc 1 1, 3) := by decide +kernel
theorem dX9_station_217 : decode cX9_station 217 = .ok (.goto (-23), 3) := by decide +kernel
theorem dX9_station_220 : decode cX9_station 220 = .ok (.aload_n 0, 1) := by decide +kernel
theorem dX9_station_221 : decode cX9_station 221 = .ok (.getfield 281, 3) := by decide +kernel
theorem dX9_station_224 : decode cX9_station 224 = .ok (.ifCond .ne 19, 3) := by decide +kernel
theorem dX9_station_227 : decode cX9_station 227 = .ok (.aload_n 0, 1) := by decide +kernel
theorem dX9_station_228 : decode cX9_station 228 = .ok (.invokevirtual 331, 3) := by decide +kernel
theorem dX9_station_231 : decode cX9_station 231 = .ok (.aload_n 0, 1) := by decide +kernel
theorem dX9_station_232 : decode cX9_station 232 = .ok (.aload_n 0, 1) := by decide +kernel
theorem dX9_station_233 : decode cX9_station 233 = .ok (.getfield 297, 3) := by decide +kernel
theorem dX9_station_236 : decode cX9_station 236 = .ok (.putfield 307, 3) := by decide +kernel
theorem dX9_station_239 : decode cX9_station 239 = .ok (.aload_n 0, 1) := by decide +kernel
theorem dX9_station_240 : decode cX9_station 240 = .ok (.invokevirtual 334, 3) := by decide +kernel
theorem dX9_station_243 : decode cX9_station 243 = .ok (.aload_n 0, 1) := by decide +kernel
theorem dX9_station_244 : decode cX9_station 244 = .ok (.getfield 281, 3) := by decide +kernel
theorem dX9_station_247 : decode cX9_station 247 = .ok (.ireturn, 1) := by decide +kernel
theorem dX9_newName_0 : decode cX9_newName 0 = .ok (.aload_n 0, 1) := by decide +kernel
theorem dX9_newName_1 : decode cX9_newName 1 = .ok (.getfield 281, 3) := by decide +kernel
theorem dX9_newName_4 : decode cX9_newName 4 = .ok (.ifCond .ne 18, 3) := by decide +kernel
theorem dX9_newName_7 : decode cX9_newName 7 = .ok (.aload_n 0, 1) := by decide +kernel
theorem dX9_newName_8 : decode cX9_newName 8 = .ok (.invokevirtual 337, 3) := by decide +kernel
theorem dX9_newName_11 : decode cX9_newName 11 = .ok (.ifCond .ne 11, 3) := by decide +kernel
theorem dX9_newName_14 : decode cX9_newName 14 = .ok (.aload_n 0, 1) := by decide +kernel
theorem dX9_newName_15 : decode cX9_newName 15 = .ok (.iconst 1, 1) := by decide +kernel
theorem dX9_newName_16 : decode cX9_newName 16 = .ok (.invokevirtual 287, 3) := by decide +kernel
theorem dX9_newName_19 : decode cX9_newName 19 = .ok (.goto 103, 3) := by decide +kernel
theorem dX9_newName_22 : decode cX9_newName 22 = .ok (.aload_n 0, 1) := by decide +kernel
theorem dX9_newName_23 : decode cX9_newName 23 = .ok (.getfield 281, 3) := by decide +kernel
theorem dX9_newName_26 : decode cX9_newName 26 = .ok (.ifCond .ne 96, 3) := by decide +kernel
theorem dX9_newName_29 : decode cX9_newName 29 = .ok (.aload_n 0, 1) := by decide +kernel
theorem dX9_newName_30 : decode cX9_newName 30 = .ok (.aload_n 0, 1) := by decide +kernel
theorem dX9_newName_31 : decode cX9_newName 31 = .ok (.getfield 46, 3) := by decide +kernel
theorem dX9_newName_34 : decode cX9_newName 34 = .ok (.bipush 24, 2) := by decide +kernel
theorem dX9_newName_36 : decode cX9_newName 36 = .ok (.aload_n 0, 1) := by decide +kernel
theorem dX9_newName_37 : decode cX9_newName 37 = .ok (.getfield 297, 3) := by decide +kernel
theorem dX9_newName_40 : decode cX9_newName 40 = .ok (.imul, 1) := by decide +kernel
theorem dX9_newName_41 : decode cX9_newName 41 = .ok (.aload_n 0, 1) := by decide +kernel
theorem dX9_newName_42 : decode cX9_newName 42 = .ok (.getfield 43, 3) := by decide +kernel
theorem dX9_newName_45 : decode cX9_newName 45 = .ok (.aload_n 0, 1) := by decide +kernel
theorem dX9_newName_46 : decode cX9_newName 46 = .ok (.getfield 297, 3) := by decide +kernel
theorem dX9_newName_49 : decode cX9_newName 49 = .ok (.iaload, 1) := by decide +kernel
theorem dX9_newName_50 : decode cX9_newName 50 = .ok (.aload_n 0, 1) := by decide +kernel
theorem dX9_newName_51 : decode cX9_newName 51 = .ok (.getfield 30, 3) := by decide +kernel
theorem dX9_newName_54 : decode cX9_newName 54 = .ok (.aload_n 0, 1) := by decide +kernel
theorem dX9_newName_55 : decode cX9_newName 55 = .ok (.getfield 278, 3) := by decide +kernel
theorem dX9_newName_58 : decode cX9_newName 58 = .ok (.laload, 1) := by decide +kernel
theorem dX9_newName_59 : decode cX9_newName 59 = .ok (.invokevirtual 300, 3) := by decide +kernel
theorem dX9_newName_62 : decode cX9_newName 62 = .ok (.ifCond .ge 55, 3) := by decide +kernel
theorem dX9_newName_65 : decode cX9_newName 65 = .ok (.aload_n 0, 1) := by decide +kernel
theorem dX9_newName_66 : decode cX9_newName 66 = .ok (.aload_n 0, 1) := by decide +kernel
theorem dX9_newName_67 : decode cX9_newName 67 = .ok (.getfield 30, 3) := by decide +kernel
theorem dX9_newName_70 : decode cX9_newName 70 = .ok (.aload_n 0, 1) := by decide +kernel
theorem dX9_newName_71 : decode cX9_newName 71 = .ok (.getfield 278, 3) := by decide +kernel
theorem dX9_newName_74 : decode cX9_newName 74 = .ok (.laload, 1) := by decide +kernel
theorem dX9_newName_75 : decode cX9_newName 75 = .ok (.invokevirtual 341, 3) := by decide +kernel
theorem dX9_newName_78 : decode cX9_newName 78 = .ok (.ifCond .ge 39, 3) := by decide +kernel
theorem dX9_newName_81 : decode cX9_newName 81 = .ok (.aload_n 0, 1) := by decide +kernel
theorem dX9_newName_82 : decode cX9_newName 82 = .ok (.aload_n 0, 1) := by decide +kernel
theorem dX9_newName_83 : decode cX9_newName 83 = .ok (.getfield 113, 3) := by decide +kernel
theorem dX9_newName_86 : decode cX9_newName 86 = .ok (.bipush 20, 2) := by decide +kernel
theorem dX9_newName_88 : decode cX9_newName 88 = .ok (.aload_n 0, 1) := by decide +kernel
theorem dX9_newName_89 : decode cX9_newName 89 = .ok (.getfield 297, 3) := by decide +kernel
theorem dX9_newName_92 : decode cX9_newName 92 = .ok (.imul, 1) := by decide +kernel
theorem dX9_newName_93 : decode cX9_newName 93 = .ok (.aload_n 0, 1) := by decide +kernel
theorem dX9_newName_94 : decode cX9_newName 94 = .ok (.getfield 110, 3) := by decide +kernel
theorem dX9_newName_97 : decode cX9_newName 97 = .ok (.aload_n 0, 1) := by decide +kernel
theorem dX9_newName_98 : decode cX9_newName 98 = .ok (.getfield 297, 3) := by decide +kernel
theorem dX9_newName_101 : decode cX9_newName 101 = .ok (.iaload, 1) := by decide +kernel
theorem dX9_newName_102 : decode cX9_newName 102 = .ok (.aload_n 0, 1) := by decide +kernel
theorem dX9_newName_103 : decode cX9_newName 103 = .ok (.getfield 30, 3) := by decide +kernel
theorem dX9_newName_106 : decode cX9_newName 106 = .ok (.aload_n 0, 1) := by decide +kernel
theorem dX9_newName_107 : decode cX9_newName 107 = .ok (.getfield 278, 3) := by decide +kernel
theorem dX9_newName_110 : decode cX9_newName 110 = .ok (.laload, 1) := by decide +kernel
theorem dX9_newName_111 : decode cX9_newName 111 = .ok (.invokevirtual 300, 3) := by decide +kernel
theorem dX9_newName_114 : decode cX9_newName 114 = .ok (.ifCond .lt 8, 3) := by decide +kernel
theorem dX9_newName_117 : decode cX9_newName 117 = .ok (.aload_n 0, 1) := by decide +kernel
theorem dX9_newName_118 : decode cX9_newName 118 = .ok (.iconst 3, 1) := by decide +kernel
theorem dX9_newName_119 : decode cX9_newName 119 = .ok (.invokevirtual 287, 3) := by decide +kernel
theorem dX9_newName_122 : decode cX9_newName 122 = .ok (.aload_n 0, 1) := by decide +kernel
theorem dX9_newName_123 : decode cX9_newName 123 = .ok (.dup, 1) := by decide +kernel
theorem dX9_newName_124 : decode cX9_newName 124 = .ok (.getfield 278, 3) := by decide +kernel
theorem dX9_newName_127 : decode cX9_newName 127 = .ok (.iconst 1, 1) := by decide +kernel
theorem dX9_newName_128 : decode cX9_newName 128 = .ok (.iadd, 1) := by decide +kernel
theorem dX9_newName_129 : decode cX9_newName 129 = .ok (.putfield 278, 3) := by decide +kernel
theorem dX9_newName_132 : decode cX9_newName 132 = .ok (.aload_n 0, 1) := by decide +kernel
theorem dX9_newName_133 : decode cX9_newName 133 = .ok (.getfield 30, 3) := by decide +kernel
theorem dX9_newName_136 : decode cX9_newName 136 = .ok (.aload_n 0, 1) := by decide +kernel
theorem dX9_newName_137 : decode cX9_newName 137 = .ok (.getfield 278, 3) := by decide +kernel
theorem dX9_newName_140 : decode cX9_newName 140 = .ok (.iconst 1, 1) := by decide +kernel
theorem dX9_newName_141 : decode cX9_newName 141 = .ok (.isub, 1) := by decide +kernel
theorem dX9_newName_142 : decode cX9_newName 142 = .ok (.laload, 1) := by decide +kernel
theorem dX9_newName_143 : decode cX9_newName 143 = .ok (.lreturn, 1) := by decide +kernel
theorem dX9_toldDevice_0 : decode cX9_toldDevice 0 = .ok (.bipush 24, 2) := by decide +kernel
theorem dX9_toldDevice_2 : decode cX9_toldDevice 2 = .ok (.aload_n 0, 1) := by decide +kernel
theorem dX9_toldDevice_3 : decode cX9_toldDevice 3 = .ok (.getfield 297, 3) := by decide +kernel
theorem dX9_toldDevice_6 : decode cX9_toldDevice 6 = .ok (.imul, 1) := by decide +kernel
theorem dX9_toldDevice_7 : decode cX9_toldDevice 7 = .ok (.aload_n 0, 1) := by decide +kernel
theorem dX9_toldDevice_8 : decode cX9_toldDevice 8 = .ok (.getfield 43, 3) := by decide +kernel
theorem dX9_toldDevice_11 : decode cX9_toldDevice 11 = .ok (.aload_n 0, 1) := by decide +kernel
theorem dX9_toldDevice_12 : decode cX9_toldDevice 12 = .ok (.getfield 297, 3) := by decide +kernel
theorem dX9_toldDevice_15 : decode cX9_toldDevice 15 = .ok (.iaload, 1) := by decide +kernel
theorem dX9_toldDevice_16 : decode cX9_toldDevice 16 = .ok (.iadd, 1) := by decide +kernel
theorem dX9_toldDevice_17 : decode cX9_toldDevice 17 = .ok (.istore_n 1, 1) := by decide +kernel
theorem dX9_toldDevice_18 : decode cX9_toldDevice 18 = .ok (.aload_n 0, 1) := by decide +kernel
theorem dX9_toldDevice_19 : decode cX9_toldDevice 19 = .ok (.getfield 43, 3) := by decide +kernel
theorem dX9_toldDevice_22 : decode cX9_toldDevice 22 = .ok (.aload_n 0, 1) := by decide +kernel
theorem dX9_toldDevice_23 : decode cX9_toldDevice 23 = .ok (.getfield 297, 3) := by decide +kernel
theorem dX9_toldDevice_26 : decode cX9_toldDevice 26 = .ok (.iaload, 1) := by decide +kernel
theorem dX9_toldDevice_27 : decode cX9_toldDevice 27 = .ok (.bipush 24, 2) := by decide +kernel
theorem dX9_toldDevice_29 : decode cX9_toldDevice 29 = .ok (.if_icmp .ne 9, 3) := by decide +kernel
theorem dX9_toldDevice_32 : decode cX9_toldDevice 32 = .ok (.aload_n 0, 1) := by decide +kernel
theorem dX9_toldDevice_33 : decode cX9_toldDevice 33 = .ok (.iconst 5, 1) := by decide +kernel
theorem dX9_toldDevice_34 : decode cX9_toldDevice 34 = .ok (.invokevirtual 287, 3) := by decide +kernel
theorem dX9_toldDevice_37 : decode cX9_toldDevice 37 = .ok (.return_, 1) := by decide +kernel
theorem dX9_toldDevice_38 : decode cX9_toldDevice 38 = .ok (.aload_n 0, 1) := by decide +kernel
theorem dX9_toldDevice_39 : decode cX9_toldDevice 39 = .ok (.dup, 1) := by decide +kernel
theorem dX9_toldDevice_40 : decode cX9_toldDevice 40 = .ok (.getfield 278, 3) := by decide +kernel
theorem dX9_toldDevice_43 : decode cX9_toldDevice 43 = .ok (.iconst 1, 1) := by decide +kernel
theorem dX9_toldDevice_44 : decode cX9_toldDevice 44 = .ok (.iadd, 1) := by decide +kernel
theorem dX9_toldDevice_45 : decode cX9_toldDevice 45 = .ok (.putfield 278, 3) := by decide +kernel
theorem dX9_toldDevice_48 : decode cX9_toldDevice 48 = .ok (.aload_n 0, 1) := by decide +kernel
theorem dX9_toldDevice_49 : decode cX9_toldDevice 49 = .ok (.getfield 46, 3) := by decide +kernel
theorem dX9_toldDevice_52 : decode cX9_toldDevice 52 = .ok (.iload_n 1, 1) := by decide +kernel
theorem dX9_toldDevice_53 : decode cX9_toldDevice 53 = .ok (.aload_n 0, 1) := by decide +kernel
theorem dX9_toldDevice_54 : decode cX9_toldDevice 54 = .ok (.invokevirtual 345, 3) := by decide +kernel
theorem dX9_toldDevice_57 : decode cX9_toldDevice 57 = .ok (.lastore, 1) := by decide +kernel
theorem dX9_toldDevice_58 : decode cX9_toldDevice 58 = .ok (.aload_n 0, 1) := by decide +kernel
theorem dX9_toldDevice_59 : decode cX9_toldDevice 59 = .ok (.iconst 1, 1) := by decide +kernel
theorem dX9_toldDevice_60 : decode cX9_toldDevice 60 = .ok (.invokevirtual 349, 3) := by decide +kernel
theorem dX9_toldDevice_63 : decode cX9_toldDevice 63 = .ok (.aload_n 0, 1) := by decide +kernel
theorem dX9_toldDevice_64 : decode cX9_toldDevice 64 = .ok (.getfield 49, 3) := by decide +kernel
theorem dX9_toldDevice_67 : decode cX9_toldDevice 67 = .ok (.iload_n 1, 1) := by decide +kernel
theorem dX9_toldDevice_68 : decode cX9_toldDevice 68 = .ok (.aload_n 0, 1) := by decide +kernel
theorem dX9_toldDevice_69 : decode cX9_toldDevice 69 = .ok (.iconst 0, 1) := by decide +kernel
theorem dX9_toldDevice_70 : decode cX9_toldDevice 70 = .ok (.ldc_w 352, 3) := by decide +kernel
theorem dX9_toldDevice_73 : decode cX9_toldDevice 73 = .ok (.invokevirtual 353, 3) := by decide +kernel
theorem dX9_toldDevice_76 : decode cX9_toldDevice 76 = .ok (.iastore, 1) := by decide +kernel
theorem dX9_toldDevice_77 : decode cX9_toldDevice 77 = .ok (.aload_n 0, 1) := by decide +kernel
theorem dX9_toldDevice_78 : decode cX9_toldDevice 78 = .ok (.iconst 2, 1) := by decide +kernel
theorem dX9_toldDevice_79 : decode cX9_toldDevice 79 = .ok (.invokevirtual 349, 3) := by decide +kernel
theorem dX9_toldDevice_82 : decode cX9_toldDevice 82 = .ok (.aload_n 0, 1) := by decide +kernel
theorem dX9_toldDevice_83 : decode cX9_toldDevice 83 = .ok (.getfield 52, 3) := by decide +kernel
theorem dX9_toldDevice_86 : decode cX9_toldDevice 86 = .ok (.iload_n 1, 1) := by decide +kernel
theorem dX9_toldDevice_87 : decode cX9_toldDevice 87 = .ok (.aload_n 0, 1) := by decide +kernel
theorem dX9_toldDevice_88 : decode cX9_toldDevice 88 = .ok (.aload_n 0, 1) := by decide +kernel
theorem dX9_toldDevice_89 : decode cX9_toldDevice 89 = .ok (.getfield 49, 3) := by decide +kernel
theorem dX9_toldDevice_92 : decode cX9_toldDevice 92 = .ok (.iload_n 1, 1) := by decide +kernel
theorem dX9_toldDevice_93 : decode cX9_toldDevice 93 = .ok (.iaload, 1) := by decide +kernel
theorem dX9_toldDevice_94 : decode cX9_toldDevice 94 = .ok (.ldc_w 352, 3) := by decide +kernel
theorem dX9_toldDevice_97 : decode cX9_toldDevice 97 = .ok (.invokevirtual 353, 3) := by decide +kernel
theorem dX9_toldDevice_100 : decode cX9_toldDevice 100 = .ok (.iastore, 1) := by decide +kernel
theorem dX9_toldDevice_101 : decode cX9_toldDevice 101 = .ok (.aload_n 0, 1) := by decide +kernel
theorem dX9_toldDevice_102 : decode cX9_toldDevice 102 = .ok (.iconst 3, 1) := by decide +kernel
theorem dX9_toldDevice_103 : decode cX9_toldDevice 103 = .ok (.invokevirtual 349, 3) := by decide +kernel
theorem dX9_toldDevice_106 : decode cX9_toldDevice 106 = .ok (.aload_n 0, 1) := by decide +kernel
theorem dX9_toldDevice_107 : decode cX9_toldDevice 107 = .ok (.getfield 55, 3) := by decide +kernel
theorem dX9_toldDevice_110 : decode cX9_toldDevice 110 = .ok (.iload_n 1, 1) := by decide +kernel
theorem dX9_toldDevice_111 : decode cX9_toldDevice 111 = .ok (.aload_n 0, 1) := by decide +kernel
theorem dX9_toldDevice_112 : decode cX9_toldDevice 112 = .ok (.iconst 1, 1) := by decide +kernel
theorem dX9_toldDevice_113 : decode cX9_toldDevice 113 = .ok (.ldc_w 352, 3) := by decide +kernel
theorem dX9_toldDevice_116 : decode cX9_toldDevice 116 = .ok (.invokevirtual 353, 3) := by decide +kernel
theorem dX9_toldDevice_119 : decode cX9_toldDevice 119 = .ok (.iastore, 1) := by decide +kernel
theorem dX9_toldDevice_120 : decode cX9_toldDevice 120 = .ok (.aload_n 0, 1) := by decide +kernel
theorem dX9_toldDevice_121 : decode cX9_toldDevice 121 = .ok (.bipush 59, 2) := by decide +kernel
theorem dX9_toldDevice_123 : decode cX9_toldDevice 123 = .ok (.invokevirtual 357, 3) := by decide +kernel
theorem dX9_toldDevice_126 : decode cX9_toldDevice 126 = .ok (.aload_n 0, 1) := by decide +kernel
theorem dX9_toldDevice_127 : decode cX9_toldDevice 127 = .ok (.getfield 43, 3) := by decide +kernel
theorem dX9_toldDevice_130 : decode cX9_toldDevice 130 = .ok (.aload_n 0, 1) := by decide +kernel
theorem dX9_toldDevice_131 : decode cX9_toldDevice 131 = .ok (.getfield 297, 3) := by decide +kernel
theorem dX9_toldDevice_134 : decode cX9_toldDevice 134 = .ok (.dup2, 1) := by decide +kernel
theorem dX9_toldDevice_135 : decode cX9_toldDevice 135 = .ok (.iaload, 1) := by decide +kernel
theorem dX9_toldDevice_136 : decode cX9_toldDevice 136 = .ok (.iconst 1, 1) := by decide +kernel
theorem dX9_toldDevice_137 : decode cX9_toldDevice 137 = .ok (.iadd, 1) := by decide +kernel
theorem dX9_toldDevice_138 : decode cX9_toldDevice 138 = .ok (.iastore, 1) := by decide +kernel
theorem dX9_toldDevice_139 : decode cX9_toldDevice 139 = .ok (.return_, 1) := by decide +kernel
theorem dX9_takeUnit_0 : decode cX9_takeUnit 0 = .ok (.aload_n 0, 1) := by decide +kernel
theorem dX9_takeUnit_1 : decode cX9_takeUnit 1 = .ok (.getfield 281, 3) := by decide +kernel
theorem dX9_takeUnit_4 : decode cX9_takeUnit 4 = .ok (.ifCond .ne 15, 3) := by decide +kernel
theorem dX9_takeUnit_7 : decode cX9_takeUnit 7 = .ok (.aload_n 0, 1) := by decide +kernel
theorem dX9_takeUnit_8 : decode cX9_takeUnit 8 = .ok (.invokevirtual 337, 3) := by decide +kernel
theorem dX9_takeUnit_11 : decode cX9_takeUnit 11 = .ok (.ifCond .ne 8, 3) := by decide +kernel
theorem dX9_takeUnit_14 : decode cX9_takeUnit 14 = .ok (.aload_n 0, 1) := by decide +kernel
theorem dX9_takeUnit_15 : decode cX9_takeUnit 15 = .ok (.iconst 1, 1) := by decide +kernel
theorem dX9_takeUnit_16 : decode cX9_takeUnit 16 = .ok (.invokevirtual 287, 3) := by decide +kernel
theorem dX9_takeUnit_19 : decode cX9_takeUnit 19 = .ok (.aload_n 0, 1) := by decide +kernel
theorem dX9_takeUnit_20 : decode cX9_takeUnit 20 = .ok (.getfield 281, 3) := by decide +kernel
theorem dX9_takeUnit_23 : decode cX9_takeUnit 23 = .ok (.ifCond .ne 19, 3) := by decide +kernel
theorem dX9_takeUnit_26 : decode cX9_takeUnit 26 = .ok (.aload_n 0, 1) := by decide +kernel
theorem dX9_takeUnit_27 : decode cX9_takeUnit 27 = .ok (.aload_n 0, 1) := by decide +kernel
theorem dX9_takeUnit_28 : decode cX9_takeUnit 28 = .ok (.getfield 30, 3) := by decide +kernel
theorem dX9_takeUnit_31 : decode cX9_takeUnit 31 = .ok (.aload_n 0, 1) := by decide +kernel
theorem dX9_takeUnit_32 : decode cX9_takeUnit 32 = .ok (.getfield 278, 3) := by decide +kernel
theorem dX9_takeUnit_35 : decode cX9_takeUnit 35 = .ok (.laload, 1) := by decide +kernel
theorem dX9_takeUnit_36 : decode cX9_takeUnit 36 = .ok (.invokevirtual 341, 3) := by decide +kernel
theorem dX9_takeUnit_39 : decode cX9_takeUnit 39 = .ok (.goto 4, 3) := by decide +kernel
theorem dX9_takeUnit_42 : decode cX9_takeUnit 42 = .ok (.iconst (-1), 1) := by decide +kernel
theorem dX9_takeUnit_43 : decode cX9_takeUnit 43 = .ok (.istore_n 2, 1) := by decide +kernel
theorem dX9_takeUnit_44 : decode cX9_takeUnit 44 = .ok (.aload_n 0, 1) := by decide +kernel
theorem dX9_takeUnit_45 : decode cX9_takeUnit 45 = .ok (.getfield 281, 3) := by decide +kernel
theorem dX9_takeUnit_48 : decode cX9_takeUnit 48 = .ok (.ifCond .ne 15, 3) := by decide +kernel
theorem dX9_takeUnit_51 : decode cX9_takeUnit 51 = .ok (.iload_n 2, 1) := by decide +kernel
theorem dX9_takeUnit_52 : decode cX9_takeUnit 52 = .ok (.ifCond .ge 11, 3) := by decide +kernel
theorem dX9_takeUnit_55 : decode cX9_takeUnit 55 = .ok (.aload_n 0, 1) := by decide +kernel
theorem dX9_takeUnit_56 : decode cX9_takeUnit 56 = .ok (.iconst 2, 1) := by decide +kernel
theorem dX9_takeUnit_57 : decode cX9_takeUnit 57 = .ok (.invokevirtual 287, 3) := by decide +kernel
theorem dX9_takeUnit_60 : decode cX9_takeUnit 60 = .ok (.goto 34, 3) := by decide +kernel
theorem dX9_takeUnit_63 : decode cX9_takeUnit 63 = .ok (.aload_n 0, 1) := by decide +kernel
theorem dX9_takeUnit_64 : decode cX9_takeUnit 64 = .ok (.getfield 281, 3) := by decide +kernel
theorem dX9_takeUnit_67 : decode cX9_takeUnit 67 = .ok (.ifCond .ne 27, 3) := by decide +kernel
theorem dX9_takeUnit_70 : decode cX9_takeUnit 70 = .ok (.aload_n 0, 1) := by decide +kernel
theorem dX9_takeUnit_71 : decode cX9_takeUnit 71 = .ok (.getfield 64, 3) := by decide +kernel
theorem dX9_takeUnit_74 : decode cX9_takeUnit 74 = .ok (.bipush 24, 2) := by decide +kernel
theorem dX9_takeUnit_76 : decode cX9_takeUnit 76 = .ok (.aload_n 0, 1) := by decide +kernel
theorem dX9_takeUnit_77 : decode cX9_takeUnit 77 = .ok (.getfield 297, 3) := by decide +kernel
theorem dX9_takeUnit_80 : decode cX9_takeUnit 80 = .ok (.imul, 1) := by decide +kernel
theorem dX9_takeUnit_81 : decode cX9_takeUnit 81 = .ok (.iload_n 2, 1) := by decide +kernel
theorem dX9_takeUnit_82 : decode cX9_takeUnit 82 = .ok (.iadd, 1) := by decide +kernel
theorem dX9_takeUnit_83 : decode cX9_takeUnit 83 = .ok (.baload, 1) := by decide +kernel
theorem dX9_takeUnit_84 : decode cX9_takeUnit 84 = .ok (.iload_n 1, 1) := by decide +kernel
theorem dX9_takeUnit_85 : decode cX9_takeUnit 85 = .ok (.if_icmp .eq 9, 3) := by decide +kernel
theorem dX9_takeUnit_88 : decode cX9_takeUnit 88 = .ok (.aload_n 0, 1) := by decide +kernel
theorem dX9_takeUnit_89 : decode cX9_takeUnit 89 = .ok (.bipush 6, 2) := by decide +kernel
theorem dX9_takeUnit_91 : decode cX9_takeUnit 91 = .ok (.invokevirtual 287, 3) := by decide +kernel
theorem dX9_takeUnit_94 : decode cX9_takeUnit 94 = .ok (.iload_n 2, 1) := by decide +kernel
theorem dX9_takeUnit_95 : decode cX9_takeUnit 95 = .ok (.ireturn, 1) := by decide +kernel
theorem dX9_takeRoles_0 : decode cX9_takeRoles 0 = .ok (.iconst 1, 1) := by decide +kernel
theorem dX9_takeRoles_1 : decode cX9_takeRoles 1 = .ok (.istore_n 2, 1) := by decide +kernel
theorem dX9_takeRoles_2 : decode cX9_takeRoles 2 = .ok (.iload_n 2, 1) := by decide +kernel
theorem dX9_takeRoles_3 : decode cX9_takeRoles 3 = .ok (.ifCond .eq 232, 3) := by decide +kernel
theorem dX9_takeRoles_6 : decode cX9_takeRoles 6 = .ok (.aload_n 0, 1) := by decide +kernel
theorem dX9_takeRoles_7 : decode cX9_takeRoles 7 = .ok (.getfield 281, 3) := by decide +kernel
theorem dX9_takeRoles_10 : decode cX9_takeRoles 10 = .ok (.ifCond .ne 225, 3) := by decide +kernel
theorem dX9_takeRoles_13 : decode cX9_takeRoles 13 = .ok (.aload_n 0, 1) := by decide +kernel
theorem dX9_takeRoles_14 : decode cX9_takeRoles 14 = .ok (.getfield 74, 3) := by decide +kernel
theorem dX9_takeRoles_17 : decode cX9_takeRoles 17 = .ok (.iload_n 1, 1) := by decide +kernel
theorem dX9_takeRoles_18 : decode cX9_takeRoles 18 = .ok (.iaload, 1) := by decide +kernel
theorem dX9_takeRoles_19 : decode cX9_takeRoles 19 = .ok (.bipush 6, 2) := by decide +kernel
theorem dX9_takeRoles_21 : decode cX9_takeRoles 21 = .ok (.if_icmp .ne 60, 3) := by decide +kernel
theorem dX9_takeRoles_24 : decode cX9_takeRoles 24 = .ok (.aload_n 0, 1) := by decide +kernel
theorem dX9_takeRoles_25 : decode cX9_takeRoles 25 = .ok (.invokevirtual 337, 3) := by decide +kernel
theorem dX9_takeRoles_28 : decode cX9_takeRoles 28 = .ok (.ifCond .eq 53, 3) := by decide +kernel
theorem dX9_takeRoles_31 : decode cX9_takeRoles 31 = .ok (.aload_n 0, 1) := by decide +kernel
theorem dX9_takeRoles_32 : decode cX9_takeRoles 32 = .ok (.aload_n 0, 1) := by decide +kernel
theorem dX9_takeRoles_33 : decode cX9_takeRoles 33 = .ok (.getfield 30, 3) := by decide +kernel
theorem dX9_takeRoles_36 : decode cX9_takeRoles 36 = .ok (.aload_n 0, 1) := by decide +kernel
theorem dX9_takeRoles_37 : decode cX9_takeRoles 37 = .ok (.getfield 278, 3) := by decide +kernel
theorem dX9_takeRoles_40 : decode cX9_takeRoles 40 = .ok (.laload, 1) := by decide +kernel
theorem dX9_takeRoles_41 : decode cX9_takeRoles 41 = .ok (.invokevirtual 341, 3) := by decide +kernel
theorem dX9_takeRoles_44 : decode cX9_takeRoles 44 = .ok (.ifCond .lt 37, 3) := by decide +kernel
theorem dX9_takeRoles_47 : decode cX9_takeRoles 47 = .ok (.aload_n 0, 1) := by decide +kernel
theorem dX9_takeRoles_48 : decode cX9_takeRoles 48 = .ok (.getfield 64, 3) := by decide +kernel
theorem dX9_takeRoles_51 : decode cX9_takeRoles 51 = .ok (.bipush 24, 2) := by decide +kernel
theorem dX9_takeRoles_53 : decode cX9_takeRoles 53 = .ok (.aload_n 0, 1) := by decide +kernel
theorem dX9_takeRoles_54 : decode cX9_takeRoles 54 = .ok (.getfield 297, 3) := by decide +kernel
theorem dX9_takeRoles_57 : decode cX9_takeRoles 57 = .ok (.imul, 1) := by decide +kernel
theorem dX9_takeRoles_58 : decode cX9_takeRoles 58 = .ok (.aload_n 0, 1) := by decide +kernel
theorem dX9_takeRoles_59 : decode cX9_takeRoles 59 = .ok (.aload_n 0, 1) := by decide +kernel
theorem dX9_takeRoles_60 : decode cX9_takeRoles 60 = .ok (.getfield 30, 3) := by decide +kernel
theorem dX9_takeRoles_63 : decode cX9_takeRoles 63 = .ok (.aload_n 0, 1) := by decide +kernel
theorem dX9_takeRoles_64 : decode cX9_takeRoles 64 = .ok (.getfield 278, 3) := by decide +kernel
theorem dX9_takeRoles_67 : decode cX9_takeRoles 67 = .ok (.laload, 1) := by decide +kernel
theorem dX9_takeRoles_68 : decode cX9_takeRoles 68 = .ok (.invokevirtual 341, 3) := by decide +kernel
theorem dX9_takeRoles_71 : decode cX9_takeRoles 71 = .ok (.iadd, 1) := by decide +kernel
theorem dX9_takeRoles_72 : decode cX9_takeRoles 72 = .ok (.baload, 1) := by decide +kernel
theorem dX9_takeRoles_73 : decode cX9_takeRoles 73 = .ok (.ifCond .eq 8, 3) := by decide +kernel
theorem dX9_takeRoles_76 : decode cX9_takeRoles 76 = .ok (.aload_n 0, 1) := by decide +kernel
theorem dX9_takeRoles_77 : decode cX9_takeRoles 77 = .ok (.iconst 5, 1) := by decide +kernel
theorem dX9_takeRoles_78 : decode cX9_takeRoles 78 = .ok (.invokevirtual 287, 3) := by decide +kernel
theorem dX9_takeRoles_81 : decode cX9_takeRoles 81 = .ok (.aload_n 0, 1) := by decide +kernel
theorem dX9_takeRoles_82 : decode cX9_takeRoles 82 = .ok (.iconst 0, 1) := by decide +kernel
theorem dX9_takeRoles_83 : decode cX9_takeRoles 83 = .ok (.invokevirtual 360, 3) := by decide +kernel
theorem dX9_takeRoles_86 : decode cX9_takeRoles 86 = .ok (.istore_n 3, 1) := by decide +kernel
theorem dX9_takeRoles_87 : decode cX9_takeRoles 87 = .ok (.iconst 0, 1) := by decide +kernel
theorem dX9_takeRoles_88 : decode cX9_takeRoles 88 = .ok (.istore 4, 2) := by decide +kernel
theorem dX9_takeRoles_90 : decode cX9_takeRoles 90 = .ok (.iconst 0, 1) := by decide +kernel
theorem dX9_takeRoles_91 : decode cX9_takeRoles 91 = .ok (.istore 5, 2) := by decide +kernel
theorem dX9_takeRoles_93 : decode cX9_takeRoles 93 = .ok (.iload 5, 2) := by decide +kernel
theorem dX9_takeRoles_95 : decode cX9_takeRoles 95 = .ok (.aload_n 0, 1) := by decide +kernel
theorem dX9_takeRoles_96 : decode cX9_takeRoles 96 = .ok (.getfield 74, 3) := by decide +kernel
theorem dX9_takeRoles_99 : decode cX9_takeRoles 99 = .ok (.iload_n 1, 1) := by decide +kernel
theorem dX9_takeRoles_100 : decode cX9_takeRoles 100 = .ok (.iaload, 1) := by decide +kernel
theorem dX9_takeRoles_101 : decode cX9_takeRoles 101 = .ok (.if_icmp .ge 37, 3) := by decide +kernel
theorem dX9_takeRoles_104 : decode cX9_takeRoles 104 = .ok (.iload 4, 2) := by decide +kernel
theorem dX9_takeRoles_106 : decode cX9_takeRoles 106 = .ok (.ifCond .ne 19, 3) := by decide +kernel
theorem dX9_takeRoles_109 : decode cX9_takeRoles 109 = .ok (.aload_n 0, 1) := by decide +kernel
theorem dX9_takeRoles_110 : decode cX9_takeRoles 110 = .ok (.getfield 77, 3) := by decide +kernel
theorem dX9_takeRoles_113 : decode cX9_takeRoles 113 = .ok (.bipush 6, 2) := by decide +kernel
theorem dX9_takeRoles_115 : decode cX9_takeRoles 115 = .ok (.iload_n 1, 1) := by decide +kernel
theorem dX9_takeRoles_116 : decode cX9_takeRoles 116 = .ok (.imul, 1) := by decide +kernel
theorem dX9_takeRoles_117 : decode cX9_takeRoles 117 = .ok (.iload 5, 2) := by decide +kernel
theorem dX9_takeRoles_119 : decode cX9_takeRoles 119 = .ok (.iadd, 1) := by decide +kernel
theorem dX9_takeRoles_120 : decode cX9_takeRoles 120 = .ok (.iaload, 1) := by decide +kernel
theorem dX9_takeRoles_121 : decode cX9_takeRoles 121 = .ok (.iload_n 3, 1) := by decide +kernel
theorem dX9_takeRoles_122 : decode cX9_takeRoles 122 = .ok (.if_icmp .ne 7, 3) := by decide +kernel
theorem dX9_takeRoles_125 : decode cX9_takeRoles 125 = .ok (.iconst 1, 1) := by decide +kernel
theorem dX9_takeRoles_126 : decode cX9_takeRoles 126 = .ok (.goto 4, 3) := by decide +kernel
theorem dX9_takeRoles_129 : decode cX9_takeRoles 129 = .ok (.iconst 0, 1) := by decide +kernel
theorem dX9_takeRoles_130 : decode cX9_takeRoles 130 = .ok (.istore 4, 2) := by decide +kernel
theorem dX9_takeRoles_132 : decode cX9_takeRoles 132 = .ok (.iinc 5 1, 3) := by decide +kernel
theorem dX9_takeRoles_135 : decode cX9_takeRoles 135 = .ok (.goto (-42), 3) := by decide +kernel
theorem dX9_takeRoles_138 : decode cX9_takeRoles 138 = .ok (.aload_n 0, 1) := by decide +kernel
theorem dX9_takeRoles_139 : decode cX9_takeRoles 139 = .ok (.getfield 281, 3) := by decide +kernel
theorem dX9_takeRoles_142 : decode cX9_takeRoles 142 = .ok (.ifCond .ne 16, 3) := by decide +kernel
theorem dX9_takeRoles_145 : decode cX9_takeRoles 145 = .ok (.iload 4, 2) := by decide +kernel
theorem dX9_takeRoles_147 : decode cX9_takeRoles 147 = .ok (.ifCond .eq 11, 3) := by decide +kernel
theorem dX9_takeRoles_150 : decode cX9_takeRoles 150 = .ok (.aload_n 0, 1) := by decide +kernel
theorem dX9_takeRoles_151 : decode cX9_takeRoles 151 = .ok (.iconst 3, 1) := by decide +kernel
theorem dX9_takeRoles_152 : decode cX9_takeRoles 152 = .ok (.invokevirtual 287, 3) := by decide +kernel
theorem dX9_takeRoles_155 : decode cX9_takeRoles 155 = .ok (.goto 26, 3) := by decide +kernel
theorem dX9_takeRoles_158 : decode cX9_takeRoles 158 = .ok (.aload_n 0, 1) := by decide +kernel
theorem dX9_takeRoles_159 : decode cX9_takeRoles 159 = .ok (.getfield 281, 3) := by decide +kernel
theorem dX9_takeRoles_162 : decode cX9_takeRoles 162 = .ok (.ifCond .ne 19, 3) := by decide +kernel
theorem dX9_takeRoles_165 : decode cX9_takeRoles 165 = .ok (.aload_n 0, 1) := by decide +kernel
theorem dX9_takeRoles_166 : decode cX9_takeRoles 166 = .ok (.getfield 74, 3) := by decide +kernel
theorem dX9_takeRoles_169 : decode cX9_takeRoles 169 = .ok (.iload_n 1, 1) := by decide +kernel
theorem dX9_takeRoles_170 : decode cX9_takeRoles 170 = .ok (.iaload, 1) := by decide +kernel
theorem dX9_takeRoles_171 : decode cX9_takeRoles 171 = .ok (.bipush 6, 2) := by decide +kernel
theorem dX9_takeRoles_173 : decode cX9_takeRoles 173 = .ok (.if_icmp .ne 8, 3) := by decide +kernel
theorem dX9_takeRoles_176 : decode cX9_takeRoles 176 = .ok (.aload_n 0, 1) := by decide +kernel
theorem dX9_takeRoles_177 : decode cX9_takeRoles 177 = .ok (.iconst 5, 1) := by decide +kernel
theorem dX9_takeRoles_178 : decode cX9_takeRoles 178 = .ok (.invokevirtual 287, 3) := by decide +kernel
theorem dX9_takeRoles_181 : decode cX9_takeRoles 181 = .ok (.aload_n 0, 1) := by decide +kernel
theorem dX9_takeRoles_182 : decode cX9_takeRoles 182 = .ok (.getfield 281, 3) := by decide +kernel
theorem dX9_takeRoles_185 : decode cX9_takeRoles 185 = .ok (.ifCond .ne 30, 3) := by decide +kernel
theorem dX9_takeRoles_188 : decode cX9_takeRoles 188 = .ok (.aload_n 0, 1) := by decide +kernel
theorem dX9_takeRoles_189 : decode cX9_takeRoles 189 = .ok (.getfield 77, 3) := by decide +kernel
theorem dX9_takeRoles_192 : decode cX9_takeRoles 192 = .ok (.bipush 6, 2) := by decide +kernel
theorem dX9_takeRoles_194 : decode cX9_takeRoles 194 = .ok (.iload_n 1, 1) := by decide +kernel
theorem dX9_takeRoles_195 : decode cX9_takeRoles 195 = .ok (.imul, 1) := by decide +kernel
theorem dX9_takeRoles_196 : decode cX9_takeRoles 196 = .ok (.aload_n 0, 1) := by decide +kernel
theorem dX9_takeRoles_197 : decode cX9_takeRoles 197 = .ok (.getfield 74, 3) := by decide +kernel
theorem dX9_takeRoles_200 : decode cX9_takeRoles 200 = .ok (.iload_n 1, 1) := by decide +kernel
theorem dX9_takeRoles_201 : decode cX9_takeRoles 201 = .ok (.iaload, 1) := by decide +kernel
theorem dX9_takeRoles_202 : decode cX9_takeRoles 202 = .ok (.iadd, 1) := by decide +kernel
theorem dX9_takeRoles_203 : decode cX9_takeRoles 203 = .ok (.iload_n 3, 1) := by decide +kernel
theorem dX9_takeRoles_204 : decode cX9_takeRoles 204 = .ok (.iastore, 1) := by decide +kernel
theorem dX9_takeRoles_205 : decode cX9_takeRoles 205 = .ok (.aload_n 0, 1) := by decide +kernel
theorem dX9_takeRoles_206 : decode cX9_takeRoles 206 = .ok (.getfield 74, 3) := by decide +kernel
theorem dX9_takeRoles_209 : decode cX9_takeRoles 209 = .ok (.iload_n 1, 1) := by decide +kernel
theorem dX9_takeRoles_210 : decode cX9_takeRoles 210 = .ok (.dup2, 1) := by decide +kernel
theorem dX9_takeRoles_211 : decode cX9_takeRoles 211 = .ok (.iaload, 1) := by decide +kernel
theorem dX9_takeRoles_212 : decode cX9_takeRoles 212 = .ok (.iconst 1, 1) := by decide +kernel
theorem dX9_takeRoles_213 : decode cX9_takeRoles 213 = .ok (.iadd, 1) := by decide +kernel
theorem dX9_takeRoles_214 : decode cX9_takeRoles 214 = .ok (.iastore, 1) := by decide +kernel
theorem dX9_takeRoles_215 : decode cX9_takeRoles 215 = .ok (.aload_n 0, 1) := by decide +kernel
theorem dX9_takeRoles_216 : decode cX9_takeRoles 216 = .ok (.dup, 1) := by decide +kernel
theorem dX9_takeRoles_217 : decode cX9_takeRoles 217 = .ok (.getfield 278, 3) := by decide +kernel
theorem dX9_takeRoles_220 : decode cX9_takeRoles 220 = .ok (.iconst 1, 1) := by decide +kernel
theorem dX9_takeRoles_221 : decode cX9_takeRoles 221 = .ok (.iadd, 1) := by decide +kernel
theorem dX9_takeRoles_222 : decode cX9_takeRoles 222 = .ok (.putfield 278, 3) := by decide +kernel
theorem dX9_takeRoles_225 : decode cX9_takeRoles 225 = .ok (.aload_n 0, 1) := by decide +kernel
theorem dX9_takeRoles_226 : decode cX9_takeRoles 226 = .ok (.bipush 44, 2) := by decide +kernel
theorem dX9_takeRoles_228 : decode cX9_takeRoles 228 = .ok (.invokevirtual 364, 3) := by decide +kernel
theorem dX9_takeRoles_231 : decode cX9_takeRoles 231 = .ok (.istore_n 2, 1) := by decide +kernel
theorem dX9_takeRoles_232 : decode cX9_takeRoles 232 = .ok (.goto (-230), 3) := by decide +kernel
theorem dX9_takeRoles_235 : decode cX9_takeRoles 235 = .ok (.return_, 1) := by decide +kernel
theorem dX9_toldUnit_0 : decode cX9_toldUnit 0 = .ok (.aload_n 0, 1) := by decide +kernel
theorem dX9_toldUnit_1 : decode cX9_toldUnit 1 = .ok (.getfield 58, 3) := by decide +kernel
theorem dX9_toldUnit_4 : decode cX9_toldUnit 4 = .ok (.aload_n 0, 1) := by decide +kernel
theorem dX9_toldUnit_5 : decode cX9_toldUnit 5 = .ok (.getfield 297, 3) := by decide +kernel
theorem dX9_toldUnit_8 : decode cX9_toldUnit 8 = .ok (.iaload, 1) := by decide +kernel
theorem dX9_toldUnit_9 : decode cX9_toldUnit 9 = .ok (.istore_n 1, 1) := by decide +kernel
theorem dX9_toldUnit_10 : decode cX9_toldUnit 10 = .ok (.bipush 24, 2) := by decide +kernel
theorem dX9_toldUnit_12 : decode cX9_toldUnit 12 = .ok (.aload_n 0, 1) := by decide +kernel
theorem dX9_toldUnit_13 : decode cX9_toldUnit 13 = .ok (.getfield 297, 3) := by decide +kernel
theorem dX9_toldUnit_16 : decode cX9_toldUnit 16 = .ok (.imul, 1) := by decide +kernel
theorem dX9_toldUnit_17 : decode cX9_toldUnit 17 = .ok (.iload_n 1, 1) := by decide +kernel
theorem dX9_toldUnit_18 : decode cX9_toldUnit 18 = .ok (.iadd, 1) := by decide +kernel
theorem dX9_toldUnit_19 : decode cX9_toldUnit 19 = .ok (.istore_n 2, 1) := by decide +kernel
theorem dX9_toldUnit_20 : decode cX9_toldUnit 20 = .ok (.iload_n 1, 1) := by decide +kernel
theorem dX9_toldUnit_21 : decode cX9_toldUnit 21 = .ok (.bipush 24, 2) := by decide +kernel
theorem dX9_toldUnit_23 : decode cX9_toldUnit 23 = .ok (.if_icmp .ne 9, 3) := by decide +kernel
theorem dX9_toldUnit_26 : decode cX9_toldUnit 26 = .ok (.aload_n 0, 1) := by decide +kernel
theorem dX9_toldUnit_27 : decode cX9_toldUnit 27 = .ok (.iconst 5, 1) := by decide +kernel
theorem dX9_toldUnit_28 : decode cX9_toldUnit 28 = .ok (.invokevirtual 287, 3) := by decide +kernel
theorem dX9_toldUnit_31 : decode cX9_toldUnit 31 = .ok (.return_, 1) := by decide +kernel
theorem dX9_toldUnit_32 : decode cX9_toldUnit 32 = .ok (.aload_n 0, 1) := by decide +kernel
theorem dX9_toldUnit_33 : decode cX9_toldUnit 33 = .ok (.getfield 68, 3) := by decide +kernel
theorem dX9_toldUnit_36 : decode cX9_toldUnit 36 = .ok (.iload_n 2, 1) := by decide +kernel
theorem dX9_toldUnit_37 : decode cX9_toldUnit 37 = .ok (.aload_n 0, 1) := by decide +kernel
theorem dX9_toldUnit_38 : decode cX9_toldUnit 38 = .ok (.iconst 4, 1) := by decide +kernel
theorem dX9_toldUnit_39 : decode cX9_toldUnit 39 = .ok (.invokevirtual 294, 3) := by decide +kernel
theorem dX9_toldUnit_42 : decode cX9_toldUnit 42 = .ok (.bastore, 1) := by decide +kernel
theorem dX9_toldUnit_43 : decode cX9_toldUnit 43 = .ok (.aload_n 0, 1) := by decide +kernel
theorem dX9_toldUnit_44 : decode cX9_toldUnit 44 = .ok (.getfield 64, 3) := by decide +kernel
theorem dX9_toldUnit_47 : decode cX9_toldUnit 47 = .ok (.iload_n 2, 1) := by decide +kernel
theorem dX9_toldUnit_48 : decode cX9_toldUnit 48 = .ok (.aload_n 0, 1) := by decide +kernel
theorem dX9_toldUnit_49 : decode cX9_toldUnit 49 = .ok (.getfield 68, 3) := by decide +kernel
theorem dX9_toldUnit_52 : decode cX9_toldUnit 52 = .ok (.iload_n 2, 1) := by decide +kernel
theorem dX9_toldUnit_53 : decode cX9_toldUnit 53 = .ok (.baload, 1) := by decide +kernel
theorem dX9_toldUnit_54 : decode cX9_toldUnit 54 = .ok (.ifCond .ne 16, 3) := by decide +kernel
theorem dX9_toldUnit_57 : decode cX9_toldUnit 57 = .ok (.aload_n 0, 1) := by decide +kernel
theorem dX9_toldUnit_58 : decode cX9_toldUnit 58 = .ok (.bipush 7, 2) := by decide +kernel
theorem dX9_toldUnit_60 : decode cX9_toldUnit 60 = .ok (.invokevirtual 291, 3) := by decide +kernel
theorem dX9_toldUnit_63 : decode cX9_toldUnit 63 = .ok (.ifCond .eq 7, 3) := by decide +kernel
