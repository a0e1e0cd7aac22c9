/-! The law: names, and its calls one by one. -/
theorem d_law_0 : decode code 0 = .ok (.new 8, 3) := by decide +kernel
theorem q_29 : Cond.classLink "TwinKeepersLaw" 8 "TwinKeepers" ∈ xT := xin 29 (by decide +kernel) (by decide +kernel)
theorem d_law_3 : decode code 3 = .ok (.dup, 1) := by decide +kernel
theorem d_law_4 : decode code 4 = .ok (.invokespecial 54, 3) := by decide +kernel
theorem q_31 : Cond.methodLink "TwinKeepersLaw" 54 ⟨"TwinKeepers", "<init>", "()V"⟩ ∈ xT := xin 31 (by decide +kernel) (by decide +kernel)
theorem d_law_7 : decode code 7 = .ok (.astore_n 1, 1) := by decide +kernel
theorem d_law_8 : decode code 8 = .ok (.new 55, 3) := by decide +kernel
theorem q_934 : Cond.classLink "TwinKeepersLaw" 55 "TwinKeepersModel" ∈ xT := xin 934 (by decide +kernel) (by decide +kernel)
theorem d_law_11 : decode code 11 = .ok (.dup, 1) := by decide +kernel
theorem d_law_12 : decode code 12 = .ok (.invokespecial 57, 3) := by decide +kernel
theorem q_936 : Cond.methodLink "TwinKeepersLaw" 57 ⟨"TwinKeepersModel", "<init>", "()V"⟩ ∈ xT := xin 936 (by decide +kernel) (by decide +kernel)
theorem d_law_15 : decode code 15 = .ok (.astore_n 2, 1) := by decide +kernel
theorem d_law_16 : decode code 16 = .ok (.iconst 1, 1) := by decide +kernel
theorem d_law_17 : decode code 17 = .ok (.newarray .long, 2) := by decide +kernel
theorem d_law_19 : decode code 19 = .ok (.astore_n 3, 1) := by decide +kernel
theorem d_law_20 : decode code 20 = .ok (.iconst 0, 1) := by decide +kernel
theorem d_law_21 : decode code 21 = .ok (.istore 4, 2) := by decide +kernel
theorem d_law_23 : decode code 23 = .ok (.iload 4, 2) := by decide +kernel
theorem d_law_25 : decode code 25 = .ok (.aload_n 0, 1) := by decide +kernel
theorem d_law_26 : decode code 26 = .ok (.arraylength, 1) := by decide +kernel
theorem d_law_27 : decode code 27 = .ok (.bipush 6, 2) := by decide +kernel
theorem d_law_29 : decode code 29 = .ok (.isub, 1) := by decide +kernel
theorem d_law_30 : decode code 30 = .ok (.if_icmp .gt 904, 3) := by decide +kernel
theorem d_law_33 : decode code 33 = .ok (.aload_n 0, 1) := by decide +kernel
theorem d_law_34 : decode code 34 = .ok (.iload 4, 2) := by decide +kernel
theorem d_law_36 : decode code 36 = .ok (.iaload, 1) := by decide +kernel
theorem d_law_37 : decode code 37 = .ok (.bipush 15, 2) := by decide +kernel
theorem d_law_39 : decode code 39 = .ok (.iand, 1) := by decide +kernel
theorem d_law_40 : decode code 40 = .ok (.tableswitch 888 0 11 #[64, 164, 232, 336, 404, 460, 535, 591, 671, 751, 819, 832], 64) := by decide +kernel
theorem d_law_104 : decode code 104 = .ok (.aload_n 1, 1) := by decide +kernel
theorem d_law_105 : decode code 105 = .ok (.aload_n 0, 1) := by decide +kernel
theorem d_law_106 : decode code 106 = .ok (.iload 4, 2) := by decide +kernel
theorem d_law_108 : decode code 108 = .ok (.iconst 1, 1) := by decide +kernel
theorem d_law_109 : decode code 109 = .ok (.iadd, 1) := by decide +kernel
theorem d_law_110 : decode code 110 = .ok (.iaload, 1) := by decide +kernel
theorem d_law_111 : decode code 111 = .ok (.i2l, 1) := by decide +kernel
theorem d_law_112 : decode code 112 = .ok (.bipush 32, 2) := by decide +kernel
theorem d_law_114 : decode code 114 = .ok (.lshl, 1) := by decide +kernel
theorem d_law_115 : decode code 115 = .ok (.aload_n 0, 1) := by decide +kernel
theorem d_law_116 : decode code 116 = .ok (.iload 4, 2) := by decide +kernel
theorem d_law_118 : decode code 118 = .ok (.iconst 2, 1) := by decide +kernel
theorem d_law_119 : decode code 119 = .ok (.iadd, 1) := by decide +kernel
theorem d_law_120 : decode code 120 = .ok (.iaload, 1) := by decide +kernel
theorem d_law_121 : decode code 121 = .ok (.i2l, 1) := by decide +kernel
theorem d_law_122 : decode code 122 = .ok (.ldc2_w 58, 3) := by decide +kernel
theorem q_1179 : Cond.constantLong "TwinKeepersLaw" 58 (4294967295) ∈ xT := xin 1179 (by decide +kernel) (by decide +kernel)
theorem d_law_125 : decode code 125 = .ok (.land, 1) := by decide +kernel
theorem d_law_126 : decode code 126 = .ok (.lor, 1) := by decide +kernel
theorem d_law_127 : decode code 127 = .ok (.aload_n 0, 1) := by decide +kernel
theorem d_law_128 : decode code 128 = .ok (.iload 4, 2) := by decide +kernel
theorem d_law_130 : decode code 130 = .ok (.iconst 3, 1) := by decide +kernel
theorem d_law_131 : decode code 131 = .ok (.iadd, 1) := by decide +kernel
theorem d_law_132 : decode code 132 = .ok (.iaload, 1) := by decide +kernel
theorem d_law_133 : decode code 133 = .ok (.aload_n 3, 1) := by decide +kernel
theorem d_law_134 : decode code 134 = .ok (.invokestatic 60, 3) := by decide +kernel
theorem q_140 : Cond.methodLink "TwinKeepersLaw" 60 ⟨"TwinKeepersLaw", "feed", "(LTwinKeepers;JI[J)I"⟩ ∈ xT := xin 140 (by decide +kernel) (by decide +kernel)
theorem d_law_137 : decode code 137 = .ok (.istore 5, 2) := by decide +kernel
theorem d_law_139 : decode code 139 = .ok (.aload_n 2, 1) := by decide +kernel
theorem d_law_140 : decode code 140 = .ok (.aload_n 0, 1) := by decide +kernel
theorem d_law_141 : decode code 141 = .ok (.iload 4, 2) := by decide +kernel
theorem d_law_143 : decode code 143 = .ok (.iconst 1, 1) := by decide +kernel
theorem d_law_144 : decode code 144 = .ok (.iadd, 1) := by decide +kernel
theorem d_law_145 : decode code 145 = .ok (.iaload, 1) := by decide +kernel
theorem d_law_146 : decode code 146 = .ok (.i2l, 1) := by decide +kernel
theorem d_law_147 : decode code 147 = .ok (.bipush 32, 2) := by decide +kernel
theorem d_law_149 : decode code 149 = .ok (.lshl, 1) := by decide +kernel
theorem d_law_150 : decode code 150 = .ok (.aload_n 0, 1) := by decide +kernel
theorem d_law_151 : decode code 151 = .ok (.iload 4, 2) := by decide +kernel
theorem d_law_153 : decode code 153 = .ok (.iconst 2, 1) := by decide +kernel
theorem d_law_154 : decode code 154 = .ok (.iadd, 1) := by decide +kernel
theorem d_law_155 : decode code 155 = .ok (.iaload, 1) := by decide +kernel
theorem d_law_156 : decode code 156 = .ok (.i2l, 1) := by decide +kernel
theorem d_law_157 : decode code 157 = .ok (.ldc2_w 58, 3) := by decide +kernel
theorem d_law_160 : decode code 160 = .ok (.land, 1) := by decide +kernel
theorem d_law_161 : decode code 161 = .ok (.lor, 1) := by decide +kernel
theorem d_law_162 : decode code 162 = .ok (.aload_n 0, 1) := by decide +kernel
theorem d_law_163 : decode code 163 = .ok (.iload 4, 2) := by decide +kernel
theorem d_law_165 : decode code 165 = .ok (.iconst 3, 1) := by decide +kernel
theorem d_law_166 : decode code 166 = .ok (.iadd, 1) := by decide +kernel
theorem d_law_167 : decode code 167 = .ok (.iaload, 1) := by decide +kernel
theorem d_law_168 : decode code 168 = .ok (.invokevirtual 65, 3) := by decide +kernel
theorem q_1016 : Cond.methodLink "TwinKeepersLaw" 65 ⟨"TwinKeepersModel", "feed", "(JI)I"⟩ ∈ xT := xin 1016 (by decide +kernel) (by decide +kernel)
theorem d_law_171 : decode code 171 = .ok (.istore 6, 2) := by decide +kernel
theorem d_law_173 : decode code 173 = .ok (.aload_n 2, 1) := by decide +kernel
theorem d_law_174 : decode code 174 = .ok (.invokevirtual 66, 3) := by decide +kernel
theorem q_1012 : Cond.methodLink "TwinKeepersLaw" 66 ⟨"TwinKeepersModel", "thrown", "()I"⟩ ∈ xT := xin 1012 (by decide +kernel) (by decide +kernel)
theorem d_law_177 : decode code 177 = .ok (.iload 5, 2) := by decide +kernel
theorem d_law_179 : decode code 179 = .ok (.if_icmp .eq 5, 3) := by decide +kernel
theorem d_law_182 : decode code 182 = .ok (.iconst 0, 1) := by decide +kernel
theorem d_law_183 : decode code 183 = .ok (.ireturn, 1) := by decide +kernel
theorem d_law_184 : decode code 184 = .ok (.iload 5, 2) := by decide +kernel
theorem d_law_186 : decode code 186 = .ok (.ifCond .ne 15, 3) := by decide +kernel
theorem d_law_189 : decode code 189 = .ok (.aload_n 3, 1) := by decide +kernel
theorem d_law_190 : decode code 190 = .ok (.iconst 0, 1) := by decide +kernel
theorem d_law_191 : decode code 191 = .ok (.laload, 1) := by decide +kernel
theorem d_law_192 : decode code 192 = .ok (.iload 6, 2) := by decide +kernel
theorem d_law_194 : decode code 194 = .ok (.i2l, 1) := by decide +kernel
theorem d_law_195 : decode code 195 = .ok (.lcmp, 1) := by decide +kernel
theorem d_law_196 : decode code 196 = .ok (.ifCond .eq 5, 3) := by decide +kernel
theorem d_law_199 : decode code 199 = .ok (.iconst 0, 1) := by decide +kernel
theorem d_law_200 : decode code 200 = .ok (.ireturn, 1) := by decide +kernel
theorem d_law_201 : decode code 201 = .ok (.goto 727, 3) := by decide +kernel
theorem d_law_204 : decode code 204 = .ok (.aload_n 1, 1) := by decide +kernel
theorem d_law_205 : decode code 205 = .ok (.aload_n 0, 1) := by decide +kernel
theorem d_law_206 : decode code 206 = .ok (.iload 4, 2) := by decide +kernel
theorem d_law_208 : decode code 208 = .ok (.iconst 1, 1) := by decide +kernel
theorem d_law_209 : decode code 209 = .ok (.iadd, 1) := by decide +kernel
theorem d_law_210 : decode code 210 = .ok (.iaload, 1) := by decide +kernel
theorem d_law_211 : decode code 211 = .ok (.aload_n 0, 1) := by decide +kernel
theorem d_law_212 : decode code 212 = .ok (.iload 4, 2) := by decide +kernel
theorem d_law_214 : decode code 214 = .ok (.iconst 2, 1) := by decide +kernel
theorem d_law_215 : decode code 215 = .ok (.iadd, 1) := by decide +kernel
theorem d_law_216 : decode code 216 = .ok (.iaload, 1) := by decide +kernel
theorem d_law_217 : decode code 217 = .ok (.aload_n 3, 1) := by decide +kernel
theorem d_law_218 : decode code 218 = .ok (.invokestatic 70, 3) := by decide +kernel
theorem q_232 : Cond.methodLink "TwinKeepersLaw" 70 ⟨"TwinKeepersLaw", "open", "(LTwinKeepers;II[J)I"⟩ ∈ xT := xin 232 (by decide +kernel) (by decide +kernel)
theorem d_law_221 : decode code 221 = .ok (.istore 5, 2) := by decide +kernel
theorem d_law_223 : decode code 223 = .ok (.aload_n 2, 1) := by decide +kernel
theorem d_law_224 : decode code 224 = .ok (.aload_n 0, 1) := by decide +kernel
theorem d_law_225 : decode code 225 = .ok (.iload 4, 2) := by decide +kernel
theorem d_law_227 : decode code 227 = .ok (.iconst 1, 1) := by decide +kernel
theorem d_law_228 : decode code 228 = .ok (.iadd, 1) := by decide +kernel
theorem d_law_229 : decode code 229 = .ok (.iaload, 1) := by decide +kernel
theorem d_law_230 : decode code 230 = .ok (.aload_n 0, 1) := by decide +kernel
theorem d_law_231 : decode code 231 = .ok (.iload 4, 2) := by decide +kernel
theorem d_law_233 : decode code 233 = .ok (.iconst 2, 1) := by decide +kernel
theorem d_law_234 : decode code 234 = .ok (.iadd, 1) := by decide +kernel
theorem d_law_235 : decode code 235 = .ok (.iaload, 1) := by decide +kernel
theorem d_law_236 : decode code 236 = .ok (.invokevirtual 73, 3) := by decide +kernel
theorem q_1028 : Cond.methodLink "TwinKeepersLaw" 73 ⟨"TwinKeepersModel", "open", "(II)I"⟩ ∈ xT := xin 1028 (by decide +kernel) (by decide +kernel)
theorem d_law_239 : decode code 239 = .ok (.istore 6, 2) := by decide +kernel
theorem d_law_241 : decode code 241 = .ok (.aload_n 2, 1) := by decide +kernel
theorem d_law_242 : decode code 242 = .ok (.invokevirtual 66, 3) := by decide +kernel
theorem d_law_245 : decode code 245 = .ok (.iload 5, 2) := by decide +kernel
theorem d_law_247 : decode code 247 = .ok (.if_icmp .eq 5, 3) := by decide +kernel
theorem d_law_250 : decode code 250 = .ok (.iconst 0, 1) := by decide +kernel
theorem d_law_251 : decode code 251 = .ok (.ireturn, 1) := by decide +kernel
theorem d_law_252 : decode code 252 = .ok (.iload 5, 2) := by decide +kernel
theorem d_law_254 : decode code 254 = .ok (.ifCond .ne 15, 3) := by decide +kernel
theorem d_law_257 : decode code 257 = .ok (.aload_n 3, 1) := by decide +kernel
theorem d_law_258 : decode code 258 = .ok (.iconst 0, 1) := by decide +kernel
theorem d_law_259 : decode code 259 = .ok (.laload, 1) := by decide +kernel
theorem d_law_260 : decode code 260 = .ok (.iload 6, 2) := by decide +kernel
theorem d_law_262 : decode code 262 = .ok (.i2l, 1) := by decide +kernel
theorem d_law_263 : decode code 263 = .ok (.lcmp, 1) := by decide +kernel
theorem d_law_264 : decode code 264 = .ok (.ifCond .eq 5, 3) := by decide +kernel
theorem d_law_267 : decode code 267 = .ok (.iconst 0, 1) := by decide +kernel
theorem d_law_268 : decode code 268 = .ok (.ireturn, 1) := by decide +kernel
theorem d_law_269 : decode code 269 = .ok (.goto 659, 3) := by decide +kernel
theorem d_law_272 : decode code 272 = .ok (.aload_n 1, 1) := by decide +kernel
theorem d_law_273 : decode code 273 = .ok (.aload_n 0, 1) := by decide +kernel
theorem d_law_274 : decode code 274 = .ok (.iload 4, 2) := by decide +kernel
theorem d_law_276 : decode code 276 = .ok (.iconst 1, 1) := by decide +kernel
theorem d_law_277 : decode code 277 = .ok (.iadd, 1) := by decide +kernel
theorem d_law_278 : decode code 278 = .ok (.iaload, 1) := by decide +kernel
theorem d_law_279 : decode code 279 = .ok (.aload_n 0, 1) := by decide +kernel
theorem d_law_280 : decode code 280 = .ok (.iload 4, 2) := by decide +kernel
theorem d_law_282 : decode code 282 = .ok (.iconst 2, 1) := by decide +kernel
theorem d_law_283 : decode code 283 = .ok (.iadd, 1) := by decide +kernel
theorem d_law_284 : decode code 284 = .ok (.iaload, 1) := by decide +kernel
theorem d_law_285 : decode code 285 = .ok (.aload_n 0, 1) := by decide +kernel
theorem d_law_286 : decode code 286 = .ok (.iload 4, 2) := by decide +kernel
theorem d_law_288 : decode code 288 = .ok (.iconst 3, 1) := by decide +kernel
theorem d_law_289 : decode code 289 = .ok (.iadd, 1) := by decide +kernel
theorem d_law_290 : decode code 290 = .ok (.iaload, 1) := by decide +kernel
theorem d_law_291 : decode code 291 = .ok (.aload_n 0, 1) := by decide +kernel
theorem d_law_292 : decode code 292 = .ok (.iload 4, 2) := by decide +kernel
theorem d_law_294 : decode code 294 = .ok (.iconst 4, 1) := by decide +kernel
theorem d_law_295 : decode code 295 = .ok (.iadd, 1) := by decide +kernel
theorem d_law_296 : decode code 296 = .ok (.iaload, 1) := by decide +kernel
theorem d_law_297 : decode code 297 = .ok (.aload_n 0, 1) := by decide +kernel
theorem d_law_298 : decode code 298 = .ok (.iload 4, 2) := by decide +kernel
theorem d_law_300 : decode code 300 = .ok (.iconst 5, 1) := by decide +kernel
theorem d_law_301 : decode code 301 = .ok (.iadd, 1) := by decide +kernel
theorem d_law_302 : decode code 302 = .ok (.iaload, 1) := by decide +kernel
theorem d_law_303 : decode code 303 = .ok (.aload_n 3, 1) := by decide +kernel
theorem d_law_304 : decode code 304 = .ok (.invokestatic 74, 3) := by decide +kernel
theorem q_393 : Cond.methodLink "TwinKeepersLaw" 74 ⟨"TwinKeepersLaw", "run", "(LTwinKeepers;IIIII[J)I"⟩ ∈ xT := xin 393 (by decide +kernel) (by decide +kernel)
theorem d_law_307 : decode code 307 = .ok (.istore 5, 2) := by decide +kernel
theorem d_law_309 : decode code 309 = .ok (.aload_n 2, 1) := by decide +kernel
theorem d_law_310 : decode code 310 = .ok (.aload_n 0, 1) := by decide +kernel
theorem d_law_311 : decode code 311 = .ok (.iload 4, 2) := by decide +kernel
theorem d_law_313 : decode code 313 = .ok (.iconst 1, 1) := by decide +kernel
theorem d_law_314 : decode code 314 = .ok (.iadd, 1) := by decide +kernel
theorem d_law_315 : decode code 315 = .ok (.iaload, 1) := by decide +kernel
theorem d_law_316 : decode code 316 = .ok (.aload_n 0, 1) := by decide +kernel
theorem d_law_317 : decode code 317 = .ok (.iload 4, 2) := by decide +kernel
theorem d_law_319 : decode code 319 = .ok (.iconst 2, 1) := by decide +kernel
theorem d_law_320 : decode code 320 = .ok (.iadd, 1) := by decide +kernel
theorem d_law_321 : decode code 321 = .ok (.iaload, 1) := by decide +kernel
theorem d_law_322 : decode code 322 = .ok (.aload_n 0, 1) := by decide +kernel
theorem d_law_323 : decode code 323 = .ok (.iload 4, 2) := by decide +kernel
theorem d_law_325 : decode code 325 = .ok (.iconst 3, 1) := by decide +kernel
theorem d_law_326 : decode code 326 = .ok (.iadd, 1) := by decide +kernel
theorem d_law_327 : decode code 327 = .ok (.iaload, 1) := by decide +kernel
theorem d_law_328 : decode code 328 = .ok (.aload_n 0, 1) := by decide +kernel
theorem d_law_329 : decode code 329 = .ok (.iload 4, 2) := by decide +kernel
theorem d_law_331 : decode code 331 = .ok (.iconst 4, 1) := by decide +kernel
theorem d_law_332 : decode code 332 = .ok (.iadd, 1) := by decide +kernel
theorem d_law_333 : decode code 333 = .ok (.iaload, 1) := by decide +kernel
theorem d_law_334 : decode code 334 = .ok (.aload_n 0, 1) := by decide +kernel
theorem d_law_335 : decode code 335 = .ok (.iload 4, 2) := by decide +kernel
theorem d_law_337 : decode code 337 = .ok (.iconst 5, 1) := by decide +kernel
theorem d_law_338 : decode code 338 = .ok (.iadd, 1) := by decide +kernel
theorem d_law_339 : decode code 339 = .ok (.iaload, 1) := by decide +kernel
theorem d_law_340 : decode code 340 = .ok (.invokevirtual 77, 3) := by decide +kernel
theorem q_1044 : Cond.methodLink "TwinKeepersLaw" 77 ⟨"TwinKeepersModel", "run", "(IIIII)I"⟩ ∈ xT := xin 1044 (by decide +kernel) (by decide +kernel)
theorem d_law_343 : decode code 343 = .ok (.istore 6, 2) := by decide +kernel
theorem d_law_345 : decode code 345 = .ok (.aload_n 2, 1) := by decide +kernel
theorem d_law_346 : decode code 346 = .ok (.invokevirtual 66, 3) := by decide +kernel
theorem d_law_349 : decode code 349 = .ok (.iload 5, 2) := by decide +kernel
theorem d_law_351 : decode code 351 = .ok (.if_icmp .eq 5, 3) := by decide +kernel
theorem d_law_354 : decode code 354 = .ok (.iconst 0, 1) := by decide +kernel
theorem d_law_355 : decode code 355 = .ok (.ireturn, 1) := by decide +kernel
theorem d_law_356 : decode code 356 = .ok (.iload 5, 2) := by decide +kernel
theorem d_law_358 : decode code 358 = .ok (.ifCond .ne 15, 3) := by decide +kernel
theorem d_law_361 : decode code 361 = .ok (.aload_n 3, 1) := by decide +kernel
theorem d_law_362 : decode code 362 = .ok (.iconst 0, 1) := by decide +kernel
theorem d_law_363 : decode code 363 = .ok (.laload, 1) := by decide +kernel
theorem d_law_364 : decode code 364 = .ok (.iload 6, 2) := by decide +kernel
theorem d_law_366 : decode code 366 = .ok (.i2l, 1) := by decide +kernel
theorem d_law_367 : decode code 367 = .ok (.lcmp, 1) := by decide +kernel
theorem d_law_368 : decode code 368 = .ok (.ifCond .eq 5, 3) := by decide +kernel
theorem d_law_371 : decode code 371 = .ok (.iconst 0, 1) := by decide +kernel
theorem d_law_372 : decode code 372 = .ok (.ireturn, 1) := by decide +kernel
theorem d_law_373 : decode code 373 = .ok (.goto 555, 3) := by decide +kernel
theorem d_law_376 : decode code 376 = .ok (.aload_n 1, 1) := by decide +kernel
theorem d_law_377 : decode code 377 = .ok (.aload_n 0, 1) := by decide +kernel
theorem d_law_378 : decode code 378 = .ok (.iload 4, 2) := by decide +kernel
theorem d_law_380 : decode code 380 = .ok (.iconst 1, 1) := by decide +kernel
theorem d_law_381 : decode code 381 = .ok (.iadd, 1) := by decide +kernel
theorem d_law_382 : decode code 382 = .ok (.iaload, 1) := by decide +kernel
theorem d_law_383 : decode code 383 = .ok (.aload_n 0, 1) := by decide +kernel
theorem d_law_384 : decode code 384 = .ok (.iload 4, 2) := by decide +kernel
theorem d_law_386 : decode code 386 = .ok (.iconst 2, 1) := by decide +kernel
theorem d_law_387 : decode code 387 = .ok (.iadd, 1) := by decide +kernel
theorem d_law_388 : decode code 388 = .ok (.iaload, 1) := by decide +kernel
theorem d_law_389 : decode code 389 = .ok (.aload_n 3, 1) := by decide +kernel
theorem d_law_390 : decode code 390 = .ok (.invokestatic 78, 3) := by decide +kernel
theorem q_781 : Cond.methodLink "TwinKeepersLaw" 78 ⟨"TwinKeepersLaw", "read", "(LTwinKeepers;II[J)I"⟩ ∈ xT := xin 781 (by decide +kernel) (by decide +kernel)
theorem d_law_393 : decode code 393 = .ok (.istore 5, 2) := by decide +kernel
theorem d_law_395 : decode code 395 = .ok (.aload_n 2, 1) := by decide +kernel
theorem d_law_396 : decode code 396 = .ok (.aload_n 0, 1) := by decide +kernel
theorem d_law_397 : decode code 397 = .ok (.iload 4, 2) := by decide +kernel
theorem d_law_399 : decode code 399 = .ok (.iconst 1, 1) := by decide +kernel
theorem d_law_400 : decode code 400 = .ok (.iadd, 1) := by decide +kernel
theorem d_law_401 : decode code 401 = .ok (.iaload, 1) := by decide +kernel
theorem d_law_402 : decode code 402 = .ok (.aload_n 0, 1) := by decide +kernel
theorem d_law_403 : decode code 403 = .ok (.iload 4, 2) := by decide +kernel
theorem d_law_405 : decode code 405 = .ok (.iconst 2, 1) := by decide +kernel
theorem d_law_406 : decode code 406 = .ok (.iadd, 1) := by decide +kernel
theorem d_law_407 : decode code 407 = .ok (.iaload, 1) := by decide +kernel
theorem d_law_408 : decode code 408 = .ok (.invokevirtual 80, 3) := by decide +kernel
theorem q_1123 : Cond.methodLink "TwinKeepersLaw" 80 ⟨"TwinKeepersModel", "read", "(II)I"⟩ ∈ xT := xin 1123 (by decide +kernel) (by decide +kernel)
theorem d_law_411 : decode code 411 = .ok (.istore 6, 2) := by decide +kernel
theorem d_law_413 : decode code 413 = .ok (.aload_n 2, 1) := by decide +kernel
theorem d_law_414 : decode code 414 = .ok (.invokevirtual 66, 3) := by decide +kernel
theorem d_law_417 : decode code 417 = .ok (.iload 5, 2) := by decide +kernel
theorem d_law_419 : decode code 419 = .ok (.if_icmp .eq 5, 3) := by decide +kernel
theorem d_law_422 : decode code 422 = .ok (.iconst 0, 1) := by decide +kernel
theorem d_law_423 : decode code 423 = .ok (.ireturn, 1) := by decide +kernel
theorem d_law_424 : decode code 424 = .ok (.iload 5, 2) := by decide +kernel
theorem d_law_426 : decode code 426 = .ok (.ifCond .ne 15, 3) := by decide +kernel
theorem d_law_429 : decode code 429 = .ok (.aload_n 3, 1) := by decide +kernel
theorem d_law_430 : decode code 430 = .ok (.iconst 0, 1) := by decide +kernel
theorem d_law_431 : decode code 431 = .ok (.laload, 1) := by decide +kernel
theorem d_law_432 : decode code 432 = .ok (.iload 6, 2) := by decide +kernel
theorem d_law_434 : decode code 434 = .ok (.i2l, 1) := by decide +kernel
theorem d_law_435 : decode code 435 = .ok (.lcmp, 1) := by decide +kernel
theorem d_law_436 : decode code 436 = .ok (.ifCond .eq 5, 3) := by decide +kernel
theorem d_law_439 : decode code 439 = .ok (.iconst 0, 1) := by decide +kernel
theorem d_law_440 : decode code 440 = .ok (.ireturn, 1) := by decide +kernel
theorem d_law_441 : decode code 441 = .ok (.goto 487, 3) := by decide +kernel
theorem d_law_444 : decode code 444 = .ok (.aload_n 1, 1) := by decide +kernel
theorem d_law_445 : decode code 445 = .ok (.aload_n 0, 1) := by decide +kernel
theorem d_law_446 : decode code 446 = .ok (.iload 4, 2) := by decide +kernel
theorem d_law_448 : decode code 448 = .ok (.iconst 1, 1) := by decide +kernel
theorem d_law_449 : decode code 449 = .ok (.iadd, 1) := by decide +kernel
theorem d_law_450 : decode code 450 = .ok (.iaload, 1) := by decide +kernel
theorem d_law_451 : decode code 451 = .ok (.aload_n 3, 1) := by decide +kernel
theorem d_law_452 : decode code 452 = .ok (.invokestatic 81, 3) := by decide +kernel
theorem q_812 : Cond.methodLink "TwinKeepersLaw" 81 ⟨"TwinKeepersLaw", "row", "(LTwinKeepers;I[J)I"⟩ ∈ xT := xin 812 (by decide +kernel) (by decide +kernel)
theorem d_law_455 : decode code 455 = .ok (.istore 5, 2) := by decide +kernel
theorem d_law_457 : decode code 457 = .ok (.aload_n 2, 1) := by decide +kernel
theorem d_law_458 : decode code 458 = .ok (.aload_n 0, 1) := by decide +kernel
theorem d_law_459 : decode code 459 = .ok (.iload 4, 2) := by decide +kernel
theorem d_law_461 : decode code 461 = .ok (.iconst 1, 1) := by decide +kernel
theorem d_law_462 : decode code 462 = .ok (.iadd, 1) := by decide +kernel
theorem d_law_463 : decode code 463 = .ok (.iaload, 1) := by decide +kernel
theorem d_law_464 : decode code 464 = .ok (.invokevirtual 84, 3) := by decide +kernel
theorem q_1131 : Cond.methodLink "TwinKeepersLaw" 84 ⟨"TwinKeepersModel", "row", "(I)I"⟩ ∈ xT := xin 1131 (by decide +kernel) (by decide +kernel)
theorem d_law_467 : decode code 467 = .ok (.istore 6, 2) := by decide +kernel
theorem d_law_469 : decode code 469 = .ok (.aload_n 2, 1) := by decide +kernel
theorem d_law_470 : decode code 470 = .ok (.invokevirtual 66, 3) := by decide +kernel
theorem d_law_473 : decode code 473 = .ok (.iload 5, 2) := by decide +kernel
theorem d_law_475 : decode code 475 = .ok (.if_icmp .eq 5, 3) := by decide +kernel
theorem d_law_478 : decode code 478 = .ok (.iconst 0, 1) := by decide +kernel
theorem d_law_479 : decode code 479 = .ok (.ireturn, 1) := by decide +kernel
theorem d_law_480 : decode code 480 = .ok (.iload 5, 2) := by decide +kernel
theorem d_law_482 : decode code 482 = .ok (.ifCond .ne 15, 3) := by decide +kernel
theorem d_law_485 : decode code 485 = .ok (.aload_n 3, 1) := by decide +kernel
theorem d_law_486 : decode code 486 = .ok (.iconst 0, 1) := by decide +kernel
theorem d_law_487 : decode code 487 = .ok (.laload, 1) := by decide +kernel
theorem d_law_488 : decode code 488 = .ok (.iload 6, 2) := by decide +kernel
theorem d_law_490 : decode code 490 = .ok (.i2l, 1) := by decide +kernel
theorem d_law_491 : decode code 491 = .ok (.lcmp, 1) := by decide +kernel
theorem d_law_492 : decode code 492 = .ok (.ifCond .eq 5, 3) := by decide +kernel
theorem d_law_495 : decode code 495 = .ok (.iconst 0, 1) := by decide +kernel
theorem d_law_496 : decode code 496 = .ok (.ireturn, 1) := by decide +kernel
theorem d_law_497 : decode code 497 = .ok (.goto 431, 3) := by decide +kernel
theorem d_law_500 : decode code 500 = .ok (.aload_n 1, 1) := by decide +kernel
theorem d_law_501 : decode code 501 = .ok (.aload_n 0, 1) := by decide +kernel
theorem d_law_502 : decode code 502 = .ok (.iload 4, 2) := by decide +kernel
theorem d_law_504 : decode code 504 = .ok (.iconst 1, 1) := by decide +kernel
theorem d_law_505 : decode code 505 = .ok (.iadd, 1) := by decide +kernel
theorem d_law_506 : decode code 506 = .ok (.iaload, 1) := by decide +kernel
theorem d_law_507 : decode code 507 = .ok (.aload_n 0, 1) := by decide +kernel
theorem d_law_508 : decode code 508 = .ok (.iload 4, 2) := by decide +kernel
theorem d_law_510 : decode code 510 = .ok (.iconst 2, 1) := by decide +kernel
theorem d_law_511 : decode code 511 = .ok (.iadd, 1) := by decide +kernel
theorem d_law_512 : decode code 512 = .ok (.iaload, 1) := by decide +kernel
theorem d_law_513 : decode code 513 = .ok (.aload_n 3, 1) := by decide +kernel
theorem d_law_514 : decode code 514 = .ok (.invokestatic 85, 3) := by decide +kernel
theorem q_837 : Cond.methodLink "TwinKeepersLaw" 85 ⟨"TwinKeepersLaw", "make", "(LTwinKeepers;II[J)I"⟩ ∈ xT := xin 837 (by decide +kernel) (by decide +kernel)
theorem d_law_517 : decode code 517 = .ok (.istore 5, 2) := by decide +kernel
theorem d_law_519 : decode code 519 = .ok (.aload_n 2, 1) := by decide +kernel
theorem d_law_520 : decode code 520 = .ok (.aload_n 0, 1) := by decide +kernel
theorem d_law_521 : decode code 521 = .ok (.iload 4, 2) := by decide +kernel
theorem d_law_523 : decode code 523 = .ok (.iconst 1, 1) := by decide +kernel
theorem d_law_524 : decode code 524 = .ok (.iadd, 1) := by decide +kernel
theorem d_law_525 : decode code 525 = .ok (.iaload, 1) := by decide +kernel
theorem d_law_526 : decode code 526 = .ok (.aload_n 0, 1) := by decide +kernel
theorem d_law_527 : decode code 527 = .ok (.iload 4, 2) := by decide +kernel
theorem d_law_529 : decode code 529 = .ok (.iconst 2, 1) := by decide +kernel
theorem d_law_530 : decode code 530 = .ok (.iadd, 1) := by decide +kernel
theorem d_law_531 : decode code 531 = .ok (.iaload, 1) := by decide +kernel
theorem d_law_532 : decode code 532 = .ok (.invokevirtual 87, 3) := by decide +kernel
theorem q_1139 : Cond.methodLink "TwinKeepersLaw" 87 ⟨"TwinKeepersModel", "make", "(II)Z"⟩ ∈ xT := xin 1139 (by decide +kernel) (by decide +kernel)
theorem d_law_535 : decode code 535 = .ok (.istore 6, 2) := by decide +kernel
theorem d_law_537 : decode code 537 = .ok (.aload_n 2, 1) := by decide +kernel
theorem d_law_538 : decode code 538 = .ok (.invokevirtual 66, 3) := by decide +kernel
theorem d_law_541 : decode code 541 = .ok (.iload 5, 2) := by decide +kernel
theorem d_law_543 : decode code 543 = .ok (.if_icmp .eq 5, 3) := by decide +kernel
theorem d_law_546 : decode code 546 = .ok (.iconst 0, 1) := by decide +kernel
theorem d_law_547 : decode code 547 = .ok (.ireturn, 1) := by decide +kernel
theorem d_law_548 : decode code 548 = .ok (.iload 5, 2) := by decide +kernel
theorem d_law_550 : decode code 550 = .ok (.ifCond .ne 22, 3) := by decide +kernel
theorem d_law_553 : decode code 553 = .ok (.aload_n 3, 1) := by decide +kernel
theorem d_law_554 : decode code 554 = .ok (.iconst 0, 1) := by decide +kernel
theorem d_law_555 : decode code 555 = .ok (.laload, 1) := by decide +kernel
theorem d_law_556 : decode code 556 = .ok (.iload 6, 2) := by decide +kernel
theorem d_law_558 : decode code 558 = .ok (.ifCond .eq 7, 3) := by decide +kernel
theorem d_law_561 : decode code 561 = .ok (.lconst 1, 1) := by decide +kernel
theorem d_law_562 : decode code 562 = .ok (.goto 4, 3) := by decide +kernel
theorem d_law_565 : decode code 565 = .ok (.lconst 0, 1) := by decide +kernel
theorem d_law_566 : decode code 566 = .ok (.lcmp, 1) := by decide +kernel
theorem d_law_567 : decode code 567 = .ok (.ifCond .eq 5, 3) := by decide +kernel
theorem d_law_570 : decode code 570 = .ok (.iconst 0, 1) := by decide +kernel
theorem d_law_571 : decode code 571 = .ok (.ireturn, 1) := by decide +kernel
theorem d_law_572 : decode code 572 = .ok (.goto 356, 3) := by decide +kernel
theorem d_law_575 : decode code 575 = .ok (.aload_n 1, 1) := by decide +kernel
theorem d_law_576 : decode code 576 = .ok (.aload_n 0, 1) := by decide +kernel
theorem d_law_577 : decode code 577 = .ok (.iload 4, 2) := by decide +kernel
theorem d_law_579 : decode code 579 = .ok (.iconst 1, 1) := by decide +kernel
theorem d_law_580 : decode code 580 = .ok (.iadd, 1) := by decide +kernel
theorem d_law_581 : decode code 581 = .ok (.iaload, 1) := by decide +kernel
theorem d_law_582 : decode code 582 = .ok (.aload_n 3, 1) := by decide +kernel
theorem d_law_583 : decode code 583 = .ok (.invokestatic 88, 3) := by decide +kernel
theorem q_879 : Cond.methodLink "TwinKeepersLaw" 88 ⟨"TwinKeepersLaw", "clear", "(LTwinKeepers;I[J)I"⟩ ∈ xT := xin 879 (by decide +kernel) (by decide +kernel)
theorem d_law_586 : decode code 586 = .ok (.istore 5, 2) := by decide +kernel
theorem d_law_588 : decode code 588 = .ok (.aload_n 2, 1) := by decide +kernel
theorem d_law_589 : decode code 589 = .ok (.aload_n 0, 1) := by decide +kernel
theorem d_law_590 : decode code 590 = .ok (.iload 4, 2) := by decide +kernel
theorem d_law_592 : decode code 592 = .ok (.iconst 1, 1) := by decide +kernel
theorem d_law_593 : decode code 593 = .ok (.iadd, 1) := by decide +kernel
theorem d_law_594 : decode code 594 = .ok (.iaload, 1) := by decide +kernel
theorem d_law_595 : decode code 595 = .ok (.invokevirtual 90, 3) := by decide +kernel
theorem q_1151 : Cond.methodLink "TwinKeepersLaw" 90 ⟨"TwinKeepersModel", "clear", "(I)I"⟩ ∈ xT := xin 1151 (by decide +kernel) (by decide +kernel)
theorem d_law_598 : decode code 598 = .ok (.istore 6, 2) := by decide +kernel
theorem d_law_600 : decode code 600 = .ok (.aload_n 2, 1) := by decide +kernel
theorem d_law_601 : decode code 601 = .ok (.invokevirtual 66, 3) := by decide +kernel
theorem d_law_604 : decode code 604 = .ok (.iload 5, 2) := by decide +kernel
theorem d_law_606 : decode code 606 = .ok (.if_icmp .eq 5, 3) := by decide +kernel
theorem d_law_609 : decode code 609 = .ok (.iconst 0, 1) := by decide +kernel
theorem d_law_610 : decode code 610 = .ok (.ireturn, 1) := by decide +kernel
theorem d_law_611 : decode code 611 = .ok (.iload 5, 2) := by decide +kernel
theorem d_law_613 : decode code 613 = .ok (.ifCond .ne 15, 3) := by decide +kernel
theorem d_law_616 : decode code 616 = .ok (.aload_n 3, 1) := by decide +kernel
theorem d_law_617 : decode code 617 = .ok (.iconst 0, 1) := by decide +kernel
theorem d_law_618 : decode code 618 = .ok (.laload, 1) := by decide +kernel
theorem d_law_619 : decode code 619 = .ok (.iload 6, 2) := by decide +kernel
theorem d_law_621 : decode code 621 = .ok (.i2l, 1) := by decide +kernel
theorem d_law_622 : decode code 622 = .ok (.lcmp, 1) := by decide +kernel
theorem d_law_623 : decode code 623 = .ok (.ifCond .eq 5, 3) := by decide +kernel
theorem d_law_626 : decode code 626 = .ok (.iconst 0, 1) := by decide +kernel
theorem d_law_627 : decode code 627 = .ok (.ireturn, 1) := by decide +kernel
theorem d_law_628 : decode code 628 = .ok (.goto 300, 3) := by decide +kernel
theorem d_law_631 : decode code 631 = .ok (.aload_n 1, 1) := by decide +kernel
theorem d_law_632 : decode code 632 = .ok (.aload_n 0, 1) := by decide +kernel
theorem d_law_633 : decode code 633 = .ok (.iload 4, 2) := by decide +kernel
theorem d_law_635 : decode code 635 = .ok (.iconst 1, 1) := by decide +kernel
theorem d_law_636 : decode code 636 = .ok (.iadd, 1) := by decide +kernel
theorem d_law_637 : decode code 637 = .ok (.iaload, 1) := by decide +kernel
theorem d_law_638 : decode code 638 = .ok (.aload_n 0, 1) := by decide +kernel
theorem d_law_639 : decode code 639 = .ok (.iload 4, 2) := by decide +kernel
theorem d_law_641 : decode code 641 = .ok (.iconst 2, 1) := by decide +kernel
theorem d_law_642 : decode code 642 = .ok (.iadd, 1) := by decide +kernel
theorem d_law_643 : decode code 643 = .ok (.iaload, 1) := by decide +kernel
theorem d_law_644 : decode code 644 = .ok (.aload_n 0, 1) := by decide +kernel
theorem d_law_645 : decode code 645 = .ok (.iload 4, 2) := by decide +kernel
theorem d_law_647 : decode code 647 = .ok (.iconst 3, 1) := by decide +kernel
theorem d_law_648 : decode code 648 = .ok (.iadd, 1) := by decide +kernel
theorem d_law_649 : decode code 649 = .ok (.iaload, 1) := by decide +kernel
theorem d_law_650 : decode code 650 = .ok (.aload_n 3, 1) := by decide +kernel
theorem d_law_651 : decode code 651 = .ok (.invokestatic 91, 3) := by decide +kernel
theorem q_887 : Cond.methodLink "TwinKeepersLaw" 91 ⟨"TwinKeepersLaw", "session", "(LTwinKeepers;III[J)I"⟩ ∈ xT := xin 887 (by decide +kernel) (by decide +kernel)
theorem d_law_654 : decode code 654 = .ok (.istore 5, 2) := by decide +kernel
theorem d_law_656 : decode code 656 = .ok (.aload_n 2, 1) := by decide +kernel
theorem d_law_657 : decode code 657 = .ok (.aload_n 0, 1) := by decide +kernel
theorem d_law_658 : decode code 658 = .ok (.iload 4, 2) := by decide +kernel
theorem d_law_660 : decode code 660 = .ok (.iconst 1, 1) := by decide +kernel
theorem d_law_661 : decode code 661 = .ok (.iadd, 1) := by decide +kernel
theorem d_law_662 : decode code 662 = .ok (.iaload, 1) := by decide +kernel
theorem d_law_663 : decode code 663 = .ok (.aload_n 0, 1) := by decide +kernel
theorem d_law_664 : decode code 664 = .ok (.iload 4, 2) := by decide +kernel
theorem d_law_666 : decode code 666 = .ok (.iconst 2, 1) := by decide +kernel
theorem d_law_667 : decode code 667 = .ok (.iadd, 1) := by decide +kernel
theorem d_law_668 : decode code 668 = .ok (.iaload, 1) := by decide +kernel
theorem d_law_669 : decode code 669 = .ok (.aload_n 0, 1) := by decide +kernel
theorem d_law_670 : decode code 670 = .ok (.iload 4, 2) := by decide +kernel
theorem d_law_672 : decode code 672 = .ok (.iconst 3, 1) := by decide +kernel
theorem d_law_673 : decode code 673 = .ok (.iadd, 1) := by decide +kernel
theorem d_law_674 : decode code 674 = .ok (.iaload, 1) := by decide +kernel
theorem d_law_675 : decode code 675 = .ok (.invokevirtual 94, 3) := by decide +kernel
theorem q_1155 : Cond.methodLink "TwinKeepersLaw" 94 ⟨"TwinKeepersModel", "session", "(III)I"⟩ ∈ xT := xin 1155 (by decide +kernel) (by decide +kernel)
theorem d_law_678 : decode code 678 = .ok (.istore 6, 2) := by decide +kernel
theorem d_law_680 : decode code 680 = .ok (.aload_n 2, 1) := by decide +kernel
theorem d_law_681 : decode code 681 = .ok (.invokevirtual 66, 3) := by decide +kernel
theorem d_law_684 : decode code 684 = .ok (.iload 5, 2) := by decide +kernel
theorem d_law_686 : decode code 686 = .ok (.if_icmp .eq 5, 3) := by decide +kernel
theorem d_law_689 : decode code 689 = .ok (.iconst 0, 1) := by decide +kernel
theorem d_law_690 : decode code 690 = .ok (.ireturn, 1) := by decide +kernel
theorem d_law_691 : decode code 691 = .ok (.iload 5, 2) := by decide +kernel
theorem d_law_693 : decode code 693 = .ok (.ifCond .ne 15, 3) := by decide +kernel
theorem d_law_696 : decode code 696 = .ok (.aload_n 3, 1) := by decide +kernel
theorem d_law_697 : decode code 697 = .ok (.iconst 0, 1) := by decide +kernel
theorem d_law_698 : decode code 698 = .ok (.laload, 1) := by decide +kernel
theorem d_law_699 : decode code 699 = .ok (.iload 6, 2) := by decide +kernel
theorem d_law_701 : decode code 701 = .ok (.i2l, 1) := by decide +kernel
theorem d_law_702 : decode code 702 = .ok (.lcmp, 1) := by decide +kernel
theorem d_law_703 : decode code 703 = .ok (.ifCond .eq 5, 3) := by decide +kernel
theorem d_law_706 : decode code 706 = .ok (.iconst 0, 1) := by decide +kernel
theorem d_law_707 : decode code 707 = .ok (.ireturn, 1) := by decide +kernel
theorem d_law_708 : decode code 708 = .ok (.goto 220, 3) := by decide +kernel
theorem d_law_711 : decode code 711 = .ok (.aload_n 1, 1) := by decide +kernel
theorem d_law_712 : decode code 712 = .ok (.aload_n 0, 1) := by decide +kernel
theorem d_law_713 : decode code 713 = .ok (.iload 4, 2) := by decide +kernel
theorem d_law_715 : decode code 715 = .ok (.iconst 1, 1) := by decide +kernel
theorem d_law_716 : decode code 716 = .ok (.iadd, 1) := by decide +kernel
theorem d_law_717 : decode code 717 = .ok (.iaload, 1) := by decide +kernel
theorem d_law_718 : decode code 718 = .ok (.aload_n 0, 1) := by decide +kernel
theorem d_law_719 : decode code 719 = .ok (.iload 4, 2) := by decide +kernel
theorem d_law_721 : decode code 721 = .ok (.iconst 2, 1) := by decide +kernel
theorem d_law_722 : decode code 722 = .ok (.iadd, 1) := by decide +kernel
theorem d_law_723 : decode code 723 = .ok (.iaload, 1) := by decide +kernel
theorem d_law_724 : decode code 724 = .ok (.aload_n 0, 1) := by decide +kernel
theorem d_law_725 : decode code 725 = .ok (.iload 4, 2) := by decide +kernel
theorem d_law_727 : decode code 727 = .ok (.iconst 3, 1) := by decide +kernel
theorem d_law_728 : decode code 728 = .ok (.iadd, 1) := by decide +kernel
theorem d_law_729 : decode code 729 = .ok (.iaload, 1) := by decide +kernel
theorem d_law_730 : decode code 730 = .ok (.aload_n 3, 1) := by decide +kernel
theorem d_law_731 : decode code 731 = .ok (.invokestatic 95, 3) := by decide +kernel
theorem q_896 : Cond.methodLink "TwinKeepersLaw" 95 ⟨"TwinKeepersLaw", "key", "(LTwinKeepers;III[J)I"⟩ ∈ xT := xin 896 (by decide +kernel) (by decide +kernel)
theorem d_law_734 : decode code 734 = .ok (.istore 5, 2) := by decide +kernel
theorem d_law_736 : decode code 736 = .ok (.aload_n 2, 1) := by decide +kernel
theorem d_law_737 : decode code 737 = .ok (.aload_n 0, 1) := by decide +kernel
theorem d_law_738 : decode code 738 = .ok (.iload 4, 2) := by decide +kernel
theorem d_law_740 : decode code 740 = .ok (.iconst 1, 1) := by decide +kernel
theorem d_law_741 : decode code 741 = .ok (.iadd, 1) := by decide +kernel
theorem d_law_742 : decode code 742 = .ok (.iaload, 1) := by decide +kernel
theorem d_law_743 : decode code 743 = .ok (.aload_n 0, 1) := by decide +kernel
theorem d_law_744 : decode code 744 = .ok (.iload 4, 2) := by decide +kernel
theorem d_law_746 : decode code 746 = .ok (.iconst 2, 1) := by decide +kernel
theorem d_law_747 : decode code 747 = .ok (.iadd, 1) := by decide +kernel
theorem d_law_748 : decode code 748 = .ok (.iaload, 1) := by decide +kernel
theorem d_law_749 : decode code 749 = .ok (.aload_n 0, 1) := by decide +kernel
theorem d_law_750 : decode code 750 = .ok (.iload 4, 2) := by decide +kernel
theorem d_law_752 : decode code 752 = .ok (.iconst 3, 1) := by decide +kernel
theorem d_law_753 : decode code 753 = .ok (.iadd, 1) := by decide +kernel
theorem d_law_754 : decode code 754 = .ok (.iaload, 1) := by decide +kernel
theorem d_law_755 : decode code 755 = .ok (.invokevirtual 97, 3) := by decide +kernel
theorem q_1159 : Cond.methodLink "TwinKeepersLaw" 97 ⟨"TwinKeepersModel", "key", "(III)I"⟩ ∈ xT := xin 1159 (by decide +kernel) (by decide +kernel)
theorem d_law_758 : decode code 758 = .ok (.istore 6, 2) := by decide +kernel
theorem d_law_760 : decode code 760 = .ok (.aload_n 2, 1) := by decide +kernel
theorem d_law_761 : decode code 761 = .ok (.invokevirtual 66, 3) := by decide +kernel
theorem d_law_764 : decode code 764 = .ok (.iload 5, 2) := by decide +kernel
theorem d_law_766 : decode code 766 = .ok (.if_icmp .eq 5, 3) := by decide +kernel
theorem d_law_769 : decode code 769 = .ok (.iconst 0, 1) := by decide +kernel
theorem d_law_770 : decode code 770 = .ok (.ireturn, 1) := by decide +kernel
theorem d_law_771 : decode code 771 = .ok (.iload 5, 2) := by decide +kernel
theorem d_law_773 : decode code 773 = .ok (.ifCond .ne 15, 3) := by decide +kernel
theorem d_law_776 : decode code 776 = .ok (.aload_n 3, 1) := by decide +kernel
theorem d_law_777 : decode code 777 = .ok (.iconst 0, 1) := by decide +kernel
theorem d_law_778 : decode code 778 = .ok (.laload, 1) := by decide +kernel
theorem d_law_779 : decode code 779 = .ok (.iload 6, 2) := by decide +kernel
theorem d_law_781 : decode code 781 = .ok (.i2l, 1) := by decide +kernel
theorem d_law_782 : decode code 782 = .ok (.lcmp, 1) := by decide +kernel
theorem d_law_783 : decode code 783 = .ok (.ifCond .eq 5, 3) := by decide +kernel
theorem d_law_786 : decode code 786 = .ok (.iconst 0, 1) := by decide +kernel
theorem d_law_787 : decode code 787 = .ok (.ireturn, 1) := by decide +kernel
theorem d_law_788 : decode code 788 = .ok (.goto 140, 3) := by decide +kernel
theorem d_law_791 : decode code 791 = .ok (.aload_n 1, 1) := by decide +kernel
theorem d_law_792 : decode code 792 = .ok (.aload_n 0, 1) := by decide +kernel
theorem d_law_793 : decode code 793 = .ok (.iload 4, 2) := by decide +kernel
theorem d_law_795 : decode code 795 = .ok (.iconst 1, 1) := by decide +kernel
theorem d_law_796 : decode code 796 = .ok (.iadd, 1) := by decide +kernel
theorem d_law_797 : decode code 797 = .ok (.iaload, 1) := by decide +kernel
theorem d_law_798 : decode code 798 = .ok (.aload_n 0, 1) := by decide +kernel
theorem d_law_799 : decode code 799 = .ok (.iload 4, 2) := by decide +kernel
theorem d_law_801 : decode code 801 = .ok (.iconst 2, 1) := by decide +kernel
theorem d_law_802 : decode code 802 = .ok (.iadd, 1) := by decide +kernel
theorem d_law_803 : decode code 803 = .ok (.iaload, 1) := by decide +kernel
theorem d_law_804 : decode code 804 = .ok (.aload_n 3, 1) := by decide +kernel
theorem d_law_805 : decode code 805 = .ok (.invokestatic 98, 3) := by decide +kernel
theorem q_906 : Cond.methodLink "TwinKeepersLaw" 98 ⟨"TwinKeepersLaw", "state", "(LTwinKeepers;II[J)I"⟩ ∈ xT := xin 906 (by decide +kernel) (by decide +kernel)
theorem d_law_808 : decode code 808 = .ok (.istore 5, 2) := by decide +kernel
theorem d_law_810 : decode code 810 = .ok (.aload_n 2, 1) := by decide +kernel
theorem d_law_811 : decode code 811 = .ok (.aload_n 0, 1) := by decide +kernel
theorem d_law_812 : decode code 812 = .ok (.iload 4, 2) := by decide +kernel
theorem d_law_814 : decode code 814 = .ok (.iconst 1, 1) := by decide +kernel
theorem d_law_815 : decode code 815 = .ok (.iadd, 1) := by decide +kernel
theorem d_law_816 : decode code 816 = .ok (.iaload, 1) := by decide +kernel
theorem d_law_817 : decode code 817 = .ok (.aload_n 0, 1) := by decide +kernel
theorem d_law_818 : decode code 818 = .ok (.iload 4, 2) := by decide +kernel
theorem d_law_820 : decode code 820 = .ok (.iconst 2, 1) := by decide +kernel
theorem d_law_821 : decode code 821 = .ok (.iadd, 1) := by decide +kernel
theorem d_law_822 : decode code 822 = .ok (.iaload, 1) := by decide +kernel
theorem d_law_823 : decode code 823 = .ok (.invokevirtual 100, 3) := by decide +kernel
theorem q_1163 : Cond.methodLink "TwinKeepersLaw" 100 ⟨"TwinKeepersModel", "state", "(II)I"⟩ ∈ xT := xin 1163 (by decide +kernel) (by decide +kernel)
theorem d_law_826 : decode code 826 = .ok (.istore 6, 2) := by decide +kernel
theorem d_law_828 : decode code 828 = .ok (.aload_n 2, 1) := by decide +kernel
theorem d_law_829 : decode code 829 = .ok (.invokevirtual 66, 3) := by decide +kernel
theorem d_law_832 : decode code 832 = .ok (.iload 5, 2) := by decide +kernel
theorem d_law_834 : decode code 834 = .ok (.if_icmp .eq 5, 3) := by decide +kernel
theorem d_law_837 : decode code 837 = .ok (.iconst 0, 1) := by decide +kernel
theorem d_law_838 : decode code 838 = .ok (.ireturn, 1) := by decide +kernel
theorem d_law_839 : decode code 839 = .ok (.iload 5, 2) := by decide +kernel
theorem d_law_841 : decode code 841 = .ok (.ifCond .ne 15, 3) := by decide +kernel
theorem d_law_844 : decode code 844 = .ok (.aload_n 3, 1) := by decide +kernel
theorem d_law_845 : decode code 845 = .ok (.iconst 0, 1) := by decide +kernel
theorem d_law_846 : decode code 846 = .ok (.laload, 1) := by decide +kernel
theorem d_law_847 : decode code 847 = .ok (.iload 6, 2) := by decide +kernel
theorem d_law_849 : decode code 849 = .ok (.i2l, 1) := by decide +kernel
theorem d_law_850 : decode code 850 = .ok (.lcmp, 1) := by decide +kernel
theorem d_law_851 : decode code 851 = .ok (.ifCond .eq 5, 3) := by decide +kernel
theorem d_law_854 : decode code 854 = .ok (.iconst 0, 1) := by decide +kernel
theorem d_law_855 : decode code 855 = .ok (.ireturn, 1) := by decide +kernel
theorem d_law_856 : decode code 856 = .ok (.goto 72, 3) := by decide +kernel
theorem d_law_859 : decode code 859 = .ok (.aload_n 1, 1) := by decide +kernel
theorem d_law_860 : decode code 860 = .ok (.invokevirtual 101, 3) := by decide +kernel
theorem q_136 : Cond.methodLink "TwinKeepersLaw" 101 ⟨"TwinKeepers", "place", "()I"⟩ ∈ xT := xin 136 (by decide +kernel) (by decide +kernel)
theorem d_law_863 : decode code 863 = .ok (.aload_n 2, 1) := by decide +kernel
theorem d_law_864 : decode code 864 = .ok (.invokevirtual 104, 3) := by decide +kernel
theorem q_1171 : Cond.methodLink "TwinKeepersLaw" 104 ⟨"TwinKeepersModel", "place", "()I"⟩ ∈ xT := xin 1171 (by decide +kernel) (by decide +kernel)
theorem d_law_867 : decode code 867 = .ok (.if_icmp .eq 61, 3) := by decide +kernel
theorem d_law_870 : decode code 870 = .ok (.iconst 0, 1) := by decide +kernel
theorem d_law_871 : decode code 871 = .ok (.ireturn, 1) := by decide +kernel
theorem d_law_872 : decode code 872 = .ok (.aload_n 1, 1) := by decide +kernel
theorem d_law_873 : decode code 873 = .ok (.aload_n 0, 1) := by decide +kernel
theorem d_law_874 : decode code 874 = .ok (.iload 4, 2) := by decide +kernel
theorem d_law_876 : decode code 876 = .ok (.iconst 1, 1) := by decide +kernel
theorem d_law_877 : decode code 877 = .ok (.iadd, 1) := by decide +kernel
theorem d_law_878 : decode code 878 = .ok (.iaload, 1) := by decide +kernel
theorem d_law_879 : decode code 879 = .ok (.aload_n 3, 1) := by decide +kernel
theorem d_law_880 : decode code 880 = .ok (.invokestatic 105, 3) := by decide +kernel
theorem q_926 : Cond.methodLink "TwinKeepersLaw" 105 ⟨"TwinKeepersLaw", "byteAt", "(LTwinKeepers;I[J)I"⟩ ∈ xT := xin 926 (by decide +kernel) (by decide +kernel)
theorem d_law_883 : decode code 883 = .ok (.istore 5, 2) := by decide +kernel
theorem d_law_885 : decode code 885 = .ok (.aload_n 2, 1) := by decide +kernel
theorem d_law_886 : decode code 886 = .ok (.aload_n 0, 1) := by decide +kernel
theorem d_law_887 : decode code 887 = .ok (.iload 4, 2) := by decide +kernel
theorem d_law_889 : decode code 889 = .ok (.iconst 1, 1) := by decide +kernel
theorem d_law_890 : decode code 890 = .ok (.iadd, 1) := by decide +kernel
theorem d_law_891 : decode code 891 = .ok (.iaload, 1) := by decide +kernel
theorem d_law_892 : decode code 892 = .ok (.invokevirtual 107, 3) := by decide +kernel
theorem q_1175 : Cond.methodLink "TwinKeepersLaw" 107 ⟨"TwinKeepersModel", "byteAt", "(I)I"⟩ ∈ xT := xin 1175 (by decide +kernel) (by decide +kernel)
theorem d_law_895 : decode code 895 = .ok (.istore 6, 2) := by decide +kernel
theorem d_law_897 : decode code 897 = .ok (.aload_n 2, 1) := by decide +kernel
theorem d_law_898 : decode code 898 = .ok (.invokevirtual 66, 3) := by decide +kernel
theorem d_law_901 : decode code 901 = .ok (.iload 5, 2) := by decide +kernel
theorem d_law_903 : decode code 903 = .ok (.if_icmp .eq 5, 3) := by decide +kernel
theorem d_law_906 : decode code 906 = .ok (.iconst 0, 1) := by decide +kernel
theorem d_law_907 : decode code 907 = .ok (.ireturn, 1) := by decide +kernel
theorem d_law_908 : decode code 908 = .ok (.iload 5, 2) := by decide +kernel
theorem d_law_910 : decode code 910 = .ok (.ifCond .ne 15, 3) := by decide +kernel
theorem d_law_913 : decode code 913 = .ok (.aload_n 3, 1) := by decide +kernel
theorem d_law_914 : decode code 914 = .ok (.iconst 0, 1) := by decide +kernel
theorem d_law_915 : decode code 915 = .ok (.laload, 1) := by decide +kernel
theorem d_law_916 : decode code 916 = .ok (.iload 6, 2) := by decide +kernel
theorem d_law_918 : decode code 918 = .ok (.i2l, 1) := by decide +kernel
theorem d_law_919 : decode code 919 = .ok (.lcmp, 1) := by decide +kernel
theorem d_law_920 : decode code 920 = .ok (.ifCond .eq 5, 3) := by decide +kernel
theorem d_law_923 : decode code 923 = .ok (.iconst 0, 1) := by decide +kernel
theorem d_law_924 : decode code 924 = .ok (.ireturn, 1) := by decide +kernel
theorem d_law_925 : decode code 925 = .ok (.goto 3, 3) := by decide +kernel
theorem d_law_928 : decode code 928 = .ok (.iinc 4 6, 3) := by decide +kernel
theorem d_law_931 : decode code 931 = .ok (.goto (-908), 3) := by decide +kernel
theorem d_law_934 : decode code 934 = .ok (.iconst 1, 1) := by decide +kernel
theorem d_law_935 : decode code 935 = .ok (.ireturn, 1) := by decide +kernel
theorem and15 (x : Int32) : ∃ k, k < 16 ∧ x &&& 15 = nI k := by
  have h : x &&& 15 = (x &&& 255) &&& 15 := by
    rw [Int32.and_assoc]
    rfl
  have h2 : x &&& 255 = nI (ub x) := u8_ub x
  have g : ∀ k, k < 256 → nI k &&& 15 = nI (k % 16) := by decide +kernel
  have hu : ub x < 256 := Nat.mod_lt _ (by decide)
  exact ⟨ub x % 16, Nat.mod_lt _ (by decide), by rw [h, h2, g _ hu]⟩
abbrev PT : xO → xH → Prop := fun o _ => o = .inl (some (.int 1))
/-- the law behind a call of its script -/
def lK (E : xE) (F A : Nat → Nat) (b out i j : Nat) : Prop := ∀ (X : xH) (V : Nat → Nat) (I : Nat → Option Imm) (s : MS) (f : Nat → Int64) (S : St) (cells slots : Nat) (u5 u6 : Option Value), xCo E.D X F V I A s out f S → mRel s S → inv2 S → cells ≤ 100 + 12 * (j + 1) + pC V → slots ≤ 20000 + 2000 * (j + 1) + pS V → xG E X cells slots 928 [some (.ref b), some (.ref (F 0)), some (.ref (A 0)), some (.ref out), some (.int (nI i)), u5, u6] []
theorem xTK.pot {D : va_G} {X : xH} {F V : Nat → Nat} {I : Nat → Option Imm} {S : St} (h : xTK D X F V I S) : pC V ≤ 100800 ∧ pS V ≤ 360000 := by
  have := h.caps
  unfold pC pS
  omega
theorem lcmp_self {x y : Int64} (h : x = y) : lg_cmp x y = 0 := by
  subst h
  unfold lg_cmp
  simp
set_option maxRecDepth 100000 in
set_option maxHeartbeats 4000000 in
theorem law_feed {E : xE} (C : xCx E x code 7 (some .boolean) [] 20 601024 7293034 PT) {b N : Nat} {g : Nat → Int32} (hX : va_X b N g E.s E.s.heap) (hb : b < E.H0.size) (hN : N ≤ 3072) {X : xH} {F V : Nat → Nat} {I : Nat → Option Imm} {A : Nat → Nat} {s : MS} {out : Nat} {f : Nat → Int64} {S : St} (hC : xCo E.D X F V I A s out f S) (hR : mRel s S) (hV : inv2 S) {i j cells slots : Nat} (hi : i + 6 ≤ N) (hj : j ≤ 512) (hc : cells ≤ 100 + 12 * j + pC V) (hs : slots ≤ 20000 + 2000 * j + pS V) {u5 u6 : Option Value} (k : lK E F A b out i j) : xG E X cells slots 104 [some (.ref b), some (.ref (F 0)), some (.ref (A 0)), some (.ref out), some (.int (nI i)), u5, u6] [] := by
  have hW := hC.1.wf
  have hp := hC.1.pot
  have hp1 := hp.1
  have hp2 := hp.2
  have hA := hC.2.1
  obtain ⟨e, he⟩ : ∃ e : Int64, e = ((g (i + 1)).toInt64 <<< sa 32) ||| ((g (i + 2)).toInt64 &&& 4294967295) := ⟨_, rfl⟩
  refine xr_aload_n C d_law_104 105 rfl rfl ?_
  refine xr_aload_n C d_law_105 106 rfl rfl ?_
  refine xr_iload C d_law_106 108 rfl rfl ?_
  refine xr_iconst (v := 1) C d_law_108 109 rfl (by decide) ?_
  refine xr_iadd C d_law_109 110 rfl ?_
  refine xr_toi (show _ = nI (i + 1) from nI_add i 1) ?_
  refine xr_sld (j := i + 1) C hX hb d_law_110 111 rfl rfl (by omega) (by omega) ?_
  refine xr_i2l C d_law_111 112 rfl rfl ?_
  refine xr_bipush (v := 32) C d_law_112 114 rfl (by decide) ?_
  refine xr_lshl (v := (g (i + 1)).toInt64 <<< sa 32) C d_law_114 115 rfl rfl ?_
  refine xr_aload_n C d_law_115 116 rfl rfl ?_
  refine xr_iload C d_law_116 118 rfl rfl ?_
  refine xr_iconst (v := 2) C d_law_118 119 rfl (by decide) ?_
  refine xr_iadd C d_law_119 120 rfl ?_
  refine xr_toi (show _ = nI (i + 2) from nI_add i 2) ?_
  refine xr_sld (j := i + 2) C hX hb d_law_120 121 rfl rfl (by omega) (by omega) ?_
  refine xr_i2l C d_law_121 122 rfl rfl ?_
  refine xr_ldc2 (v := 4294967295) C d_law_122 125 rfl q_1179 ?_
  refine xr_land C d_law_125 126 rfl ?_
  refine xr_lor C d_law_126 127 rfl ?_
  refine xr_tol (show _ = e from he.symm) ?_
  refine xr_aload_n C d_law_127 128 rfl rfl ?_
  refine xr_iload C d_law_128 130 rfl rfl ?_
  refine xr_iconst (v := 3) C d_law_130 131 rfl (by decide) ?_
  refine xr_iadd C d_law_131 132 rfl ?_
  refine xr_toi (show _ = nI (i + 3) from nI_add i 3) ?_
  refine xr_sld (j := i + 3) C hX hb d_law_132 133 rfl rfl (by omega) (by omega) ?_
  refine xr_aload_n C d_law_133 134 rfl rfl ?_
  refine xr_callS C (c_La_feed hC (e := e) (n := (g (i + 3)))) k_La_feed d_law_134 137 rfl (Or.inl q_140) s_La_feed in_La_feed h_La_feed rfl ⟨Nat.le_of_ble_eq_true rfl, Nat.le_of_ble_eq_true rfl, Nat.le_of_ble_eq_true rfl⟩ (by omega) (by omega) (fun v9 X1 hP => ?_) (fun _ _ h => absurd h.1 (by simp))
  obtain ⟨e1, V1, I1, f1, hg, hC1, hr2, hf1⟩ := hP
  cases e1
  obtain ⟨hg1, hg2⟩ := hg
  refine xr_istore C d_law_137 139 rfl rfl rfl ?_
  refine xr_aload_n C d_law_139 140 rfl rfl ?_
  refine xr_aload_n C d_law_140 141 rfl rfl ?_
  refine xr_iload C d_law_141 143 rfl rfl ?_
  refine xr_iconst (v := 1) C d_law_143 144 rfl (by decide) ?_
  refine xr_iadd C d_law_144 145 rfl ?_
  refine xr_toi (show _ = nI (i + 1) from nI_add i 1) ?_
  refine xr_sld (j := i + 1) C hX hb d_law_145 146 rfl rfl (by omega) (by omega) ?_
  refine xr_i2l C d_law_146 147 rfl rfl ?_
  refine xr_bipush (v := 32) C d_law_147 149 rfl (by decide) ?_
  refine xr_lshl (v := (g (i + 1)).toInt64 <<< sa 32) C d_law_149 150 rfl rfl ?_
  refine xr_aload_n C d_law_150 151 rfl rfl ?_
  refine xr_iload C d_law_151 153 rfl rfl ?_
  refine xr_iconst (v := 2) C d_law_153 154 rfl (by decide) ?_
  refine xr_iadd C d_law_154 155 rfl ?_
  refine xr_toi (show _ = nI (i + 2) from nI_add i 2) ?_
  refine xr_sld (j := i + 2) C hX hb d_law_155 156 rfl rfl (by omega) (by omega) ?_
  refine xr_i2l C d_law_156 157 rfl rfl ?_
  refine xr_ldc2 (v := 4294967295) C d_law_157 160 rfl q_1179 ?_
  refine xr_land C d_law_160 161 rfl ?_
  refine xr_lor C d_law_161 162 rfl ?_
  refine xr_tol (show _ = e from he.symm) ?_
  refine xr_aload_n C d_law_162 163 rfl rfl ?_
  refine xr_iload C d_law_163 165 rfl rfl ?_
  refine xr_iconst (v := 3) C d_law_165 166 rfl (by decide) ?_
  refine xr_iadd C d_law_166 167 rfl ?_
  refine xr_toi (show _ = nI (i + 3) from nI_add i 3) ?_
  refine xr_sld (j := i + 3) C hX hb d_law_167 168 rfl rfl (by omega) (by omega) ?_
  refine xG.eqX hC1.m.symm ?_
  have hA1 := hC1.2.1
  refine xr_callV C (d_Mo_feed hA hR hW hV (e := e) (n := (g (i + 3)))) k_Mo_feed d_law_168 171 rfl (mX_o hA) rfl (Or.inl q_1016) v_Mo_feed e_Mo_feed h_Mo_feed rfl ⟨Nat.le_of_ble_eq_true rfl, Nat.le_of_ble_eq_true rfl, Nat.le_of_ble_eq_true rfl⟩ (by omega) (by omega) (fun v9 X2 hP => ?_) (fun _ _ h => by obtain ⟨_, h, _⟩ := h; cases h)
  obtain ⟨v, e2, s2, rfl, ht, hv, hR2⟩ := hP
  cases e2
  have hC2 := hC1.mod s2
  refine xr_istore C d_law_171 173 rfl rfl rfl ?_
  refine xr_aload_n C d_law_173 174 rfl rfl ?_
  refine xr_callV C (c_Mo_thrown hA) k_Mo_thrown d_law_174 177 rfl (mX_o hA) rfl (Or.inl q_1012) v_Mo_thrown e_Mo_thrown h_Mo_thrown rfl ⟨Nat.le_of_ble_eq_true rfl, Nat.le_of_ble_eq_true rfl, Nat.le_of_ble_eq_true rfl⟩ (by omega) (by omega) (fun v9 X9 hP => ?_) (fun _ _ h => absurd h.1 (by simp))
  obtain ⟨h1, rfl⟩ := hP
  cases h1
  refine xr_iload C d_law_177 179 rfl rfl ?_
  refine xr_icmp_eq C d_law_179 182 184 rfl (by decide) (fun _ => ?_) (fun h => absurd ht h)
  refine xr_iload C d_law_184 186 rfl rfl ?_
  by_cases h0 : (fFeed S e (g (i + 3))).1 = 0
  · have q0 : nI (fFeed S e (g (i + 3))).1 = 0 := by rw [h0]; rfl
    refine xr_if_ne C d_law_186 189 201 rfl (by decide) (fun h => absurd q0 h) (fun _ => ?_)
    refine xr_aload_n C d_law_189 190 rfl rfl ?_
    refine xr_iconst (v := 0) C d_law_190 191 rfl (by decide) ?_
    refine xr_lald (j := 0) C d_law_191 192 rfl hC2.o rfl (by omega) (by omega) ?_
    refine xr_iload C d_law_192 194 rfl rfl ?_
    refine xr_i2l C d_law_194 195 rfl rfl ?_
    refine xr_lcmp C d_law_195 196 rfl ?_
    refine xr_toi (show _ = (0 : Int32) from lcmp_self (by rw [hf1 h0, hv h0])) ?_
    refine xr_if_eq C d_law_196 199 201 rfl (by decide) (fun _ => ?_) (fun h => absurd rfl h)
    refine xr_goto C d_law_201 928 (by decide) ?_
    exact k _ _ _ _ _ _ _ _ _ _ hC2 hR2 (inv2_feed hV) (by omega) (by omega)
  · have q0 : ¬ nI (fFeed S e (g (i + 3))).1 = 0 := fun h => by
      have h12 : (fFeed S e (g (i + 3))).1 = 1 ∨ (fFeed S e (g (i + 3))).1 = 2 := by omega
      rcases h12 with h9 | h9 <;> rw [h9] at h <;> exact absurd h (by decide)
    refine xr_if_ne C d_law_186 189 201 rfl (by decide) (fun _ => ?_) (fun h => absurd h q0)
    refine xr_goto C d_law_201 928 (by decide) ?_
    exact k _ _ _ _ _ _ _ _ _ _ hC2 hR2 (inv2_feed hV) (by omega) (by omega)
set_option maxRecDepth 100000 in
set_option maxHeartbeats 4000000 in
theorem law_open {E : xE} (C : xCx E x code 7 (some .boolean) [] 20 601024 7293034 PT) {b N : Nat} {g : Nat → Int32} (hX : va_X b N g E.s E.s.heap) (hb : b < E.H0.size) (hN : N ≤ 3072) {X : xH} {F V : Nat → Nat} {I : Nat → Option Imm} {A : Nat → Nat} {s : MS} {out : Nat} {f : Nat → Int64} {S : St} (hC : xCo E.D X F V I A s out f S) (hR : mRel s S) (hV : inv2 S) {i j cells slots : Nat} (hi : i + 6 ≤ N) (hj : j ≤ 512) (hc : cells ≤ 100 + 12 * j + pC V) (hs : slots ≤ 20000 + 2000 * j + pS V) {u5 u6 : Option Value} (k : lK E F A b out i j) : xG E X cells slots 204 [some (.ref b), some (.ref (F 0)), some (.ref (A 0)), some (.ref out), some (.int (nI i)), u5, u6] [] := by
  have hW := hC.1.wf
  have hp := hC.1.pot
  have hp1 := hp.1
  have hp2 := hp.2
  have hA := hC.2.1
  refine xr_aload_n C d_law_204 205 rfl rfl ?_
  refine xr_aload_n C d_law_205 206 rfl rfl ?_
  refine xr_iload C d_law_206 208 rfl rfl ?_
  refine xr_iconst (v := 1) C d_law_208 209 rfl (by decide) ?_
  refine xr_iadd C d_law_209 210 rfl ?_
  refine xr_toi (show _ = nI (i + 1) from nI_add i 1) ?_
  refine xr_sld (j := i + 1) C hX hb d_law_210 211 rfl rfl (by omega) (by omega) ?_
  refine xr_aload_n C d_law_211 212 rfl rfl ?_
  refine xr_iload C d_law_212 214 rfl rfl ?_
  refine xr_iconst (v := 2) C d_law_214 215 rfl (by decide) ?_
  refine xr_iadd C d_law_215 216 rfl ?_
  refine xr_toi (show _ = nI (i + 2) from nI_add i 2) ?_
  refine xr_sld (j := i + 2) C hX hb d_law_216 217 rfl rfl (by omega) (by omega) ?_
  refine xr_aload_n C d_law_217 218 rfl rfl ?_
  refine xr_callS C (c_La_open hC (z := (g (i + 1))) (p := (g (i + 2)))) k_La_open d_law_218 221 rfl (Or.inl q_232) s_La_open in_La_open h_La_open rfl ⟨Nat.le_of_ble_eq_true rfl, Nat.le_of_ble_eq_true rfl, Nat.le_of_ble_eq_true rfl⟩ (by omega) (by omega) (fun v9 X1 hP => ?_) (fun _ _ h => absurd h.1 (by simp))
  obtain ⟨e1, V1, I1, f1, hg, hC1, hr2, hf1⟩ := hP
  cases e1
  obtain ⟨hg1, hg2⟩ := hg
  refine xr_istore C d_law_221 223 rfl rfl rfl ?_
  refine xr_aload_n C d_law_223 224 rfl rfl ?_
  refine xr_aload_n C d_law_224 225 rfl rfl ?_
  refine xr_iload C d_law_225 227 rfl rfl ?_
  refine xr_iconst (v := 1) C d_law_227 228 rfl (by decide) ?_
  refine xr_iadd C d_law_228 229 rfl ?_
  refine xr_toi (show _ = nI (i + 1) from nI_add i 1) ?_
  refine xr_sld (j := i + 1) C hX hb d_law_229 230 rfl rfl (by omega) (by omega) ?_
  refine xr_aload_n C d_law_230 231 rfl rfl ?_
  refine xr_iload C d_law_231 233 rfl rfl ?_
  refine xr_iconst (v := 2) C d_law_233 234 rfl (by decide) ?_
  refine xr_iadd C d_law_234 235 rfl ?_
  refine xr_toi (show _ = nI (i + 2) from nI_add i 2) ?_
  refine xr_sld (j := i + 2) C hX hb d_law_235 236 rfl rfl (by omega) (by omega) ?_
  refine xG.eqX hC1.m.symm ?_
  have hA1 := hC1.2.1
  refine xr_callV C (d_Mo_open hA hR hW hV (z := (g (i + 1))) (p := (g (i + 2)))) k_Mo_open d_law_236 239 rfl (mX_o hA) rfl (Or.inl q_1028) v_Mo_open e_Mo_open h_Mo_open rfl ⟨Nat.le_of_ble_eq_true rfl, Nat.le_of_ble_eq_true rfl, Nat.le_of_ble_eq_true rfl⟩ (by omega) (by omega) (fun v9 X2 hP => ?_) (fun _ _ h => by obtain ⟨_, h, _⟩ := h; cases h)
  obtain ⟨v, e2, s2, rfl, ht, hv, hR2⟩ := hP
  cases e2
  have hC2 := hC1.mod s2
  refine xr_istore C d_law_239 241 rfl rfl rfl ?_
  refine xr_aload_n C d_law_241 242 rfl rfl ?_
  refine xr_callV C (c_Mo_thrown hA) k_Mo_thrown d_law_242 245 rfl (mX_o hA) rfl (Or.inl q_1012) v_Mo_thrown e_Mo_thrown h_Mo_thrown rfl ⟨Nat.le_of_ble_eq_true rfl, Nat.le_of_ble_eq_true rfl, Nat.le_of_ble_eq_true rfl⟩ (by omega) (by omega) (fun v9 X9 hP => ?_) (fun _ _ h => absurd h.1 (by simp))
  obtain ⟨h1, rfl⟩ := hP
  cases h1
  refine xr_iload C d_law_245 247 rfl rfl ?_
  refine xr_icmp_eq C d_law_247 250 252 rfl (by decide) (fun _ => ?_) (fun h => absurd ht h)
  refine xr_iload C d_law_252 254 rfl rfl ?_
  by_cases h0 : (fOpen S (g (i + 1)) (g (i + 2))).1 = 0
  · have q0 : nI (fOpen S (g (i + 1)) (g (i + 2))).1 = 0 := by rw [h0]; rfl
    refine xr_if_ne C d_law_254 257 269 rfl (by decide) (fun h => absurd q0 h) (fun _ => ?_)
    refine xr_aload_n C d_law_257 258 rfl rfl ?_
    refine xr_iconst (v := 0) C d_law_258 259 rfl (by decide) ?_
    refine xr_lald (j := 0) C d_law_259 260 rfl hC2.o rfl (by omega) (by omega) ?_
    refine xr_iload C d_law_260 262 rfl rfl ?_
    refine xr_i2l C d_law_262 263 rfl rfl ?_
    refine xr_lcmp C d_law_263 264 rfl ?_
    refine xr_toi (show _ = (0 : Int32) from lcmp_self (by rw [hf1 h0, hv h0])) ?_
    refine xr_if_eq C d_law_264 267 269 rfl (by decide) (fun _ => ?_) (fun h => absurd rfl h)
    refine xr_goto C d_law_269 928 (by decide) ?_
    exact k _ _ _ _ _ _ _ _ _ _ hC2 hR2 (inv2_open hV) (by omega) (by omega)
  · have q0 : ¬ nI (fOpen S (g (i + 1)) (g (i + 2))).1 = 0 := fun h => by
      have h12 : (fOpen S (g (i + 1)) (g (i + 2))).1 = 1 ∨ (fOpen S (g (i + 1)) (g (i + 2))).1 = 2 := by omega
      rcases h12 with h9 | h9 <;> rw [h9] at h <;> exact absurd h (by decide)
    refine xr_if_ne C d_law_254 257 269 rfl (by decide) (fun _ => ?_) (fun h => absurd h q0)
    refine xr_goto C d_law_269 928 (by decide) ?_
    exact k _ _ _ _ _ _ _ _ _ _ hC2 hR2 (inv2_open hV) (by omega) (by omega)
set_option maxRecDepth 100000 in
set_option maxHeartbeats 4000000 in
theorem law_run {E : xE} (C : xCx E x code 7 (some .boolean) [] 20 601024 7293034 PT) {b N : Nat} {g : Nat → Int32} (hX : va_X b N g E.s E.s.heap) (hb : b < E.H0.size) (hN : N ≤ 3072) {X : xH} {F V : Nat → Nat} {I : Nat → Option Imm} {A : Nat → Nat} {s : MS} {out : Nat} {f : Nat → Int64} {S : St} (hC : xCo E.D X F V I A s out f S) (hR : mRel s S) (hV : inv2 S) {i j cells slots : Nat} (hi : i + 6 ≤ N) (hj : j ≤ 512) (hc : cells ≤ 100 + 12 * j + pC V) (hs : slots ≤ 20000 + 2000 * j + pS V) {u5 u6 : Option Value} (k : lK E F A b out i j) : xG E X cells slots 272 [some (.ref b), some (.ref (F 0)), some (.ref (A 0)), some (.ref out), some (.int (nI i)), u5, u6] [] := by
  have hW := hC.1.wf
  have hp := hC.1.pot
  have hp1 := hp.1
  have hp2 := hp.2
  have hA := hC.2.1
  refine xr_aload_n C d_law_272 273 rfl rfl ?_
  refine xr_aload_n C d_law_273 274 rfl rfl ?_
  refine xr_iload C d_law_274 276 rfl rfl ?_
  refine xr_iconst (v := 1) C d_law_276 277 rfl (by decide) ?_
  refine xr_iadd C d_law_277 278 rfl ?_
  refine xr_toi (show _ = nI (i + 1) from nI_add i 1) ?_
  refine xr_sld (j := i + 1) C hX hb d_law_278 279 rfl rfl (by omega) (by omega) ?_
  refine xr_aload_n C d_law_279 280 rfl rfl ?_
  refine xr_iload C d_law_280 282 rfl rfl ?_
  refine xr_iconst (v := 2) C d_law_282 283 rfl (by decide) ?_
  refine xr_iadd C d_law_283 284 rfl ?_
  refine xr_toi (show _ = nI (i + 2) from nI_add i 2) ?_
  refine xr_sld (j := i + 2) C hX hb d_law_284 285 rfl rfl (by omega) (by omega) ?_
  refine xr_aload_n C d_law_285 286 rfl rfl ?_
  refine xr_iload C d_law_286 288 rfl rfl ?_
  refine xr_iconst (v := 3) C d_law_288 289 rfl (by decide) ?_
  refine xr_iadd C d_law_289 290 rfl ?_
  refine xr_toi (show _ = nI (i + 3) from nI_add i 3) ?_
  refine xr_sld (j := i + 3) C hX hb d_law_290 291 rfl rfl (by omega) (by omega) ?_
  refine xr_aload_n C d_law_291 292 rfl rfl ?_
  refine xr_iload C d_law_292 294 rfl rfl ?_
  refine xr_iconst (v := 4) C d_law_294 295 rfl (by decide) ?_
  refine xr_iadd C d_law_295 296 rfl ?_
  refine xr_toi (show _ = nI (i + 4) from nI_add i 4) ?_
  refine xr_sld (j := i + 4) C hX hb d_law_296 297 rfl rfl (by omega) (by omega) ?_
  refine xr_aload_n C d_law_297 298 rfl rfl ?_
  refine xr_iload C d_law_298 300 rfl rfl ?_
  refine xr_iconst (v := 5) C d_law_300 301 rfl (by decide) ?_
  refine xr_iadd C d_law_301 302 rfl ?_
  refine xr_toi (show _ = nI (i + 5) from nI_add i 5) ?_
  refine xr_sld (j := i + 5) C hX hb d_law_302 303 rfl rfl (by omega) (by omega) ?_
  refine xr_aload_n C d_law_303 304 rfl rfl ?_
  refine xr_callS C (c_La_run hC (z := (g (i + 1))) (p := (g (i + 2))) (sn := (g (i + 3))) (sr := (g (i + 4))) (h := (g (i + 5)))) k_La_run d_law_304 307 rfl (Or.inl q_393) s_La_run in_La_run h_La_run rfl ⟨Nat.le_of_ble_eq_true rfl, Nat.le_of_ble_eq_true rfl, Nat.le_of_ble_eq_true rfl⟩ (by omega) (by omega) (fun v9 X1 hP => ?_) (fun _ _ h => absurd h.1 (by simp))
  obtain ⟨e1, V1, I1, f1, hg, hC1, hr2, hf1⟩ := hP
  cases e1
  obtain ⟨hg1, hg2⟩ := hg
  refine xr_istore C d_law_307 309 rfl rfl rfl ?_
  refine xr_aload_n C d_law_309 310 rfl rfl ?_
  refine xr_aload_n C d_law_310 311 rfl rfl ?_
  refine xr_iload C d_law_311 313 rfl rfl ?_
  refine xr_iconst (v := 1) C d_law_313 314 rfl (by decide) ?_
  refine xr_iadd C d_law_314 315 rfl ?_
  refine xr_toi (show _ = nI (i + 1) from nI_add i 1) ?_
  refine xr_sld (j := i + 1) C hX hb d_law_315 316 rfl rfl (by omega) (by omega) ?_
  refine xr_aload_n C d_law_316 317 rfl rfl ?_
  refine xr_iload C d_law_317 319 rfl rfl ?_
  refine xr_iconst (v := 2) C d_law_319 320 rfl (by decide) ?_
  refine xr_iadd C d_law_320 321 rfl ?_
  refine xr_toi (show _ = nI (i + 2) from nI_add i 2) ?_
  refine xr_sld (j := i + 2) C hX hb d_law_321 322 rfl rfl (by omega) (by omega) ?_
  refine xr_aload_n C d_law_322 323 rfl rfl ?_
  refine xr_iload C d_law_323 325 rfl rfl ?_
  refine xr_iconst (v := 3) C d_law_325 326 rfl (by decide) ?_
  refine xr_iadd C d_law_326 327 rfl ?_
  refine xr_toi (show _ = nI (i + 3) from nI_add i 3) ?_
  refine xr_sld (j := i + 3) C hX hb d_law_327 328 rfl rfl (by omega) (by omega) ?_
  refine xr_aload_n C d_law_328 329 rfl rfl ?_
  refine xr_iload C d_law_329 331 rfl rfl ?_
  refine xr_iconst (v := 4) C d_law_331 332 rfl (by decide) ?_
  refine xr_iadd C d_law_332 333 rfl ?_
  refine xr_toi (show _ = nI (i + 4) from nI_add i 4) ?_
  refine xr_sld (j := i + 4) C hX hb d_law_333 334 rfl rfl (by omega) (by omega) ?_
  refine xr_aload_n C d_law_334 335 rfl rfl ?_
  refine xr_iload C d_law_335 337 rfl rfl ?_
  refine xr_iconst (v := 5) C d_law_337 338 rfl (by decide) ?_
  refine xr_iadd C d_law_338 339 rfl ?_
  refine xr_toi (show _ = nI (i + 5) from nI_add i 5) ?_
  refine xr_sld (j := i + 5) C hX hb d_law_339 340 rfl rfl (by omega) (by omega) ?_
  refine xG.eqX hC1.m.symm ?_
  have hA1 := hC1.2.1
  refine xr_callV C (d_Mo_run hA hR hW hV (z := (g (i + 1))) (p := (g (i + 2))) (sn := (g (i + 3))) (sr := (g (i + 4))) (h := (g (i + 5)))) k_Mo_run d_law_340 343 rfl (mX_o hA) rfl (Or.inl q_1044) v_Mo_run e_Mo_run h_Mo_run rfl ⟨Nat.le_of_ble_eq_true rfl, Nat.le_of_ble_eq_true rfl, Nat.le_of_ble_eq_true rfl⟩ (by omega) (by omega) (fun v9 X2 hP => ?_) (fun _ _ h => by obtain ⟨_, h, _⟩ := h; cases h)
  obtain ⟨v, e2, s2, rfl, ht, hv, hR2⟩ := hP
  cases e2
  have hC2 := hC1.mod s2
  refine xr_istore C d_law_343 345 rfl rfl rfl ?_
  refine xr_aload_n C d_law_345 346 rfl rfl ?_
  refine xr_callV C (c_Mo_thrown hA) k_Mo_thrown d_law_346 349 rfl (mX_o hA) rfl (Or.inl q_1012) v_Mo_thrown e_Mo_thrown h_Mo_thrown rfl ⟨Nat.le_of_ble_eq_true rfl, Nat.le_of_ble_eq_true rfl, Nat.le_of_ble_eq_true rfl⟩ (by omega) (by omega) (fun v9 X9 hP => ?_) (fun _ _ h => absurd h.1 (by simp))
  obtain ⟨h1, rfl⟩ := hP
  cases h1
  refine xr_iload C d_law_349 351 rfl rfl ?_
  refine xr_icmp_eq C d_law_351 354 356 rfl (by decide) (fun _ => ?_) (fun h => absurd ht h)
  refine xr_iload C d_law_356 358 rfl rfl ?_
  by_cases h0 : (fRun S (g (i + 1)) (g (i + 2)) (g (i + 3)) (g (i + 4)) (g (i + 5))).1 = 0
  · have q0 : nI (fRun S (g (i + 1)) (g (i + 2)) (g (i + 3)) (g (i + 4)) (g (i + 5))).1 = 0 := by rw [h0]; rfl
    refine xr_if_ne C d_law_358 361 373 rfl (by decide) (fun h => absurd q0 h) (fun _ => ?_)
    refine xr_aload_n C d_law_361 362 rfl rfl ?_
    refine xr_iconst (v := 0) C d_law_362 363 rfl (by decide) ?_
    refine xr_lald (j := 0) C d_law_363 364 rfl hC2.o rfl (by omega) (by omega) ?_
    refine xr_iload C d_law_364 366 rfl rfl ?_
    refine xr_i2l C d_law_366 367 rfl rfl ?_
    refine xr_lcmp C d_law_367 368 rfl ?_
    refine xr_toi (show _ = (0 : Int32) from lcmp_self (by rw [hf1 h0, hv h0])) ?_
    refine xr_if_eq C d_law_368 371 373 rfl (by decide) (fun _ => ?_) (fun h => absurd rfl h)
    refine xr_goto C d_law_373 928 (by decide) ?_
    exact k _ _ _ _ _ _ _ _ _ _ hC2 hR2 (inv2_run hV hW) (by omega) (by omega)
  · have q0 : ¬ nI (fRun S (g (i + 1)) (g (i + 2)) (g (i + 3)) (g (i + 4)) (g (i + 5))).1 = 0 := fun h => by
      have h12 : (fRun S (g (i + 1)) (g (i + 2)) (g (i + 3)) (g (i + 4)) (g (i + 5))).1 = 1 ∨ (fRun S (g (i + 1)) (g (i + 2)) (g (i + 3)) (g (i + 4)) (g (i + 5))).1 = 2 := by omega
      rcases h12 with h9 | h9 <;> rw [h9] at h <;> exact absurd h (by decide)
    refine xr_if_ne C d_law_358 361 373 rfl (by decide) (fun _ => ?_) (fun h => absurd h q0)
    refine xr_goto C d_law_373 928 (by decide) ?_
    exact k _ _ _ _ _ _ _ _ _ _ hC2 hR2 (inv2_run hV hW) (by omega) (by omega)
set_option maxRecDepth 100000 in
set_option maxHeartbeats 4000000 in
theorem law_read {E : xE} (C : xCx E x code 7 (some .boolean) [] 20 601024 7293034 PT) {b N : Nat} {g : Nat → Int32} (hX : va_X b N g E.s E.s.heap) (hb : b < E.H0.size) (hN : N ≤ 3072) {X : xH} {F V : Nat → Nat} {I : Nat → Option Imm} {A : Nat → Nat} {s : MS} {out : Nat} {f : Nat → Int64} {S : St} (hC : xCo E.D X F V I A s out f S) (hR : mRel s S) (hV : inv2 S) {i j cells slots : Nat} (hi : i + 6 ≤ N) (hj : j ≤ 512) (hc : cells ≤ 100 + 12 * j + pC V) (hs : slots ≤ 20000 + 2000 * j + pS V) {u5 u6 : Option Value} (k : lK E F A b out i j) : xG E X cells slots 376 [some (.ref b), some (.ref (F 0)), some (.ref (A 0)), some (.ref out), some (.int (nI i)), u5, u6] [] := by
  have hW := hC.1.wf
  have hp := hC.1.pot
  have hp1 := hp.1
  have hp2 := hp.2
  have hA := hC.2.1
  refine xr_aload_n C d_law_376 377 rfl rfl ?_
  refine xr_aload_n C d_law_377 378 rfl rfl ?_
  refine xr_iload C d_law_378 380 rfl rfl ?_
  refine xr_iconst (v := 1) C d_law_380 381 rfl (by decide) ?_
  refine xr_iadd C d_law_381 382 rfl ?_
  refine xr_toi (show _ = nI (i + 1) from nI_add i 1) ?_
  refine xr_sld (j := i + 1) C hX hb d_law_382 383 rfl rfl (by omega) (by omega) ?_
  refine xr_aload_n C d_law_383 384 rfl rfl ?_
  refine xr_iload C d_law_384 386 rfl rfl ?_
  refine xr_iconst (v := 2) C d_law_386 387 rfl (by decide) ?_
  refine xr_iadd C d_law_387 388 rfl ?_
  refine xr_toi (show _ = nI (i + 2) from nI_add i 2) ?_
  refine xr_sld (j := i + 2) C hX hb d_law_388 389 rfl rfl (by omega) (by omega) ?_
  refine xr_aload_n C d_law_389 390 rfl rfl ?_
  refine xr_callS C (c_La_read hC (z := (g (i + 1))) (h := (g (i + 2)))) k_La_read d_law_390 393 rfl (Or.inl q_781) s_La_read in_La_read h_La_read rfl ⟨Nat.le_of_ble_eq_true rfl, Nat.le_of_ble_eq_true rfl, Nat.le_of_ble_eq_true rfl⟩ (by omega) (by omega) (fun v9 X1 hP => ?_) (fun _ _ h => absurd h.1 (by simp))
  obtain ⟨e1, V1, I1, f1, hg, hC1, hr2, hf1⟩ := hP
  cases e1
  obtain ⟨hg1, hg2⟩ := hg
  refine xr_istore C d_law_393 395 rfl rfl rfl ?_
  refine xr_aload_n C d_law_395 396 rfl rfl ?_
  refine xr_aload_n C d_law_396 397 rfl rfl ?_
  refine xr_iload C d_law_397 399 rfl rfl ?_
  refine xr_iconst (v := 1) C d_law_399 400 rfl (by decide) ?_
  refine xr_iadd C d_law_400 401 rfl ?_
  refine xr_toi (show _ = nI (i + 1) from nI_add i 1) ?_
  refine xr_sld (j := i + 1) C hX hb d_law_401 402 rfl rfl (by omega) (by omega) ?_
  refine xr_aload_n C d_law_402 403 rfl rfl ?_
  refine xr_iload C d_law_403 405 rfl rfl ?_
  refine xr_iconst (v := 2) C d_law_405 406 rfl (by decide) ?_
  refine xr_iadd C d_law_406 407 rfl ?_
  refine xr_toi (show _ = nI (i + 2) from nI_add i 2) ?_
  refine xr_sld (j := i + 2) C hX hb d_law_407 408 rfl rfl (by omega) (by omega) ?_
  refine xG.eqX hC1.m.symm ?_
  have hA1 := hC1.2.1
  refine xr_callV C (d_Mo_read hA hR hW hV (z := (g (i + 1))) (h := (g (i + 2)))) k_Mo_read d_law_408 411 rfl (mX_o hA) rfl (Or.inl q_1123) v_Mo_read e_Mo_read h_Mo_read rfl ⟨Nat.le_of_ble_eq_true rfl, Nat.le_of_ble_eq_true rfl, Nat.le_of_ble_eq_true rfl⟩ (by omega) (by omega) (fun v9 X2 hP => ?_) (fun _ _ h => by obtain ⟨_, h, _⟩ := h; cases h)
  obtain ⟨v, e2, s2, rfl, ht, hv, hR2⟩ := hP
  cases e2
  have hC2 := hC1.mod s2
  refine xr_istore C d_law_411 413 rfl rfl rfl ?_
  refine xr_aload_n C d_law_413 414 rfl rfl ?_
  refine xr_callV C (c_Mo_thrown hA) k_Mo_thrown d_law_414 417 rfl (mX_o hA) rfl (Or.inl q_1012) v_Mo_thrown e_Mo_thrown h_Mo_thrown rfl ⟨Nat.le_of_ble_eq_true rfl, Nat.le_of_ble_eq_true rfl, Nat.le_of_ble_eq_true rfl⟩ (by omega) (by omega) (fun v9 X9 hP => ?_) (fun _ _ h => absurd h.1 (by simp))
  obtain ⟨h1, rfl⟩ := hP
  cases h1
  refine xr_iload C d_law_417 419 rfl rfl ?_
  refine xr_icmp_eq C d_law_419 422 424 rfl (by decide) (fun _ => ?_) (fun h => absurd ht h)
  refine xr_iload C d_law_424 426 rfl rfl ?_
  by_cases h0 : (fRead S (g (i + 1)) (g (i + 2))).1 = 0
  · have q0 : nI (fRead S (g (i + 1)) (g (i + 2))).1 = 0 := by rw [h0]; rfl
    refine xr_if_ne C d_law_426 429 441 rfl (by decide) (fun h => absurd q0 h) (fun _ => ?_)
    refine xr_aload_n C d_law_429 430 rfl rfl ?_
    refine xr_iconst (v := 0) C d_law_430 431 rfl (by decide) ?_
    refine xr_lald (j := 0) C d_law_431 432 rfl hC2.o rfl (by omega) (by omega) ?_
    refine xr_iload C d_law_432 434 rfl rfl ?_
    refine xr_i2l C d_law_434 435 rfl rfl ?_
    refine xr_lcmp C d_law_435 436 rfl ?_
    refine xr_toi (show _ = (0 : Int32) from lcmp_self (by rw [hf1 h0, hv h0])) ?_
    refine xr_if_eq C d_law_436 439 441 rfl (by decide) (fun _ => ?_) (fun h => absurd rfl h)
    refine xr_goto C d_law_441 928 (by decide) ?_
    exact k _ _ _ _ _ _ _ _ _ _ hC2 hR2 (inv2_read hV hW) (by omega) (by omega)
  · have q0 : ¬ nI (fRead S (g (i + 1)) (g (i + 2))).1 = 0 := fun h => by
      have h12 : (fRead S (g (i + 1)) (g (i + 2))).1 = 1 ∨ (fRead S (g (i + 1)) (g (i + 2))).1 = 2 := by omega
      rcases h12 with h9 | h9 <;> rw [h9] at h <;> exact absurd h (by decide)
    refine xr_if_ne C d_law_426 429 441 rfl (by decide) (fun _ => ?_) (fun h => absurd h q0)
    refine xr_goto C d_law_441 928 (by decide) ?_
    exact k _ _ _ _ _ _ _ _ _ _ hC2 hR2 (inv2_read hV hW) (by omega) (by omega)
set_option maxRecDepth 100000 in
set_option maxHeartbeats 4000000 in
theorem law_row {E : xE} (C : xCx E x code 7 (some .boolean) [] 20 601024 7293034 PT) {b N : Nat} {g : Nat → Int32} (hX : va_X b N g E.s E.s.heap) (hb : b < E.H0.size) (hN : N ≤ 3072) {X : xH} {F V : Nat → Nat} {I : Nat → Option Imm} {A : Nat → Nat} {s : MS} {out : Nat} {f : Nat → Int64} {S : St} (hC : xCo E.D X F V I A s out f S) (hR : mRel s S) (hV : inv2 S) {i j cells slots : Nat} (hi : i + 6 ≤ N) (hj : j ≤ 512) (hc : cells ≤ 100 + 12 * j + pC V) (hs : slots ≤ 20000 + 2000 * j + pS V) {u5 u6 : Option Value} (k : lK E F A b out i j) : xG E X cells slots 444 [some (.ref b), some (.ref (F 0)), some (.ref (A 0)), some (.ref out), some (.int (nI i)), u5, u6] [] := by
  have hW := hC.1.wf
  have hp := hC.1.pot
  have hp1 := hp.1
  have hp2 := hp.2
  have hA := hC.2.1
  obtain ⟨d, hd, hdl, hdt⟩ : ∃ d, (if g (i + 1) = 0 ∨ g (i + 1) = 1 then isR (V 1) (8 + rbS (S.2.1 (mIx (g (i + 1)))).1 + rbE (S.2.1 (mIx (g (i + 1)))).2.1) d else d = V 1) ∧ V 1 ≤ d ∧ d ≤ 32767 := by
    have hcap := hC.1.caps
    by_cases hz : g (i + 1) = 0 ∨ g (i + 1) = 1
    · have hpos : 0 < V 1 := by
        obtain ⟨_, _, _, _, _, _, h6, _⟩ := hC.1.2.2.2.2.1
        omega
      obtain ⟨d, hd⟩ := isR.ex (n := 8 + rbS (S.2.1 (mIx (g (i + 1)))).1 + rbE (S.2.1 (mIx (g (i + 1)))).2.1) hpos
      have hw := hW.2 _ (mIx2 hz)
      have hrb := rb_top hw.1 hw.2.1
      have htp := hd.top2
      refine ⟨d, by rw [if_pos hz]; exact hd, hd.le, ?_⟩
      rcases htp with h | h <;> omega
    · exact ⟨V 1, by rw [if_neg hz], Nat.le_refl _, hcap.1⟩
  refine xr_aload_n C d_law_444 445 rfl rfl ?_
  refine xr_aload_n C d_law_445 446 rfl rfl ?_
  refine xr_iload C d_law_446 448 rfl rfl ?_
  refine xr_iconst (v := 1) C d_law_448 449 rfl (by decide) ?_
  refine xr_iadd C d_law_449 450 rfl ?_
  refine xr_toi (show _ = nI (i + 1) from nI_add i 1) ?_
  refine xr_sld (j := i + 1) C hX hb d_law_450 451 rfl rfl (by omega) (by omega) ?_
  refine xr_aload_n C d_law_451 452 rfl rfl ?_
  refine xr_callS C (c_La_row hC (z := (g (i + 1))) hd hdl) k_La_row d_law_452 455 rfl (Or.inl q_812) s_La_row in_La_row h_La_row rfl ⟨Nat.le_of_ble_eq_true rfl, Nat.le_of_ble_eq_true rfl, Nat.le_of_ble_eq_true rfl⟩ (by omega) (by omega) (fun v9 X1 hP => ?_) (fun _ _ h => absurd h.1 (by simp))
  obtain ⟨e1, V1, I1, f1, hg, hC1, hr2, hf1⟩ := hP
  cases e1
  obtain ⟨hg1, hg2⟩ := hg
  refine xr_istore C d_law_455 457 rfl rfl rfl ?_
  refine xr_aload_n C d_law_457 458 rfl rfl ?_
  refine xr_aload_n C d_law_458 459 rfl rfl ?_
  refine xr_iload C d_law_459 461 rfl rfl ?_
  refine xr_iconst (v := 1) C d_law_461 462 rfl (by decide) ?_
  refine xr_iadd C d_law_462 463 rfl ?_
  refine xr_toi (show _ = nI (i + 1) from nI_add i 1) ?_
  refine xr_sld (j := i + 1) C hX hb d_law_463 464 rfl rfl (by omega) (by omega) ?_
  refine xG.eqX hC1.m.symm ?_
  have hA1 := hC1.2.1
  refine xr_callV C (d_Mo_row hA hR hW hV (z := (g (i + 1)))) k_Mo_row d_law_464 467 rfl (mX_o hA) rfl (Or.inl q_1131) v_Mo_row e_Mo_row h_Mo_row rfl ⟨Nat.le_of_ble_eq_true rfl, Nat.le_of_ble_eq_true rfl, Nat.le_of_ble_eq_true rfl⟩ (by omega) (by omega) (fun v9 X2 hP => ?_) (fun _ _ h => by obtain ⟨_, h, _⟩ := h; cases h)
  obtain ⟨v, e2, s2, rfl, ht, hv, hR2⟩ := hP
  cases e2
  have hC2 := hC1.mod s2
  refine xr_istore C d_law_467 469 rfl rfl rfl ?_
  refine xr_aload_n C d_law_469 470 rfl rfl ?_
  refine xr_callV C (c_Mo_thrown hA) k_Mo_thrown d_law_470 473 rfl (mX_o hA) rfl (Or.inl q_1012) v_Mo_thrown e_Mo_thrown h_Mo_thrown rfl ⟨Nat.le_of_ble_eq_true rfl, Nat.le_of_ble_eq_true rfl, Nat.le_of_ble_eq_true rfl⟩ (by omega) (by omega) (fun v9 X9 hP => ?_) (fun _ _ h => absurd h.1 (by simp))
  obtain ⟨h1, rfl⟩ := hP
  cases h1
  refine xr_iload C d_law_473 475 rfl rfl ?_
  refine xr_icmp_eq C d_law_475 478 480 rfl (by decide) (fun _ => ?_) (fun h => absurd ht h)
  refine xr_iload C d_law_480 482 rfl rfl ?_
  by_cases h0 : (fRow S (g (i + 1))).1 = 0
  · have q0 : nI (fRow S (g (i + 1))).1 = 0 := by rw [h0]; rfl
    refine xr_if_ne C d_law_482 485 497 rfl (by decide) (fun h => absurd q0 h) (fun _ => ?_)
    refine xr_aload_n C d_law_485 486 rfl rfl ?_
    refine xr_iconst (v := 0) C d_law_486 487 rfl (by decide) ?_
    refine xr_lald (j := 0) C d_law_487 488 rfl hC2.o rfl (by omega) (by omega) ?_
    refine xr_iload C d_law_488 490 rfl rfl ?_
    refine xr_i2l C d_law_490 491 rfl rfl ?_
    refine xr_lcmp C d_law_491 492 rfl ?_
    refine xr_toi (show _ = (0 : Int32) from lcmp_self (by rw [hf1 h0, hv h0])) ?_
    refine xr_if_eq C d_law_492 495 497 rfl (by decide) (fun _ => ?_) (fun h => absurd rfl h)
    refine xr_goto C d_law_497 928 (by decide) ?_
    exact k _ _ _ _ _ _ _ _ _ _ hC2 hR2 (inv2_row hV hW) (by omega) (by omega)
  · have q0 : ¬ nI (fRow S (g (i + 1))).1 = 0 := fun h => by
      have h12 : (fRow S (g (i + 1))).1 = 1 ∨ (fRow S (g (i + 1))).1 = 2 := by omega
      rcases h12 with h9 | h9 <;> rw [h9] at h <;> exact absurd h (by decide)
    refine xr_if_ne C d_law_482 485 497 rfl (by decide) (fun _ => ?_) (fun h => absurd h q0)
    refine xr_goto C d_law_497 928 (by decide) ?_
    exact k _ _ _ _ _ _ _ _ _ _ hC2 hR2 (inv2_row hV hW) (by omega) (by omega)
set_option maxRecDepth 100000 in
set_option maxHeartbeats 4000000 in
theorem law_make {E : xE} (C : xCx E x code 7 (some .boolean) [] 20 601024 7293034 PT) {b N : Nat} {g : Nat → Int32} (hX : va_X b N g E.s E.s.heap) (hb : b < E.H0.size) (hN : N ≤ 3072) {X : xH} {F V : Nat → Nat} {I : Nat → Option Imm} {A : Nat → Nat} {s : MS} {out : Nat} {f : Nat → Int64} {S : St} (hC : xCo E.D X F V I A s out f S) (hR : mRel s S) (hV : inv2 S) {i j cells slots : Nat} (hi : i + 6 ≤ N) (hj : j ≤ 512) (hc : cells ≤ 100 + 12 * j + pC V) (hs : slots ≤ 20000 + 2000 * j + pS V) {u5 u6 : Option Value} (k : lK E F A b out i j) : xG E X cells slots 500 [some (.ref b), some (.ref (F 0)), some (.ref (A 0)), some (.ref out), some (.int (nI i)), u5, u6] [] := by
  have hW := hC.1.wf
  have hp := hC.1.pot
  have hp1 := hp.1
  have hp2 := hp.2
  have hA := hC.2.1
  obtain ⟨d1, d2, hd, hdl, hdt⟩ : ∃ d1 d2, (if mkD S (g (i + 1)) (g (i + 2)) then isL (V (20 + mIx (g (i + 2)))) (S.2.1 (mIx (g (i + 1)))).1.length d1 ∧ isL (V (40 + mIx (g (i + 2)))) (S.2.1 (mIx (g (i + 1)))).2.1.length d2 else d1 = V (20 + mIx (g (i + 2))) ∧ d2 = V (40 + mIx (g (i + 2)))) ∧ (mIx (g (i + 2)) < 2 ∧ V (20 + mIx (g (i + 2))) ≤ d1 ∧ V (40 + mIx (g (i + 2))) ≤ d2 ∨ d1 = V (20 + mIx (g (i + 2))) ∧ d2 = V (40 + mIx (g (i + 2)))) ∧ (d1 - V (20 + mIx (g (i + 2)))) + (d2 - V (40 + mIx (g (i + 2)))) ≤ 400 := by
    have hcap := hC.1.caps
    by_cases hz : mkD S (g (i + 1)) (g (i + 2))
    · obtain ⟨d1, h1⟩ := isL.ex (V (20 + mIx (g (i + 2)))) (S.2.1 (mIx (g (i + 1)))).1.length
      obtain ⟨d2, h2⟩ := isL.ex (V (40 + mIx (g (i + 2)))) (S.2.1 (mIx (g (i + 1)))).2.1.length
      have hw := hW.2 _ (mIx2 hz.1.1)
      have hw1 := hw.1.1
      have hw2 := hw.2.1.1
      have hi2 := mIx2 hz.1.2
      have c1 : V (20 + mIx (g (i + 2))) ≤ 200 ∧ V (40 + mIx (g (i + 2))) ≤ 200 := by
        have h01 : mIx (g (i + 2)) = 0 ∨ mIx (g (i + 2)) = 1 := by omega
        rcases h01 with e | e <;> rw [e]
        · exact ⟨hcap.2.1, hcap.2.2.2.1⟩
        · exact ⟨hcap.2.2.1, hcap.2.2.2.2⟩
      have t1 := h1.top c1.1 (by omega)
      have t2 := h2.top c1.2 (by omega)
      exact ⟨d1, d2, by rw [if_pos hz]; exact ⟨h1, h2⟩, Or.inl ⟨hi2, h1.le, h2.le⟩, by omega⟩
    · exact ⟨_, _, by rw [if_neg hz]; exact ⟨rfl, rfl⟩, Or.inr ⟨rfl, rfl⟩, by omega⟩
  refine xr_aload_n C d_law_500 501 rfl rfl ?_
  refine xr_aload_n C d_law_501 502 rfl rfl ?_
  refine xr_iload C d_law_502 504 rfl rfl ?_
  refine xr_iconst (v := 1) C d_law_504 505 rfl (by decide) ?_
  refine xr_iadd C d_law_505 506 rfl ?_
  refine xr_toi (show _ = nI (i + 1) from nI_add i 1) ?_
  refine xr_sld (j := i + 1) C hX hb d_law_506 507 rfl rfl (by omega) (by omega) ?_
  refine xr_aload_n C d_law_507 508 rfl rfl ?_
  refine xr_iload C d_law_508 510 rfl rfl ?_
  refine xr_iconst (v := 2) C d_law_510 511 rfl (by decide) ?_
  refine xr_iadd C d_law_511 512 rfl ?_
  refine xr_toi (show _ = nI (i + 2) from nI_add i 2) ?_
  refine xr_sld (j := i + 2) C hX hb d_law_512 513 rfl rfl (by omega) (by omega) ?_
  refine xr_aload_n C d_law_513 514 rfl rfl ?_
  refine xr_callS C (c_La_make hC (z1 := (g (i + 1))) (z2 := (g (i + 2))) hd hdl) k_La_make d_law_514 517 rfl (Or.inl q_837) s_La_make in_La_make h_La_make rfl ⟨Nat.le_of_ble_eq_true rfl, Nat.le_of_ble_eq_true rfl, Nat.le_of_ble_eq_true rfl⟩ (by omega) (by omega) (fun v9 X1 hP => ?_) (fun _ _ h => absurd h.1 (by simp))
  obtain ⟨e1, V1, I1, f1, hg, hC1, hr2, hf1⟩ := hP
  cases e1
  obtain ⟨hg1, hg2⟩ := hg
  refine xr_istore C d_law_517 519 rfl rfl rfl ?_
  refine xr_aload_n C d_law_519 520 rfl rfl ?_
  refine xr_aload_n C d_law_520 521 rfl rfl ?_
  refine xr_iload C d_law_521 523 rfl rfl ?_
  refine xr_iconst (v := 1) C d_law_523 524 rfl (by decide) ?_
  refine xr_iadd C d_law_524 525 rfl ?_
  refine xr_toi (show _ = nI (i + 1) from nI_add i 1) ?_
  refine xr_sld (j := i + 1) C hX hb d_law_525 526 rfl rfl (by omega) (by omega) ?_
  refine xr_aload_n C d_law_526 527 rfl rfl ?_
  refine xr_iload C d_law_527 529 rfl rfl ?_
  refine xr_iconst (v := 2) C d_law_529 530 rfl (by decide) ?_
  refine xr_iadd C d_law_530 531 rfl ?_
  refine xr_toi (show _ = nI (i + 2) from nI_add i 2) ?_
  refine xr_sld (j := i + 2) C hX hb d_law_531 532 rfl rfl (by omega) (by omega) ?_
  refine xG.eqX hC1.m.symm ?_
  have hA1 := hC1.2.1
  refine xr_callV C (d_Mo_make hA hR hW hV (z1 := (g (i + 1))) (z2 := (g (i + 2)))) k_Mo_make d_law_532 535 rfl (mX_o hA) rfl (Or.inl q_1139) v_Mo_make e_Mo_make h_Mo_make rfl ⟨Nat.le_of_ble_eq_true rfl, Nat.le_of_ble_eq_true rfl, Nat.le_of_ble_eq_true rfl⟩ (by omega) (by omega) (fun v9 X2 hP => ?_) (fun _ _ h => by obtain ⟨_, h, _⟩ := h; cases h)
  obtain ⟨v, e2, s2, rfl, ht, hv, hR2⟩ := hP
  cases e2
  have hC2 := hC1.mod s2
  refine xr_istore C d_law_535 537 rfl rfl rfl ?_
  refine xr_aload_n C d_law_537 538 rfl rfl ?_
  refine xr_callV C (c_Mo_thrown hA) k_Mo_thrown d_law_538 541 rfl (mX_o hA) rfl (Or.inl q_1012) v_Mo_thrown e_Mo_thrown h_Mo_thrown rfl ⟨Nat.le_of_ble_eq_true rfl, Nat.le_of_ble_eq_true rfl, Nat.le_of_ble_eq_true rfl⟩ (by omega) (by omega) (fun v9 X9 hP => ?_) (fun _ _ h => absurd h.1 (by simp))
  obtain ⟨h1, rfl⟩ := hP
  cases h1
  refine xr_iload C d_law_541 543 rfl rfl ?_
  refine xr_icmp_eq C d_law_543 546 548 rfl (by decide) (fun _ => ?_) (fun h => absurd ht h)
  refine xr_iload C d_law_548 550 rfl rfl ?_
  by_cases h0 : (fMake S (g (i + 1)) (g (i + 2))).1 = 0
  · have q0 : nI (fMake S (g (i + 1)) (g (i + 2))).1 = 0 := by rw [h0]; rfl
    refine xr_if_ne C d_law_550 553 572 rfl (by decide) (fun h => absurd q0 h) (fun _ => ?_)
    refine xr_aload_n C d_law_553 554 rfl rfl ?_
    refine xr_iconst (v := 0) C d_law_554 555 rfl (by decide) ?_
    refine xr_lald (j := 0) C d_law_555 556 rfl hC2.o rfl (by omega) (by omega) ?_
    have hbb := fMake_b h0
    have hv0 := hv h0
    have hf0 := hf1 h0
    refine xr_iload C d_law_556 558 rfl rfl ?_
    rcases hbb with hb0 | hb0
    · rw [hb0] at hv0 hf0
      refine xr_toi (show _ = (0 : Int32) from hv0) ?_
      refine xr_if_eq C d_law_558 561 565 rfl (by decide) (fun _ => ?_) (fun h => absurd rfl h)
      refine xr_lconst (v := 0) C d_law_565 566 rfl (by decide) ?_
      refine xr_lcmp C d_law_566 567 rfl ?_
      refine xr_toi (show _ = (0 : Int32) from lcmp_self (by rw [hf0]; rfl)) ?_
      refine xr_if_eq C d_law_567 570 572 rfl (by decide) (fun _ => ?_) (fun h => absurd rfl h)
      refine xr_goto C d_law_572 928 (by decide) ?_
      exact k _ _ _ _ _ _ _ _ _ _ hC2 hR2 (inv2_make hV) (by omega) (by omega)
    · rw [hb0] at hv0 hf0
      refine xr_toi (show _ = (1 : Int32) from hv0) ?_
      refine xr_if_eq C d_law_558 561 565 rfl (by decide) (fun h => absurd h (by decide)) (fun _ => ?_)
      refine xr_lconst (v := 1) C d_law_561 562 rfl (by decide) ?_
      refine xr_goto C d_law_562 566 (by decide) ?_
      refine xr_lcmp C d_law_566 567 rfl ?_
      refine xr_toi (show _ = (0 : Int32) from lcmp_self (by rw [hf0]; rfl)) ?_
      refine xr_if_eq C d_law_567 570 572 rfl (by decide) (fun _ => ?_) (fun h => absurd rfl h)
      refine xr_goto C d_law_572 928 (by decide) ?_
      exact k _ _ _ _ _ _ _ _ _ _ hC2 hR2 (inv2_make hV) (by omega) (by omega)
  · have q0 : ¬ nI (fMake S (g (i + 1)) (g (i + 2))).1 = 0 := fun h => by
      have h12 : (fMake S (g (i + 1)) (g (i + 2))).1 = 1 ∨ (fMake S (g (i + 1)) (g (i + 2))).1 = 2 := by omega
      rcases h12 with h9 | h9 <;> rw [h9] at h <;> exact absurd h (by decide)
    refine xr_if_ne C d_law_550 553 572 rfl (by decide) (fun _ => ?_) (fun h => absurd h q0)
    refine xr_goto C d_law_572 928 (by decide) ?_
    exact k _ _ _ _ _ _ _ _ _ _ hC2 hR2 (inv2_make hV) (by omega) (by omega)
set_option maxRecDepth 100000 in
set_option maxHeartbeats 4000000 in
theorem law_clear {E : xE} (C : xCx E x code 7 (some .boolean) [] 20 601024 7293034 PT) {b N : Nat} {g : Nat → Int32} (hX : va_X b N g E.s E.s.heap) (hb : b < E.H0.size) (hN : N ≤ 3072) {X : xH} {F V : Nat → Nat} {I : Nat → Option Imm} {A : Nat → Nat} {s : MS} {out : Nat} {f : Nat → Int64} {S : St} (hC : xCo E.D X F V I A s out f S) (hR : mRel s S) (hV : inv2 S) {i j cells slots : Nat} (hi : i + 6 ≤ N) (hj : j ≤ 512) (hc : cells ≤ 100 + 12 * j + pC V) (hs : slots ≤ 20000 + 2000 * j + pS V) {u5 u6 : Option Value} (k : lK E F A b out i j) : xG E X cells slots 575 [some (.ref b), some (.ref (F 0)), some (.ref (A 0)), some (.ref out), some (.int (nI i)), u5, u6] [] := by
  have hW := hC.1.wf
  have hp := hC.1.pot
  have hp1 := hp.1
  have hp2 := hp.2
  have hA := hC.2.1
  refine xr_aload_n C d_law_575 576 rfl rfl ?_
  refine xr_aload_n C d_law_576 577 rfl rfl ?_
  refine xr_iload C d_law_577 579 rfl rfl ?_
  refine xr_iconst (v := 1) C d_law_579 580 rfl (by decide) ?_
  refine xr_iadd C d_law_580 581 rfl ?_
  refine xr_toi (show _ = nI (i + 1) from nI_add i 1) ?_
  refine xr_sld (j := i + 1) C hX hb d_law_581 582 rfl rfl (by omega) (by omega) ?_
  refine xr_aload_n C d_law_582 583 rfl rfl ?_
  refine xr_callS C (c_La_clear hC (z := (g (i + 1)))) k_La_clear d_law_583 586 rfl (Or.inl q_879) s_La_clear in_La_clear h_La_clear rfl ⟨Nat.le_of_ble_eq_true rfl, Nat.le_of_ble_eq_true rfl, Nat.le_of_ble_eq_true rfl⟩ (by omega) (by omega) (fun v9 X1 hP => ?_) (fun _ _ h => absurd h.1 (by simp))
  obtain ⟨e1, V1, I1, f1, hg, hC1, hr2, hf1⟩ := hP
  cases e1
  obtain ⟨hg1, hg2⟩ := hg
  refine xr_istore C d_law_586 588 rfl rfl rfl ?_
  refine xr_aload_n C d_law_588 589 rfl rfl ?_
  refine xr_aload_n C d_law_589 590 rfl rfl ?_
  refine xr_iload C d_law_590 592 rfl rfl ?_
  refine xr_iconst (v := 1) C d_law_592 593 rfl (by decide) ?_
  refine xr_iadd C d_law_593 594 rfl ?_
  refine xr_toi (show _ = nI (i + 1) from nI_add i 1) ?_
  refine xr_sld (j := i + 1) C hX hb d_law_594 595 rfl rfl (by omega) (by omega) ?_
  refine xG.eqX hC1.m.symm ?_
  have hA1 := hC1.2.1
  refine xr_callV C (d_Mo_clear hA hR hW hV (z := (g (i + 1)))) k_Mo_clear d_law_595 598 rfl (mX_o hA) rfl (Or.inl q_1151) v_Mo_clear e_Mo_clear h_Mo_clear rfl ⟨Nat.le_of_ble_eq_true rfl, Nat.le_of_ble_eq_true rfl, Nat.le_of_ble_eq_true rfl⟩ (by omega) (by omega) (fun v9 X2 hP => ?_) (fun _ _ h => by obtain ⟨_, h, _⟩ := h; cases h)
  obtain ⟨v, e2, s2, rfl, ht, hv, hR2⟩ := hP
  cases e2
  have hC2 := hC1.mod s2
  refine xr_istore C d_law_598 600 rfl rfl rfl ?_
  refine xr_aload_n C d_law_600 601 rfl rfl ?_
  refine xr_callV C (c_Mo_thrown hA) k_Mo_thrown d_law_601 604 rfl (mX_o hA) rfl (Or.inl q_1012) v_Mo_thrown e_Mo_thrown h_Mo_thrown rfl ⟨Nat.le_of_ble_eq_true rfl, Nat.le_of_ble_eq_true rfl, Nat.le_of_ble_eq_true rfl⟩ (by omega) (by omega) (fun v9 X9 hP => ?_) (fun _ _ h => absurd h.1 (by simp))
  obtain ⟨h1, rfl⟩ := hP
  cases h1
  refine xr_iload C d_law_604 606 rfl rfl ?_
  refine xr_icmp_eq C d_law_606 609 611 rfl (by decide) (fun _ => ?_) (fun h => absurd ht h)
  refine xr_iload C d_law_611 613 rfl rfl ?_
  by_cases h0 : (fClear S (g (i + 1))).1 = 0
  · have q0 : nI (fClear S (g (i + 1))).1 = 0 := by rw [h0]; rfl
    refine xr_if_ne C d_law_613 616 628 rfl (by decide) (fun h => absurd q0 h) (fun _ => ?_)
    refine xr_aload_n C d_law_616 617 rfl rfl ?_
    refine xr_iconst (v := 0) C d_law_617 618 rfl (by decide) ?_
    refine xr_lald (j := 0) C d_law_618 619 rfl hC2.o rfl (by omega) (by omega) ?_
    refine xr_iload C d_law_619 621 rfl rfl ?_
    refine xr_i2l C d_law_621 622 rfl rfl ?_
    refine xr_lcmp C d_law_622 623 rfl ?_
    refine xr_toi (show _ = (0 : Int32) from lcmp_self (by rw [hf1 h0, hv h0])) ?_
    refine xr_if_eq C d_law_623 626 628 rfl (by decide) (fun _ => ?_) (fun h => absurd rfl h)
    refine xr_goto C d_law_628 928 (by decide) ?_
    exact k _ _ _ _ _ _ _ _ _ _ hC2 hR2 (inv2_clear hV) (by omega) (by omega)
  · have q0 : ¬ nI (fClear S (g (i + 1))).1 = 0 := fun h => by
      have h12 : (fClear S (g (i + 1))).1 = 1 ∨ (fClear S (g (i + 1))).1 = 2 := by omega
      rcases h12 with h9 | h9 <;> rw [h9] at h <;> exact absurd h (by decide)
    refine xr_if_ne C d_law_613 616 628 rfl (by decide) (fun _ => ?_) (fun h => absurd h q0)
    refine xr_goto C d_law_628 928 (by decide) ?_
    exact k _ _ _ _ _ _ _ _ _ _ hC2 hR2 (inv2_clear hV) (by omega) (by omega)
set_option maxRecDepth 100000 in
set_option maxHeartbeats 4000000 in
theorem law_session {E : xE} (C : xCx E x code 7 (some .boolean) [] 20 601024 7293034 PT) {b N : Nat} {g : Nat → Int32} (hX : va_X b N g E.s E.s.heap) (hb : b < E.H0.size) (hN : N ≤ 3072) {X : xH} {F V : Nat → Nat} {I : Nat → Option Imm} {A : Nat → Nat} {s : MS} {out : Nat} {f : Nat → Int64} {S : St} (hC : xCo E.D X F V I A s out f S) (hR : mRel s S) (hV : inv2 S) {i j cells slots : Nat} (hi : i + 6 ≤ N) (hj : j ≤ 512) (hc : cells ≤ 100 + 12 * j + pC V) (hs : slots ≤ 20000 + 2000 * j + pS V) {u5 u6 : Option Value} (k : lK E F A b out i j) : xG E X cells slots 631 [some (.ref b), some (.ref (F 0)), some (.ref (A 0)), some (.ref out), some (.int (nI i)), u5, u6] [] := by
  have hW := hC.1.wf
  have hp := hC.1.pot
  have hp1 := hp.1
  have hp2 := hp.2
  have hA := hC.2.1
  refine xr_aload_n C d_law_631 632 rfl rfl ?_
  refine xr_aload_n C d_law_632 633 rfl rfl ?_
  refine xr_iload C d_law_633 635 rfl rfl ?_
  refine xr_iconst (v := 1) C d_law_635 636 rfl (by decide) ?_
  refine xr_iadd C d_law_636 637 rfl ?_
  refine xr_toi (show _ = nI (i + 1) from nI_add i 1) ?_
  refine xr_sld (j := i + 1) C hX hb d_law_637 638 rfl rfl (by omega) (by omega) ?_
  refine xr_aload_n C d_law_638 639 rfl rfl ?_
  refine xr_iload C d_law_639 641 rfl rfl ?_
  refine xr_iconst (v := 2) C d_law_641 642 rfl (by decide) ?_
  refine xr_iadd C d_law_642 643 rfl ?_
  refine xr_toi (show _ = nI (i + 2) from nI_add i 2) ?_
  refine xr_sld (j := i + 2) C hX hb d_law_643 644 rfl rfl (by omega) (by omega) ?_
  refine xr_aload_n C d_law_644 645 rfl rfl ?_
  refine xr_iload C d_law_645 647 rfl rfl ?_
  refine xr_iconst (v := 3) C d_law_647 648 rfl (by decide) ?_
  refine xr_iadd C d_law_648 649 rfl ?_
  refine xr_toi (show _ = nI (i + 3) from nI_add i 3) ?_
  refine xr_sld (j := i + 3) C hX hb d_law_649 650 rfl rfl (by omega) (by omega) ?_
  refine xr_aload_n C d_law_650 651 rfl rfl ?_
  refine xr_callS C (c_La_session hC (z := (g (i + 1))) (k := (g (i + 2))) (w := (g (i + 3)))) k_La_session d_law_651 654 rfl (Or.inl q_887) s_La_session in_La_session h_La_session rfl ⟨Nat.le_of_ble_eq_true rfl, Nat.le_of_ble_eq_true rfl, Nat.le_of_ble_eq_true rfl⟩ (by omega) (by omega) (fun v9 X1 hP => ?_) (fun _ _ h => absurd h.1 (by simp))
  obtain ⟨e1, V1, I1, f1, hg, hC1, hr2, hf1⟩ := hP
  cases e1
  obtain ⟨hg1, hg2⟩ := hg
  refine xr_istore C d_law_654 656 rfl rfl rfl ?_
  refine xr_aload_n C d_law_656 657 rfl rfl ?_
  refine xr_aload_n C d_law_657 658 rfl rfl ?_
  refine xr_iload C d_law_658 660 rfl rfl ?_
  refine xr_iconst (v := 1) C d_law_660 661 rfl (by decide) ?_
  refine xr_iadd C d_law_661 662 rfl ?_
  refine xr_toi (show _ = nI (i + 1) from nI_add i 1) ?_
  refine xr_sld (j := i + 1) C hX hb d_law_662 663 rfl rfl (by omega) (by omega) ?_
  refine xr_aload_n C d_law_663 664 rfl rfl ?_
  refine xr_iload C d_law_664 666 rfl rfl ?_
  refine xr_iconst (v := 2) C d_law_666 667 rfl (by decide) ?_
  refine xr_iadd C d_law_667 668 rfl ?_
  refine xr_toi (show _ = nI (i + 2) from nI_add i 2) ?_
  refine xr_sld (j := i + 2) C hX hb d_law_668 669 rfl rfl (by omega) (by omega) ?_
  refine xr_aload_n C d_law_669 670 rfl rfl ?_
  refine xr_iload C d_law_670 672 rfl rfl ?_
  refine xr_iconst (v := 3) C d_law_672 673 rfl (by decide) ?_
  refine xr_iadd C d_law_673 674 rfl ?_
  refine xr_toi (show _ = nI (i + 3) from nI_add i 3) ?_
  refine xr_sld (j := i + 3) C hX hb d_law_674 675 rfl rfl (by omega) (by omega) ?_
  refine xG.eqX hC1.m.symm ?_
  have hA1 := hC1.2.1
  refine xr_callV C (d_Mo_session hA hR hW hV (z := (g (i + 1))) (k := (g (i + 2))) (w := (g (i + 3)))) k_Mo_session d_law_675 678 rfl (mX_o hA) rfl (Or.inl q_1155) v_Mo_session e_Mo_session h_Mo_session rfl ⟨Nat.le_of_ble_eq_true rfl, Nat.le_of_ble_eq_true rfl, Nat.le_of_ble_eq_true rfl⟩ (by omega) (by omega) (fun v9 X2 hP => ?_) (fun _ _ h => by obtain ⟨_, h, _⟩ := h; cases h)
  obtain ⟨v, e2, s2, rfl, ht, hv, hR2⟩ := hP
  cases e2
  have hC2 := hC1.mod s2
  refine xr_istore C d_law_678 680 rfl rfl rfl ?_
  refine xr_aload_n C d_law_680 681 rfl rfl ?_
  refine xr_callV C (c_Mo_thrown hA) k_Mo_thrown d_law_681 684 rfl (mX_o hA) rfl (Or.inl q_1012) v_Mo_thrown e_Mo_thrown h_Mo_thrown rfl ⟨Nat.le_of_ble_eq_true rfl, Nat.le_of_ble_eq_true rfl, Nat.le_of_ble_eq_true rfl⟩ (by omega) (by omega) (fun v9 X9 hP => ?_) (fun _ _ h => absurd h.1 (by simp))
  obtain ⟨h1, rfl⟩ := hP
  cases h1
  refine xr_iload C d_law_684 686 rfl rfl ?_
  refine xr_icmp_eq C d_law_686 689 691 rfl (by decide) (fun _ => ?_) (fun h => absurd ht h)
  refine xr_iload C d_law_691 693 rfl rfl ?_
  by_cases h0 : (fSession S (g (i + 1)) (g (i + 2)) (g (i + 3))).1 = 0
  · have q0 : nI (fSession S (g (i + 1)) (g (i + 2)) (g (i + 3))).1 = 0 := by rw [h0]; rfl
    refine xr_if_ne C d_law_693 696 708 rfl (by decide) (fun h => absurd q0 h) (fun _ => ?_)
    refine xr_aload_n C d_law_696 697 rfl rfl ?_
    refine xr_iconst (v := 0) C d_law_697 698 rfl (by decide) ?_
    refine xr_lald (j := 0) C d_law_698 699 rfl hC2.o rfl (by omega) (by omega) ?_
    refine xr_iload C d_law_699 701 rfl rfl ?_
    refine xr_i2l C d_law_701 702 rfl rfl ?_
    refine xr_lcmp C d_law_702 703 rfl ?_
    refine xr_toi (show _ = (0 : Int32) from lcmp_self (by rw [hf1 h0, hv h0])) ?_
    refine xr_if_eq C d_law_703 706 708 rfl (by decide) (fun _ => ?_) (fun h => absurd rfl h)
    refine xr_goto C d_law_708 928 (by decide) ?_
    exact k _ _ _ _ _ _ _ _ _ _ hC2 hR2 hV (by omega) (by omega)
  · have q0 : ¬ nI (fSession S (g (i + 1)) (g (i + 2)) (g (i + 3))).1 = 0 := fun h => by
      have h12 : (fSession S (g (i + 1)) (g (i + 2)) (g (i + 3))).1 = 1 ∨ (fSession S (g (i + 1)) (g (i + 2)) (g (i + 3))).1 = 2 := by omega
      rcases h12 with h9 | h9 <;> rw [h9] at h <;> exact absurd h (by decide)
    refine xr_if_ne C d_law_693 696 708 rfl (by decide) (fun _ => ?_) (fun h => absurd h q0)
    refine xr_goto C d_law_708 928 (by decide) ?_
    exact k _ _ _ _ _ _ _ _ _ _ hC2 hR2 hV (by omega) (by omega)
set_option maxRecDepth 100000 in
set_option maxHeartbeats 4000000 in
theorem law_key {E : xE} (C : xCx E x code 7 (some .boolean) [] 20 601024 7293034 PT) {b N : Nat} {g : Nat → Int32} (hX : va_X b N g E.s E.s.heap) (hb : b < E.H0.size) (hN : N ≤ 3072) {X : xH} {F V : Nat → Nat} {I : Nat → Option Imm} {A : Nat → Nat} {s : MS} {out : Nat} {f : Nat → Int64} {S : St} (hC : xCo E.D X F V I A s out f S) (hR : mRel s S) (hV : inv2 S) {i j cells slots : Nat} (hi : i + 6 ≤ N) (hj : j ≤ 512) (hc : cells ≤ 100 + 12 * j + pC V) (hs : slots ≤ 20000 + 2000 * j + pS V) {u5 u6 : Option Value} (k : lK E F A b out i j) : xG E X cells slots 711 [some (.ref b), some (.ref (F 0)), some (.ref (A 0)), some (.ref out), some (.int (nI i)), u5, u6] [] := by
  have hW := hC.1.wf
  have hp := hC.1.pot
  have hp1 := hp.1
  have hp2 := hp.2
  have hA := hC.2.1
  refine xr_aload_n C d_law_711 712 rfl rfl ?_
  refine xr_aload_n C d_law_712 713 rfl rfl ?_
  refine xr_iload C d_law_713 715 rfl rfl ?_
  refine xr_iconst (v := 1) C d_law_715 716 rfl (by decide) ?_
  refine xr_iadd C d_law_716 717 rfl ?_
  refine xr_toi (show _ = nI (i + 1) from nI_add i 1) ?_
  refine xr_sld (j := i + 1) C hX hb d_law_717 718 rfl rfl (by omega) (by omega) ?_
  refine xr_aload_n C d_law_718 719 rfl rfl ?_
  refine xr_iload C d_law_719 721 rfl rfl ?_
  refine xr_iconst (v := 2) C d_law_721 722 rfl (by decide) ?_
  refine xr_iadd C d_law_722 723 rfl ?_
  refine xr_toi (show _ = nI (i + 2) from nI_add i 2) ?_
  refine xr_sld (j := i + 2) C hX hb d_law_723 724 rfl rfl (by omega) (by omega) ?_
  refine xr_aload_n C d_law_724 725 rfl rfl ?_
  refine xr_iload C d_law_725 727 rfl rfl ?_
  refine xr_iconst (v := 3) C d_law_727 728 rfl (by decide) ?_
  refine xr_iadd C d_law_728 729 rfl ?_
  refine xr_toi (show _ = nI (i + 3) from nI_add i 3) ?_
  refine xr_sld (j := i + 3) C hX hb d_law_729 730 rfl rfl (by omega) (by omega) ?_
  refine xr_aload_n C d_law_730 731 rfl rfl ?_
  refine xr_callS C (c_La_key hC (z := (g (i + 1))) (k := (g (i + 2))) (w := (g (i + 3)))) k_La_key d_law_731 734 rfl (Or.inl q_896) s_La_key in_La_key h_La_key rfl ⟨Nat.le_of_ble_eq_true rfl, Nat.le_of_ble_eq_true rfl, Nat.le_of_ble_eq_true rfl⟩ (by omega) (by omega) (fun v9 X1 hP => ?_) (fun _ _ h => absurd h.1 (by simp))
  obtain ⟨e1, V1, I1, f1, hg, hC1, hr2, hf1⟩ := hP
  cases e1
  obtain ⟨hg1, hg2⟩ := hg
  refine xr_istore C d_law_734 736 rfl rfl rfl ?_
  refine xr_aload_n C d_law_736 737 rfl rfl ?_
  refine xr_aload_n C d_law_737 738 rfl rfl ?_
  refine xr_iload C d_law_738 740 rfl rfl ?_
  refine xr_iconst (v := 1) C d_law_740 741 rfl (by decide) ?_
  refine xr_iadd C d_law_741 742 rfl ?_
  refine xr_toi (show _ = nI (i + 1) from nI_add i 1) ?_
  refine xr_sld (j := i + 1) C hX hb d_law_742 743 rfl rfl (by omega) (by omega) ?_
  refine xr_aload_n C d_law_743 744 rfl rfl ?_
  refine xr_iload C d_law_744 746 rfl rfl ?_
  refine xr_iconst (v := 2) C d_law_746 747 rfl (by decide) ?_
  refine xr_iadd C d_law_747 748 rfl ?_
  refine xr_toi (show _ = nI (i + 2) from nI_add i 2) ?_
  refine xr_sld (j := i + 2) C hX hb d_law_748 749 rfl rfl (by omega) (by omega) ?_
  refine xr_aload_n C d_law_749 750 rfl rfl ?_
  refine xr_iload C d_law_750 752 rfl rfl ?_
  refine xr_iconst (v := 3) C d_law_752 753 rfl (by decide) ?_
  refine xr_iadd C d_law_753 754 rfl ?_
  refine xr_toi (show _ = nI (i + 3) from nI_add i 3) ?_
  refine xr_sld (j := i + 3) C hX hb d_law_754 755 rfl rfl (by omega) (by omega) ?_
  refine xG.eqX hC1.m.symm ?_
  have hA1 := hC1.2.1
  refine xr_callV C (d_Mo_key hA hR hW hV (z := (g (i + 1))) (k := (g (i + 2))) (w := (g (i + 3)))) k_Mo_key d_law_755 758 rfl (mX_o hA) rfl (Or.inl q_1159) v_Mo_key e_Mo_key h_Mo_key rfl ⟨Nat.le_of_ble_eq_true rfl, Nat.le_of_ble_eq_true rfl, Nat.le_of_ble_eq_true rfl⟩ (by omega) (by omega) (fun v9 X2 hP => ?_) (fun _ _ h => by obtain ⟨_, h, _⟩ := h; cases h)
  obtain ⟨v, e2, s2, rfl, ht, hv, hR2⟩ := hP
  cases e2
  have hC2 := hC1.mod s2
  refine xr_istore C d_law_758 760 rfl rfl rfl ?_
  refine xr_aload_n C d_law_760 761 rfl rfl ?_
  refine xr_callV C (c_Mo_thrown hA) k_Mo_thrown d_law_761 764 rfl (mX_o hA) rfl (Or.inl q_1012) v_Mo_thrown e_Mo_thrown h_Mo_thrown rfl ⟨Nat.le_of_ble_eq_true rfl, Nat.le_of_ble_eq_true rfl, Nat.le_of_ble_eq_true rfl⟩ (by omega) (by omega) (fun v9 X9 hP => ?_) (fun _ _ h => absurd h.1 (by simp))
  obtain ⟨h1, rfl⟩ := hP
  cases h1
  refine xr_iload C d_law_764 766 rfl rfl ?_
  refine xr_icmp_eq C d_law_766 769 771 rfl (by decide) (fun _ => ?_) (fun h => absurd ht h)
  refine xr_iload C d_law_771 773 rfl rfl ?_
  by_cases h0 : (fKey S (g (i + 1)) (g (i + 2)) (g (i + 3))).1 = 0
  · have q0 : nI (fKey S (g (i + 1)) (g (i + 2)) (g (i + 3))).1 = 0 := by rw [h0]; rfl
    refine xr_if_ne C d_law_773 776 788 rfl (by decide) (fun h => absurd q0 h) (fun _ => ?_)
    refine xr_aload_n C d_law_776 777 rfl rfl ?_
    refine xr_iconst (v := 0) C d_law_777 778 rfl (by decide) ?_
    refine xr_lald (j := 0) C d_law_778 779 rfl hC2.o rfl (by omega) (by omega) ?_
    refine xr_iload C d_law_779 781 rfl rfl ?_
    refine xr_i2l C d_law_781 782 rfl rfl ?_
    refine xr_lcmp C d_law_782 783 rfl ?_
    refine xr_toi (show _ = (0 : Int32) from lcmp_self (by rw [hf1 h0, hv h0])) ?_
    refine xr_if_eq C d_law_783 786 788 rfl (by decide) (fun _ => ?_) (fun h => absurd rfl h)
    refine xr_goto C d_law_788 928 (by decide) ?_
    exact k _ _ _ _ _ _ _ _ _ _ hC2 hR2 (inv2_key hV hW) (by omega) (by omega)
  · have q0 : ¬ nI (fKey S (g (i + 1)) (g (i + 2)) (g (i + 3))).1 = 0 := fun h => by
      have h12 : (fKey S (g (i + 1)) (g (i + 2)) (g (i + 3))).1 = 1 ∨ (fKey S (g (i + 1)) (g (i + 2)) (g (i + 3))).1 = 2 := by omega
      rcases h12 with h9 | h9 <;> rw [h9] at h <;> exact absurd h (by decide)
    refine xr_if_ne C d_law_773 776 788 rfl (by decide) (fun _ => ?_) (fun h => absurd h q0)
    refine xr_goto C d_law_788 928 (by decide) ?_
    exact k _ _ _ _ _ _ _ _ _ _ hC2 hR2 (inv2_key hV hW) (by omega) (by omega)
set_option maxRecDepth 100000 in
set_option maxHeartbeats 4000000 in
theorem law_state {E : xE} (C : xCx E x code 7 (some .boolean) [] 20 601024 7293034 PT) {b N : Nat} {g : Nat → Int32} (hX : va_X b N g E.s E.s.heap) (hb : b < E.H0.size) (hN : N ≤ 3072) {X : xH} {F V : Nat → Nat} {I : Nat → Option Imm} {A : Nat → Nat} {s : MS} {out : Nat} {f : Nat → Int64} {S : St} (hC : xCo E.D X F V I A s out f S) (hR : mRel s S) (hV : inv2 S) {i j cells slots : Nat} (hi : i + 6 ≤ N) (hj : j ≤ 512) (hc : cells ≤ 100 + 12 * j + pC V) (hs : slots ≤ 20000 + 2000 * j + pS V) {u5 u6 : Option Value} (k : lK E F A b out i j) : xG E X cells slots 791 [some (.ref b), some (.ref (F 0)), some (.ref (A 0)), some (.ref out), some (.int (nI i)), u5, u6] [] := by
  have hW := hC.1.wf
  have hp := hC.1.pot
  have hp1 := hp.1
  have hp2 := hp.2
  have hA := hC.2.1
  refine xr_aload_n C d_law_791 792 rfl rfl ?_
  refine xr_aload_n C d_law_792 793 rfl rfl ?_
  refine xr_iload C d_law_793 795 rfl rfl ?_
  refine xr_iconst (v := 1) C d_law_795 796 rfl (by decide) ?_
  refine xr_iadd C d_law_796 797 rfl ?_
  refine xr_toi (show _ = nI (i + 1) from nI_add i 1) ?_
  refine xr_sld (j := i + 1) C hX hb d_law_797 798 rfl rfl (by omega) (by omega) ?_
  refine xr_aload_n C d_law_798 799 rfl rfl ?_
  refine xr_iload C d_law_799 801 rfl rfl ?_
  refine xr_iconst (v := 2) C d_law_801 802 rfl (by decide) ?_
  refine xr_iadd C d_law_802 803 rfl ?_
  refine xr_toi (show _ = nI (i + 2) from nI_add i 2) ?_
  refine xr_sld (j := i + 2) C hX hb d_law_803 804 rfl rfl (by omega) (by omega) ?_
  refine xr_aload_n C d_law_804 805 rfl rfl ?_
  refine xr_callS C (c_La_state hC (z := (g (i + 1))) (w := (g (i + 2)))) k_La_state d_law_805 808 rfl (Or.inl q_906) s_La_state in_La_state h_La_state rfl ⟨Nat.le_of_ble_eq_true rfl, Nat.le_of_ble_eq_true rfl, Nat.le_of_ble_eq_true rfl⟩ (by omega) (by omega) (fun v9 X1 hP => ?_) (fun _ _ h => absurd h.1 (by simp))
  obtain ⟨e1, V1, I1, f1, hg, hC1, hr2, hf1⟩ := hP
  cases e1
  obtain ⟨hg1, hg2⟩ := hg
  refine xr_istore C d_law_808 810 rfl rfl rfl ?_
  refine xr_aload_n C d_law_810 811 rfl rfl ?_
  refine xr_aload_n C d_law_811 812 rfl rfl ?_
  refine xr_iload C d_law_812 814 rfl rfl ?_
  refine xr_iconst (v := 1) C d_law_814 815 rfl (by decide) ?_
  refine xr_iadd C d_law_815 816 rfl ?_
  refine xr_toi (show _ = nI (i + 1) from nI_add i 1) ?_
  refine xr_sld (j := i + 1) C hX hb d_law_816 817 rfl rfl (by omega) (by omega) ?_
  refine xr_aload_n C d_law_817 818 rfl rfl ?_
  refine xr_iload C d_law_818 820 rfl rfl ?_
  refine xr_iconst (v := 2) C d_law_820 821 rfl (by decide) ?_
  refine xr_iadd C d_law_821 822 rfl ?_
  refine xr_toi (show _ = nI (i + 2) from nI_add i 2) ?_
  refine xr_sld (j := i + 2) C hX hb d_law_822 823 rfl rfl (by omega) (by omega) ?_
  refine xG.eqX hC1.m.symm ?_
  have hA1 := hC1.2.1
  refine xr_callV C (d_Mo_state hA hR hW hV (z := (g (i + 1))) (w := (g (i + 2)))) k_Mo_state d_law_823 826 rfl (mX_o hA) rfl (Or.inl q_1163) v_Mo_state e_Mo_state h_Mo_state rfl ⟨Nat.le_of_ble_eq_true rfl, Nat.le_of_ble_eq_true rfl, Nat.le_of_ble_eq_true rfl⟩ (by omega) (by omega) (fun v9 X2 hP => ?_) (fun _ _ h => by obtain ⟨_, h, _⟩ := h; cases h)
  obtain ⟨v, e2, s2, rfl, ht, hv, hR2⟩ := hP
  cases e2
  have hC2 := hC1.mod s2
  refine xr_istore C d_law_826 828 rfl rfl rfl ?_
  refine xr_aload_n C d_law_828 829 rfl rfl ?_
  refine xr_callV C (c_Mo_thrown hA) k_Mo_thrown d_law_829 832 rfl (mX_o hA) rfl (Or.inl q_1012) v_Mo_thrown e_Mo_thrown h_Mo_thrown rfl ⟨Nat.le_of_ble_eq_true rfl, Nat.le_of_ble_eq_true rfl, Nat.le_of_ble_eq_true rfl⟩ (by omega) (by omega) (fun v9 X9 hP => ?_) (fun _ _ h => absurd h.1 (by simp))
  obtain ⟨h1, rfl⟩ := hP
  cases h1
  refine xr_iload C d_law_832 834 rfl rfl ?_
  refine xr_icmp_eq C d_law_834 837 839 rfl (by decide) (fun _ => ?_) (fun h => absurd ht h)
  refine xr_iload C d_law_839 841 rfl rfl ?_
  by_cases h0 : (fState S (g (i + 1)) (g (i + 2))).1 = 0
  · have q0 : nI (fState S (g (i + 1)) (g (i + 2))).1 = 0 := by rw [h0]; rfl
    refine xr_if_ne C d_law_841 844 856 rfl (by decide) (fun h => absurd q0 h) (fun _ => ?_)
    refine xr_aload_n C d_law_844 845 rfl rfl ?_
    refine xr_iconst (v := 0) C d_law_845 846 rfl (by decide) ?_
    refine xr_lald (j := 0) C d_law_846 847 rfl hC2.o rfl (by omega) (by omega) ?_
    refine xr_iload C d_law_847 849 rfl rfl ?_
    refine xr_i2l C d_law_849 850 rfl rfl ?_
    refine xr_lcmp C d_law_850 851 rfl ?_
    refine xr_toi (show _ = (0 : Int32) from lcmp_self (by rw [hf1 h0, hv h0])) ?_
    refine xr_if_eq C d_law_851 854 856 rfl (by decide) (fun _ => ?_) (fun h => absurd rfl h)
    refine xr_goto C d_law_856 928 (by decide) ?_
    exact k _ _ _ _ _ _ _ _ _ _ hC2 hR2 hV (by omega) (by omega)
  · have q0 : ¬ nI (fState S (g (i + 1)) (g (i + 2))).1 = 0 := fun h => by
      have h12 : (fState S (g (i + 1)) (g (i + 2))).1 = 1 ∨ (fState S (g (i + 1)) (g (i + 2))).1 = 2 := by omega
      rcases h12 with h9 | h9 <;> rw [h9] at h <;> exact absurd h (by decide)
    refine xr_if_ne C d_law_841 844 856 rfl (by decide) (fun _ => ?_) (fun h => absurd h q0)
    refine xr_goto C d_law_856 928 (by decide) ?_
    exact k _ _ _ _ _ _ _ _ _ _ hC2 hR2 hV (by omega) (by omega)
set_option maxRecDepth 100000 in
set_option maxHeartbeats 4000000 in
theorem law_byteAt {E : xE} (C : xCx E x code 7 (some .boolean) [] 20 601024 7293034 PT) {b N : Nat} {g : Nat → Int32} (hX : va_X b N g E.s E.s.heap) (hb : b < E.H0.size) (hN : N ≤ 3072) {X : xH} {F V : Nat → Nat} {I : Nat → Option Imm} {A : Nat → Nat} {s : MS} {out : Nat} {f : Nat → Int64} {S : St} (hC : xCo E.D X F V I A s out f S) (hR : mRel s S) (hV : inv2 S) {i j cells slots : Nat} (hi : i + 6 ≤ N) (hj : j ≤ 512) (hc : cells ≤ 100 + 12 * j + pC V) (hs : slots ≤ 20000 + 2000 * j + pS V) {u5 u6 : Option Value} (k : lK E F A b out i j) : xG E X cells slots 872 [some (.ref b), some (.ref (F 0)), some (.ref (A 0)), some (.ref out), some (.int (nI i)), u5, u6] [] := by
  have hW := hC.1.wf
  have hp := hC.1.pot
  have hp1 := hp.1
  have hp2 := hp.2
  have hA := hC.2.1
  refine xr_aload_n C d_law_872 873 rfl rfl ?_
  refine xr_aload_n C d_law_873 874 rfl rfl ?_
  refine xr_iload C d_law_874 876 rfl rfl ?_
  refine xr_iconst (v := 1) C d_law_876 877 rfl (by decide) ?_
  refine xr_iadd C d_law_877 878 rfl ?_
  refine xr_toi (show _ = nI (i + 1) from nI_add i 1) ?_
  refine xr_sld (j := i + 1) C hX hb d_law_878 879 rfl rfl (by omega) (by omega) ?_
  refine xr_aload_n C d_law_879 880 rfl rfl ?_
  refine xr_callS C (c_La_byteAt hC (z := (g (i + 1)))) k_La_byteAt d_law_880 883 rfl (Or.inl q_926) s_La_byteAt in_La_byteAt h_La_byteAt rfl ⟨Nat.le_of_ble_eq_true rfl, Nat.le_of_ble_eq_true rfl, Nat.le_of_ble_eq_true rfl⟩ (by omega) (by omega) (fun v9 X1 hP => ?_) (fun _ _ h => absurd h.1 (by simp))
  obtain ⟨e1, V1, I1, f1, hg, hC1, hr2, hf1⟩ := hP
  cases e1
  obtain ⟨hg1, hg2⟩ := hg
  refine xr_istore C d_law_883 885 rfl rfl rfl ?_
  refine xr_aload_n C d_law_885 886 rfl rfl ?_
  refine xr_aload_n C d_law_886 887 rfl rfl ?_
  refine xr_iload C d_law_887 889 rfl rfl ?_
  refine xr_iconst (v := 1) C d_law_889 890 rfl (by decide) ?_
  refine xr_iadd C d_law_890 891 rfl ?_
  refine xr_toi (show _ = nI (i + 1) from nI_add i 1) ?_
  refine xr_sld (j := i + 1) C hX hb d_law_891 892 rfl rfl (by omega) (by omega) ?_
  refine xG.eqX hC1.m.symm ?_
  have hA1 := hC1.2.1
  refine xr_callV C (d_Mo_byteAt hA hR hW hV (z := (g (i + 1)))) k_Mo_byteAt d_law_892 895 rfl (mX_o hA) rfl (Or.inl q_1175) v_Mo_byteAt e_Mo_byteAt h_Mo_byteAt rfl ⟨Nat.le_of_ble_eq_true rfl, Nat.le_of_ble_eq_true rfl, Nat.le_of_ble_eq_true rfl⟩ (by omega) (by omega) (fun v9 X2 hP => ?_) (fun _ _ h => by obtain ⟨_, h, _⟩ := h; cases h)
  obtain ⟨v, e2, s2, rfl, ht, hv, hR2⟩ := hP
  cases e2
  have hC2 := hC1.mod s2
  refine xr_istore C d_law_895 897 rfl rfl rfl ?_
  refine xr_aload_n C d_law_897 898 rfl rfl ?_
  refine xr_callV C (c_Mo_thrown hA) k_Mo_thrown d_law_898 901 rfl (mX_o hA) rfl (Or.inl q_1012) v_Mo_thrown e_Mo_thrown h_Mo_thrown rfl ⟨Nat.le_of_ble_eq_true rfl, Nat.le_of_ble_eq_true rfl, Nat.le_of_ble_eq_true rfl⟩ (by omega) (by omega) (fun v9 X9 hP => ?_) (fun _ _ h => absurd h.1 (by simp))
  obtain ⟨h1, rfl⟩ := hP
  cases h1
  refine xr_iload C d_law_901 903 rfl rfl ?_
  refine xr_icmp_eq C d_law_903 906 908 rfl (by decide) (fun _ => ?_) (fun h => absurd ht h)
  refine xr_iload C d_law_908 910 rfl rfl ?_
  by_cases h0 : (fByteAt S (g (i + 1))).1 = 0
  · have q0 : nI (fByteAt S (g (i + 1))).1 = 0 := by rw [h0]; rfl
    refine xr_if_ne C d_law_910 913 925 rfl (by decide) (fun h => absurd q0 h) (fun _ => ?_)
    refine xr_aload_n C d_law_913 914 rfl rfl ?_
    refine xr_iconst (v := 0) C d_law_914 915 rfl (by decide) ?_
    refine xr_lald (j := 0) C d_law_915 916 rfl hC2.o rfl (by omega) (by omega) ?_
    refine xr_iload C d_law_916 918 rfl rfl ?_
    refine xr_i2l C d_law_918 919 rfl rfl ?_
    refine xr_lcmp C d_law_919 920 rfl ?_
    refine xr_toi (show _ = (0 : Int32) from lcmp_self (by rw [hf1 h0, hv h0])) ?_
    refine xr_if_eq C d_law_920 923 925 rfl (by decide) (fun _ => ?_) (fun h => absurd rfl h)
    refine xr_goto C d_law_925 928 (by decide) ?_
    exact k _ _ _ _ _ _ _ _ _ _ hC2 hR2 hV (by omega) (by omega)
  · have q0 : ¬ nI (fByteAt S (g (i + 1))).1 = 0 := fun h => by
      have h12 : (fByteAt S (g (i + 1))).1 = 1 ∨ (fByteAt S (g (i + 1))).1 = 2 := by omega
      rcases h12 with h9 | h9 <;> rw [h9] at h <;> exact absurd h (by decide)
    refine xr_if_ne C d_law_910 913 925 rfl (by decide) (fun _ => ?_) (fun h => absurd h q0)
    refine xr_goto C d_law_925 928 (by decide) ?_
    exact k _ _ _ _ _ _ _ _ _ _ hC2 hR2 hV (by omega) (by omega)
set_option maxRecDepth 100000 in
set_option maxHeartbeats 4000000 in
theorem law_place {E : xE} (C : xCx E x code 7 (some .boolean) [] 20 601024 7293034 PT) {b N : Nat} {g : Nat → Int32} (hX : va_X b N g E.s E.s.heap) (hb : b < E.H0.size) (hN : N ≤ 3072) {X : xH} {F V : Nat → Nat} {I : Nat → Option Imm} {A : Nat → Nat} {s : MS} {out : Nat} {f : Nat → Int64} {S : St} (hC : xCo E.D X F V I A s out f S) (hR : mRel s S) (hV : inv2 S) {i j cells slots : Nat} (hi : i + 6 ≤ N) (hj : j ≤ 512) (hc : cells ≤ 100 + 12 * j + pC V) (hs : slots ≤ 20000 + 2000 * j + pS V) {u5 u6 : Option Value} (k : lK E F A b out i j) : xG E X cells slots 859 [some (.ref b), some (.ref (F 0)), some (.ref (A 0)), some (.ref out), some (.int (nI i)), u5, u6] [] := by
  have hW := hC.1.wf
  have hp := hC.1.pot
  have hp1 := hp.1
  have hp2 := hp.2
  have hA := hC.2.1
  refine xr_aload_n C d_law_859 860 rfl rfl ?_
  refine xr_callV C (c_TK_place hC.1) k_TK_place d_law_860 863 rfl hC.1.1 rfl (Or.inl q_136) v_TK_place e_TK_place h_TK_place rfl ⟨Nat.le_of_ble_eq_true rfl, Nat.le_of_ble_eq_true rfl, Nat.le_of_ble_eq_true rfl⟩ (by omega) (by omega) (fun v9 X1 hP => ?_) (fun _ _ h => absurd h.1 (by simp))
  obtain ⟨h1, rfl⟩ := hP
  cases h1
  refine xr_aload_n C d_law_863 864 rfl rfl ?_
  refine xG.eqX hC.m.symm ?_
  refine xr_callV C (d_Mo_place hA hR hW hV) k_Mo_place d_law_864 867 rfl (mX_o hA) rfl (Or.inl q_1171) v_Mo_place e_Mo_place h_Mo_place rfl ⟨Nat.le_of_ble_eq_true rfl, Nat.le_of_ble_eq_true rfl, Nat.le_of_ble_eq_true rfl⟩ (by omega) (by omega) (fun v9 X2 hP => ?_) (fun _ _ h => by obtain ⟨_, h, _⟩ := h; cases h)
  obtain ⟨v, e2, s2, rfl, ht, hv, hR2⟩ := hP
  cases e2
  have hC2 := hC.mod s2
  have hv0 : v = S.2.2.2 := hv rfl
  refine xr_icmp_eq C d_law_867 870 928 rfl (by decide) (fun _ => ?_) (fun h => absurd hv0.symm h)
  exact k _ _ _ _ _ _ _ _ _ _ hC2 hR2 hV (by omega) (by omega)
