/-! The law's cases. -/
theorem dL_law_0 : decode cL_law 0 = .ok (.new 8, 3) := by decide +kernel
theorem dL_law_3 : decode cL_law 3 = .ok (.dup, 1) := by decide +kernel
theorem dL_law_4 : decode cL_law 4 = .ok (.invokespecial 55, 3) := by decide +kernel
theorem dL_law_7 : decode cL_law 7 = .ok (.astore_n 1, 1) := by decide +kernel
theorem dL_law_8 : decode cL_law 8 = .ok (.new 56, 3) := by decide +kernel
theorem dL_law_11 : decode cL_law 11 = .ok (.dup, 1) := by decide +kernel
theorem dL_law_12 : decode cL_law 12 = .ok (.invokespecial 58, 3) := by decide +kernel
theorem dL_law_15 : decode cL_law 15 = .ok (.astore_n 2, 1) := by decide +kernel
theorem dL_law_16 : decode cL_law 16 = .ok (.iconst 1, 1) := by decide +kernel
theorem dL_law_17 : decode cL_law 17 = .ok (.newarray .long, 2) := by decide +kernel
theorem dL_law_19 : decode cL_law 19 = .ok (.astore_n 3, 1) := by decide +kernel
theorem dL_law_20 : decode cL_law 20 = .ok (.iconst 0, 1) := by decide +kernel
theorem dL_law_21 : decode cL_law 21 = .ok (.istore 4, 2) := by decide +kernel
theorem dL_law_23 : decode cL_law 23 = .ok (.iload 4, 2) := by decide +kernel
theorem dL_law_25 : decode cL_law 25 = .ok (.aload_n 0, 1) := by decide +kernel
theorem dL_law_26 : decode cL_law 26 = .ok (.arraylength, 1) := by decide +kernel
theorem dL_law_27 : decode cL_law 27 = .ok (.bipush 7, 2) := by decide +kernel
theorem dL_law_29 : decode cL_law 29 = .ok (.isub, 1) := by decide +kernel
theorem dL_law_30 : decode cL_law 30 = .ok (.if_icmp .gt 1162, 3) := by decide +kernel
theorem dL_law_33 : decode cL_law 33 = .ok (.aload_n 0, 1) := by decide +kernel
theorem dL_law_34 : decode cL_law 34 = .ok (.iload 4, 2) := by decide +kernel
theorem dL_law_36 : decode cL_law 36 = .ok (.iaload, 1) := by decide +kernel
theorem dL_law_37 : decode cL_law 37 = .ok (.bipush 31, 2) := by decide +kernel
theorem dL_law_39 : decode cL_law 39 = .ok (.iand, 1) := by decide +kernel
theorem dL_law_40 : decode cL_law 40 = .ok (.tableswitch 1146 0 19 #[96, 165, 252, 296, 321, 377, 433, 458, 495, 551, 595, 675, 743, 780, 848, 916, 941, 997, 1053, 1121], 96) := by decide +kernel
theorem dL_law_136 : decode cL_law 136 = .ok (.aload_n 1, 1) := by decide +kernel
theorem dL_law_137 : decode cL_law 137 = .ok (.aload_n 0, 1) := by decide +kernel
theorem dL_law_138 : decode cL_law 138 = .ok (.iload 4, 2) := by decide +kernel
theorem dL_law_140 : decode cL_law 140 = .ok (.iconst 1, 1) := by decide +kernel
theorem dL_law_141 : decode cL_law 141 = .ok (.iadd, 1) := by decide +kernel
theorem dL_law_142 : decode cL_law 142 = .ok (.iaload, 1) := by decide +kernel
theorem dL_law_143 : decode cL_law 143 = .ok (.i2l, 1) := by decide +kernel
theorem dL_law_144 : decode cL_law 144 = .ok (.bipush 32, 2) := by decide +kernel
theorem dL_law_146 : decode cL_law 146 = .ok (.lshl, 1) := by decide +kernel
theorem dL_law_147 : decode cL_law 147 = .ok (.aload_n 0, 1) := by decide +kernel
theorem dL_law_148 : decode cL_law 148 = .ok (.iload 4, 2) := by decide +kernel
theorem dL_law_150 : decode cL_law 150 = .ok (.iconst 2, 1) := by decide +kernel
theorem dL_law_151 : decode cL_law 151 = .ok (.iadd, 1) := by decide +kernel
theorem dL_law_152 : decode cL_law 152 = .ok (.iaload, 1) := by decide +kernel
theorem dL_law_153 : decode cL_law 153 = .ok (.i2l, 1) := by decide +kernel
theorem dL_law_154 : decode cL_law 154 = .ok (.ldc2_w 59, 3) := by decide +kernel
theorem dL_law_157 : decode cL_law 157 = .ok (.land, 1) := by decide +kernel
theorem dL_law_158 : decode cL_law 158 = .ok (.lor, 1) := by decide +kernel
theorem dL_law_159 : decode cL_law 159 = .ok (.aload_n 0, 1) := by decide +kernel
theorem dL_law_160 : decode cL_law 160 = .ok (.iload 4, 2) := by decide +kernel
theorem dL_law_162 : decode cL_law 162 = .ok (.iconst 3, 1) := by decide +kernel
theorem dL_law_163 : decode cL_law 163 = .ok (.iadd, 1) := by decide +kernel
theorem dL_law_164 : decode cL_law 164 = .ok (.iaload, 1) := by decide +kernel
theorem dL_law_165 : decode cL_law 165 = .ok (.invokevirtual 61, 3) := by decide +kernel
theorem dL_law_168 : decode cL_law 168 = .ok (.aload_n 2, 1) := by decide +kernel
theorem dL_law_169 : decode cL_law 169 = .ok (.aload_n 0, 1) := by decide +kernel
theorem dL_law_170 : decode cL_law 170 = .ok (.iload 4, 2) := by decide +kernel
theorem dL_law_172 : decode cL_law 172 = .ok (.iconst 1, 1) := by decide +kernel
theorem dL_law_173 : decode cL_law 173 = .ok (.iadd, 1) := by decide +kernel
theorem dL_law_174 : decode cL_law 174 = .ok (.iaload, 1) := by decide +kernel
theorem dL_law_175 : decode cL_law 175 = .ok (.i2l, 1) := by decide +kernel
theorem dL_law_176 : decode cL_law 176 = .ok (.bipush 32, 2) := by decide +kernel
theorem dL_law_178 : decode cL_law 178 = .ok (.lshl, 1) := by decide +kernel
theorem dL_law_179 : decode cL_law 179 = .ok (.aload_n 0, 1) := by decide +kernel
theorem dL_law_180 : decode cL_law 180 = .ok (.iload 4, 2) := by decide +kernel
theorem dL_law_182 : decode cL_law 182 = .ok (.iconst 2, 1) := by decide +kernel
theorem dL_law_183 : decode cL_law 183 = .ok (.iadd, 1) := by decide +kernel
theorem dL_law_184 : decode cL_law 184 = .ok (.iaload, 1) := by decide +kernel
theorem dL_law_185 : decode cL_law 185 = .ok (.i2l, 1) := by decide +kernel
theorem dL_law_186 : decode cL_law 186 = .ok (.ldc2_w 59, 3) := by decide +kernel
theorem dL_law_189 : decode cL_law 189 = .ok (.land, 1) := by decide +kernel
theorem dL_law_190 : decode cL_law 190 = .ok (.lor, 1) := by decide +kernel
theorem dL_law_191 : decode cL_law 191 = .ok (.aload_n 0, 1) := by decide +kernel
theorem dL_law_192 : decode cL_law 192 = .ok (.iload 4, 2) := by decide +kernel
theorem dL_law_194 : decode cL_law 194 = .ok (.iconst 3, 1) := by decide +kernel
theorem dL_law_195 : decode cL_law 195 = .ok (.iadd, 1) := by decide +kernel
theorem dL_law_196 : decode cL_law 196 = .ok (.iaload, 1) := by decide +kernel
theorem dL_law_197 : decode cL_law 197 = .ok (.invokevirtual 65, 3) := by decide +kernel
theorem dL_law_200 : decode cL_law 200 = .ok (.if_icmp .eq 986, 3) := by decide +kernel
theorem dL_law_203 : decode cL_law 203 = .ok (.iconst 0, 1) := by decide +kernel
theorem dL_law_204 : decode cL_law 204 = .ok (.ireturn, 1) := by decide +kernel
theorem dL_law_205 : decode cL_law 205 = .ok (.aload_n 1, 1) := by decide +kernel
theorem dL_law_206 : decode cL_law 206 = .ok (.aload_n 0, 1) := by decide +kernel
theorem dL_law_207 : decode cL_law 207 = .ok (.iload 4, 2) := by decide +kernel
theorem dL_law_209 : decode cL_law 209 = .ok (.iconst 1, 1) := by decide +kernel
theorem dL_law_210 : decode cL_law 210 = .ok (.iadd, 1) := by decide +kernel
theorem dL_law_211 : decode cL_law 211 = .ok (.iaload, 1) := by decide +kernel
theorem dL_law_212 : decode cL_law 212 = .ok (.aload_n 0, 1) := by decide +kernel
theorem dL_law_213 : decode cL_law 213 = .ok (.iload 4, 2) := by decide +kernel
theorem dL_law_215 : decode cL_law 215 = .ok (.iconst 2, 1) := by decide +kernel
theorem dL_law_216 : decode cL_law 216 = .ok (.iadd, 1) := by decide +kernel
theorem dL_law_217 : decode cL_law 217 = .ok (.iaload, 1) := by decide +kernel
theorem dL_law_218 : decode cL_law 218 = .ok (.aload_n 0, 1) := by decide +kernel
theorem dL_law_219 : decode cL_law 219 = .ok (.iload 4, 2) := by decide +kernel
theorem dL_law_221 : decode cL_law 221 = .ok (.iconst 3, 1) := by decide +kernel
theorem dL_law_222 : decode cL_law 222 = .ok (.iadd, 1) := by decide +kernel
theorem dL_law_223 : decode cL_law 223 = .ok (.iaload, 1) := by decide +kernel
theorem dL_law_224 : decode cL_law 224 = .ok (.aload_n 0, 1) := by decide +kernel
theorem dL_law_225 : decode cL_law 225 = .ok (.iload 4, 2) := by decide +kernel
theorem dL_law_227 : decode cL_law 227 = .ok (.iconst 4, 1) := by decide +kernel
theorem dL_law_228 : decode cL_law 228 = .ok (.iadd, 1) := by decide +kernel
theorem dL_law_229 : decode cL_law 229 = .ok (.iaload, 1) := by decide +kernel
theorem dL_law_230 : decode cL_law 230 = .ok (.aload_n 0, 1) := by decide +kernel
theorem dL_law_231 : decode cL_law 231 = .ok (.iload 4, 2) := by decide +kernel
theorem dL_law_233 : decode cL_law 233 = .ok (.iconst 5, 1) := by decide +kernel
theorem dL_law_234 : decode cL_law 234 = .ok (.iadd, 1) := by decide +kernel
theorem dL_law_235 : decode cL_law 235 = .ok (.iaload, 1) := by decide +kernel
theorem dL_law_236 : decode cL_law 236 = .ok (.aload_n 0, 1) := by decide +kernel
theorem dL_law_237 : decode cL_law 237 = .ok (.iload 4, 2) := by decide +kernel
theorem dL_law_239 : decode cL_law 239 = .ok (.bipush 6, 2) := by decide +kernel
theorem dL_law_241 : decode cL_law 241 = .ok (.iadd, 1) := by decide +kernel
theorem dL_law_242 : decode cL_law 242 = .ok (.iaload, 1) := by decide +kernel
theorem dL_law_243 : decode cL_law 243 = .ok (.invokevirtual 66, 3) := by decide +kernel
theorem dL_law_246 : decode cL_law 246 = .ok (.aload_n 2, 1) := by decide +kernel
theorem dL_law_247 : decode cL_law 247 = .ok (.aload_n 0, 1) := by decide +kernel
theorem dL_law_248 : decode cL_law 248 = .ok (.iload 4, 2) := by decide +kernel
theorem dL_law_250 : decode cL_law 250 = .ok (.iconst 1, 1) := by decide +kernel
theorem dL_law_251 : decode cL_law 251 = .ok (.iadd, 1) := by decide +kernel
theorem dL_law_252 : decode cL_law 252 = .ok (.iaload, 1) := by decide +kernel
theorem dL_law_253 : decode cL_law 253 = .ok (.aload_n 0, 1) := by decide +kernel
theorem dL_law_254 : decode cL_law 254 = .ok (.iload 4, 2) := by decide +kernel
theorem dL_law_256 : decode cL_law 256 = .ok (.iconst 2, 1) := by decide +kernel
theorem dL_law_257 : decode cL_law 257 = .ok (.iadd, 1) := by decide +kernel
theorem dL_law_258 : decode cL_law 258 = .ok (.iaload, 1) := by decide +kernel
theorem dL_law_259 : decode cL_law 259 = .ok (.aload_n 0, 1) := by decide +kernel
theorem dL_law_260 : decode cL_law 260 = .ok (.iload 4, 2) := by decide +kernel
theorem dL_law_262 : decode cL_law 262 = .ok (.iconst 3, 1) := by decide +kernel
theorem dL_law_263 : decode cL_law 263 = .ok (.iadd, 1) := by decide +kernel
theorem dL_law_264 : decode cL_law 264 = .ok (.iaload, 1) := by decide +kernel
theorem dL_law_265 : decode cL_law 265 = .ok (.aload_n 0, 1) := by decide +kernel
theorem dL_law_266 : decode cL_law 266 = .ok (.iload 4, 2) := by decide +kernel
theorem dL_law_268 : decode cL_law 268 = .ok (.iconst 4, 1) := by decide +kernel
theorem dL_law_269 : decode cL_law 269 = .ok (.iadd, 1) := by decide +kernel
theorem dL_law_270 : decode cL_law 270 = .ok (.iaload, 1) := by decide +kernel
theorem dL_law_271 : decode cL_law 271 = .ok (.aload_n 0, 1) := by decide +kernel
theorem dL_law_272 : decode cL_law 272 = .ok (.iload 4, 2) := by decide +kernel
theorem dL_law_274 : decode cL_law 274 = .ok (.iconst 5, 1) := by decide +kernel
theorem dL_law_275 : decode cL_law 275 = .ok (.iadd, 1) := by decide +kernel
theorem dL_law_276 : decode cL_law 276 = .ok (.iaload, 1) := by decide +kernel
theorem dL_law_277 : decode cL_law 277 = .ok (.aload_n 0, 1) := by decide +kernel
theorem dL_law_278 : decode cL_law 278 = .ok (.iload 4, 2) := by decide +kernel
theorem dL_law_280 : decode cL_law 280 = .ok (.bipush 6, 2) := by decide +kernel
theorem dL_law_282 : decode cL_law 282 = .ok (.iadd, 1) := by decide +kernel
theorem dL_law_283 : decode cL_law 283 = .ok (.iaload, 1) := by decide +kernel
theorem dL_law_284 : decode cL_law 284 = .ok (.invokevirtual 70, 3) := by decide +kernel
theorem dL_law_287 : decode cL_law 287 = .ok (.if_icmp .eq 899, 3) := by decide +kernel
theorem dL_law_290 : decode cL_law 290 = .ok (.iconst 0, 1) := by decide +kernel
theorem dL_law_291 : decode cL_law 291 = .ok (.ireturn, 1) := by decide +kernel
theorem dL_law_292 : decode cL_law 292 = .ok (.aload_n 1, 1) := by decide +kernel
theorem dL_law_293 : decode cL_law 293 = .ok (.aload_n 3, 1) := by decide +kernel
theorem dL_law_294 : decode cL_law 294 = .ok (.invokestatic 71, 3) := by decide +kernel
theorem dL_law_297 : decode cL_law 297 = .ok (.istore 5, 2) := by decide +kernel
theorem dL_law_299 : decode cL_law 299 = .ok (.aload_n 2, 1) := by decide +kernel
theorem dL_law_300 : decode cL_law 300 = .ok (.invokevirtual 76, 3) := by decide +kernel
theorem dL_law_303 : decode cL_law 303 = .ok (.istore 6, 2) := by decide +kernel
theorem dL_law_305 : decode cL_law 305 = .ok (.aload_n 2, 1) := by decide +kernel
theorem dL_law_306 : decode cL_law 306 = .ok (.invokevirtual 77, 3) := by decide +kernel
theorem dL_law_309 : decode cL_law 309 = .ok (.iload 5, 2) := by decide +kernel
theorem dL_law_311 : decode cL_law 311 = .ok (.if_icmp .eq 5, 3) := by decide +kernel
theorem dL_law_314 : decode cL_law 314 = .ok (.iconst 0, 1) := by decide +kernel
theorem dL_law_315 : decode cL_law 315 = .ok (.ireturn, 1) := by decide +kernel
theorem dL_law_316 : decode cL_law 316 = .ok (.iload 5, 2) := by decide +kernel
theorem dL_law_318 : decode cL_law 318 = .ok (.ifCond .ne 15, 3) := by decide +kernel
theorem dL_law_321 : decode cL_law 321 = .ok (.aload_n 3, 1) := by decide +kernel
theorem dL_law_322 : decode cL_law 322 = .ok (.iconst 0, 1) := by decide +kernel
theorem dL_law_323 : decode cL_law 323 = .ok (.laload, 1) := by decide +kernel
theorem dL_law_324 : decode cL_law 324 = .ok (.iload 6, 2) := by decide +kernel
theorem dL_law_326 : decode cL_law 326 = .ok (.i2l, 1) := by decide +kernel
theorem dL_law_327 : decode cL_law 327 = .ok (.lcmp, 1) := by decide +kernel
theorem dL_law_328 : decode cL_law 328 = .ok (.ifCond .eq 5, 3) := by decide +kernel
theorem dL_law_331 : decode cL_law 331 = .ok (.iconst 0, 1) := by decide +kernel
theorem dL_law_332 : decode cL_law 332 = .ok (.ireturn, 1) := by decide +kernel
theorem dL_law_333 : decode cL_law 333 = .ok (.goto 853, 3) := by decide +kernel
theorem dL_law_336 : decode cL_law 336 = .ok (.aload_n 1, 1) := by decide +kernel
theorem dL_law_337 : decode cL_law 337 = .ok (.aload_n 0, 1) := by decide +kernel
theorem dL_law_338 : decode cL_law 338 = .ok (.iload 4, 2) := by decide +kernel
theorem dL_law_340 : decode cL_law 340 = .ok (.iconst 1, 1) := by decide +kernel
theorem dL_law_341 : decode cL_law 341 = .ok (.iadd, 1) := by decide +kernel
theorem dL_law_342 : decode cL_law 342 = .ok (.iaload, 1) := by decide +kernel
theorem dL_law_343 : decode cL_law 343 = .ok (.invokevirtual 80, 3) := by decide +kernel
theorem dL_law_346 : decode cL_law 346 = .ok (.aload_n 2, 1) := by decide +kernel
theorem dL_law_347 : decode cL_law 347 = .ok (.aload_n 0, 1) := by decide +kernel
theorem dL_law_348 : decode cL_law 348 = .ok (.iload 4, 2) := by decide +kernel
theorem dL_law_350 : decode cL_law 350 = .ok (.iconst 1, 1) := by decide +kernel
theorem dL_law_351 : decode cL_law 351 = .ok (.iadd, 1) := by decide +kernel
theorem dL_law_352 : decode cL_law 352 = .ok (.iaload, 1) := by decide +kernel
theorem dL_law_353 : decode cL_law 353 = .ok (.invokevirtual 83, 3) := by decide +kernel
theorem dL_law_356 : decode cL_law 356 = .ok (.if_icmp .eq 830, 3) := by decide +kernel
theorem dL_law_359 : decode cL_law 359 = .ok (.iconst 0, 1) := by decide +kernel
theorem dL_law_360 : decode cL_law 360 = .ok (.ireturn, 1) := by decide +kernel
theorem dL_law_361 : decode cL_law 361 = .ok (.aload_n 1, 1) := by decide +kernel
theorem dL_law_362 : decode cL_law 362 = .ok (.aload_n 0, 1) := by decide +kernel
theorem dL_law_363 : decode cL_law 363 = .ok (.iload 4, 2) := by decide +kernel
theorem dL_law_365 : decode cL_law 365 = .ok (.iconst 1, 1) := by decide +kernel
theorem dL_law_366 : decode cL_law 366 = .ok (.iadd, 1) := by decide +kernel
theorem dL_law_367 : decode cL_law 367 = .ok (.iaload, 1) := by decide +kernel
theorem dL_law_368 : decode cL_law 368 = .ok (.aload_n 3, 1) := by decide +kernel
theorem dL_law_369 : decode cL_law 369 = .ok (.invokestatic 84, 3) := by decide +kernel
theorem dL_law_372 : decode cL_law 372 = .ok (.istore 5, 2) := by decide +kernel
theorem dL_law_374 : decode cL_law 374 = .ok (.aload_n 2, 1) := by decide +kernel
theorem dL_law_375 : decode cL_law 375 = .ok (.aload_n 0, 1) := by decide +kernel
theorem dL_law_376 : decode cL_law 376 = .ok (.iload 4, 2) := by decide +kernel
theorem dL_law_378 : decode cL_law 378 = .ok (.iconst 1, 1) := by decide +kernel
theorem dL_law_379 : decode cL_law 379 = .ok (.iadd, 1) := by decide +kernel
theorem dL_law_380 : decode cL_law 380 = .ok (.iaload, 1) := by decide +kernel
theorem dL_law_381 : decode cL_law 381 = .ok (.invokevirtual 87, 3) := by decide +kernel
theorem dL_law_384 : decode cL_law 384 = .ok (.istore 6, 2) := by decide +kernel
theorem dL_law_386 : decode cL_law 386 = .ok (.aload_n 2, 1) := by decide +kernel
theorem dL_law_387 : decode cL_law 387 = .ok (.invokevirtual 77, 3) := by decide +kernel
theorem dL_law_390 : decode cL_law 390 = .ok (.iload 5, 2) := by decide +kernel
theorem dL_law_392 : decode cL_law 392 = .ok (.if_icmp .eq 5, 3) := by decide +kernel
theorem dL_law_395 : decode cL_law 395 = .ok (.iconst 0, 1) := by decide +kernel
theorem dL_law_396 : decode cL_law 396 = .ok (.ireturn, 1) := by decide +kernel
theorem dL_law_397 : decode cL_law 397 = .ok (.iload 5, 2) := by decide +kernel
theorem dL_law_399 : decode cL_law 399 = .ok (.ifCond .ne 15, 3) := by decide +kernel
theorem dL_law_402 : decode cL_law 402 = .ok (.aload_n 3, 1) := by decide +kernel
theorem dL_law_403 : decode cL_law 403 = .ok (.iconst 0, 1) := by decide +kernel
theorem dL_law_404 : decode cL_law 404 = .ok (.laload, 1) := by decide +kernel
theorem dL_law_405 : decode cL_law 405 = .ok (.iload 6, 2) := by decide +kernel
theorem dL_law_407 : decode cL_law 407 = .ok (.i2l, 1) := by decide +kernel
theorem dL_law_408 : decode cL_law 408 = .ok (.lcmp, 1) := by decide +kernel
theorem dL_law_409 : decode cL_law 409 = .ok (.ifCond .eq 5, 3) := by decide +kernel
theorem dL_law_412 : decode cL_law 412 = .ok (.iconst 0, 1) := by decide +kernel
theorem dL_law_413 : decode cL_law 413 = .ok (.ireturn, 1) := by decide +kernel
theorem dL_law_414 : decode cL_law 414 = .ok (.goto 772, 3) := by decide +kernel
theorem dL_law_417 : decode cL_law 417 = .ok (.aload_n 1, 1) := by decide +kernel
theorem dL_law_418 : decode cL_law 418 = .ok (.aload_n 0, 1) := by decide +kernel
theorem dL_law_419 : decode cL_law 419 = .ok (.iload 4, 2) := by decide +kernel
theorem dL_law_421 : decode cL_law 421 = .ok (.iconst 1, 1) := by decide +kernel
theorem dL_law_422 : decode cL_law 422 = .ok (.iadd, 1) := by decide +kernel
theorem dL_law_423 : decode cL_law 423 = .ok (.iaload, 1) := by decide +kernel
theorem dL_law_424 : decode cL_law 424 = .ok (.aload_n 3, 1) := by decide +kernel
theorem dL_law_425 : decode cL_law 425 = .ok (.invokestatic 88, 3) := by decide +kernel
theorem dL_law_428 : decode cL_law 428 = .ok (.istore 5, 2) := by decide +kernel
theorem dL_law_430 : decode cL_law 430 = .ok (.aload_n 2, 1) := by decide +kernel
theorem dL_law_431 : decode cL_law 431 = .ok (.aload_n 0, 1) := by decide +kernel
theorem dL_law_432 : decode cL_law 432 = .ok (.iload 4, 2) := by decide +kernel
theorem dL_law_434 : decode cL_law 434 = .ok (.iconst 1, 1) := by decide +kernel
theorem dL_law_435 : decode cL_law 435 = .ok (.iadd, 1) := by decide +kernel
theorem dL_law_436 : decode cL_law 436 = .ok (.iaload, 1) := by decide +kernel
theorem dL_law_437 : decode cL_law 437 = .ok (.invokevirtual 90, 3) := by decide +kernel
theorem dL_law_440 : decode cL_law 440 = .ok (.istore 6, 2) := by decide +kernel
theorem dL_law_442 : decode cL_law 442 = .ok (.aload_n 2, 1) := by decide +kernel
theorem dL_law_443 : decode cL_law 443 = .ok (.invokevirtual 77, 3) := by decide +kernel
theorem dL_law_446 : decode cL_law 446 = .ok (.iload 5, 2) := by decide +kernel
theorem dL_law_448 : decode cL_law 448 = .ok (.if_icmp .eq 5, 3) := by decide +kernel
theorem dL_law_451 : decode cL_law 451 = .ok (.iconst 0, 1) := by decide +kernel
theorem dL_law_452 : decode cL_law 452 = .ok (.ireturn, 1) := by decide +kernel
theorem dL_law_453 : decode cL_law 453 = .ok (.iload 5, 2) := by decide +kernel
theorem dL_law_455 : decode cL_law 455 = .ok (.ifCond .ne 15, 3) := by decide +kernel
theorem dL_law_458 : decode cL_law 458 = .ok (.aload_n 3, 1) := by decide +kernel
theorem dL_law_459 : decode cL_law 459 = .ok (.iconst 0, 1) := by decide +kernel
theorem dL_law_460 : decode cL_law 460 = .ok (.laload, 1) := by decide +kernel
theorem dL_law_461 : decode cL_law 461 = .ok (.iload 6, 2) := by decide +kernel
theorem dL_law_463 : decode cL_law 463 = .ok (.i2l, 1) := by decide +kernel
theorem dL_law_464 : decode cL_law 464 = .ok (.lcmp, 1) := by decide +kernel
theorem dL_law_465 : decode cL_law 465 = .ok (.ifCond .eq 5, 3) := by decide +kernel
theorem dL_law_468 : decode cL_law 468 = .ok (.iconst 0, 1) := by decide +kernel
theorem dL_law_469 : decode cL_law 469 = .ok (.ireturn, 1) := by decide +kernel
theorem dL_law_470 : decode cL_law 470 = .ok (.goto 716, 3) := by decide +kernel
theorem dL_law_473 : decode cL_law 473 = .ok (.aload_n 1, 1) := by decide +kernel
theorem dL_law_474 : decode cL_law 474 = .ok (.aload_n 0, 1) := by decide +kernel
theorem dL_law_475 : decode cL_law 475 = .ok (.iload 4, 2) := by decide +kernel
theorem dL_law_477 : decode cL_law 477 = .ok (.iconst 1, 1) := by decide +kernel
theorem dL_law_478 : decode cL_law 478 = .ok (.iadd, 1) := by decide +kernel
theorem dL_law_479 : decode cL_law 479 = .ok (.iaload, 1) := by decide +kernel
theorem dL_law_480 : decode cL_law 480 = .ok (.invokevirtual 91, 3) := by decide +kernel
theorem dL_law_483 : decode cL_law 483 = .ok (.aload_n 2, 1) := by decide +kernel
theorem dL_law_484 : decode cL_law 484 = .ok (.aload_n 0, 1) := by decide +kernel
theorem dL_law_485 : decode cL_law 485 = .ok (.iload 4, 2) := by decide +kernel
theorem dL_law_487 : decode cL_law 487 = .ok (.iconst 1, 1) := by decide +kernel
theorem dL_law_488 : decode cL_law 488 = .ok (.iadd, 1) := by decide +kernel
theorem dL_law_489 : decode cL_law 489 = .ok (.iaload, 1) := by decide +kernel
theorem dL_law_490 : decode cL_law 490 = .ok (.invokevirtual 95, 3) := by decide +kernel
theorem dL_law_493 : decode cL_law 493 = .ok (.if_icmp .eq 693, 3) := by decide +kernel
theorem dL_law_496 : decode cL_law 496 = .ok (.iconst 0, 1) := by decide +kernel
theorem dL_law_497 : decode cL_law 497 = .ok (.ireturn, 1) := by decide +kernel
theorem dL_law_498 : decode cL_law 498 = .ok (.aload_n 1, 1) := by decide +kernel
theorem dL_law_499 : decode cL_law 499 = .ok (.aload_n 0, 1) := by decide +kernel
theorem dL_law_500 : decode cL_law 500 = .ok (.iload 4, 2) := by decide +kernel
theorem dL_law_502 : decode cL_law 502 = .ok (.iconst 1, 1) := by decide +kernel
theorem dL_law_503 : decode cL_law 503 = .ok (.iadd, 1) := by decide +kernel
theorem dL_law_504 : decode cL_law 504 = .ok (.iaload, 1) := by decide +kernel
theorem dL_law_505 : decode cL_law 505 = .ok (.aload_n 0, 1) := by decide +kernel
theorem dL_law_506 : decode cL_law 506 = .ok (.iload 4, 2) := by decide +kernel
theorem dL_law_508 : decode cL_law 508 = .ok (.iconst 2, 1) := by decide +kernel
theorem dL_law_509 : decode cL_law 509 = .ok (.iadd, 1) := by decide +kernel
theorem dL_law_510 : decode cL_law 510 = .ok (.iaload, 1) := by decide +kernel
theorem dL_law_511 : decode cL_law 511 = .ok (.invokevirtual 96, 3) := by decide +kernel
theorem dL_law_514 : decode cL_law 514 = .ok (.aload_n 2, 1) := by decide +kernel
theorem dL_law_515 : decode cL_law 515 = .ok (.aload_n 0, 1) := by decide +kernel
theorem dL_law_516 : decode cL_law 516 = .ok (.iload 4, 2) := by decide +kernel
theorem dL_law_518 : decode cL_law 518 = .ok (.iconst 1, 1) := by decide +kernel
theorem dL_law_519 : decode cL_law 519 = .ok (.iadd, 1) := by decide +kernel
theorem dL_law_520 : decode cL_law 520 = .ok (.iaload, 1) := by decide +kernel
theorem dL_law_521 : decode cL_law 521 = .ok (.aload_n 0, 1) := by decide +kernel
theorem dL_law_522 : decode cL_law 522 = .ok (.iload 4, 2) := by decide +kernel
theorem dL_law_524 : decode cL_law 524 = .ok (.iconst 2, 1) := by decide +kernel
theorem dL_law_525 : decode cL_law 525 = .ok (.iadd, 1) := by decide +kernel
theorem dL_law_526 : decode cL_law 526 = .ok (.iaload, 1) := by decide +kernel
theorem dL_law_527 : decode cL_law 527 = .ok (.invokevirtual 100, 3) := by decide +kernel
theorem dL_law_530 : decode cL_law 530 = .ok (.if_icmp .eq 656, 3) := by decide +kernel
theorem dL_law_533 : decode cL_law 533 = .ok (.iconst 0, 1) := by decide +kernel
theorem dL_law_534 : decode cL_law 534 = .ok (.ireturn, 1) := by decide +kernel
theorem dL_law_535 : decode cL_law 535 = .ok (.aload_n 1, 1) := by decide +kernel
theorem dL_law_536 : decode cL_law 536 = .ok (.aload_n 0, 1) := by decide +kernel
theorem dL_law_537 : decode cL_law 537 = .ok (.iload 4, 2) := by decide +kernel
theorem dL_law_539 : decode cL_law 539 = .ok (.iconst 1, 1) := by decide +kernel
theorem dL_law_540 : decode cL_law 540 = .ok (.iadd, 1) := by decide +kernel
theorem dL_law_541 : decode cL_law 541 = .ok (.iaload, 1) := by decide +kernel
theorem dL_law_542 : decode cL_law 542 = .ok (.aload_n 3, 1) := by decide +kernel
theorem dL_law_543 : decode cL_law 543 = .ok (.invokestatic 101, 3) := by decide +kernel
theorem dL_law_546 : decode cL_law 546 = .ok (.istore 5, 2) := by decide +kernel
theorem dL_law_548 : decode cL_law 548 = .ok (.aload_n 2, 1) := by decide +kernel
theorem dL_law_549 : decode cL_law 549 = .ok (.aload_n 0, 1) := by decide +kernel
theorem dL_law_550 : decode cL_law 550 = .ok (.iload 4, 2) := by decide +kernel
theorem dL_law_552 : decode cL_law 552 = .ok (.iconst 1, 1) := by decide +kernel
theorem dL_law_553 : decode cL_law 553 = .ok (.iadd, 1) := by decide +kernel
theorem dL_law_554 : decode cL_law 554 = .ok (.iaload, 1) := by decide +kernel
theorem dL_law_555 : decode cL_law 555 = .ok (.invokevirtual 103, 3) := by decide +kernel
theorem dL_law_558 : decode cL_law 558 = .ok (.istore 6, 2) := by decide +kernel
theorem dL_law_560 : decode cL_law 560 = .ok (.aload_n 2, 1) := by decide +kernel
theorem dL_law_561 : decode cL_law 561 = .ok (.invokevirtual 77, 3) := by decide +kernel
theorem dL_law_564 : decode cL_law 564 = .ok (.iload 5, 2) := by decide +kernel
theorem dL_law_566 : decode cL_law 566 = .ok (.if_icmp .eq 5, 3) := by decide +kernel
theorem dL_law_569 : decode cL_law 569 = .ok (.iconst 0, 1) := by decide +kernel
theorem dL_law_570 : decode cL_law 570 = .ok (.ireturn, 1) := by decide +kernel
theorem dL_law_571 : decode cL_law 571 = .ok (.iload 5, 2) := by decide +kernel
theorem dL_law_573 : decode cL_law 573 = .ok (.ifCond .ne 15, 3) := by decide +kernel
theorem dL_law_576 : decode cL_law 576 = .ok (.aload_n 3, 1) := by decide +kernel
theorem dL_law_577 : decode cL_law 577 = .ok (.iconst 0, 1) := by decide +kernel
theorem dL_law_578 : decode cL_law 578 = .ok (.laload, 1) := by decide +kernel
theorem dL_law_579 : decode cL_law 579 = .ok (.iload 6, 2) := by decide +kernel
theorem dL_law_581 : decode cL_law 581 = .ok (.i2l, 1) := by decide +kernel
theorem dL_law_582 : decode cL_law 582 = .ok (.lcmp, 1) := by decide +kernel
theorem dL_law_583 : decode cL_law 583 = .ok (.ifCond .eq 5, 3) := by decide +kernel
theorem dL_law_586 : decode cL_law 586 = .ok (.iconst 0, 1) := by decide +kernel
theorem dL_law_587 : decode cL_law 587 = .ok (.ireturn, 1) := by decide +kernel
theorem dL_law_588 : decode cL_law 588 = .ok (.goto 598, 3) := by decide +kernel
theorem dL_law_591 : decode cL_law 591 = .ok (.aload_n 1, 1) := by decide +kernel
theorem dL_law_592 : decode cL_law 592 = .ok (.aload_n 3, 1) := by decide +kernel
theorem dL_law_593 : decode cL_law 593 = .ok (.invokestatic 104, 3) := by decide +kernel
theorem dL_law_596 : decode cL_law 596 = .ok (.istore 5, 2) := by decide +kernel
theorem dL_law_598 : decode cL_law 598 = .ok (.aload_n 2, 1) := by decide +kernel
theorem dL_law_599 : decode cL_law 599 = .ok (.invokevirtual 106, 3) := by decide +kernel
theorem dL_law_602 : decode cL_law 602 = .ok (.istore 6, 2) := by decide +kernel
theorem dL_law_604 : decode cL_law 604 = .ok (.aload_n 2, 1) := by decide +kernel
theorem dL_law_605 : decode cL_law 605 = .ok (.invokevirtual 77, 3) := by decide +kernel
theorem dL_law_608 : decode cL_law 608 = .ok (.iload 5, 2) := by decide +kernel
theorem dL_law_610 : decode cL_law 610 = .ok (.if_icmp .eq 5, 3) := by decide +kernel
theorem dL_law_613 : decode cL_law 613 = .ok (.iconst 0, 1) := by decide +kernel
theorem dL_law_614 : decode cL_law 614 = .ok (.ireturn, 1) := by decide +kernel
theorem dL_law_615 : decode cL_law 615 = .ok (.iload 5, 2) := by decide +kernel
theorem dL_law_617 : decode cL_law 617 = .ok (.ifCond .ne 15, 3) := by decide +kernel
theorem dL_law_620 : decode cL_law 620 = .ok (.aload_n 3, 1) := by decide +kernel
theorem dL_law_621 : decode cL_law 621 = .ok (.iconst 0, 1) := by decide +kernel
theorem dL_law_622 : decode cL_law 622 = .ok (.laload, 1) := by decide +kernel
theorem dL_law_623 : decode cL_law 623 = .ok (.iload 6, 2) := by decide +kernel
theorem dL_law_625 : decode cL_law 625 = .ok (.i2l, 1) := by decide +kernel
theorem dL_law_626 : decode cL_law 626 = .ok (.lcmp, 1) := by decide +kernel
theorem dL_law_627 : decode cL_law 627 = .ok (.ifCond .eq 5, 3) := by decide +kernel
theorem dL_law_630 : decode cL_law 630 = .ok (.iconst 0, 1) := by decide +kernel
theorem dL_law_631 : decode cL_law 631 = .ok (.ireturn, 1) := by decide +kernel
theorem dL_law_632 : decode cL_law 632 = .ok (.goto 554, 3) := by decide +kernel
theorem dL_law_635 : decode cL_law 635 = .ok (.aload_n 1, 1) := by decide +kernel
theorem dL_law_636 : decode cL_law 636 = .ok (.aload_n 0, 1) := by decide +kernel
theorem dL_law_637 : decode cL_law 637 = .ok (.iload 4, 2) := by decide +kernel
theorem dL_law_639 : decode cL_law 639 = .ok (.iconst 1, 1) := by decide +kernel
theorem dL_law_640 : decode cL_law 640 = .ok (.iadd, 1) := by decide +kernel
theorem dL_law_641 : decode cL_law 641 = .ok (.iaload, 1) := by decide +kernel
theorem dL_law_642 : decode cL_law 642 = .ok (.aload_n 0, 1) := by decide +kernel
theorem dL_law_643 : decode cL_law 643 = .ok (.iload 4, 2) := by decide +kernel
theorem dL_law_645 : decode cL_law 645 = .ok (.iconst 2, 1) := by decide +kernel
theorem dL_law_646 : decode cL_law 646 = .ok (.iadd, 1) := by decide +kernel
theorem dL_law_647 : decode cL_law 647 = .ok (.iaload, 1) := by decide +kernel
theorem dL_law_648 : decode cL_law 648 = .ok (.aload_n 0, 1) := by decide +kernel
theorem dL_law_649 : decode cL_law 649 = .ok (.iload 4, 2) := by decide +kernel
theorem dL_law_651 : decode cL_law 651 = .ok (.iconst 3, 1) := by decide +kernel
theorem dL_law_652 : decode cL_law 652 = .ok (.iadd, 1) := by decide +kernel
theorem dL_law_653 : decode cL_law 653 = .ok (.iaload, 1) := by decide +kernel
theorem dL_law_654 : decode cL_law 654 = .ok (.aload_n 3, 1) := by decide +kernel
theorem dL_law_655 : decode cL_law 655 = .ok (.invokestatic 107, 3) := by decide +kernel
theorem dL_law_658 : decode cL_law 658 = .ok (.istore 5, 2) := by decide +kernel
theorem dL_law_660 : decode cL_law 660 = .ok (.aload_n 2, 1) := by decide +kernel
theorem dL_law_661 : decode cL_law 661 = .ok (.aload_n 0, 1) := by decide +kernel
theorem dL_law_662 : decode cL_law 662 = .ok (.iload 4, 2) := by decide +kernel
theorem dL_law_664 : decode cL_law 664 = .ok (.iconst 1, 1) := by decide +kernel
theorem dL_law_665 : decode cL_law 665 = .ok (.iadd, 1) := by decide +kernel
theorem dL_law_666 : decode cL_law 666 = .ok (.iaload, 1) := by decide +kernel
theorem dL_law_667 : decode cL_law 667 = .ok (.aload_n 0, 1) := by decide +kernel
theorem dL_law_668 : decode cL_law 668 = .ok (.iload 4, 2) := by decide +kernel
theorem dL_law_670 : decode cL_law 670 = .ok (.iconst 2, 1) := by decide +kernel
theorem dL_law_671 : decode cL_law 671 = .ok (.iadd, 1) := by decide +kernel
theorem dL_law_672 : decode cL_law 672 = .ok (.iaload, 1) := by decide +kernel
theorem dL_law_673 : decode cL_law 673 = .ok (.aload_n 0, 1) := by decide +kernel
theorem dL_law_674 : decode cL_law 674 = .ok (.iload 4, 2) := by decide +kernel
theorem dL_law_676 : decode cL_law 676 = .ok (.iconst 3, 1) := by decide +kernel
theorem dL_law_677 : decode cL_law 677 = .ok (.iadd, 1) := by decide +kernel
theorem dL_law_678 : decode cL_law 678 = .ok (.iaload, 1) := by decide +kernel
theorem dL_law_679 : decode cL_law 679 = .ok (.invokevirtual 110, 3) := by decide +kernel
theorem dL_law_682 : decode cL_law 682 = .ok (.istore 6, 2) := by decide +kernel
theorem dL_law_684 : decode cL_law 684 = .ok (.aload_n 2, 1) := by decide +kernel
theorem dL_law_685 : decode cL_law 685 = .ok (.invokevirtual 77, 3) := by decide +kernel
theorem dL_law_688 : decode cL_law 688 = .ok (.iload 5, 2) := by decide +kernel
theorem dL_law_690 : decode cL_law 690 = .ok (.if_icmp .eq 5, 3) := by decide +kernel
theorem dL_law_693 : decode cL_law 693 = .ok (.iconst 0, 1) := by decide +kernel
theorem dL_law_694 : decode cL_law 694 = .ok (.ireturn, 1) := by decide +kernel
theorem dL_law_695 : decode cL_law 695 = .ok (.iload 5, 2) := by decide +kernel
theorem dL_law_697 : decode cL_law 697 = .ok (.ifCond .ne 15, 3) := by decide +kernel
theorem dL_law_700 : decode cL_law 700 = .ok (.aload_n 3, 1) := by decide +kernel
theorem dL_law_701 : decode cL_law 701 = .ok (.iconst 0, 1) := by decide +kernel
theorem dL_law_702 : decode cL_law 702 = .ok (.laload, 1) := by decide +kernel
theorem dL_law_703 : decode cL_law 703 = .ok (.iload 6, 2) := by decide +kernel
theorem dL_law_705 : decode cL_law 705 = .ok (.i2l, 1) := by decide +kernel
theorem dL_law_706 : decode cL_law 706 = .ok (.lcmp, 1) := by decide +kernel
theorem dL_law_707 : decode cL_law 707 = .ok (.ifCond .eq 5, 3) := by decide +kernel
theorem dL_law_710 : decode cL_law 710 = .ok (.iconst 0, 1) := by decide +kernel
theorem dL_law_711 : decode cL_law 711 = .ok (.ireturn, 1) := by decide +kernel
theorem dL_law_712 : decode cL_law 712 = .ok (.goto 474, 3) := by decide +kernel
theorem dL_law_715 : decode cL_law 715 = .ok (.aload_n 1, 1) := by decide +kernel
theorem dL_law_716 : decode cL_law 716 = .ok (.aload_n 0, 1) := by decide +kernel
theorem dL_law_717 : decode cL_law 717 = .ok (.iload 4, 2) := by decide +kernel
theorem dL_law_719 : decode cL_law 719 = .ok (.iconst 1, 1) := by decide +kernel
theorem dL_law_720 : decode cL_law 720 = .ok (.iadd, 1) := by decide +kernel
theorem dL_law_721 : decode cL_law 721 = .ok (.iaload, 1) := by decide +kernel
theorem dL_law_722 : decode cL_law 722 = .ok (.aload_n 0, 1) := by decide +kernel
theorem dL_law_723 : decode cL_law 723 = .ok (.iload 4, 2) := by decide +kernel
theorem dL_law_725 : decode cL_law 725 = .ok (.iconst 2, 1) := by decide +kernel
theorem dL_law_726 : decode cL_law 726 = .ok (.iadd, 1) := by decide +kernel
theorem dL_law_727 : decode cL_law 727 = .ok (.iaload, 1) := by decide +kernel
theorem dL_law_728 : decode cL_law 728 = .ok (.aload_n 3, 1) := by decide +kernel
theorem dL_law_729 : decode cL_law 729 = .ok (.invokestatic 111, 3) := by decide +kernel
theorem dL_law_732 : decode cL_law 732 = .ok (.istore 5, 2) := by decide +kernel
theorem dL_law_734 : decode cL_law 734 = .ok (.aload_n 2, 1) := by decide +kernel
theorem dL_law_735 : decode cL_law 735 = .ok (.aload_n 0, 1) := by decide +kernel
theorem dL_law_736 : decode cL_law 736 = .ok (.iload 4, 2) := by decide +kernel
theorem dL_law_738 : decode cL_law 738 = .ok (.iconst 1, 1) := by decide +kernel
theorem dL_law_739 : decode cL_law 739 = .ok (.iadd, 1) := by decide +kernel
theorem dL_law_740 : decode cL_law 740 = .ok (.iaload, 1) := by decide +kernel
theorem dL_law_741 : decode cL_law 741 = .ok (.aload_n 0, 1) := by decide +kernel
theorem dL_law_742 : decode cL_law 742 = .ok (.iload 4, 2) := by decide +kernel
theorem dL_law_744 : decode cL_law 744 = .ok (.iconst 2, 1) := by decide +kernel
theorem dL_law_745 : decode cL_law 745 = .ok (.iadd, 1) := by decide +kernel
theorem dL_law_746 : decode cL_law 746 = .ok (.iaload, 1) := by decide +kernel
theorem dL_law_747 : decode cL_law 747 = .ok (.invokevirtual 114, 3) := by decide +kernel
theorem dL_law_750 : decode cL_law 750 = .ok (.istore 6, 2) := by decide +kernel
theorem dL_law_752 : decode cL_law 752 = .ok (.aload_n 2, 1) := by decide +kernel
theorem dL_law_753 : decode cL_law 753 = .ok (.invokevirtual 77, 3) := by decide +kernel
theorem dL_law_756 : decode cL_law 756 = .ok (.iload 5, 2) := by decide +kernel
theorem dL_law_758 : decode cL_law 758 = .ok (.if_icmp .eq 5, 3) := by decide +kernel
theorem dL_law_761 : decode cL_law 761 = .ok (.iconst 0, 1) := by decide +kernel
theorem dL_law_762 : decode cL_law 762 = .ok (.ireturn, 1) := by decide +kernel
theorem dL_law_763 : decode cL_law 763 = .ok (.iload 5, 2) := by decide +kernel
theorem dL_law_765 : decode cL_law 765 = .ok (.ifCond .ne 15, 3) := by decide +kernel
theorem dL_law_768 : decode cL_law 768 = .ok (.aload_n 3, 1) := by decide +kernel
theorem dL_law_769 : decode cL_law 769 = .ok (.iconst 0, 1) := by decide +kernel
theorem dL_law_770 : decode cL_law 770 = .ok (.laload, 1) := by decide +kernel
theorem dL_law_771 : decode cL_law 771 = .ok (.iload 6, 2) := by decide +kernel
theorem dL_law_773 : decode cL_law 773 = .ok (.i2l, 1) := by decide +kernel
theorem dL_law_774 : decode cL_law 774 = .ok (.lcmp, 1) := by decide +kernel
theorem dL_law_775 : decode cL_law 775 = .ok (.ifCond .eq 5, 3) := by decide +kernel
theorem dL_law_778 : decode cL_law 778 = .ok (.iconst 0, 1) := by decide +kernel
theorem dL_law_779 : decode cL_law 779 = .ok (.ireturn, 1) := by decide +kernel
theorem dL_law_780 : decode cL_law 780 = .ok (.goto 406, 3) := by decide +kernel
theorem dL_law_783 : decode cL_law 783 = .ok (.aload_n 1, 1) := by decide +kernel
theorem dL_law_784 : decode cL_law 784 = .ok (.aload_n 0, 1) := by decide +kernel
theorem dL_law_785 : decode cL_law 785 = .ok (.iload 4, 2) := by decide +kernel
theorem dL_law_787 : decode cL_law 787 = .ok (.iconst 1, 1) := by decide +kernel
theorem dL_law_788 : decode cL_law 788 = .ok (.iadd, 1) := by decide +kernel
theorem dL_law_789 : decode cL_law 789 = .ok (.iaload, 1) := by decide +kernel
theorem dL_law_790 : decode cL_law 790 = .ok (.aload_n 0, 1) := by decide +kernel
theorem dL_law_791 : decode cL_law 791 = .ok (.iload 4, 2) := by decide +kernel
theorem dL_law_793 : decode cL_law 793 = .ok (.iconst 2, 1) := by decide +kernel
theorem dL_law_794 : decode cL_law 794 = .ok (.iadd, 1) := by decide +kernel
theorem dL_law_795 : decode cL_law 795 = .ok (.iaload, 1) := by decide +kernel
theorem dL_law_796 : decode cL_law 796 = .ok (.invokevirtual 115, 3) := by decide +kernel
theorem dL_law_799 : decode cL_law 799 = .ok (.aload_n 2, 1) := by decide +kernel
theorem dL_law_800 : decode cL_law 800 = .ok (.aload_n 0, 1) := by decide +kernel
theorem dL_law_801 : decode cL_law 801 = .ok (.iload 4, 2) := by decide +kernel
theorem dL_law_803 : decode cL_law 803 = .ok (.iconst 1, 1) := by decide +kernel
theorem dL_law_804 : decode cL_law 804 = .ok (.iadd, 1) := by decide +kernel
theorem dL_law_805 : decode cL_law 805 = .ok (.iaload, 1) := by decide +kernel
theorem dL_law_806 : decode cL_law 806 = .ok (.aload_n 0, 1) := by decide +kernel
theorem dL_law_807 : decode cL_law 807 = .ok (.iload 4, 2) := by decide +kernel
theorem dL_law_809 : decode cL_law 809 = .ok (.iconst 2, 1) := by decide +kernel
theorem dL_law_810 : decode cL_law 810 = .ok (.iadd, 1) := by decide +kernel
theorem dL_law_811 : decode cL_law 811 = .ok (.iaload, 1) := by decide +kernel
theorem dL_law_812 : decode cL_law 812 = .ok (.invokevirtual 118, 3) := by decide +kernel
theorem dL_law_815 : decode cL_law 815 = .ok (.if_icmp .eq 371, 3) := by decide +kernel
theorem dL_law_818 : decode cL_law 818 = .ok (.iconst 0, 1) := by decide +kernel
theorem dL_law_819 : decode cL_law 819 = .ok (.ireturn, 1) := by decide +kernel
theorem dL_law_820 : decode cL_law 820 = .ok (.aload_n 1, 1) := by decide +kernel
theorem dL_law_821 : decode cL_law 821 = .ok (.aload_n 0, 1) := by decide +kernel
theorem dL_law_822 : decode cL_law 822 = .ok (.iload 4, 2) := by decide +kernel
theorem dL_law_824 : decode cL_law 824 = .ok (.iconst 1, 1) := by decide +kernel
theorem dL_law_825 : decode cL_law 825 = .ok (.iadd, 1) := by decide +kernel
theorem dL_law_826 : decode cL_law 826 = .ok (.iaload, 1) := by decide +kernel
theorem dL_law_827 : decode cL_law 827 = .ok (.aload_n 0, 1) := by decide +kernel
theorem dL_law_828 : decode cL_law 828 = .ok (.iload 4, 2) := by decide +kernel
theorem dL_law_830 : decode cL_law 830 = .ok (.iconst 2, 1) := by decide +kernel
theorem dL_law_831 : decode cL_law 831 = .ok (.iadd, 1) := by decide +kernel
theorem dL_law_832 : decode cL_law 832 = .ok (.iaload, 1) := by decide +kernel
theorem dL_law_833 : decode cL_law 833 = .ok (.aload_n 3, 1) := by decide +kernel
theorem dL_law_834 : decode cL_law 834 = .ok (.invokestatic 119, 3) := by decide +kernel
theorem dL_law_837 : decode cL_law 837 = .ok (.istore 5, 2) := by decide +kernel
theorem dL_law_839 : decode cL_law 839 = .ok (.aload_n 2, 1) := by decide +kernel
theorem dL_law_840 : decode cL_law 840 = .ok (.aload_n 0, 1) := by decide +kernel
theorem dL_law_841 : decode cL_law 841 = .ok (.iload 4, 2) := by decide +kernel
theorem dL_law_843 : decode cL_law 843 = .ok (.iconst 1, 1) := by decide +kernel
theorem dL_law_844 : decode cL_law 844 = .ok (.iadd, 1) := by decide +kernel
theorem dL_law_845 : decode cL_law 845 = .ok (.iaload, 1) := by decide +kernel
theorem dL_law_846 : decode cL_law 846 = .ok (.aload_n 0, 1) := by decide +kernel
theorem dL_law_847 : decode cL_law 847 = .ok (.iload 4, 2) := by decide +kernel
theorem dL_law_849 : decode cL_law 849 = .ok (.iconst 2, 1) := by decide +kernel
theorem dL_law_850 : decode cL_law 850 = .ok (.iadd, 1) := by decide +kernel
theorem dL_law_851 : decode cL_law 851 = .ok (.iaload, 1) := by decide +kernel
theorem dL_law_852 : decode cL_law 852 = .ok (.invokevirtual 121, 3) := by decide +kernel
theorem dL_law_855 : decode cL_law 855 = .ok (.istore 6, 2) := by decide +kernel
theorem dL_law_857 : decode cL_law 857 = .ok (.aload_n 2, 1) := by decide +kernel
theorem dL_law_858 : decode cL_law 858 = .ok (.invokevirtual 77, 3) := by decide +kernel
theorem dL_law_861 : decode cL_law 861 = .ok (.iload 5, 2) := by decide +kernel
theorem dL_law_863 : decode cL_law 863 = .ok (.if_icmp .eq 5, 3) := by decide +kernel
theorem dL_law_866 : decode cL_law 866 = .ok (.iconst 0, 1) := by decide +kernel
theorem dL_law_867 : decode cL_law 867 = .ok (.ireturn, 1) := by decide +kernel
theorem dL_law_868 : decode cL_law 868 = .ok (.iload 5, 2) := by decide +kernel
theorem dL_law_870 : decode cL_law 870 = .ok (.ifCond .ne 15, 3) := by decide +kernel
theorem dL_law_873 : decode cL_law 873 = .ok (.aload_n 3, 1) := by decide +kernel
theorem dL_law_874 : decode cL_law 874 = .ok (.iconst 0, 1) := by decide +kernel
theorem dL_law_875 : decode cL_law 875 = .ok (.laload, 1) := by decide +kernel
theorem dL_law_876 : decode cL_law 876 = .ok (.iload 6, 2) := by decide +kernel
theorem dL_law_878 : decode cL_law 878 = .ok (.i2l, 1) := by decide +kernel
theorem dL_law_879 : decode cL_law 879 = .ok (.lcmp, 1) := by decide +kernel
theorem dL_law_880 : decode cL_law 880 = .ok (.ifCond .eq 5, 3) := by decide +kernel
theorem dL_law_883 : decode cL_law 883 = .ok (.iconst 0, 1) := by decide +kernel
theorem dL_law_884 : decode cL_law 884 = .ok (.ireturn, 1) := by decide +kernel
theorem dL_law_885 : decode cL_law 885 = .ok (.goto 301, 3) := by decide +kernel
theorem dL_law_888 : decode cL_law 888 = .ok (.aload_n 1, 1) := by decide +kernel
theorem dL_law_889 : decode cL_law 889 = .ok (.aload_n 0, 1) := by decide +kernel
theorem dL_law_890 : decode cL_law 890 = .ok (.iload 4, 2) := by decide +kernel
theorem dL_law_892 : decode cL_law 892 = .ok (.iconst 1, 1) := by decide +kernel
theorem dL_law_893 : decode cL_law 893 = .ok (.iadd, 1) := by decide +kernel
theorem dL_law_894 : decode cL_law 894 = .ok (.iaload, 1) := by decide +kernel
theorem dL_law_895 : decode cL_law 895 = .ok (.aload_n 0, 1) := by decide +kernel
theorem dL_law_896 : decode cL_law 896 = .ok (.iload 4, 2) := by decide +kernel
theorem dL_law_898 : decode cL_law 898 = .ok (.iconst 2, 1) := by decide +kernel
theorem dL_law_899 : decode cL_law 899 = .ok (.iadd, 1) := by decide +kernel
theorem dL_law_900 : decode cL_law 900 = .ok (.iaload, 1) := by decide +kernel
theorem dL_law_901 : decode cL_law 901 = .ok (.aload_n 3, 1) := by decide +kernel
theorem dL_law_902 : decode cL_law 902 = .ok (.invokestatic 122, 3) := by decide +kernel
theorem dL_law_905 : decode cL_law 905 = .ok (.istore 5, 2) := by decide +kernel
theorem dL_law_907 : decode cL_law 907 = .ok (.aload_n 2, 1) := by decide +kernel
theorem dL_law_908 : decode cL_law 908 = .ok (.aload_n 0, 1) := by decide +kernel
theorem dL_law_909 : decode cL_law 909 = .ok (.iload 4, 2) := by decide +kernel
theorem dL_law_911 : decode cL_law 911 = .ok (.iconst 1, 1) := by decide +kernel
theorem dL_law_912 : decode cL_law 912 = .ok (.iadd, 1) := by decide +kernel
theorem dL_law_913 : decode cL_law 913 = .ok (.iaload, 1) := by decide +kernel
theorem dL_law_914 : decode cL_law 914 = .ok (.aload_n 0, 1) := by decide +kernel
theorem dL_law_915 : decode cL_law 915 = .ok (.iload 4, 2) := by decide +kernel
theorem dL_law_917 : decode cL_law 917 = .ok (.iconst 2, 1) := by decide +kernel
theorem dL_law_918 : decode cL_law 918 = .ok (.iadd, 1) := by decide +kernel
theorem dL_law_919 : decode cL_law 919 = .ok (.iaload, 1) := by decide +kernel
theorem dL_law_920 : decode cL_law 920 = .ok (.invokevirtual 124, 3) := by decide +kernel
theorem dL_law_923 : decode cL_law 923 = .ok (.istore 6, 2) := by decide +kernel
theorem dL_law_925 : decode cL_law 925 = .ok (.aload_n 2, 1) := by decide +kernel
theorem dL_law_926 : decode cL_law 926 = .ok (.invokevirtual 77, 3) := by decide +kernel
theorem dL_law_929 : decode cL_law 929 = .ok (.iload 5, 2) := by decide +kernel
theorem dL_law_931 : decode cL_law 931 = .ok (.if_icmp .eq 5, 3) := by decide +kernel
theorem dL_law_934 : decode cL_law 934 = .ok (.iconst 0, 1) := by decide +kernel
theorem dL_law_935 : decode cL_law 935 = .ok (.ireturn, 1) := by decide +kernel
theorem dL_law_936 : decode cL_law 936 = .ok (.iload 5, 2) := by decide +kernel
theorem dL_law_938 : decode cL_law 938 = .ok (.ifCond .ne 15, 3) := by decide +kernel
theorem dL_law_941 : decode cL_law 941 = .ok (.aload_n 3, 1) := by decide +kernel
theorem dL_law_942 : decode cL_law 942 = .ok (.iconst 0, 1) := by decide +kernel
theorem dL_law_943 : decode cL_law 943 = .ok (.laload, 1) := by decide +kernel
theorem dL_law_944 : decode cL_law 944 = .ok (.iload 6, 2) := by decide +kernel
theorem dL_law_946 : decode cL_law 946 = .ok (.i2l, 1) := by decide +kernel
theorem dL_law_947 : decode cL_law 947 = .ok (.lcmp, 1) := by decide +kernel
theorem dL_law_948 : decode cL_law 948 = .ok (.ifCond .eq 5, 3) := by decide +kernel
theorem dL_law_951 : decode cL_law 951 = .ok (.iconst 0, 1) := by decide +kernel
theorem dL_law_952 : decode cL_law 952 = .ok (.ireturn, 1) := by decide +kernel
theorem dL_law_953 : decode cL_law 953 = .ok (.goto 233, 3) := by decide +kernel
theorem dL_law_956 : decode cL_law 956 = .ok (.aload_n 1, 1) := by decide +kernel
theorem dL_law_957 : decode cL_law 957 = .ok (.aload_n 0, 1) := by decide +kernel
theorem dL_law_958 : decode cL_law 958 = .ok (.iload 4, 2) := by decide +kernel
theorem dL_law_960 : decode cL_law 960 = .ok (.iconst 1, 1) := by decide +kernel
theorem dL_law_961 : decode cL_law 961 = .ok (.iadd, 1) := by decide +kernel
theorem dL_law_962 : decode cL_law 962 = .ok (.iaload, 1) := by decide +kernel
theorem dL_law_963 : decode cL_law 963 = .ok (.invokevirtual 125, 3) := by decide +kernel
theorem dL_law_966 : decode cL_law 966 = .ok (.aload_n 2, 1) := by decide +kernel
theorem dL_law_967 : decode cL_law 967 = .ok (.aload_n 0, 1) := by decide +kernel
theorem dL_law_968 : decode cL_law 968 = .ok (.iload 4, 2) := by decide +kernel
theorem dL_law_970 : decode cL_law 970 = .ok (.iconst 1, 1) := by decide +kernel
theorem dL_law_971 : decode cL_law 971 = .ok (.iadd, 1) := by decide +kernel
theorem dL_law_972 : decode cL_law 972 = .ok (.iaload, 1) := by decide +kernel
theorem dL_law_973 : decode cL_law 973 = .ok (.invokevirtual 128, 3) := by decide +kernel
theorem dL_law_976 : decode cL_law 976 = .ok (.if_icmp .eq 210, 3) := by decide +kernel
theorem dL_law_979 : decode cL_law 979 = .ok (.iconst 0, 1) := by decide +kernel
theorem dL_law_980 : decode cL_law 980 = .ok (.ireturn, 1) := by decide +kernel
theorem dL_law_981 : decode cL_law 981 = .ok (.aload_n 1, 1) := by decide +kernel
theorem dL_law_982 : decode cL_law 982 = .ok (.aload_n 0, 1) := by decide +kernel
theorem dL_law_983 : decode cL_law 983 = .ok (.iload 4, 2) := by decide +kernel
theorem dL_law_985 : decode cL_law 985 = .ok (.iconst 1, 1) := by decide +kernel
theorem dL_law_986 : decode cL_law 986 = .ok (.iadd, 1) := by decide +kernel
theorem dL_law_987 : decode cL_law 987 = .ok (.iaload, 1) := by decide +kernel
theorem dL_law_988 : decode cL_law 988 = .ok (.aload_n 3, 1) := by decide +kernel
theorem dL_law_989 : decode cL_law 989 = .ok (.invokestatic 129, 3) := by decide +kernel
theorem dL_law_992 : decode cL_law 992 = .ok (.istore 5, 2) := by decide +kernel
theorem dL_law_994 : decode cL_law 994 = .ok (.aload_n 2, 1) := by decide +kernel
theorem dL_law_995 : decode cL_law 995 = .ok (.aload_n 0, 1) := by decide +kernel
theorem dL_law_996 : decode cL_law 996 = .ok (.iload 4, 2) := by decide +kernel
theorem dL_law_998 : decode cL_law 998 = .ok (.iconst 1, 1) := by decide +kernel
theorem dL_law_999 : decode cL_law 999 = .ok (.iadd, 1) := by decide +kernel
theorem dL_law_1000 : decode cL_law 1000 = .ok (.iaload, 1) := by decide +kernel
theorem dL_law_1001 : decode cL_law 1001 = .ok (.invokevirtual 131, 3) := by decide +kernel
theorem dL_law_1004 : decode cL_law 1004 = .ok (.istore 6, 2) := by decide +kernel
theorem dL_law_1006 : decode cL_law 1006 = .ok (.aload_n 2, 1) := by decide +kernel
theorem dL_law_1007 : decode cL_law 1007 = .ok (.invokevirtual 77, 3) := by decide +kernel
theorem dL_law_1010 : decode cL_law 1010 = .ok (.iload 5, 2) := by decide +kernel
theorem dL_law_1012 : decode cL_law 1012 = .ok (.if_icmp .eq 5, 3) := by decide +kernel
theorem dL_law_1015 : decode cL_law 1015 = .ok (.iconst 0, 1) := by decide +kernel
theorem dL_law_1016 : decode cL_law 1016 = .ok (.ireturn, 1) := by decide +kernel
theorem dL_law_1017 : decode cL_law 1017 = .ok (.iload 5, 2) := by decide +kernel
theorem dL_law_1019 : decode cL_law 1019 = .ok (.ifCond .ne 15, 3) := by decide +kernel
theorem dL_law_1022 : decode cL_law 1022 = .ok (.aload_n 3, 1) := by decide +kernel
theorem dL_law_1023 : decode cL_law 1023 = .ok (.iconst 0, 1) := by decide +kernel
theorem dL_law_1024 : decode cL_law 1024 = .ok (.laload, 1) := by decide +kernel
theorem dL_law_1025 : decode cL_law 1025 = .ok (.iload 6, 2) := by decide +kernel
theorem dL_law_1027 : decode cL_law 1027 = .ok (.i2l, 1) := by decide +kernel
theorem dL_law_1028 : decode cL_law 1028 = .ok (.lcmp, 1) := by decide +kernel
theorem dL_law_1029 : decode cL_law 1029 = .ok (.ifCond .eq 5, 3) := by decide +kernel
theorem dL_law_1032 : decode cL_law 1032 = .ok (.iconst 0, 1) := by decide +kernel
theorem dL_law_1033 : decode cL_law 1033 = .ok (.ireturn, 1) := by decide +kernel
theorem dL_law_1034 : decode cL_law 1034 = .ok (.goto 152, 3) := by decide +kernel
theorem dL_law_1037 : decode cL_law 1037 = .ok (.aload_n 1, 1) := by decide +kernel
theorem dL_law_1038 : decode cL_law 1038 = .ok (.aload_n 0, 1) := by decide +kernel
theorem dL_law_1039 : decode cL_law 1039 = .ok (.iload 4, 2) := by decide +kernel
theorem dL_law_1041 : decode cL_law 1041 = .ok (.iconst 1, 1) := by decide +kernel
theorem dL_law_1042 : decode cL_law 1042 = .ok (.iadd, 1) := by decide +kernel
theorem dL_law_1043 : decode cL_law 1043 = .ok (.iaload, 1) := by decide +kernel
theorem dL_law_1044 : decode cL_law 1044 = .ok (.aload_n 3, 1) := by decide +kernel
theorem dL_law_1045 : decode cL_law 1045 = .ok (.invokestatic 132, 3) := by decide +kernel
theorem dL_law_1048 : decode cL_law 1048 = .ok (.istore 5, 2) := by decide +kernel
theorem dL_law_1050 : decode cL_law 1050 = .ok (.aload_n 2, 1) := by decide +kernel
theorem dL_law_1051 : decode cL_law 1051 = .ok (.aload_n 0, 1) := by decide +kernel
theorem dL_law_1052 : decode cL_law 1052 = .ok (.iload 4, 2) := by decide +kernel
theorem dL_law_1054 : decode cL_law 1054 = .ok (.iconst 1, 1) := by decide +kernel
theorem dL_law_1055 : decode cL_law 1055 = .ok (.iadd, 1) := by decide +kernel
theorem dL_law_1056 : decode cL_law 1056 = .ok (.iaload, 1) := by decide +kernel
theorem dL_law_1057 : decode cL_law 1057 = .ok (.invokevirtual 134, 3) := by decide +kernel
theorem dL_law_1060 : decode cL_law 1060 = .ok (.istore 6, 2) := by decide +kernel
theorem dL_law_1062 : decode cL_law 1062 = .ok (.aload_n 2, 1) := by decide +kernel
theorem dL_law_1063 : decode cL_law 1063 = .ok (.invokevirtual 77, 3) := by decide +kernel
theorem dL_law_1066 : decode cL_law 1066 = .ok (.iload 5, 2) := by decide +kernel
theorem dL_law_1068 : decode cL_law 1068 = .ok (.if_icmp .eq 5, 3) := by decide +kernel
theorem dL_law_1071 : decode cL_law 1071 = .ok (.iconst 0, 1) := by decide +kernel
theorem dL_law_1072 : decode cL_law 1072 = .ok (.ireturn, 1) := by decide +kernel
theorem dL_law_1073 : decode cL_law 1073 = .ok (.iload 5, 2) := by decide +kernel
theorem dL_law_1075 : decode cL_law 1075 = .ok (.ifCond .ne 15, 3) := by decide +kernel
theorem dL_law_1078 : decode cL_law 1078 = .ok (.aload_n 3, 1) := by decide +kernel
theorem dL_law_1079 : decode cL_law 1079 = .ok (.iconst 0, 1) := by decide +kernel
theorem dL_law_1080 : decode cL_law 1080 = .ok (.laload, 1) := by decide +kernel
theorem dL_law_1081 : decode cL_law 1081 = .ok (.iload 6, 2) := by decide +kernel
theorem dL_law_1083 : decode cL_law 1083 = .ok (.i2l, 1) := by decide +kernel
theorem dL_law_1084 : decode cL_law 1084 = .ok (.lcmp, 1) := by decide +kernel
theorem dL_law_1085 : decode cL_law 1085 = .ok (.ifCond .eq 5, 3) := by decide +kernel
theorem dL_law_1088 : decode cL_law 1088 = .ok (.iconst 0, 1) := by decide +kernel
theorem dL_law_1089 : decode cL_law 1089 = .ok (.ireturn, 1) := by decide +kernel
theorem dL_law_1090 : decode cL_law 1090 = .ok (.goto 96, 3) := by decide +kernel
theorem dL_law_1093 : decode cL_law 1093 = .ok (.aload_n 1, 1) := by decide +kernel
theorem dL_law_1094 : decode cL_law 1094 = .ok (.aload_n 0, 1) := by decide +kernel
theorem dL_law_1095 : decode cL_law 1095 = .ok (.iload 4, 2) := by decide +kernel
theorem dL_law_1097 : decode cL_law 1097 = .ok (.iconst 1, 1) := by decide +kernel
theorem dL_law_1098 : decode cL_law 1098 = .ok (.iadd, 1) := by decide +kernel
theorem dL_law_1099 : decode cL_law 1099 = .ok (.iaload, 1) := by decide +kernel
theorem dL_law_1100 : decode cL_law 1100 = .ok (.aload_n 0, 1) := by decide +kernel
theorem dL_law_1101 : decode cL_law 1101 = .ok (.iload 4, 2) := by decide +kernel
theorem dL_law_1103 : decode cL_law 1103 = .ok (.iconst 2, 1) := by decide +kernel
theorem dL_law_1104 : decode cL_law 1104 = .ok (.iadd, 1) := by decide +kernel
theorem dL_law_1105 : decode cL_law 1105 = .ok (.iaload, 1) := by decide +kernel
theorem dL_law_1106 : decode cL_law 1106 = .ok (.aload_n 3, 1) := by decide +kernel
theorem dL_law_1107 : decode cL_law 1107 = .ok (.invokestatic 135, 3) := by decide +kernel
theorem dL_law_1110 : decode cL_law 1110 = .ok (.istore 5, 2) := by decide +kernel
theorem dL_law_1112 : decode cL_law 1112 = .ok (.aload_n 2, 1) := by decide +kernel
theorem dL_law_1113 : decode cL_law 1113 = .ok (.aload_n 0, 1) := by decide +kernel
theorem dL_law_1114 : decode cL_law 1114 = .ok (.iload 4, 2) := by decide +kernel
theorem dL_law_1116 : decode cL_law 1116 = .ok (.iconst 1, 1) := by decide +kernel
theorem dL_law_1117 : decode cL_law 1117 = .ok (.iadd, 1) := by decide +kernel
theorem dL_law_1118 : decode cL_law 1118 = .ok (.iaload, 1) := by decide +kernel
theorem dL_law_1119 : decode cL_law 1119 = .ok (.aload_n 0, 1) := by decide +kernel
theorem dL_law_1120 : decode cL_law 1120 = .ok (.iload 4, 2) := by decide +kernel
theorem dL_law_1122 : decode cL_law 1122 = .ok (.iconst 2, 1) := by decide +kernel
theorem dL_law_1123 : decode cL_law 1123 = .ok (.iadd, 1) := by decide +kernel
theorem dL_law_1124 : decode cL_law 1124 = .ok (.iaload, 1) := by decide +kernel
theorem dL_law_1125 : decode cL_law 1125 = .ok (.invokevirtual 137, 3) := by decide +kernel
theorem dL_law_1128 : decode cL_law 1128 = .ok (.istore 6, 2) := by decide +kernel
theorem dL_law_1130 : decode cL_law 1130 = .ok (.aload_n 2, 1) := by decide +kernel
theorem dL_law_1131 : decode cL_law 1131 = .ok (.invokevirtual 77, 3) := by decide +kernel
theorem dL_law_1134 : decode cL_law 1134 = .ok (.iload 5, 2) := by decide +kernel
theorem dL_law_1136 : decode cL_law 1136 = .ok (.if_icmp .eq 5, 3) := by decide +kernel
theorem dL_law_1139 : decode cL_law 1139 = .ok (.iconst 0, 1) := by decide +kernel
theorem dL_law_1140 : decode cL_law 1140 = .ok (.ireturn, 1) := by decide +kernel
theorem dL_law_1141 : decode cL_law 1141 = .ok (.iload 5, 2) := by decide +kernel
theorem dL_law_1143 : decode cL_law 1143 = .ok (.ifCond .ne 15, 3) := by decide +kernel
theorem dL_law_1146 : decode cL_law 1146 = .ok (.aload_n 3, 1) := by decide +kernel
theorem dL_law_1147 : decode cL_law 1147 = .ok (.iconst 0, 1) := by decide +kernel
theorem dL_law_1148 : decode cL_law 1148 = .ok (.laload, 1) := by decide +kernel
theorem dL_law_1149 : decode cL_law 1149 = .ok (.iload 6, 2) := by decide +kernel
theorem dL_law_1151 : decode cL_law 1151 = .ok (.i2l, 1) := by decide +kernel
theorem dL_law_1152 : decode cL_law 1152 = .ok (.lcmp, 1) := by decide +kernel
theorem dL_law_1153 : decode cL_law 1153 = .ok (.ifCond .eq 5, 3) := by decide +kernel
theorem dL_law_1156 : decode cL_law 1156 = .ok (.iconst 0, 1) := by decide +kernel
theorem dL_law_1157 : decode cL_law 1157 = .ok (.ireturn, 1) := by decide +kernel
theorem dL_law_1158 : decode cL_law 1158 = .ok (.goto 28, 3) := by decide +kernel
theorem dL_law_1161 : decode cL_law 1161 = .ok (.aload_n 1, 1) := by decide +kernel
theorem dL_law_1162 : decode cL_law 1162 = .ok (.aload_n 0, 1) := by decide +kernel
theorem dL_law_1163 : decode cL_law 1163 = .ok (.iload 4, 2) := by decide +kernel
theorem dL_law_1165 : decode cL_law 1165 = .ok (.iconst 1, 1) := by decide +kernel
theorem dL_law_1166 : decode cL_law 1166 = .ok (.iadd, 1) := by decide +kernel
theorem dL_law_1167 : decode cL_law 1167 = .ok (.iaload, 1) := by decide +kernel
theorem dL_law_1168 : decode cL_law 1168 = .ok (.invokevirtual 138, 3) := by decide +kernel
theorem dL_law_1171 : decode cL_law 1171 = .ok (.aload_n 2, 1) := by decide +kernel
theorem dL_law_1172 : decode cL_law 1172 = .ok (.aload_n 0, 1) := by decide +kernel
theorem dL_law_1173 : decode cL_law 1173 = .ok (.iload 4, 2) := by decide +kernel
theorem dL_law_1175 : decode cL_law 1175 = .ok (.iconst 1, 1) := by decide +kernel
theorem dL_law_1176 : decode cL_law 1176 = .ok (.iadd, 1) := by decide +kernel
theorem dL_law_1177 : decode cL_law 1177 = .ok (.iaload, 1) := by decide +kernel
theorem dL_law_1178 : decode cL_law 1178 = .ok (.invokevirtual 141, 3) := by decide +kernel
theorem dL_law_1181 : decode cL_law 1181 = .ok (.if_icmp .eq 5, 3) := by decide +kernel
theorem dL_law_1184 : decode cL_law 1184 = .ok (.iconst 0, 1) := by decide +kernel
theorem dL_law_1185 : decode cL_law 1185 = .ok (.ireturn, 1) := by decide +kernel
theorem dL_law_1186 : decode cL_law 1186 = .ok (.iinc 4 7, 3) := by decide +kernel
theorem dL_law_1189 : decode cL_law 1189 = .ok (.goto (-1166), 3) := by decide +kernel
theorem dL_law_1192 : decode cL_law 1192 = .ok (.iconst 1, 1) := by decide +kernel
theorem dL_law_1193 : decode cL_law 1193 = .ok (.ireturn, 1) := by decide +kernel
theorem m_2045 : (Jvm.Cond.constantLong "CoreHouseLaw" (59 : Nat) (4294967295 : Int64)) ∈ gw := mem_tb (List.mem_append_right _ (List.mem_append_right _ (List.mem_append_right _ (List.mem_append_right _ (List.mem_append_right _ (List.mem_append_right _ (List.mem_append_right _ (List.mem_append_right _ (List.mem_of_getElem? (l := tables_1_9) (i := 2) rfl))))))))) rfl
theorem m_525 : (Jvm.Cond.methodLink "CoreHouseLaw" (61 : Nat) ({ cls := "CoreHouse", name := "type", desc := "(JI)Z" } : Jvm.MethodName)) ∈ gw := mem_tb (List.mem_append_right _ (List.mem_append_left _ (List.mem_of_getElem? (l := tables_1_2) (i := 162) rfl))) rfl
theorem m_526 : (Jvm.Cond.instanceMethod ({ cls := "CoreHouse", name := "type", desc := "(JI)Z" } : Jvm.MethodName)) ∈ gw := mem_tb (List.mem_append_right _ (List.mem_append_left _ (List.mem_of_getElem? (l := tables_1_2) (i := 163) rfl))) rfl
theorem m_527 : (Jvm.Cond.selects "CoreHouse" ({ cls := "CoreHouse", name := "type", desc := "(JI)Z" } : Jvm.MethodName) ({ cls := "CoreHouse", name := "type", desc := "(JI)Z" } : Jvm.MethodName)) ∈ gw := mem_tb (List.mem_append_right _ (List.mem_append_left _ (List.mem_of_getElem? (l := tables_1_2) (i := 164) rfl))) rfl
theorem m_1642 : (Jvm.Cond.methodLink "CoreHouseLaw" (65 : Nat) ({ cls := "CoreHouseModel", name := "type", desc := "(JI)Z" } : Jvm.MethodName)) ∈ gw := mem_tb (List.mem_append_right _ (List.mem_append_right _ (List.mem_append_right _ (List.mem_append_right _ (List.mem_append_right _ (List.mem_append_right _ (List.mem_append_left _ (List.mem_of_getElem? (l := tables_1_7) (i := 79) rfl)))))))) rfl
theorem m_1643 : (Jvm.Cond.instanceMethod ({ cls := "CoreHouseModel", name := "type", desc := "(JI)Z" } : Jvm.MethodName)) ∈ gw := mem_tb (List.mem_append_right _ (List.mem_append_right _ (List.mem_append_right _ (List.mem_append_right _ (List.mem_append_right _ (List.mem_append_right _ (List.mem_append_left _ (List.mem_of_getElem? (l := tables_1_7) (i := 80) rfl)))))))) rfl
theorem m_1644 : (Jvm.Cond.selects "CoreHouseModel" ({ cls := "CoreHouseModel", name := "type", desc := "(JI)Z" } : Jvm.MethodName) ({ cls := "CoreHouseModel", name := "type", desc := "(JI)Z" } : Jvm.MethodName)) ∈ gw := mem_tb (List.mem_append_right _ (List.mem_append_right _ (List.mem_append_right _ (List.mem_append_right _ (List.mem_append_right _ (List.mem_append_right _ (List.mem_append_left _ (List.mem_of_getElem? (l := tables_1_7) (i := 81) rfl)))))))) rfl
theorem m_534 : (Jvm.Cond.methodLink "CoreHouseLaw" (66 : Nat) ({ cls := "CoreHouse", name := "sizes", desc := "(IIIIII)Z" } : Jvm.MethodName)) ∈ gw := mem_tb (List.mem_append_right _ (List.mem_append_left _ (List.mem_of_getElem? (l := tables_1_2) (i := 171) rfl))) rfl
theorem m_535 : (Jvm.Cond.instanceMethod ({ cls := "CoreHouse", name := "sizes", desc := "(IIIIII)Z" } : Jvm.MethodName)) ∈ gw := mem_tb (List.mem_append_right _ (List.mem_append_left _ (List.mem_of_getElem? (l := tables_1_2) (i := 172) rfl))) rfl
theorem m_536 : (Jvm.Cond.selects "CoreHouse" ({ cls := "CoreHouse", name := "sizes", desc := "(IIIIII)Z" } : Jvm.MethodName) ({ cls := "CoreHouse", name := "sizes", desc := "(IIIIII)Z" } : Jvm.MethodName)) ∈ gw := mem_tb (List.mem_append_right _ (List.mem_append_left _ (List.mem_of_getElem? (l := tables_1_2) (i := 173) rfl))) rfl
theorem m_1647 : (Jvm.Cond.methodLink "CoreHouseLaw" (70 : Nat) ({ cls := "CoreHouseModel", name := "sizes", desc := "(IIIIII)Z" } : Jvm.MethodName)) ∈ gw := mem_tb (List.mem_append_right _ (List.mem_append_right _ (List.mem_append_right _ (List.mem_append_right _ (List.mem_append_right _ (List.mem_append_right _ (List.mem_append_left _ (List.mem_of_getElem? (l := tables_1_7) (i := 84) rfl)))))))) rfl
theorem m_1648 : (Jvm.Cond.instanceMethod ({ cls := "CoreHouseModel", name := "sizes", desc := "(IIIIII)Z" } : Jvm.MethodName)) ∈ gw := mem_tb (List.mem_append_right _ (List.mem_append_right _ (List.mem_append_right _ (List.mem_append_right _ (List.mem_append_right _ (List.mem_append_right _ (List.mem_append_left _ (List.mem_of_getElem? (l := tables_1_7) (i := 85) rfl)))))))) rfl
theorem m_1649 : (Jvm.Cond.selects "CoreHouseModel" ({ cls := "CoreHouseModel", name := "sizes", desc := "(IIIIII)Z" } : Jvm.MethodName) ({ cls := "CoreHouseModel", name := "sizes", desc := "(IIIIII)Z" } : Jvm.MethodName)) ∈ gw := mem_tb (List.mem_append_right _ (List.mem_append_right _ (List.mem_append_right _ (List.mem_append_right _ (List.mem_append_right _ (List.mem_append_right _ (List.mem_append_left _ (List.mem_of_getElem? (l := tables_1_7) (i := 86) rfl)))))))) rfl
theorem m_714 : (Jvm.Cond.methodLink "CoreHouseLaw" (71 : Nat) ({ cls := "CoreHouseLaw", name := "assemble", desc := "(LCoreHouse;[J)I" } : Jvm.MethodName)) ∈ gw := mem_tb (List.mem_append_right _ (List.mem_append_right _ (List.mem_append_left _ (List.mem_of_getElem? (l := tables_1_3) (i := 111) rfl)))) rfl
theorem m_1651 : (Jvm.Cond.methodLink "CoreHouseLaw" (76 : Nat) ({ cls := "CoreHouseModel", name := "assemble", desc := "()I" } : Jvm.MethodName)) ∈ gw := mem_tb (List.mem_append_right _ (List.mem_append_right _ (List.mem_append_right _ (List.mem_append_right _ (List.mem_append_right _ (List.mem_append_right _ (List.mem_append_left _ (List.mem_of_getElem? (l := tables_1_7) (i := 88) rfl)))))))) rfl
theorem m_1652 : (Jvm.Cond.instanceMethod ({ cls := "CoreHouseModel", name := "assemble", desc := "()I" } : Jvm.MethodName)) ∈ gw := mem_tb (List.mem_append_right _ (List.mem_append_right _ (List.mem_append_right _ (List.mem_append_right _ (List.mem_append_right _ (List.mem_append_right _ (List.mem_append_left _ (List.mem_of_getElem? (l := tables_1_7) (i := 89) rfl)))))))) rfl
theorem m_1653 : (Jvm.Cond.selects "CoreHouseModel" ({ cls := "CoreHouseModel", name := "assemble", desc := "()I" } : Jvm.MethodName) ({ cls := "CoreHouseModel", name := "assemble", desc := "()I" } : Jvm.MethodName)) ∈ gw := mem_tb (List.mem_append_right _ (List.mem_append_right _ (List.mem_append_right _ (List.mem_append_right _ (List.mem_append_right _ (List.mem_append_right _ (List.mem_append_left _ (List.mem_of_getElem? (l := tables_1_7) (i := 90) rfl)))))))) rfl
theorem m_1638 : (Jvm.Cond.methodLink "CoreHouseLaw" (77 : Nat) ({ cls := "CoreHouseModel", name := "thrown", desc := "()I" } : Jvm.MethodName)) ∈ gw := mem_tb (List.mem_append_right _ (List.mem_append_right _ (List.mem_append_right _ (List.mem_append_right _ (List.mem_append_right _ (List.mem_append_right _ (List.mem_append_left _ (List.mem_of_getElem? (l := tables_1_7) (i := 75) rfl)))))))) rfl
theorem m_1639 : (Jvm.Cond.instanceMethod ({ cls := "CoreHouseModel", name := "thrown", desc := "()I" } : Jvm.MethodName)) ∈ gw := mem_tb (List.mem_append_right _ (List.mem_append_right _ (List.mem_append_right _ (List.mem_append_right _ (List.mem_append_right _ (List.mem_append_right _ (List.mem_append_left _ (List.mem_of_getElem? (l := tables_1_7) (i := 76) rfl)))))))) rfl
theorem m_1640 : (Jvm.Cond.selects "CoreHouseModel" ({ cls := "CoreHouseModel", name := "thrown", desc := "()I" } : Jvm.MethodName) ({ cls := "CoreHouseModel", name := "thrown", desc := "()I" } : Jvm.MethodName)) ∈ gw := mem_tb (List.mem_append_right _ (List.mem_append_right _ (List.mem_append_right _ (List.mem_append_right _ (List.mem_append_right _ (List.mem_append_right _ (List.mem_append_left _ (List.mem_of_getElem? (l := tables_1_7) (i := 77) rfl)))))))) rfl
theorem m_541 : (Jvm.Cond.methodLink "CoreHouseLaw" (80 : Nat) ({ cls := "CoreHouse", name := "fault", desc := "(I)I" } : Jvm.MethodName)) ∈ gw := mem_tb (List.mem_append_right _ (List.mem_append_left _ (List.mem_of_getElem? (l := tables_1_2) (i := 178) rfl))) rfl
theorem m_542 : (Jvm.Cond.instanceMethod ({ cls := "CoreHouse", name := "fault", desc := "(I)I" } : Jvm.MethodName)) ∈ gw := mem_tb (List.mem_append_right _ (List.mem_append_left _ (List.mem_of_getElem? (l := tables_1_2) (i := 179) rfl))) rfl
theorem m_543 : (Jvm.Cond.selects "CoreHouse" ({ cls := "CoreHouse", name := "fault", desc := "(I)I" } : Jvm.MethodName) ({ cls := "CoreHouse", name := "fault", desc := "(I)I" } : Jvm.MethodName)) ∈ gw := mem_tb (List.mem_append_right _ (List.mem_append_left _ (List.mem_of_getElem? (l := tables_1_2) (i := 180) rfl))) rfl
theorem m_1784 : (Jvm.Cond.methodLink "CoreHouseLaw" (83 : Nat) ({ cls := "CoreHouseModel", name := "fault", desc := "(I)I" } : Jvm.MethodName)) ∈ gw := mem_tb (List.mem_append_right _ (List.mem_append_right _ (List.mem_append_right _ (List.mem_append_right _ (List.mem_append_right _ (List.mem_append_right _ (List.mem_append_left _ (List.mem_of_getElem? (l := tables_1_7) (i := 221) rfl)))))))) rfl
theorem m_1785 : (Jvm.Cond.instanceMethod ({ cls := "CoreHouseModel", name := "fault", desc := "(I)I" } : Jvm.MethodName)) ∈ gw := mem_tb (List.mem_append_right _ (List.mem_append_right _ (List.mem_append_right _ (List.mem_append_right _ (List.mem_append_right _ (List.mem_append_right _ (List.mem_append_left _ (List.mem_of_getElem? (l := tables_1_7) (i := 222) rfl)))))))) rfl
theorem m_1786 : (Jvm.Cond.selects "CoreHouseModel" ({ cls := "CoreHouseModel", name := "fault", desc := "(I)I" } : Jvm.MethodName) ({ cls := "CoreHouseModel", name := "fault", desc := "(I)I" } : Jvm.MethodName)) ∈ gw := mem_tb (List.mem_append_right _ (List.mem_append_right _ (List.mem_append_right _ (List.mem_append_right _ (List.mem_append_right _ (List.mem_append_right _ (List.mem_append_left _ (List.mem_of_getElem? (l := tables_1_7) (i := 223) rfl)))))))) rfl
theorem m_983 : (Jvm.Cond.methodLink "CoreHouseLaw" (84 : Nat) ({ cls := "CoreHouseLaw", name := "step", desc := "(LCoreHouse;I[J)I" } : Jvm.MethodName)) ∈ gw := mem_tb (List.mem_append_right _ (List.mem_append_right _ (List.mem_append_right _ (List.mem_append_left _ (List.mem_of_getElem? (l := tables_1_4) (i := 140) rfl))))) rfl
theorem m_1788 : (Jvm.Cond.methodLink "CoreHouseLaw" (87 : Nat) ({ cls := "CoreHouseModel", name := "step", desc := "(I)I" } : Jvm.MethodName)) ∈ gw := mem_tb (List.mem_append_right _ (List.mem_append_right _ (List.mem_append_right _ (List.mem_append_right _ (List.mem_append_right _ (List.mem_append_right _ (List.mem_append_left _ (List.mem_of_getElem? (l := tables_1_7) (i := 225) rfl)))))))) rfl
theorem m_1789 : (Jvm.Cond.instanceMethod ({ cls := "CoreHouseModel", name := "step", desc := "(I)I" } : Jvm.MethodName)) ∈ gw := mem_tb (List.mem_append_right _ (List.mem_append_right _ (List.mem_append_right _ (List.mem_append_right _ (List.mem_append_right _ (List.mem_append_right _ (List.mem_append_left _ (List.mem_of_getElem? (l := tables_1_7) (i := 226) rfl)))))))) rfl
theorem m_1790 : (Jvm.Cond.selects "CoreHouseModel" ({ cls := "CoreHouseModel", name := "step", desc := "(I)I" } : Jvm.MethodName) ({ cls := "CoreHouseModel", name := "step", desc := "(I)I" } : Jvm.MethodName)) ∈ gw := mem_tb (List.mem_append_right _ (List.mem_append_right _ (List.mem_append_right _ (List.mem_append_right _ (List.mem_append_right _ (List.mem_append_right _ (List.mem_append_left _ (List.mem_of_getElem? (l := tables_1_7) (i := 227) rfl)))))))) rfl
theorem m_1144 : (Jvm.Cond.methodLink "CoreHouseLaw" (88 : Nat) ({ cls := "CoreHouseLaw", name := "drain", desc := "(LCoreHouse;I[J)I" } : Jvm.MethodName)) ∈ gw := mem_tb (List.mem_append_right _ (List.mem_append_right _ (List.mem_append_right _ (List.mem_append_right _ (List.mem_append_left _ (List.mem_of_getElem? (l := tables_1_5) (i := 61) rfl)))))) rfl
theorem m_1891 : (Jvm.Cond.methodLink "CoreHouseLaw" (90 : Nat) ({ cls := "CoreHouseModel", name := "drain", desc := "(I)I" } : Jvm.MethodName)) ∈ gw := mem_tb (List.mem_append_right _ (List.mem_append_right _ (List.mem_append_right _ (List.mem_append_right _ (List.mem_append_right _ (List.mem_append_right _ (List.mem_append_right _ (List.mem_append_left _ (List.mem_of_getElem? (l := tables_1_8) (i := 88) rfl))))))))) rfl
theorem m_1892 : (Jvm.Cond.instanceMethod ({ cls := "CoreHouseModel", name := "drain", desc := "(I)I" } : Jvm.MethodName)) ∈ gw := mem_tb (List.mem_append_right _ (List.mem_append_right _ (List.mem_append_right _ (List.mem_append_right _ (List.mem_append_right _ (List.mem_append_right _ (List.mem_append_right _ (List.mem_append_left _ (List.mem_of_getElem? (l := tables_1_8) (i := 89) rfl))))))))) rfl
theorem m_1893 : (Jvm.Cond.selects "CoreHouseModel" ({ cls := "CoreHouseModel", name := "drain", desc := "(I)I" } : Jvm.MethodName) ({ cls := "CoreHouseModel", name := "drain", desc := "(I)I" } : Jvm.MethodName)) ∈ gw := mem_tb (List.mem_append_right _ (List.mem_append_right _ (List.mem_append_right _ (List.mem_append_right _ (List.mem_append_right _ (List.mem_append_right _ (List.mem_append_right _ (List.mem_append_left _ (List.mem_of_getElem? (l := tables_1_8) (i := 90) rfl))))))))) rfl
theorem m_545 : (Jvm.Cond.methodLink "CoreHouseLaw" (91 : Nat) ({ cls := "CoreHouse", name := "deliver", desc := "(I)Z" } : Jvm.MethodName)) ∈ gw := mem_tb (List.mem_append_right _ (List.mem_append_left _ (List.mem_of_getElem? (l := tables_1_2) (i := 182) rfl))) rfl
theorem m_546 : (Jvm.Cond.instanceMethod ({ cls := "CoreHouse", name := "deliver", desc := "(I)Z" } : Jvm.MethodName)) ∈ gw := mem_tb (List.mem_append_right _ (List.mem_append_left _ (List.mem_of_getElem? (l := tables_1_2) (i := 183) rfl))) rfl
theorem m_547 : (Jvm.Cond.selects "CoreHouse" ({ cls := "CoreHouse", name := "deliver", desc := "(I)Z" } : Jvm.MethodName) ({ cls := "CoreHouse", name := "deliver", desc := "(I)Z" } : Jvm.MethodName)) ∈ gw := mem_tb (List.mem_append_right _ (List.mem_append_left _ (List.mem_of_getElem? (l := tables_1_2) (i := 184) rfl))) rfl
theorem m_1899 : (Jvm.Cond.methodLink "CoreHouseLaw" (95 : Nat) ({ cls := "CoreHouseModel", name := "deliver", desc := "(I)Z" } : Jvm.MethodName)) ∈ gw := mem_tb (List.mem_append_right _ (List.mem_append_right _ (List.mem_append_right _ (List.mem_append_right _ (List.mem_append_right _ (List.mem_append_right _ (List.mem_append_right _ (List.mem_append_left _ (List.mem_of_getElem? (l := tables_1_8) (i := 96) rfl))))))))) rfl
theorem m_1900 : (Jvm.Cond.instanceMethod ({ cls := "CoreHouseModel", name := "deliver", desc := "(I)Z" } : Jvm.MethodName)) ∈ gw := mem_tb (List.mem_append_right _ (List.mem_append_right _ (List.mem_append_right _ (List.mem_append_right _ (List.mem_append_right _ (List.mem_append_right _ (List.mem_append_right _ (List.mem_append_left _ (List.mem_of_getElem? (l := tables_1_8) (i := 97) rfl))))))))) rfl
theorem m_1901 : (Jvm.Cond.selects "CoreHouseModel" ({ cls := "CoreHouseModel", name := "deliver", desc := "(I)Z" } : Jvm.MethodName) ({ cls := "CoreHouseModel", name := "deliver", desc := "(I)Z" } : Jvm.MethodName)) ∈ gw := mem_tb (List.mem_append_right _ (List.mem_append_right _ (List.mem_append_right _ (List.mem_append_right _ (List.mem_append_right _ (List.mem_append_right _ (List.mem_append_right _ (List.mem_append_left _ (List.mem_of_getElem? (l := tables_1_8) (i := 98) rfl))))))))) rfl
theorem m_671 : (Jvm.Cond.methodLink "CoreHouseLaw" (96 : Nat) ({ cls := "CoreHouse", name := "deliverOn", desc := "(II)Z" } : Jvm.MethodName)) ∈ gw := mem_tb (List.mem_append_right _ (List.mem_append_right _ (List.mem_append_left _ (List.mem_of_getElem? (l := tables_1_3) (i := 68) rfl)))) rfl
theorem m_672 : (Jvm.Cond.instanceMethod ({ cls := "CoreHouse", name := "deliverOn", desc := "(II)Z" } : Jvm.MethodName)) ∈ gw := mem_tb (List.mem_append_right _ (List.mem_append_right _ (List.mem_append_left _ (List.mem_of_getElem? (l := tables_1_3) (i := 69) rfl)))) rfl
theorem m_673 : (Jvm.Cond.selects "CoreHouse" ({ cls := "CoreHouse", name := "deliverOn", desc := "(II)Z" } : Jvm.MethodName) ({ cls := "CoreHouse", name := "deliverOn", desc := "(II)Z" } : Jvm.MethodName)) ∈ gw := mem_tb (List.mem_append_right _ (List.mem_append_right _ (List.mem_append_left _ (List.mem_of_getElem? (l := tables_1_3) (i := 70) rfl)))) rfl
theorem m_1967 : (Jvm.Cond.methodLink "CoreHouseLaw" (100 : Nat) ({ cls := "CoreHouseModel", name := "deliverOn", desc := "(II)Z" } : Jvm.MethodName)) ∈ gw := mem_tb (List.mem_append_right _ (List.mem_append_right _ (List.mem_append_right _ (List.mem_append_right _ (List.mem_append_right _ (List.mem_append_right _ (List.mem_append_right _ (List.mem_append_left _ (List.mem_of_getElem? (l := tables_1_8) (i := 164) rfl))))))))) rfl
theorem m_1968 : (Jvm.Cond.instanceMethod ({ cls := "CoreHouseModel", name := "deliverOn", desc := "(II)Z" } : Jvm.MethodName)) ∈ gw := mem_tb (List.mem_append_right _ (List.mem_append_right _ (List.mem_append_right _ (List.mem_append_right _ (List.mem_append_right _ (List.mem_append_right _ (List.mem_append_right _ (List.mem_append_left _ (List.mem_of_getElem? (l := tables_1_8) (i := 165) rfl))))))))) rfl
theorem m_1969 : (Jvm.Cond.selects "CoreHouseModel" ({ cls := "CoreHouseModel", name := "deliverOn", desc := "(II)Z" } : Jvm.MethodName) ({ cls := "CoreHouseModel", name := "deliverOn", desc := "(II)Z" } : Jvm.MethodName)) ∈ gw := mem_tb (List.mem_append_right _ (List.mem_append_right _ (List.mem_append_right _ (List.mem_append_right _ (List.mem_append_right _ (List.mem_append_right _ (List.mem_append_right _ (List.mem_append_left _ (List.mem_of_getElem? (l := tables_1_8) (i := 166) rfl))))))))) rfl
theorem m_1161 : (Jvm.Cond.methodLink "CoreHouseLaw" (101 : Nat) ({ cls := "CoreHouseLaw", name := "run", desc := "(LCoreHouse;I[J)I" } : Jvm.MethodName)) ∈ gw := mem_tb (List.mem_append_right _ (List.mem_append_right _ (List.mem_append_right _ (List.mem_append_right _ (List.mem_append_left _ (List.mem_of_getElem? (l := tables_1_5) (i := 78) rfl)))))) rfl
theorem m_1978 : (Jvm.Cond.methodLink "CoreHouseLaw" (103 : Nat) ({ cls := "CoreHouseModel", name := "run", desc := "(I)I" } : Jvm.MethodName)) ∈ gw := mem_tb (List.mem_append_right _ (List.mem_append_right _ (List.mem_append_right _ (List.mem_append_right _ (List.mem_append_right _ (List.mem_append_right _ (List.mem_append_right _ (List.mem_append_left _ (List.mem_of_getElem? (l := tables_1_8) (i := 175) rfl))))))))) rfl
theorem m_1979 : (Jvm.Cond.instanceMethod ({ cls := "CoreHouseModel", name := "run", desc := "(I)I" } : Jvm.MethodName)) ∈ gw := mem_tb (List.mem_append_right _ (List.mem_append_right _ (List.mem_append_right _ (List.mem_append_right _ (List.mem_append_right _ (List.mem_append_right _ (List.mem_append_right _ (List.mem_append_left _ (List.mem_of_getElem? (l := tables_1_8) (i := 176) rfl))))))))) rfl
theorem m_1980 : (Jvm.Cond.selects "CoreHouseModel" ({ cls := "CoreHouseModel", name := "run", desc := "(I)I" } : Jvm.MethodName) ({ cls := "CoreHouseModel", name := "run", desc := "(I)I" } : Jvm.MethodName)) ∈ gw := mem_tb (List.mem_append_right _ (List.mem_append_right _ (List.mem_append_right _ (List.mem_append_right _ (List.mem_append_right _ (List.mem_append_right _ (List.mem_append_right _ (List.mem_append_left _ (List.mem_of_getElem? (l := tables_1_8) (i := 177) rfl))))))))) rfl
theorem m_1170 : (Jvm.Cond.methodLink "CoreHouseLaw" (104 : Nat) ({ cls := "CoreHouseLaw", name := "play", desc := "(LCoreHouse;[J)I" } : Jvm.MethodName)) ∈ gw := mem_tb (List.mem_append_right _ (List.mem_append_right _ (List.mem_append_right _ (List.mem_append_right _ (List.mem_append_left _ (List.mem_of_getElem? (l := tables_1_5) (i := 87) rfl)))))) rfl
theorem m_1982 : (Jvm.Cond.methodLink "CoreHouseLaw" (106 : Nat) ({ cls := "CoreHouseModel", name := "play", desc := "()I" } : Jvm.MethodName)) ∈ gw := mem_tb (List.mem_append_right _ (List.mem_append_right _ (List.mem_append_right _ (List.mem_append_right _ (List.mem_append_right _ (List.mem_append_right _ (List.mem_append_right _ (List.mem_append_left _ (List.mem_of_getElem? (l := tables_1_8) (i := 179) rfl))))))))) rfl
theorem m_1983 : (Jvm.Cond.instanceMethod ({ cls := "CoreHouseModel", name := "play", desc := "()I" } : Jvm.MethodName)) ∈ gw := mem_tb (List.mem_append_right _ (List.mem_append_right _ (List.mem_append_right _ (List.mem_append_right _ (List.mem_append_right _ (List.mem_append_right _ (List.mem_append_right _ (List.mem_append_left _ (List.mem_of_getElem? (l := tables_1_8) (i := 180) rfl))))))))) rfl
theorem m_1984 : (Jvm.Cond.selects "CoreHouseModel" ({ cls := "CoreHouseModel", name := "play", desc := "()I" } : Jvm.MethodName) ({ cls := "CoreHouseModel", name := "play", desc := "()I" } : Jvm.MethodName)) ∈ gw := mem_tb (List.mem_append_right _ (List.mem_append_right _ (List.mem_append_right _ (List.mem_append_right _ (List.mem_append_right _ (List.mem_append_right _ (List.mem_append_right _ (List.mem_append_left _ (List.mem_of_getElem? (l := tables_1_8) (i := 181) rfl))))))))) rfl
theorem m_1199 : (Jvm.Cond.methodLink "CoreHouseLaw" (107 : Nat) ({ cls := "CoreHouseLaw", name := "trace", desc := "(LCoreHouse;III[J)I" } : Jvm.MethodName)) ∈ gw := mem_tb (List.mem_append_right _ (List.mem_append_right _ (List.mem_append_right _ (List.mem_append_right _ (List.mem_append_left _ (List.mem_of_getElem? (l := tables_1_5) (i := 116) rfl)))))) rfl
theorem m_2002 : (Jvm.Cond.methodLink "CoreHouseLaw" (110 : Nat) ({ cls := "CoreHouseModel", name := "trace", desc := "(III)I" } : Jvm.MethodName)) ∈ gw := mem_tb (List.mem_append_right _ (List.mem_append_right _ (List.mem_append_right _ (List.mem_append_right _ (List.mem_append_right _ (List.mem_append_right _ (List.mem_append_right _ (List.mem_append_left _ (List.mem_of_getElem? (l := tables_1_8) (i := 199) rfl))))))))) rfl
theorem m_2003 : (Jvm.Cond.instanceMethod ({ cls := "CoreHouseModel", name := "trace", desc := "(III)I" } : Jvm.MethodName)) ∈ gw := mem_tb (List.mem_append_right _ (List.mem_append_right _ (List.mem_append_right _ (List.mem_append_right _ (List.mem_append_right _ (List.mem_append_right _ (List.mem_append_right _ (List.mem_append_left _ (List.mem_of_getElem? (l := tables_1_8) (i := 200) rfl))))))))) rfl
theorem m_2004 : (Jvm.Cond.selects "CoreHouseModel" ({ cls := "CoreHouseModel", name := "trace", desc := "(III)I" } : Jvm.MethodName) ({ cls := "CoreHouseModel", name := "trace", desc := "(III)I" } : Jvm.MethodName)) ∈ gw := mem_tb (List.mem_append_right _ (List.mem_append_right _ (List.mem_append_right _ (List.mem_append_right _ (List.mem_append_right _ (List.mem_append_right _ (List.mem_append_right _ (List.mem_append_left _ (List.mem_of_getElem? (l := tables_1_8) (i := 201) rfl))))))))) rfl
theorem m_1231 : (Jvm.Cond.methodLink "CoreHouseLaw" (111 : Nat) ({ cls := "CoreHouseLaw", name := "core", desc := "(LCoreHouse;II[J)I" } : Jvm.MethodName)) ∈ gw := mem_tb (List.mem_append_right _ (List.mem_append_right _ (List.mem_append_right _ (List.mem_append_right _ (List.mem_append_left _ (List.mem_of_getElem? (l := tables_1_5) (i := 148) rfl)))))) rfl
theorem m_2006 : (Jvm.Cond.methodLink "CoreHouseLaw" (114 : Nat) ({ cls := "CoreHouseModel", name := "core", desc := "(II)I" } : Jvm.MethodName)) ∈ gw := mem_tb (List.mem_append_right _ (List.mem_append_right _ (List.mem_append_right _ (List.mem_append_right _ (List.mem_append_right _ (List.mem_append_right _ (List.mem_append_right _ (List.mem_append_left _ (List.mem_of_getElem? (l := tables_1_8) (i := 203) rfl))))))))) rfl
theorem m_2007 : (Jvm.Cond.instanceMethod ({ cls := "CoreHouseModel", name := "core", desc := "(II)I" } : Jvm.MethodName)) ∈ gw := mem_tb (List.mem_append_right _ (List.mem_append_right _ (List.mem_append_right _ (List.mem_append_right _ (List.mem_append_right _ (List.mem_append_right _ (List.mem_append_right _ (List.mem_append_left _ (List.mem_of_getElem? (l := tables_1_8) (i := 204) rfl))))))))) rfl
theorem m_2008 : (Jvm.Cond.selects "CoreHouseModel" ({ cls := "CoreHouseModel", name := "core", desc := "(II)I" } : Jvm.MethodName) ({ cls := "CoreHouseModel", name := "core", desc := "(II)I" } : Jvm.MethodName)) ∈ gw := mem_tb (List.mem_append_right _ (List.mem_append_right _ (List.mem_append_right _ (List.mem_append_right _ (List.mem_append_right _ (List.mem_append_right _ (List.mem_append_right _ (List.mem_append_left _ (List.mem_of_getElem? (l := tables_1_8) (i := 205) rfl))))))))) rfl
theorem m_685 : (Jvm.Cond.methodLink "CoreHouseLaw" (115 : Nat) ({ cls := "CoreHouse", name := "cached", desc := "(II)I" } : Jvm.MethodName)) ∈ gw := mem_tb (List.mem_append_right _ (List.mem_append_right _ (List.mem_append_left _ (List.mem_of_getElem? (l := tables_1_3) (i := 82) rfl)))) rfl
theorem m_686 : (Jvm.Cond.instanceMethod ({ cls := "CoreHouse", name := "cached", desc := "(II)I" } : Jvm.MethodName)) ∈ gw := mem_tb (List.mem_append_right _ (List.mem_append_right _ (List.mem_append_left _ (List.mem_of_getElem? (l := tables_1_3) (i := 83) rfl)))) rfl
theorem m_687 : (Jvm.Cond.selects "CoreHouse" ({ cls := "CoreHouse", name := "cached", desc := "(II)I" } : Jvm.MethodName) ({ cls := "CoreHouse", name := "cached", desc := "(II)I" } : Jvm.MethodName)) ∈ gw := mem_tb (List.mem_append_right _ (List.mem_append_right _ (List.mem_append_left _ (List.mem_of_getElem? (l := tables_1_3) (i := 84) rfl)))) rfl
theorem m_2010 : (Jvm.Cond.methodLink "CoreHouseLaw" (118 : Nat) ({ cls := "CoreHouseModel", name := "cached", desc := "(II)I" } : Jvm.MethodName)) ∈ gw := mem_tb (List.mem_append_right _ (List.mem_append_right _ (List.mem_append_right _ (List.mem_append_right _ (List.mem_append_right _ (List.mem_append_right _ (List.mem_append_right _ (List.mem_append_left _ (List.mem_of_getElem? (l := tables_1_8) (i := 207) rfl))))))))) rfl
theorem m_2011 : (Jvm.Cond.instanceMethod ({ cls := "CoreHouseModel", name := "cached", desc := "(II)I" } : Jvm.MethodName)) ∈ gw := mem_tb (List.mem_append_right _ (List.mem_append_right _ (List.mem_append_right _ (List.mem_append_right _ (List.mem_append_right _ (List.mem_append_right _ (List.mem_append_right _ (List.mem_append_left _ (List.mem_of_getElem? (l := tables_1_8) (i := 208) rfl))))))))) rfl
theorem m_2012 : (Jvm.Cond.selects "CoreHouseModel" ({ cls := "CoreHouseModel", name := "cached", desc := "(II)I" } : Jvm.MethodName) ({ cls := "CoreHouseModel", name := "cached", desc := "(II)I" } : Jvm.MethodName)) ∈ gw := mem_tb (List.mem_append_right _ (List.mem_append_right _ (List.mem_append_right _ (List.mem_append_right _ (List.mem_append_right _ (List.mem_append_right _ (List.mem_append_right _ (List.mem_append_left _ (List.mem_of_getElem? (l := tables_1_8) (i := 209) rfl))))))))) rfl
theorem m_1247 : (Jvm.Cond.methodLink "CoreHouseLaw" (119 : Nat) ({ cls := "CoreHouseLaw", name := "copy", desc := "(LCoreHouse;II[J)I" } : Jvm.MethodName)) ∈ gw := mem_tb (List.mem_append_right _ (List.mem_append_right _ (List.mem_append_right _ (List.mem_append_right _ (List.mem_append_left _ (List.mem_of_getElem? (l := tables_1_5) (i := 164) rfl)))))) rfl
theorem m_2014 : (Jvm.Cond.methodLink "CoreHouseLaw" (121 : Nat) ({ cls := "CoreHouseModel", name := "copy", desc := "(II)I" } : Jvm.MethodName)) ∈ gw := mem_tb (List.mem_append_right _ (List.mem_append_right _ (List.mem_append_right _ (List.mem_append_right _ (List.mem_append_right _ (List.mem_append_right _ (List.mem_append_right _ (List.mem_append_left _ (List.mem_of_getElem? (l := tables_1_8) (i := 211) rfl))))))))) rfl
theorem m_2015 : (Jvm.Cond.instanceMethod ({ cls := "CoreHouseModel", name := "copy", desc := "(II)I" } : Jvm.MethodName)) ∈ gw := mem_tb (List.mem_append_right _ (List.mem_append_right _ (List.mem_append_right _ (List.mem_append_right _ (List.mem_append_right _ (List.mem_append_right _ (List.mem_append_right _ (List.mem_append_left _ (List.mem_of_getElem? (l := tables_1_8) (i := 212) rfl))))))))) rfl
theorem m_2016 : (Jvm.Cond.selects "CoreHouseModel" ({ cls := "CoreHouseModel", name := "copy", desc := "(II)I" } : Jvm.MethodName) ({ cls := "CoreHouseModel", name := "copy", desc := "(II)I" } : Jvm.MethodName)) ∈ gw := mem_tb (List.mem_append_right _ (List.mem_append_right _ (List.mem_append_right _ (List.mem_append_right _ (List.mem_append_right _ (List.mem_append_right _ (List.mem_append_right _ (List.mem_append_left _ (List.mem_of_getElem? (l := tables_1_8) (i := 213) rfl))))))))) rfl
theorem m_1259 : (Jvm.Cond.methodLink "CoreHouseLaw" (122 : Nat) ({ cls := "CoreHouseLaw", name := "home", desc := "(LCoreHouse;II[J)I" } : Jvm.MethodName)) ∈ gw := mem_tb (List.mem_append_right _ (List.mem_append_right _ (List.mem_append_right _ (List.mem_append_right _ (List.mem_append_left _ (List.mem_of_getElem? (l := tables_1_5) (i := 176) rfl)))))) rfl
theorem m_2021 : (Jvm.Cond.methodLink "CoreHouseLaw" (124 : Nat) ({ cls := "CoreHouseModel", name := "home", desc := "(II)I" } : Jvm.MethodName)) ∈ gw := mem_tb (List.mem_append_right _ (List.mem_append_right _ (List.mem_append_right _ (List.mem_append_right _ (List.mem_append_right _ (List.mem_append_right _ (List.mem_append_right _ (List.mem_append_left _ (List.mem_of_getElem? (l := tables_1_8) (i := 218) rfl))))))))) rfl
theorem m_2022 : (Jvm.Cond.instanceMethod ({ cls := "CoreHouseModel", name := "home", desc := "(II)I" } : Jvm.MethodName)) ∈ gw := mem_tb (List.mem_append_right _ (List.mem_append_right _ (List.mem_append_right _ (List.mem_append_right _ (List.mem_append_right _ (List.mem_append_right _ (List.mem_append_right _ (List.mem_append_left _ (List.mem_of_getElem? (l := tables_1_8) (i := 219) rfl))))))))) rfl
theorem m_2023 : (Jvm.Cond.selects "CoreHouseModel" ({ cls := "CoreHouseModel", name := "home", desc := "(II)I" } : Jvm.MethodName) ({ cls := "CoreHouseModel", name := "home", desc := "(II)I" } : Jvm.MethodName)) ∈ gw := mem_tb (List.mem_append_right _ (List.mem_append_right _ (List.mem_append_right _ (List.mem_append_right _ (List.mem_append_right _ (List.mem_append_right _ (List.mem_append_right _ (List.mem_append_left _ (List.mem_of_getElem? (l := tables_1_8) (i := 220) rfl))))))))) rfl
theorem m_690 : (Jvm.Cond.methodLink "CoreHouseLaw" (125 : Nat) ({ cls := "CoreHouse", name := "waiting", desc := "(I)I" } : Jvm.MethodName)) ∈ gw := mem_tb (List.mem_append_right _ (List.mem_append_right _ (List.mem_append_left _ (List.mem_of_getElem? (l := tables_1_3) (i := 87) rfl)))) rfl
theorem m_691 : (Jvm.Cond.instanceMethod ({ cls := "CoreHouse", name := "waiting", desc := "(I)I" } : Jvm.MethodName)) ∈ gw := mem_tb (List.mem_append_right _ (List.mem_append_right _ (List.mem_append_left _ (List.mem_of_getElem? (l := tables_1_3) (i := 88) rfl)))) rfl
theorem m_692 : (Jvm.Cond.selects "CoreHouse" ({ cls := "CoreHouse", name := "waiting", desc := "(I)I" } : Jvm.MethodName) ({ cls := "CoreHouse", name := "waiting", desc := "(I)I" } : Jvm.MethodName)) ∈ gw := mem_tb (List.mem_append_right _ (List.mem_append_right _ (List.mem_append_left _ (List.mem_of_getElem? (l := tables_1_3) (i := 89) rfl)))) rfl
theorem m_2025 : (Jvm.Cond.methodLink "CoreHouseLaw" (128 : Nat) ({ cls := "CoreHouseModel", name := "waiting", desc := "(I)I" } : Jvm.MethodName)) ∈ gw := mem_tb (List.mem_append_right _ (List.mem_append_right _ (List.mem_append_right _ (List.mem_append_right _ (List.mem_append_right _ (List.mem_append_right _ (List.mem_append_right _ (List.mem_append_left _ (List.mem_of_getElem? (l := tables_1_8) (i := 222) rfl))))))))) rfl
theorem m_2026 : (Jvm.Cond.instanceMethod ({ cls := "CoreHouseModel", name := "waiting", desc := "(I)I" } : Jvm.MethodName)) ∈ gw := mem_tb (List.mem_append_right _ (List.mem_append_right _ (List.mem_append_right _ (List.mem_append_right _ (List.mem_append_right _ (List.mem_append_right _ (List.mem_append_right _ (List.mem_append_left _ (List.mem_of_getElem? (l := tables_1_8) (i := 223) rfl))))))))) rfl
theorem m_2027 : (Jvm.Cond.selects "CoreHouseModel" ({ cls := "CoreHouseModel", name := "waiting", desc := "(I)I" } : Jvm.MethodName) ({ cls := "CoreHouseModel", name := "waiting", desc := "(I)I" } : Jvm.MethodName)) ∈ gw := mem_tb (List.mem_append_right _ (List.mem_append_right _ (List.mem_append_right _ (List.mem_append_right _ (List.mem_append_right _ (List.mem_append_right _ (List.mem_append_right _ (List.mem_append_left _ (List.mem_of_getElem? (l := tables_1_8) (i := 224) rfl))))))))) rfl
theorem m_1272 : (Jvm.Cond.methodLink "CoreHouseLaw" (129 : Nat) ({ cls := "CoreHouseLaw", name := "memory", desc := "(LCoreHouse;I[J)I" } : Jvm.MethodName)) ∈ gw := mem_tb (List.mem_append_right _ (List.mem_append_right _ (List.mem_append_right _ (List.mem_append_right _ (List.mem_append_left _ (List.mem_of_getElem? (l := tables_1_5) (i := 189) rfl)))))) rfl
theorem m_2029 : (Jvm.Cond.methodLink "CoreHouseLaw" (131 : Nat) ({ cls := "CoreHouseModel", name := "memory", desc := "(I)I" } : Jvm.MethodName)) ∈ gw := mem_tb (List.mem_append_right _ (List.mem_append_right _ (List.mem_append_right _ (List.mem_append_right _ (List.mem_append_right _ (List.mem_append_right _ (List.mem_append_right _ (List.mem_append_left _ (List.mem_of_getElem? (l := tables_1_8) (i := 226) rfl))))))))) rfl
theorem m_2030 : (Jvm.Cond.instanceMethod ({ cls := "CoreHouseModel", name := "memory", desc := "(I)I" } : Jvm.MethodName)) ∈ gw := mem_tb (List.mem_append_right _ (List.mem_append_right _ (List.mem_append_right _ (List.mem_append_right _ (List.mem_append_right _ (List.mem_append_right _ (List.mem_append_right _ (List.mem_append_left _ (List.mem_of_getElem? (l := tables_1_8) (i := 227) rfl))))))))) rfl
theorem m_2031 : (Jvm.Cond.selects "CoreHouseModel" ({ cls := "CoreHouseModel", name := "memory", desc := "(I)I" } : Jvm.MethodName) ({ cls := "CoreHouseModel", name := "memory", desc := "(I)I" } : Jvm.MethodName)) ∈ gw := mem_tb (List.mem_append_right _ (List.mem_append_right _ (List.mem_append_right _ (List.mem_append_right _ (List.mem_append_right _ (List.mem_append_right _ (List.mem_append_right _ (List.mem_append_left _ (List.mem_of_getElem? (l := tables_1_8) (i := 228) rfl))))))))) rfl
theorem m_1280 : (Jvm.Cond.methodLink "CoreHouseLaw" (132 : Nat) ({ cls := "CoreHouseLaw", name := "word", desc := "(LCoreHouse;I[J)I" } : Jvm.MethodName)) ∈ gw := mem_tb (List.mem_append_right _ (List.mem_append_right _ (List.mem_append_right _ (List.mem_append_right _ (List.mem_append_left _ (List.mem_of_getElem? (l := tables_1_5) (i := 197) rfl)))))) rfl
theorem m_2033 : (Jvm.Cond.methodLink "CoreHouseLaw" (134 : Nat) ({ cls := "CoreHouseModel", name := "word", desc := "(I)I" } : Jvm.MethodName)) ∈ gw := mem_tb (List.mem_append_right _ (List.mem_append_right _ (List.mem_append_right _ (List.mem_append_right _ (List.mem_append_right _ (List.mem_append_right _ (List.mem_append_right _ (List.mem_append_left _ (List.mem_of_getElem? (l := tables_1_8) (i := 230) rfl))))))))) rfl
theorem m_2034 : (Jvm.Cond.instanceMethod ({ cls := "CoreHouseModel", name := "word", desc := "(I)I" } : Jvm.MethodName)) ∈ gw := mem_tb (List.mem_append_right _ (List.mem_append_right _ (List.mem_append_right _ (List.mem_append_right _ (List.mem_append_right _ (List.mem_append_right _ (List.mem_append_right _ (List.mem_append_left _ (List.mem_of_getElem? (l := tables_1_8) (i := 231) rfl))))))))) rfl
theorem m_2035 : (Jvm.Cond.selects "CoreHouseModel" ({ cls := "CoreHouseModel", name := "word", desc := "(I)I" } : Jvm.MethodName) ({ cls := "CoreHouseModel", name := "word", desc := "(I)I" } : Jvm.MethodName)) ∈ gw := mem_tb (List.mem_append_right _ (List.mem_append_right _ (List.mem_append_right _ (List.mem_append_right _ (List.mem_append_right _ (List.mem_append_right _ (List.mem_append_right _ (List.mem_append_left _ (List.mem_of_getElem? (l := tables_1_8) (i := 232) rfl))))))))) rfl
theorem m_1296 : (Jvm.Cond.methodLink "CoreHouseLaw" (135 : Nat) ({ cls := "CoreHouseLaw", name := "message", desc := "(LCoreHouse;II[J)I" } : Jvm.MethodName)) ∈ gw := mem_tb (List.mem_append_right _ (List.mem_append_right _ (List.mem_append_right _ (List.mem_append_right _ (List.mem_append_left _ (List.mem_of_getElem? (l := tables_1_5) (i := 213) rfl)))))) rfl
theorem m_2037 : (Jvm.Cond.methodLink "CoreHouseLaw" (137 : Nat) ({ cls := "CoreHouseModel", name := "message", desc := "(II)I" } : Jvm.MethodName)) ∈ gw := mem_tb (List.mem_append_right _ (List.mem_append_right _ (List.mem_append_right _ (List.mem_append_right _ (List.mem_append_right _ (List.mem_append_right _ (List.mem_append_right _ (List.mem_append_left _ (List.mem_of_getElem? (l := tables_1_8) (i := 234) rfl))))))))) rfl
theorem m_2038 : (Jvm.Cond.instanceMethod ({ cls := "CoreHouseModel", name := "message", desc := "(II)I" } : Jvm.MethodName)) ∈ gw := mem_tb (List.mem_append_right _ (List.mem_append_right _ (List.mem_append_right _ (List.mem_append_right _ (List.mem_append_right _ (List.mem_append_right _ (List.mem_append_right _ (List.mem_append_left _ (List.mem_of_getElem? (l := tables_1_8) (i := 235) rfl))))))))) rfl
theorem m_2039 : (Jvm.Cond.selects "CoreHouseModel" ({ cls := "CoreHouseModel", name := "message", desc := "(II)I" } : Jvm.MethodName) ({ cls := "CoreHouseModel", name := "message", desc := "(II)I" } : Jvm.MethodName)) ∈ gw := mem_tb (List.mem_append_right _ (List.mem_append_right _ (List.mem_append_right _ (List.mem_append_right _ (List.mem_append_right _ (List.mem_append_right _ (List.mem_append_right _ (List.mem_append_left _ (List.mem_of_getElem? (l := tables_1_8) (i := 236) rfl))))))))) rfl
theorem m_698 : (Jvm.Cond.methodLink "CoreHouseLaw" (138 : Nat) ({ cls := "CoreHouse", name := "total", desc := "(I)I" } : Jvm.MethodName)) ∈ gw := mem_tb (List.mem_append_right _ (List.mem_append_right _ (List.mem_append_left _ (List.mem_of_getElem? (l := tables_1_3) (i := 95) rfl)))) rfl
theorem m_699 : (Jvm.Cond.instanceMethod ({ cls := "CoreHouse", name := "total", desc := "(I)I" } : Jvm.MethodName)) ∈ gw := mem_tb (List.mem_append_right _ (List.mem_append_right _ (List.mem_append_left _ (List.mem_of_getElem? (l := tables_1_3) (i := 96) rfl)))) rfl
theorem m_700 : (Jvm.Cond.selects "CoreHouse" ({ cls := "CoreHouse", name := "total", desc := "(I)I" } : Jvm.MethodName) ({ cls := "CoreHouse", name := "total", desc := "(I)I" } : Jvm.MethodName)) ∈ gw := mem_tb (List.mem_append_right _ (List.mem_append_right _ (List.mem_append_left _ (List.mem_of_getElem? (l := tables_1_3) (i := 97) rfl)))) rfl
theorem m_2041 : (Jvm.Cond.methodLink "CoreHouseLaw" (141 : Nat) ({ cls := "CoreHouseModel", name := "total", desc := "(I)I" } : Jvm.MethodName)) ∈ gw := mem_tb (List.mem_append_right _ (List.mem_append_right _ (List.mem_append_right _ (List.mem_append_right _ (List.mem_append_right _ (List.mem_append_right _ (List.mem_append_right _ (List.mem_append_left _ (List.mem_of_getElem? (l := tables_1_8) (i := 238) rfl))))))))) rfl
theorem m_2042 : (Jvm.Cond.instanceMethod ({ cls := "CoreHouseModel", name := "total", desc := "(I)I" } : Jvm.MethodName)) ∈ gw := mem_tb (List.mem_append_right _ (List.mem_append_right _ (List.mem_append_right _ (List.mem_append_right _ (List.mem_append_right _ (List.mem_append_right _ (List.mem_append_right _ (List.mem_append_left _ (List.mem_of_getElem? (l := tables_1_8) (i := 239) rfl))))))))) rfl
theorem m_2043 : (Jvm.Cond.selects "CoreHouseModel" ({ cls := "CoreHouseModel", name := "total", desc := "(I)I" } : Jvm.MethodName) ({ cls := "CoreHouseModel", name := "total", desc := "(I)I" } : Jvm.MethodName)) ∈ gw := mem_tb (List.mem_append_right _ (List.mem_append_right _ (List.mem_append_right _ (List.mem_append_right _ (List.mem_append_right _ (List.mem_append_right _ (List.mem_append_right _ (List.mem_append_right _ (List.mem_of_getElem? (l := tables_1_9) (i := 0) rfl))))))))) rfl
abbrev kLaw : Mt := (yL_law, cL_law, 7, some .boolean, 14, 568)
def LG (X : Cx) (p : Program) (l : Launch) (s : State) (mm : MethodId) (b N9 : Nat) (xs : Nat → Int32) (c : Code) : Prop := QF X kLaw p s mm #[Value.ref b] c ∧ va_X b N9 xs s s.heap ∧ b < s.heap.size ∧ ¬ xAr X b ∧ N9 ≤ 3584 ∧ l.stackTraces = false
theorem lg_cmp_self (x : Int64) : lg_cmp x x = 0 := by
  unfold lg_cmp
  rw [if_neg (fun q => absurd q (by rw [gt_iff_lt, Int64.lt_iff_toInt_lt]; omega)), if_pos rfl]
section CS
variable {p : Program} {l : Launch} {e : Env} {R : Room} {s : State} {mm : MethodId} {args : Array Value} {below : List Frame} {meth : Method} {c : Code} {X : Cx} {k : Mt} {Q : State → Prop} {pc : Nat} {L : List (Nat × Value)} {st : List Value} {h m ot : AH} {cells slots : Nat} {b N9 : Nat} {xs : Nat → Int32}
theorem lr_hz (n : Nat) (kk : LW X k p l e R s mm args below meth c Q pc L st h (hB m n) ot cells slots) : LW X k p l e R s mm args below meth c Q pc L st h m ot cells slots := fun H locs ls hS hR hl => kk H locs ls hS hR hl
theorem lr_get {t j : Nat} {nj : Int} (F : QF X k p s mm args c) (hX : va_X b N9 xs s s.heap) (hbl : b < s.heap.size) (hbA : ¬ xAr X b) (h35 : N9 ≤ 3584) (ht : 7 * t + 7 ≤ N9) (hj : j < 7) (a0 a4 : Nat) (d0 : decode k.2.1 pc = .ok (.aload_n 0, 1)) (d1 : decode k.2.1 (pc + 1) = .ok (.iload 4, 2)) (d3 : decode k.2.1 (pc + 3) = .ok (.iconst nj, 1)) (hnj : Int32.ofInt nj = nI j) (d4 : decode k.2.1 (pc + 4) = .ok (.iadd, 1)) (d5 : decode k.2.1 (pc + 5) = .ok (.iaload, 1)) (h0 : L[a0]? = some (0, .ref b)) (h4 : L[a4]? = some (4, .int (nI (7 * t))))
    (kk : LW X k p l e R s mm args below meth c Q (pc + 6) L (.int (xs (7 * t + j)) :: st) h m ot cells slots) : LW X k p l e R s mm args below meth c Q pc L st h m ot cells slots := by
  refine lr_aload_nC (i := 0) F a0 d0 rfl h0 (lr_iload F a4 d1 h4 (lr_iconst F d3 hnj (lr_iadd F d4 (lr_sld F hX hbl hbA ?_ ?_ d5 kk))))
  · rw [q_add]; exact ib_in (x_ib (by omega) (by omega))
  · rw [q_add, x_cl (by omega)]
theorem lr_getB {t j : Nat} {nj : Int} (F : QF X k p s mm args c) (hX : va_X b N9 xs s s.heap) (hbl : b < s.heap.size) (hbA : ¬ xAr X b) (h35 : N9 ≤ 3584) (ht : 7 * t + 7 ≤ N9) (hj : j < 7) (a0 a4 : Nat) (d0 : decode k.2.1 pc = .ok (.aload_n 0, 1)) (d1 : decode k.2.1 (pc + 1) = .ok (.iload 4, 2)) (d3 : decode k.2.1 (pc + 3) = .ok (.bipush nj, 2)) (hnj : (Int8.ofInt nj).toInt32 = nI j) (d4 : decode k.2.1 (pc + 5) = .ok (.iadd, 1)) (d5 : decode k.2.1 (pc + 6) = .ok (.iaload, 1)) (h0 : L[a0]? = some (0, .ref b)) (h4 : L[a4]? = some (4, .int (nI (7 * t))))
    (kk : LW X k p l e R s mm args below meth c Q (pc + 7) L (.int (xs (7 * t + j)) :: st) h m ot cells slots) : LW X k p l e R s mm args below meth c Q pc L st h m ot cells slots := by
  refine lr_aload_nC (i := 0) F a0 d0 rfl h0 (lr_iload F a4 d1 h4 (lr_bipush F d3 hnj (lr_iadd F d4 (lr_sld F hX hbl hbA ?_ ?_ d5 kk))))
  · rw [q_add]; exact ib_in (x_ib (by omega) (by omega))
  · rw [q_add, x_cl (by omega)]
theorem lr_callW0 {k2 : Mt} {hh : List (Nat × Nat × Nat × Nat)} {idx n : Nat} {av st9 : List Value} {v : Int32} {h1 : AH} {cells' slots' : Nat} (F : QF X k p s mm args c) (hd : decode k.2.1 pc = .ok (.invokestatic idx, 3)) (ck : CW k2 hh n) (hm : Cond.methodLink k.1.cls idx k2.1 ∈ gw) (hfr : k2.2.2.2.2.1 + 1 ≤ R.frames) (hlo : 8 + (k2.2.2.1 + 11) + k2.2.2.2.2.2 ≤ R.locals) (hn : av.length = n) (hst : (st.map fun v => v.category).sum ≤ 8)
    (hM : Met l k2.1 (wsw k2 hh) (rmk k2 h h1) (va_Pc av (W3 X h m ot)) (QL0 X v h1 m ot) (hZ h1 - hZ h) (hV h1 - hV h) (xAr X)) (hst9 : st9 = av.reverse ++ st) (hc' : cells' = cells + (hZ h1 - hZ h)) (hs' : slots' = slots + (hV h1 - hV h)) (hc : cells' ≤ R.cells) (hs9 : slots' ≤ R.slots)
    (kk : LW X k p l e R s mm args below meth c Q (pc + 3) L (.int 0 :: st) h1 m (sL (hB ot (hZ h1)) 277 0 v.toInt64) cells' slots') : LW X k p l e R s mm args below meth c Q pc L st9 h m ot cells slots :=
  lr_callW (v := .int 0) (P := fun H => R3 X h1 m (sL (hB ot (hZ h1)) 277 0 v.toInt64) H) F hd ck hm hfr hlo hn hst hM hst9 hc' hs' hc hs9 kk
theorem lr_callW1 {k2 : Mt} {hh : List (Nat × Nat × Nat × Nat)} {idx n : Nat} {av st9 : List Value} {h1 : AH} {cells' slots' : Nat} (F : QF X k p s mm args c) (hd : decode k.2.1 pc = .ok (.invokestatic idx, 3)) (ck : CW k2 hh n) (hm : Cond.methodLink k.1.cls idx k2.1 ∈ gw) (hfr : k2.2.2.2.2.1 + 1 ≤ R.frames) (hlo : 8 + (k2.2.2.1 + 11) + k2.2.2.2.2.2 ≤ R.locals) (hn : av.length = n) (hst : (st.map fun v => v.category).sum ≤ 8)
    (hM : Met l k2.1 (wsw k2 hh) (rmk k2 h h1) (va_Pc av (W3 X h m ot)) (QL1 X h1 m ot) (hZ h1 - hZ h) (hV h1 - hV h) (xAr X)) (hst9 : st9 = av.reverse ++ st) (hc' : cells' = cells + (hZ h1 - hZ h)) (hs' : slots' = slots + (hV h1 - hV h)) (hc : cells' ≤ R.cells) (hs9 : slots' ≤ R.slots)
    (kk : ∀ n, (∀ o, ¬ hS h1 o = 0 → o ≤ n) → LW X k p l e R s mm args below meth c Q (pc + 3) L (.int 1 :: st) (hB h1 n) m ot cells' slots') : LW X k p l e R s mm args below meth c Q pc L st9 h m ot cells slots :=
  lr_callW (v := .int 1) (P := fun H => ∃ n, R3 X (hB h1 n) m ot H) F hd ck hm hfr hlo hn hst hM hst9 hc' hs' hc hs9 (fun H locs ls hS ⟨n, hR⟩ hl => kk n (fun o q => (hR.2.1 o q).2.1) H locs ls hS hR hl)
theorem cs_type (G : LG X p l s mm b N9 xs c) {t : Nat} (ht : 7 * t + 7 ≤ N9) {h m ot : AH} {cells slots : Nat} (I : LVI t h m ot cells slots) (kk : ∀ (h m ot : AH) (cells slots : Nat), LVI (t + 1) h m ot cells slots → LW X kLaw p l e room_1 s mm #[Value.ref b] below meth c Q 1186 [(0, .ref b), (1, rf X 1), (2, rf X 226), (3, rf X 277), (4, .int (nI (7 * t)))] [] h m ot cells slots) : LW X kLaw p l e room_1 s mm #[Value.ref b] below meth c Q 136 [(0, .ref b), (1, rf X 1), (2, rf X 226), (3, rf X 277), (4, .int (nI (7 * t)))] [] h m ot cells slots := by
  obtain ⟨F, hX, hbl, hbA, h35, hl⟩ := G
  have t5 : t < 512 := by omega
  have s1 := I.s1
  have o1 := I.o1
  have o2 := I.o2
  obtain ⟨h1, r, hx, hh⟩ := LI_cl (K := 0) (X := f_X10_type h 1 ((xs (7 * t + 1)).toInt64 <<< ((32 : Int32).toInt64 &&& 63) ||| (xs (7 * t + 2)).toInt64 &&& 4294967295) (xs (7 * t + 3))) (Y := fun m => f_X11_type m 226 ((xs (7 * t + 1)).toInt64 <<< ((32 : Int32).toInt64 &&& 63) ||| (xs (7 * t + 2)).toInt64 &&& 4294967295) (xs (7 * t + 3))) (by omega) t5 I (fun m s e b R he NM hb => call_type ((xs (7 * t + 1)).toInt64 <<< ((32 : Int32).toInt64 &&& 63) ||| (xs (7 * t + 2)).toInt64 &&& 4294967295) (xs (7 * t + 3)) R he)
  have ct := ct_X10_type l X hx
  obtain ⟨m1, hy, z1, v1, s2, I1⟩ := hh ct.1.1 ct.1.2
  have bd := I1.bd (by omega)
  refine lr_aload_n (pc := 136) (i := 1) F 1 dL_law_136 rfl rfl ?_
  refine lr_get (pc := 137) (j := 1) F hX hbl hbA h35 ht (by decide) 0 4 dL_law_137 dL_law_138 dL_law_140 rfl dL_law_141 dL_law_142 rfl rfl ?_
  refine lr_i2l (pc := 143) F dL_law_143 ?_
  refine lr_bipush (pc := 144) (v := 32) F dL_law_144 rfl ?_
  refine lr_lshl (pc := 146) F dL_law_146 ?_
  refine lr_get (pc := 147) (j := 2) F hX hbl hbA h35 ht (by decide) 0 4 dL_law_147 dL_law_148 dL_law_150 rfl dL_law_151 dL_law_152 rfl rfl ?_
  refine lr_i2l (pc := 153) F dL_law_153 ?_
  refine lr_ldc2 (pc := 154) (v := 4294967295) F m_2045 dL_law_154 ?_
  refine lr_land (pc := 157) F dL_law_157 ?_
  refine lr_lor (pc := 158) F dL_law_158 ?_
  refine lr_get (pc := 159) (j := 3) F hX hbl hbA h35 ht (by decide) 0 4 dL_law_159 dL_law_160 dL_law_162 rfl dL_law_163 dL_law_164 rfl rfl ?_
  refine lr_callC (pc := 165) (ci := 8) (o := 1) (av := [.long ((xs (7 * t + 1)).toInt64 <<< ((32 : Int32).toInt64 &&& 63) ||| (xs (7 * t + 2)).toInt64 &&& 4294967295), .int (xs (7 * t + 3))]) (st := []) F dL_law_165 ck_X10_type m_525 m_526 m_527 rfl (by decide) s1 (by decide) (by decide) rfl (by decide) ct rfl rfl rfl bd.1 bd.2 ?_
  refine lr_hz (hZ h1) ?_
  show LW X kLaw p l e room_1 s mm _ below meth c Q 168 _ [.int r] _ _ _ _ _
  refine lr_aload_n (pc := 168) (i := 2) F 2 dL_law_168 rfl rfl ?_
  refine lr_get (pc := 169) (j := 1) F hX hbl hbA h35 ht (by decide) 0 4 dL_law_169 dL_law_170 dL_law_172 rfl dL_law_173 dL_law_174 rfl rfl ?_
  refine lr_i2l (pc := 175) F dL_law_175 ?_
  refine lr_bipush (pc := 176) (v := 32) F dL_law_176 rfl ?_
  refine lr_lshl (pc := 178) F dL_law_178 ?_
  refine lr_get (pc := 179) (j := 2) F hX hbl hbA h35 ht (by decide) 0 4 dL_law_179 dL_law_180 dL_law_182 rfl dL_law_183 dL_law_184 rfl rfl ?_
  refine lr_i2l (pc := 185) F dL_law_185 ?_
  refine lr_ldc2 (pc := 186) (v := 4294967295) F m_2045 dL_law_186 ?_
  refine lr_land (pc := 189) F dL_law_189 ?_
  refine lr_lor (pc := 190) F dL_law_190 ?_
  refine lr_get (pc := 191) (j := 3) F hX hbl hbA h35 ht (by decide) 0 4 dL_law_191 dL_law_192 dL_law_194 rfl dL_law_195 dL_law_196 rfl rfl ?_
  refine lr_callM (pc := 197) (ci := 9) (o := 226) (av := [.long ((xs (7 * t + 1)).toInt64 <<< ((32 : Int32).toInt64 &&& 63) ||| (xs (7 * t + 2)).toInt64 &&& 4294967295), .int (xs (7 * t + 3))]) (st := [.int r]) F dL_law_197 ck_X11_type m_1642 m_1643 m_1644 rfl (by decide) s2 (by decide) (by decide) rfl (by show 1 ≤ 8; decide) rfl (ct_X11_type l X hy) (z1.trans rfl) v1 rfl bd.1 bd.2 ?_
  show LW X kLaw p l e room_1 s mm _ below meth c Q 200 _ [.int r, .int r] _ _ _ _ _
  refine lr_icmpeq_t (pc := 200) (tgt := 1186) F dL_law_200 rfl rfl ?_
  exact kk _ _ _ _ _ I1
theorem cs_sizes (G : LG X p l s mm b N9 xs c) {t : Nat} (ht : 7 * t + 7 ≤ N9) {h m ot : AH} {cells slots : Nat} (I : LVI t h m ot cells slots) (kk : ∀ (h m ot : AH) (cells slots : Nat), LVI (t + 1) h m ot cells slots → LW X kLaw p l e room_1 s mm #[Value.ref b] below meth c Q 1186 [(0, .ref b), (1, rf X 1), (2, rf X 226), (3, rf X 277), (4, .int (nI (7 * t)))] [] h m ot cells slots) : LW X kLaw p l e room_1 s mm #[Value.ref b] below meth c Q 205 [(0, .ref b), (1, rf X 1), (2, rf X 226), (3, rf X 277), (4, .int (nI (7 * t)))] [] h m ot cells slots := by
  obtain ⟨F, hX, hbl, hbA, h35, hl⟩ := G
  have t5 : t < 512 := by omega
  have s1 := I.s1
  have o1 := I.o1
  have o2 := I.o2
  obtain ⟨h1, r, hx, hh⟩ := LI_cl (K := 0) (X := f_X10_sizes h 1 (xs (7 * t + 1)) (xs (7 * t + 2)) (xs (7 * t + 3)) (xs (7 * t + 4)) (xs (7 * t + 5)) (xs (7 * t + 6))) (Y := fun m => f_X11_sizes m 226 (xs (7 * t + 1)) (xs (7 * t + 2)) (xs (7 * t + 3)) (xs (7 * t + 4)) (xs (7 * t + 5)) (xs (7 * t + 6))) (by omega) t5 I (fun m s e b R he NM hb => call_sizes (xs (7 * t + 1)) (xs (7 * t + 2)) (xs (7 * t + 3)) (xs (7 * t + 4)) (xs (7 * t + 5)) (xs (7 * t + 6)) R he)
  have ct := ct_X10_sizes l X hx
  obtain ⟨m1, hy, z1, v1, s2, I1⟩ := hh ct.1.1 ct.1.2
  have bd := I1.bd (by omega)
  refine lr_aload_n (pc := 205) (i := 1) F 1 dL_law_205 rfl rfl ?_
  refine lr_get (pc := 206) (j := 1) F hX hbl hbA h35 ht (by decide) 0 4 dL_law_206 dL_law_207 dL_law_209 rfl dL_law_210 dL_law_211 rfl rfl ?_
  refine lr_get (pc := 212) (j := 2) F hX hbl hbA h35 ht (by decide) 0 4 dL_law_212 dL_law_213 dL_law_215 rfl dL_law_216 dL_law_217 rfl rfl ?_
  refine lr_get (pc := 218) (j := 3) F hX hbl hbA h35 ht (by decide) 0 4 dL_law_218 dL_law_219 dL_law_221 rfl dL_law_222 dL_law_223 rfl rfl ?_
  refine lr_get (pc := 224) (j := 4) F hX hbl hbA h35 ht (by decide) 0 4 dL_law_224 dL_law_225 dL_law_227 rfl dL_law_228 dL_law_229 rfl rfl ?_
  refine lr_get (pc := 230) (j := 5) F hX hbl hbA h35 ht (by decide) 0 4 dL_law_230 dL_law_231 dL_law_233 rfl dL_law_234 dL_law_235 rfl rfl ?_
  refine lr_getB (pc := 236) (j := 6) F hX hbl hbA h35 ht (by decide) 0 4 dL_law_236 dL_law_237 dL_law_239 rfl dL_law_241 dL_law_242 rfl rfl ?_
  refine lr_callC (pc := 243) (ci := 8) (o := 1) (av := [.int (xs (7 * t + 1)), .int (xs (7 * t + 2)), .int (xs (7 * t + 3)), .int (xs (7 * t + 4)), .int (xs (7 * t + 5)), .int (xs (7 * t + 6))]) (st := []) F dL_law_243 ck_X10_sizes m_534 m_535 m_536 rfl (by decide) s1 (by decide) (by decide) rfl (by decide) ct rfl rfl rfl bd.1 bd.2 ?_
  refine lr_hz (hZ h1) ?_
  show LW X kLaw p l e room_1 s mm _ below meth c Q 246 _ [.int r] _ _ _ _ _
  refine lr_aload_n (pc := 246) (i := 2) F 2 dL_law_246 rfl rfl ?_
  refine lr_get (pc := 247) (j := 1) F hX hbl hbA h35 ht (by decide) 0 4 dL_law_247 dL_law_248 dL_law_250 rfl dL_law_251 dL_law_252 rfl rfl ?_
  refine lr_get (pc := 253) (j := 2) F hX hbl hbA h35 ht (by decide) 0 4 dL_law_253 dL_law_254 dL_law_256 rfl dL_law_257 dL_law_258 rfl rfl ?_
  refine lr_get (pc := 259) (j := 3) F hX hbl hbA h35 ht (by decide) 0 4 dL_law_259 dL_law_260 dL_law_262 rfl dL_law_263 dL_law_264 rfl rfl ?_
  refine lr_get (pc := 265) (j := 4) F hX hbl hbA h35 ht (by decide) 0 4 dL_law_265 dL_law_266 dL_law_268 rfl dL_law_269 dL_law_270 rfl rfl ?_
  refine lr_get (pc := 271) (j := 5) F hX hbl hbA h35 ht (by decide) 0 4 dL_law_271 dL_law_272 dL_law_274 rfl dL_law_275 dL_law_276 rfl rfl ?_
  refine lr_getB (pc := 277) (j := 6) F hX hbl hbA h35 ht (by decide) 0 4 dL_law_277 dL_law_278 dL_law_280 rfl dL_law_282 dL_law_283 rfl rfl ?_
  refine lr_callM (pc := 284) (ci := 9) (o := 226) (av := [.int (xs (7 * t + 1)), .int (xs (7 * t + 2)), .int (xs (7 * t + 3)), .int (xs (7 * t + 4)), .int (xs (7 * t + 5)), .int (xs (7 * t + 6))]) (st := [.int r]) F dL_law_284 ck_X11_sizes m_1647 m_1648 m_1649 rfl (by decide) s2 (by decide) (by decide) rfl (by show 1 ≤ 8; decide) rfl (ct_X11_sizes l X hy) (z1.trans rfl) v1 rfl bd.1 bd.2 ?_
  show LW X kLaw p l e room_1 s mm _ below meth c Q 287 _ [.int r, .int r] _ _ _ _ _
  refine lr_icmpeq_t (pc := 287) (tgt := 1186) F dL_law_287 rfl rfl ?_
  exact kk _ _ _ _ _ I1
theorem cs_assemble (G : LG X p l s mm b N9 xs c) {t : Nat} (ht : 7 * t + 7 ≤ N9) {h m ot : AH} {cells slots : Nat} (I : LVI t h m ot cells slots) (kk : ∀ (h m ot : AH) (cells slots : Nat), LVI (t + 1) h m ot cells slots → LW X kLaw p l e room_1 s mm #[Value.ref b] below meth c Q 1186 [(0, .ref b), (1, rf X 1), (2, rf X 226), (3, rf X 277), (4, .int (nI (7 * t)))] [] h m ot cells slots) : LW X kLaw p l e room_1 s mm #[Value.ref b] below meth c Q 292 [(0, .ref b), (1, rf X 1), (2, rf X 226), (3, rf X 277), (4, .int (nI (7 * t)))] [] h m ot cells slots := by
  obtain ⟨F, hX, hbl, hbA, h35, hl⟩ := G
  have t5 : t < 512 := by omega
  have s1 := I.s1
  have o1 := I.o1
  have o2 := I.o2
  rcases LI_ch (K := 0) (X := f_X10_assemble h 1 ) (Y := fun m => f_X11_assemble m 226 ) (by omega) t5 I (fun m s e b R he NM hb => call_assemble  R he NM) with ⟨h1, r, hx, hh⟩ | ⟨h1, hx, hh⟩
  · have ct := (ctr_X10_assemble l X hl hx).1
    obtain ⟨m1, hy, z1, v1, s2, th, I1⟩ := hh ct.1 ct.2
    have I2 := I1 (sL (hB ot (hZ h1)) 277 0 r.toInt64) ⟨o1, o2⟩
    have bd := I2.bd (by omega)
    refine lr_aload_n (pc := 292) (i := 1) F 1 dL_law_292 rfl rfl ?_
    refine lr_aload_n (pc := 293) (i := 3) F 3 dL_law_293 rfl rfl ?_
    refine lr_callW0 (pc := 294) (av := [rf X 1, rf X 277]) (st := []) F dL_law_294 cw_assemble m_714 (by decide) (by decide) rfl (by decide) (ml0_assemble l X hl hx s1 o1 o2) rfl rfl rfl bd.1 bd.2 ?_
    refine lr_hz (hZ h1) ?_
    refine lr_istore (pc := 297) (i := 5) (L' := [(5, .int 0), (0, .ref b), (1, rf X 1), (2, rf X 226), (3, rf X 277), (4, .int (nI (7 * t)))]) F dL_law_297 (by decide) rfl rfl ?_
    refine lr_aload_n (pc := 299) (i := 2) F 3 dL_law_299 rfl rfl ?_
    refine lr_callM (pc := 300) (ci := 9) (o := 226) (av := []) (st := []) F dL_law_300 ck_X11_assemble m_1651 m_1652 m_1653 rfl (by decide) s2 (by decide) (by decide) rfl (by decide) rfl (ct_X11_assemble l X hy) (z1.trans rfl) v1 rfl bd.1 bd.2 ?_
    show LW X kLaw p l e room_1 s mm _ below meth c Q 303 _ [.int r] _ _ _ _ _
    refine lr_istore (pc := 303) (i := 6) (L' := [(6, .int r), (5, .int 0), (0, .ref b), (1, rf X 1), (2, rf X 226), (3, rf X 277), (4, .int (nI (7 * t)))]) F dL_law_303 (by decide) rfl rfl ?_
    refine lr_aload_n (pc := 305) (i := 2) F 4 dL_law_305 rfl rfl ?_
    refine lr_callM (pc := 306) (ci := 9) (o := 226) (av := []) (st := []) F dL_law_306 ck_X11_thrown m_1638 m_1639 m_1640 rfl (by decide) I2.s226 (by decide) (by decide) rfl (by decide) z1 (ct_X11_thrown l X th) rfl rfl rfl bd.1 bd.2 ?_
    show LW X kLaw p l e room_1 s mm _ below meth c Q 309 _ [.int 0] _ _ _ _ _
    refine lr_iload (pc := 309) (i := 5) F 1 dL_law_309 rfl ?_
    refine lr_icmpeq_t (pc := 311) (tgt := 316) F dL_law_311 rfl rfl ?_
    refine lr_iload (pc := 316) (i := 5) F 1 dL_law_316 rfl ?_
    refine lr_ifne_f (pc := 318) (tgt := 333) F dL_law_318 rfl rfl ?_
    refine lr_aload_n (pc := 321) (i := 3) F 5 dL_law_321 rfl rfl ?_
    refine lr_iconst (pc := 322) (v := 0) F dL_law_322 rfl ?_
    refine lr_lald (pc := 323) (v := r.toInt64) F I2.o1 (by rw [I2.o2]; rfl) hL_sL_eq dL_law_323 ?_
    refine lr_iload (pc := 324) (i := 6) F 0 dL_law_324 rfl ?_
    refine lr_i2l (pc := 326) F dL_law_326 ?_
    refine lr_lcmp (pc := 327) F dL_law_327 ?_
    refine lr_ifeq_t (pc := 328) (tgt := 333) F dL_law_328 rfl (lg_cmp_self _) ?_
    refine lr_goto (pc := 333) (tgt := 1186) F dL_law_333 rfl ?_
    refine lr_sub [2, 3, 4, 5, 6] (L' := [(0, .ref b), (1, rf X 1), (2, rf X 226), (3, rf X 277), (4, .int (nI (7 * t)))]) rfl ?_
    exact kk _ _ _ _ _ I2
  · have ct := (ctx_X10_assemble l X hl hx).1
    obtain ⟨bd, hh⟩ := hh ct.1 ct.2
    refine lr_aload_n (pc := 292) (i := 1) F 1 dL_law_292 rfl rfl ?_
    refine lr_aload_n (pc := 293) (i := 3) F 3 dL_law_293 rfl rfl ?_
    refine lr_callW1 (pc := 294) (av := [rf X 1, rf X 277]) (st := []) F dL_law_294 cw_assemble m_714 (by decide) (by decide) rfl (by decide) (ml1_assemble l X hl hx s1 o1 o2) rfl rfl rfl bd.1 bd.2 (fun n hn => ?_)
    obtain ⟨r, m1, hy, z1, v1, s2, th, I2⟩ := hh n hn
    refine lr_hz n ?_
    refine lr_istore (pc := 297) (i := 5) (L' := [(5, .int 1), (0, .ref b), (1, rf X 1), (2, rf X 226), (3, rf X 277), (4, .int (nI (7 * t)))]) F dL_law_297 (by decide) rfl rfl ?_
    refine lr_aload_n (pc := 299) (i := 2) F 3 dL_law_299 rfl rfl ?_
    refine lr_callM (pc := 300) (ci := 9) (o := 226) (av := []) (st := []) F dL_law_300 ck_X11_assemble m_1651 m_1652 m_1653 rfl (by decide) s2 (by decide) (by decide) rfl (by decide) rfl (ct_X11_assemble l X hy) (z1.trans rfl) v1 rfl bd.1 bd.2 ?_
    show LW X kLaw p l e room_1 s mm _ below meth c Q 303 _ [.int r] _ _ _ _ _
    refine lr_istore (pc := 303) (i := 6) (L' := [(6, .int r), (5, .int 1), (0, .ref b), (1, rf X 1), (2, rf X 226), (3, rf X 277), (4, .int (nI (7 * t)))]) F dL_law_303 (by decide) rfl rfl ?_
    refine lr_aload_n (pc := 305) (i := 2) F 4 dL_law_305 rfl rfl ?_
    refine lr_callM (pc := 306) (ci := 9) (o := 226) (av := []) (st := []) F dL_law_306 ck_X11_thrown m_1638 m_1639 m_1640 rfl (by decide) I2.s226 (by decide) (by decide) rfl (by decide) (z1.trans rfl) (ct_X11_thrown l X th) rfl rfl rfl bd.1 bd.2 ?_
    show LW X kLaw p l e room_1 s mm _ below meth c Q 309 _ [.int 1] _ _ _ _ _
    refine lr_iload (pc := 309) (i := 5) F 1 dL_law_309 rfl ?_
    refine lr_icmpeq_t (pc := 311) (tgt := 316) F dL_law_311 rfl rfl ?_
    refine lr_iload (pc := 316) (i := 5) F 1 dL_law_316 rfl ?_
    refine lr_ifne_t (pc := 318) (tgt := 333) F dL_law_318 rfl (by decide) ?_
    refine lr_goto (pc := 333) (tgt := 1186) F dL_law_333 rfl ?_
    refine lr_sub [2, 3, 4, 5, 6] (L' := [(0, .ref b), (1, rf X 1), (2, rf X 226), (3, rf X 277), (4, .int (nI (7 * t)))]) rfl ?_
    exact kk _ _ _ _ _ I2
theorem cs_fault (G : LG X p l s mm b N9 xs c) {t : Nat} (ht : 7 * t + 7 ≤ N9) {h m ot : AH} {cells slots : Nat} (I : LVI t h m ot cells slots) (kk : ∀ (h m ot : AH) (cells slots : Nat), LVI (t + 1) h m ot cells slots → LW X kLaw p l e room_1 s mm #[Value.ref b] below meth c Q 1186 [(0, .ref b), (1, rf X 1), (2, rf X 226), (3, rf X 277), (4, .int (nI (7 * t)))] [] h m ot cells slots) : LW X kLaw p l e room_1 s mm #[Value.ref b] below meth c Q 336 [(0, .ref b), (1, rf X 1), (2, rf X 226), (3, rf X 277), (4, .int (nI (7 * t)))] [] h m ot cells slots := by
  obtain ⟨F, hX, hbl, hbA, h35, hl⟩ := G
  have t5 : t < 512 := by omega
  have s1 := I.s1
  have o1 := I.o1
  have o2 := I.o2
  obtain ⟨r, hx, m1, hy, z1, v1, I1⟩ := LI_cp (X := f_X10_fault h 1 (xs (7 * t + 1))) (Y := fun m => f_X11_fault m 226 (xs (7 * t + 1))) t5 I (fun m s e b R he => call_fault (xs (7 * t + 1)) R he)
  have ct := ct_X10_fault l X hx
  have bd := I1.bd (by omega)
  have s2 := I.s226
  have z9 := I.z
  refine lr_aload_n (pc := 336) (i := 1) F 1 dL_law_336 rfl rfl ?_
  refine lr_get (pc := 337) (j := 1) F hX hbl hbA h35 ht (by decide) 0 4 dL_law_337 dL_law_338 dL_law_340 rfl dL_law_341 dL_law_342 rfl rfl ?_
  refine lr_callC (pc := 343) (ci := 8) (o := 1) (av := [.int (xs (7 * t + 1))]) (st := []) F dL_law_343 ck_X10_fault m_541 m_542 m_543 rfl (by decide) s1 (by decide) (by decide) rfl (by decide) ct rfl (by show cells = cells + (hZ h - hZ h); omega) (by show slots = slots + (hV h - hV h); omega) bd.1 bd.2 ?_
  show LW X kLaw p l e room_1 s mm _ below meth c Q 346 _ [.int r] _ _ _ _ _
  refine lr_aload_n (pc := 346) (i := 2) F 2 dL_law_346 rfl rfl ?_
  refine lr_get (pc := 347) (j := 1) F hX hbl hbA h35 ht (by decide) 0 4 dL_law_347 dL_law_348 dL_law_350 rfl dL_law_351 dL_law_352 rfl rfl ?_
  refine lr_callM (pc := 353) (ci := 9) (o := 226) (av := [.int (xs (7 * t + 1))]) (st := [.int r]) F dL_law_353 ck_X11_fault m_1784 m_1785 m_1786 rfl (by decide) s2 (by decide) (by decide) rfl (by show 1 ≤ 8; decide) z9 (ct_X11_fault l X hy) z1 v1 rfl bd.1 bd.2 ?_
  show LW X kLaw p l e room_1 s mm _ below meth c Q 356 _ [.int r, .int r] _ _ _ _ _
  refine lr_icmpeq_t (pc := 356) (tgt := 1186) F dL_law_356 rfl rfl ?_
  exact kk _ _ _ _ _ I1
theorem cs_step (G : LG X p l s mm b N9 xs c) {t : Nat} (ht : 7 * t + 7 ≤ N9) {h m ot : AH} {cells slots : Nat} (I : LVI t h m ot cells slots) (kk : ∀ (h m ot : AH) (cells slots : Nat), LVI (t + 1) h m ot cells slots → LW X kLaw p l e room_1 s mm #[Value.ref b] below meth c Q 1186 [(0, .ref b), (1, rf X 1), (2, rf X 226), (3, rf X 277), (4, .int (nI (7 * t)))] [] h m ot cells slots) : LW X kLaw p l e room_1 s mm #[Value.ref b] below meth c Q 361 [(0, .ref b), (1, rf X 1), (2, rf X 226), (3, rf X 277), (4, .int (nI (7 * t)))] [] h m ot cells slots := by
  obtain ⟨F, hX, hbl, hbA, h35, hl⟩ := G
  have t5 : t < 512 := by omega
  have s1 := I.s1
  have o1 := I.o1
  have o2 := I.o2
  rcases LI_ch (K := 3) (X := f_X10_step h 1 (xs (7 * t + 1))) (Y := fun m => f_X11_step m 226 (xs (7 * t + 1))) (by omega) t5 I (fun m s e b R he NM hb => call_step (xs (7 * t + 1)) R he (by omega)) with ⟨h1, r, hx, hh⟩ | ⟨h1, hx, hh⟩
  · have ct := (ctr_X10_step l X hl hx).1
    obtain ⟨m1, hy, z1, v1, s2, th, I1⟩ := hh ct.1 ct.2
    have I2 := I1 (sL (hB ot (hZ h1)) 277 0 r.toInt64) ⟨o1, o2⟩
    have bd := I2.bd (by omega)
    refine lr_aload_n (pc := 361) (i := 1) F 1 dL_law_361 rfl rfl ?_
    refine lr_get (pc := 362) (j := 1) F hX hbl hbA h35 ht (by decide) 0 4 dL_law_362 dL_law_363 dL_law_365 rfl dL_law_366 dL_law_367 rfl rfl ?_
    refine lr_aload_n (pc := 368) (i := 3) F 3 dL_law_368 rfl rfl ?_
    refine lr_callW0 (pc := 369) (av := [rf X 1, .int (xs (7 * t + 1)), rf X 277]) (st := []) F dL_law_369 cw_step m_983 (by decide) (by decide) rfl (by decide) (ml0_step l X hl hx s1 o1 o2) rfl rfl rfl bd.1 bd.2 ?_
    refine lr_hz (hZ h1) ?_
    refine lr_istore (pc := 372) (i := 5) (L' := [(5, .int 0), (0, .ref b), (1, rf X 1), (2, rf X 226), (3, rf X 277), (4, .int (nI (7 * t)))]) F dL_law_372 (by decide) rfl rfl ?_
    refine lr_aload_n (pc := 374) (i := 2) F 3 dL_law_374 rfl rfl ?_
    refine lr_get (pc := 375) (j := 1) F hX hbl hbA h35 ht (by decide) 1 5 dL_law_375 dL_law_376 dL_law_378 rfl dL_law_379 dL_law_380 rfl rfl ?_
    refine lr_callM (pc := 381) (ci := 9) (o := 226) (av := [.int (xs (7 * t + 1))]) (st := []) F dL_law_381 ck_X11_step m_1788 m_1789 m_1790 rfl (by decide) s2 (by decide) (by decide) rfl (by decide) rfl (ct_X11_step l X hy) (z1.trans rfl) v1 rfl bd.1 bd.2 ?_
    show LW X kLaw p l e room_1 s mm _ below meth c Q 384 _ [.int r] _ _ _ _ _
    refine lr_istore (pc := 384) (i := 6) (L' := [(6, .int r), (5, .int 0), (0, .ref b), (1, rf X 1), (2, rf X 226), (3, rf X 277), (4, .int (nI (7 * t)))]) F dL_law_384 (by decide) rfl rfl ?_
    refine lr_aload_n (pc := 386) (i := 2) F 4 dL_law_386 rfl rfl ?_
    refine lr_callM (pc := 387) (ci := 9) (o := 226) (av := []) (st := []) F dL_law_387 ck_X11_thrown m_1638 m_1639 m_1640 rfl (by decide) I2.s226 (by decide) (by decide) rfl (by decide) z1 (ct_X11_thrown l X th) rfl rfl rfl bd.1 bd.2 ?_
    show LW X kLaw p l e room_1 s mm _ below meth c Q 390 _ [.int 0] _ _ _ _ _
    refine lr_iload (pc := 390) (i := 5) F 1 dL_law_390 rfl ?_
    refine lr_icmpeq_t (pc := 392) (tgt := 397) F dL_law_392 rfl rfl ?_
    refine lr_iload (pc := 397) (i := 5) F 1 dL_law_397 rfl ?_
    refine lr_ifne_f (pc := 399) (tgt := 414) F dL_law_399 rfl rfl ?_
    refine lr_aload_n (pc := 402) (i := 3) F 5 dL_law_402 rfl rfl ?_
    refine lr_iconst (pc := 403) (v := 0) F dL_law_403 rfl ?_
    refine lr_lald (pc := 404) (v := r.toInt64) F I2.o1 (by rw [I2.o2]; rfl) hL_sL_eq dL_law_404 ?_
    refine lr_iload (pc := 405) (i := 6) F 0 dL_law_405 rfl ?_
    refine lr_i2l (pc := 407) F dL_law_407 ?_
    refine lr_lcmp (pc := 408) F dL_law_408 ?_
    refine lr_ifeq_t (pc := 409) (tgt := 414) F dL_law_409 rfl (lg_cmp_self _) ?_
    refine lr_goto (pc := 414) (tgt := 1186) F dL_law_414 rfl ?_
    refine lr_sub [2, 3, 4, 5, 6] (L' := [(0, .ref b), (1, rf X 1), (2, rf X 226), (3, rf X 277), (4, .int (nI (7 * t)))]) rfl ?_
    exact kk _ _ _ _ _ I2
  · have ct := (ctx_X10_step l X hl hx).1
    obtain ⟨bd, hh⟩ := hh ct.1 ct.2
    refine lr_aload_n (pc := 361) (i := 1) F 1 dL_law_361 rfl rfl ?_
    refine lr_get (pc := 362) (j := 1) F hX hbl hbA h35 ht (by decide) 0 4 dL_law_362 dL_law_363 dL_law_365 rfl dL_law_366 dL_law_367 rfl rfl ?_
    refine lr_aload_n (pc := 368) (i := 3) F 3 dL_law_368 rfl rfl ?_
    refine lr_callW1 (pc := 369) (av := [rf X 1, .int (xs (7 * t + 1)), rf X 277]) (st := []) F dL_law_369 cw_step m_983 (by decide) (by decide) rfl (by decide) (ml1_step l X hl hx s1 o1 o2) rfl rfl rfl bd.1 bd.2 (fun n hn => ?_)
    obtain ⟨r, m1, hy, z1, v1, s2, th, I2⟩ := hh n hn
    refine lr_hz n ?_
    refine lr_istore (pc := 372) (i := 5) (L' := [(5, .int 1), (0, .ref b), (1, rf X 1), (2, rf X 226), (3, rf X 277), (4, .int (nI (7 * t)))]) F dL_law_372 (by decide) rfl rfl ?_
    refine lr_aload_n (pc := 374) (i := 2) F 3 dL_law_374 rfl rfl ?_
    refine lr_get (pc := 375) (j := 1) F hX hbl hbA h35 ht (by decide) 1 5 dL_law_375 dL_law_376 dL_law_378 rfl dL_law_379 dL_law_380 rfl rfl ?_
    refine lr_callM (pc := 381) (ci := 9) (o := 226) (av := [.int (xs (7 * t + 1))]) (st := []) F dL_law_381 ck_X11_step m_1788 m_1789 m_1790 rfl (by decide) s2 (by decide) (by decide) rfl (by decide) rfl (ct_X11_step l X hy) (z1.trans rfl) v1 rfl bd.1 bd.2 ?_
    show LW X kLaw p l e room_1 s mm _ below meth c Q 384 _ [.int r] _ _ _ _ _
    refine lr_istore (pc := 384) (i := 6) (L' := [(6, .int r), (5, .int 1), (0, .ref b), (1, rf X 1), (2, rf X 226), (3, rf X 277), (4, .int (nI (7 * t)))]) F dL_law_384 (by decide) rfl rfl ?_
    refine lr_aload_n (pc := 386) (i := 2) F 4 dL_law_386 rfl rfl ?_
    refine lr_callM (pc := 387) (ci := 9) (o := 226) (av := []) (st := []) F dL_law_387 ck_X11_thrown m_1638 m_1639 m_1640 rfl (by decide) I2.s226 (by decide) (by decide) rfl (by decide) (z1.trans rfl) (ct_X11_thrown l X th) rfl rfl rfl bd.1 bd.2 ?_
    show LW X kLaw p l e room_1 s mm _ below meth c Q 390 _ [.int 1] _ _ _ _ _
    refine lr_iload (pc := 390) (i := 5) F 1 dL_law_390 rfl ?_
    refine lr_icmpeq_t (pc := 392) (tgt := 397) F dL_law_392 rfl rfl ?_
    refine lr_iload (pc := 397) (i := 5) F 1 dL_law_397 rfl ?_
    refine lr_ifne_t (pc := 399) (tgt := 414) F dL_law_399 rfl (by decide) ?_
    refine lr_goto (pc := 414) (tgt := 1186) F dL_law_414 rfl ?_
    refine lr_sub [2, 3, 4, 5, 6] (L' := [(0, .ref b), (1, rf X 1), (2, rf X 226), (3, rf X 277), (4, .int (nI (7 * t)))]) rfl ?_
    exact kk _ _ _ _ _ I2
theorem cs_drain (G : LG X p l s mm b N9 xs c) {t : Nat} (ht : 7 * t + 7 ≤ N9) {h m ot : AH} {cells slots : Nat} (I : LVI t h m ot cells slots) (kk : ∀ (h m ot : AH) (cells slots : Nat), LVI (t + 1) h m ot cells slots → LW X kLaw p l e room_1 s mm #[Value.ref b] below meth c Q 1186 [(0, .ref b), (1, rf X 1), (2, rf X 226), (3, rf X 277), (4, .int (nI (7 * t)))] [] h m ot cells slots) : LW X kLaw p l e room_1 s mm #[Value.ref b] below meth c Q 417 [(0, .ref b), (1, rf X 1), (2, rf X 226), (3, rf X 277), (4, .int (nI (7 * t)))] [] h m ot cells slots := by
  obtain ⟨F, hX, hbl, hbA, h35, hl⟩ := G
  have t5 : t < 512 := by omega
  have s1 := I.s1
  have o1 := I.o1
  have o2 := I.o2
  rcases LI_ch (K := 3) (X := f_X10_drain h 1 (xs (7 * t + 1))) (Y := fun m => f_X11_drain m 226 (xs (7 * t + 1))) (by omega) t5 I (fun m s e b R he NM hb => call_drain (xs (7 * t + 1)) R he (by omega)) with ⟨h1, r, hx, hh⟩ | ⟨h1, hx, hh⟩
  · have ct := (ctr_X10_drain l X hl hx).1
    obtain ⟨m1, hy, z1, v1, s2, th, I1⟩ := hh ct.1 ct.2
    have I2 := I1 (sL (hB ot (hZ h1)) 277 0 r.toInt64) ⟨o1, o2⟩
    have bd := I2.bd (by omega)
    refine lr_aload_n (pc := 417) (i := 1) F 1 dL_law_417 rfl rfl ?_
    refine lr_get (pc := 418) (j := 1) F hX hbl hbA h35 ht (by decide) 0 4 dL_law_418 dL_law_419 dL_law_421 rfl dL_law_422 dL_law_423 rfl rfl ?_
    refine lr_aload_n (pc := 424) (i := 3) F 3 dL_law_424 rfl rfl ?_
    refine lr_callW0 (pc := 425) (av := [rf X 1, .int (xs (7 * t + 1)), rf X 277]) (st := []) F dL_law_425 cw_drain m_1144 (by decide) (by decide) rfl (by decide) (ml0_drain l X hl hx s1 o1 o2) rfl rfl rfl bd.1 bd.2 ?_
    refine lr_hz (hZ h1) ?_
    refine lr_istore (pc := 428) (i := 5) (L' := [(5, .int 0), (0, .ref b), (1, rf X 1), (2, rf X 226), (3, rf X 277), (4, .int (nI (7 * t)))]) F dL_law_428 (by decide) rfl rfl ?_
    refine lr_aload_n (pc := 430) (i := 2) F 3 dL_law_430 rfl rfl ?_
    refine lr_get (pc := 431) (j := 1) F hX hbl hbA h35 ht (by decide) 1 5 dL_law_431 dL_law_432 dL_law_434 rfl dL_law_435 dL_law_436 rfl rfl ?_
    refine lr_callM (pc := 437) (ci := 9) (o := 226) (av := [.int (xs (7 * t + 1))]) (st := []) F dL_law_437 ck_X11_drain m_1891 m_1892 m_1893 rfl (by decide) s2 (by decide) (by decide) rfl (by decide) rfl (ct_X11_drain l X hy) (z1.trans rfl) v1 rfl bd.1 bd.2 ?_
    show LW X kLaw p l e room_1 s mm _ below meth c Q 440 _ [.int r] _ _ _ _ _
    refine lr_istore (pc := 440) (i := 6) (L' := [(6, .int r), (5, .int 0), (0, .ref b), (1, rf X 1), (2, rf X 226), (3, rf X 277), (4, .int (nI (7 * t)))]) F dL_law_440 (by decide) rfl rfl ?_
    refine lr_aload_n (pc := 442) (i := 2) F 4 dL_law_442 rfl rfl ?_
    refine lr_callM (pc := 443) (ci := 9) (o := 226) (av := []) (st := []) F dL_law_443 ck_X11_thrown m_1638 m_1639 m_1640 rfl (by decide) I2.s226 (by decide) (by decide) rfl (by decide) z1 (ct_X11_thrown l X th) rfl rfl rfl bd.1 bd.2 ?_
    show LW X kLaw p l e room_1 s mm _ below meth c Q 446 _ [.int 0] _ _ _ _ _
    refine lr_iload (pc := 446) (i := 5) F 1 dL_law_446 rfl ?_
    refine lr_icmpeq_t (pc := 448) (tgt := 453) F dL_law_448 rfl rfl ?_
    refine lr_iload (pc := 453) (i := 5) F 1 dL_law_453 rfl ?_
    refine lr_ifne_f (pc := 455) (tgt := 470) F dL_law_455 rfl rfl ?_
    refine lr_aload_n (pc := 458) (i := 3) F 5 dL_law_458 rfl rfl ?_
    refine lr_iconst (pc := 459) (v := 0) F dL_law_459 rfl ?_
    refine lr_lald (pc := 460) (v := r.toInt64) F I2.o1 (by rw [I2.o2]; rfl) hL_sL_eq dL_law_460 ?_
    refine lr_iload (pc := 461) (i := 6) F 0 dL_law_461 rfl ?_
    refine lr_i2l (pc := 463) F dL_law_463 ?_
    refine lr_lcmp (pc := 464) F dL_law_464 ?_
    refine lr_ifeq_t (pc := 465) (tgt := 470) F dL_law_465 rfl (lg_cmp_self _) ?_
    refine lr_goto (pc := 470) (tgt := 1186) F dL_law_470 rfl ?_
    refine lr_sub [2, 3, 4, 5, 6] (L' := [(0, .ref b), (1, rf X 1), (2, rf X 226), (3, rf X 277), (4, .int (nI (7 * t)))]) rfl ?_
    exact kk _ _ _ _ _ I2
  · have ct := (ctx_X10_drain l X hl hx).1
    obtain ⟨bd, hh⟩ := hh ct.1 ct.2
    refine lr_aload_n (pc := 417) (i := 1) F 1 dL_law_417 rfl rfl ?_
    refine lr_get (pc := 418) (j := 1) F hX hbl hbA h35 ht (by decide) 0 4 dL_law_418 dL_law_419 dL_law_421 rfl dL_law_422 dL_law_423 rfl rfl ?_
    refine lr_aload_n (pc := 424) (i := 3) F 3 dL_law_424 rfl rfl ?_
    refine lr_callW1 (pc := 425) (av := [rf X 1, .int (xs (7 * t + 1)), rf X 277]) (st := []) F dL_law_425 cw_drain m_1144 (by decide) (by decide) rfl (by decide) (ml1_drain l X hl hx s1 o1 o2) rfl rfl rfl bd.1 bd.2 (fun n hn => ?_)
    obtain ⟨r, m1, hy, z1, v1, s2, th, I2⟩ := hh n hn
    refine lr_hz n ?_
    refine lr_istore (pc := 428) (i := 5) (L' := [(5, .int 1), (0, .ref b), (1, rf X 1), (2, rf X 226), (3, rf X 277), (4, .int (nI (7 * t)))]) F dL_law_428 (by decide) rfl rfl ?_
    refine lr_aload_n (pc := 430) (i := 2) F 3 dL_law_430 rfl rfl ?_
    refine lr_get (pc := 431) (j := 1) F hX hbl hbA h35 ht (by decide) 1 5 dL_law_431 dL_law_432 dL_law_434 rfl dL_law_435 dL_law_436 rfl rfl ?_
    refine lr_callM (pc := 437) (ci := 9) (o := 226) (av := [.int (xs (7 * t + 1))]) (st := []) F dL_law_437 ck_X11_drain m_1891 m_1892 m_1893 rfl (by decide) s2 (by decide) (by decide) rfl (by decide) rfl (ct_X11_drain l X hy) (z1.trans rfl) v1 rfl bd.1 bd.2 ?_
    show LW X kLaw p l e room_1 s mm _ below meth c Q 440 _ [.int r] _ _ _ _ _
    refine lr_istore (pc := 440) (i := 6) (L' := [(6, .int r), (5, .int 1), (0, .ref b), (1, rf X 1), (2, rf X 226), (3, rf X 277), (4, .int (nI (7 * t)))]) F dL_law_440 (by decide) rfl rfl ?_
    refine lr_aload_n (pc := 442) (i := 2) F 4 dL_law_442 rfl rfl ?_
    refine lr_callM (pc := 443) (ci := 9) (o := 226) (av := []) (st := []) F dL_law_443 ck_X11_thrown m_1638 m_1639 m_1640 rfl (by decide) I2.s226 (by decide) (by decide) rfl (by decide) (z1.trans rfl) (ct_X11_thrown l X th) rfl rfl rfl bd.1 bd.2 ?_
    show LW X kLaw p l e room_1 s mm _ below meth c Q 446 _ [.int 1] _ _ _ _ _
    refine lr_iload (pc := 446) (i := 5) F 1 dL_law_446 rfl ?_
    refine lr_icmpeq_t (pc := 448) (tgt := 453) F dL_law_448 rfl rfl ?_
    refine lr_iload (pc := 453) (i := 5) F 1 dL_law_453 rfl ?_
    refine lr_ifne_t (pc := 455) (tgt := 470) F dL_law_455 rfl (by decide) ?_
    refine lr_goto (pc := 470) (tgt := 1186) F dL_law_470 rfl ?_
    refine lr_sub [2, 3, 4, 5, 6] (L' := [(0, .ref b), (1, rf X 1), (2, rf X 226), (3, rf X 277), (4, .int (nI (7 * t)))]) rfl ?_
    exact kk _ _ _ _ _ I2
theorem cs_deliver (G : LG X p l s mm b N9 xs c) {t : Nat} (ht : 7 * t + 7 ≤ N9) {h m ot : AH} {cells slots : Nat} (I : LVI t h m ot cells slots) (kk : ∀ (h m ot : AH) (cells slots : Nat), LVI (t + 1) h m ot cells slots → LW X kLaw p l e room_1 s mm #[Value.ref b] below meth c Q 1186 [(0, .ref b), (1, rf X 1), (2, rf X 226), (3, rf X 277), (4, .int (nI (7 * t)))] [] h m ot cells slots) : LW X kLaw p l e room_1 s mm #[Value.ref b] below meth c Q 473 [(0, .ref b), (1, rf X 1), (2, rf X 226), (3, rf X 277), (4, .int (nI (7 * t)))] [] h m ot cells slots := by
  obtain ⟨F, hX, hbl, hbA, h35, hl⟩ := G
  have t5 : t < 512 := by omega
  have s1 := I.s1
  have o1 := I.o1
  have o2 := I.o2
  obtain ⟨h1, r, hx, hh⟩ := LI_cl (K := 0) (X := f_X10_deliver h 1 (xs (7 * t + 1))) (Y := fun m => f_X11_deliver m 226 (xs (7 * t + 1))) (by omega) t5 I (fun m s e b R he NM hb => call_deliver (xs (7 * t + 1)) R he)
  have ct := ct_X10_deliver l X hx
  obtain ⟨m1, hy, z1, v1, s2, I1⟩ := hh ct.1.1 ct.1.2
  have bd := I1.bd (by omega)
  refine lr_aload_n (pc := 473) (i := 1) F 1 dL_law_473 rfl rfl ?_
  refine lr_get (pc := 474) (j := 1) F hX hbl hbA h35 ht (by decide) 0 4 dL_law_474 dL_law_475 dL_law_477 rfl dL_law_478 dL_law_479 rfl rfl ?_
  refine lr_callC (pc := 480) (ci := 8) (o := 1) (av := [.int (xs (7 * t + 1))]) (st := []) F dL_law_480 ck_X10_deliver m_545 m_546 m_547 rfl (by decide) s1 (by decide) (by decide) rfl (by decide) ct rfl rfl rfl bd.1 bd.2 ?_
  refine lr_hz (hZ h1) ?_
  show LW X kLaw p l e room_1 s mm _ below meth c Q 483 _ [.int r] _ _ _ _ _
  refine lr_aload_n (pc := 483) (i := 2) F 2 dL_law_483 rfl rfl ?_
  refine lr_get (pc := 484) (j := 1) F hX hbl hbA h35 ht (by decide) 0 4 dL_law_484 dL_law_485 dL_law_487 rfl dL_law_488 dL_law_489 rfl rfl ?_
  refine lr_callM (pc := 490) (ci := 9) (o := 226) (av := [.int (xs (7 * t + 1))]) (st := [.int r]) F dL_law_490 ck_X11_deliver m_1899 m_1900 m_1901 rfl (by decide) s2 (by decide) (by decide) rfl (by show 1 ≤ 8; decide) rfl (ct_X11_deliver l X hy) (z1.trans rfl) v1 rfl bd.1 bd.2 ?_
  show LW X kLaw p l e room_1 s mm _ below meth c Q 493 _ [.int r, .int r] _ _ _ _ _
  refine lr_icmpeq_t (pc := 493) (tgt := 1186) F dL_law_493 rfl rfl ?_
  exact kk _ _ _ _ _ I1
theorem cs_deliverOn (G : LG X p l s mm b N9 xs c) {t : Nat} (ht : 7 * t + 7 ≤ N9) {h m ot : AH} {cells slots : Nat} (I : LVI t h m ot cells slots) (kk : ∀ (h m ot : AH) (cells slots : Nat), LVI (t + 1) h m ot cells slots → LW X kLaw p l e room_1 s mm #[Value.ref b] below meth c Q 1186 [(0, .ref b), (1, rf X 1), (2, rf X 226), (3, rf X 277), (4, .int (nI (7 * t)))] [] h m ot cells slots) : LW X kLaw p l e room_1 s mm #[Value.ref b] below meth c Q 498 [(0, .ref b), (1, rf X 1), (2, rf X 226), (3, rf X 277), (4, .int (nI (7 * t)))] [] h m ot cells slots := by
  obtain ⟨F, hX, hbl, hbA, h35, hl⟩ := G
  have t5 : t < 512 := by omega
  have s1 := I.s1
  have o1 := I.o1
  have o2 := I.o2
  obtain ⟨h1, r, hx, hh⟩ := LI_cl (K := 0) (X := f_X10_deliverOn h 1 (xs (7 * t + 1)) (xs (7 * t + 2))) (Y := fun m => f_X11_deliverOn m 226 (xs (7 * t + 1)) (xs (7 * t + 2))) (by omega) t5 I (fun m s e b R he NM hb => call_deliverOn (xs (7 * t + 1)) (xs (7 * t + 2)) R he)
  have ct := ct_X10_deliverOn l X hx
  obtain ⟨m1, hy, z1, v1, s2, I1⟩ := hh ct.1.1 ct.1.2
  have bd := I1.bd (by omega)
  refine lr_aload_n (pc := 498) (i := 1) F 1 dL_law_498 rfl rfl ?_
  refine lr_get (pc := 499) (j := 1) F hX hbl hbA h35 ht (by decide) 0 4 dL_law_499 dL_law_500 dL_law_502 rfl dL_law_503 dL_law_504 rfl rfl ?_
  refine lr_get (pc := 505) (j := 2) F hX hbl hbA h35 ht (by decide) 0 4 dL_law_505 dL_law_506 dL_law_508 rfl dL_law_509 dL_law_510 rfl rfl ?_
  refine lr_callC (pc := 511) (ci := 8) (o := 1) (av := [.int (xs (7 * t + 1)), .int (xs (7 * t + 2))]) (st := []) F dL_law_511 ck_X10_deliverOn m_671 m_672 m_673 rfl (by decide) s1 (by decide) (by decide) rfl (by decide) ct rfl rfl rfl bd.1 bd.2 ?_
  refine lr_hz (hZ h1) ?_
  show LW X kLaw p l e room_1 s mm _ below meth c Q 514 _ [.int r] _ _ _ _ _
  refine lr_aload_n (pc := 514) (i := 2) F 2 dL_law_514 rfl rfl ?_
  refine lr_get (pc := 515) (j := 1) F hX hbl hbA h35 ht (by decide) 0 4 dL_law_515 dL_law_516 dL_law_518 rfl dL_law_519 dL_law_520 rfl rfl ?_
  refine lr_get (pc := 521) (j := 2) F hX hbl hbA h35 ht (by decide) 0 4 dL_law_521 dL_law_522 dL_law_524 rfl dL_law_525 dL_law_526 rfl rfl ?_
  refine lr_callM (pc := 527) (ci := 9) (o := 226) (av := [.int (xs (7 * t + 1)), .int (xs (7 * t + 2))]) (st := [.int r]) F dL_law_527 ck_X11_deliverOn m_1967 m_1968 m_1969 rfl (by decide) s2 (by decide) (by decide) rfl (by show 1 ≤ 8; decide) rfl (ct_X11_deliverOn l X hy) (z1.trans rfl) v1 rfl bd.1 bd.2 ?_
  show LW X kLaw p l e room_1 s mm _ below meth c Q 530 _ [.int r, .int r] _ _ _ _ _
  refine lr_icmpeq_t (pc := 530) (tgt := 1186) F dL_law_530 rfl rfl ?_
  exact kk _ _ _ _ _ I1
theorem cs_run (G : LG X p l s mm b N9 xs c) {t : Nat} (ht : 7 * t + 7 ≤ N9) {h m ot : AH} {cells slots : Nat} (I : LVI t h m ot cells slots) (kk : ∀ (h m ot : AH) (cells slots : Nat), LVI (t + 1) h m ot cells slots → LW X kLaw p l e room_1 s mm #[Value.ref b] below meth c Q 1186 [(0, .ref b), (1, rf X 1), (2, rf X 226), (3, rf X 277), (4, .int (nI (7 * t)))] [] h m ot cells slots) : LW X kLaw p l e room_1 s mm #[Value.ref b] below meth c Q 535 [(0, .ref b), (1, rf X 1), (2, rf X 226), (3, rf X 277), (4, .int (nI (7 * t)))] [] h m ot cells slots := by
  obtain ⟨F, hX, hbl, hbA, h35, hl⟩ := G
  have t5 : t < 512 := by omega
  have s1 := I.s1
  have o1 := I.o1
  have o2 := I.o2
  rcases LI_ch (K := 12800) (X := f_X10_run h 1 (xs (7 * t + 1))) (Y := fun m => f_X11_run m 226 (xs (7 * t + 1))) (by omega) t5 I (fun m s e b R he NM hb => call_run (xs (7 * t + 1)) R he hb) with ⟨h1, r, hx, hh⟩ | ⟨h1, hx, hh⟩
  · have ct := (ctr_X10_run l X hl hx).1
    obtain ⟨m1, hy, z1, v1, s2, th, I1⟩ := hh ct.1 ct.2
    have I2 := I1 (sL (hB ot (hZ h1)) 277 0 r.toInt64) ⟨o1, o2⟩
    have bd := I2.bd (by omega)
    refine lr_aload_n (pc := 535) (i := 1) F 1 dL_law_535 rfl rfl ?_
    refine lr_get (pc := 536) (j := 1) F hX hbl hbA h35 ht (by decide) 0 4 dL_law_536 dL_law_537 dL_law_539 rfl dL_law_540 dL_law_541 rfl rfl ?_
    refine lr_aload_n (pc := 542) (i := 3) F 3 dL_law_542 rfl rfl ?_
    refine lr_callW0 (pc := 543) (av := [rf X 1, .int (xs (7 * t + 1)), rf X 277]) (st := []) F dL_law_543 cw_run m_1161 (by decide) (by decide) rfl (by decide) (ml0_run l X hl hx s1 o1 o2) rfl rfl rfl bd.1 bd.2 ?_
    refine lr_hz (hZ h1) ?_
    refine lr_istore (pc := 546) (i := 5) (L' := [(5, .int 0), (0, .ref b), (1, rf X 1), (2, rf X 226), (3, rf X 277), (4, .int (nI (7 * t)))]) F dL_law_546 (by decide) rfl rfl ?_
    refine lr_aload_n (pc := 548) (i := 2) F 3 dL_law_548 rfl rfl ?_
    refine lr_get (pc := 549) (j := 1) F hX hbl hbA h35 ht (by decide) 1 5 dL_law_549 dL_law_550 dL_law_552 rfl dL_law_553 dL_law_554 rfl rfl ?_
    refine lr_callM (pc := 555) (ci := 9) (o := 226) (av := [.int (xs (7 * t + 1))]) (st := []) F dL_law_555 ck_X11_run m_1978 m_1979 m_1980 rfl (by decide) s2 (by decide) (by decide) rfl (by decide) rfl (ct_X11_run l X hy) (z1.trans rfl) v1 rfl bd.1 bd.2 ?_
    show LW X kLaw p l e room_1 s mm _ below meth c Q 558 _ [.int r] _ _ _ _ _
    refine lr_istore (pc := 558) (i := 6) (L' := [(6, .int r), (5, .int 0), (0, .ref b), (1, rf X 1), (2, rf X 226), (3, rf X 277), (4, .int (nI (7 * t)))]) F dL_law_558 (by decide) rfl rfl ?_
    refine lr_aload_n (pc := 560) (i := 2) F 4 dL_law_560 rfl rfl ?_
    refine lr_callM (pc := 561) (ci := 9) (o := 226) (av := []) (st := []) F dL_law_561 ck_X11_thrown m_1638 m_1639 m_1640 rfl (by decide) I2.s226 (by decide) (by decide) rfl (by decide) z1 (ct_X11_thrown l X th) rfl rfl rfl bd.1 bd.2 ?_
    show LW X kLaw p l e room_1 s mm _ below meth c Q 564 _ [.int 0] _ _ _ _ _
    refine lr_iload (pc := 564) (i := 5) F 1 dL_law_564 rfl ?_
    refine lr_icmpeq_t (pc := 566) (tgt := 571) F dL_law_566 rfl rfl ?_
    refine lr_iload (pc := 571) (i := 5) F 1 dL_law_571 rfl ?_
    refine lr_ifne_f (pc := 573) (tgt := 588) F dL_law_573 rfl rfl ?_
    refine lr_aload_n (pc := 576) (i := 3) F 5 dL_law_576 rfl rfl ?_
    refine lr_iconst (pc := 577) (v := 0) F dL_law_577 rfl ?_
    refine lr_lald (pc := 578) (v := r.toInt64) F I2.o1 (by rw [I2.o2]; rfl) hL_sL_eq dL_law_578 ?_
    refine lr_iload (pc := 579) (i := 6) F 0 dL_law_579 rfl ?_
    refine lr_i2l (pc := 581) F dL_law_581 ?_
    refine lr_lcmp (pc := 582) F dL_law_582 ?_
    refine lr_ifeq_t (pc := 583) (tgt := 588) F dL_law_583 rfl (lg_cmp_self _) ?_
    refine lr_goto (pc := 588) (tgt := 1186) F dL_law_588 rfl ?_
    refine lr_sub [2, 3, 4, 5, 6] (L' := [(0, .ref b), (1, rf X 1), (2, rf X 226), (3, rf X 277), (4, .int (nI (7 * t)))]) rfl ?_
    exact kk _ _ _ _ _ I2
  · have ct := (ctx_X10_run l X hl hx).1
    obtain ⟨bd, hh⟩ := hh ct.1 ct.2
    refine lr_aload_n (pc := 535) (i := 1) F 1 dL_law_535 rfl rfl ?_
    refine lr_get (pc := 536) (j := 1) F hX hbl hbA h35 ht (by decide) 0 4 dL_law_536 dL_law_537 dL_law_539 rfl dL_law_540 dL_law_541 rfl rfl ?_
    refine lr_aload_n (pc := 542) (i := 3) F 3 dL_law_542 rfl rfl ?_
    refine lr_callW1 (pc := 543) (av := [rf X 1, .int (xs (7 * t + 1)), rf X 277]) (st := []) F dL_law_543 cw_run m_1161 (by decide) (by decide) rfl (by decide) (ml1_run l X hl hx s1 o1 o2) rfl rfl rfl bd.1 bd.2 (fun n hn => ?_)
    obtain ⟨r, m1, hy, z1, v1, s2, th, I2⟩ := hh n hn
    refine lr_hz n ?_
    refine lr_istore (pc := 546) (i := 5) (L' := [(5, .int 1), (0, .ref b), (1, rf X 1), (2, rf X 226), (3, rf X 277), (4, .int (nI (7 * t)))]) F dL_law_546 (by decide) rfl rfl ?_
    refine lr_aload_n (pc := 548) (i := 2) F 3 dL_law_548 rfl rfl ?_
    refine lr_get (pc := 549) (j := 1) F hX hbl hbA h35 ht (by decide) 1 5 dL_law_549 dL_law_550 dL_law_552 rfl dL_law_553 dL_law_554 rfl rfl ?_
    refine lr_callM (pc := 555) (ci := 9) (o := 226) (av := [.int (xs (7 * t + 1))]) (st := []) F dL_law_555 ck_X11_run m_1978 m_1979 m_1980 rfl (by decide) s2 (by decide) (by decide) rfl (by decide) rfl (ct_X11_run l X hy) (z1.trans rfl) v1 rfl bd.1 bd.2 ?_
    show LW X kLaw p l e room_1 s mm _ below meth c Q 558 _ [.int r] _ _ _ _ _
    refine lr_istore (pc := 558) (i := 6) (L' := [(6, .int r), (5, .int 1), (0, .ref b), (1, rf X 1), (2, rf X 226), (3, rf X 277), (4, .int (nI (7 * t)))]) F dL_law_558 (by decide) rfl rfl ?_
    refine lr_aload_n (pc := 560) (i := 2) F 4 dL_law_560 rfl rfl ?_
    refine lr_callM (pc := 561) (ci := 9) (o := 226) (av := []) (st := []) F dL_law_561 ck_X11_thrown m_1638 m_1639 m_1640 rfl (by decide) I2.s226 (by decide) (by decide) rfl (by decide) (z1.trans rfl) (ct_X11_thrown l X th) rfl rfl rfl bd.1 bd.2 ?_
    show LW X kLaw p l e room_1 s mm _ below meth c Q 564 _ [.int 1] _ _ _ _ _
    refine lr_iload (pc := 564) (i := 5) F 1 dL_law_564 rfl ?_
    refine lr_icmpeq_t (pc := 566) (tgt := 571) F dL_law_566 rfl rfl ?_
    refine lr_iload (pc := 571) (i := 5) F 1 dL_law_571 rfl ?_
    refine lr_ifne_t (pc := 573) (tgt := 588) F dL_law_573 rfl (by decide) ?_
    refine lr_goto (pc := 588) (tgt := 1186) F dL_law_588 rfl ?_
    refine lr_sub [2, 3, 4, 5, 6] (L' := [(0, .ref b), (1, rf X 1), (2, rf X 226), (3, rf X 277), (4, .int (nI (7 * t)))]) rfl ?_
    exact kk _ _ _ _ _ I2
theorem cs_play (G : LG X p l s mm b N9 xs c) {t : Nat} (ht : 7 * t + 7 ≤ N9) {h m ot : AH} {cells slots : Nat} (I : LVI t h m ot cells slots) (kk : ∀ (h m ot : AH) (cells slots : Nat), LVI (t + 1) h m ot cells slots → LW X kLaw p l e room_1 s mm #[Value.ref b] below meth c Q 1186 [(0, .ref b), (1, rf X 1), (2, rf X 226), (3, rf X 277), (4, .int (nI (7 * t)))] [] h m ot cells slots) : LW X kLaw p l e room_1 s mm #[Value.ref b] below meth c Q 591 [(0, .ref b), (1, rf X 1), (2, rf X 226), (3, rf X 277), (4, .int (nI (7 * t)))] [] h m ot cells slots := by
  obtain ⟨F, hX, hbl, hbA, h35, hl⟩ := G
  have t5 : t < 512 := by omega
  have s1 := I.s1
  have o1 := I.o1
  have o2 := I.o2
  rcases LI_ch (K := 4500) (X := f_X10_play h 1 ) (Y := fun m => f_X11_play m 226 ) (by omega) t5 I (fun m s e b R he NM hb => call_play  R he (by omega)) with ⟨h1, r, hx, hh⟩ | ⟨h1, hx, hh⟩
  · have ct := (ctr_X10_play l X hl hx).1
    obtain ⟨m1, hy, z1, v1, s2, th, I1⟩ := hh ct.1 ct.2
    have I2 := I1 (sL (hB ot (hZ h1)) 277 0 r.toInt64) ⟨o1, o2⟩
    have bd := I2.bd (by omega)
    refine lr_aload_n (pc := 591) (i := 1) F 1 dL_law_591 rfl rfl ?_
    refine lr_aload_n (pc := 592) (i := 3) F 3 dL_law_592 rfl rfl ?_
    refine lr_callW0 (pc := 593) (av := [rf X 1, rf X 277]) (st := []) F dL_law_593 cw_play m_1170 (by decide) (by decide) rfl (by decide) (ml0_play l X hl hx s1 o1 o2) rfl rfl rfl bd.1 bd.2 ?_
    refine lr_hz (hZ h1) ?_
    refine lr_istore (pc := 596) (i := 5) (L' := [(5, .int 0), (0, .ref b), (1, rf X 1), (2, rf X 226), (3, rf X 277), (4, .int (nI (7 * t)))]) F dL_law_596 (by decide) rfl rfl ?_
    refine lr_aload_n (pc := 598) (i := 2) F 3 dL_law_598 rfl rfl ?_
    refine lr_callM (pc := 599) (ci := 9) (o := 226) (av := []) (st := []) F dL_law_599 ck_X11_play m_1982 m_1983 m_1984 rfl (by decide) s2 (by decide) (by decide) rfl (by decide) rfl (ct_X11_play l X hy) (z1.trans rfl) v1 rfl bd.1 bd.2 ?_
    show LW X kLaw p l e room_1 s mm _ below meth c Q 602 _ [.int r] _ _ _ _ _
    refine lr_istore (pc := 602) (i := 6) (L' := [(6, .int r), (5, .int 0), (0, .ref b), (1, rf X 1), (2, rf X 226), (3, rf X 277), (4, .int (nI (7 * t)))]) F dL_law_602 (by decide) rfl rfl ?_
    refine lr_aload_n (pc := 604) (i := 2) F 4 dL_law_604 rfl rfl ?_
    refine lr_callM (pc := 605) (ci := 9) (o := 226) (av := []) (st := []) F dL_law_605 ck_X11_thrown m_1638 m_1639 m_1640 rfl (by decide) I2.s226 (by decide) (by decide) rfl (by decide) z1 (ct_X11_thrown l X th) rfl rfl rfl bd.1 bd.2 ?_
    show LW X kLaw p l e room_1 s mm _ below meth c Q 608 _ [.int 0] _ _ _ _ _
    refine lr_iload (pc := 608) (i := 5) F 1 dL_law_608 rfl ?_
    refine lr_icmpeq_t (pc := 610) (tgt := 615) F dL_law_610 rfl rfl ?_
    refine lr_iload (pc := 615) (i := 5) F 1 dL_law_615 rfl ?_
    refine lr_ifne_f (pc := 617) (tgt := 632) F dL_law_617 rfl rfl ?_
    refine lr_aload_n (pc := 620) (i := 3) F 5 dL_law_620 rfl rfl ?_
    refine lr_iconst (pc := 621) (v := 0) F dL_law_621 rfl ?_
    refine lr_lald (pc := 622) (v := r.toInt64) F I2.o1 (by rw [I2.o2]; rfl) hL_sL_eq dL_law_622 ?_
    refine lr_iload (pc := 623) (i := 6) F 0 dL_law_623 rfl ?_
    refine lr_i2l (pc := 625) F dL_law_625 ?_
    refine lr_lcmp (pc := 626) F dL_law_626 ?_
    refine lr_ifeq_t (pc := 627) (tgt := 632) F dL_law_627 rfl (lg_cmp_self _) ?_
    refine lr_goto (pc := 632) (tgt := 1186) F dL_law_632 rfl ?_
    refine lr_sub [2, 3, 4, 5, 6] (L' := [(0, .ref b), (1, rf X 1), (2, rf X 226), (3, rf X 277), (4, .int (nI (7 * t)))]) rfl ?_
    exact kk _ _ _ _ _ I2
  · have ct := (ctx_X10_play l X hl hx).1
    obtain ⟨bd, hh⟩ := hh ct.1 ct.2
    refine lr_aload_n (pc := 591) (i := 1) F 1 dL_law_591 rfl rfl ?_
    refine lr_aload_n (pc := 592) (i := 3) F 3 dL_law_592 rfl rfl ?_
    refine lr_callW1 (pc := 593) (av := [rf X 1, rf X 277]) (st := []) F dL_law_593 cw_play m_1170 (by decide) (by decide) rfl (by decide) (ml1_play l X hl hx s1 o1 o2) rfl rfl rfl bd.1 bd.2 (fun n hn => ?_)
    obtain ⟨r, m1, hy, z1, v1, s2, th, I2⟩ := hh n hn
    refine lr_hz n ?_
    refine lr_istore (pc := 596) (i := 5) (L' := [(5, .int 1), (0, .ref b), (1, rf X 1), (2, rf X 226), (3, rf X 277), (4, .int (nI (7 * t)))]) F dL_law_596 (by decide) rfl rfl ?_
    refine lr_aload_n (pc := 598) (i := 2) F 3 dL_law_598 rfl rfl ?_
    refine lr_callM (pc := 599) (ci := 9) (o := 226) (av := []) (st := []) F dL_law_599 ck_X11_play m_1982 m_1983 m_1984 rfl (by decide) s2 (by decide) (by decide) rfl (by decide) rfl (ct_X11_play l X hy) (z1.trans rfl) v1 rfl bd.1 bd.2 ?_
    show LW X kLaw p l e room_1 s mm _ below meth c Q 602 _ [.int r] _ _ _ _ _
    refine lr_istore (pc := 602) (i := 6) (L' := [(6, .int r), (5, .int 1), (0, .ref b), (1, rf X 1), (2, rf X 226), (3, rf X 277), (4, .int (nI (7 * t)))]) F dL_law_602 (by decide) rfl rfl ?_
    refine lr_aload_n (pc := 604) (i := 2) F 4 dL_law_604 rfl rfl ?_
    refine lr_callM (pc := 605) (ci := 9) (o := 226) (av := []) (st := []) F dL_law_605 ck_X11_thrown m_1638 m_1639 m_1640 rfl (by decide) I2.s226 (by decide) (by decide) rfl (by decide) (z1.trans rfl) (ct_X11_thrown l X th) rfl rfl rfl bd.1 bd.2 ?_
    show LW X kLaw p l e room_1 s mm _ below meth c Q 608 _ [.int 1] _ _ _ _ _
    refine lr_iload (pc := 608) (i := 5) F 1 dL_law_608 rfl ?_
    refine lr_icmpeq_t (pc := 610) (tgt := 615) F dL_law_610 rfl rfl ?_
    refine lr_iload (pc := 615) (i := 5) F 1 dL_law_615 rfl ?_
    refine lr_ifne_t (pc := 617) (tgt := 632) F dL_law_617 rfl (by decide) ?_
    refine lr_goto (pc := 632) (tgt := 1186) F dL_law_632 rfl ?_
    refine lr_sub [2, 3, 4, 5, 6] (L' := [(0, .ref b), (1, rf X 1), (2, rf X 226), (3, rf X 277), (4, .int (nI (7 * t)))]) rfl ?_
    exact kk _ _ _ _ _ I2
theorem cs_trace (G : LG X p l s mm b N9 xs c) {t : Nat} (ht : 7 * t + 7 ≤ N9) {h m ot : AH} {cells slots : Nat} (I : LVI t h m ot cells slots) (kk : ∀ (h m ot : AH) (cells slots : Nat), LVI (t + 1) h m ot cells slots → LW X kLaw p l e room_1 s mm #[Value.ref b] below meth c Q 1186 [(0, .ref b), (1, rf X 1), (2, rf X 226), (3, rf X 277), (4, .int (nI (7 * t)))] [] h m ot cells slots) : LW X kLaw p l e room_1 s mm #[Value.ref b] below meth c Q 635 [(0, .ref b), (1, rf X 1), (2, rf X 226), (3, rf X 277), (4, .int (nI (7 * t)))] [] h m ot cells slots := by
  obtain ⟨F, hX, hbl, hbA, h35, hl⟩ := G
  have t5 : t < 512 := by omega
  have s1 := I.s1
  have o1 := I.o1
  have o2 := I.o2
  rcases LI_ch (K := 0) (X := f_X10_trace h 1 (xs (7 * t + 1)) (xs (7 * t + 2)) (xs (7 * t + 3))) (Y := fun m => f_X11_trace m 226 (xs (7 * t + 1)) (xs (7 * t + 2)) (xs (7 * t + 3))) (by omega) t5 I (fun m s e b R he NM hb => call_trace (xs (7 * t + 1)) (xs (7 * t + 2)) (xs (7 * t + 3)) R he) with ⟨h1, r, hx, hh⟩ | ⟨h1, hx, hh⟩
  · have ct := (ctr_X10_trace l X hl hx).1
    obtain ⟨m1, hy, z1, v1, s2, th, I1⟩ := hh ct.1 ct.2
    have I2 := I1 (sL (hB ot (hZ h1)) 277 0 r.toInt64) ⟨o1, o2⟩
    have bd := I2.bd (by omega)
    refine lr_aload_n (pc := 635) (i := 1) F 1 dL_law_635 rfl rfl ?_
    refine lr_get (pc := 636) (j := 1) F hX hbl hbA h35 ht (by decide) 0 4 dL_law_636 dL_law_637 dL_law_639 rfl dL_law_640 dL_law_641 rfl rfl ?_
    refine lr_get (pc := 642) (j := 2) F hX hbl hbA h35 ht (by decide) 0 4 dL_law_642 dL_law_643 dL_law_645 rfl dL_law_646 dL_law_647 rfl rfl ?_
    refine lr_get (pc := 648) (j := 3) F hX hbl hbA h35 ht (by decide) 0 4 dL_law_648 dL_law_649 dL_law_651 rfl dL_law_652 dL_law_653 rfl rfl ?_
    refine lr_aload_n (pc := 654) (i := 3) F 3 dL_law_654 rfl rfl ?_
    refine lr_callW0 (pc := 655) (av := [rf X 1, .int (xs (7 * t + 1)), .int (xs (7 * t + 2)), .int (xs (7 * t + 3)), rf X 277]) (st := []) F dL_law_655 cw_trace m_1199 (by decide) (by decide) rfl (by decide) (ml0_trace l X hl hx s1 o1 o2) rfl rfl rfl bd.1 bd.2 ?_
    refine lr_hz (hZ h1) ?_
    refine lr_istore (pc := 658) (i := 5) (L' := [(5, .int 0), (0, .ref b), (1, rf X 1), (2, rf X 226), (3, rf X 277), (4, .int (nI (7 * t)))]) F dL_law_658 (by decide) rfl rfl ?_
    refine lr_aload_n (pc := 660) (i := 2) F 3 dL_law_660 rfl rfl ?_
    refine lr_get (pc := 661) (j := 1) F hX hbl hbA h35 ht (by decide) 1 5 dL_law_661 dL_law_662 dL_law_664 rfl dL_law_665 dL_law_666 rfl rfl ?_
    refine lr_get (pc := 667) (j := 2) F hX hbl hbA h35 ht (by decide) 1 5 dL_law_667 dL_law_668 dL_law_670 rfl dL_law_671 dL_law_672 rfl rfl ?_
    refine lr_get (pc := 673) (j := 3) F hX hbl hbA h35 ht (by decide) 1 5 dL_law_673 dL_law_674 dL_law_676 rfl dL_law_677 dL_law_678 rfl rfl ?_
    refine lr_callM (pc := 679) (ci := 9) (o := 226) (av := [.int (xs (7 * t + 1)), .int (xs (7 * t + 2)), .int (xs (7 * t + 3))]) (st := []) F dL_law_679 ck_X11_trace m_2002 m_2003 m_2004 rfl (by decide) s2 (by decide) (by decide) rfl (by decide) rfl (ct_X11_trace l X hy) (z1.trans rfl) v1 rfl bd.1 bd.2 ?_
    show LW X kLaw p l e room_1 s mm _ below meth c Q 682 _ [.int r] _ _ _ _ _
    refine lr_istore (pc := 682) (i := 6) (L' := [(6, .int r), (5, .int 0), (0, .ref b), (1, rf X 1), (2, rf X 226), (3, rf X 277), (4, .int (nI (7 * t)))]) F dL_law_682 (by decide) rfl rfl ?_
    refine lr_aload_n (pc := 684) (i := 2) F 4 dL_law_684 rfl rfl ?_
    refine lr_callM (pc := 685) (ci := 9) (o := 226) (av := []) (st := []) F dL_law_685 ck_X11_thrown m_1638 m_1639 m_1640 rfl (by decide) I2.s226 (by decide) (by decide) rfl (by decide) z1 (ct_X11_thrown l X th) rfl rfl rfl bd.1 bd.2 ?_
    show LW X kLaw p l e room_1 s mm _ below meth c Q 688 _ [.int 0] _ _ _ _ _
    refine lr_iload (pc := 688) (i := 5) F 1 dL_law_688 rfl ?_
    refine lr_icmpeq_t (pc := 690) (tgt := 695) F dL_law_690 rfl rfl ?_
    refine lr_iload (pc := 695) (i := 5) F 1 dL_law_695 rfl ?_
    refine lr_ifne_f (pc := 697) (tgt := 712) F dL_law_697 rfl rfl ?_
    refine lr_aload_n (pc := 700) (i := 3) F 5 dL_law_700 rfl rfl ?_
    refine lr_iconst (pc := 701) (v := 0) F dL_law_701 rfl ?_
    refine lr_lald (pc := 702) (v := r.toInt64) F I2.o1 (by rw [I2.o2]; rfl) hL_sL_eq dL_law_702 ?_
    refine lr_iload (pc := 703) (i := 6) F 0 dL_law_703 rfl ?_
    refine lr_i2l (pc := 705) F dL_law_705 ?_
    refine lr_lcmp (pc := 706) F dL_law_706 ?_
    refine lr_ifeq_t (pc := 707) (tgt := 712) F dL_law_707 rfl (lg_cmp_self _) ?_
    refine lr_goto (pc := 712) (tgt := 1186) F dL_law_712 rfl ?_
    refine lr_sub [2, 3, 4, 5, 6] (L' := [(0, .ref b), (1, rf X 1), (2, rf X 226), (3, rf X 277), (4, .int (nI (7 * t)))]) rfl ?_
    exact kk _ _ _ _ _ I2
  · have ct := (ctx_X10_trace l X hl hx).1
    obtain ⟨bd, hh⟩ := hh ct.1 ct.2
    refine lr_aload_n (pc := 635) (i := 1) F 1 dL_law_635 rfl rfl ?_
    refine lr_get (pc := 636) (j := 1) F hX hbl hbA h35 ht (by decide) 0 4 dL_law_636 dL_law_637 dL_law_639 rfl dL_law_640 dL_law_641 rfl rfl ?_
    refine lr_get (pc := 642) (j := 2) F hX hbl hbA h35 ht (by decide) 0 4 dL_law_642 dL_law_643 dL_law_645 rfl dL_law_646 dL_law_647 rfl rfl ?_
    refine lr_get (pc := 648) (j := 3) F hX hbl hbA h35 ht (by decide) 0 4 dL_law_648 dL_law_649 dL_law_651 rfl dL_law_652 dL_law_653 rfl rfl ?_
    refine lr_aload_n (pc := 654) (i := 3) F 3 dL_law_654 rfl rfl ?_
    refine lr_callW1 (pc := 655) (av := [rf X 1, .int (xs (7 * t + 1)), .int (xs (7 * t + 2)), .int (xs (7 * t + 3)), rf X 277]) (st := []) F dL_law_655 cw_trace m_1199 (by decide) (by decide) rfl (by decide) (ml1_trace l X hl hx s1 o1 o2) rfl rfl rfl bd.1 bd.2 (fun n hn => ?_)
    obtain ⟨r, m1, hy, z1, v1, s2, th, I2⟩ := hh n hn
    refine lr_hz n ?_
    refine lr_istore (pc := 658) (i := 5) (L' := [(5, .int 1), (0, .ref b), (1, rf X 1), (2, rf X 226), (3, rf X 277), (4, .int (nI (7 * t)))]) F dL_law_658 (by decide) rfl rfl ?_
    refine lr_aload_n (pc := 660) (i := 2) F 3 dL_law_660 rfl rfl ?_
    refine lr_get (pc := 661) (j := 1) F hX hbl hbA h35 ht (by decide) 1 5 dL_law_661 dL_law_662 dL_law_664 rfl dL_law_665 dL_law_666 rfl rfl ?_
    refine lr_get (pc := 667) (j := 2) F hX hbl hbA h35 ht (by decide) 1 5 dL_law_667 dL_law_668 dL_law_670 rfl dL_law_671 dL_law_672 rfl rfl ?_
    refine lr_get (pc := 673) (j := 3) F hX hbl hbA h35 ht (by decide) 1 5 dL_law_673 dL_law_674 dL_law_676 rfl dL_law_677 dL_law_678 rfl rfl ?_
    refine lr_callM (pc := 679) (ci := 9) (o := 226) (av := [.int (xs (7 * t + 1)), .int (xs (7 * t + 2)), .int (xs (7 * t + 3))]) (st := []) F dL_law_679 ck_X11_trace m_2002 m_2003 m_2004 rfl (by decide) s2 (by decide) (by decide) rfl (by decide) rfl (ct_X11_trace l X hy) (z1.trans rfl) v1 rfl bd.1 bd.2 ?_
    show LW X kLaw p l e room_1 s mm _ below meth c Q 682 _ [.int r] _ _ _ _ _
    refine lr_istore (pc := 682) (i := 6) (L' := [(6, .int r), (5, .int 1), (0, .ref b), (1, rf X 1), (2, rf X 226), (3, rf X 277), (4, .int (nI (7 * t)))]) F dL_law_682 (by decide) rfl rfl ?_
    refine lr_aload_n (pc := 684) (i := 2) F 4 dL_law_684 rfl rfl ?_
    refine lr_callM (pc := 685) (ci := 9) (o := 226) (av := []) (st := []) F dL_law_685 ck_X11_thrown m_1638 m_1639 m_1640 rfl (by decide) I2.s226 (by decide) (by decide) rfl (by decide) (z1.trans rfl) (ct_X11_thrown l X th) rfl rfl rfl bd.1 bd.2 ?_
    show LW X kLaw p l e room_1 s mm _ below meth c Q 688 _ [.int 1] _ _ _ _ _
    refine lr_iload (pc := 688) (i := 5) F 1 dL_law_688 rfl ?_
    refine lr_icmpeq_t (pc := 690) (tgt := 695) F dL_law_690 rfl rfl ?_
    refine lr_iload (pc := 695) (i := 5) F 1 dL_law_695 rfl ?_
    refine lr_ifne_t (pc := 697) (tgt := 712) F dL_law_697 rfl (by decide) ?_
    refine lr_goto (pc := 712) (tgt := 1186) F dL_law_712 rfl ?_
    refine lr_sub [2, 3, 4, 5, 6] (L' := [(0, .ref b), (1, rf X 1), (2, rf X 226), (3, rf X 277), (4, .int (nI (7 * t)))]) rfl ?_
    exact kk _ _ _ _ _ I2
theorem cs_core (G : LG X p l s mm b N9 xs c) {t : Nat} (ht : 7 * t + 7 ≤ N9) {h m ot : AH} {cells slots : Nat} (I : LVI t h m ot cells slots) (kk : ∀ (h m ot : AH) (cells slots : Nat), LVI (t + 1) h m ot cells slots → LW X kLaw p l e room_1 s mm #[Value.ref b] below meth c Q 1186 [(0, .ref b), (1, rf X 1), (2, rf X 226), (3, rf X 277), (4, .int (nI (7 * t)))] [] h m ot cells slots) : LW X kLaw p l e room_1 s mm #[Value.ref b] below meth c Q 715 [(0, .ref b), (1, rf X 1), (2, rf X 226), (3, rf X 277), (4, .int (nI (7 * t)))] [] h m ot cells slots := by
  obtain ⟨F, hX, hbl, hbA, h35, hl⟩ := G
  have t5 : t < 512 := by omega
  have s1 := I.s1
  have o1 := I.o1
  have o2 := I.o2
  rcases LI_ch (K := 0) (X := f_X10_core h 1 (xs (7 * t + 1)) (xs (7 * t + 2))) (Y := fun m => f_X11_core m 226 (xs (7 * t + 1)) (xs (7 * t + 2))) (by omega) t5 I (fun m s e b R he NM hb => call_core (xs (7 * t + 1)) (xs (7 * t + 2)) R he) with ⟨h1, r, hx, hh⟩ | ⟨h1, hx, hh⟩
  · have ct := (ctr_X10_core l X hl hx).1
    obtain ⟨m1, hy, z1, v1, s2, th, I1⟩ := hh ct.1 ct.2
    have I2 := I1 (sL (hB ot (hZ h1)) 277 0 r.toInt64) ⟨o1, o2⟩
    have bd := I2.bd (by omega)
    refine lr_aload_n (pc := 715) (i := 1) F 1 dL_law_715 rfl rfl ?_
    refine lr_get (pc := 716) (j := 1) F hX hbl hbA h35 ht (by decide) 0 4 dL_law_716 dL_law_717 dL_law_719 rfl dL_law_720 dL_law_721 rfl rfl ?_
    refine lr_get (pc := 722) (j := 2) F hX hbl hbA h35 ht (by decide) 0 4 dL_law_722 dL_law_723 dL_law_725 rfl dL_law_726 dL_law_727 rfl rfl ?_
    refine lr_aload_n (pc := 728) (i := 3) F 3 dL_law_728 rfl rfl ?_
    refine lr_callW0 (pc := 729) (av := [rf X 1, .int (xs (7 * t + 1)), .int (xs (7 * t + 2)), rf X 277]) (st := []) F dL_law_729 cw_core m_1231 (by decide) (by decide) rfl (by decide) (ml0_core l X hl hx s1 o1 o2) rfl rfl rfl bd.1 bd.2 ?_
    refine lr_hz (hZ h1) ?_
    refine lr_istore (pc := 732) (i := 5) (L' := [(5, .int 0), (0, .ref b), (1, rf X 1), (2, rf X 226), (3, rf X 277), (4, .int (nI (7 * t)))]) F dL_law_732 (by decide) rfl rfl ?_
    refine lr_aload_n (pc := 734) (i := 2) F 3 dL_law_734 rfl rfl ?_
    refine lr_get (pc := 735) (j := 1) F hX hbl hbA h35 ht (by decide) 1 5 dL_law_735 dL_law_736 dL_law_738 rfl dL_law_739 dL_law_740 rfl rfl ?_
    refine lr_get (pc := 741) (j := 2) F hX hbl hbA h35 ht (by decide) 1 5 dL_law_741 dL_law_742 dL_law_744 rfl dL_law_745 dL_law_746 rfl rfl ?_
    refine lr_callM (pc := 747) (ci := 9) (o := 226) (av := [.int (xs (7 * t + 1)), .int (xs (7 * t + 2))]) (st := []) F dL_law_747 ck_X11_core m_2006 m_2007 m_2008 rfl (by decide) s2 (by decide) (by decide) rfl (by decide) rfl (ct_X11_core l X hy) (z1.trans rfl) v1 rfl bd.1 bd.2 ?_
    show LW X kLaw p l e room_1 s mm _ below meth c Q 750 _ [.int r] _ _ _ _ _
    refine lr_istore (pc := 750) (i := 6) (L' := [(6, .int r), (5, .int 0), (0, .ref b), (1, rf X 1), (2, rf X 226), (3, rf X 277), (4, .int (nI (7 * t)))]) F dL_law_750 (by decide) rfl rfl ?_
    refine lr_aload_n (pc := 752) (i := 2) F 4 dL_law_752 rfl rfl ?_
    refine lr_callM (pc := 753) (ci := 9) (o := 226) (av := []) (st := []) F dL_law_753 ck_X11_thrown m_1638 m_1639 m_1640 rfl (by decide) I2.s226 (by decide) (by decide) rfl (by decide) z1 (ct_X11_thrown l X th) rfl rfl rfl bd.1 bd.2 ?_
    show LW X kLaw p l e room_1 s mm _ below meth c Q 756 _ [.int 0] _ _ _ _ _
    refine lr_iload (pc := 756) (i := 5) F 1 dL_law_756 rfl ?_
    refine lr_icmpeq_t (pc := 758) (tgt := 763) F dL_law_758 rfl rfl ?_
    refine lr_iload (pc := 763) (i := 5) F 1 dL_law_763 rfl ?_
    refine lr_ifne_f (pc := 765) (tgt := 780) F dL_law_765 rfl rfl ?_
    refine lr_aload_n (pc := 768) (i := 3) F 5 dL_law_768 rfl rfl ?_
    refine lr_iconst (pc := 769) (v := 0) F dL_law_769 rfl ?_
    refine lr_lald (pc := 770) (v := r.toInt64) F I2.o1 (by rw [I2.o2]; rfl) hL_sL_eq dL_law_770 ?_
    refine lr_iload (pc := 771) (i := 6) F 0 dL_law_771 rfl ?_
    refine lr_i2l (pc := 773) F dL_law_773 ?_
    refine lr_lcmp (pc := 774) F dL_law_774 ?_
    refine lr_ifeq_t (pc := 775) (tgt := 780) F dL_law_775 rfl (lg_cmp_self _) ?_
    refine lr_goto (pc := 780) (tgt := 1186) F dL_law_780 rfl ?_
    refine lr_sub [2, 3, 4, 5, 6] (L' := [(0, .ref b), (1, rf X 1), (2, rf X 226), (3, rf X 277), (4, .int (nI (7 * t)))]) rfl ?_
    exact kk _ _ _ _ _ I2
  · have ct := (ctx_X10_core l X hl hx).1
    obtain ⟨bd, hh⟩ := hh ct.1 ct.2
    refine lr_aload_n (pc := 715) (i := 1) F 1 dL_law_715 rfl rfl ?_
    refine lr_get (pc := 716) (j := 1) F hX hbl hbA h35 ht (by decide) 0 4 dL_law_716 dL_law_717 dL_law_719 rfl dL_law_720 dL_law_721 rfl rfl ?_
    refine lr_get (pc := 722) (j := 2) F hX hbl hbA h35 ht (by decide) 0 4 dL_law_722 dL_law_723 dL_law_725 rfl dL_law_726 dL_law_727 rfl rfl ?_
    refine lr_aload_n (pc := 728) (i := 3) F 3 dL_law_728 rfl rfl ?_
    refine lr_callW1 (pc := 729) (av := [rf X 1, .int (xs (7 * t + 1)), .int (xs (7 * t + 2)), rf X 277]) (st := []) F dL_law_729 cw_core m_1231 (by decide) (by decide) rfl (by decide) (ml1_core l X hl hx s1 o1 o2) rfl rfl rfl bd.1 bd.2 (fun n hn => ?_)
    obtain ⟨r, m1, hy, z1, v1, s2, th, I2⟩ := hh n hn
    refine lr_hz n ?_
    refine lr_istore (pc := 732) (i := 5) (L' := [(5, .int 1), (0, .ref b), (1, rf X 1), (2, rf X 226), (3, rf X 277), (4, .int (nI (7 * t)))]) F dL_law_732 (by decide) rfl rfl ?_
    refine lr_aload_n (pc := 734) (i := 2) F 3 dL_law_734 rfl rfl ?_
    refine lr_get (pc := 735) (j := 1) F hX hbl hbA h35 ht (by decide) 1 5 dL_law_735 dL_law_736 dL_law_738 rfl dL_law_739 dL_law_740 rfl rfl ?_
    refine lr_get (pc := 741) (j := 2) F hX hbl hbA h35 ht (by decide) 1 5 dL_law_741 dL_law_742 dL_law_744 rfl dL_law_745 dL_law_746 rfl rfl ?_
    refine lr_callM (pc := 747) (ci := 9) (o := 226) (av := [.int (xs (7 * t + 1)), .int (xs (7 * t + 2))]) (st := []) F dL_law_747 ck_X11_core m_2006 m_2007 m_2008 rfl (by decide) s2 (by decide) (by decide) rfl (by decide) rfl (ct_X11_core l X hy) (z1.trans rfl) v1 rfl bd.1 bd.2 ?_
    show LW X kLaw p l e room_1 s mm _ below meth c Q 750 _ [.int r] _ _ _ _ _
    refine lr_istore (pc := 750) (i := 6) (L' := [(6, .int r), (5, .int 1), (0, .ref b), (1, rf X 1), (2, rf X 226), (3, rf X 277), (4, .int (nI (7 * t)))]) F dL_law_750 (by decide) rfl rfl ?_
    refine lr_aload_n (pc := 752) (i := 2) F 4 dL_law_752 rfl rfl ?_
    refine lr_callM (pc := 753) (ci := 9) (o := 226) (av := []) (st := []) F dL_law_753 ck_X11_thrown m_1638 m_1639 m_1640 rfl (by decide) I2.s226 (by decide) (by decide) rfl (by decide) (z1.trans rfl) (ct_X11_thrown l X th) rfl rfl rfl bd.1 bd.2 ?_
    show LW X kLaw p l e room_1 s mm _ below meth c Q 756 _ [.int 1] _ _ _ _ _
    refine lr_iload (pc := 756) (i := 5) F 1 dL_law_756 rfl ?_
    refine lr_icmpeq_t (pc := 758) (tgt := 763) F dL_law_758 rfl rfl ?_
    refine lr_iload (pc := 763) (i := 5) F 1 dL_law_763 rfl ?_
    refine lr_ifne_t (pc := 765) (tgt := 780) F dL_law_765 rfl (by decide) ?_
    refine lr_goto (pc := 780) (tgt := 1186) F dL_law_780 rfl ?_
    refine lr_sub [2, 3, 4, 5, 6] (L' := [(0, .ref b), (1, rf X 1), (2, rf X 226), (3, rf X 277), (4, .int (nI (7 * t)))]) rfl ?_
    exact kk _ _ _ _ _ I2
theorem cs_cached (G : LG X p l s mm b N9 xs c) {t : Nat} (ht : 7 * t + 7 ≤ N9) {h m ot : AH} {cells slots : Nat} (I : LVI t h m ot cells slots) (kk : ∀ (h m ot : AH) (cells slots : Nat), LVI (t + 1) h m ot cells slots → LW X kLaw p l e room_1 s mm #[Value.ref b] below meth c Q 1186 [(0, .ref b), (1, rf X 1), (2, rf X 226), (3, rf X 277), (4, .int (nI (7 * t)))] [] h m ot cells slots) : LW X kLaw p l e room_1 s mm #[Value.ref b] below meth c Q 783 [(0, .ref b), (1, rf X 1), (2, rf X 226), (3, rf X 277), (4, .int (nI (7 * t)))] [] h m ot cells slots := by
  obtain ⟨F, hX, hbl, hbA, h35, hl⟩ := G
  have t5 : t < 512 := by omega
  have s1 := I.s1
  have o1 := I.o1
  have o2 := I.o2
  obtain ⟨r, hx, m1, hy, z1, v1, I1⟩ := LI_cp (X := f_X10_cached h 1 (xs (7 * t + 1)) (xs (7 * t + 2))) (Y := fun m => f_X11_cached m 226 (xs (7 * t + 1)) (xs (7 * t + 2))) t5 I (fun m s e b R he => call_cached (xs (7 * t + 1)) (xs (7 * t + 2)) R he)
  have ct := ct_X10_cached l X hx
  have bd := I1.bd (by omega)
  have s2 := I.s226
  have z9 := I.z
  refine lr_aload_n (pc := 783) (i := 1) F 1 dL_law_783 rfl rfl ?_
  refine lr_get (pc := 784) (j := 1) F hX hbl hbA h35 ht (by decide) 0 4 dL_law_784 dL_law_785 dL_law_787 rfl dL_law_788 dL_law_789 rfl rfl ?_
  refine lr_get (pc := 790) (j := 2) F hX hbl hbA h35 ht (by decide) 0 4 dL_law_790 dL_law_791 dL_law_793 rfl dL_law_794 dL_law_795 rfl rfl ?_
  refine lr_callC (pc := 796) (ci := 8) (o := 1) (av := [.int (xs (7 * t + 1)), .int (xs (7 * t + 2))]) (st := []) F dL_law_796 ck_X10_cached m_685 m_686 m_687 rfl (by decide) s1 (by decide) (by decide) rfl (by decide) ct rfl (by show cells = cells + (hZ h - hZ h); omega) (by show slots = slots + (hV h - hV h); omega) bd.1 bd.2 ?_
  show LW X kLaw p l e room_1 s mm _ below meth c Q 799 _ [.int r] _ _ _ _ _
  refine lr_aload_n (pc := 799) (i := 2) F 2 dL_law_799 rfl rfl ?_
  refine lr_get (pc := 800) (j := 1) F hX hbl hbA h35 ht (by decide) 0 4 dL_law_800 dL_law_801 dL_law_803 rfl dL_law_804 dL_law_805 rfl rfl ?_
  refine lr_get (pc := 806) (j := 2) F hX hbl hbA h35 ht (by decide) 0 4 dL_law_806 dL_law_807 dL_law_809 rfl dL_law_810 dL_law_811 rfl rfl ?_
  refine lr_callM (pc := 812) (ci := 9) (o := 226) (av := [.int (xs (7 * t + 1)), .int (xs (7 * t + 2))]) (st := [.int r]) F dL_law_812 ck_X11_cached m_2010 m_2011 m_2012 rfl (by decide) s2 (by decide) (by decide) rfl (by show 1 ≤ 8; decide) z9 (ct_X11_cached l X hy) z1 v1 rfl bd.1 bd.2 ?_
  show LW X kLaw p l e room_1 s mm _ below meth c Q 815 _ [.int r, .int r] _ _ _ _ _
  refine lr_icmpeq_t (pc := 815) (tgt := 1186) F dL_law_815 rfl rfl ?_
  exact kk _ _ _ _ _ I1
theorem cs_copy (G : LG X p l s mm b N9 xs c) {t : Nat} (ht : 7 * t + 7 ≤ N9) {h m ot : AH} {cells slots : Nat} (I : LVI t h m ot cells slots) (kk : ∀ (h m ot : AH) (cells slots : Nat), LVI (t + 1) h m ot cells slots → LW X kLaw p l e room_1 s mm #[Value.ref b] below meth c Q 1186 [(0, .ref b), (1, rf X 1), (2, rf X 226), (3, rf X 277), (4, .int (nI (7 * t)))] [] h m ot cells slots) : LW X kLaw p l e room_1 s mm #[Value.ref b] below meth c Q 820 [(0, .ref b), (1, rf X 1), (2, rf X 226), (3, rf X 277), (4, .int (nI (7 * t)))] [] h m ot cells slots := by
  obtain ⟨F, hX, hbl, hbA, h35, hl⟩ := G
  have t5 : t < 512 := by omega
  have s1 := I.s1
  have o1 := I.o1
  have o2 := I.o2
  rcases LI_ch (K := 0) (X := f_X10_copy h 1 (xs (7 * t + 1)) (xs (7 * t + 2))) (Y := fun m => f_X11_copy m 226 (xs (7 * t + 1)) (xs (7 * t + 2))) (by omega) t5 I (fun m s e b R he NM hb => call_copy (xs (7 * t + 1)) (xs (7 * t + 2)) R he) with ⟨h1, r, hx, hh⟩ | ⟨h1, hx, hh⟩
  · have ct := (ctr_X10_copy l X hl hx).1
    obtain ⟨m1, hy, z1, v1, s2, th, I1⟩ := hh ct.1 ct.2
    have I2 := I1 (sL (hB ot (hZ h1)) 277 0 r.toInt64) ⟨o1, o2⟩
    have bd := I2.bd (by omega)
    refine lr_aload_n (pc := 820) (i := 1) F 1 dL_law_820 rfl rfl ?_
    refine lr_get (pc := 821) (j := 1) F hX hbl hbA h35 ht (by decide) 0 4 dL_law_821 dL_law_822 dL_law_824 rfl dL_law_825 dL_law_826 rfl rfl ?_
    refine lr_get (pc := 827) (j := 2) F hX hbl hbA h35 ht (by decide) 0 4 dL_law_827 dL_law_828 dL_law_830 rfl dL_law_831 dL_law_832 rfl rfl ?_
    refine lr_aload_n (pc := 833) (i := 3) F 3 dL_law_833 rfl rfl ?_
    refine lr_callW0 (pc := 834) (av := [rf X 1, .int (xs (7 * t + 1)), .int (xs (7 * t + 2)), rf X 277]) (st := []) F dL_law_834 cw_copy m_1247 (by decide) (by decide) rfl (by decide) (ml0_copy l X hl hx s1 o1 o2) rfl rfl rfl bd.1 bd.2 ?_
    refine lr_hz (hZ h1) ?_
    refine lr_istore (pc := 837) (i := 5) (L' := [(5, .int 0), (0, .ref b), (1, rf X 1), (2, rf X 226), (3, rf X 277), (4, .int (nI (7 * t)))]) F dL_law_837 (by decide) rfl rfl ?_
    refine lr_aload_n (pc := 839) (i := 2) F 3 dL_law_839 rfl rfl ?_
    refine lr_get (pc := 840) (j := 1) F hX hbl hbA h35 ht (by decide) 1 5 dL_law_840 dL_law_841 dL_law_843 rfl dL_law_844 dL_law_845 rfl rfl ?_
    refine lr_get (pc := 846) (j := 2) F hX hbl hbA h35 ht (by decide) 1 5 dL_law_846 dL_law_847 dL_law_849 rfl dL_law_850 dL_law_851 rfl rfl ?_
    refine lr_callM (pc := 852) (ci := 9) (o := 226) (av := [.int (xs (7 * t + 1)), .int (xs (7 * t + 2))]) (st := []) F dL_law_852 ck_X11_copy m_2014 m_2015 m_2016 rfl (by decide) s2 (by decide) (by decide) rfl (by decide) rfl (ct_X11_copy l X hy) (z1.trans rfl) v1 rfl bd.1 bd.2 ?_
    show LW X kLaw p l e room_1 s mm _ below meth c Q 855 _ [.int r] _ _ _ _ _
    refine lr_istore (pc := 855) (i := 6) (L' := [(6, .int r), (5, .int 0), (0, .ref b), (1, rf X 1), (2, rf X 226), (3, rf X 277), (4, .int (nI (7 * t)))]) F dL_law_855 (by decide) rfl rfl ?_
    refine lr_aload_n (pc := 857) (i := 2) F 4 dL_law_857 rfl rfl ?_
    refine lr_callM (pc := 858) (ci := 9) (o := 226) (av := []) (st := []) F dL_law_858 ck_X11_thrown m_1638 m_1639 m_1640 rfl (by decide) I2.s226 (by decide) (by decide) rfl (by decide) z1 (ct_X11_thrown l X th) rfl rfl rfl bd.1 bd.2 ?_
    show LW X kLaw p l e room_1 s mm _ below meth c Q 861 _ [.int 0] _ _ _ _ _
    refine lr_iload (pc := 861) (i := 5) F 1 dL_law_861 rfl ?_
    refine lr_icmpeq_t (pc := 863) (tgt := 868) F dL_law_863 rfl rfl ?_
    refine lr_iload (pc := 868) (i := 5) F 1 dL_law_868 rfl ?_
    refine lr_ifne_f (pc := 870) (tgt := 885) F dL_law_870 rfl rfl ?_
    refine lr_aload_n (pc := 873) (i := 3) F 5 dL_law_873 rfl rfl ?_
    refine lr_iconst (pc := 874) (v := 0) F dL_law_874 rfl ?_
    refine lr_lald (pc := 875) (v := r.toInt64) F I2.o1 (by rw [I2.o2]; rfl) hL_sL_eq dL_law_875 ?_
    refine lr_iload (pc := 876) (i := 6) F 0 dL_law_876 rfl ?_
    refine lr_i2l (pc := 878) F dL_law_878 ?_
    refine lr_lcmp (pc := 879) F dL_law_879 ?_
    refine lr_ifeq_t (pc := 880) (tgt := 885) F dL_law_880 rfl (lg_cmp_self _) ?_
    refine lr_goto (pc := 885) (tgt := 1186) F dL_law_885 rfl ?_
    refine lr_sub [2, 3, 4, 5, 6] (L' := [(0, .ref b), (1, rf X 1), (2, rf X 226), (3, rf X 277), (4, .int (nI (7 * t)))]) rfl ?_
    exact kk _ _ _ _ _ I2
  · have ct := (ctx_X10_copy l X hl hx).1
    obtain ⟨bd, hh⟩ := hh ct.1 ct.2
    refine lr_aload_n (pc := 820) (i := 1) F 1 dL_law_820 rfl rfl ?_
    refine lr_get (pc := 821) (j := 1) F hX hbl hbA h35 ht (by decide) 0 4 dL_law_821 dL_law_822 dL_law_824 rfl dL_law_825 dL_law_826 rfl rfl ?_
    refine lr_get (pc := 827) (j := 2) F hX hbl hbA h35 ht (by decide) 0 4 dL_law_827 dL_law_828 dL_law_830 rfl dL_law_831 dL_law_832 rfl rfl ?_
    refine lr_aload_n (pc := 833) (i := 3) F 3 dL_law_833 rfl rfl ?_
    refine lr_callW1 (pc := 834) (av := [rf X 1, .int (xs (7 * t + 1)), .int (xs (7 * t + 2)), rf X 277]) (st := []) F dL_law_834 cw_copy m_1247 (by decide) (by decide) rfl (by decide) (ml1_copy l X hl hx s1 o1 o2) rfl rfl rfl bd.1 bd.2 (fun n hn => ?_)
    obtain ⟨r, m1, hy, z1, v1, s2, th, I2⟩ := hh n hn
    refine lr_hz n ?_
    refine lr_istore (pc := 837) (i := 5) (L' := [(5, .int 1), (0, .ref b), (1, rf X 1), (2, rf X 226), (3, rf X 277), (4, .int (nI (7 * t)))]) F dL_law_837 (by decide) rfl rfl ?_
    refine lr_aload_n (pc := 839) (i := 2) F 3 dL_law_839 rfl rfl ?_
    refine lr_get (pc := 840) (j := 1) F hX hbl hbA h35 ht (by decide) 1 5 dL_law_840 dL_law_841 dL_law_843 rfl dL_law_844 dL_law_845 rfl rfl ?_
    refine lr_get (pc := 846) (j := 2) F hX hbl hbA h35 ht (by decide) 1 5 dL_law_846 dL_law_847 dL_law_849 rfl dL_law_850 dL_law_851 rfl rfl ?_
    refine lr_callM (pc := 852) (ci := 9) (o := 226) (av := [.int (xs (7 * t + 1)), .int (xs (7 * t + 2))]) (st := []) F dL_law_852 ck_X11_copy m_2014 m_2015 m_2016 rfl (by decide) s2 (by decide) (by decide) rfl (by decide) rfl (ct_X11_copy l X hy) (z1.trans rfl) v1 rfl bd.1 bd.2 ?_
    show LW X kLaw p l e room_1 s mm _ below meth c Q 855 _ [.int r] _ _ _ _ _
    refine lr_istore (pc := 855) (i := 6) (L' := [(6, .int r), (5, .int 1), (0, .ref b), (1, rf X 1), (2, rf X 226), (3, rf X 277), (4, .int (nI (7 * t)))]) F dL_law_855 (by decide) rfl rfl ?_
    refine lr_aload_n (pc := 857) (i := 2) F 4 dL_law_857 rfl rfl ?_
    refine lr_callM (pc := 858) (ci := 9) (o := 226) (av := []) (st := []) F dL_law_858 ck_X11_thrown m_1638 m_1639 m_1640 rfl (by decide) I2.s226 (by decide) (by decide) rfl (by decide) (z1.trans rfl) (ct_X11_thrown l X th) rfl rfl rfl bd.1 bd.2 ?_
    show LW X kLaw p l e room_1 s mm _ below meth c Q 861 _ [.int 1] _ _ _ _ _
    refine lr_iload (pc := 861) (i := 5) F 1 dL_law_861 rfl ?_
    refine lr_icmpeq_t (pc := 863) (tgt := 868) F dL_law_863 rfl rfl ?_
    refine lr_iload (pc := 868) (i := 5) F 1 dL_law_868 rfl ?_
    refine lr_ifne_t (pc := 870) (tgt := 885) F dL_law_870 rfl (by decide) ?_
    refine lr_goto (pc := 885) (tgt := 1186) F dL_law_885 rfl ?_
    refine lr_sub [2, 3, 4, 5, 6] (L' := [(0, .ref b), (1, rf X 1), (2, rf X 226), (3, rf X 277), (4, .int (nI (7 * t)))]) rfl ?_
    exact kk _ _ _ _ _ I2
theorem cs_home (G : LG X p l s mm b N9 xs c) {t : Nat} (ht : 7 * t + 7 ≤ N9) {h m ot : AH} {cells slots : Nat} (I : LVI t h m ot cells slots) (kk : ∀ (h m ot : AH) (cells slots : Nat), LVI (t + 1) h m ot cells slots → LW X kLaw p l e room_1 s mm #[Value.ref b] below meth c Q 1186 [(0, .ref b), (1, rf X 1), (2, rf X 226), (3, rf X 277), (4, .int (nI (7 * t)))] [] h m ot cells slots) : LW X kLaw p l e room_1 s mm #[Value.ref b] below meth c Q 888 [(0, .ref b), (1, rf X 1), (2, rf X 226), (3, rf X 277), (4, .int (nI (7 * t)))] [] h m ot cells slots := by
  obtain ⟨F, hX, hbl, hbA, h35, hl⟩ := G
  have t5 : t < 512 := by omega
  have s1 := I.s1
  have o1 := I.o1
  have o2 := I.o2
  rcases LI_ch (K := 0) (X := f_X10_home h 1 (xs (7 * t + 1)) (xs (7 * t + 2))) (Y := fun m => f_X11_home m 226 (xs (7 * t + 1)) (xs (7 * t + 2))) (by omega) t5 I (fun m s e b R he NM hb => call_home (xs (7 * t + 1)) (xs (7 * t + 2)) R he) with ⟨h1, r, hx, hh⟩ | ⟨h1, hx, hh⟩
  · have ct := (ctr_X10_home l X hl hx).1
    obtain ⟨m1, hy, z1, v1, s2, th, I1⟩ := hh ct.1 ct.2
    have I2 := I1 (sL (hB ot (hZ h1)) 277 0 r.toInt64) ⟨o1, o2⟩
    have bd := I2.bd (by omega)
    refine lr_aload_n (pc := 888) (i := 1) F 1 dL_law_888 rfl rfl ?_
    refine lr_get (pc := 889) (j := 1) F hX hbl hbA h35 ht (by decide) 0 4 dL_law_889 dL_law_890 dL_law_892 rfl dL_law_893 dL_law_894 rfl rfl ?_
    refine lr_get (pc := 895) (j := 2) F hX hbl hbA h35 ht (by decide) 0 4 dL_law_895 dL_law_896 dL_law_898 rfl dL_law_899 dL_law_900 rfl rfl ?_
    refine lr_aload_n (pc := 901) (i := 3) F 3 dL_law_901 rfl rfl ?_
    refine lr_callW0 (pc := 902) (av := [rf X 1, .int (xs (7 * t + 1)), .int (xs (7 * t + 2)), rf X 277]) (st := []) F dL_law_902 cw_home m_1259 (by decide) (by decide) rfl (by decide) (ml0_home l X hl hx s1 o1 o2) rfl rfl rfl bd.1 bd.2 ?_
    refine lr_hz (hZ h1) ?_
    refine lr_istore (pc := 905) (i := 5) (L' := [(5, .int 0), (0, .ref b), (1, rf X 1), (2, rf X 226), (3, rf X 277), (4, .int (nI (7 * t)))]) F dL_law_905 (by decide) rfl rfl ?_
    refine lr_aload_n (pc := 907) (i := 2) F 3 dL_law_907 rfl rfl ?_
    refine lr_get (pc := 908) (j := 1) F hX hbl hbA h35 ht (by decide) 1 5 dL_law_908 dL_law_909 dL_law_911 rfl dL_law_912 dL_law_913 rfl rfl ?_
    refine lr_get (pc := 914) (j := 2) F hX hbl hbA h35 ht (by decide) 1 5 dL_law_914 dL_law_915 dL_law_917 rfl dL_law_918 dL_law_919 rfl rfl ?_
    refine lr_callM (pc := 920) (ci := 9) (o := 226) (av := [.int (xs (7 * t + 1)), .int (xs (7 * t + 2))]) (st := []) F dL_law_920 ck_X11_home m_2021 m_2022 m_2023 rfl (by decide) s2 (by decide) (by decide) rfl (by decide) rfl (ct_X11_home l X hy) (z1.trans rfl) v1 rfl bd.1 bd.2 ?_
    show LW X kLaw p l e room_1 s mm _ below meth c Q 923 _ [.int r] _ _ _ _ _
    refine lr_istore (pc := 923) (i := 6) (L' := [(6, .int r), (5, .int 0), (0, .ref b), (1, rf X 1), (2, rf X 226), (3, rf X 277), (4, .int (nI (7 * t)))]) F dL_law_923 (by decide) rfl rfl ?_
    refine lr_aload_n (pc := 925) (i := 2) F 4 dL_law_925 rfl rfl ?_
    refine lr_callM (pc := 926) (ci := 9) (o := 226) (av := []) (st := []) F dL_law_926 ck_X11_thrown m_1638 m_1639 m_1640 rfl (by decide) I2.s226 (by decide) (by decide) rfl (by decide) z1 (ct_X11_thrown l X th) rfl rfl rfl bd.1 bd.2 ?_
    show LW X kLaw p l e room_1 s mm _ below meth c Q 929 _ [.int 0] _ _ _ _ _
    refine lr_iload (pc := 929) (i := 5) F 1 dL_law_929 rfl ?_
    refine lr_icmpeq_t (pc := 931) (tgt := 936) F dL_law_931 rfl rfl ?_
    refine lr_iload (pc := 936) (i := 5) F 1 dL_law_936 rfl ?_
    refine lr_ifne_f (pc := 938) (tgt := 953) F dL_law_938 rfl rfl ?_
    refine lr_aload_n (pc := 941) (i := 3) F 5 dL_law_941 rfl rfl ?_
    refine lr_iconst (pc := 942) (v := 0) F dL_law_942 rfl ?_
    refine lr_lald (pc := 943) (v := r.toInt64) F I2.o1 (by rw [I2.o2]; rfl) hL_sL_eq dL_law_943 ?_
    refine lr_iload (pc := 944) (i := 6) F 0 dL_law_944 rfl ?_
    refine lr_i2l (pc := 946) F dL_law_946 ?_
    refine lr_lcmp (pc := 947) F dL_law_947 ?_
    refine lr_ifeq_t (pc := 948) (tgt := 953) F dL_law_948 rfl (lg_cmp_self _) ?_
    refine lr_goto (pc := 953) (tgt := 1186) F dL_law_953 rfl ?_
    refine lr_sub [2, 3, 4, 5, 6] (L' := [(0, .ref b), (1, rf X 1), (2, rf X 226), (3, rf X 277), (4, .int (nI (7 * t)))]) rfl ?_
    exact kk _ _ _ _ _ I2
  · have ct := (ctx_X10_home l X hl hx).1
    obtain ⟨bd, hh⟩ := hh ct.1 ct.2
    refine lr_aload_n (pc := 888) (i := 1) F 1 dL_law_888 rfl rfl ?_
    refine lr_get (pc := 889) (j := 1) F hX hbl hbA h35 ht (by decide) 0 4 dL_law_889 dL_law_890 dL_law_892 rfl dL_law_893 dL_law_894 rfl rfl ?_
    refine lr_get (pc := 895) (j := 2) F hX hbl hbA h35 ht (by decide) 0 4 dL_law_895 dL_law_896 dL_law_898 rfl dL_law_899 dL_law_900 rfl rfl ?_
    refine lr_aload_n (pc := 901) (i := 3) F 3 dL_law_901 rfl rfl ?_
    refine lr_callW1 (pc := 902) (av := [rf X 1, .int (xs (7 * t + 1)), .int (xs (7 * t + 2)), rf X 277]) (st := []) F dL_law_902 cw_home m_1259 (by decide) (by decide) rfl (by decide) (ml1_home l X hl hx s1 o1 o2) rfl rfl rfl bd.1 bd.2 (fun n hn => ?_)
    obtain ⟨r, m1, hy, z1, v1, s2, th, I2⟩ := hh n hn
    refine lr_hz n ?_
    refine lr_istore (pc := 905) (i := 5) (L' := [(5, .int 1), (0, .ref b), (1, rf X 1), (2, rf X 226), (3, rf X 277), (4, .int (nI (7 * t)))]) F dL_law_905 (by decide) rfl rfl ?_
    refine lr_aload_n (pc := 907) (i := 2) F 3 dL_law_907 rfl rfl ?_
    refine lr_get (pc := 908) (j := 1) F hX hbl hbA h35 ht (by decide) 1 5 dL_law_908 dL_law_909 dL_law_911 rfl dL_law_912 dL_law_913 rfl rfl ?_
    refine lr_get (pc := 914) (j := 2) F hX hbl hbA h35 ht (by decide) 1 5 dL_law_914 dL_law_915 dL_law_917 rfl dL_law_918 dL_law_919 rfl rfl ?_
    refine lr_callM (pc := 920) (ci := 9) (o := 226) (av := [.int (xs (7 * t + 1)), .int (xs (7 * t + 2))]) (st := []) F dL_law_920 ck_X11_home m_2021 m_2022 m_2023 rfl (by decide) s2 (by decide) (by decide) rfl (by decide) rfl (ct_X11_home l X hy) (z1.trans rfl) v1 rfl bd.1 bd.2 ?_
    show LW X kLaw p l e room_1 s mm _ below meth c Q 923 _ [.int r] _ _ _ _ _
    refine lr_istore (pc := 923) (i := 6) (L' := [(6, .int r), (5, .int 1), (0, .ref b), (1, rf X 1), (2, rf X 226), (3, rf X 277), (4, .int (nI (7 * t)))]) F dL_law_923 (by decide) rfl rfl ?_
    refine lr_aload_n (pc := 925) (i := 2) F 4 dL_law_925 rfl rfl ?_
    refine lr_callM (pc := 926) (ci := 9) (o := 226) (av := []) (st := []) F dL_law_926 ck_X11_thrown m_1638 m_1639 m_1640 rfl (by decide) I2.s226 (by decide) (by decide) rfl (by decide) (z1.trans rfl) (ct_X11_thrown l X th) rfl rfl rfl bd.1 bd.2 ?_
    show LW X kLaw p l e room_1 s mm _ below meth c Q 929 _ [.int 1] _ _ _ _ _
    refine lr_iload (pc := 929) (i := 5) F 1 dL_law_929 rfl ?_
    refine lr_icmpeq_t (pc := 931) (tgt := 936) F dL_law_931 rfl rfl ?_
    refine lr_iload (pc := 936) (i := 5) F 1 dL_law_936 rfl ?_
    refine lr_ifne_t (pc := 938) (tgt := 953) F dL_law_938 rfl (by decide) ?_
    refine lr_goto (pc := 953) (tgt := 1186) F dL_law_953 rfl ?_
    refine lr_sub [2, 3, 4, 5, 6] (L' := [(0, .ref b), (1, rf X 1), (2, rf X 226), (3, rf X 277), (4, .int (nI (7 * t)))]) rfl ?_
    exact kk _ _ _ _ _ I2
theorem cs_waiting (G : LG X p l s mm b N9 xs c) {t : Nat} (ht : 7 * t + 7 ≤ N9) {h m ot : AH} {cells slots : Nat} (I : LVI t h m ot cells slots) (kk : ∀ (h m ot : AH) (cells slots : Nat), LVI (t + 1) h m ot cells slots → LW X kLaw p l e room_1 s mm #[Value.ref b] below meth c Q 1186 [(0, .ref b), (1, rf X 1), (2, rf X 226), (3, rf X 277), (4, .int (nI (7 * t)))] [] h m ot cells slots) : LW X kLaw p l e room_1 s mm #[Value.ref b] below meth c Q 956 [(0, .ref b), (1, rf X 1), (2, rf X 226), (3, rf X 277), (4, .int (nI (7 * t)))] [] h m ot cells slots := by
  obtain ⟨F, hX, hbl, hbA, h35, hl⟩ := G
  have t5 : t < 512 := by omega
  have s1 := I.s1
  have o1 := I.o1
  have o2 := I.o2
  obtain ⟨r, hx, m1, hy, z1, v1, I1⟩ := LI_cp (X := f_X10_waiting h 1 (xs (7 * t + 1))) (Y := fun m => f_X11_waiting m 226 (xs (7 * t + 1))) t5 I (fun m s e b R he => call_waiting (xs (7 * t + 1)) R he)
  have ct := ct_X10_waiting l X hx
  have bd := I1.bd (by omega)
  have s2 := I.s226
  have z9 := I.z
  refine lr_aload_n (pc := 956) (i := 1) F 1 dL_law_956 rfl rfl ?_
  refine lr_get (pc := 957) (j := 1) F hX hbl hbA h35 ht (by decide) 0 4 dL_law_957 dL_law_958 dL_law_960 rfl dL_law_961 dL_law_962 rfl rfl ?_
  refine lr_callC (pc := 963) (ci := 8) (o := 1) (av := [.int (xs (7 * t + 1))]) (st := []) F dL_law_963 ck_X10_waiting m_690 m_691 m_692 rfl (by decide) s1 (by decide) (by decide) rfl (by decide) ct rfl (by show cells = cells + (hZ h - hZ h); omega) (by show slots = slots + (hV h - hV h); omega) bd.1 bd.2 ?_
  show LW X kLaw p l e room_1 s mm _ below meth c Q 966 _ [.int r] _ _ _ _ _
  refine lr_aload_n (pc := 966) (i := 2) F 2 dL_law_966 rfl rfl ?_
  refine lr_get (pc := 967) (j := 1) F hX hbl hbA h35 ht (by decide) 0 4 dL_law_967 dL_law_968 dL_law_970 rfl dL_law_971 dL_law_972 rfl rfl ?_
  refine lr_callM (pc := 973) (ci := 9) (o := 226) (av := [.int (xs (7 * t + 1))]) (st := [.int r]) F dL_law_973 ck_X11_waiting m_2025 m_2026 m_2027 rfl (by decide) s2 (by decide) (by decide) rfl (by show 1 ≤ 8; decide) z9 (ct_X11_waiting l X hy) z1 v1 rfl bd.1 bd.2 ?_
  show LW X kLaw p l e room_1 s mm _ below meth c Q 976 _ [.int r, .int r] _ _ _ _ _
  refine lr_icmpeq_t (pc := 976) (tgt := 1186) F dL_law_976 rfl rfl ?_
  exact kk _ _ _ _ _ I1
theorem cs_memory (G : LG X p l s mm b N9 xs c) {t : Nat} (ht : 7 * t + 7 ≤ N9) {h m ot : AH} {cells slots : Nat} (I : LVI t h m ot cells slots) (kk : ∀ (h m ot : AH) (cells slots : Nat), LVI (t + 1) h m ot cells slots → LW X kLaw p l e room_1 s mm #[Value.ref b] below meth c Q 1186 [(0, .ref b), (1, rf X 1), (2, rf X 226), (3, rf X 277), (4, .int (nI (7 * t)))] [] h m ot cells slots) : LW X kLaw p l e room_1 s mm #[Value.ref b] below meth c Q 981 [(0, .ref b), (1, rf X 1), (2, rf X 226), (3, rf X 277), (4, .int (nI (7 * t)))] [] h m ot cells slots := by
  obtain ⟨F, hX, hbl, hbA, h35, hl⟩ := G
  have t5 : t < 512 := by omega
  have s1 := I.s1
  have o1 := I.o1
  have o2 := I.o2
  rcases LI_ch (K := 0) (X := f_X10_memory h 1 (xs (7 * t + 1))) (Y := fun m => f_X11_memory m 226 (xs (7 * t + 1))) (by omega) t5 I (fun m s e b R he NM hb => call_memory (xs (7 * t + 1)) R he) with ⟨h1, r, hx, hh⟩ | ⟨h1, hx, hh⟩
  · have ct := (ctr_X10_memory l X hl hx).1
    obtain ⟨m1, hy, z1, v1, s2, th, I1⟩ := hh ct.1 ct.2
    have I2 := I1 (sL (hB ot (hZ h1)) 277 0 r.toInt64) ⟨o1, o2⟩
    have bd := I2.bd (by omega)
    refine lr_aload_n (pc := 981) (i := 1) F 1 dL_law_981 rfl rfl ?_
    refine lr_get (pc := 982) (j := 1) F hX hbl hbA h35 ht (by decide) 0 4 dL_law_982 dL_law_983 dL_law_985 rfl dL_law_986 dL_law_987 rfl rfl ?_
    refine lr_aload_n (pc := 988) (i := 3) F 3 dL_law_988 rfl rfl ?_
    refine lr_callW0 (pc := 989) (av := [rf X 1, .int (xs (7 * t + 1)), rf X 277]) (st := []) F dL_law_989 cw_memory m_1272 (by decide) (by decide) rfl (by decide) (ml0_memory l X hl hx s1 o1 o2) rfl rfl rfl bd.1 bd.2 ?_
    refine lr_hz (hZ h1) ?_
    refine lr_istore (pc := 992) (i := 5) (L' := [(5, .int 0), (0, .ref b), (1, rf X 1), (2, rf X 226), (3, rf X 277), (4, .int (nI (7 * t)))]) F dL_law_992 (by decide) rfl rfl ?_
    refine lr_aload_n (pc := 994) (i := 2) F 3 dL_law_994 rfl rfl ?_
    refine lr_get (pc := 995) (j := 1) F hX hbl hbA h35 ht (by decide) 1 5 dL_law_995 dL_law_996 dL_law_998 rfl dL_law_999 dL_law_1000 rfl rfl ?_
    refine lr_callM (pc := 1001) (ci := 9) (o := 226) (av := [.int (xs (7 * t + 1))]) (st := []) F dL_law_1001 ck_X11_memory m_2029 m_2030 m_2031 rfl (by decide) s2 (by decide) (by decide) rfl (by decide) rfl (ct_X11_memory l X hy) (z1.trans rfl) v1 rfl bd.1 bd.2 ?_
    show LW X kLaw p l e room_1 s mm _ below meth c Q 1004 _ [.int r] _ _ _ _ _
    refine lr_istore (pc := 1004) (i := 6) (L' := [(6, .int r), (5, .int 0), (0, .ref b), (1, rf X 1), (2, rf X 226), (3, rf X 277), (4, .int (nI (7 * t)))]) F dL_law_1004 (by decide) rfl rfl ?_
    refine lr_aload_n (pc := 1006) (i := 2) F 4 dL_law_1006 rfl rfl ?_
    refine lr_callM (pc := 1007) (ci := 9) (o := 226) (av := []) (st := []) F dL_law_1007 ck_X11_thrown m_1638 m_1639 m_1640 rfl (by decide) I2.s226 (by decide) (by decide) rfl (by decide) z1 (ct_X11_thrown l X th) rfl rfl rfl bd.1 bd.2 ?_
    show LW X kLaw p l e room_1 s mm _ below meth c Q 1010 _ [.int 0] _ _ _ _ _
    refine lr_iload (pc := 1010) (i := 5) F 1 dL_law_1010 rfl ?_
    refine lr_icmpeq_t (pc := 1012) (tgt := 1017) F dL_law_1012 rfl rfl ?_
    refine lr_iload (pc := 1017) (i := 5) F 1 dL_law_1017 rfl ?_
    refine lr_ifne_f (pc := 1019) (tgt := 1034) F dL_law_1019 rfl rfl ?_
    refine lr_aload_n (pc := 1022) (i := 3) F 5 dL_law_1022 rfl rfl ?_
    refine lr_iconst (pc := 1023) (v := 0) F dL_law_1023 rfl ?_
    refine lr_lald (pc := 1024) (v := r.toInt64) F I2.o1 (by rw [I2.o2]; rfl) hL_sL_eq dL_law_1024 ?_
    refine lr_iload (pc := 1025) (i := 6) F 0 dL_law_1025 rfl ?_
    refine lr_i2l (pc := 1027) F dL_law_1027 ?_
    refine lr_lcmp (pc := 1028) F dL_law_1028 ?_
    refine lr_ifeq_t (pc := 1029) (tgt := 1034) F dL_law_1029 rfl (lg_cmp_self _) ?_
    refine lr_goto (pc := 1034) (tgt := 1186) F dL_law_1034 rfl ?_
    refine lr_sub [2, 3, 4, 5, 6] (L' := [(0, .ref b), (1, rf X 1), (2, rf X 226), (3, rf X 277), (4, .int (nI (7 * t)))]) rfl ?_
    exact kk _ _ _ _ _ I2
  · have ct := (ctx_X10_memory l X hl hx).1
    obtain ⟨bd, hh⟩ := hh ct.1 ct.2
    refine lr_aload_n (pc := 981) (i := 1) F 1 dL_law_981 rfl rfl ?_
    refine lr_get (pc := 982) (j := 1) F hX hbl hbA h35 ht (by decide) 0 4 dL_law_982 dL_law_983 dL_law_985 rfl dL_law_986 dL_law_987 rfl rfl ?_
    refine lr_aload_n (pc := 988) (i := 3) F 3 dL_law_988 rfl rfl ?_
    refine lr_callW1 (pc := 989) (av := [rf X 1, .int (xs (7 * t + 1)), rf X 277]) (st := []) F dL_law_989 cw_memory m_1272 (by decide) (by decide) rfl (by decide) (ml1_memory l X hl hx s1 o1 o2) rfl rfl rfl bd.1 bd.2 (fun n hn => ?_)
    obtain ⟨r, m1, hy, z1, v1, s2, th, I2⟩ := hh n hn
    refine lr_hz n ?_
    refine lr_istore (pc := 992) (i := 5) (L' := [(5, .int 1), (0, .ref b), (1, rf X 1), (2, rf X 226), (3, rf X 277), (4, .int (nI (7 * t)))]) F dL_law_992 (by decide) rfl rfl ?_
    refine lr_aload_n (pc := 994) (i := 2) F 3 dL_law_994 rfl rfl ?_
    refine lr_get (pc := 995) (j := 1) F hX hbl hbA h35 ht (by decide) 1 5 dL_law_995 dL_law_996 dL_law_998 rfl dL_law_999 dL_law_1000 rfl rfl ?_
    refine lr_callM (pc := 1001) (ci := 9) (o := 226) (av := [.int (xs (7 * t + 1))]) (st := []) F dL_law_1001 ck_X11_memory m_2029 m_2030 m_2031 rfl (by decide) s2 (by decide) (by decide) rfl (by decide) rfl (ct_X11_memory l X hy) (z1.trans rfl) v1 rfl bd.1 bd.2 ?_
    show LW X kLaw p l e room_1 s mm _ below meth c Q 1004 _ [.int r] _ _ _ _ _
    refine lr_istore (pc := 1004) (i := 6) (L' := [(6, .int r), (5, .int 1), (0, .ref b), (1, rf X 1), (2, rf X 226), (3, rf X 277), (4, .int (nI (7 * t)))]) F dL_law_1004 (by decide) rfl rfl ?_
    refine lr_aload_n (pc := 1006) (i := 2) F 4 dL_law_1006 rfl rfl ?_
    refine lr_callM (pc := 1007) (ci := 9) (o := 226) (av := []) (st := []) F dL_law_1007 ck_X11_thrown m_1638 m_1639 m_1640 rfl (by decide) I2.s226 (by decide) (by decide) rfl (by decide) (z1.trans rfl) (ct_X11_thrown l X th) rfl rfl rfl bd.1 bd.2 ?_
    show LW X kLaw p l e room_1 s mm _ below meth c Q 1010 _ [.int 1] _ _ _ _ _
    refine lr_iload (pc := 1010) (i := 5) F 1 dL_law_1010 rfl ?_
    refine lr_icmpeq_t (pc := 1012) (tgt := 1017) F dL_law_1012 rfl rfl ?_
    refine lr_iload (pc := 1017) (i := 5) F 1 dL_law_1017 rfl ?_
    refine lr_ifne_t (pc := 1019) (tgt := 1034) F dL_law_1019 rfl (by decide) ?_
    refine lr_goto (pc := 1034) (tgt := 1186) F dL_law_1034 rfl ?_
    refine lr_sub [2, 3, 4, 5, 6] (L' := [(0, .ref b), (1, rf X 1), (2, rf X 226), (3, rf X 277), (4, .int (nI (7 * t)))]) rfl ?_
    exact kk _ _ _ _ _ I2
theorem cs_word (G : LG X p l s mm b N9 xs c) {t : Nat} (ht : 7 * t + 7 ≤ N9) {h m ot : AH} {cells slots : Nat} (I : LVI t h m ot cells slots) (kk : ∀ (h m ot : AH) (cells slots : Nat), LVI (t + 1) h m ot cells slots → LW X kLaw p l e room_1 s mm #[Value.ref b] below meth c Q 1186 [(0, .ref b), (1, rf X 1), (2, rf X 226), (3, rf X 277), (4, .int (nI (7 * t)))] [] h m ot cells slots) : LW X kLaw p l e room_1 s mm #[Value.ref b] below meth c Q 1037 [(0, .ref b), (1, rf X 1), (2, rf X 226), (3, rf X 277), (4, .int (nI (7 * t)))] [] h m ot cells slots := by
  obtain ⟨F, hX, hbl, hbA, h35, hl⟩ := G
  have t5 : t < 512 := by omega
  have s1 := I.s1
  have o1 := I.o1
  have o2 := I.o2
  rcases LI_ch (K := 0) (X := f_X10_word h 1 (xs (7 * t + 1))) (Y := fun m => f_X11_word m 226 (xs (7 * t + 1))) (by omega) t5 I (fun m s e b R he NM hb => call_word (xs (7 * t + 1)) R he) with ⟨h1, r, hx, hh⟩ | ⟨h1, hx, hh⟩
  · have ct := (ctr_X10_word l X hl hx).1
    obtain ⟨m1, hy, z1, v1, s2, th, I1⟩ := hh ct.1 ct.2
    have I2 := I1 (sL (hB ot (hZ h1)) 277 0 r.toInt64) ⟨o1, o2⟩
    have bd := I2.bd (by omega)
    refine lr_aload_n (pc := 1037) (i := 1) F 1 dL_law_1037 rfl rfl ?_
    refine lr_get (pc := 1038) (j := 1) F hX hbl hbA h35 ht (by decide) 0 4 dL_law_1038 dL_law_1039 dL_law_1041 rfl dL_law_1042 dL_law_1043 rfl rfl ?_
    refine lr_aload_n (pc := 1044) (i := 3) F 3 dL_law_1044 rfl rfl ?_
    refine lr_callW0 (pc := 1045) (av := [rf X 1, .int (xs (7 * t + 1)), rf X 277]) (st := []) F dL_law_1045 cw_word m_1280 (by decide) (by decide) rfl (by decide) (ml0_word l X hl hx s1 o1 o2) rfl rfl rfl bd.1 bd.2 ?_
    refine lr_hz (hZ h1) ?_
    refine lr_istore (pc := 1048) (i := 5) (L' := [(5, .int 0), (0, .ref b), (1, rf X 1), (2, rf X 226), (3, rf X 277), (4, .int (nI (7 * t)))]) F dL_law_1048 (by decide) rfl rfl ?_
    refine lr_aload_n (pc := 1050) (i := 2) F 3 dL_law_1050 rfl rfl ?_
    refine lr_get (pc := 1051) (j := 1) F hX hbl hbA h35 ht (by decide) 1 5 dL_law_1051 dL_law_1052 dL_law_1054 rfl dL_law_1055 dL_law_1056 rfl rfl ?_
    refine lr_callM (pc := 1057) (ci := 9) (o := 226) (av := [.int (xs (7 * t + 1))]) (st := []) F dL_law_1057 ck_X11_word m_2033 m_2034 m_2035 rfl (by decide) s2 (by decide) (by decide) rfl (by decide) rfl (ct_X11_word l X hy) (z1.trans rfl) v1 rfl bd.1 bd.2 ?_
    show LW X kLaw p l e room_1 s mm _ below meth c Q 1060 _ [.int r] _ _ _ _ _
    refine lr_istore (pc := 1060) (i := 6) (L' := [(6, .int r), (5, .int 0), (0, .ref b), (1, rf X 1), (2, rf X 226), (3, rf X 277), (4, .int (nI (7 * t)))]) F dL_law_1060 (by decide) rfl rfl ?_
    refine lr_aload_n (pc := 1062) (i := 2) F 4 dL_law_1062 rfl rfl ?_
    refine lr_callM (pc := 1063) (ci := 9) (o := 226) (av := []) (st := []) F dL_law_1063 ck_X11_thrown m_1638 m_1639 m_1640 rfl (by decide) I2.s226 (by decide) (by decide) rfl (by decide) z1 (ct_X11_thrown l X th) rfl rfl rfl bd.1 bd.2 ?_
    show LW X kLaw p l e room_1 s mm _ below meth c Q 1066 _ [.int 0] _ _ _ _ _
    refine lr_iload (pc := 1066) (i := 5) F 1 dL_law_1066 rfl ?_
    refine lr_icmpeq_t (pc := 1068) (tgt := 1073) F dL_law_1068 rfl rfl ?_
    refine lr_iload (pc := 1073) (i := 5) F 1 dL_law_1073 rfl ?_
    refine lr_ifne_f (pc := 1075) (tgt := 1090) F dL_law_1075 rfl rfl ?_
    refine lr_aload_n (pc := 1078) (i := 3) F 5 dL_law_1078 rfl rfl ?_
    refine lr_iconst (pc := 1079) (v := 0) F dL_law_1079 rfl ?_
    refine lr_lald (pc := 1080) (v := r.toInt64) F I2.o1 (by rw [I2.o2]; rfl) hL_sL_eq dL_law_1080 ?_
    refine lr_iload (pc := 1081) (i := 6) F 0 dL_law_1081 rfl ?_
    refine lr_i2l (pc := 1083) F dL_law_1083 ?_
    refine lr_lcmp (pc := 1084) F dL_law_1084 ?_
    refine lr_ifeq_t (pc := 1085) (tgt := 1090) F dL_law_1085 rfl (lg_cmp_self _) ?_
    refine lr_goto (pc := 1090) (tgt := 1186) F dL_law_1090 rfl ?_
    refine lr_sub [2, 3, 4, 5, 6] (L' := [(0, .ref b), (1, rf X 1), (2, rf X 226), (3, rf X 277), (4, .int (nI (7 * t)))]) rfl ?_
    exact kk _ _ _ _ _ I2
  · have ct := (ctx_X10_word l X hl hx).1
    obtain ⟨bd, hh⟩ := hh ct.1 ct.2
    refine lr_aload_n (pc := 1037) (i := 1) F 1 dL_law_1037 rfl rfl ?_
    refine lr_get (pc := 1038) (j := 1) F hX hbl hbA h35 ht (by decide) 0 4 dL_law_1038 dL_law_1039 dL_law_1041 rfl dL_law_1042 dL_law_1043 rfl rfl ?_
    refine lr_aload_n (pc := 1044) (i := 3) F 3 dL_law_1044 rfl rfl ?_
    refine lr_callW1 (pc := 1045) (av := [rf X 1, .int (xs (7 * t + 1)), rf X 277]) (st := []) F dL_law_1045 cw_word m_1280 (by decide) (by decide) rfl (by decide) (ml1_word l X hl hx s1 o1 o2) rfl rfl rfl bd.1 bd.2 (fun n hn => ?_)
    obtain ⟨r, m1, hy, z1, v1, s2, th, I2⟩ := hh n hn
    refine lr_hz n ?_
    refine lr_istore (pc := 1048) (i := 5) (L' := [(5, .int 1), (0, .ref b), (1, rf X 1), (2, rf X 226), (3, rf X 277), (4, .int (nI (7 * t)))]) F dL_law_1048 (by decide) rfl rfl ?_
    refine lr_aload_n (pc := 1050) (i := 2) F 3 dL_law_1050 rfl rfl ?_
    refine lr_get (pc := 1051) (j := 1) F hX hbl hbA h35 ht (by decide) 1 5 dL_law_1051 dL_law_1052 dL_law_1054 rfl dL_law_1055 dL_law_1056 rfl rfl ?_
    refine lr_callM (pc := 1057) (ci := 9) (o := 226) (av := [.int (xs (7 * t + 1))]) (st := []) F dL_law_1057 ck_X11_word m_2033 m_2034 m_2035 rfl (by decide) s2 (by decide) (by decide) rfl (by decide) rfl (ct_X11_word l X hy) (z1.trans rfl) v1 rfl bd.1 bd.2 ?_
    show LW X kLaw p l e room_1 s mm _ below meth c Q 1060 _ [.int r] _ _ _ _ _
    refine lr_istore (pc := 1060) (i := 6) (L' := [(6, .int r), (5, .int 1), (0, .ref b), (1, rf X 1), (2, rf X 226), (3, rf X 277), (4, .int (nI (7 * t)))]) F dL_law_1060 (by decide) rfl rfl ?_
    refine lr_aload_n (pc := 1062) (i := 2) F 4 dL_law_1062 rfl rfl ?_
    refine lr_callM (pc := 1063) (ci := 9) (o := 226) (av := []) (st := []) F dL_law_1063 ck_X11_thrown m_1638 m_1639 m_1640 rfl (by decide) I2.s226 (by decide) (by decide) rfl (by decide) (z1.trans rfl) (ct_X11_thrown l X th) rfl rfl rfl bd.1 bd.2 ?_
    show LW X kLaw p l e room_1 s mm _ below meth c Q 1066 _ [.int 1] _ _ _ _ _
    refine lr_iload (pc := 1066) (i := 5) F 1 dL_law_1066 rfl ?_
    refine lr_icmpeq_t (pc := 1068) (tgt := 1073) F dL_law_1068 rfl rfl ?_
    refine lr_iload (pc := 1073) (i := 5) F 1 dL_law_1073 rfl ?_
    refine lr_ifne_t (pc := 1075) (tgt := 1090) F dL_law_1075 rfl (by decide) ?_
    refine lr_goto (pc := 1090) (tgt := 1186) F dL_law_1090 rfl ?_
    refine lr_sub [2, 3, 4, 5, 6] (L' := [(0, .ref b), (1, rf X 1), (2, rf X 226), (3, rf X 277), (4, .int (nI (7 * t)))]) rfl ?_
    exact kk _ _ _ _ _ I2
theorem cs_message (G : LG X p l s mm b N9 xs c) {t : Nat} (ht : 7 * t + 7 ≤ N9) {h m ot : AH} {cells slots : Nat} (I : LVI t h m ot cells slots) (kk : ∀ (h m ot : AH) (cells slots : Nat), LVI (t + 1) h m ot cells slots → LW X kLaw p l e room_1 s mm #[Value.ref b] below meth c Q 1186 [(0, .ref b), (1, rf X 1), (2, rf X 226), (3, rf X 277), (4, .int (nI (7 * t)))] [] h m ot cells slots) : LW X kLaw p l e room_1 s mm #[Value.ref b] below meth c Q 1093 [(0, .ref b), (1, rf X 1), (2, rf X 226), (3, rf X 277), (4, .int (nI (7 * t)))] [] h m ot cells slots := by
  obtain ⟨F, hX, hbl, hbA, h35, hl⟩ := G
  have t5 : t < 512 := by omega
  have s1 := I.s1
  have o1 := I.o1
  have o2 := I.o2
  rcases LI_ch (K := 0) (X := f_X10_message h 1 (xs (7 * t + 1)) (xs (7 * t + 2))) (Y := fun m => f_X11_message m 226 (xs (7 * t + 1)) (xs (7 * t + 2))) (by omega) t5 I (fun m s e b R he NM hb => call_message (xs (7 * t + 1)) (xs (7 * t + 2)) R he) with ⟨h1, r, hx, hh⟩ | ⟨h1, hx, hh⟩
  · have ct := (ctr_X10_message l X hl hx).1
    obtain ⟨m1, hy, z1, v1, s2, th, I1⟩ := hh ct.1 ct.2
    have I2 := I1 (sL (hB ot (hZ h1)) 277 0 r.toInt64) ⟨o1, o2⟩
    have bd := I2.bd (by omega)
    refine lr_aload_n (pc := 1093) (i := 1) F 1 dL_law_1093 rfl rfl ?_
    refine lr_get (pc := 1094) (j := 1) F hX hbl hbA h35 ht (by decide) 0 4 dL_law_1094 dL_law_1095 dL_law_1097 rfl dL_law_1098 dL_law_1099 rfl rfl ?_
    refine lr_get (pc := 1100) (j := 2) F hX hbl hbA h35 ht (by decide) 0 4 dL_law_1100 dL_law_1101 dL_law_1103 rfl dL_law_1104 dL_law_1105 rfl rfl ?_
    refine lr_aload_n (pc := 1106) (i := 3) F 3 dL_law_1106 rfl rfl ?_
    refine lr_callW0 (pc := 1107) (av := [rf X 1, .int (xs (7 * t + 1)), .int (xs (7 * t + 2)), rf X 277]) (st := []) F dL_law_1107 cw_message m_1296 (by decide) (by decide) rfl (by decide) (ml0_message l X hl hx s1 o1 o2) rfl rfl rfl bd.1 bd.2 ?_
    refine lr_hz (hZ h1) ?_
    refine lr_istore (pc := 1110) (i := 5) (L' := [(5, .int 0), (0, .ref b), (1, rf X 1), (2, rf X 226), (3, rf X 277), (4, .int (nI (7 * t)))]) F dL_law_1110 (by decide) rfl rfl ?_
    refine lr_aload_n (pc := 1112) (i := 2) F 3 dL_law_1112 rfl rfl ?_
    refine lr_get (pc := 1113) (j := 1) F hX hbl hbA h35 ht (by decide) 1 5 dL_law_1113 dL_law_1114 dL_law_1116 rfl dL_law_1117 dL_law_1118 rfl rfl ?_
    refine lr_get (pc := 1119) (j := 2) F hX hbl hbA h35 ht (by decide) 1 5 dL_law_1119 dL_law_1120 dL_law_1122 rfl dL_law_1123 dL_law_1124 rfl rfl ?_
    refine lr_callM (pc := 1125) (ci := 9) (o := 226) (av := [.int (xs (7 * t + 1)), .int (xs (7 * t + 2))]) (st := []) F dL_law_1125 ck_X11_message m_2037 m_2038 m_2039 rfl (by decide) s2 (by decide) (by decide) rfl (by decide) rfl (ct_X11_message l X hy) (z1.trans rfl) v1 rfl bd.1 bd.2 ?_
    show LW X kLaw p l e room_1 s mm _ below meth c Q 1128 _ [.int r] _ _ _ _ _
    refine lr_istore (pc := 1128) (i := 6) (L' := [(6, .int r), (5, .int 0), (0, .ref b), (1, rf X 1), (2, rf X 226), (3, rf X 277), (4, .int (nI (7 * t)))]) F dL_law_1128 (by decide) rfl rfl ?_
    refine lr_aload_n (pc := 1130) (i := 2) F 4 dL_law_1130 rfl rfl ?_
    refine lr_callM (pc := 1131) (ci := 9) (o := 226) (av := []) (st := []) F dL_law_1131 ck_X11_thrown m_1638 m_1639 m_1640 rfl (by decide) I2.s226 (by decide) (by decide) rfl (by decide) z1 (ct_X11_thrown l X th) rfl rfl rfl bd.1 bd.2 ?_
    show LW X kLaw p l e room_1 s mm _ below meth c Q 1134 _ [.int 0] _ _ _ _ _
    refine lr_iload (pc := 1134) (i := 5) F 1 dL_law_1134 rfl ?_
    refine lr_icmpeq_t (pc := 1136) (tgt := 1141) F dL_law_1136 rfl rfl ?_
    refine lr_iload (pc := 1141) (i := 5) F 1 dL_law_1141 rfl ?_
    refine lr_ifne_f (pc := 1143) (tgt := 1158) F dL_law_1143 rfl rfl ?_
    refine lr_aload_n (pc := 1146) (i := 3) F 5 dL_law_1146 rfl rfl ?_
    refine lr_iconst (pc := 1147) (v := 0) F dL_law_1147 rfl ?_
    refine lr_lald (pc := 1148) (v := r.toInt64) F I2.o1 (by rw [I2.o2]; rfl) hL_sL_eq dL_law_1148 ?_
    refine lr_iload (pc := 1149) (i := 6) F 0 dL_law_1149 rfl ?_
    refine lr_i2l (pc := 1151) F dL_law_1151 ?_
    refine lr_lcmp (pc := 1152) F dL_law_1152 ?_
    refine lr_ifeq_t (pc := 1153) (tgt := 1158) F dL_law_1153 rfl (lg_cmp_self _) ?_
    refine lr_goto (pc := 1158) (tgt := 1186) F dL_law_1158 rfl ?_
    refine lr_sub [2, 3, 4, 5, 6] (L' := [(0, .ref b), (1, rf X 1), (2, rf X 226), (3, rf X 277), (4, .int (nI (7 * t)))]) rfl ?_
    exact kk _ _ _ _ _ I2
  · have ct := (ctx_X10_message l X hl hx).1
    obtain ⟨bd, hh⟩ := hh ct.1 ct.2
    refine lr_aload_n (pc := 1093) (i := 1) F 1 dL_law_1093 rfl rfl ?_
    refine lr_get (pc := 1094) (j := 1) F hX hbl hbA h35 ht (by decide) 0 4 dL_law_1094 dL_law_1095 dL_law_1097 rfl dL_law_1098 dL_law_1099 rfl rfl ?_
    refine lr_get (pc := 1100) (j := 2) F hX hbl hbA h35 ht (by decide) 0 4 dL_law_1100 dL_law_1101 dL_law_1103 rfl dL_law_1104 dL_law_1105 rfl rfl ?_
    refine lr_aload_n (pc := 1106) (i := 3) F 3 dL_law_1106 rfl rfl ?_
    refine lr_callW1 (pc := 1107) (av := [rf X 1, .int (xs (7 * t + 1)), .int (xs (7 * t + 2)), rf X 277]) (st := []) F dL_law_1107 cw_message m_1296 (by decide) (by decide) rfl (by decide) (ml1_message l X hl hx s1 o1 o2) rfl rfl rfl bd.1 bd.2 (fun n hn => ?_)
    obtain ⟨r, m1, hy, z1, v1, s2, th, I2⟩ := hh n hn
    refine lr_hz n ?_
    refine lr_istore (pc := 1110) (i := 5) (L' := [(5, .int 1), (0, .ref b), (1, rf X 1), (2, rf X 226), (3, rf X 277), (4, .int (nI (7 * t)))]) F dL_law_1110 (by decide) rfl rfl ?_
    refine lr_aload_n (pc := 1112) (i := 2) F 3 dL_law_1112 rfl rfl ?_
    refine lr_get (pc := 1113) (j := 1) F hX hbl hbA h35 ht (by decide) 1 5 dL_law_1113 dL_law_1114 dL_law_1116 rfl dL_law_1117 dL_law_1118 rfl rfl ?_
    refine lr_get (pc := 1119) (j := 2) F hX hbl hbA h35 ht (by decide) 1 5 dL_law_1119 dL_law_1120 dL_law_1122 rfl dL_law_1123 dL_law_1124 rfl rfl ?_
    refine lr_callM (pc := 1125) (ci := 9) (o := 226) (av := [.int (xs (7 * t + 1)), .int (xs (7 * t + 2))]) (st := []) F dL_law_1125 ck_X11_message m_2037 m_2038 m_2039 rfl (by decide) s2 (by decide) (by decide) rfl (by decide) rfl (ct_X11_message l X hy) (z1.trans rfl) v1 rfl bd.1 bd.2 ?_
    show LW X kLaw p l e room_1 s mm _ below meth c Q 1128 _ [.int r] _ _ _ _ _
    refine lr_istore (pc := 1128) (i := 6) (L' := [(6, .int r), (5, .int 1), (0, .ref b), (1, rf X 1), (2, rf X 226), (3, rf X 277), (4, .int (nI (7 * t)))]) F dL_law_1128 (by decide) rfl rfl ?_
    refine lr_aload_n (pc := 1130) (i := 2) F 4 dL_law_1130 rfl rfl ?_
    refine lr_callM (pc := 1131) (ci := 9) (o := 226) (av := []) (st := []) F dL_law_1131 ck_X11_thrown m_1638 m_1639 m_1640 rfl (by decide) I2.s226 (by decide) (by decide) rfl (by decide) (z1.trans rfl) (ct_X11_thrown l X th) rfl rfl rfl bd.1 bd.2 ?_
    show LW X kLaw p l e room_1 s mm _ below meth c Q 1134 _ [.int 1] _ _ _ _ _
    refine lr_iload (pc := 1134) (i := 5) F 1 dL_law_1134 rfl ?_
    refine lr_icmpeq_t (pc := 1136) (tgt := 1141) F dL_law_1136 rfl rfl ?_
    refine lr_iload (pc := 1141) (i := 5) F 1 dL_law_1141 rfl ?_
    refine lr_ifne_t (pc := 1143) (tgt := 1158) F dL_law_1143 rfl (by decide) ?_
    refine lr_goto (pc := 1158) (tgt := 1186) F dL_law_1158 rfl ?_
    refine lr_sub [2, 3, 4, 5, 6] (L' := [(0, .ref b), (1, rf X 1), (2, rf X 226), (3, rf X 277), (4, .int (nI (7 * t)))]) rfl ?_
    exact kk _ _ _ _ _ I2
theorem cs_total (G : LG X p l s mm b N9 xs c) {t : Nat} (ht : 7 * t + 7 ≤ N9) {h m ot : AH} {cells slots : Nat} (I : LVI t h m ot cells slots) (kk : ∀ (h m ot : AH) (cells slots : Nat), LVI (t + 1) h m ot cells slots → LW X kLaw p l e room_1 s mm #[Value.ref b] below meth c Q 1186 [(0, .ref b), (1, rf X 1), (2, rf X 226), (3, rf X 277), (4, .int (nI (7 * t)))] [] h m ot cells slots) : LW X kLaw p l e room_1 s mm #[Value.ref b] below meth c Q 1161 [(0, .ref b), (1, rf X 1), (2, rf X 226), (3, rf X 277), (4, .int (nI (7 * t)))] [] h m ot cells slots := by
  obtain ⟨F, hX, hbl, hbA, h35, hl⟩ := G
  have t5 : t < 512 := by omega
  have s1 := I.s1
  have o1 := I.o1
  have o2 := I.o2
  obtain ⟨r, hx, m1, hy, z1, v1, I1⟩ := LI_cp (X := f_X10_total h 1 (xs (7 * t + 1))) (Y := fun m => f_X11_total m 226 (xs (7 * t + 1))) t5 I (fun m s e b R he => call_total (xs (7 * t + 1)) R he)
  have ct := ct_X10_total l X hx
  have bd := I1.bd (by omega)
  have s2 := I.s226
  have z9 := I.z
  refine lr_aload_n (pc := 1161) (i := 1) F 1 dL_law_1161 rfl rfl ?_
  refine lr_get (pc := 1162) (j := 1) F hX hbl hbA h35 ht (by decide) 0 4 dL_law_1162 dL_law_1163 dL_law_1165 rfl dL_law_1166 dL_law_1167 rfl rfl ?_
  refine lr_callC (pc := 1168) (ci := 8) (o := 1) (av := [.int (xs (7 * t + 1))]) (st := []) F dL_law_1168 ck_X10_total m_698 m_699 m_700 rfl (by decide) s1 (by decide) (by decide) rfl (by decide) ct rfl (by show cells = cells + (hZ h - hZ h); omega) (by show slots = slots + (hV h - hV h); omega) bd.1 bd.2 ?_
  show LW X kLaw p l e room_1 s mm _ below meth c Q 1171 _ [.int r] _ _ _ _ _
  refine lr_aload_n (pc := 1171) (i := 2) F 2 dL_law_1171 rfl rfl ?_
  refine lr_get (pc := 1172) (j := 1) F hX hbl hbA h35 ht (by decide) 0 4 dL_law_1172 dL_law_1173 dL_law_1175 rfl dL_law_1176 dL_law_1177 rfl rfl ?_
  refine lr_callM (pc := 1178) (ci := 9) (o := 226) (av := [.int (xs (7 * t + 1))]) (st := [.int r]) F dL_law_1178 ck_X11_total m_2041 m_2042 m_2043 rfl (by decide) s2 (by decide) (by decide) rfl (by show 1 ≤ 8; decide) z9 (ct_X11_total l X hy) z1 v1 rfl bd.1 bd.2 ?_
  show LW X kLaw p l e room_1 s mm _ below meth c Q 1181 _ [.int r, .int r] _ _ _ _ _
  refine lr_icmpeq_t (pc := 1181) (tgt := 1186) F dL_law_1181 rfl rfl ?_
  exact kk _ _ _ _ _ I1
theorem and31 (x : Int32) : ∃ k, k < 32 ∧ x &&& 31 = nI k := by
  refine ⟨(x &&& 31).toBitVec.toNat, ?_, (nI_n _).symm⟩
  have : (x &&& 31).toBitVec.toNat = x.toBitVec.toNat &&& 31 := by
    rw [Int32.toBitVec_and, BitVec.toNat_and]; rfl
  rw [this]
  exact Nat.lt_of_le_of_lt Nat.and_le_right (by omega)
theorem lt7s {N t : Nat} (hN : N ≤ 3584) (ht : t ≤ 512) : nI N - 7 < nI (7 * t) ↔ N < 7 * t + 7 := by
  by_cases h : 7 ≤ N
  · rw [show (7 : Int32) = nI 7 from rfl, q_sub h, q_lt (by omega) (by omega)]
    omega
  · have h7 : (nI N - 7).toInt = (N : Int) - 7 := by
      have : N = 0 ∨ N = 1 ∨ N = 2 ∨ N = 3 ∨ N = 4 ∨ N = 5 ∨ N = 6 := by omega
      rcases this with q | q | q | q | q | q | q <;> (rw [q]; decide)
    rw [Int32.lt_iff_toInt_lt, h7, q_toInt (by omega)]
    omega
theorem lw_body (G : LG X p l s mm b N9 xs c) {t : Nat} (ht : 7 * t + 7 ≤ N9) {h m ot : AH} {cells slots : Nat} (I : LVI t h m ot cells slots) (kk : ∀ (h m ot : AH) (cells slots : Nat), LVI (t + 1) h m ot cells slots → LW X kLaw p l e room_1 s mm #[Value.ref b] below meth c Q 1186 [(0, .ref b), (1, rf X 1), (2, rf X 226), (3, rf X 277), (4, .int (nI (7 * t)))] [] h m ot cells slots) : LW X kLaw p l e room_1 s mm #[Value.ref b] below meth c Q 33 [(0, .ref b), (1, rf X 1), (2, rf X 226), (3, rf X 277), (4, .int (nI (7 * t)))] [] h m ot cells slots := by
  obtain ⟨F, hX, hbl, hbA, h35, hl⟩ := id G
  refine lr_aload_nC (pc := 33) (i := 0) F 0 dL_law_33 rfl rfl ?_
  refine lr_iload (pc := 34) (i := 4) F 4 dL_law_34 rfl ?_
  refine lr_sld (pc := 36) F hX hbl hbA (ib_in (x_ib (by omega) (by omega))) (v := xs (7 * t)) (by rw [x_cl (by omega)]) dL_law_36 ?_
  refine lr_bipush (pc := 37) (v := 31) F dL_law_37 rfl ?_
  refine lr_iand (pc := 39) F dL_law_39 ?_
  obtain ⟨k9, hk, e0⟩ := and31 (xs (7 * t))
  rw [e0]
  have : k9 = 0 ∨ k9 = 1 ∨ k9 = 2 ∨ k9 = 3 ∨ k9 = 4 ∨ k9 = 5 ∨ k9 = 6 ∨ k9 = 7 ∨ k9 = 8 ∨ k9 = 9 ∨ k9 = 10 ∨ k9 = 11 ∨ k9 = 12 ∨ k9 = 13 ∨ k9 = 14 ∨ k9 = 15 ∨ k9 = 16 ∨ k9 = 17 ∨ k9 = 18 ∨ k9 = 19 ∨ 20 ≤ k9 := by omega
  rcases this with rfl | rfl | rfl | rfl | rfl | rfl | rfl | rfl | rfl | rfl | rfl | rfl | rfl | rfl | rfl | rfl | rfl | rfl | rfl | rfl | h20
  · exact lr_tableIn (pc := 40) (x := nI 0) (tgt := 136) F dL_law_40 (by decide) (by decide) rfl rfl (cs_type G ht I kk)
  · exact lr_tableIn (pc := 40) (x := nI 1) (tgt := 205) F dL_law_40 (by decide) (by decide) rfl rfl (cs_sizes G ht I kk)
  · exact lr_tableIn (pc := 40) (x := nI 2) (tgt := 292) F dL_law_40 (by decide) (by decide) rfl rfl (cs_assemble G ht I kk)
  · exact lr_tableIn (pc := 40) (x := nI 3) (tgt := 336) F dL_law_40 (by decide) (by decide) rfl rfl (cs_fault G ht I kk)
  · exact lr_tableIn (pc := 40) (x := nI 4) (tgt := 361) F dL_law_40 (by decide) (by decide) rfl rfl (cs_step G ht I kk)
  · exact lr_tableIn (pc := 40) (x := nI 5) (tgt := 417) F dL_law_40 (by decide) (by decide) rfl rfl (cs_drain G ht I kk)
  · exact lr_tableIn (pc := 40) (x := nI 6) (tgt := 473) F dL_law_40 (by decide) (by decide) rfl rfl (cs_deliver G ht I kk)
  · exact lr_tableIn (pc := 40) (x := nI 7) (tgt := 498) F dL_law_40 (by decide) (by decide) rfl rfl (cs_deliverOn G ht I kk)
  · exact lr_tableIn (pc := 40) (x := nI 8) (tgt := 535) F dL_law_40 (by decide) (by decide) rfl rfl (cs_run G ht I kk)
  · exact lr_tableIn (pc := 40) (x := nI 9) (tgt := 591) F dL_law_40 (by decide) (by decide) rfl rfl (cs_play G ht I kk)
  · exact lr_tableIn (pc := 40) (x := nI 10) (tgt := 635) F dL_law_40 (by decide) (by decide) rfl rfl (cs_trace G ht I kk)
  · exact lr_tableIn (pc := 40) (x := nI 11) (tgt := 715) F dL_law_40 (by decide) (by decide) rfl rfl (cs_core G ht I kk)
  · exact lr_tableIn (pc := 40) (x := nI 12) (tgt := 783) F dL_law_40 (by decide) (by decide) rfl rfl (cs_cached G ht I kk)
  · exact lr_tableIn (pc := 40) (x := nI 13) (tgt := 820) F dL_law_40 (by decide) (by decide) rfl rfl (cs_copy G ht I kk)
  · exact lr_tableIn (pc := 40) (x := nI 14) (tgt := 888) F dL_law_40 (by decide) (by decide) rfl rfl (cs_home G ht I kk)
  · exact lr_tableIn (pc := 40) (x := nI 15) (tgt := 956) F dL_law_40 (by decide) (by decide) rfl rfl (cs_waiting G ht I kk)
  · exact lr_tableIn (pc := 40) (x := nI 16) (tgt := 981) F dL_law_40 (by decide) (by decide) rfl rfl (cs_memory G ht I kk)
  · exact lr_tableIn (pc := 40) (x := nI 17) (tgt := 1037) F dL_law_40 (by decide) (by decide) rfl rfl (cs_word G ht I kk)
  · exact lr_tableIn (pc := 40) (x := nI 18) (tgt := 1093) F dL_law_40 (by decide) (by decide) rfl rfl (cs_message G ht I kk)
  · exact lr_tableIn (pc := 40) (x := nI 19) (tgt := 1161) F dL_law_40 (by decide) (by decide) rfl rfl (cs_total G ht I kk)
  · exact lr_tableOut (pc := 40) (tgt := 1186) F dL_law_40 (Or.inr (by rw [q_toInt (by omega)]; omega)) rfl (kk _ _ _ _ _ I.up)
theorem lw_loop (G : LG X p l s mm b N9 xs c) (hend : ∀ (t : Nat) (h m ot : AH) (cells slots : Nat), LVI t h m ot cells slots → t ≤ 512 → LW X kLaw p l e room_1 s mm #[Value.ref b] below meth c Q 1192 [(0, .ref b), (1, rf X 1), (2, rf X 226), (3, rf X 277), (4, .int (nI (7 * t)))] [] h m ot cells slots) :
    ∀ (k9 t : Nat) (h m ot : AH) (cells slots : Nat), N9 < 7 * t + 7 + 7 * k9 → t ≤ 512 → LVI t h m ot cells slots → LW X kLaw p l e room_1 s mm #[Value.ref b] below meth c Q 23 [(0, .ref b), (1, rf X 1), (2, rf X 226), (3, rf X 277), (4, .int (nI (7 * t)))] [] h m ot cells slots := by
  obtain ⟨F, hX, hbl, hbA, h35, hl⟩ := id G
  have head : ∀ (t : Nat) (h m ot : AH) (cells slots : Nat), t ≤ 512 → (N9 < 7 * t + 7 → LW X kLaw p l e room_1 s mm #[Value.ref b] below meth c Q 1192 [(0, .ref b), (1, rf X 1), (2, rf X 226), (3, rf X 277), (4, .int (nI (7 * t)))] [] h m ot cells slots) → (7 * t + 7 ≤ N9 → LW X kLaw p l e room_1 s mm #[Value.ref b] below meth c Q 33 [(0, .ref b), (1, rf X 1), (2, rf X 226), (3, rf X 277), (4, .int (nI (7 * t)))] [] h m ot cells slots) →
      LW X kLaw p l e room_1 s mm #[Value.ref b] below meth c Q 23 [(0, .ref b), (1, rf X 1), (2, rf X 226), (3, rf X 277), (4, .int (nI (7 * t)))] [] h m ot cells slots := fun t h m ot cells slots t5 k1 k2 => by
    refine lr_iload (pc := 23) (i := 4) F 4 dL_law_23 rfl ?_
    refine lr_aload_nC (pc := 25) (i := 0) F 0 dL_law_25 rfl rfl ?_
    refine lr_slen (pc := 26) F hX hbl hbA dL_law_26 ?_
    refine lr_bipush (pc := 27) (v := 7) F dL_law_27 rfl ?_
    refine lr_isub (pc := 29) F dL_law_29 ?_
    by_cases q : N9 < 7 * t + 7
    · exact lr_icmpgt_t (pc := 30) (tgt := 1192) F dL_law_30 rfl ((lt7s h35 t5).mpr q) (k1 q)
    · exact lr_icmpgt_f (pc := 30) (tgt := 1192) F dL_law_30 rfl (fun w => q ((lt7s h35 t5).mp w)) (k2 (by omega))
  intro k9
  induction k9 with
  | zero => exact fun t h m ot cells slots hk t5 I => head t h m ot cells slots t5 (fun _ => hend t h m ot cells slots I t5) (fun q => absurd hk (by omega))
  | succ k9 ih =>
    intro t h m ot cells slots hk t5 I
    refine head t h m ot cells slots t5 (fun _ => hend t h m ot cells slots I t5) (fun q => lw_body G q I (fun h1 m1 ot1 cells1 slots1 I1 => ?_))
    refine lr_iinc (pc := 1186) (i := 4) (y := nI (7 * (t + 1))) (L' := [(4, .int (nI (7 * (t + 1)))), (0, .ref b), (1, rf X 1), (2, rf X 226), (3, rf X 277)]) F 4 dL_law_1186 rfl (by decide) (by rw [show Int32.ofInt 7 = nI 7 from rfl, q_add]; exact congrArg nI (by omega)) rfl ?_
    refine lr_goto (pc := 1189) (tgt := 23) F dL_law_1189 rfl ?_
    refine lr_sub [1, 2, 3, 4, 0] (L' := [(0, .ref b), (1, rf X 1), (2, rf X 226), (3, rf X 277), (4, .int (nI (7 * (t + 1))))]) rfl ?_
    exact ih (t + 1) h1 m1 ot1 cells1 slots1 (by omega) (by omega) I1
end CS
