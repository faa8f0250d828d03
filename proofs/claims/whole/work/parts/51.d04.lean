theorem dX11_oneToken_167 : decode cX11_oneToken 167 = .ok (.isub, 1) := by decide +kernel
theorem dX11_oneToken_168 : decode cX11_oneToken 168 = .ok (.bipush 10, 2) := by decide +kernel
theorem dX11_oneToken_170 : decode cX11_oneToken 170 = .ok (.if_icmp .ge 23, 3) := by decide +kernel
theorem dX11_oneToken_173 : decode cX11_oneToken 173 = .ok (.ldc2_w 365, 3) := by decide +kernel
theorem dX11_oneToken_176 : decode cX11_oneToken 176 = .ok (.lload 4, 2) := by decide +kernel
theorem dX11_oneToken_178 : decode cX11_oneToken 178 = .ok (.lmul, 1) := by decide +kernel
theorem dX11_oneToken_179 : decode cX11_oneToken 179 = .ok (.aload_n 0, 1) := by decide +kernel
theorem dX11_oneToken_180 : decode cX11_oneToken 180 = .ok (.iload_n 3, 1) := by decide +kernel
theorem dX11_oneToken_181 : decode cX11_oneToken 181 = .ok (.invokevirtual 357, 3) := by decide +kernel
theorem dX11_oneToken_184 : decode cX11_oneToken 184 = .ok (.i2l, 1) := by decide +kernel
theorem dX11_oneToken_185 : decode cX11_oneToken 185 = .ok (.ladd, 1) := by decide +kernel
theorem dX11_oneToken_186 : decode cX11_oneToken 186 = .ok (.ldc2_w 367, 3) := by decide +kernel
theorem dX11_oneToken_189 : decode cX11_oneToken 189 = .ok (.lsub, 1) := by decide +kernel
theorem dX11_oneToken_190 : decode cX11_oneToken 190 = .ok (.goto 5, 3) := by decide +kernel
theorem dX11_oneToken_193 : decode cX11_oneToken 193 = .ok (.lload 4, 2) := by decide +kernel
theorem dX11_oneToken_195 : decode cX11_oneToken 195 = .ok (.lstore 4, 2) := by decide +kernel
theorem dX11_oneToken_197 : decode cX11_oneToken 197 = .ok (.iinc 3 1, 3) := by decide +kernel
theorem dX11_oneToken_200 : decode cX11_oneToken 200 = .ok (.goto (-46), 3) := by decide +kernel
theorem dX11_oneToken_203 : decode cX11_oneToken 203 = .ok (.aload_n 0, 1) := by decide +kernel
theorem dX11_oneToken_204 : decode cX11_oneToken 204 = .ok (.iload_n 3, 1) := by decide +kernel
theorem dX11_oneToken_205 : decode cX11_oneToken 205 = .ok (.iload_n 1, 1) := by decide +kernel
theorem dX11_oneToken_206 : decode cX11_oneToken 206 = .ok (.isub, 1) := by decide +kernel
theorem dX11_oneToken_207 : decode cX11_oneToken 207 = .ok (.bipush 10, 2) := by decide +kernel
theorem dX11_oneToken_209 : decode cX11_oneToken 209 = .ok (.if_icmp .le 7, 3) := by decide +kernel
theorem dX11_oneToken_212 : decode cX11_oneToken 212 = .ok (.iconst 4, 1) := by decide +kernel
theorem dX11_oneToken_213 : decode cX11_oneToken 213 = .ok (.goto 4, 3) := by decide +kernel
theorem dX11_oneToken_216 : decode cX11_oneToken 216 = .ok (.iconst 2, 1) := by decide +kernel
theorem dX11_oneToken_217 : decode cX11_oneToken 217 = .ok (.iload_n 1, 1) := by decide +kernel
theorem dX11_oneToken_218 : decode cX11_oneToken 218 = .ok (.lload 4, 2) := by decide +kernel
theorem dX11_oneToken_220 : decode cX11_oneToken 220 = .ok (.invokevirtual 353, 3) := by decide +kernel
theorem dX11_oneToken_223 : decode cX11_oneToken 223 = .ok (.goto 136, 3) := by decide +kernel
theorem dX11_oneToken_226 : decode cX11_oneToken 226 = .ok (.iload_n 2, 1) := by decide +kernel
theorem dX11_oneToken_227 : decode cX11_oneToken 227 = .ok (.invokestatic 369, 3) := by decide +kernel
theorem dX11_oneToken_230 : decode cX11_oneToken 230 = .ok (.ifCond .eq 81, 3) := by decide +kernel
theorem dX11_oneToken_233 : decode cX11_oneToken 233 = .ok (.aload_n 0, 1) := by decide +kernel
theorem dX11_oneToken_234 : decode cX11_oneToken 234 = .ok (.iload_n 3, 1) := by decide +kernel
theorem dX11_oneToken_235 : decode cX11_oneToken 235 = .ok (.invokevirtual 357, 3) := by decide +kernel
theorem dX11_oneToken_238 : decode cX11_oneToken 238 = .ok (.invokestatic 369, 3) := by decide +kernel
theorem dX11_oneToken_241 : decode cX11_oneToken 241 = .ok (.ifCond .ne 14, 3) := by decide +kernel
theorem dX11_oneToken_244 : decode cX11_oneToken 244 = .ok (.aload_n 0, 1) := by decide +kernel
theorem dX11_oneToken_245 : decode cX11_oneToken 245 = .ok (.iload_n 3, 1) := by decide +kernel
theorem dX11_oneToken_246 : decode cX11_oneToken 246 = .ok (.invokevirtual 357, 3) := by decide +kernel
theorem dX11_oneToken_249 : decode cX11_oneToken 249 = .ok (.invokestatic 342, 3) := by decide +kernel
theorem dX11_oneToken_252 : decode cX11_oneToken 252 = .ok (.ifCond .eq 36, 3) := by decide +kernel
theorem dX11_oneToken_255 : decode cX11_oneToken 255 = .ok (.iload_n 3, 1) := by decide +kernel
theorem dX11_oneToken_256 : decode cX11_oneToken 256 = .ok (.iload_n 1, 1) := by decide +kernel
theorem dX11_oneToken_257 : decode cX11_oneToken 257 = .ok (.isub, 1) := by decide +kernel
theorem dX11_oneToken_258 : decode cX11_oneToken 258 = .ok (.bipush 8, 2) := by decide +kernel
theorem dX11_oneToken_260 : decode cX11_oneToken 260 = .ok (.if_icmp .ge 18, 3) := by decide +kernel
theorem dX11_oneToken_263 : decode cX11_oneToken 263 = .ok (.lload 4, 2) := by decide +kernel
theorem dX11_oneToken_265 : decode cX11_oneToken 265 = .ok (.bipush 8, 2) := by decide +kernel
theorem dX11_oneToken_267 : decode cX11_oneToken 267 = .ok (.lshl, 1) := by decide +kernel
theorem dX11_oneToken_268 : decode cX11_oneToken 268 = .ok (.aload_n 0, 1) := by decide +kernel
theorem dX11_oneToken_269 : decode cX11_oneToken 269 = .ok (.iload_n 3, 1) := by decide +kernel
theorem dX11_oneToken_270 : decode cX11_oneToken 270 = .ok (.invokevirtual 357, 3) := by decide +kernel
theorem dX11_oneToken_273 : decode cX11_oneToken 273 = .ok (.i2l, 1) := by decide +kernel
theorem dX11_oneToken_274 : decode cX11_oneToken 274 = .ok (.lor, 1) := by decide +kernel
theorem dX11_oneToken_275 : decode cX11_oneToken 275 = .ok (.goto 5, 3) := by decide +kernel
theorem dX11_oneToken_278 : decode cX11_oneToken 278 = .ok (.lload 4, 2) := by decide +kernel
theorem dX11_oneToken_280 : decode cX11_oneToken 280 = .ok (.lstore 4, 2) := by decide +kernel
theorem dX11_oneToken_282 : decode cX11_oneToken 282 = .ok (.iinc 3 1, 3) := by decide +kernel
theorem dX11_oneToken_285 : decode cX11_oneToken 285 = .ok (.goto (-52), 3) := by decide +kernel
theorem dX11_oneToken_288 : decode cX11_oneToken 288 = .ok (.aload_n 0, 1) := by decide +kernel
theorem dX11_oneToken_289 : decode cX11_oneToken 289 = .ok (.iload_n 3, 1) := by decide +kernel
theorem dX11_oneToken_290 : decode cX11_oneToken 290 = .ok (.iload_n 1, 1) := by decide +kernel
theorem dX11_oneToken_291 : decode cX11_oneToken 291 = .ok (.isub, 1) := by decide +kernel
theorem dX11_oneToken_292 : decode cX11_oneToken 292 = .ok (.bipush 8, 2) := by decide +kernel
theorem dX11_oneToken_294 : decode cX11_oneToken 294 = .ok (.if_icmp .le 7, 3) := by decide +kernel
theorem dX11_oneToken_297 : decode cX11_oneToken 297 = .ok (.iconst 4, 1) := by decide +kernel
theorem dX11_oneToken_298 : decode cX11_oneToken 298 = .ok (.goto 4, 3) := by decide +kernel
theorem dX11_oneToken_301 : decode cX11_oneToken 301 = .ok (.iconst 1, 1) := by decide +kernel
theorem dX11_oneToken_302 : decode cX11_oneToken 302 = .ok (.iload_n 1, 1) := by decide +kernel
theorem dX11_oneToken_303 : decode cX11_oneToken 303 = .ok (.lload 4, 2) := by decide +kernel
theorem dX11_oneToken_305 : decode cX11_oneToken 305 = .ok (.invokevirtual 353, 3) := by decide +kernel
theorem dX11_oneToken_308 : decode cX11_oneToken 308 = .ok (.goto 51, 3) := by decide +kernel
theorem dX11_oneToken_311 : decode cX11_oneToken 311 = .ok (.aload_n 0, 1) := by decide +kernel
theorem dX11_oneToken_312 : decode cX11_oneToken 312 = .ok (.iload_n 2, 1) := by decide +kernel
theorem dX11_oneToken_313 : decode cX11_oneToken 313 = .ok (.bipush 58, 2) := by decide +kernel
theorem dX11_oneToken_315 : decode cX11_oneToken 315 = .ok (.if_icmp .eq 33, 3) := by decide +kernel
theorem dX11_oneToken_318 : decode cX11_oneToken 318 = .ok (.iload_n 2, 1) := by decide +kernel
theorem dX11_oneToken_319 : decode cX11_oneToken 319 = .ok (.bipush 59, 2) := by decide +kernel
theorem dX11_oneToken_321 : decode cX11_oneToken 321 = .ok (.if_icmp .eq 27, 3) := by decide +kernel
theorem dX11_oneToken_324 : decode cX11_oneToken 324 = .ok (.iload_n 2, 1) := by decide +kernel
theorem dX11_oneToken_325 : decode cX11_oneToken 325 = .ok (.bipush 44, 2) := by decide +kernel
theorem dX11_oneToken_327 : decode cX11_oneToken 327 = .ok (.if_icmp .eq 21, 3) := by decide +kernel
theorem dX11_oneToken_330 : decode cX11_oneToken 330 = .ok (.iload_n 2, 1) := by decide +kernel
theorem dX11_oneToken_331 : decode cX11_oneToken 331 = .ok (.bipush 40, 2) := by decide +kernel
theorem dX11_oneToken_333 : decode cX11_oneToken 333 = .ok (.if_icmp .eq 15, 3) := by decide +kernel
theorem dX11_oneToken_336 : decode cX11_oneToken 336 = .ok (.iload_n 2, 1) := by decide +kernel
theorem dX11_oneToken_337 : decode cX11_oneToken 337 = .ok (.bipush 41, 2) := by decide +kernel
theorem dX11_oneToken_339 : decode cX11_oneToken 339 = .ok (.if_icmp .eq 9, 3) := by decide +kernel
theorem dX11_oneToken_342 : decode cX11_oneToken 342 = .ok (.iload_n 2, 1) := by decide +kernel
theorem dX11_oneToken_343 : decode cX11_oneToken 343 = .ok (.bipush 45, 2) := by decide +kernel
theorem dX11_oneToken_345 : decode cX11_oneToken 345 = .ok (.if_icmp .ne 7, 3) := by decide +kernel
theorem dX11_oneToken_348 : decode cX11_oneToken 348 = .ok (.iconst 3, 1) := by decide +kernel
theorem dX11_oneToken_349 : decode cX11_oneToken 349 = .ok (.goto 4, 3) := by decide +kernel
theorem dX11_oneToken_352 : decode cX11_oneToken 352 = .ok (.iconst 4, 1) := by decide +kernel
theorem dX11_oneToken_353 : decode cX11_oneToken 353 = .ok (.iload_n 1, 1) := by decide +kernel
theorem dX11_oneToken_354 : decode cX11_oneToken 354 = .ok (.lload 4, 2) := by decide +kernel
theorem dX11_oneToken_356 : decode cX11_oneToken 356 = .ok (.invokevirtual 353, 3) := by decide +kernel
theorem dX11_oneToken_359 : decode cX11_oneToken 359 = .ok (.iload_n 3, 1) := by decide +kernel
theorem dX11_oneToken_360 : decode cX11_oneToken 360 = .ok (.ireturn, 1) := by decide +kernel
theorem dX11_token_0 : decode cX11_token 0 = .ok (.aload_n 0, 1) := by decide +kernel
theorem dX11_token_1 : decode cX11_token 1 = .ok (.getfield 13, 3) := by decide +kernel
theorem dX11_token_4 : decode cX11_token 4 = .ok (.aload_n 0, 1) := by decide +kernel
theorem dX11_token_5 : decode cX11_token 5 = .ok (.getfield 346, 3) := by decide +kernel
theorem dX11_token_8 : decode cX11_token 8 = .ok (.iload_n 1, 1) := by decide +kernel
theorem dX11_token_9 : decode cX11_token 9 = .ok (.iastore, 1) := by decide +kernel
theorem dX11_token_10 : decode cX11_token 10 = .ok (.aload_n 0, 1) := by decide +kernel
theorem dX11_token_11 : decode cX11_token 11 = .ok (.getfield 16, 3) := by decide +kernel
theorem dX11_token_14 : decode cX11_token 14 = .ok (.aload_n 0, 1) := by decide +kernel
theorem dX11_token_15 : decode cX11_token 15 = .ok (.getfield 346, 3) := by decide +kernel
theorem dX11_token_18 : decode cX11_token 18 = .ok (.iload_n 2, 1) := by decide +kernel
theorem dX11_token_19 : decode cX11_token 19 = .ok (.iastore, 1) := by decide +kernel
theorem dX11_token_20 : decode cX11_token 20 = .ok (.aload_n 0, 1) := by decide +kernel
theorem dX11_token_21 : decode cX11_token 21 = .ok (.getfield 19, 3) := by decide +kernel
theorem dX11_token_24 : decode cX11_token 24 = .ok (.aload_n 0, 1) := by decide +kernel
theorem dX11_token_25 : decode cX11_token 25 = .ok (.getfield 346, 3) := by decide +kernel
theorem dX11_token_28 : decode cX11_token 28 = .ok (.lload_n 3, 1) := by decide +kernel
theorem dX11_token_29 : decode cX11_token 29 = .ok (.lastore, 1) := by decide +kernel
theorem dX11_token_30 : decode cX11_token 30 = .ok (.aload_n 0, 1) := by decide +kernel
theorem dX11_token_31 : decode cX11_token 31 = .ok (.dup, 1) := by decide +kernel
theorem dX11_token_32 : decode cX11_token 32 = .ok (.getfield 346, 3) := by decide +kernel
theorem dX11_token_35 : decode cX11_token 35 = .ok (.iconst 1, 1) := by decide +kernel
theorem dX11_token_36 : decode cX11_token 36 = .ok (.iadd, 1) := by decide +kernel
theorem dX11_token_37 : decode cX11_token 37 = .ok (.putfield 346, 3) := by decide +kernel
theorem dX11_token_40 : decode cX11_token 40 = .ok (.return_, 1) := by decide +kernel
theorem dX11_note_0 : decode cX11_note 0 = .ok (.aload_n 0, 1) := by decide +kernel
theorem dX11_note_1 : decode cX11_note 1 = .ok (.getfield 372, 3) := by decide +kernel
theorem dX11_note_4 : decode cX11_note 4 = .ok (.ifCond .eq 40, 3) := by decide +kernel
theorem dX11_note_7 : decode cX11_note 7 = .ok (.iload_n 1, 1) := by decide +kernel
theorem dX11_note_8 : decode cX11_note 8 = .ok (.iconst 1, 1) := by decide +kernel
theorem dX11_note_9 : decode cX11_note 9 = .ok (.if_icmp .eq 35, 3) := by decide +kernel
theorem dX11_note_12 : decode cX11_note 12 = .ok (.aload_n 0, 1) := by decide +kernel
theorem dX11_note_13 : decode cX11_note 13 = .ok (.getfield 372, 3) := by decide +kernel
theorem dX11_note_16 : decode cX11_note 16 = .ok (.iconst 1, 1) := by decide +kernel
theorem dX11_note_17 : decode cX11_note 17 = .ok (.if_icmp .eq 31, 3) := by decide +kernel
theorem dX11_note_20 : decode cX11_note 20 = .ok (.iload_n 2, 1) := by decide +kernel
theorem dX11_note_21 : decode cX11_note 21 = .ok (.aload_n 0, 1) := by decide +kernel
theorem dX11_note_22 : decode cX11_note 22 = .ok (.getfield 375, 3) := by decide +kernel
theorem dX11_note_25 : decode cX11_note 25 = .ok (.if_icmp .lt 19, 3) := by decide +kernel
theorem dX11_note_28 : decode cX11_note 28 = .ok (.iload_n 2, 1) := by decide +kernel
theorem dX11_note_29 : decode cX11_note 29 = .ok (.aload_n 0, 1) := by decide +kernel
theorem dX11_note_30 : decode cX11_note 30 = .ok (.getfield 375, 3) := by decide +kernel
theorem dX11_note_33 : decode cX11_note 33 = .ok (.if_icmp .ne 15, 3) := by decide +kernel
theorem dX11_note_36 : decode cX11_note 36 = .ok (.iload_n 1, 1) := by decide +kernel
theorem dX11_note_37 : decode cX11_note 37 = .ok (.aload_n 0, 1) := by decide +kernel
theorem dX11_note_38 : decode cX11_note 38 = .ok (.getfield 372, 3) := by decide +kernel
theorem dX11_note_41 : decode cX11_note 41 = .ok (.if_icmp .ge 7, 3) := by decide +kernel
theorem dX11_note_44 : decode cX11_note 44 = .ok (.iconst 1, 1) := by decide +kernel
theorem dX11_note_45 : decode cX11_note 45 = .ok (.goto 4, 3) := by decide +kernel
theorem dX11_note_48 : decode cX11_note 48 = .ok (.iconst 0, 1) := by decide +kernel
theorem dX11_note_49 : decode cX11_note 49 = .ok (.istore_n 3, 1) := by decide +kernel
theorem dX11_note_50 : decode cX11_note 50 = .ok (.aload_n 0, 1) := by decide +kernel
theorem dX11_note_51 : decode cX11_note 51 = .ok (.iload_n 3, 1) := by decide +kernel
theorem dX11_note_52 : decode cX11_note 52 = .ok (.ifCond .eq 7, 3) := by decide +kernel
theorem dX11_note_55 : decode cX11_note 55 = .ok (.iload_n 1, 1) := by decide +kernel
theorem dX11_note_56 : decode cX11_note 56 = .ok (.goto 7, 3) := by decide +kernel
theorem dX11_note_59 : decode cX11_note 59 = .ok (.aload_n 0, 1) := by decide +kernel
theorem dX11_note_60 : decode cX11_note 60 = .ok (.getfield 372, 3) := by decide +kernel
theorem dX11_note_63 : decode cX11_note 63 = .ok (.putfield 372, 3) := by decide +kernel
theorem dX11_note_66 : decode cX11_note 66 = .ok (.aload_n 0, 1) := by decide +kernel
theorem dX11_note_67 : decode cX11_note 67 = .ok (.iload_n 3, 1) := by decide +kernel
theorem dX11_note_68 : decode cX11_note 68 = .ok (.ifCond .eq 7, 3) := by decide +kernel
theorem dX11_note_71 : decode cX11_note 71 = .ok (.iload_n 2, 1) := by decide +kernel
theorem dX11_note_72 : decode cX11_note 72 = .ok (.goto 7, 3) := by decide +kernel
theorem dX11_note_75 : decode cX11_note 75 = .ok (.aload_n 0, 1) := by decide +kernel
theorem dX11_note_76 : decode cX11_note 76 = .ok (.getfield 375, 3) := by decide +kernel
theorem dX11_note_79 : decode cX11_note 79 = .ok (.putfield 375, 3) := by decide +kernel
theorem dX11_note_82 : decode cX11_note 82 = .ok (.return_, 1) := by decide +kernel
theorem dX11_refuse_0 : decode cX11_refuse 0 = .ok (.aload_n 0, 1) := by decide +kernel
theorem dX11_refuse_1 : decode cX11_refuse 1 = .ok (.iconst 1, 1) := by decide +kernel
theorem dX11_refuse_2 : decode cX11_refuse 2 = .ok (.aload_n 0, 1) := by decide +kernel
theorem dX11_refuse_3 : decode cX11_refuse 3 = .ok (.getfield 16, 3) := by decide +kernel
theorem dX11_refuse_6 : decode cX11_refuse 6 = .ok (.aload_n 0, 1) := by decide +kernel
theorem dX11_refuse_7 : decode cX11_refuse 7 = .ok (.getfield 378, 3) := by decide +kernel
theorem dX11_refuse_10 : decode cX11_refuse 10 = .ok (.iaload, 1) := by decide +kernel
theorem dX11_refuse_11 : decode cX11_refuse 11 = .ok (.invokevirtual 381, 3) := by decide +kernel
theorem dX11_refuse_14 : decode cX11_refuse 14 = .ok (.iconst 0, 1) := by decide +kernel
theorem dX11_refuse_15 : decode cX11_refuse 15 = .ok (.ireturn, 1) := by decide +kernel
theorem dX11_isSign_0 : decode cX11_isSign 0 = .ok (.aload_n 0, 1) := by decide +kernel
theorem dX11_isSign_1 : decode cX11_isSign 1 = .ok (.getfield 13, 3) := by decide +kernel
theorem dX11_isSign_4 : decode cX11_isSign 4 = .ok (.aload_n 0, 1) := by decide +kernel
theorem dX11_isSign_5 : decode cX11_isSign 5 = .ok (.getfield 378, 3) := by decide +kernel
theorem dX11_isSign_8 : decode cX11_isSign 8 = .ok (.iaload, 1) := by decide +kernel
theorem dX11_isSign_9 : decode cX11_isSign 9 = .ok (.iconst 3, 1) := by decide +kernel
theorem dX11_isSign_10 : decode cX11_isSign 10 = .ok (.if_icmp .ne 22, 3) := by decide +kernel
theorem dX11_isSign_13 : decode cX11_isSign 13 = .ok (.aload_n 0, 1) := by decide +kernel
theorem dX11_isSign_14 : decode cX11_isSign 14 = .ok (.getfield 19, 3) := by decide +kernel
theorem dX11_isSign_17 : decode cX11_isSign 17 = .ok (.aload_n 0, 1) := by decide +kernel
theorem dX11_isSign_18 : decode cX11_isSign 18 = .ok (.getfield 378, 3) := by decide +kernel
theorem dX11_isSign_21 : decode cX11_isSign 21 = .ok (.laload, 1) := by decide +kernel
theorem dX11_isSign_22 : decode cX11_isSign 22 = .ok (.iload_n 1, 1) := by decide +kernel
theorem dX11_isSign_23 : decode cX11_isSign 23 = .ok (.i2l, 1) := by decide +kernel
theorem dX11_isSign_24 : decode cX11_isSign 24 = .ok (.lcmp, 1) := by decide +kernel
theorem dX11_isSign_25 : decode cX11_isSign 25 = .ok (.ifCond .ne 7, 3) := by decide +kernel
theorem dX11_isSign_28 : decode cX11_isSign 28 = .ok (.iconst 1, 1) := by decide +kernel
theorem dX11_isSign_29 : decode cX11_isSign 29 = .ok (.goto 4, 3) := by decide +kernel
theorem dX11_isSign_32 : decode cX11_isSign 32 = .ok (.iconst 0, 1) := by decide +kernel
theorem dX11_isSign_33 : decode cX11_isSign 33 = .ok (.ireturn, 1) := by decide +kernel
theorem dX11_wantSign_0 : decode cX11_wantSign 0 = .ok (.aload_n 0, 1) := by decide +kernel
theorem dX11_wantSign_1 : decode cX11_wantSign 1 = .ok (.iload_n 1, 1) := by decide +kernel
theorem dX11_wantSign_2 : decode cX11_wantSign 2 = .ok (.invokevirtual 385, 3) := by decide +kernel
theorem dX11_wantSign_5 : decode cX11_wantSign 5 = .ok (.ifCond .ne 8, 3) := by decide +kernel
theorem dX11_wantSign_8 : decode cX11_wantSign 8 = .ok (.aload_n 0, 1) := by decide +kernel
theorem dX11_wantSign_9 : decode cX11_wantSign 9 = .ok (.invokevirtual 388, 3) := by decide +kernel
theorem dX11_wantSign_12 : decode cX11_wantSign 12 = .ok (.ireturn, 1) := by decide +kernel
theorem dX11_wantSign_13 : decode cX11_wantSign 13 = .ok (.aload_n 0, 1) := by decide +kernel
theorem dX11_wantSign_14 : decode cX11_wantSign 14 = .ok (.dup, 1) := by decide +kernel
theorem dX11_wantSign_15 : decode cX11_wantSign 15 = .ok (.getfield 378, 3) := by decide +kernel
theorem dX11_wantSign_18 : decode cX11_wantSign 18 = .ok (.iconst 1, 1) := by decide +kernel
theorem dX11_wantSign_19 : decode cX11_wantSign 19 = .ok (.iadd, 1) := by decide +kernel
theorem dX11_wantSign_20 : decode cX11_wantSign 20 = .ok (.putfield 378, 3) := by decide +kernel
theorem dX11_wantSign_23 : decode cX11_wantSign 23 = .ok (.iconst 1, 1) := by decide +kernel
theorem dX11_wantSign_24 : decode cX11_wantSign 24 = .ok (.ireturn, 1) := by decide +kernel
theorem dX11_isNamed_0 : decode cX11_isNamed 0 = .ok (.lconst 0, 1) := by decide +kernel
theorem dX11_isNamed_1 : decode cX11_isNamed 1 = .ok (.lstore_n 3, 1) := by decide +kernel
theorem dX11_isNamed_2 : decode cX11_isNamed 2 = .ok (.iconst 0, 1) := by decide +kernel
theorem dX11_isNamed_3 : decode cX11_isNamed 3 = .ok (.istore 5, 2) := by decide +kernel
theorem dX11_isNamed_5 : decode cX11_isNamed 5 = .ok (.iload 5, 2) := by decide +kernel
theorem dX11_isNamed_7 : decode cX11_isNamed 7 = .ok (.aload_n 2, 1) := by decide +kernel
theorem dX11_isNamed_8 : decode cX11_isNamed 8 = .ok (.invokevirtual 392, 3) := by decide +kernel
theorem dX11_isNamed_11 : decode cX11_isNamed 11 = .ok (.if_icmp .ge 22, 3) := by decide +kernel
theorem dX11_isNamed_14 : decode cX11_isNamed 14 = .ok (.lload_n 3, 1) := by decide +kernel
theorem dX11_isNamed_15 : decode cX11_isNamed 15 = .ok (.bipush 8, 2) := by decide +kernel
theorem dX11_isNamed_17 : decode cX11_isNamed 17 = .ok (.lshl, 1) := by decide +kernel
theorem dX11_isNamed_18 : decode cX11_isNamed 18 = .ok (.aload_n 2, 1) := by decide +kernel
theorem dX11_isNamed_19 : decode cX11_isNamed 19 = .ok (.iload 5, 2) := by decide +kernel
theorem dX11_isNamed_21 : decode cX11_isNamed 21 = .ok (.invokevirtual 396, 3) := by decide +kernel
theorem dX11_isNamed_24 : decode cX11_isNamed 24 = .ok (.i2l, 1) := by decide +kernel
theorem dX11_isNamed_25 : decode cX11_isNamed 25 = .ok (.lor, 1) := by decide +kernel
theorem dX11_isNamed_26 : decode cX11_isNamed 26 = .ok (.lstore_n 3, 1) := by decide +kernel
theorem dX11_isNamed_27 : decode cX11_isNamed 27 = .ok (.iinc 5 1, 3) := by decide +kernel
theorem dX11_isNamed_30 : decode cX11_isNamed 30 = .ok (.goto (-25), 3) := by decide +kernel
theorem dX11_isNamed_33 : decode cX11_isNamed 33 = .ok (.lload_n 0, 1) := by decide +kernel
theorem dX11_isNamed_34 : decode cX11_isNamed 34 = .ok (.lload_n 3, 1) := by decide +kernel
theorem dX11_isNamed_35 : decode cX11_isNamed 35 = .ok (.lcmp, 1) := by decide +kernel
theorem dX11_isNamed_36 : decode cX11_isNamed 36 = .ok (.ifCond .ne 7, 3) := by decide +kernel
theorem dX11_isNamed_39 : decode cX11_isNamed 39 = .ok (.iconst 1, 1) := by decide +kernel
theorem dX11_isNamed_40 : decode cX11_isNamed 40 = .ok (.goto 4, 3) := by decide +kernel
theorem dX11_isNamed_43 : decode cX11_isNamed 43 = .ok (.iconst 0, 1) := by decide +kernel
theorem dX11_isNamed_44 : decode cX11_isNamed 44 = .ok (.ireturn, 1) := by decide +kernel
theorem dX11_opOf_0 : decode cX11_opOf 0 = .ok (.iconst 0, 1) := by decide +kernel
theorem dX11_opOf_1 : decode cX11_opOf 1 = .ok (.istore_n 3, 1) := by decide +kernel
theorem dX11_opOf_2 : decode cX11_opOf 2 = .ok (.iload_n 3, 1) := by decide +kernel
theorem dX11_opOf_3 : decode cX11_opOf 3 = .ok (.bipush 61, 2) := by decide +kernel
theorem dX11_opOf_5 : decode cX11_opOf 5 = .ok (.if_icmp .ge 24, 3) := by decide +kernel
theorem dX11_opOf_8 : decode cX11_opOf 8 = .ok (.lload_n 1, 1) := by decide +kernel
theorem dX11_opOf_9 : decode cX11_opOf 9 = .ok (.aload_n 0, 1) := by decide +kernel
theorem dX11_opOf_10 : decode cX11_opOf 10 = .ok (.getfield 275, 3) := by decide +kernel
theorem dX11_opOf_13 : decode cX11_opOf 13 = .ok (.iload_n 3, 1) := by decide +kernel
theorem dX11_opOf_14 : decode cX11_opOf 14 = .ok (.aaload, 1) := by decide +kernel
theorem dX11_opOf_15 : decode cX11_opOf 15 = .ok (.invokestatic 400, 3) := by decide +kernel
theorem dX11_opOf_18 : decode cX11_opOf 18 = .ok (.ifCond .eq 5, 3) := by decide +kernel
theorem dX11_opOf_21 : decode cX11_opOf 21 = .ok (.iload_n 3, 1) := by decide +kernel
theorem dX11_opOf_22 : decode cX11_opOf 22 = .ok (.ireturn, 1) := by decide +kernel
theorem dX11_opOf_23 : decode cX11_opOf 23 = .ok (.iinc 3 1, 3) := by decide +kernel
theorem dX11_opOf_26 : decode cX11_opOf 26 = .ok (.goto (-24), 3) := by decide +kernel
theorem dX11_opOf_29 : decode cX11_opOf 29 = .ok (.iconst (-1), 1) := by decide +kernel
theorem dX11_opOf_30 : decode cX11_opOf 30 = .ok (.ireturn, 1) := by decide +kernel
theorem dX11_wantRegister_0 : decode cX11_wantRegister 0 = .ok (.aload_n 0, 1) := by decide +kernel
theorem dX11_wantRegister_1 : decode cX11_wantRegister 1 = .ok (.getfield 19, 3) := by decide +kernel
theorem dX11_wantRegister_4 : decode cX11_wantRegister 4 = .ok (.aload_n 0, 1) := by decide +kernel
theorem dX11_wantRegister_5 : decode cX11_wantRegister 5 = .ok (.getfield 378, 3) := by decide +kernel
theorem dX11_wantRegister_8 : decode cX11_wantRegister 8 = .ok (.laload, 1) := by decide +kernel
theorem dX11_wantRegister_9 : decode cX11_wantRegister 9 = .ok (.lstore_n 2, 1) := by decide +kernel
theorem dX11_wantRegister_10 : decode cX11_wantRegister 10 = .ok (.iconst (-1), 1) := by decide +kernel
theorem dX11_wantRegister_11 : decode cX11_wantRegister 11 = .ok (.istore 4, 2) := by decide +kernel
theorem dX11_wantRegister_13 : decode cX11_wantRegister 13 = .ok (.aload_n 0, 1) := by decide +kernel
theorem dX11_wantRegister_14 : decode cX11_wantRegister 14 = .ok (.getfield 13, 3) := by decide +kernel
theorem dX11_wantRegister_17 : decode cX11_wantRegister 17 = .ok (.aload_n 0, 1) := by decide +kernel
theorem dX11_wantRegister_18 : decode cX11_wantRegister 18 = .ok (.getfield 378, 3) := by decide +kernel
theorem dX11_wantRegister_21 : decode cX11_wantRegister 21 = .ok (.iaload, 1) := by decide +kernel
theorem dX11_wantRegister_22 : decode cX11_wantRegister 22 = .ok (.iconst 1, 1) := by decide +kernel
theorem dX11_wantRegister_23 : decode cX11_wantRegister 23 = .ok (.if_icmp .ne 49, 3) := by decide +kernel
theorem dX11_wantRegister_26 : decode cX11_wantRegister 26 = .ok (.lload_n 2, 1) := by decide +kernel
theorem dX11_wantRegister_27 : decode cX11_wantRegister 27 = .ok (.bipush 8, 2) := by decide +kernel
theorem dX11_wantRegister_29 : decode cX11_wantRegister 29 = .ok (.lshr, 1) := by decide +kernel
theorem dX11_wantRegister_30 : decode cX11_wantRegister 30 = .ok (.ldc2_w 404, 3) := by decide +kernel
theorem dX11_wantRegister_33 : decode cX11_wantRegister 33 = .ok (.lcmp, 1) := by decide +kernel
theorem dX11_wantRegister_34 : decode cX11_wantRegister 34 = .ok (.ifCond .ne 38, 3) := by decide +kernel
theorem dX11_wantRegister_37 : decode cX11_wantRegister 37 = .ok (.lload_n 2, 1) := by decide +kernel
theorem dX11_wantRegister_38 : decode cX11_wantRegister 38 = .ok (.ldc2_w 340, 3) := by decide +kernel
theorem dX11_wantRegister_41 : decode cX11_wantRegister 41 = .ok (.land, 1) := by decide +kernel
theorem dX11_wantRegister_42 : decode cX11_wantRegister 42 = .ok (.ldc2_w 367, 3) := by decide +kernel
theorem dX11_wantRegister_45 : decode cX11_wantRegister 45 = .ok (.lcmp, 1) := by decide +kernel
theorem dX11_wantRegister_46 : decode cX11_wantRegister 46 = .ok (.ifCond .lt 26, 3) := by decide +kernel
theorem dX11_wantRegister_49 : decode cX11_wantRegister 49 = .ok (.lload_n 2, 1) := by decide +kernel
theorem dX11_wantRegister_50 : decode cX11_wantRegister 50 = .ok (.ldc2_w 340, 3) := by decide +kernel
theorem dX11_wantRegister_53 : decode cX11_wantRegister 53 = .ok (.land, 1) := by decide +kernel
theorem dX11_wantRegister_54 : decode cX11_wantRegister 54 = .ok (.ldc2_w 406, 3) := by decide +kernel
theorem dX11_wantRegister_57 : decode cX11_wantRegister 57 = .ok (.lcmp, 1) := by decide +kernel
theorem dX11_wantRegister_58 : decode cX11_wantRegister 58 = .ok (.ifCond .gt 14, 3) := by decide +kernel
theorem dX11_wantRegister_61 : decode cX11_wantRegister 61 = .ok (.lload_n 2, 1) := by decide +kernel
theorem dX11_wantRegister_62 : decode cX11_wantRegister 62 = .ok (.ldc2_w 340, 3) := by decide +kernel
theorem dX11_wantRegister_65 : decode cX11_wantRegister 65 = .ok (.land, 1) := by decide +kernel
theorem dX11_wantRegister_66 : decode cX11_wantRegister 66 = .ok (.l2i, 1) := by decide +kernel
theorem dX11_wantRegister_67 : decode cX11_wantRegister 67 = .ok (.bipush 48, 2) := by decide +kernel
theorem dX11_wantRegister_69 : decode cX11_wantRegister 69 = .ok (.isub, 1) := by decide +kernel
theorem dX11_wantRegister_70 : decode cX11_wantRegister 70 = .ok (.istore 4, 2) := by decide +kernel
theorem dX11_wantRegister_72 : decode cX11_wantRegister 72 = .ok (.lload_n 2, 1) := by decide +kernel
theorem dX11_wantRegister_73 : decode cX11_wantRegister 73 = .ok (.bipush 8, 2) := by decide +kernel
theorem dX11_wantRegister_75 : decode cX11_wantRegister 75 = .ok (.lshr, 1) := by decide +kernel
theorem dX11_wantRegister_76 : decode cX11_wantRegister 76 = .ok (.ldc2_w 340, 3) := by decide +kernel
theorem dX11_wantRegister_79 : decode cX11_wantRegister 79 = .ok (.land, 1) := by decide +kernel
theorem dX11_wantRegister_80 : decode cX11_wantRegister 80 = .ok (.ldc2_w 367, 3) := by decide +kernel
theorem dX11_wantRegister_83 : decode cX11_wantRegister 83 = .ok (.lsub, 1) := by decide +kernel
theorem dX11_wantRegister_84 : decode cX11_wantRegister 84 = .ok (.lstore 5, 2) := by decide +kernel
theorem dX11_wantRegister_86 : decode cX11_wantRegister 86 = .ok (.aload_n 0, 1) := by decide +kernel
theorem dX11_wantRegister_87 : decode cX11_wantRegister 87 = .ok (.getfield 13, 3) := by decide +kernel
theorem dX11_wantRegister_90 : decode cX11_wantRegister 90 = .ok (.aload_n 0, 1) := by decide +kernel
theorem dX11_wantRegister_91 : decode cX11_wantRegister 91 = .ok (.getfield 378, 3) := by decide +kernel
theorem dX11_wantRegister_94 : decode cX11_wantRegister 94 = .ok (.iaload, 1) := by decide +kernel
theorem dX11_wantRegister_95 : decode cX11_wantRegister 95 = .ok (.iconst 1, 1) := by decide +kernel
theorem dX11_wantRegister_96 : decode cX11_wantRegister 96 = .ok (.if_icmp .ne 73, 3) := by decide +kernel
theorem dX11_wantRegister_99 : decode cX11_wantRegister 99 = .ok (.lload_n 2, 1) := by decide +kernel
theorem dX11_wantRegister_100 : decode cX11_wantRegister 100 = .ok (.bipush 16, 2) := by decide +kernel
theorem dX11_wantRegister_102 : decode cX11_wantRegister 102 = .ok (.lshr, 1) := by decide +kernel
theorem dX11_wantRegister_103 : decode cX11_wantRegister 103 = .ok (.ldc2_w 404, 3) := by decide +kernel
theorem dX11_wantRegister_106 : decode cX11_wantRegister 106 = .ok (.lcmp, 1) := by decide +kernel
theorem dX11_wantRegister_107 : decode cX11_wantRegister 107 = .ok (.ifCond .ne 62, 3) := by decide +kernel
theorem dX11_wantRegister_110 : decode cX11_wantRegister 110 = .ok (.lload 5, 2) := by decide +kernel
theorem dX11_wantRegister_112 : decode cX11_wantRegister 112 = .ok (.lconst 0, 1) := by decide +kernel
theorem dX11_wantRegister_113 : decode cX11_wantRegister 113 = .ok (.lcmp, 1) := by decide +kernel
theorem dX11_wantRegister_114 : decode cX11_wantRegister 114 = .ok (.ifCond .le 55, 3) := by decide +kernel
theorem dX11_wantRegister_117 : decode cX11_wantRegister 117 = .ok (.lload 5, 2) := by decide +kernel
theorem dX11_wantRegister_119 : decode cX11_wantRegister 119 = .ok (.ldc2_w 408, 3) := by decide +kernel
theorem dX11_wantRegister_122 : decode cX11_wantRegister 122 = .ok (.lcmp, 1) := by decide +kernel
theorem dX11_wantRegister_123 : decode cX11_wantRegister 123 = .ok (.ifCond .ge 46, 3) := by decide +kernel
theorem dX11_wantRegister_126 : decode cX11_wantRegister 126 = .ok (.lload_n 2, 1) := by decide +kernel
theorem dX11_wantRegister_127 : decode cX11_wantRegister 127 = .ok (.ldc2_w 340, 3) := by decide +kernel
theorem dX11_wantRegister_130 : decode cX11_wantRegister 130 = .ok (.land, 1) := by decide +kernel
theorem dX11_wantRegister_131 : decode cX11_wantRegister 131 = .ok (.ldc2_w 367, 3) := by decide +kernel
theorem dX11_wantRegister_134 : decode cX11_wantRegister 134 = .ok (.lcmp, 1) := by decide +kernel
theorem dX11_wantRegister_135 : decode cX11_wantRegister 135 = .ok (.ifCond .lt 34, 3) := by decide +kernel
theorem dX11_wantRegister_138 : decode cX11_wantRegister 138 = .ok (.lload_n 2, 1) := by decide +kernel
theorem dX11_wantRegister_139 : decode cX11_wantRegister 139 = .ok (.ldc2_w 340, 3) := by decide +kernel
theorem dX11_wantRegister_142 : decode cX11_wantRegister 142 = .ok (.land, 1) := by decide +kernel
theorem dX11_wantRegister_143 : decode cX11_wantRegister 143 = .ok (.ldc2_w 406, 3) := by decide +kernel
theorem dX11_wantRegister_146 : decode cX11_wantRegister 146 = .ok (.lcmp, 1) := by decide +kernel
theorem dX11_wantRegister_147 : decode cX11_wantRegister 147 = .ok (.ifCond .gt 22, 3) := by decide +kernel
theorem dX11_wantRegister_150 : decode cX11_wantRegister 150 = .ok (.ldc2_w 365, 3) := by decide +kernel
theorem dX11_wantRegister_153 : decode cX11_wantRegister 153 = .ok (.lload 5, 2) := by decide +kernel
theorem dX11_wantRegister_155 : decode cX11_wantRegister 155 = .ok (.lmul, 1) := by decide +kernel
theorem dX11_wantRegister_156 : decode cX11_wantRegister 156 = .ok (.lload_n 2, 1) := by decide +kernel
theorem dX11_wantRegister_157 : decode cX11_wantRegister 157 = .ok (.ldc2_w 340, 3) := by decide +kernel
theorem dX11_wantRegister_160 : decode cX11_wantRegister 160 = .ok (.land, 1) := by decide +kernel
theorem dX11_wantRegister_161 : decode cX11_wantRegister 161 = .ok (.ladd, 1) := by decide +kernel
theorem dX11_wantRegister_162 : decode cX11_wantRegister 162 = .ok (.ldc2_w 367, 3) := by decide +kernel
theorem dX11_wantRegister_165 : decode cX11_wantRegister 165 = .ok (.lsub, 1) := by decide +kernel
theorem dX11_wantRegister_166 : decode cX11_wantRegister 166 = .ok (.l2i, 1) := by decide +kernel
theorem dX11_wantRegister_167 : decode cX11_wantRegister 167 = .ok (.istore 4, 2) := by decide +kernel
theorem dX11_wantRegister_169 : decode cX11_wantRegister 169 = .ok (.iload 4, 2) := by decide +kernel
theorem dX11_wantRegister_171 : decode cX11_wantRegister 171 = .ok (.ifCond .lt 10, 3) := by decide +kernel
theorem dX11_wantRegister_174 : decode cX11_wantRegister 174 = .ok (.iload 4, 2) := by decide +kernel
theorem dX11_wantRegister_176 : decode cX11_wantRegister 176 = .ok (.bipush 31, 2) := by decide +kernel
theorem dX11_wantRegister_178 : decode cX11_wantRegister 178 = .ok (.if_icmp .le 8, 3) := by decide +kernel
theorem dX11_wantRegister_181 : decode cX11_wantRegister 181 = .ok (.aload_n 0, 1) := by decide +kernel
theorem dX11_wantRegister_182 : decode cX11_wantRegister 182 = .ok (.invokevirtual 388, 3) := by decide +kernel
theorem dX11_wantRegister_185 : decode cX11_wantRegister 185 = .ok (.ireturn, 1) := by decide +kernel
theorem dX11_wantRegister_186 : decode cX11_wantRegister 186 = .ok (.aload_n 0, 1) := by decide +kernel
theorem dX11_wantRegister_187 : decode cX11_wantRegister 187 = .ok (.dup, 1) := by decide +kernel
theorem dX11_wantRegister_188 : decode cX11_wantRegister 188 = .ok (.getfield 410, 3) := by decide +kernel
theorem dX11_wantRegister_191 : decode cX11_wantRegister 191 = .ok (.iload 4, 2) := by decide +kernel
theorem dX11_wantRegister_193 : decode cX11_wantRegister 193 = .ok (.iload_n 1, 1) := by decide +kernel
theorem dX11_wantRegister_194 : decode cX11_wantRegister 194 = .ok (.ishl, 1) := by decide +kernel
theorem dX11_wantRegister_195 : decode cX11_wantRegister 195 = .ok (.ior, 1) := by decide +kernel
theorem dX11_wantRegister_196 : decode cX11_wantRegister 196 = .ok (.putfield 410, 3) := by decide +kernel
theorem dX11_wantRegister_199 : decode cX11_wantRegister 199 = .ok (.aload_n 0, 1) := by decide +kernel
theorem dX11_wantRegister_200 : decode cX11_wantRegister 200 = .ok (.dup, 1) := by decide +kernel
theorem dX11_wantRegister_201 : decode cX11_wantRegister 201 = .ok (.getfield 378, 3) := by decide +kernel
theorem dX11_wantRegister_204 : decode cX11_wantRegister 204 = .ok (.iconst 1, 1) := by decide +kernel
theorem dX11_wantRegister_205 : decode cX11_wantRegister 205 = .ok (.iadd, 1) := by decide +kernel
theorem dX11_wantRegister_206 : decode cX11_wantRegister 206 = .ok (.putfield 378, 3) := by decide +kernel
theorem dX11_wantRegister_209 : decode cX11_wantRegister 209 = .ok (.iconst 1, 1) := by decide +kernel
theorem dX11_wantRegister_210 : decode cX11_wantRegister 210 = .ok (.ireturn, 1) := by decide +kernel
theorem dX11_wantNumber_0 : decode cX11_wantNumber 0 = .ok (.aload_n 0, 1) := by decide +kernel
theorem dX11_wantNumber_1 : decode cX11_wantNumber 1 = .ok (.getfield 378, 3) := by decide +kernel
theorem dX11_wantNumber_4 : decode cX11_wantNumber 4 = .ok (.istore 7, 2) := by decide +kernel
theorem dX11_wantNumber_6 : decode cX11_wantNumber 6 = .ok (.aload_n 0, 1) := by decide +kernel
theorem dX11_wantNumber_7 : decode cX11_wantNumber 7 = .ok (.iload_n 1, 1) := by decide +kernel
theorem dX11_wantNumber_8 : decode cX11_wantNumber 8 = .ok (.ifCond .ne 20, 3) := by decide +kernel
theorem dX11_wantNumber_11 : decode cX11_wantNumber 11 = .ok (.aload_n 0, 1) := by decide +kernel
theorem dX11_wantNumber_12 : decode cX11_wantNumber 12 = .ok (.getfield 13, 3) := by decide +kernel
theorem dX11_wantNumber_15 : decode cX11_wantNumber 15 = .ok (.aload_n 0, 1) := by decide +kernel
theorem dX11_wantNumber_16 : decode cX11_wantNumber 16 = .ok (.getfield 378, 3) := by decide +kernel
theorem dX11_wantNumber_19 : decode cX11_wantNumber 19 = .ok (.iaload, 1) := by decide +kernel
theorem dX11_wantNumber_20 : decode cX11_wantNumber 20 = .ok (.iconst 1, 1) := by decide +kernel
theorem dX11_wantNumber_21 : decode cX11_wantNumber 21 = .ok (.if_icmp .ne 7, 3) := by decide +kernel
theorem dX11_wantNumber_24 : decode cX11_wantNumber 24 = .ok (.iconst 1, 1) := by decide +kernel
theorem dX11_wantNumber_25 : decode cX11_wantNumber 25 = .ok (.goto 4, 3) := by decide +kernel
theorem dX11_wantNumber_28 : decode cX11_wantNumber 28 = .ok (.iconst 0, 1) := by decide +kernel
theorem dX11_wantNumber_29 : decode cX11_wantNumber 29 = .ok (.putfield 413, 3) := by decide +kernel
theorem dX11_wantNumber_32 : decode cX11_wantNumber 32 = .ok (.aload_n 0, 1) := by decide +kernel
theorem dX11_wantNumber_33 : decode cX11_wantNumber 33 = .ok (.getfield 413, 3) := by decide +kernel
theorem dX11_wantNumber_36 : decode cX11_wantNumber 36 = .ok (.ifCond .eq 41, 3) := by decide +kernel
theorem dX11_wantNumber_39 : decode cX11_wantNumber 39 = .ok (.aload_n 0, 1) := by decide +kernel
theorem dX11_wantNumber_40 : decode cX11_wantNumber 40 = .ok (.aload_n 0, 1) := by decide +kernel
theorem dX11_wantNumber_41 : decode cX11_wantNumber 41 = .ok (.getfield 19, 3) := by decide +kernel
theorem dX11_wantNumber_44 : decode cX11_wantNumber 44 = .ok (.aload_n 0, 1) := by decide +kernel
theorem dX11_wantNumber_45 : decode cX11_wantNumber 45 = .ok (.getfield 378, 3) := by decide +kernel
theorem dX11_wantNumber_48 : decode cX11_wantNumber 48 = .ok (.laload, 1) := by decide +kernel
theorem dX11_wantNumber_49 : decode cX11_wantNumber 49 = .ok (.putfield 417, 3) := by decide +kernel
theorem dX11_wantNumber_52 : decode cX11_wantNumber 52 = .ok (.aload_n 0, 1) := by decide +kernel
theorem dX11_wantNumber_53 : decode cX11_wantNumber 53 = .ok (.aload_n 0, 1) := by decide +kernel
theorem dX11_wantNumber_54 : decode cX11_wantNumber 54 = .ok (.getfield 16, 3) := by decide +kernel
theorem dX11_wantNumber_57 : decode cX11_wantNumber 57 = .ok (.aload_n 0, 1) := by decide +kernel
theorem dX11_wantNumber_58 : decode cX11_wantNumber 58 = .ok (.getfield 378, 3) := by decide +kernel
theorem dX11_wantNumber_61 : decode cX11_wantNumber 61 = .ok (.iaload, 1) := by decide +kernel
theorem dX11_wantNumber_62 : decode cX11_wantNumber 62 = .ok (.putfield 421, 3) := by decide +kernel
theorem dX11_wantNumber_65 : decode cX11_wantNumber 65 = .ok (.aload_n 0, 1) := by decide +kernel
theorem dX11_wantNumber_66 : decode cX11_wantNumber 66 = .ok (.dup, 1) := by decide +kernel
theorem dX11_wantNumber_67 : decode cX11_wantNumber 67 = .ok (.getfield 378, 3) := by decide +kernel
theorem dX11_wantNumber_70 : decode cX11_wantNumber 70 = .ok (.iconst 1, 1) := by decide +kernel
theorem dX11_wantNumber_71 : decode cX11_wantNumber 71 = .ok (.iadd, 1) := by decide +kernel
theorem dX11_wantNumber_72 : decode cX11_wantNumber 72 = .ok (.putfield 378, 3) := by decide +kernel
theorem dX11_wantNumber_75 : decode cX11_wantNumber 75 = .ok (.iconst 1, 1) := by decide +kernel
theorem dX11_wantNumber_76 : decode cX11_wantNumber 76 = .ok (.ireturn, 1) := by decide +kernel
theorem dX11_wantNumber_77 : decode cX11_wantNumber 77 = .ok (.iload_n 1, 1) := by decide +kernel
theorem dX11_wantNumber_78 : decode cX11_wantNumber 78 = .ok (.ifCond .ne 16, 3) := by decide +kernel
theorem dX11_wantNumber_81 : decode cX11_wantNumber 81 = .ok (.aload_n 0, 1) := by decide +kernel
theorem dX11_wantNumber_82 : decode cX11_wantNumber 82 = .ok (.bipush 45, 2) := by decide +kernel
theorem dX11_wantNumber_84 : decode cX11_wantNumber 84 = .ok (.invokevirtual 385, 3) := by decide +kernel
theorem dX11_wantNumber_87 : decode cX11_wantNumber 87 = .ok (.ifCond .eq 7, 3) := by decide +kernel
theorem dX11_wantNumber_90 : decode cX11_wantNumber 90 = .ok (.iconst 1, 1) := by decide +kernel
theorem dX11_wantNumber_91 : decode cX11_wantNumber 91 = .ok (.goto 4, 3) := by decide +kernel
theorem dX11_wantNumber_94 : decode cX11_wantNumber 94 = .ok (.iconst 0, 1) := by decide +kernel
theorem dX11_wantNumber_95 : decode cX11_wantNumber 95 = .ok (.istore 8, 2) := by decide +kernel
theorem dX11_wantNumber_97 : decode cX11_wantNumber 97 = .ok (.iload 8, 2) := by decide +kernel
theorem dX11_wantNumber_99 : decode cX11_wantNumber 99 = .ok (.ifCond .eq 13, 3) := by decide +kernel
theorem dX11_wantNumber_102 : decode cX11_wantNumber 102 = .ok (.aload_n 0, 1) := by decide +kernel
theorem dX11_wantNumber_103 : decode cX11_wantNumber 103 = .ok (.dup, 1) := by decide +kernel
theorem dX11_wantNumber_104 : decode cX11_wantNumber 104 = .ok (.getfield 378, 3) := by decide +kernel
theorem dX11_wantNumber_107 : decode cX11_wantNumber 107 = .ok (.iconst 1, 1) := by decide +kernel
theorem dX11_wantNumber_108 : decode cX11_wantNumber 108 = .ok (.iadd, 1) := by decide +kernel
theorem dX11_wantNumber_109 : decode cX11_wantNumber 109 = .ok (.putfield 378, 3) := by decide +kernel
theorem dX11_wantNumber_112 : decode cX11_wantNumber 112 = .ok (.aload_n 0, 1) := by decide +kernel
theorem dX11_wantNumber_113 : decode cX11_wantNumber 113 = .ok (.getfield 13, 3) := by decide +kernel
theorem dX11_wantNumber_116 : decode cX11_wantNumber 116 = .ok (.aload_n 0, 1) := by decide +kernel
theorem dX11_wantNumber_117 : decode cX11_wantNumber 117 = .ok (.getfield 378, 3) := by decide +kernel
theorem dX11_wantNumber_120 : decode cX11_wantNumber 120 = .ok (.iaload, 1) := by decide +kernel
theorem dX11_wantNumber_121 : decode cX11_wantNumber 121 = .ok (.iconst 2, 1) := by decide +kernel
theorem dX11_wantNumber_122 : decode cX11_wantNumber 122 = .ok (.if_icmp .eq 8, 3) := by decide +kernel
theorem dX11_wantNumber_125 : decode cX11_wantNumber 125 = .ok (.aload_n 0, 1) := by decide +kernel
theorem dX11_wantNumber_126 : decode cX11_wantNumber 126 = .ok (.invokevirtual 388, 3) := by decide +kernel
theorem dX11_wantNumber_129 : decode cX11_wantNumber 129 = .ok (.ireturn, 1) := by decide +kernel
theorem dX11_wantNumber_130 : decode cX11_wantNumber 130 = .ok (.aload_n 0, 1) := by decide +kernel
theorem dX11_wantNumber_131 : decode cX11_wantNumber 131 = .ok (.iload 8, 2) := by decide +kernel
theorem dX11_wantNumber_133 : decode cX11_wantNumber 133 = .ok (.ifCond .eq 16, 3) := by decide +kernel
theorem dX11_wantNumber_136 : decode cX11_wantNumber 136 = .ok (.aload_n 0, 1) := by decide +kernel
theorem dX11_wantNumber_137 : decode cX11_wantNumber 137 = .ok (.getfield 19, 3) := by decide +kernel
theorem dX11_wantNumber_140 : decode cX11_wantNumber 140 = .ok (.aload_n 0, 1) := by decide +kernel
theorem dX11_wantNumber_141 : decode cX11_wantNumber 141 = .ok (.getfield 378, 3) := by decide +kernel
theorem dX11_wantNumber_144 : decode cX11_wantNumber 144 = .ok (.laload, 1) := by decide +kernel
theorem dX11_wantNumber_145 : decode cX11_wantNumber 145 = .ok (.lneg, 1) := by decide +kernel
theorem dX11_wantNumber_146 : decode cX11_wantNumber 146 = .ok (.goto 12, 3) := by decide +kernel
theorem dX11_wantNumber_149 : decode cX11_wantNumber 149 = .ok (.aload_n 0, 1) := by decide +kernel
theorem dX11_wantNumber_150 : decode cX11_wantNumber 150 = .ok (.getfield 19, 3) := by decide +kernel
theorem dX11_wantNumber_153 : decode cX11_wantNumber 153 = .ok (.aload_n 0, 1) := by decide +kernel
theorem dX11_wantNumber_154 : decode cX11_wantNumber 154 = .ok (.getfield 378, 3) := by decide +kernel
theorem dX11_wantNumber_157 : decode cX11_wantNumber 157 = .ok (.laload, 1) := by decide +kernel
theorem dX11_wantNumber_158 : decode cX11_wantNumber 158 = .ok (.putfield 424, 3) := by decide +kernel
theorem dX11_wantNumber_161 : decode cX11_wantNumber 161 = .ok (.aload_n 0, 1) := by decide +kernel
theorem dX11_wantNumber_162 : decode cX11_wantNumber 162 = .ok (.getfield 424, 3) := by decide +kernel
theorem dX11_wantNumber_165 : decode cX11_wantNumber 165 = .ok (.lload_n 2, 1) := by decide +kernel
theorem dX11_wantNumber_166 : decode cX11_wantNumber 166 = .ok (.lcmp, 1) := by decide +kernel
theorem dX11_wantNumber_167 : decode cX11_wantNumber 167 = .ok (.ifCond .lt 26, 3) := by decide +kernel
theorem dX11_wantNumber_170 : decode cX11_wantNumber 170 = .ok (.aload_n 0, 1) := by decide +kernel
theorem dX11_wantNumber_171 : decode cX11_wantNumber 171 = .ok (.getfield 424, 3) := by decide +kernel
theorem dX11_wantNumber_174 : decode cX11_wantNumber 174 = .ok (.lload 4, 2) := by decide +kernel
theorem dX11_wantNumber_176 : decode cX11_wantNumber 176 = .ok (.lcmp, 1) := by decide +kernel
theorem dX11_wantNumber_177 : decode cX11_wantNumber 177 = .ok (.ifCond .gt 16, 3) := by decide +kernel
theorem dX11_wantNumber_180 : decode cX11_wantNumber 180 = .ok (.aload_n 0, 1) := by decide +kernel
theorem dX11_wantNumber_181 : decode cX11_wantNumber 181 = .ok (.getfield 424, 3) := by decide +kernel
theorem dX11_wantNumber_184 : decode cX11_wantNumber 184 = .ok (.iload 6, 2) := by decide +kernel
theorem dX11_wantNumber_186 : decode cX11_wantNumber 186 = .ok (.i2l, 1) := by decide +kernel
theorem dX11_wantNumber_187 : decode cX11_wantNumber 187 = .ok (.lrem, 1) := by decide +kernel
theorem dX11_wantNumber_188 : decode cX11_wantNumber 188 = .ok (.lconst 0, 1) := by decide +kernel
theorem dX11_wantNumber_189 : decode cX11_wantNumber 189 = .ok (.lcmp, 1) := by decide +kernel
theorem dX11_wantNumber_190 : decode cX11_wantNumber 190 = .ok (.ifCond .eq 15, 3) := by decide +kernel
theorem dX11_wantNumber_193 : decode cX11_wantNumber 193 = .ok (.aload_n 0, 1) := by decide +kernel
theorem dX11_wantNumber_194 : decode cX11_wantNumber 194 = .ok (.iconst 3, 1) := by decide +kernel
theorem dX11_wantNumber_195 : decode cX11_wantNumber 195 = .ok (.aload_n 0, 1) := by decide +kernel
theorem dX11_wantNumber_196 : decode cX11_wantNumber 196 = .ok (.getfield 16, 3) := by decide +kernel
theorem dX11_wantNumber_199 : decode cX11_wantNumber 199 = .ok (.iload 7, 2) := by decide +kernel
theorem dX11_wantNumber_201 : decode cX11_wantNumber 201 = .ok (.iaload, 1) := by decide +kernel
theorem dX11_wantNumber_202 : decode cX11_wantNumber 202 = .ok (.invokevirtual 381, 3) := by decide +kernel
theorem dX11_wantNumber_205 : decode cX11_wantNumber 205 = .ok (.aload_n 0, 1) := by decide +kernel
theorem dX11_wantNumber_206 : decode cX11_wantNumber 206 = .ok (.dup, 1) := by decide +kernel
theorem dX11_wantNumber_207 : decode cX11_wantNumber 207 = .ok (.getfield 378, 3) := by decide +kernel
theorem dX11_wantNumber_210 : decode cX11_wantNumber 210 = .ok (.iconst 1, 1) := by decide +kernel
theorem dX11_wantNumber_211 : decode cX11_wantNumber 211 = .ok (.iadd, 1) := by decide +kernel
theorem dX11_wantNumber_212 : decode cX11_wantNumber 212 = .ok (.putfield 378, 3) := by decide +kernel
theorem dX11_wantNumber_215 : decode cX11_wantNumber 215 = .ok (.iconst 1, 1) := by decide +kernel
theorem dX11_wantNumber_216 : decode cX11_wantNumber 216 = .ok (.ireturn, 1) := by decide +kernel
theorem dX11_leastOf_0 : decode cX11_leastOf 0 = .ok (.iload_n 0, 1) := by decide +kernel
theorem dX11_leastOf_1 : decode cX11_leastOf 1 = .ok (.iconst 2, 1) := by decide +kernel
theorem dX11_leastOf_2 : decode cX11_leastOf 2 = .ok (.if_icmp .ne 9, 3) := by decide +kernel
theorem dX11_leastOf_5 : decode cX11_leastOf 5 = .ok (.ldc2_w 427, 3) := by decide +kernel
theorem dX11_leastOf_8 : decode cX11_leastOf 8 = .ok (.goto 43, 3) := by decide +kernel
theorem dX11_leastOf_11 : decode cX11_leastOf 11 = .ok (.iload_n 0, 1) := by decide +kernel
theorem dX11_leastOf_12 : decode cX11_leastOf 12 = .ok (.iconst 4, 1) := by decide +kernel
theorem dX11_leastOf_13 : decode cX11_leastOf 13 = .ok (.if_icmp .ne 9, 3) := by decide +kernel
theorem dX11_leastOf_16 : decode cX11_leastOf 16 = .ok (.ldc2_w 429, 3) := by decide +kernel
theorem dX11_leastOf_19 : decode cX11_leastOf 19 = .ok (.goto 32, 3) := by decide +kernel
theorem dX11_leastOf_22 : decode cX11_leastOf 22 = .ok (.iload_n 0, 1) := by decide +kernel
theorem dX11_leastOf_23 : decode cX11_leastOf 23 = .ok (.iconst 3, 1) := by decide +kernel
theorem dX11_leastOf_24 : decode cX11_leastOf 24 = .ok (.if_icmp .eq 9, 3) := by decide +kernel
theorem dX11_leastOf_27 : decode cX11_leastOf 27 = .ok (.iload_n 0, 1) := by decide +kernel
theorem dX11_leastOf_28 : decode cX11_leastOf 28 = .ok (.bipush 6, 2) := by decide +kernel
theorem dX11_leastOf_30 : decode cX11_leastOf 30 = .ok (.if_icmp .ne 7, 3) := by decide +kernel
theorem dX11_leastOf_33 : decode cX11_leastOf 33 = .ok (.lconst 0, 1) := by decide +kernel
theorem dX11_leastOf_34 : decode cX11_leastOf 34 = .ok (.goto 17, 3) := by decide +kernel
theorem dX11_leastOf_37 : decode cX11_leastOf 37 = .ok (.iload_n 0, 1) := by decide +kernel
theorem dX11_leastOf_38 : decode cX11_leastOf 38 = .ok (.iconst 5, 1) := by decide +kernel
theorem dX11_leastOf_39 : decode cX11_leastOf 39 = .ok (.if_icmp .ne 9, 3) := by decide +kernel
theorem dX11_leastOf_42 : decode cX11_leastOf 42 = .ok (.ldc2_w 431, 3) := by decide +kernel
theorem dX11_leastOf_45 : decode cX11_leastOf 45 = .ok (.goto 6, 3) := by decide +kernel
theorem dX11_leastOf_48 : decode cX11_leastOf 48 = .ok (.ldc2_w 433, 3) := by decide +kernel
theorem dX11_leastOf_51 : decode cX11_leastOf 51 = .ok (.lreturn, 1) := by decide +kernel
theorem dX11_mostOf_0 : decode cX11_mostOf 0 = .ok (.iload_n 0, 1) := by decide +kernel
theorem dX11_mostOf_1 : decode cX11_mostOf 1 = .ok (.iconst 2, 1) := by decide +kernel
theorem dX11_mostOf_2 : decode cX11_mostOf 2 = .ok (.if_icmp .ne 9, 3) := by decide +kernel
theorem dX11_mostOf_5 : decode cX11_mostOf 5 = .ok (.ldc2_w 435, 3) := by decide +kernel
theorem dX11_mostOf_8 : decode cX11_mostOf 8 = .ok (.goto 51, 3) := by decide +kernel
theorem dX11_mostOf_11 : decode cX11_mostOf 11 = .ok (.iload_n 0, 1) := by decide +kernel
theorem dX11_mostOf_12 : decode cX11_mostOf 12 = .ok (.iconst 4, 1) := by decide +kernel
theorem dX11_mostOf_13 : decode cX11_mostOf 13 = .ok (.if_icmp .ne 9, 3) := by decide +kernel
theorem dX11_mostOf_16 : decode cX11_mostOf 16 = .ok (.ldc2_w 437, 3) := by decide +kernel
theorem dX11_mostOf_19 : decode cX11_mostOf 19 = .ok (.goto 40, 3) := by decide +kernel
theorem dX11_mostOf_22 : decode cX11_mostOf 22 = .ok (.iload_n 0, 1) := by decide +kernel
theorem dX11_mostOf_23 : decode cX11_mostOf 23 = .ok (.iconst 3, 1) := by decide +kernel
theorem dX11_mostOf_24 : decode cX11_mostOf 24 = .ok (.if_icmp .ne 9, 3) := by decide +kernel
theorem dX11_mostOf_27 : decode cX11_mostOf 27 = .ok (.ldc2_w 439, 3) := by decide +kernel
theorem dX11_mostOf_30 : decode cX11_mostOf 30 = .ok (.goto 29, 3) := by decide +kernel
theorem dX11_mostOf_33 : decode cX11_mostOf 33 = .ok (.iload_n 0, 1) := by decide +kernel
theorem dX11_mostOf_34 : decode cX11_mostOf 34 = .ok (.bipush 6, 2) := by decide +kernel
theorem dX11_mostOf_36 : decode cX11_mostOf 36 = .ok (.if_icmp .ne 9, 3) := by decide +kernel
theorem dX11_mostOf_39 : decode cX11_mostOf 39 = .ok (.ldc2_w 441, 3) := by decide +kernel
theorem dX11_mostOf_42 : decode cX11_mostOf 42 = .ok (.goto 17, 3) := by decide +kernel
theorem dX11_mostOf_45 : decode cX11_mostOf 45 = .ok (.iload_n 0, 1) := by decide +kernel
theorem dX11_mostOf_46 : decode cX11_mostOf 46 = .ok (.iconst 5, 1) := by decide +kernel
theorem dX11_mostOf_47 : decode cX11_mostOf 47 = .ok (.if_icmp .ne 9, 3) := by decide +kernel
theorem dX11_mostOf_50 : decode cX11_mostOf 50 = .ok (.ldc2_w 443, 3) := by decide +kernel
theorem dX11_mostOf_53 : decode cX11_mostOf 53 = .ok (.goto 6, 3) := by decide +kernel
theorem dX11_mostOf_56 : decode cX11_mostOf 56 = .ok (.ldc2_w 445, 3) := by decide +kernel
theorem dX11_mostOf_59 : decode cX11_mostOf 59 = .ok (.lreturn, 1) := by decide +kernel
theorem dX11_multipleOf_0 : decode cX11_multipleOf 0 = .ok (.iload_n 0, 1) := by decide +kernel
theorem dX11_multipleOf_1 : decode cX11_multipleOf 1 = .ok (.iconst 2, 1) := by decide +kernel
theorem dX11_multipleOf_2 : decode cX11_multipleOf 2 = .ok (.if_icmp .eq 8, 3) := by decide +kernel
theorem dX11_multipleOf_5 : decode cX11_multipleOf 5 = .ok (.iload_n 0, 1) := by decide +kernel
theorem dX11_multipleOf_6 : decode cX11_multipleOf 6 = .ok (.iconst 4, 1) := by decide +kernel
theorem dX11_multipleOf_7 : decode cX11_multipleOf 7 = .ok (.if_icmp .ne 7, 3) := by decide +kernel
theorem dX11_multipleOf_10 : decode cX11_multipleOf 10 = .ok (.iconst 2, 1) := by decide +kernel
theorem dX11_multipleOf_11 : decode cX11_multipleOf 11 = .ok (.goto 4, 3) := by decide +kernel
theorem dX11_multipleOf_14 : decode cX11_multipleOf 14 = .ok (.iconst 1, 1) := by decide +kernel
theorem dX11_multipleOf_15 : decode cX11_multipleOf 15 = .ok (.ireturn, 1) := by decide +kernel
theorem dX11_put_0 : decode cX11_put 0 = .ok (.lload_n 1, 1) := by decide +kernel
theorem dX11_put_1 : decode cX11_put 1 = .ok (.l2i, 1) := by decide +kernel
theorem dX11_put_2 : decode cX11_put 2 = .ok (.istore_n 3, 1) := by decide +kernel
theorem dX11_put_3 : decode cX11_put 3 = .ok (.iload_n 0, 1) := by decide +kernel
theorem dX11_put_4 : decode cX11_put 4 = .ok (.tableswitch 179 0 8 #[52, 57, 72, 112, 117, 179, 52, 160, 174], 52) := by decide +kernel
theorem dX11_put_56 : decode cX11_put 56 = .ok (.iload_n 3, 1) := by decide +kernel
theorem dX11_put_57 : decode cX11_put 57 = .ok (.bipush 20, 2) := by decide +kernel
theorem dX11_put_59 : decode cX11_put 59 = .ok (.ishl, 1) := by decide +kernel
theorem dX11_put_60 : decode cX11_put 60 = .ok (.ireturn, 1) := by decide +kernel
theorem dX11_put_61 : decode cX11_put 61 = .ok (.iload_n 3, 1) := by decide +kernel
theorem dX11_put_62 : decode cX11_put 62 = .ok (.iconst 5, 1) := by decide +kernel
theorem dX11_put_63 : decode cX11_put 63 = .ok (.ishr, 1) := by decide +kernel
theorem dX11_put_64 : decode cX11_put 64 = .ok (.bipush 25, 2) := by decide +kernel
theorem dX11_put_66 : decode cX11_put 66 = .ok (.ishl, 1) := by decide +kernel
theorem dX11_put_67 : decode cX11_put 67 = .ok (.iload_n 3, 1) := by decide +kernel
theorem dX11_put_68 : decode cX11_put 68 = .ok (.bipush 31, 2) := by decide +kernel
theorem dX11_put_70 : decode cX11_put 70 = .ok (.iand, 1) := by decide +kernel
theorem dX11_put_71 : decode cX11_put 71 = .ok (.bipush 7, 2) := by decide +kernel
theorem dX11_put_73 : decode cX11_put 73 = .ok (.ishl, 1) := by decide +kernel
theorem dX11_put_74 : decode cX11_put 74 = .ok (.ior, 1) := by decide +kernel
theorem dX11_put_75 : decode cX11_put 75 = .ok (.ireturn, 1) := by decide +kernel
theorem dX11_put_76 : decode cX11_put 76 = .ok (.iload_n 3, 1) := by decide +kernel
theorem dX11_put_77 : decode cX11_put 77 = .ok (.bipush 12, 2) := by decide +kernel
theorem dX11_put_79 : decode cX11_put 79 = .ok (.ishr, 1) := by decide +kernel
theorem dX11_put_80 : decode cX11_put 80 = .ok (.iconst 1, 1) := by decide +kernel
theorem dX11_put_81 : decode cX11_put 81 = .ok (.iand, 1) := by decide +kernel
theorem dX11_put_82 : decode cX11_put 82 = .ok (.bipush 31, 2) := by decide +kernel
theorem dX11_put_84 : decode cX11_put 84 = .ok (.ishl, 1) := by decide +kernel
theorem dX11_put_85 : decode cX11_put 85 = .ok (.iload_n 3, 1) := by decide +kernel
theorem dX11_put_86 : decode cX11_put 86 = .ok (.iconst 5, 1) := by decide +kernel
theorem dX11_put_87 : decode cX11_put 87 = .ok (.ishr, 1) := by decide +kernel
theorem dX11_put_88 : decode cX11_put 88 = .ok (.bipush 63, 2) := by decide +kernel
theorem dX11_put_90 : decode cX11_put 90 = .ok (.iand, 1) := by decide +kernel
theorem dX11_put_91 : decode cX11_put 91 = .ok (.bipush 25, 2) := by decide +kernel
theorem dX11_put_93 : decode cX11_put 93 = .ok (.ishl, 1) := by decide +kernel
theorem dX11_put_94 : decode cX11_put 94 = .ok (.ior, 1) := by decide +kernel
theorem dX11_put_95 : decode cX11_put 95 = .ok (.iload_n 3, 1) := by decide +kernel
theorem dX11_put_96 : decode cX11_put 96 = .ok (.iconst 1, 1) := by decide +kernel
theorem dX11_put_97 : decode cX11_put 97 = .ok (.ishr, 1) := by decide +kernel
theorem dX11_put_98 : decode cX11_put 98 = .ok (.bipush 15, 2) := by decide +kernel
theorem dX11_put_100 : decode cX11_put 100 = .ok (.iand, 1) := by decide +kernel
theorem dX11_put_101 : decode cX11_put 101 = .ok (.bipush 8, 2) := by decide +kernel
theorem dX11_put_103 : decode cX11_put 103 = .ok (.ishl, 1) := by decide +kernel
theorem dX11_put_104 : decode cX11_put 104 = .ok (.ior, 1) := by decide +kernel
theorem dX11_put_105 : decode cX11_put 105 = .ok (.iload_n 3, 1) := by decide +kernel
theorem dX11_put_106 : decode cX11_put 106 = .ok (.bipush 11, 2) := by decide +kernel
theorem dX11_put_108 : decode cX11_put 108 = .ok (.ishr, 1) := by decide +kernel
theorem dX11_put_109 : decode cX11_put 109 = .ok (.iconst 1, 1) := by decide +kernel
theorem dX11_put_110 : decode cX11_put 110 = .ok (.iand, 1) := by decide +kernel
theorem dX11_put_111 : decode cX11_put 111 = .ok (.bipush 7, 2) := by decide +kernel
theorem dX11_put_113 : decode cX11_put 113 = .ok (.ishl, 1) := by decide +kernel
theorem dX11_put_114 : decode cX11_put 114 = .ok (.ior, 1) := by decide +kernel
theorem dX11_put_115 : decode cX11_put 115 = .ok (.ireturn, 1) := by decide +kernel
theorem dX11_put_116 : decode cX11_put 116 = .ok (.iload_n 3, 1) := by decide +kernel
theorem dX11_put_117 : decode cX11_put 117 = .ok (.bipush 12, 2) := by decide +kernel
theorem dX11_put_119 : decode cX11_put 119 = .ok (.ishl, 1) := by decide +kernel
theorem dX11_put_120 : decode cX11_put 120 = .ok (.ireturn, 1) := by decide +kernel
theorem dX11_put_121 : decode cX11_put 121 = .ok (.iload_n 3, 1) := by decide +kernel
theorem dX11_put_122 : decode cX11_put 122 = .ok (.bipush 20, 2) := by decide +kernel
theorem dX11_put_124 : decode cX11_put 124 = .ok (.ishr, 1) := by decide +kernel
theorem dX11_put_125 : decode cX11_put 125 = .ok (.iconst 1, 1) := by decide +kernel
theorem dX11_put_126 : decode cX11_put 126 = .ok (.iand, 1) := by decide +kernel
theorem dX11_put_127 : decode cX11_put 127 = .ok (.bipush 31, 2) := by decide +kernel
theorem dX11_put_129 : decode cX11_put 129 = .ok (.ishl, 1) := by decide +kernel
theorem dX11_put_130 : decode cX11_put 130 = .ok (.iload_n 3, 1) := by decide +kernel
theorem dX11_put_131 : decode cX11_put 131 = .ok (.iconst 1, 1) := by decide +kernel
theorem dX11_put_132 : decode cX11_put 132 = .ok (.ishr, 1) := by decide +kernel
theorem dX11_put_133 : decode cX11_put 133 = .ok (.sipush 1023, 3) := by decide +kernel
theorem dX11_put_136 : decode cX11_put 136 = .ok (.iand, 1) := by decide +kernel
theorem dX11_put_137 : decode cX11_put 137 = .ok (.bipush 21, 2) := by decide +kernel
theorem dX11_put_139 : decode cX11_put 139 = .ok (.ishl, 1) := by decide +kernel
theorem dX11_put_140 : decode cX11_put 140 = .ok (.ior, 1) := by decide +kernel
theorem dX11_put_141 : decode cX11_put 141 = .ok (.iload_n 3, 1) := by decide +kernel
theorem dX11_put_142 : decode cX11_put 142 = .ok (.bipush 11, 2) := by decide +kernel
theorem dX11_put_144 : decode cX11_put 144 = .ok (.ishr, 1) := by decide +kernel
theorem dX11_put_145 : decode cX11_put 145 = .ok (.iconst 1, 1) := by decide +kernel
theorem dX11_put_146 : decode cX11_put 146 = .ok (.iand, 1) := by decide +kernel
theorem dX11_put_147 : decode cX11_put 147 = .ok (.bipush 20, 2) := by decide +kernel
theorem dX11_put_149 : decode cX11_put 149 = .ok (.ishl, 1) := by decide +kernel
theorem dX11_put_150 : decode cX11_put 150 = .ok (.ior, 1) := by decide +kernel
theorem dX11_put_151 : decode cX11_put 151 = .ok (.iload_n 3, 1) := by decide +kernel
theorem dX11_put_152 : decode cX11_put 152 = .ok (.bipush 12, 2) := by decide +kernel
theorem dX11_put_154 : decode cX11_put 154 = .ok (.ishr, 1) := by decide +kernel
theorem dX11_put_155 : decode cX11_put 155 = .ok (.sipush 255, 3) := by decide +kernel
theorem dX11_put_158 : decode cX11_put 158 = .ok (.iand, 1) := by decide +kernel
theorem dX11_put_159 : decode cX11_put 159 = .ok (.bipush 12, 2) := by decide +kernel
theorem dX11_put_161 : decode cX11_put 161 = .ok (.ishl, 1) := by decide +kernel
theorem dX11_put_162 : decode cX11_put 162 = .ok (.ior, 1) := by decide +kernel
theorem dX11_put_163 : decode cX11_put 163 = .ok (.ireturn, 1) := by decide +kernel
theorem dX11_put_164 : decode cX11_put 164 = .ok (.iload_n 3, 1) := by decide +kernel
theorem dX11_put_165 : decode cX11_put 165 = .ok (.iload_n 3, 1) := by decide +kernel
theorem dX11_put_166 : decode cX11_put 166 = .ok (.bipush 20, 2) := by decide +kernel
theorem dX11_put_168 : decode cX11_put 168 = .ok (.ishl, 1) := by decide +kernel
theorem dX11_put_169 : decode cX11_put 169 = .ok (.bipush 20, 2) := by decide +kernel
theorem dX11_put_171 : decode cX11_put 171 = .ok (.ishr, 1) := by decide +kernel
theorem dX11_put_172 : decode cX11_put 172 = .ok (.isub, 1) := by decide +kernel
theorem dX11_put_173 : decode cX11_put 173 = .ok (.sipush (-4096), 3) := by decide +kernel
theorem dX11_put_176 : decode cX11_put 176 = .ok (.iand, 1) := by decide +kernel
theorem dX11_put_177 : decode cX11_put 177 = .ok (.ireturn, 1) := by decide +kernel
theorem dX11_put_178 : decode cX11_put 178 = .ok (.iload_n 3, 1) := by decide +kernel
theorem dX11_put_179 : decode cX11_put 179 = .ok (.bipush 20, 2) := by decide +kernel
theorem dX11_put_181 : decode cX11_put 181 = .ok (.ishl, 1) := by decide +kernel
theorem dX11_put_182 : decode cX11_put 182 = .ok (.ireturn, 1) := by decide +kernel
theorem dX11_put_183 : decode cX11_put 183 = .ok (.iload_n 3, 1) := by decide +kernel
theorem dX11_put_184 : decode cX11_put 184 = .ok (.ireturn, 1) := by decide +kernel
theorem dX11_wantN_0 : decode cX11_wantN 0 = .ok (.aload_n 0, 1) := by decide +kernel
theorem dX11_wantN_1 : decode cX11_wantN 1 = .ok (.iconst 0, 1) := by decide +kernel
theorem dX11_wantN_2 : decode cX11_wantN 2 = .ok (.iload_n 1, 1) := by decide +kernel
theorem dX11_wantN_3 : decode cX11_wantN 3 = .ok (.invokestatic 447, 3) := by decide +kernel
theorem dX11_wantN_6 : decode cX11_wantN 6 = .ok (.iload_n 1, 1) := by decide +kernel
theorem dX11_wantN_7 : decode cX11_wantN 7 = .ok (.invokestatic 451, 3) := by decide +kernel
theorem dX11_wantN_10 : decode cX11_wantN 10 = .ok (.iload_n 1, 1) := by decide +kernel
theorem dX11_wantN_11 : decode cX11_wantN 11 = .ok (.invokestatic 454, 3) := by decide +kernel
theorem dX11_wantN_14 : decode cX11_wantN 14 = .ok (.invokevirtual 457, 3) := by decide +kernel
theorem dX11_wantN_17 : decode cX11_wantN 17 = .ok (.ifCond .ne 5, 3) := by decide +kernel
theorem dX11_wantN_20 : decode cX11_wantN 20 = .ok (.iconst 0, 1) := by decide +kernel
theorem dX11_wantN_21 : decode cX11_wantN 21 = .ok (.ireturn, 1) := by decide +kernel
theorem dX11_wantN_22 : decode cX11_wantN 22 = .ok (.aload_n 0, 1) := by decide +kernel
theorem dX11_wantN_23 : decode cX11_wantN 23 = .ok (.iload_n 1, 1) := by decide +kernel
theorem dX11_wantN_24 : decode cX11_wantN 24 = .ok (.putfield 461, 3) := by decide +kernel
theorem dX11_wantN_27 : decode cX11_wantN 27 = .ok (.iconst 1, 1) := by decide +kernel
theorem dX11_wantN_28 : decode cX11_wantN 28 = .ok (.ireturn, 1) := by decide +kernel
theorem dX11_wantComma_0 : decode cX11_wantComma 0 = .ok (.aload_n 0, 1) := by decide +kernel
theorem dX11_wantComma_1 : decode cX11_wantComma 1 = .ok (.bipush 44, 2) := by decide +kernel
theorem dX11_wantComma_3 : decode cX11_wantComma 3 = .ok (.invokevirtual 464, 3) := by decide +kernel
theorem dX11_wantComma_6 : decode cX11_wantComma 6 = .ok (.ireturn, 1) := by decide +kernel
theorem dX11_wantBase_0 : decode cX11_wantBase 0 = .ok (.aload_n 0, 1) := by decide +kernel
theorem dX11_wantBase_1 : decode cX11_wantBase 1 = .ok (.bipush 40, 2) := by decide +kernel
theorem dX11_wantBase_3 : decode cX11_wantBase 3 = .ok (.invokevirtual 464, 3) := by decide +kernel
theorem dX11_wantBase_6 : decode cX11_wantBase 6 = .ok (.ifCond .eq 25, 3) := by decide +kernel
theorem dX11_wantBase_9 : decode cX11_wantBase 9 = .ok (.aload_n 0, 1) := by decide +kernel
theorem dX11_wantBase_10 : decode cX11_wantBase 10 = .ok (.bipush 15, 2) := by decide +kernel
theorem dX11_wantBase_12 : decode cX11_wantBase 12 = .ok (.invokevirtual 467, 3) := by decide +kernel
theorem dX11_wantBase_15 : decode cX11_wantBase 15 = .ok (.ifCond .eq 16, 3) := by decide +kernel
theorem dX11_wantBase_18 : decode cX11_wantBase 18 = .ok (.aload_n 0, 1) := by decide +kernel
theorem dX11_wantBase_19 : decode cX11_wantBase 19 = .ok (.bipush 41, 2) := by decide +kernel
theorem dX11_wantBase_21 : decode cX11_wantBase 21 = .ok (.invokevirtual 464, 3) := by decide +kernel
theorem dX11_wantBase_24 : decode cX11_wantBase 24 = .ok (.ifCond .eq 7, 3) := by decide +kernel
theorem dX11_wantBase_27 : decode cX11_wantBase 27 = .ok (.iconst 1, 1) := by decide +kernel
theorem dX11_wantBase_28 : decode cX11_wantBase 28 = .ok (.goto 4, 3) := by decide +kernel
theorem dX11_wantBase_31 : decode cX11_wantBase 31 = .ok (.iconst 0, 1) := by decide +kernel
theorem dX11_wantBase_32 : decode cX11_wantBase 32 = .ok (.ireturn, 1) := by decide +kernel
theorem dX11_wantParts_0 : decode cX11_wantParts 0 = .ok (.iload_n 2, 1) := by decide +kernel
theorem dX11_wantParts_1 : decode cX11_wantParts 1 = .ok (.bipush 15, 2) := by decide +kernel
theorem dX11_wantParts_3 : decode cX11_wantParts 3 = .ok (.if_icmp .le 14, 3) := by decide +kernel
theorem dX11_wantParts_6 : decode cX11_wantParts 6 = .ok (.iload_n 2, 1) := by decide +kernel
theorem dX11_wantParts_7 : decode cX11_wantParts 7 = .ok (.bipush 19, 2) := by decide +kernel
theorem dX11_wantParts_9 : decode cX11_wantParts 9 = .ok (.if_icmp .ge 8, 3) := by decide +kernel
theorem dX11_wantParts_12 : decode cX11_wantParts 12 = .ok (.bipush 6, 2) := by decide +kernel
theorem dX11_wantParts_14 : decode cX11_wantParts 14 = .ok (.goto 4, 3) := by decide +kernel
theorem dX11_wantParts_17 : decode cX11_wantParts 17 = .ok (.iconst 0, 1) := by decide +kernel
theorem dX11_wantParts_18 : decode cX11_wantParts 18 = .ok (.istore_n 3, 1) := by decide +kernel
theorem dX11_wantParts_19 : decode cX11_wantParts 19 = .ok (.iload_n 1, 1) := by decide +kernel
theorem dX11_wantParts_20 : decode cX11_wantParts 20 = .ok (.tableswitch 558 0 16 #[84, 131, 177, 214, 251, 297, 327, 357, 558, 402, 433, 464, 470, 500, 530, 536, 547], 84) := by decide +kernel
theorem dX11_wantParts_104 : decode cX11_wantParts 104 = .ok (.aload_n 0, 1) := by decide +kernel
theorem dX11_wantParts_105 : decode cX11_wantParts 105 = .ok (.bipush 7, 2) := by decide +kernel
theorem dX11_wantParts_107 : decode cX11_wantParts 107 = .ok (.invokevirtual 467, 3) := by decide +kernel
theorem dX11_wantParts_110 : decode cX11_wantParts 110 = .ok (.ifCond .eq 39, 3) := by decide +kernel
theorem dX11_wantParts_113 : decode cX11_wantParts 113 = .ok (.aload_n 0, 1) := by decide +kernel
theorem dX11_wantParts_114 : decode cX11_wantParts 114 = .ok (.invokevirtual 470, 3) := by decide +kernel
theorem dX11_wantParts_117 : decode cX11_wantParts 117 = .ok (.ifCond .eq 32, 3) := by decide +kernel
theorem dX11_wantParts_120 : decode cX11_wantParts 120 = .ok (.aload_n 0, 1) := by decide +kernel
theorem dX11_wantParts_121 : decode cX11_wantParts 121 = .ok (.bipush 15, 2) := by decide +kernel
theorem dX11_wantParts_123 : decode cX11_wantParts 123 = .ok (.invokevirtual 467, 3) := by decide +kernel
theorem dX11_wantParts_126 : decode cX11_wantParts 126 = .ok (.ifCond .eq 23, 3) := by decide +kernel
theorem dX11_wantParts_129 : decode cX11_wantParts 129 = .ok (.aload_n 0, 1) := by decide +kernel
theorem dX11_wantParts_130 : decode cX11_wantParts 130 = .ok (.invokevirtual 470, 3) := by decide +kernel
theorem dX11_wantParts_133 : decode cX11_wantParts 133 = .ok (.ifCond .eq 16, 3) := by decide +kernel
theorem dX11_wantParts_136 : decode cX11_wantParts 136 = .ok (.aload_n 0, 1) := by decide +kernel
theorem dX11_wantParts_137 : decode cX11_wantParts 137 = .ok (.bipush 20, 2) := by decide +kernel
theorem dX11_wantParts_139 : decode cX11_wantParts 139 = .ok (.invokevirtual 467, 3) := by decide +kernel
theorem dX11_wantParts_142 : decode cX11_wantParts 142 = .ok (.ifCond .eq 7, 3) := by decide +kernel
theorem dX11_wantParts_145 : decode cX11_wantParts 145 = .ok (.iconst 1, 1) := by decide +kernel
theorem dX11_wantParts_146 : decode cX11_wantParts 146 = .ok (.goto 4, 3) := by decide +kernel
theorem dX11_wantParts_149 : decode cX11_wantParts 149 = .ok (.iconst 0, 1) := by decide +kernel
theorem dX11_wantParts_150 : decode cX11_wantParts 150 = .ok (.ireturn, 1) := by decide +kernel
theorem dX11_wantParts_151 : decode cX11_wantParts 151 = .ok (.aload_n 0, 1) := by decide +kernel
theorem dX11_wantParts_152 : decode cX11_wantParts 152 = .ok (.bipush 7, 2) := by decide +kernel
theorem dX11_wantParts_154 : decode cX11_wantParts 154 = .ok (.invokevirtual 467, 3) := by decide +kernel
theorem dX11_wantParts_157 : decode cX11_wantParts 157 = .ok (.ifCond .eq 38, 3) := by decide +kernel
theorem dX11_wantParts_160 : decode cX11_wantParts 160 = .ok (.aload_n 0, 1) := by decide +kernel
theorem dX11_wantParts_161 : decode cX11_wantParts 161 = .ok (.invokevirtual 470, 3) := by decide +kernel
theorem dX11_wantParts_164 : decode cX11_wantParts 164 = .ok (.ifCond .eq 31, 3) := by decide +kernel
theorem dX11_wantParts_167 : decode cX11_wantParts 167 = .ok (.aload_n 0, 1) := by decide +kernel
theorem dX11_wantParts_168 : decode cX11_wantParts 168 = .ok (.bipush 15, 2) := by decide +kernel
theorem dX11_wantParts_170 : decode cX11_wantParts 170 = .ok (.invokevirtual 467, 3) := by decide +kernel
theorem dX11_wantParts_173 : decode cX11_wantParts 173 = .ok (.ifCond .eq 22, 3) := by decide +kernel
theorem dX11_wantParts_176 : decode cX11_wantParts 176 = .ok (.aload_n 0, 1) := by decide +kernel
theorem dX11_wantParts_177 : decode cX11_wantParts 177 = .ok (.invokevirtual 470, 3) := by decide +kernel
theorem dX11_wantParts_180 : decode cX11_wantParts 180 = .ok (.ifCond .eq 15, 3) := by decide +kernel
theorem dX11_wantParts_183 : decode cX11_wantParts 183 = .ok (.aload_n 0, 1) := by decide +kernel
theorem dX11_wantParts_184 : decode cX11_wantParts 184 = .ok (.iload_n 3, 1) := by decide +kernel
theorem dX11_wantParts_185 : decode cX11_wantParts 185 = .ok (.invokevirtual 473, 3) := by decide +kernel
theorem dX11_wantParts_188 : decode cX11_wantParts 188 = .ok (.ifCond .eq 7, 3) := by decide +kernel
theorem dX11_wantParts_191 : decode cX11_wantParts 191 = .ok (.iconst 1, 1) := by decide +kernel
theorem dX11_wantParts_192 : decode cX11_wantParts 192 = .ok (.goto 4, 3) := by decide +kernel
theorem dX11_wantParts_195 : decode cX11_wantParts 195 = .ok (.iconst 0, 1) := by decide +kernel
theorem dX11_wantParts_196 : decode cX11_wantParts 196 = .ok (.ireturn, 1) := by decide +kernel
theorem dX11_wantParts_197 : decode cX11_wantParts 197 = .ok (.aload_n 0, 1) := by decide +kernel
theorem dX11_wantParts_198 : decode cX11_wantParts 198 = .ok (.bipush 7, 2) := by decide +kernel
theorem dX11_wantParts_200 : decode cX11_wantParts 200 = .ok (.invokevirtual 467, 3) := by decide +kernel
theorem dX11_wantParts_203 : decode cX11_wantParts 203 = .ok (.ifCond .eq 29, 3) := by decide +kernel
theorem dX11_wantParts_206 : decode cX11_wantParts 206 = .ok (.aload_n 0, 1) := by decide +kernel
theorem dX11_wantParts_207 : decode cX11_wantParts 207 = .ok (.invokevirtual 470, 3) := by decide +kernel
theorem dX11_wantParts_210 : decode cX11_wantParts 210 = .ok (.ifCond .eq 22, 3) := by decide +kernel
theorem dX11_wantParts_213 : decode cX11_wantParts 213 = .ok (.aload_n 0, 1) := by decide +kernel
theorem dX11_wantParts_214 : decode cX11_wantParts 214 = .ok (.iconst 0, 1) := by decide +kernel
theorem dX11_wantParts_215 : decode cX11_wantParts 215 = .ok (.invokevirtual 473, 3) := by decide +kernel
theorem dX11_wantParts_218 : decode cX11_wantParts 218 = .ok (.ifCond .eq 14, 3) := by decide +kernel
theorem dX11_wantParts_221 : decode cX11_wantParts 221 = .ok (.aload_n 0, 1) := by decide +kernel
theorem dX11_wantParts_222 : decode cX11_wantParts 222 = .ok (.invokevirtual 476, 3) := by decide +kernel
theorem dX11_wantParts_225 : decode cX11_wantParts 225 = .ok (.ifCond .eq 7, 3) := by decide +kernel
theorem dX11_wantParts_228 : decode cX11_wantParts 228 = .ok (.iconst 1, 1) := by decide +kernel
theorem dX11_wantParts_229 : decode cX11_wantParts 229 = .ok (.goto 4, 3) := by decide +kernel
theorem dX11_wantParts_232 : decode cX11_wantParts 232 = .ok (.iconst 0, 1) := by decide +kernel
theorem dX11_wantParts_233 : decode cX11_wantParts 233 = .ok (.ireturn, 1) := by decide +kernel
theorem dX11_wantParts_234 : decode cX11_wantParts 234 = .ok (.aload_n 0, 1) := by decide +kernel
theorem dX11_wantParts_235 : decode cX11_wantParts 235 = .ok (.bipush 20, 2) := by decide +kernel
theorem dX11_wantParts_237 : decode cX11_wantParts 237 = .ok (.invokevirtual 467, 3) := by decide +kernel
theorem dX11_wantParts_240 : decode cX11_wantParts 240 = .ok (.ifCond .eq 29, 3) := by decide +kernel
theorem dX11_wantParts_243 : decode cX11_wantParts 243 = .ok (.aload_n 0, 1) := by decide +kernel
theorem dX11_wantParts_244 : decode cX11_wantParts 244 = .ok (.invokevirtual 470, 3) := by decide +kernel
theorem dX11_wantParts_247 : decode cX11_wantParts 247 = .ok (.ifCond .eq 22, 3) := by decide +kernel
theorem dX11_wantParts_250 : decode cX11_wantParts 250 = .ok (.aload_n 0, 1) := by decide +kernel
theorem dX11_wantParts_251 : decode cX11_wantParts 251 = .ok (.iconst 1, 1) := by decide +kernel
theorem dX11_wantParts_252 : decode cX11_wantParts 252 = .ok (.invokevirtual 473, 3) := by decide +kernel
theorem dX11_wantParts_255 : decode cX11_wantParts 255 = .ok (.ifCond .eq 14, 3) := by decide +kernel
theorem dX11_wantParts_258 : decode cX11_wantParts 258 = .ok (.aload_n 0, 1) := by decide +kernel
theorem dX11_wantParts_259 : decode cX11_wantParts 259 = .ok (.invokevirtual 476, 3) := by decide +kernel
theorem dX11_wantParts_262 : decode cX11_wantParts 262 = .ok (.ifCond .eq 7, 3) := by decide +kernel
theorem dX11_wantParts_265 : decode cX11_wantParts 265 = .ok (.iconst 1, 1) := by decide +kernel
theorem dX11_wantParts_266 : decode cX11_wantParts 266 = .ok (.goto 4, 3) := by decide +kernel
theorem dX11_wantParts_269 : decode cX11_wantParts 269 = .ok (.iconst 0, 1) := by decide +kernel
theorem dX11_wantParts_270 : decode cX11_wantParts 270 = .ok (.ireturn, 1) := by decide +kernel
theorem dX11_wantParts_271 : decode cX11_wantParts 271 = .ok (.aload_n 0, 1) := by decide +kernel
theorem dX11_wantParts_272 : decode cX11_wantParts 272 = .ok (.bipush 15, 2) := by decide +kernel
theorem dX11_wantParts_274 : decode cX11_wantParts 274 = .ok (.invokevirtual 467, 3) := by decide +kernel
theorem dX11_wantParts_277 : decode cX11_wantParts 277 = .ok (.ifCond .eq 38, 3) := by decide +kernel
theorem dX11_wantParts_280 : decode cX11_wantParts 280 = .ok (.aload_n 0, 1) := by decide +kernel
theorem dX11_wantParts_281 : decode cX11_wantParts 281 = .ok (.invokevirtual 470, 3) := by decide +kernel
theorem dX11_wantParts_284 : decode cX11_wantParts 284 = .ok (.ifCond .eq 31, 3) := by decide +kernel
theorem dX11_wantParts_287 : decode cX11_wantParts 287 = .ok (.aload_n 0, 1) := by decide +kernel
theorem dX11_wantParts_288 : decode cX11_wantParts 288 = .ok (.bipush 20, 2) := by decide +kernel
theorem dX11_wantParts_290 : decode cX11_wantParts 290 = .ok (.invokevirtual 467, 3) := by decide +kernel
theorem dX11_wantParts_293 : decode cX11_wantParts 293 = .ok (.ifCond .eq 22, 3) := by decide +kernel
theorem dX11_wantParts_296 : decode cX11_wantParts 296 = .ok (.aload_n 0, 1) := by decide +kernel
theorem dX11_wantParts_297 : decode cX11_wantParts 297 = .ok (.invokevirtual 470, 3) := by decide +kernel
theorem dX11_wantParts_300 : decode cX11_wantParts 300 = .ok (.ifCond .eq 15, 3) := by decide +kernel
theorem dX11_wantParts_303 : decode cX11_wantParts 303 = .ok (.aload_n 0, 1) := by decide +kernel
theorem dX11_wantParts_304 : decode cX11_wantParts 304 = .ok (.iconst 2, 1) := by decide +kernel
theorem dX11_wantParts_305 : decode cX11_wantParts 305 = .ok (.invokevirtual 473, 3) := by decide +kernel
theorem dX11_wantParts_308 : decode cX11_wantParts 308 = .ok (.ifCond .eq 7, 3) := by decide +kernel
theorem dX11_wantParts_311 : decode cX11_wantParts 311 = .ok (.iconst 1, 1) := by decide +kernel
theorem dX11_wantParts_312 : decode cX11_wantParts 312 = .ok (.goto 4, 3) := by decide +kernel
theorem dX11_wantParts_315 : decode cX11_wantParts 315 = .ok (.iconst 0, 1) := by decide +kernel
theorem dX11_wantParts_316 : decode cX11_wantParts 316 = .ok (.ireturn, 1) := by decide +kernel
theorem dX11_wantParts_317 : decode cX11_wantParts 317 = .ok (.aload_n 0, 1) := by decide +kernel
theorem dX11_wantParts_318 : decode cX11_wantParts 318 = .ok (.bipush 7, 2) := by decide +kernel
theorem dX11_wantParts_320 : decode cX11_wantParts 320 = .ok (.invokevirtual 467, 3) := by decide +kernel
theorem dX11_wantParts_323 : decode cX11_wantParts 323 = .ok (.ifCond .eq 22, 3) := by decide +kernel
theorem dX11_wantParts_326 : decode cX11_wantParts 326 = .ok (.aload_n 0, 1) := by decide +kernel
theorem dX11_wantParts_327 : decode cX11_wantParts 327 = .ok (.invokevirtual 470, 3) := by decide +kernel
theorem dX11_wantParts_330 : decode cX11_wantParts 330 = .ok (.ifCond .eq 15, 3) := by decide +kernel
theorem dX11_wantParts_333 : decode cX11_wantParts 333 = .ok (.aload_n 0, 1) := by decide +kernel
theorem dX11_wantParts_334 : decode cX11_wantParts 334 = .ok (.iconst 3, 1) := by decide +kernel
theorem dX11_wantParts_335 : decode cX11_wantParts 335 = .ok (.invokevirtual 473, 3) := by decide +kernel
theorem dX11_wantParts_338 : decode cX11_wantParts 338 = .ok (.ifCond .eq 7, 3) := by decide +kernel
theorem dX11_wantParts_341 : decode cX11_wantParts 341 = .ok (.iconst 1, 1) := by decide +kernel
theorem dX11_wantParts_342 : decode cX11_wantParts 342 = .ok (.goto 4, 3) := by decide +kernel
theorem dX11_wantParts_345 : decode cX11_wantParts 345 = .ok (.iconst 0, 1) := by decide +kernel
theorem dX11_wantParts_346 : decode cX11_wantParts 346 = .ok (.ireturn, 1) := by decide +kernel
theorem dX11_wantParts_347 : decode cX11_wantParts 347 = .ok (.aload_n 0, 1) := by decide +kernel
theorem dX11_wantParts_348 : decode cX11_wantParts 348 = .ok (.bipush 7, 2) := by decide +kernel
theorem dX11_wantParts_350 : decode cX11_wantParts 350 = .ok (.invokevirtual 467, 3) := by decide +kernel
theorem dX11_wantParts_353 : decode cX11_wantParts 353 = .ok (.ifCond .eq 22, 3) := by decide +kernel
theorem dX11_wantParts_356 : decode cX11_wantParts 356 = .ok (.aload_n 0, 1) := by decide +kernel
theorem dX11_wantParts_357 : decode cX11_wantParts 357 = .ok (.invokevirtual 470, 3) := by decide +kernel
theorem dX11_wantParts_360 : decode cX11_wantParts 360 = .ok (.ifCond .eq 15, 3) := by decide +kernel
theorem dX11_wantParts_363 : decode cX11_wantParts 363 = .ok (.aload_n 0, 1) := by decide +kernel
theorem dX11_wantParts_364 : decode cX11_wantParts 364 = .ok (.iconst 4, 1) := by decide +kernel
theorem dX11_wantParts_365 : decode cX11_wantParts 365 = .ok (.invokevirtual 473, 3) := by decide +kernel
theorem dX11_wantParts_368 : decode cX11_wantParts 368 = .ok (.ifCond .eq 7, 3) := by decide +kernel
theorem dX11_wantParts_371 : decode cX11_wantParts 371 = .ok (.iconst 1, 1) := by decide +kernel
theorem dX11_wantParts_372 : decode cX11_wantParts 372 = .ok (.goto 4, 3) := by decide +kernel
theorem dX11_wantParts_375 : decode cX11_wantParts 375 = .ok (.iconst 0, 1) := by decide +kernel
theorem dX11_wantParts_376 : decode cX11_wantParts 376 = .ok (.ireturn, 1) := by decide +kernel
theorem dX11_wantParts_377 : decode cX11_wantParts 377 = .ok (.aload_n 0, 1) := by decide +kernel
theorem dX11_wantParts_378 : decode cX11_wantParts 378 = .ok (.bipush 7, 2) := by decide +kernel
theorem dX11_wantParts_380 : decode cX11_wantParts 380 = .ok (.invokevirtual 467, 3) := by decide +kernel
theorem dX11_wantParts_383 : decode cX11_wantParts 383 = .ok (.ifCond .eq 37, 3) := by decide +kernel
theorem dX11_wantParts_386 : decode cX11_wantParts 386 = .ok (.aload_n 0, 1) := by decide +kernel
theorem dX11_wantParts_387 : decode cX11_wantParts 387 = .ok (.invokevirtual 470, 3) := by decide +kernel
theorem dX11_wantParts_390 : decode cX11_wantParts 390 = .ok (.ifCond .eq 30, 3) := by decide +kernel
theorem dX11_wantParts_393 : decode cX11_wantParts 393 = .ok (.aload_n 0, 1) := by decide +kernel
theorem dX11_wantParts_394 : decode cX11_wantParts 394 = .ok (.bipush 20, 2) := by decide +kernel
theorem dX11_wantParts_396 : decode cX11_wantParts 396 = .ok (.invokevirtual 467, 3) := by decide +kernel
theorem dX11_wantParts_399 : decode cX11_wantParts 399 = .ok (.ifCond .eq 21, 3) := by decide +kernel
theorem dX11_wantParts_402 : decode cX11_wantParts 402 = .ok (.aload_n 0, 1) := by decide +kernel
theorem dX11_wantParts_403 : decode cX11_wantParts 403 = .ok (.invokevirtual 470, 3) := by decide +kernel
theorem dX11_wantParts_406 : decode cX11_wantParts 406 = .ok (.ifCond .eq 14, 3) := by decide +kernel
theorem dX11_wantParts_409 : decode cX11_wantParts 409 = .ok (.aload_n 0, 1) := by decide +kernel
theorem dX11_wantParts_410 : decode cX11_wantParts 410 = .ok (.invokevirtual 476, 3) := by decide +kernel
theorem dX11_wantParts_413 : decode cX11_wantParts 413 = .ok (.ifCond .eq 7, 3) := by decide +kernel
theorem dX11_wantParts_416 : decode cX11_wantParts 416 = .ok (.iconst 1, 1) := by decide +kernel
theorem dX11_wantParts_417 : decode cX11_wantParts 417 = .ok (.goto 4, 3) := by decide +kernel
theorem dX11_wantParts_420 : decode cX11_wantParts 420 = .ok (.iconst 0, 1) := by decide +kernel
theorem dX11_wantParts_421 : decode cX11_wantParts 421 = .ok (.ireturn, 1) := by decide +kernel
theorem dX11_wantParts_422 : decode cX11_wantParts 422 = .ok (.aload_n 0, 1) := by decide +kernel
theorem dX11_wantParts_423 : decode cX11_wantParts 423 = .ok (.bipush 7, 2) := by decide +kernel
theorem dX11_wantParts_425 : decode cX11_wantParts 425 = .ok (.invokevirtual 467, 3) := by decide +kernel
theorem dX11_wantParts_428 : decode cX11_wantParts 428 = .ok (.ifCond .eq 23, 3) := by decide +kernel
theorem dX11_wantParts_431 : decode cX11_wantParts 431 = .ok (.aload_n 0, 1) := by decide +kernel
theorem dX11_wantParts_432 : decode cX11_wantParts 432 = .ok (.invokevirtual 470, 3) := by decide +kernel
theorem dX11_wantParts_435 : decode cX11_wantParts 435 = .ok (.ifCond .eq 16, 3) := by decide +kernel
theorem dX11_wantParts_438 : decode cX11_wantParts 438 = .ok (.aload_n 0, 1) := by decide +kernel
theorem dX11_wantParts_439 : decode cX11_wantParts 439 = .ok (.bipush 15, 2) := by decide +kernel
theorem dX11_wantParts_441 : decode cX11_wantParts 441 = .ok (.invokevirtual 467, 3) := by decide +kernel
theorem dX11_wantParts_444 : decode cX11_wantParts 444 = .ok (.ifCond .eq 7, 3) := by decide +kernel
theorem dX11_wantParts_447 : decode cX11_wantParts 447 = .ok (.iconst 1, 1) := by decide +kernel
theorem dX11_wantParts_448 : decode cX11_wantParts 448 = .ok (.goto 4, 3) := by decide +kernel
theorem dX11_wantParts_451 : decode cX11_wantParts 451 = .ok (.iconst 0, 1) := by decide +kernel
theorem dX11_wantParts_452 : decode cX11_wantParts 452 = .ok (.ireturn, 1) := by decide +kernel
theorem dX11_wantParts_453 : decode cX11_wantParts 453 = .ok (.aload_n 0, 1) := by decide +kernel
theorem dX11_wantParts_454 : decode cX11_wantParts 454 = .ok (.bipush 7, 2) := by decide +kernel
theorem dX11_wantParts_456 : decode cX11_wantParts 456 = .ok (.invokevirtual 467, 3) := by decide +kernel
theorem dX11_wantParts_459 : decode cX11_wantParts 459 = .ok (.ifCond .eq 23, 3) := by decide +kernel
theorem dX11_wantParts_462 : decode cX11_wantParts 462 = .ok (.aload_n 0, 1) := by decide +kernel
theorem dX11_wantParts_463 : decode cX11_wantParts 463 = .ok (.invokevirtual 470, 3) := by decide +kernel
theorem dX11_wantParts_466 : decode cX11_wantParts 466 = .ok (.ifCond .eq 16, 3) := by decide +kernel
theorem dX11_wantParts_469 : decode cX11_wantParts 469 = .ok (.aload_n 0, 1) := by decide +kernel
theorem dX11_wantParts_470 : decode cX11_wantParts 470 = .ok (.bipush 20, 2) := by decide +kernel
theorem dX11_wantParts_472 : decode cX11_wantParts 472 = .ok (.invokevirtual 467, 3) := by decide +kernel
theorem dX11_wantParts_475 : decode cX11_wantParts 475 = .ok (.ifCond .eq 7, 3) := by decide +kernel
theorem dX11_wantParts_478 : decode cX11_wantParts 478 = .ok (.iconst 1, 1) := by decide +kernel
theorem dX11_wantParts_479 : decode cX11_wantParts 479 = .ok (.goto 4, 3) := by decide +kernel
theorem dX11_wantParts_482 : decode cX11_wantParts 482 = .ok (.iconst 0, 1) := by decide +kernel
theorem dX11_wantParts_483 : decode cX11_wantParts 483 = .ok (.ireturn, 1) := by decide +kernel
theorem dX11_wantParts_484 : decode cX11_wantParts 484 = .ok (.aload_n 0, 1) := by decide +kernel
theorem dX11_wantParts_485 : decode cX11_wantParts 485 = .ok (.iconst 4, 1) := by decide +kernel
theorem dX11_wantParts_486 : decode cX11_wantParts 486 = .ok (.invokevirtual 473, 3) := by decide +kernel
theorem dX11_wantParts_489 : decode cX11_wantParts 489 = .ok (.ireturn, 1) := by decide +kernel
theorem dX11_wantParts_490 : decode cX11_wantParts 490 = .ok (.aload_n 0, 1) := by decide +kernel
theorem dX11_wantParts_491 : decode cX11_wantParts 491 = .ok (.bipush 15, 2) := by decide +kernel
theorem dX11_wantParts_493 : decode cX11_wantParts 493 = .ok (.invokevirtual 467, 3) := by decide +kernel
theorem dX11_wantParts_496 : decode cX11_wantParts 496 = .ok (.ifCond .eq 22, 3) := by decide +kernel
theorem dX11_wantParts_499 : decode cX11_wantParts 499 = .ok (.aload_n 0, 1) := by decide +kernel
theorem dX11_wantParts_500 : decode cX11_wantParts 500 = .ok (.invokevirtual 470, 3) := by decide +kernel
theorem dX11_wantParts_503 : decode cX11_wantParts 503 = .ok (.ifCond .eq 15, 3) := by decide +kernel
theorem dX11_wantParts_506 : decode cX11_wantParts 506 = .ok (.aload_n 0, 1) := by decide +kernel
theorem dX11_wantParts_507 : decode cX11_wantParts 507 = .ok (.iconst 2, 1) := by decide +kernel
theorem dX11_wantParts_508 : decode cX11_wantParts 508 = .ok (.invokevirtual 473, 3) := by decide +kernel
theorem dX11_wantParts_511 : decode cX11_wantParts 511 = .ok (.ifCond .eq 7, 3) := by decide +kernel
theorem dX11_wantParts_514 : decode cX11_wantParts 514 = .ok (.iconst 1, 1) := by decide +kernel
theorem dX11_wantParts_515 : decode cX11_wantParts 515 = .ok (.goto 4, 3) := by decide +kernel
theorem dX11_wantParts_518 : decode cX11_wantParts 518 = .ok (.iconst 0, 1) := by decide +kernel
theorem dX11_wantParts_519 : decode cX11_wantParts 519 = .ok (.ireturn, 1) := by decide +kernel
theorem dX11_wantParts_520 : decode cX11_wantParts 520 = .ok (.aload_n 0, 1) := by decide +kernel
theorem dX11_wantParts_521 : decode cX11_wantParts 521 = .ok (.bipush 7, 2) := by decide +kernel
theorem dX11_wantParts_523 : decode cX11_wantParts 523 = .ok (.invokevirtual 467, 3) := by decide +kernel
theorem dX11_wantParts_526 : decode cX11_wantParts 526 = .ok (.ifCond .eq 22, 3) := by decide +kernel
theorem dX11_wantParts_529 : decode cX11_wantParts 529 = .ok (.aload_n 0, 1) := by decide +kernel
theorem dX11_wantParts_530 : decode cX11_wantParts 530 = .ok (.invokevirtual 470, 3) := by decide +kernel
theorem dX11_wantParts_533 : decode cX11_wantParts 533 = .ok (.ifCond .eq 15, 3) := by decide +kernel
theorem dX11_wantParts_536 : decode cX11_wantParts 536 = .ok (.aload_n 0, 1) := by decide +kernel
theorem dX11_wantParts_537 : decode cX11_wantParts 537 = .ok (.iconst 5, 1) := by decide +kernel
theorem dX11_wantParts_538 : decode cX11_wantParts 538 = .ok (.invokevirtual 473, 3) := by decide +kernel
theorem dX11_wantParts_541 : decode cX11_wantParts 541 = .ok (.ifCond .eq 7, 3) := by decide +kernel
theorem dX11_wantParts_544 : decode cX11_wantParts 544 = .ok (.iconst 1, 1) := by decide +kernel
theorem dX11_wantParts_545 : decode cX11_wantParts 545 = .ok (.goto 4, 3) := by decide +kernel
theorem dX11_wantParts_548 : decode cX11_wantParts 548 = .ok (.iconst 0, 1) := by decide +kernel
theorem dX11_wantParts_549 : decode cX11_wantParts 549 = .ok (.ireturn, 1) := by decide +kernel
theorem dX11_wantParts_550 : decode cX11_wantParts 550 = .ok (.aload_n 0, 1) := by decide +kernel
theorem dX11_wantParts_551 : decode cX11_wantParts 551 = .ok (.iconst 5, 1) := by decide +kernel
theorem dX11_wantParts_552 : decode cX11_wantParts 552 = .ok (.invokevirtual 473, 3) := by decide +kernel
theorem dX11_wantParts_555 : decode cX11_wantParts 555 = .ok (.ireturn, 1) := by decide +kernel
theorem dX11_wantParts_556 : decode cX11_wantParts 556 = .ok (.aload_n 0, 1) := by decide +kernel
theorem dX11_wantParts_557 : decode cX11_wantParts 557 = .ok (.iconst 1, 1) := by decide +kernel
theorem dX11_wantParts_558 : decode cX11_wantParts 558 = .ok (.lconst 0, 1) := by decide +kernel
theorem dX11_wantParts_559 : decode cX11_wantParts 559 = .ok (.ldc2_w 479, 3) := by decide +kernel
theorem dX11_wantParts_562 : decode cX11_wantParts 562 = .ok (.iconst 4, 1) := by decide +kernel
theorem dX11_wantParts_563 : decode cX11_wantParts 563 = .ok (.invokevirtual 457, 3) := by decide +kernel
theorem dX11_wantParts_566 : decode cX11_wantParts 566 = .ok (.ireturn, 1) := by decide +kernel
theorem dX11_wantParts_567 : decode cX11_wantParts 567 = .ok (.aload_n 0, 1) := by decide +kernel
theorem dX11_wantParts_568 : decode cX11_wantParts 568 = .ok (.iconst 1, 1) := by decide +kernel
theorem dX11_wantParts_569 : decode cX11_wantParts 569 = .ok (.lconst 0, 1) := by decide +kernel
theorem dX11_wantParts_570 : decode cX11_wantParts 570 = .ok (.ldc2_w 481, 3) := by decide +kernel
theorem dX11_wantParts_573 : decode cX11_wantParts 573 = .ok (.iconst 1, 1) := by decide +kernel
theorem dX11_wantParts_574 : decode cX11_wantParts 574 = .ok (.invokevirtual 457, 3) := by decide +kernel
theorem dX11_wantParts_577 : decode cX11_wantParts 577 = .ok (.ireturn, 1) := by decide +kernel
theorem dX11_wantParts_578 : decode cX11_wantParts 578 = .ok (.iconst 1, 1) := by decide +kernel
theorem dX11_wantParts_579 : decode cX11_wantParts 579 = .ok (.ireturn, 1) := by decide +kernel
theorem dX11_readStatement_0 : decode cX11_readStatement 0 = .ok (.aload_n 0, 1) := by decide +kernel
theorem dX11_readStatement_1 : decode cX11_readStatement 1 = .ok (.getfield 13, 3) := by decide +kernel
theorem dX11_readStatement_4 : decode cX11_readStatement 4 = .ok (.aload_n 0, 1) := by decide +kernel
theorem dX11_readStatement_5 : decode cX11_readStatement 5 = .ok (.getfield 378, 3) := by decide +kernel
theorem dX11_readStatement_8 : decode cX11_readStatement 8 = .ok (.iaload, 1) := by decide +kernel
theorem dX11_readStatement_9 : decode cX11_readStatement 9 = .ok (.iconst 1, 1) := by decide +kernel
theorem dX11_readStatement_10 : decode cX11_readStatement 10 = .ok (.if_icmp .ne 139, 3) := by decide +kernel
theorem dX11_readStatement_13 : decode cX11_readStatement 13 = .ok (.aload_n 0, 1) := by decide +kernel
theorem dX11_readStatement_14 : decode cX11_readStatement 14 = .ok (.getfield 13, 3) := by decide +kernel
theorem dX11_readStatement_17 : decode cX11_readStatement 17 = .ok (.aload_n 0, 1) := by decide +kernel
theorem dX11_readStatement_18 : decode cX11_readStatement 18 = .ok (.getfield 378, 3) := by decide +kernel
theorem dX11_readStatement_21 : decode cX11_readStatement 21 = .ok (.iconst 1, 1) := by decide +kernel
theorem dX11_readStatement_22 : decode cX11_readStatement 22 = .ok (.iadd, 1) := by decide +kernel
theorem dX11_readStatement_23 : decode cX11_readStatement 23 = .ok (.iaload, 1) := by decide +kernel
theorem dX11_readStatement_24 : decode cX11_readStatement 24 = .ok (.iconst 3, 1) := by decide +kernel
theorem dX11_readStatement_25 : decode cX11_readStatement 25 = .ok (.if_icmp .ne 124, 3) := by decide +kernel
theorem dX11_readStatement_28 : decode cX11_readStatement 28 = .ok (.aload_n 0, 1) := by decide +kernel
theorem dX11_readStatement_29 : decode cX11_readStatement 29 = .ok (.getfield 19, 3) := by decide +kernel
theorem dX11_readStatement_32 : decode cX11_readStatement 32 = .ok (.aload_n 0, 1) := by decide +kernel
theorem dX11_readStatement_33 : decode cX11_readStatement 33 = .ok (.getfield 378, 3) := by decide +kernel
theorem dX11_readStatement_36 : decode cX11_readStatement 36 = .ok (.iconst 1, 1) := by decide +kernel
theorem dX11_readStatement_37 : decode cX11_readStatement 37 = .ok (.iadd, 1) := by decide +kernel
theorem dX11_readStatement_38 : decode cX11_readStatement 38 = .ok (.laload, 1) := by decide +kernel
theorem dX11_readStatement_39 : decode cX11_readStatement 39 = .ok (.ldc2_w 483, 3) := by decide +kernel
theorem dX11_readStatement_42 : decode cX11_readStatement 42 = .ok (.lcmp, 1) := by decide +kernel
theorem dX11_readStatement_43 : decode cX11_readStatement 43 = .ok (.ifCond .ne 106, 3) := by decide +kernel
theorem dX11_readStatement_46 : decode cX11_readStatement 46 = .ok (.iconst 0, 1) := by decide +kernel
theorem dX11_readStatement_47 : decode cX11_readStatement 47 = .ok (.istore_n 1, 1) := by decide +kernel
theorem dX11_readStatement_48 : decode cX11_readStatement 48 = .ok (.iload_n 1, 1) := by decide +kernel
theorem dX11_readStatement_49 : decode cX11_readStatement 49 = .ok (.aload_n 0, 1) := by decide +kernel
theorem dX11_readStatement_50 : decode cX11_readStatement 50 = .ok (.getfield 485, 3) := by decide +kernel
theorem dX11_readStatement_53 : decode cX11_readStatement 53 = .ok (.if_icmp .ge 42, 3) := by decide +kernel
theorem dX11_readStatement_56 : decode cX11_readStatement 56 = .ok (.aload_n 0, 1) := by decide +kernel
theorem dX11_readStatement_57 : decode cX11_readStatement 57 = .ok (.getfield 23, 3) := by decide +kernel
theorem dX11_readStatement_60 : decode cX11_readStatement 60 = .ok (.iload_n 1, 1) := by decide +kernel
theorem dX11_readStatement_61 : decode cX11_readStatement 61 = .ok (.laload, 1) := by decide +kernel
theorem dX11_readStatement_62 : decode cX11_readStatement 62 = .ok (.aload_n 0, 1) := by decide +kernel
theorem dX11_readStatement_63 : decode cX11_readStatement 63 = .ok (.getfield 19, 3) := by decide +kernel
theorem dX11_readStatement_66 : decode cX11_readStatement 66 = .ok (.aload_n 0, 1) := by decide +kernel
theorem dX11_readStatement_67 : decode cX11_readStatement 67 = .ok (.getfield 378, 3) := by decide +kernel
theorem dX11_readStatement_70 : decode cX11_readStatement 70 = .ok (.laload, 1) := by decide +kernel
theorem dX11_readStatement_71 : decode cX11_readStatement 71 = .ok (.lcmp, 1) := by decide +kernel
theorem dX11_readStatement_72 : decode cX11_readStatement 72 = .ok (.ifCond .ne 17, 3) := by decide +kernel
theorem dX11_readStatement_75 : decode cX11_readStatement 75 = .ok (.aload_n 0, 1) := by decide +kernel
theorem dX11_readStatement_76 : decode cX11_readStatement 76 = .ok (.iconst 2, 1) := by decide +kernel
theorem dX11_readStatement_77 : decode cX11_readStatement 77 = .ok (.aload_n 0, 1) := by decide +kernel
theorem dX11_readStatement_78 : decode cX11_readStatement 78 = .ok (.getfield 16, 3) := by decide +kernel
theorem dX11_readStatement_81 : decode cX11_readStatement 81 = .ok (.aload_n 0, 1) := by decide +kernel
theorem dX11_readStatement_82 : decode cX11_readStatement 82 = .ok (.getfield 378, 3) := by decide +kernel
theorem dX11_readStatement_85 : decode cX11_readStatement 85 = .ok (.iaload, 1) := by decide +kernel
theorem dX11_readStatement_86 : decode cX11_readStatement 86 = .ok (.invokevirtual 381, 3) := by decide +kernel
theorem dX11_readStatement_89 : decode cX11_readStatement 89 = .ok (.iinc 1 1, 3) := by decide +kernel
theorem dX11_readStatement_92 : decode cX11_readStatement 92 = .ok (.goto (-44), 3) := by decide +kernel
theorem dX11_readStatement_95 : decode cX11_readStatement 95 = .ok (.aload_n 0, 1) := by decide +kernel
theorem dX11_readStatement_96 : decode cX11_readStatement 96 = .ok (.getfield 23, 3) := by decide +kernel
theorem dX11_readStatement_99 : decode cX11_readStatement 99 = .ok (.aload_n 0, 1) := by decide +kernel
theorem dX11_readStatement_100 : decode cX11_readStatement 100 = .ok (.getfield 485, 3) := by decide +kernel
theorem dX11_readStatement_103 : decode cX11_readStatement 103 = .ok (.aload_n 0, 1) := by decide +kernel
theorem dX11_readStatement_104 : decode cX11_readStatement 104 = .ok (.getfield 19, 3) := by decide +kernel
theorem dX11_readStatement_107 : decode cX11_readStatement 107 = .ok (.aload_n 0, 1) := by decide +kernel
theorem dX11_readStatement_108 : decode cX11_readStatement 108 = .ok (.getfield 378, 3) := by decide +kernel
theorem dX11_readStatement_111 : decode cX11_readStatement 111 = .ok (.laload, 1) := by decide +kernel
theorem dX11_readStatement_112 : decode cX11_readStatement 112 = .ok (.lastore, 1) := by decide +kernel
theorem dX11_readStatement_113 : decode cX11_readStatement 113 = .ok (.aload_n 0, 1) := by decide +kernel
theorem dX11_readStatement_114 : decode cX11_readStatement 114 = .ok (.getfield 26, 3) := by decide +kernel
theorem dX11_readStatement_117 : decode cX11_readStatement 117 = .ok (.aload_n 0, 1) := by decide +kernel
theorem dX11_readStatement_118 : decode cX11_readStatement 118 = .ok (.getfield 485, 3) := by decide +kernel
theorem dX11_readStatement_121 : decode cX11_readStatement 121 = .ok (.aload_n 0, 1) := by decide +kernel
theorem dX11_readStatement_122 : decode cX11_readStatement 122 = .ok (.getfield 488, 3) := by decide +kernel
theorem dX11_readStatement_125 : decode cX11_readStatement 125 = .ok (.iastore, 1) := by decide +kernel
theorem dX11_readStatement_126 : decode cX11_readStatement 126 = .ok (.aload_n 0, 1) := by decide +kernel
theorem dX11_readStatement_127 : decode cX11_readStatement 127 = .ok (.dup, 1) := by decide +kernel
theorem dX11_readStatement_128 : decode cX11_readStatement 128 = .ok (.getfield 485, 3) := by decide +kernel
theorem dX11_readStatement_131 : decode cX11_readStatement 131 = .ok (.iconst 1, 1) := by decide +kernel
theorem dX11_readStatement_132 : decode cX11_readStatement 132 = .ok (.iadd, 1) := by decide +kernel
theorem dX11_readStatement_133 : decode cX11_readStatement 133 = .ok (.putfield 485, 3) := by decide +kernel
theorem dX11_readStatement_136 : decode cX11_readStatement 136 = .ok (.aload_n 0, 1) := by decide +kernel
theorem dX11_readStatement_137 : decode cX11_readStatement 137 = .ok (.dup, 1) := by decide +kernel
theorem dX11_readStatement_138 : decode cX11_readStatement 138 = .ok (.getfield 378, 3) := by decide +kernel
theorem dX11_readStatement_141 : decode cX11_readStatement 141 = .ok (.iconst 2, 1) := by decide +kernel
theorem dX11_readStatement_142 : decode cX11_readStatement 142 = .ok (.iadd, 1) := by decide +kernel
theorem dX11_readStatement_143 : decode cX11_readStatement 143 = .ok (.putfield 378, 3) := by decide +kernel
theorem dX11_readStatement_146 : decode cX11_readStatement 146 = .ok (.goto (-146), 3) := by decide +kernel
theorem dX11_readStatement_149 : decode cX11_readStatement 149 = .ok (.aload_n 0, 1) := by decide +kernel
theorem dX11_readStatement_150 : decode cX11_readStatement 150 = .ok (.getfield 13, 3) := by decide +kernel
theorem dX11_readStatement_153 : decode cX11_readStatement 153 = .ok (.aload_n 0, 1) := by decide +kernel
theorem dX11_readStatement_154 : decode cX11_readStatement 154 = .ok (.getfield 378, 3) := by decide +kernel
theorem dX11_readStatement_157 : decode cX11_readStatement 157 = .ok (.iaload, 1) := by decide +kernel
theorem dX11_readStatement_158 : decode cX11_readStatement 158 = .ok (.iconst 1, 1) := by decide +kernel
theorem dX11_readStatement_159 : decode cX11_readStatement 159 = .ok (.if_icmp .ne 243, 3) := by decide +kernel
theorem dX11_readStatement_162 : decode cX11_readStatement 162 = .ok (.aload_n 0, 1) := by decide +kernel
theorem dX11_readStatement_163 : decode cX11_readStatement 163 = .ok (.getfield 378, 3) := by decide +kernel
theorem dX11_readStatement_166 : decode cX11_readStatement 166 = .ok (.istore_n 1, 1) := by decide +kernel
theorem dX11_readStatement_167 : decode cX11_readStatement 167 = .ok (.aload_n 0, 1) := by decide +kernel
theorem dX11_readStatement_168 : decode cX11_readStatement 168 = .ok (.aload_n 0, 1) := by decide +kernel
theorem dX11_readStatement_169 : decode cX11_readStatement 169 = .ok (.getfield 19, 3) := by decide +kernel
theorem dX11_readStatement_172 : decode cX11_readStatement 172 = .ok (.aload_n 0, 1) := by decide +kernel
theorem dX11_readStatement_173 : decode cX11_readStatement 173 = .ok (.getfield 378, 3) := by decide +kernel
theorem dX11_readStatement_176 : decode cX11_readStatement 176 = .ok (.laload, 1) := by decide +kernel
theorem dX11_readStatement_177 : decode cX11_readStatement 177 = .ok (.invokevirtual 491, 3) := by decide +kernel
theorem dX11_readStatement_180 : decode cX11_readStatement 180 = .ok (.istore_n 2, 1) := by decide +kernel
theorem dX11_readStatement_181 : decode cX11_readStatement 181 = .ok (.iload_n 2, 1) := by decide +kernel
theorem dX11_readStatement_182 : decode cX11_readStatement 182 = .ok (.iconst (-1), 1) := by decide +kernel
theorem dX11_readStatement_183 : decode cX11_readStatement 183 = .ok (.if_icmp .ne 33, 3) := by decide +kernel
theorem dX11_readStatement_186 : decode cX11_readStatement 186 = .ok (.aload_n 0, 1) := by decide +kernel
theorem dX11_readStatement_187 : decode cX11_readStatement 187 = .ok (.getfield 13, 3) := by decide +kernel
theorem dX11_readStatement_190 : decode cX11_readStatement 190 = .ok (.aload_n 0, 1) := by decide +kernel
theorem dX11_readStatement_191 : decode cX11_readStatement 191 = .ok (.getfield 378, 3) := by decide +kernel
theorem dX11_readStatement_194 : decode cX11_readStatement 194 = .ok (.iconst 1, 1) := by decide +kernel
theorem dX11_readStatement_195 : decode cX11_readStatement 195 = .ok (.iadd, 1) := by decide +kernel
theorem dX11_readStatement_196 : decode cX11_readStatement 196 = .ok (.iaload, 1) := by decide +kernel
theorem dX11_readStatement_197 : decode cX11_readStatement 197 = .ok (.iconst 4, 1) := by decide +kernel
theorem dX11_readStatement_198 : decode cX11_readStatement 198 = .ok (.if_icmp .ne 13, 3) := by decide +kernel
theorem dX11_readStatement_201 : decode cX11_readStatement 201 = .ok (.aload_n 0, 1) := by decide +kernel
theorem dX11_readStatement_202 : decode cX11_readStatement 202 = .ok (.dup, 1) := by decide +kernel
theorem dX11_readStatement_203 : decode cX11_readStatement 203 = .ok (.getfield 378, 3) := by decide +kernel
theorem dX11_readStatement_206 : decode cX11_readStatement 206 = .ok (.iconst 1, 1) := by decide +kernel
theorem dX11_readStatement_207 : decode cX11_readStatement 207 = .ok (.iadd, 1) := by decide +kernel
theorem dX11_readStatement_208 : decode cX11_readStatement 208 = .ok (.putfield 378, 3) := by decide +kernel
theorem dX11_readStatement_211 : decode cX11_readStatement 211 = .ok (.aload_n 0, 1) := by decide +kernel
theorem dX11_readStatement_212 : decode cX11_readStatement 212 = .ok (.invokevirtual 388, 3) := by decide +kernel
theorem dX11_readStatement_215 : decode cX11_readStatement 215 = .ok (.ireturn, 1) := by decide +kernel
theorem dX11_readStatement_216 : decode cX11_readStatement 216 = .ok (.aload_n 0, 1) := by decide +kernel
theorem dX11_readStatement_217 : decode cX11_readStatement 217 = .ok (.dup, 1) := by decide +kernel
theorem dX11_readStatement_218 : decode cX11_readStatement 218 = .ok (.getfield 378, 3) := by decide +kernel
theorem dX11_readStatement_221 : decode cX11_readStatement 221 = .ok (.iconst 1, 1) := by decide +kernel
theorem dX11_readStatement_222 : decode cX11_readStatement 222 = .ok (.iadd, 1) := by decide +kernel
theorem dX11_readStatement_223 : decode cX11_readStatement 223 = .ok (.putfield 378, 3) := by decide +kernel
theorem dX11_readStatement_226 : decode cX11_readStatement 226 = .ok (.aload_n 0, 1) := by decide +kernel
theorem dX11_readStatement_227 : decode cX11_readStatement 227 = .ok (.aload_n 0, 1) := by decide +kernel
theorem dX11_readStatement_228 : decode cX11_readStatement 228 = .ok (.getfield 297, 3) := by decide +kernel
theorem dX11_readStatement_231 : decode cX11_readStatement 231 = .ok (.iload_n 2, 1) := by decide +kernel
theorem dX11_readStatement_232 : decode cX11_readStatement 232 = .ok (.iaload, 1) := by decide +kernel
theorem dX11_readStatement_233 : decode cX11_readStatement 233 = .ok (.putfield 410, 3) := by decide +kernel
theorem dX11_readStatement_236 : decode cX11_readStatement 236 = .ok (.aload_n 0, 1) := by decide +kernel
theorem dX11_readStatement_237 : decode cX11_readStatement 237 = .ok (.iconst (-1), 1) := by decide +kernel
theorem dX11_readStatement_238 : decode cX11_readStatement 238 = .ok (.putfield 461, 3) := by decide +kernel
theorem dX11_readStatement_241 : decode cX11_readStatement 241 = .ok (.aload_n 0, 1) := by decide +kernel
theorem dX11_readStatement_242 : decode cX11_readStatement 242 = .ok (.iconst 0, 1) := by decide +kernel
theorem dX11_readStatement_243 : decode cX11_readStatement 243 = .ok (.putfield 413, 3) := by decide +kernel
theorem dX11_readStatement_246 : decode cX11_readStatement 246 = .ok (.aload_n 0, 1) := by decide +kernel
theorem dX11_readStatement_247 : decode cX11_readStatement 247 = .ok (.aload_n 0, 1) := by decide +kernel
theorem dX11_readStatement_248 : decode cX11_readStatement 248 = .ok (.getfield 279, 3) := by decide +kernel
theorem dX11_readStatement_251 : decode cX11_readStatement 251 = .ok (.iload_n 2, 1) := by decide +kernel
theorem dX11_readStatement_252 : decode cX11_readStatement 252 = .ok (.iaload, 1) := by decide +kernel
theorem dX11_readStatement_253 : decode cX11_readStatement 253 = .ok (.iload_n 2, 1) := by decide +kernel
theorem dX11_readStatement_254 : decode cX11_readStatement 254 = .ok (.invokevirtual 495, 3) := by decide +kernel
theorem dX11_readStatement_257 : decode cX11_readStatement 257 = .ok (.ifCond .ne 5, 3) := by decide +kernel
theorem dX11_readStatement_260 : decode cX11_readStatement 260 = .ok (.iconst 0, 1) := by decide +kernel
theorem dX11_readStatement_261 : decode cX11_readStatement 261 = .ok (.ireturn, 1) := by decide +kernel
theorem dX11_readStatement_262 : decode cX11_readStatement 262 = .ok (.aload_n 0, 1) := by decide +kernel
theorem dX11_readStatement_263 : decode cX11_readStatement 263 = .ok (.getfield 279, 3) := by decide +kernel
theorem dX11_readStatement_266 : decode cX11_readStatement 266 = .ok (.iload_n 2, 1) := by decide +kernel
theorem dX11_readStatement_267 : decode cX11_readStatement 267 = .ok (.iaload, 1) := by decide +kernel
theorem dX11_readStatement_268 : decode cX11_readStatement 268 = .ok (.bipush 15, 2) := by decide +kernel
theorem dX11_readStatement_270 : decode cX11_readStatement 270 = .ok (.if_icmp .ne 54, 3) := by decide +kernel
theorem dX11_readStatement_273 : decode cX11_readStatement 273 = .ok (.aload_n 0, 1) := by decide +kernel
theorem dX11_readStatement_274 : decode cX11_readStatement 274 = .ok (.aload_n 0, 1) := by decide +kernel
theorem dX11_readStatement_275 : decode cX11_readStatement 275 = .ok (.getfield 424, 3) := by decide +kernel
theorem dX11_readStatement_278 : decode cX11_readStatement 278 = .ok (.lconst 0, 1) := by decide +kernel
theorem dX11_readStatement_279 : decode cX11_readStatement 279 = .ok (.lcmp, 1) := by decide +kernel
theorem dX11_readStatement_280 : decode cX11_readStatement 280 = .ok (.ifCond .lt 35, 3) := by decide +kernel
theorem dX11_readStatement_283 : decode cX11_readStatement 283 = .ok (.aload_n 0, 1) := by decide +kernel
theorem dX11_readStatement_284 : decode cX11_readStatement 284 = .ok (.getfield 424, 3) := by decide +kernel
theorem dX11_readStatement_287 : decode cX11_readStatement 287 = .ok (.ldc2_w 479, 3) := by decide +kernel
theorem dX11_readStatement_290 : decode cX11_readStatement 290 = .ok (.lcmp, 1) := by decide +kernel
theorem dX11_readStatement_291 : decode cX11_readStatement 291 = .ok (.ifCond .gt 24, 3) := by decide +kernel
theorem dX11_readStatement_294 : decode cX11_readStatement 294 = .ok (.aload_n 0, 1) := by decide +kernel
theorem dX11_readStatement_295 : decode cX11_readStatement 295 = .ok (.getfield 424, 3) := by decide +kernel
theorem dX11_readStatement_298 : decode cX11_readStatement 298 = .ok (.ldc2_w 408, 3) := by decide +kernel
theorem dX11_readStatement_301 : decode cX11_readStatement 301 = .ok (.lrem, 1) := by decide +kernel
theorem dX11_readStatement_302 : decode cX11_readStatement 302 = .ok (.lconst 0, 1) := by decide +kernel
theorem dX11_readStatement_303 : decode cX11_readStatement 303 = .ok (.lcmp, 1) := by decide +kernel
theorem dX11_readStatement_304 : decode cX11_readStatement 304 = .ok (.ifCond .ne 11, 3) := by decide +kernel
theorem dX11_readStatement_307 : decode cX11_readStatement 307 = .ok (.aload_n 0, 1) := by decide +kernel
theorem dX11_readStatement_308 : decode cX11_readStatement 308 = .ok (.getfield 424, 3) := by decide +kernel
theorem dX11_readStatement_311 : decode cX11_readStatement 311 = .ok (.l2i, 1) := by decide +kernel
theorem dX11_readStatement_312 : decode cX11_readStatement 312 = .ok (.goto 6, 3) := by decide +kernel
theorem dX11_readStatement_315 : decode cX11_readStatement 315 = .ok (.sipush 8192, 3) := by decide +kernel
theorem dX11_readStatement_318 : decode cX11_readStatement 318 = .ok (.putfield 488, 3) := by decide +kernel
theorem dX11_readStatement_321 : decode cX11_readStatement 321 = .ok (.goto 81, 3) := by decide +kernel
theorem dX11_readStatement_324 : decode cX11_readStatement 324 = .ok (.aload_n 0, 1) := by decide +kernel
theorem dX11_readStatement_325 : decode cX11_readStatement 325 = .ok (.getfield 279, 3) := by decide +kernel
theorem dX11_readStatement_328 : decode cX11_readStatement 328 = .ok (.iload_n 2, 1) := by decide +kernel
theorem dX11_readStatement_329 : decode cX11_readStatement 329 = .ok (.iaload, 1) := by decide +kernel
theorem dX11_readStatement_330 : decode cX11_readStatement 330 = .ok (.bipush 16, 2) := by decide +kernel
theorem dX11_readStatement_332 : decode cX11_readStatement 332 = .ok (.if_icmp .ne 31, 3) := by decide +kernel
theorem dX11_readStatement_335 : decode cX11_readStatement 335 = .ok (.aload_n 0, 1) := by decide +kernel
theorem dX11_readStatement_336 : decode cX11_readStatement 336 = .ok (.getfield 424, 3) := by decide +kernel
theorem dX11_readStatement_339 : decode cX11_readStatement 339 = .ok (.ldc2_w 363, 3) := by decide +kernel
theorem dX11_readStatement_342 : decode cX11_readStatement 342 = .ok (.lcmp, 1) := by decide +kernel
theorem dX11_readStatement_343 : decode cX11_readStatement 343 = .ok (.ifCond .ge 20, 3) := by decide +kernel
theorem dX11_readStatement_346 : decode cX11_readStatement 346 = .ok (.aload_n 0, 1) := by decide +kernel
theorem dX11_readStatement_347 : decode cX11_readStatement 347 = .ok (.getfield 44, 3) := by decide +kernel
theorem dX11_readStatement_350 : decode cX11_readStatement 350 = .ok (.aload_n 0, 1) := by decide +kernel
theorem dX11_readStatement_351 : decode cX11_readStatement 351 = .ok (.getfield 424, 3) := by decide +kernel
theorem dX11_readStatement_354 : decode cX11_readStatement 354 = .ok (.l2i, 1) := by decide +kernel
theorem dX11_readStatement_355 : decode cX11_readStatement 355 = .ok (.aload_n 0, 1) := by decide +kernel
theorem dX11_readStatement_356 : decode cX11_readStatement 356 = .ok (.getfield 488, 3) := by decide +kernel
theorem dX11_readStatement_359 : decode cX11_readStatement 359 = .ok (.iastore, 1) := by decide +kernel
theorem dX11_readStatement_360 : decode cX11_readStatement 360 = .ok (.goto 42, 3) := by decide +kernel
theorem dX11_readStatement_363 : decode cX11_readStatement 363 = .ok (.aload_n 0, 1) := by decide +kernel
theorem dX11_readStatement_364 : decode cX11_readStatement 364 = .ok (.getfield 279, 3) := by decide +kernel
theorem dX11_readStatement_367 : decode cX11_readStatement 367 = .ok (.iload_n 2, 1) := by decide +kernel
theorem dX11_readStatement_368 : decode cX11_readStatement 368 = .ok (.iaload, 1) := by decide +kernel
theorem dX11_readStatement_369 : decode cX11_readStatement 369 = .ok (.bipush 13, 2) := by decide +kernel
theorem dX11_readStatement_371 : decode cX11_readStatement 371 = .ok (.if_icmp .ne 11, 3) := by decide +kernel
theorem dX11_readStatement_374 : decode cX11_readStatement 374 = .ok (.aload_n 0, 1) := by decide +kernel
theorem dX11_readStatement_375 : decode cX11_readStatement 375 = .ok (.iload_n 1, 1) := by decide +kernel
theorem dX11_readStatement_376 : decode cX11_readStatement 376 = .ok (.invokevirtual 499, 3) := by decide +kernel
theorem dX11_readStatement_379 : decode cX11_readStatement 379 = .ok (.goto 23, 3) := by decide +kernel
theorem dX11_readStatement_382 : decode cX11_readStatement 382 = .ok (.aload_n 0, 1) := by decide +kernel
theorem dX11_readStatement_383 : decode cX11_readStatement 383 = .ok (.getfield 279, 3) := by decide +kernel
theorem dX11_readStatement_386 : decode cX11_readStatement 386 = .ok (.iload_n 2, 1) := by decide +kernel
theorem dX11_readStatement_387 : decode cX11_readStatement 387 = .ok (.iaload, 1) := by decide +kernel
theorem dX11_readStatement_388 : decode cX11_readStatement 388 = .ok (.bipush 16, 2) := by decide +kernel
theorem dX11_readStatement_390 : decode cX11_readStatement 390 = .ok (.if_icmp .eq 12, 3) := by decide +kernel
theorem dX11_readStatement_393 : decode cX11_readStatement 393 = .ok (.aload_n 0, 1) := by decide +kernel
theorem dX11_readStatement_394 : decode cX11_readStatement 394 = .ok (.iload_n 1, 1) := by decide +kernel
theorem dX11_readStatement_395 : decode cX11_readStatement 395 = .ok (.aload_n 0, 1) := by decide +kernel
theorem dX11_readStatement_396 : decode cX11_readStatement 396 = .ok (.getfield 461, 3) := by decide +kernel
theorem dX11_readStatement_399 : decode cX11_readStatement 399 = .ok (.invokevirtual 503, 3) := by decide +kernel
theorem dX11_readStatement_402 : decode cX11_readStatement 402 = .ok (.aload_n 0, 1) := by decide +kernel
theorem dX11_readStatement_403 : decode cX11_readStatement 403 = .ok (.bipush 59, 2) := by decide +kernel
theorem dX11_readStatement_405 : decode cX11_readStatement 405 = .ok (.invokevirtual 464, 3) := by decide +kernel
theorem dX11_readStatement_408 : decode cX11_readStatement 408 = .ok (.ireturn, 1) := by decide +kernel
theorem dX11_lay_0 : decode cX11_lay 0 = .ok (.aload_n 0, 1) := by decide +kernel
theorem dX11_lay_1 : decode cX11_lay 1 = .ok (.getfield 488, 3) := by decide +kernel
theorem dX11_lay_4 : decode cX11_lay 4 = .ok (.sipush 8191, 3) := by decide +kernel
theorem dX11_lay_7 : decode cX11_lay 7 = .ok (.if_icmp .le 14, 3) := by decide +kernel
theorem dX11_lay_10 : decode cX11_lay 10 = .ok (.aload_n 0, 1) := by decide +kernel
theorem dX11_lay_11 : decode cX11_lay 11 = .ok (.iconst 3, 1) := by decide +kernel
theorem dX11_lay_12 : decode cX11_lay 12 = .ok (.aload_n 0, 1) := by decide +kernel
theorem dX11_lay_13 : decode cX11_lay 13 = .ok (.getfield 16, 3) := by decide +kernel
theorem dX11_lay_16 : decode cX11_lay 16 = .ok (.iload_n 1, 1) := by decide +kernel
theorem dX11_lay_17 : decode cX11_lay 17 = .ok (.iaload, 1) := by decide +kernel
theorem dX11_lay_18 : decode cX11_lay 18 = .ok (.invokevirtual 381, 3) := by decide +kernel
theorem dX11_lay_21 : decode cX11_lay 21 = .ok (.aload_n 0, 1) := by decide +kernel
theorem dX11_lay_22 : decode cX11_lay 22 = .ok (.getfield 29, 3) := by decide +kernel
theorem dX11_lay_25 : decode cX11_lay 25 = .ok (.aload_n 0, 1) := by decide +kernel
theorem dX11_lay_26 : decode cX11_lay 26 = .ok (.getfield 506, 3) := by decide +kernel
theorem dX11_lay_29 : decode cX11_lay 29 = .ok (.aload_n 0, 1) := by decide +kernel
theorem dX11_lay_30 : decode cX11_lay 30 = .ok (.getfield 488, 3) := by decide +kernel
theorem dX11_lay_33 : decode cX11_lay 33 = .ok (.iastore, 1) := by decide +kernel
theorem dX11_lay_34 : decode cX11_lay 34 = .ok (.aload_n 0, 1) := by decide +kernel
theorem dX11_lay_35 : decode cX11_lay 35 = .ok (.getfield 32, 3) := by decide +kernel
theorem dX11_lay_38 : decode cX11_lay 38 = .ok (.aload_n 0, 1) := by decide +kernel
theorem dX11_lay_39 : decode cX11_lay 39 = .ok (.getfield 506, 3) := by decide +kernel
theorem dX11_lay_42 : decode cX11_lay 42 = .ok (.aload_n 0, 1) := by decide +kernel
theorem dX11_lay_43 : decode cX11_lay 43 = .ok (.getfield 410, 3) := by decide +kernel
theorem dX11_lay_46 : decode cX11_lay 46 = .ok (.iload_n 2, 1) := by decide +kernel
theorem dX11_lay_47 : decode cX11_lay 47 = .ok (.iconst (-1), 1) := by decide +kernel
theorem dX11_lay_48 : decode cX11_lay 48 = .ok (.if_icmp .eq 10, 3) := by decide +kernel
theorem dX11_lay_51 : decode cX11_lay 51 = .ok (.aload_n 0, 1) := by decide +kernel
theorem dX11_lay_52 : decode cX11_lay 52 = .ok (.getfield 413, 3) := by decide +kernel
theorem dX11_lay_55 : decode cX11_lay 55 = .ok (.ifCond .eq 7, 3) := by decide +kernel
theorem dX11_lay_58 : decode cX11_lay 58 = .ok (.iconst 0, 1) := by decide +kernel
theorem dX11_lay_59 : decode cX11_lay 59 = .ok (.goto 11, 3) := by decide +kernel
theorem dX11_lay_62 : decode cX11_lay 62 = .ok (.iload_n 2, 1) := by decide +kernel
theorem dX11_lay_63 : decode cX11_lay 63 = .ok (.aload_n 0, 1) := by decide +kernel
theorem dX11_lay_64 : decode cX11_lay 64 = .ok (.getfield 424, 3) := by decide +kernel
theorem dX11_lay_67 : decode cX11_lay 67 = .ok (.invokestatic 509, 3) := by decide +kernel
theorem dX11_lay_70 : decode cX11_lay 70 = .ok (.ior, 1) := by decide +kernel
theorem dX11_lay_71 : decode cX11_lay 71 = .ok (.iastore, 1) := by decide +kernel
theorem dX11_lay_72 : decode cX11_lay 72 = .ok (.aload_n 0, 1) := by decide +kernel
theorem dX11_lay_73 : decode cX11_lay 73 = .ok (.getfield 35, 3) := by decide +kernel
theorem dX11_lay_76 : decode cX11_lay 76 = .ok (.aload_n 0, 1) := by decide +kernel
theorem dX11_lay_77 : decode cX11_lay 77 = .ok (.getfield 506, 3) := by decide +kernel
theorem dX11_lay_80 : decode cX11_lay 80 = .ok (.aload_n 0, 1) := by decide +kernel
theorem dX11_lay_81 : decode cX11_lay 81 = .ok (.getfield 413, 3) := by decide +kernel
theorem dX11_lay_84 : decode cX11_lay 84 = .ok (.ifCond .eq 7, 3) := by decide +kernel
theorem dX11_lay_87 : decode cX11_lay 87 = .ok (.iload_n 2, 1) := by decide +kernel
theorem dX11_lay_88 : decode cX11_lay 88 = .ok (.goto 4, 3) := by decide +kernel
theorem dX11_lay_91 : decode cX11_lay 91 = .ok (.iconst (-1), 1) := by decide +kernel
theorem dX11_lay_92 : decode cX11_lay 92 = .ok (.iastore, 1) := by decide +kernel
theorem dX11_lay_93 : decode cX11_lay 93 = .ok (.aload_n 0, 1) := by decide +kernel
theorem dX11_lay_94 : decode cX11_lay 94 = .ok (.getfield 38, 3) := by decide +kernel
theorem dX11_lay_97 : decode cX11_lay 97 = .ok (.aload_n 0, 1) := by decide +kernel
theorem dX11_lay_98 : decode cX11_lay 98 = .ok (.getfield 506, 3) := by decide +kernel
theorem dX11_lay_101 : decode cX11_lay 101 = .ok (.aload_n 0, 1) := by decide +kernel
theorem dX11_lay_102 : decode cX11_lay 102 = .ok (.getfield 417, 3) := by decide +kernel
theorem dX11_lay_105 : decode cX11_lay 105 = .ok (.lastore, 1) := by decide +kernel
theorem dX11_lay_106 : decode cX11_lay 106 = .ok (.aload_n 0, 1) := by decide +kernel
theorem dX11_lay_107 : decode cX11_lay 107 = .ok (.getfield 41, 3) := by decide +kernel
theorem dX11_lay_110 : decode cX11_lay 110 = .ok (.aload_n 0, 1) := by decide +kernel
theorem dX11_lay_111 : decode cX11_lay 111 = .ok (.getfield 506, 3) := by decide +kernel
theorem dX11_lay_114 : decode cX11_lay 114 = .ok (.aload_n 0, 1) := by decide +kernel
theorem dX11_lay_115 : decode cX11_lay 115 = .ok (.getfield 421, 3) := by decide +kernel
theorem dX11_lay_118 : decode cX11_lay 118 = .ok (.iastore, 1) := by decide +kernel
theorem dX11_lay_119 : decode cX11_lay 119 = .ok (.aload_n 0, 1) := by decide +kernel
theorem dX11_lay_120 : decode cX11_lay 120 = .ok (.dup, 1) := by decide +kernel
theorem dX11_lay_121 : decode cX11_lay 121 = .ok (.getfield 506, 3) := by decide +kernel
theorem dX11_lay_124 : decode cX11_lay 124 = .ok (.iconst 1, 1) := by decide +kernel
theorem dX11_lay_125 : decode cX11_lay 125 = .ok (.iadd, 1) := by decide +kernel
theorem dX11_lay_126 : decode cX11_lay 126 = .ok (.putfield 506, 3) := by decide +kernel
theorem dX11_lay_129 : decode cX11_lay 129 = .ok (.aload_n 0, 1) := by decide +kernel
theorem dX11_lay_130 : decode cX11_lay 130 = .ok (.dup, 1) := by decide +kernel
theorem dX11_lay_131 : decode cX11_lay 131 = .ok (.getfield 488, 3) := by decide +kernel
theorem dX11_lay_134 : decode cX11_lay 134 = .ok (.iconst 4, 1) := by decide +kernel
theorem dX11_lay_135 : decode cX11_lay 135 = .ok (.iadd, 1) := by decide +kernel
theorem dX11_lay_136 : decode cX11_lay 136 = .ok (.putfield 488, 3) := by decide +kernel
theorem dX11_lay_139 : decode cX11_lay 139 = .ok (.return_, 1) := by decide +kernel
theorem dX11_layLi_0 : decode cX11_layLi 0 = .ok (.aload_n 0, 1) := by decide +kernel
theorem dX11_layLi_1 : decode cX11_layLi 1 = .ok (.getfield 410, 3) := by decide +kernel
theorem dX11_layLi_4 : decode cX11_layLi 4 = .ok (.istore_n 2, 1) := by decide +kernel
theorem dX11_layLi_5 : decode cX11_layLi 5 = .ok (.aload_n 0, 1) := by decide +kernel
theorem dX11_layLi_6 : decode cX11_layLi 6 = .ok (.getfield 413, 3) := by decide +kernel
theorem dX11_layLi_9 : decode cX11_layLi 9 = .ok (.ifCond .ne 40, 3) := by decide +kernel
theorem dX11_layLi_12 : decode cX11_layLi 12 = .ok (.aload_n 0, 1) := by decide +kernel
theorem dX11_layLi_13 : decode cX11_layLi 13 = .ok (.getfield 424, 3) := by decide +kernel
theorem dX11_layLi_16 : decode cX11_layLi 16 = .ok (.ldc2_w 433, 3) := by decide +kernel
theorem dX11_layLi_19 : decode cX11_layLi 19 = .ok (.lcmp, 1) := by decide +kernel
theorem dX11_layLi_20 : decode cX11_layLi 20 = .ok (.ifCond .lt 29, 3) := by decide +kernel
theorem dX11_layLi_23 : decode cX11_layLi 23 = .ok (.aload_n 0, 1) := by decide +kernel
theorem dX11_layLi_24 : decode cX11_layLi 24 = .ok (.getfield 424, 3) := by decide +kernel
theorem dX11_layLi_27 : decode cX11_layLi 27 = .ok (.ldc2_w 445, 3) := by decide +kernel
theorem dX11_layLi_30 : decode cX11_layLi 30 = .ok (.lcmp, 1) := by decide +kernel
theorem dX11_layLi_31 : decode cX11_layLi 31 = .ok (.ifCond .gt 18, 3) := by decide +kernel
theorem dX11_layLi_34 : decode cX11_layLi 34 = .ok (.aload_n 0, 1) := by decide +kernel
theorem dX11_layLi_35 : decode cX11_layLi 35 = .ok (.bipush 19, 2) := by decide +kernel
theorem dX11_layLi_37 : decode cX11_layLi 37 = .ok (.iload_n 2, 1) := by decide +kernel
theorem dX11_layLi_38 : decode cX11_layLi 38 = .ok (.ior, 1) := by decide +kernel
theorem dX11_layLi_39 : decode cX11_layLi 39 = .ok (.putfield 410, 3) := by decide +kernel
theorem dX11_layLi_42 : decode cX11_layLi 42 = .ok (.aload_n 0, 1) := by decide +kernel
theorem dX11_layLi_43 : decode cX11_layLi 43 = .ok (.iload_n 1, 1) := by decide +kernel
theorem dX11_layLi_44 : decode cX11_layLi 44 = .ok (.iconst 0, 1) := by decide +kernel
theorem dX11_layLi_45 : decode cX11_layLi 45 = .ok (.invokevirtual 503, 3) := by decide +kernel
theorem dX11_layLi_48 : decode cX11_layLi 48 = .ok (.return_, 1) := by decide +kernel
theorem dX11_layLi_49 : decode cX11_layLi 49 = .ok (.aload_n 0, 1) := by decide +kernel
theorem dX11_layLi_50 : decode cX11_layLi 50 = .ok (.bipush 55, 2) := by decide +kernel
theorem dX11_layLi_52 : decode cX11_layLi 52 = .ok (.iload_n 2, 1) := by decide +kernel
theorem dX11_layLi_53 : decode cX11_layLi 53 = .ok (.ior, 1) := by decide +kernel
theorem dX11_layLi_54 : decode cX11_layLi 54 = .ok (.putfield 410, 3) := by decide +kernel
theorem dX11_layLi_57 : decode cX11_layLi 57 = .ok (.aload_n 0, 1) := by decide +kernel
theorem dX11_layLi_58 : decode cX11_layLi 58 = .ok (.iload_n 1, 1) := by decide +kernel
theorem dX11_layLi_59 : decode cX11_layLi 59 = .ok (.bipush 7, 2) := by decide +kernel
theorem dX11_layLi_61 : decode cX11_layLi 61 = .ok (.invokevirtual 503, 3) := by decide +kernel
theorem dX11_layLi_64 : decode cX11_layLi 64 = .ok (.aload_n 0, 1) := by decide +kernel
theorem dX11_layLi_65 : decode cX11_layLi 65 = .ok (.bipush 19, 2) := by decide +kernel
theorem dX11_layLi_67 : decode cX11_layLi 67 = .ok (.iload_n 2, 1) := by decide +kernel
theorem dX11_layLi_68 : decode cX11_layLi 68 = .ok (.ior, 1) := by decide +kernel
theorem dX11_layLi_69 : decode cX11_layLi 69 = .ok (.iload_n 2, 1) := by decide +kernel
theorem dX11_layLi_70 : decode cX11_layLi 70 = .ok (.bipush 8, 2) := by decide +kernel
theorem dX11_layLi_72 : decode cX11_layLi 72 = .ok (.ishl, 1) := by decide +kernel
theorem dX11_layLi_73 : decode cX11_layLi 73 = .ok (.ior, 1) := by decide +kernel
theorem dX11_layLi_74 : decode cX11_layLi 74 = .ok (.putfield 410, 3) := by decide +kernel
theorem dX11_layLi_77 : decode cX11_layLi 77 = .ok (.aload_n 0, 1) := by decide +kernel
theorem dX11_layLi_78 : decode cX11_layLi 78 = .ok (.iload_n 1, 1) := by decide +kernel
theorem dX11_layLi_79 : decode cX11_layLi 79 = .ok (.bipush 8, 2) := by decide +kernel
theorem dX11_layLi_81 : decode cX11_layLi 81 = .ok (.invokevirtual 503, 3) := by decide +kernel
theorem dX11_layLi_84 : decode cX11_layLi 84 = .ok (.return_, 1) := by decide +kernel
theorem dX11_readAll_0 : decode cX11_readAll 0 = .ok (.aload_n 0, 1) := by decide +kernel
theorem dX11_readAll_1 : decode cX11_readAll 1 = .ok (.invokevirtual 513, 3) := by decide +kernel
theorem dX11_readAll_4 : decode cX11_readAll 4 = .ok (.aload_n 0, 1) := by decide +kernel
theorem dX11_readAll_5 : decode cX11_readAll 5 = .ok (.iconst 0, 1) := by decide +kernel
theorem dX11_readAll_6 : decode cX11_readAll 6 = .ok (.putfield 378, 3) := by decide +kernel
theorem dX11_readAll_9 : decode cX11_readAll 9 = .ok (.aload_n 0, 1) := by decide +kernel
theorem dX11_readAll_10 : decode cX11_readAll 10 = .ok (.iconst 0, 1) := by decide +kernel
theorem dX11_readAll_11 : decode cX11_readAll 11 = .ok (.putfield 485, 3) := by decide +kernel
theorem dX11_readAll_14 : decode cX11_readAll 14 = .ok (.aload_n 0, 1) := by decide +kernel
theorem dX11_readAll_15 : decode cX11_readAll 15 = .ok (.iconst 0, 1) := by decide +kernel
theorem dX11_readAll_16 : decode cX11_readAll 16 = .ok (.putfield 506, 3) := by decide +kernel
theorem dX11_readAll_19 : decode cX11_readAll 19 = .ok (.aload_n 0, 1) := by decide +kernel
theorem dX11_readAll_20 : decode cX11_readAll 20 = .ok (.iconst 0, 1) := by decide +kernel
theorem dX11_readAll_21 : decode cX11_readAll 21 = .ok (.putfield 488, 3) := by decide +kernel
theorem dX11_readAll_24 : decode cX11_readAll 24 = .ok (.iconst 0, 1) := by decide +kernel
theorem dX11_readAll_25 : decode cX11_readAll 25 = .ok (.istore_n 1, 1) := by decide +kernel
theorem dX11_readAll_26 : decode cX11_readAll 26 = .ok (.iload_n 1, 1) := by decide +kernel
theorem dX11_readAll_27 : decode cX11_readAll 27 = .ok (.bipush 16, 2) := by decide +kernel
theorem dX11_readAll_29 : decode cX11_readAll 29 = .ok (.if_icmp .ge 16, 3) := by decide +kernel
theorem dX11_readAll_32 : decode cX11_readAll 32 = .ok (.aload_n 0, 1) := by decide +kernel
theorem dX11_readAll_33 : decode cX11_readAll 33 = .ok (.getfield 44, 3) := by decide +kernel
theorem dX11_readAll_36 : decode cX11_readAll 36 = .ok (.iload_n 1, 1) := by decide +kernel
theorem dX11_readAll_37 : decode cX11_readAll 37 = .ok (.iconst 0, 1) := by decide +kernel
theorem dX11_readAll_38 : decode cX11_readAll 38 = .ok (.iastore, 1) := by decide +kernel
theorem dX11_readAll_39 : decode cX11_readAll 39 = .ok (.iinc 1 1, 3) := by decide +kernel
theorem dX11_readAll_42 : decode cX11_readAll 42 = .ok (.goto (-16), 3) := by decide +kernel
theorem dX11_readAll_45 : decode cX11_readAll 45 = .ok (.iconst 1, 1) := by decide +kernel
theorem dX11_readAll_46 : decode cX11_readAll 46 = .ok (.istore_n 1, 1) := by decide +kernel
theorem dX11_readAll_47 : decode cX11_readAll 47 = .ok (.iload_n 1, 1) := by decide +kernel
theorem dX11_readAll_48 : decode cX11_readAll 48 = .ok (.ifCond .eq 23, 3) := by decide +kernel
theorem dX11_readAll_51 : decode cX11_readAll 51 = .ok (.aload_n 0, 1) := by decide +kernel
theorem dX11_readAll_52 : decode cX11_readAll 52 = .ok (.getfield 13, 3) := by decide +kernel
theorem dX11_readAll_55 : decode cX11_readAll 55 = .ok (.aload_n 0, 1) := by decide +kernel
theorem dX11_readAll_56 : decode cX11_readAll 56 = .ok (.getfield 378, 3) := by decide +kernel
theorem dX11_readAll_59 : decode cX11_readAll 59 = .ok (.iaload, 1) := by decide +kernel
theorem dX11_readAll_60 : decode cX11_readAll 60 = .ok (.ifCond .eq 11, 3) := by decide +kernel
theorem dX11_readAll_63 : decode cX11_readAll 63 = .ok (.aload_n 0, 1) := by decide +kernel
theorem dX11_readAll_64 : decode cX11_readAll 64 = .ok (.invokevirtual 516, 3) := by decide +kernel
theorem dX11_readAll_67 : decode cX11_readAll 67 = .ok (.istore_n 1, 1) := by decide +kernel
theorem dX11_readAll_68 : decode cX11_readAll 68 = .ok (.goto (-21), 3) := by decide +kernel
theorem dX11_readAll_71 : decode cX11_readAll 71 = .ok (.iconst 0, 1) := by decide +kernel
theorem dX11_readAll_72 : decode cX11_readAll 72 = .ok (.istore_n 2, 1) := by decide +kernel
theorem dX11_readAll_73 : decode cX11_readAll 73 = .ok (.iload_n 2, 1) := by decide +kernel
theorem dX11_readAll_74 : decode cX11_readAll 74 = .ok (.aload_n 0, 1) := by decide +kernel
theorem dX11_readAll_75 : decode cX11_readAll 75 = .ok (.getfield 506, 3) := by decide +kernel
theorem dX11_readAll_78 : decode cX11_readAll 78 = .ok (.if_icmp .ge 28, 3) := by decide +kernel
theorem dX11_readAll_81 : decode cX11_readAll 81 = .ok (.iload_n 1, 1) := by decide +kernel
theorem dX11_readAll_82 : decode cX11_readAll 82 = .ok (.ifCond .eq 24, 3) := by decide +kernel
theorem dX11_readAll_85 : decode cX11_readAll 85 = .ok (.aload_n 0, 1) := by decide +kernel
theorem dX11_readAll_86 : decode cX11_readAll 86 = .ok (.getfield 35, 3) := by decide +kernel
theorem dX11_readAll_89 : decode cX11_readAll 89 = .ok (.iload_n 2, 1) := by decide +kernel
theorem dX11_readAll_90 : decode cX11_readAll 90 = .ok (.iaload, 1) := by decide +kernel
theorem dX11_readAll_91 : decode cX11_readAll 91 = .ok (.iconst (-1), 1) := by decide +kernel
theorem dX11_readAll_92 : decode cX11_readAll 92 = .ok (.if_icmp .eq 8, 3) := by decide +kernel
theorem dX11_readAll_95 : decode cX11_readAll 95 = .ok (.aload_n 0, 1) := by decide +kernel
theorem dX11_readAll_96 : decode cX11_readAll 96 = .ok (.iload_n 2, 1) := by decide +kernel
theorem dX11_readAll_97 : decode cX11_readAll 97 = .ok (.invokevirtual 519, 3) := by decide +kernel
theorem dX11_readAll_100 : decode cX11_readAll 100 = .ok (.iinc 2 1, 3) := by decide +kernel
theorem dX11_readAll_103 : decode cX11_readAll 103 = .ok (.goto (-30), 3) := by decide +kernel
theorem dX11_readAll_106 : decode cX11_readAll 106 = .ok (.return_, 1) := by decide +kernel
theorem dX11_resolve_0 : decode cX11_resolve 0 = .ok (.iconst 0, 1) := by decide +kernel
theorem dX11_resolve_1 : decode cX11_resolve 1 = .ok (.istore_n 2, 1) := by decide +kernel
theorem dX11_resolve_2 : decode cX11_resolve 2 = .ok (.iload_n 2, 1) := by decide +kernel
theorem dX11_resolve_3 : decode cX11_resolve 3 = .ok (.aload_n 0, 1) := by decide +kernel
theorem dX11_resolve_4 : decode cX11_resolve 4 = .ok (.getfield 485, 3) := by decide +kernel
theorem dX11_resolve_7 : decode cX11_resolve 7 = .ok (.if_icmp .ge 25, 3) := by decide +kernel
theorem dX11_resolve_10 : decode cX11_resolve 10 = .ok (.aload_n 0, 1) := by decide +kernel
theorem dX11_resolve_11 : decode cX11_resolve 11 = .ok (.getfield 23, 3) := by decide +kernel
theorem dX11_resolve_14 : decode cX11_resolve 14 = .ok (.iload_n 2, 1) := by decide +kernel
theorem dX11_resolve_15 : decode cX11_resolve 15 = .ok (.laload, 1) := by decide +kernel
theorem dX11_resolve_16 : decode cX11_resolve 16 = .ok (.aload_n 0, 1) := by decide +kernel
theorem dX11_resolve_17 : decode cX11_resolve 17 = .ok (.getfield 38, 3) := by decide +kernel
theorem dX11_resolve_20 : decode cX11_resolve 20 = .ok (.iload_n 1, 1) := by decide +kernel
theorem dX11_resolve_21 : decode cX11_resolve 21 = .ok (.laload, 1) := by decide +kernel
theorem dX11_resolve_22 : decode cX11_resolve 22 = .ok (.lcmp, 1) := by decide +kernel
theorem dX11_resolve_23 : decode cX11_resolve 23 = .ok (.ifCond .eq 9, 3) := by decide +kernel
theorem dX11_resolve_26 : decode cX11_resolve 26 = .ok (.iinc 2 1, 3) := by decide +kernel
theorem dX11_resolve_29 : decode cX11_resolve 29 = .ok (.goto (-27), 3) := by decide +kernel
theorem dX11_resolve_32 : decode cX11_resolve 32 = .ok (.iload_n 2, 1) := by decide +kernel
theorem dX11_resolve_33 : decode cX11_resolve 33 = .ok (.aload_n 0, 1) := by decide +kernel
theorem dX11_resolve_34 : decode cX11_resolve 34 = .ok (.getfield 485, 3) := by decide +kernel
theorem dX11_resolve_37 : decode cX11_resolve 37 = .ok (.if_icmp .ne 15, 3) := by decide +kernel
theorem dX11_resolve_40 : decode cX11_resolve 40 = .ok (.aload_n 0, 1) := by decide +kernel
theorem dX11_resolve_41 : decode cX11_resolve 41 = .ok (.iconst 2, 1) := by decide +kernel
theorem dX11_resolve_42 : decode cX11_resolve 42 = .ok (.aload_n 0, 1) := by decide +kernel
theorem dX11_resolve_43 : decode cX11_resolve 43 = .ok (.getfield 41, 3) := by decide +kernel
theorem dX11_resolve_46 : decode cX11_resolve 46 = .ok (.iload_n 1, 1) := by decide +kernel
theorem dX11_resolve_47 : decode cX11_resolve 47 = .ok (.iaload, 1) := by decide +kernel
theorem dX11_resolve_48 : decode cX11_resolve 48 = .ok (.invokevirtual 381, 3) := by decide +kernel
theorem dX11_resolve_51 : decode cX11_resolve 51 = .ok (.return_, 1) := by decide +kernel
theorem dX11_resolve_52 : decode cX11_resolve 52 = .ok (.aload_n 0, 1) := by decide +kernel
theorem dX11_resolve_53 : decode cX11_resolve 53 = .ok (.getfield 35, 3) := by decide +kernel
theorem dX11_resolve_56 : decode cX11_resolve 56 = .ok (.iload_n 1, 1) := by decide +kernel
theorem dX11_resolve_57 : decode cX11_resolve 57 = .ok (.iaload, 1) := by decide +kernel
theorem dX11_resolve_58 : decode cX11_resolve 58 = .ok (.istore_n 3, 1) := by decide +kernel
theorem dX11_resolve_59 : decode cX11_resolve 59 = .ok (.aload_n 0, 1) := by decide +kernel
theorem dX11_resolve_60 : decode cX11_resolve 60 = .ok (.getfield 26, 3) := by decide +kernel
theorem dX11_resolve_63 : decode cX11_resolve 63 = .ok (.iload_n 2, 1) := by decide +kernel
theorem dX11_resolve_64 : decode cX11_resolve 64 = .ok (.iaload, 1) := by decide +kernel
theorem dX11_resolve_65 : decode cX11_resolve 65 = .ok (.iload_n 3, 1) := by decide +kernel
theorem dX11_resolve_66 : decode cX11_resolve 66 = .ok (.iconst 2, 1) := by decide +kernel
theorem dX11_resolve_67 : decode cX11_resolve 67 = .ok (.if_icmp .eq 8, 3) := by decide +kernel
theorem dX11_resolve_70 : decode cX11_resolve 70 = .ok (.iload_n 3, 1) := by decide +kernel
theorem dX11_resolve_71 : decode cX11_resolve 71 = .ok (.iconst 4, 1) := by decide +kernel
theorem dX11_resolve_72 : decode cX11_resolve 72 = .ok (.if_icmp .ne 12, 3) := by decide +kernel
theorem dX11_resolve_75 : decode cX11_resolve 75 = .ok (.aload_n 0, 1) := by decide +kernel
theorem dX11_resolve_76 : decode cX11_resolve 76 = .ok (.getfield 29, 3) := by decide +kernel
theorem dX11_resolve_79 : decode cX11_resolve 79 = .ok (.iload_n 1, 1) := by decide +kernel
theorem dX11_resolve_80 : decode cX11_resolve 80 = .ok (.iaload, 1) := by decide +kernel
theorem dX11_resolve_81 : decode cX11_resolve 81 = .ok (.goto 4, 3) := by decide +kernel
theorem dX11_resolve_84 : decode cX11_resolve 84 = .ok (.iconst 0, 1) := by decide +kernel
theorem dX11_resolve_85 : decode cX11_resolve 85 = .ok (.isub, 1) := by decide +kernel
theorem dX11_resolve_86 : decode cX11_resolve 86 = .ok (.istore 4, 2) := by decide +kernel
theorem dX11_resolve_88 : decode cX11_resolve 88 = .ok (.iload_n 3, 1) := by decide +kernel
theorem dX11_resolve_89 : decode cX11_resolve 89 = .ok (.bipush 7, 2) := by decide +kernel
theorem dX11_resolve_91 : decode cX11_resolve 91 = .ok (.if_icmp .eq 9, 3) := by decide +kernel
theorem dX11_resolve_94 : decode cX11_resolve 94 = .ok (.iload_n 3, 1) := by decide +kernel
theorem dX11_resolve_95 : decode cX11_resolve 95 = .ok (.bipush 8, 2) := by decide +kernel
theorem dX11_resolve_97 : decode cX11_resolve 97 = .ok (.if_icmp .ne 7, 3) := by decide +kernel
theorem dX11_resolve_100 : decode cX11_resolve 100 = .ok (.iconst 1, 1) := by decide +kernel
theorem dX11_resolve_101 : decode cX11_resolve 101 = .ok (.goto 4, 3) := by decide +kernel
theorem dX11_resolve_104 : decode cX11_resolve 104 = .ok (.iconst 0, 1) := by decide +kernel
theorem dX11_resolve_105 : decode cX11_resolve 105 = .ok (.istore 5, 2) := by decide +kernel
theorem dX11_resolve_107 : decode cX11_resolve 107 = .ok (.iload 5, 2) := by decide +kernel
theorem dX11_resolve_109 : decode cX11_resolve 109 = .ok (.ifCond .ne 46, 3) := by decide +kernel
theorem dX11_resolve_112 : decode cX11_resolve 112 = .ok (.iload 4, 2) := by decide +kernel
theorem dX11_resolve_114 : decode cX11_resolve 114 = .ok (.i2l, 1) := by decide +kernel
theorem dX11_resolve_115 : decode cX11_resolve 115 = .ok (.iload_n 3, 1) := by decide +kernel
theorem dX11_resolve_116 : decode cX11_resolve 116 = .ok (.invokestatic 447, 3) := by decide +kernel
theorem dX11_resolve_119 : decode cX11_resolve 119 = .ok (.lcmp, 1) := by decide +kernel
theorem dX11_resolve_120 : decode cX11_resolve 120 = .ok (.ifCond .lt 24, 3) := by decide +kernel
theorem dX11_resolve_123 : decode cX11_resolve 123 = .ok (.iload 4, 2) := by decide +kernel
theorem dX11_resolve_125 : decode cX11_resolve 125 = .ok (.i2l, 1) := by decide +kernel
theorem dX11_resolve_126 : decode cX11_resolve 126 = .ok (.iload_n 3, 1) := by decide +kernel
theorem dX11_resolve_127 : decode cX11_resolve 127 = .ok (.invokestatic 451, 3) := by decide +kernel
theorem dX11_resolve_130 : decode cX11_resolve 130 = .ok (.lcmp, 1) := by decide +kernel
theorem dX11_resolve_131 : decode cX11_resolve 131 = .ok (.ifCond .gt 13, 3) := by decide +kernel
theorem dX11_resolve_134 : decode cX11_resolve 134 = .ok (.iload 4, 2) := by decide +kernel
theorem dX11_resolve_136 : decode cX11_resolve 136 = .ok (.iload_n 3, 1) := by decide +kernel
theorem dX11_resolve_137 : decode cX11_resolve 137 = .ok (.invokestatic 454, 3) := by decide +kernel
theorem dX11_resolve_140 : decode cX11_resolve 140 = .ok (.irem, 1) := by decide +kernel
theorem dX11_resolve_141 : decode cX11_resolve 141 = .ok (.ifCond .eq 14, 3) := by decide +kernel
theorem dX11_resolve_144 : decode cX11_resolve 144 = .ok (.aload_n 0, 1) := by decide +kernel
theorem dX11_resolve_145 : decode cX11_resolve 145 = .ok (.iconst 3, 1) := by decide +kernel
theorem dX11_resolve_146 : decode cX11_resolve 146 = .ok (.aload_n 0, 1) := by decide +kernel
theorem dX11_resolve_147 : decode cX11_resolve 147 = .ok (.getfield 41, 3) := by decide +kernel
theorem dX11_resolve_150 : decode cX11_resolve 150 = .ok (.iload_n 1, 1) := by decide +kernel
theorem dX11_resolve_151 : decode cX11_resolve 151 = .ok (.iaload, 1) := by decide +kernel
theorem dX11_resolve_152 : decode cX11_resolve 152 = .ok (.invokevirtual 381, 3) := by decide +kernel
theorem dX11_resolve_155 : decode cX11_resolve 155 = .ok (.aload_n 0, 1) := by decide +kernel
theorem dX11_resolve_156 : decode cX11_resolve 156 = .ok (.getfield 32, 3) := by decide +kernel
theorem dX11_resolve_159 : decode cX11_resolve 159 = .ok (.iload_n 1, 1) := by decide +kernel
theorem dX11_resolve_160 : decode cX11_resolve 160 = .ok (.dup2, 1) := by decide +kernel
theorem dX11_resolve_161 : decode cX11_resolve 161 = .ok (.iaload, 1) := by decide +kernel
theorem dX11_resolve_162 : decode cX11_resolve 162 = .ok (.iload_n 3, 1) := by decide +kernel
theorem dX11_resolve_163 : decode cX11_resolve 163 = .ok (.iload 4, 2) := by decide +kernel
theorem dX11_resolve_165 : decode cX11_resolve 165 = .ok (.i2l, 1) := by decide +kernel
theorem dX11_resolve_166 : decode cX11_resolve 166 = .ok (.invokestatic 509, 3) := by decide +kernel
theorem dX11_resolve_169 : decode cX11_resolve 169 = .ok (.ior, 1) := by decide +kernel
theorem dX11_resolve_170 : decode cX11_resolve 170 = .ok (.iastore, 1) := by decide +kernel
theorem dX11_resolve_171 : decode cX11_resolve 171 = .ok (.return_, 1) := by decide +kernel
theorem dX11_assemble_0 : decode cX11_assemble 0 = .ok (.aload_n 0, 1) := by decide +kernel
theorem dX11_assemble_1 : decode cX11_assemble 1 = .ok (.iconst 0, 1) := by decide +kernel
theorem dX11_assemble_2 : decode cX11_assemble 2 = .ok (.putfield 372, 3) := by decide +kernel
theorem dX11_assemble_5 : decode cX11_assemble 5 = .ok (.aload_n 0, 1) := by decide +kernel
theorem dX11_assemble_6 : decode cX11_assemble 6 = .ok (.iconst 0, 1) := by decide +kernel
theorem dX11_assemble_7 : decode cX11_assemble 7 = .ok (.putfield 375, 3) := by decide +kernel
theorem dX11_assemble_10 : decode cX11_assemble 10 = .ok (.aload_n 0, 1) := by decide +kernel
theorem dX11_assemble_11 : decode cX11_assemble 11 = .ok (.invokevirtual 522, 3) := by decide +kernel
theorem dX11_assemble_14 : decode cX11_assemble 14 = .ok (.aload_n 0, 1) := by decide +kernel
theorem dX11_assemble_15 : decode cX11_assemble 15 = .ok (.iconst 0, 1) := by decide +kernel
theorem dX11_assemble_16 : decode cX11_assemble 16 = .ok (.putfield 337, 3) := by decide +kernel
theorem dX11_assemble_19 : decode cX11_assemble 19 = .ok (.aload_n 0, 1) := by decide +kernel
theorem dX11_assemble_20 : decode cX11_assemble 20 = .ok (.getfield 372, 3) := by decide +kernel
theorem dX11_assemble_23 : decode cX11_assemble 23 = .ok (.ifCond .eq 9, 3) := by decide +kernel
theorem dX11_assemble_26 : decode cX11_assemble 26 = .ok (.aload_n 0, 1) := by decide +kernel
theorem dX11_assemble_27 : decode cX11_assemble 27 = .ok (.iconst 1, 1) := by decide +kernel
theorem dX11_assemble_28 : decode cX11_assemble 28 = .ok (.invokevirtual 525, 3) := by decide +kernel
theorem dX11_assemble_31 : decode cX11_assemble 31 = .ok (.ireturn, 1) := by decide +kernel
theorem dX11_assemble_32 : decode cX11_assemble 32 = .ok (.aload_n 0, 1) := by decide +kernel
theorem dX11_assemble_33 : decode cX11_assemble 33 = .ok (.iconst 0, 1) := by decide +kernel
theorem dX11_assemble_34 : decode cX11_assemble 34 = .ok (.putfield 306, 3) := by decide +kernel
theorem dX11_assemble_37 : decode cX11_assemble 37 = .ok (.aload_n 0, 1) := by decide +kernel
theorem dX11_assemble_38 : decode cX11_assemble 38 = .ok (.invokevirtual 303, 3) := by decide +kernel
theorem dX11_assemble_41 : decode cX11_assemble 41 = .ok (.iconst 0, 1) := by decide +kernel
theorem dX11_assemble_42 : decode cX11_assemble 42 = .ok (.istore_n 1, 1) := by decide +kernel
theorem dX11_assemble_43 : decode cX11_assemble 43 = .ok (.iload_n 1, 1) := by decide +kernel
theorem dX11_assemble_44 : decode cX11_assemble 44 = .ok (.sipush 2048, 3) := by decide +kernel
theorem dX11_assemble_47 : decode cX11_assemble 47 = .ok (.if_icmp .ge 16, 3) := by decide +kernel
theorem dX11_assemble_50 : decode cX11_assemble 50 = .ok (.aload_n 0, 1) := by decide +kernel
theorem dX11_assemble_51 : decode cX11_assemble 51 = .ok (.getfield 53, 3) := by decide +kernel
theorem dX11_assemble_54 : decode cX11_assemble 54 = .ok (.iload_n 1, 1) := by decide +kernel
theorem dX11_assemble_55 : decode cX11_assemble 55 = .ok (.iconst 0, 1) := by decide +kernel
theorem dX11_assemble_56 : decode cX11_assemble 56 = .ok (.iastore, 1) := by decide +kernel
theorem dX11_assemble_57 : decode cX11_assemble 57 = .ok (.iinc 1 1, 3) := by decide +kernel
theorem dX11_assemble_60 : decode cX11_assemble 60 = .ok (.goto (-17), 3) := by decide +kernel
theorem dX11_assemble_63 : decode cX11_assemble 63 = .ok (.iconst 0, 1) := by decide +kernel
theorem dX11_assemble_64 : decode cX11_assemble 64 = .ok (.istore_n 1, 1) := by decide +kernel
theorem dX11_assemble_65 : decode cX11_assemble 65 = .ok (.iload_n 1, 1) := by decide +kernel
theorem dX11_assemble_66 : decode cX11_assemble 66 = .ok (.aload_n 0, 1) := by decide +kernel
theorem dX11_assemble_67 : decode cX11_assemble 67 = .ok (.getfield 506, 3) := by decide +kernel
theorem dX11_assemble_70 : decode cX11_assemble 70 = .ok (.if_icmp .ge 28, 3) := by decide +kernel
theorem dX11_assemble_73 : decode cX11_assemble 73 = .ok (.aload_n 0, 1) := by decide +kernel
theorem dX11_assemble_74 : decode cX11_assemble 74 = .ok (.getfield 53, 3) := by decide +kernel
theorem dX11_assemble_77 : decode cX11_assemble 77 = .ok (.aload_n 0, 1) := by decide +kernel
theorem dX11_assemble_78 : decode cX11_assemble 78 = .ok (.getfield 29, 3) := by decide +kernel
theorem dX11_assemble_81 : decode cX11_assemble 81 = .ok (.iload_n 1, 1) := by decide +kernel
theorem dX11_assemble_82 : decode cX11_assemble 82 = .ok (.iaload, 1) := by decide +kernel
theorem dX11_assemble_83 : decode cX11_assemble 83 = .ok (.iconst 4, 1) := by decide +kernel
theorem dX11_assemble_84 : decode cX11_assemble 84 = .ok (.idiv, 1) := by decide +kernel
theorem dX11_assemble_85 : decode cX11_assemble 85 = .ok (.aload_n 0, 1) := by decide +kernel
theorem dX11_assemble_86 : decode cX11_assemble 86 = .ok (.getfield 32, 3) := by decide +kernel
theorem dX11_assemble_89 : decode cX11_assemble 89 = .ok (.iload_n 1, 1) := by decide +kernel
theorem dX11_assemble_90 : decode cX11_assemble 90 = .ok (.iaload, 1) := by decide +kernel
theorem dX11_assemble_91 : decode cX11_assemble 91 = .ok (.iastore, 1) := by decide +kernel
theorem dX11_assemble_92 : decode cX11_assemble 92 = .ok (.iinc 1 1, 3) := by decide +kernel
theorem dX11_assemble_95 : decode cX11_assemble 95 = .ok (.goto (-30), 3) := by decide +kernel
theorem dX11_assemble_98 : decode cX11_assemble 98 = .ok (.iconst 0, 1) := by decide +kernel
theorem dX11_assemble_99 : decode cX11_assemble 99 = .ok (.istore_n 1, 1) := by decide +kernel
theorem dX11_assemble_100 : decode cX11_assemble 100 = .ok (.iload_n 1, 1) := by decide +kernel
theorem dX11_assemble_101 : decode cX11_assemble 101 = .ok (.sipush 2048, 3) := by decide +kernel
theorem dX11_assemble_104 : decode cX11_assemble 104 = .ok (.if_icmp .ge 21, 3) := by decide +kernel
theorem dX11_assemble_107 : decode cX11_assemble 107 = .ok (.aload_n 0, 1) := by decide +kernel
theorem dX11_assemble_108 : decode cX11_assemble 108 = .ok (.getfield 56, 3) := by decide +kernel
theorem dX11_assemble_111 : decode cX11_assemble 111 = .ok (.iload_n 1, 1) := by decide +kernel
theorem dX11_assemble_112 : decode cX11_assemble 112 = .ok (.aload_n 0, 1) := by decide +kernel
theorem dX11_assemble_113 : decode cX11_assemble 113 = .ok (.getfield 53, 3) := by decide +kernel
theorem dX11_assemble_116 : decode cX11_assemble 116 = .ok (.iload_n 1, 1) := by decide +kernel
theorem dX11_assemble_117 : decode cX11_assemble 117 = .ok (.iaload, 1) := by decide +kernel
theorem dX11_assemble_118 : decode cX11_assemble 118 = .ok (.iastore, 1) := by decide +kernel
theorem dX11_assemble_119 : decode cX11_assemble 119 = .ok (.iinc 1 1, 3) := by decide +kernel
theorem dX11_assemble_122 : decode cX11_assemble 122 = .ok (.goto (-22), 3) := by decide +kernel
theorem dX11_assemble_125 : decode cX11_assemble 125 = .ok (.iconst 0, 1) := by decide +kernel
theorem dX11_assemble_126 : decode cX11_assemble 126 = .ok (.istore_n 1, 1) := by decide +kernel
theorem dX11_assemble_127 : decode cX11_assemble 127 = .ok (.iload_n 1, 1) := by decide +kernel
theorem dX11_assemble_128 : decode cX11_assemble 128 = .ok (.bipush 16, 2) := by decide +kernel
theorem dX11_assemble_130 : decode cX11_assemble 130 = .ok (.if_icmp .ge 25, 3) := by decide +kernel
theorem dX11_assemble_133 : decode cX11_assemble 133 = .ok (.aload_n 0, 1) := by decide +kernel
theorem dX11_assemble_134 : decode cX11_assemble 134 = .ok (.getfield 62, 3) := by decide +kernel
theorem dX11_assemble_137 : decode cX11_assemble 137 = .ok (.iload_n 1, 1) := by decide +kernel
theorem dX11_assemble_138 : decode cX11_assemble 138 = .ok (.aload_n 0, 1) := by decide +kernel
theorem dX11_assemble_139 : decode cX11_assemble 139 = .ok (.getfield 44, 3) := by decide +kernel
theorem dX11_assemble_142 : decode cX11_assemble 142 = .ok (.iload_n 1, 1) := by decide +kernel
theorem dX11_assemble_143 : decode cX11_assemble 143 = .ok (.iaload, 1) := by decide +kernel
theorem dX11_assemble_144 : decode cX11_assemble 144 = .ok (.sipush 8191, 3) := by decide +kernel
theorem dX11_assemble_147 : decode cX11_assemble 147 = .ok (.iand, 1) := by decide +kernel
theorem dX11_assemble_148 : decode cX11_assemble 148 = .ok (.iastore, 1) := by decide +kernel
theorem dX11_assemble_149 : decode cX11_assemble 149 = .ok (.iinc 1 1, 3) := by decide +kernel
theorem dX11_assemble_152 : decode cX11_assemble 152 = .ok (.goto (-25), 3) := by decide +kernel
theorem dX11_assemble_155 : decode cX11_assemble 155 = .ok (.aload_n 0, 1) := by decide +kernel
theorem dX11_assemble_156 : decode cX11_assemble 156 = .ok (.getfield 506, 3) := by decide +kernel
theorem dX11_assemble_159 : decode cX11_assemble 159 = .ok (.ireturn, 1) := by decide +kernel
theorem dX11_fault_0 : decode cX11_fault 0 = .ok (.aload_n 0, 1) := by decide +kernel
theorem dX11_fault_1 : decode cX11_fault 1 = .ok (.iconst 0, 1) := by decide +kernel
theorem dX11_fault_2 : decode cX11_fault 2 = .ok (.putfield 306, 3) := by decide +kernel
theorem dX11_fault_5 : decode cX11_fault 5 = .ok (.iload_n 1, 1) := by decide +kernel
theorem dX11_fault_6 : decode cX11_fault 6 = .ok (.ifCond .ne 10, 3) := by decide +kernel
theorem dX11_fault_9 : decode cX11_fault 9 = .ok (.aload_n 0, 1) := by decide +kernel
theorem dX11_fault_10 : decode cX11_fault 10 = .ok (.getfield 372, 3) := by decide +kernel
theorem dX11_fault_13 : decode cX11_fault 13 = .ok (.goto 16, 3) := by decide +kernel
theorem dX11_fault_16 : decode cX11_fault 16 = .ok (.iload_n 1, 1) := by decide +kernel
theorem dX11_fault_17 : decode cX11_fault 17 = .ok (.iconst 1, 1) := by decide +kernel
theorem dX11_fault_18 : decode cX11_fault 18 = .ok (.if_icmp .ne 10, 3) := by decide +kernel
theorem dX11_fault_21 : decode cX11_fault 21 = .ok (.aload_n 0, 1) := by decide +kernel
theorem dX11_fault_22 : decode cX11_fault 22 = .ok (.getfield 375, 3) := by decide +kernel
theorem dX11_fault_25 : decode cX11_fault 25 = .ok (.goto 4, 3) := by decide +kernel
theorem dX11_fault_28 : decode cX11_fault 28 = .ok (.iconst (-1), 1) := by decide +kernel
theorem dX11_fault_29 : decode cX11_fault 29 = .ok (.ireturn, 1) := by decide +kernel
theorem dX11_setOf_0 : decode cX11_setOf 0 = .ok (.bipush 32, 2) := by decide +kernel
theorem dX11_setOf_2 : decode cX11_setOf 2 = .ok (.iload_n 1, 1) := by decide +kernel
theorem dX11_setOf_3 : decode cX11_setOf 3 = .ok (.imul, 1) := by decide +kernel
theorem dX11_setOf_4 : decode cX11_setOf 4 = .ok (.aload_n 0, 1) := by decide +kernel
theorem dX11_setOf_5 : decode cX11_setOf 5 = .ok (.getfield 47, 3) := by decide +kernel
theorem dX11_setOf_8 : decode cX11_setOf 8 = .ok (.iconst 3, 1) := by decide +kernel
theorem dX11_setOf_9 : decode cX11_setOf 9 = .ok (.iaload, 1) := by decide +kernel
theorem dX11_setOf_10 : decode cX11_setOf 10 = .ok (.iload_n 2, 1) := by decide +kernel
theorem dX11_setOf_11 : decode cX11_setOf 11 = .ok (.aload_n 0, 1) := by decide +kernel
theorem dX11_setOf_12 : decode cX11_setOf 12 = .ok (.getfield 47, 3) := by decide +kernel
theorem dX11_setOf_15 : decode cX11_setOf 15 = .ok (.iconst 2, 1) := by decide +kernel
theorem dX11_setOf_16 : decode cX11_setOf 16 = .ok (.iaload, 1) := by decide +kernel
theorem dX11_setOf_17 : decode cX11_setOf 17 = .ok (.irem, 1) := by decide +kernel
theorem dX11_setOf_18 : decode cX11_setOf 18 = .ok (.imul, 1) := by decide +kernel
theorem dX11_setOf_19 : decode cX11_setOf 19 = .ok (.iadd, 1) := by decide +kernel
theorem dX11_setOf_20 : decode cX11_setOf 20 = .ok (.ireturn, 1) := by decide +kernel
theorem dX11_wayOf_0 : decode cX11_wayOf 0 = .ok (.aload_n 0, 1) := by decide +kernel
theorem dX11_wayOf_1 : decode cX11_wayOf 1 = .ok (.iload_n 1, 1) := by decide +kernel
theorem dX11_wayOf_2 : decode cX11_wayOf 2 = .ok (.iload_n 2, 1) := by decide +kernel
theorem dX11_wayOf_3 : decode cX11_wayOf 3 = .ok (.invokevirtual 528, 3) := by decide +kernel
theorem dX11_wayOf_6 : decode cX11_wayOf 6 = .ok (.istore_n 3, 1) := by decide +kernel
theorem dX11_wayOf_7 : decode cX11_wayOf 7 = .ok (.iload_n 3, 1) := by decide +kernel
theorem dX11_wayOf_8 : decode cX11_wayOf 8 = .ok (.aload_n 0, 1) := by decide +kernel
theorem dX11_wayOf_9 : decode cX11_wayOf 9 = .ok (.iload_n 1, 1) := by decide +kernel
theorem dX11_wayOf_10 : decode cX11_wayOf 10 = .ok (.iload_n 2, 1) := by decide +kernel
theorem dX11_wayOf_11 : decode cX11_wayOf 11 = .ok (.invokevirtual 528, 3) := by decide +kernel
theorem dX11_wayOf_14 : decode cX11_wayOf 14 = .ok (.aload_n 0, 1) := by decide +kernel
theorem dX11_wayOf_15 : decode cX11_wayOf 15 = .ok (.getfield 47, 3) := by decide +kernel
theorem dX11_wayOf_18 : decode cX11_wayOf 18 = .ok (.iconst 3, 1) := by decide +kernel
theorem dX11_wayOf_19 : decode cX11_wayOf 19 = .ok (.iaload, 1) := by decide +kernel
theorem dX11_wayOf_20 : decode cX11_wayOf 20 = .ok (.iadd, 1) := by decide +kernel
theorem dX11_wayOf_21 : decode cX11_wayOf 21 = .ok (.if_icmp .ge 30, 3) := by decide +kernel
theorem dX11_wayOf_24 : decode cX11_wayOf 24 = .ok (.aload_n 0, 1) := by decide +kernel
theorem dX11_wayOf_25 : decode cX11_wayOf 25 = .ok (.getfield 108, 3) := by decide +kernel
theorem dX11_wayOf_28 : decode cX11_wayOf 28 = .ok (.iload_n 3, 1) := by decide +kernel
theorem dX11_wayOf_29 : decode cX11_wayOf 29 = .ok (.iaload, 1) := by decide +kernel
theorem dX11_wayOf_30 : decode cX11_wayOf 30 = .ok (.ifCond .le 15, 3) := by decide +kernel
theorem dX11_wayOf_33 : decode cX11_wayOf 33 = .ok (.aload_n 0, 1) := by decide +kernel
theorem dX11_wayOf_34 : decode cX11_wayOf 34 = .ok (.getfield 105, 3) := by decide +kernel
theorem dX11_wayOf_37 : decode cX11_wayOf 37 = .ok (.iload_n 3, 1) := by decide +kernel
theorem dX11_wayOf_38 : decode cX11_wayOf 38 = .ok (.iaload, 1) := by decide +kernel
theorem dX11_wayOf_39 : decode cX11_wayOf 39 = .ok (.iload_n 2, 1) := by decide +kernel
theorem dX11_wayOf_40 : decode cX11_wayOf 40 = .ok (.if_icmp .ne 5, 3) := by decide +kernel
theorem dX11_wayOf_43 : decode cX11_wayOf 43 = .ok (.iload_n 3, 1) := by decide +kernel
theorem dX11_wayOf_44 : decode cX11_wayOf 44 = .ok (.ireturn, 1) := by decide +kernel
theorem dX11_wayOf_45 : decode cX11_wayOf 45 = .ok (.iinc 3 1, 3) := by decide +kernel
theorem dX11_wayOf_48 : decode cX11_wayOf 48 = .ok (.goto (-41), 3) := by decide +kernel
theorem dX11_wayOf_51 : decode cX11_wayOf 51 = .ok (.iconst (-1), 1) := by decide +kernel
theorem dX11_wayOf_52 : decode cX11_wayOf 52 = .ok (.ireturn, 1) := by decide +kernel
theorem dX11_use_0 : decode cX11_use 0 = .ok (.aload_n 0, 1) := by decide +kernel
theorem dX11_use_1 : decode cX11_use 1 = .ok (.dup, 1) := by decide +kernel
theorem dX11_use_2 : decode cX11_use 2 = .ok (.getfield 310, 3) := by decide +kernel
theorem dX11_use_5 : decode cX11_use 5 = .ok (.iconst 1, 1) := by decide +kernel
theorem dX11_use_6 : decode cX11_use 6 = .ok (.iadd, 1) := by decide +kernel
theorem dX11_use_7 : decode cX11_use 7 = .ok (.putfield 310, 3) := by decide +kernel
theorem dX11_use_10 : decode cX11_use 10 = .ok (.aload_n 0, 1) := by decide +kernel
theorem dX11_use_11 : decode cX11_use 11 = .ok (.getfield 111, 3) := by decide +kernel
theorem dX11_use_14 : decode cX11_use 14 = .ok (.iload_n 1, 1) := by decide +kernel
theorem dX11_use_15 : decode cX11_use 15 = .ok (.aload_n 0, 1) := by decide +kernel
theorem dX11_use_16 : decode cX11_use 16 = .ok (.getfield 310, 3) := by decide +kernel
theorem dX11_use_19 : decode cX11_use 19 = .ok (.iastore, 1) := by decide +kernel
theorem dX11_use_20 : decode cX11_use 20 = .ok (.return_, 1) := by decide +kernel
theorem dX11_freeWay_0 : decode cX11_freeWay 0 = .ok (.aload_n 0, 1) := by decide +kernel
theorem dX11_freeWay_1 : decode cX11_freeWay 1 = .ok (.iload_n 1, 1) := by decide +kernel
theorem dX11_freeWay_2 : decode cX11_freeWay 2 = .ok (.iload_n 2, 1) := by decide +kernel
theorem dX11_freeWay_3 : decode cX11_freeWay 3 = .ok (.invokevirtual 528, 3) := by decide +kernel
theorem dX11_freeWay_6 : decode cX11_freeWay 6 = .ok (.istore_n 3, 1) := by decide +kernel
theorem dX11_freeWay_7 : decode cX11_freeWay 7 = .ok (.iload_n 3, 1) := by decide +kernel
theorem dX11_freeWay_8 : decode cX11_freeWay 8 = .ok (.aload_n 0, 1) := by decide +kernel
theorem dX11_freeWay_9 : decode cX11_freeWay 9 = .ok (.iload_n 1, 1) := by decide +kernel
theorem dX11_freeWay_10 : decode cX11_freeWay 10 = .ok (.iload_n 2, 1) := by decide +kernel
theorem dX11_freeWay_11 : decode cX11_freeWay 11 = .ok (.invokevirtual 528, 3) := by decide +kernel
theorem dX11_freeWay_14 : decode cX11_freeWay 14 = .ok (.aload_n 0, 1) := by decide +kernel
theorem dX11_freeWay_15 : decode cX11_freeWay 15 = .ok (.getfield 47, 3) := by decide +kernel
theorem dX11_freeWay_18 : decode cX11_freeWay 18 = .ok (.iconst 3, 1) := by decide +kernel
theorem dX11_freeWay_19 : decode cX11_freeWay 19 = .ok (.iaload, 1) := by decide +kernel
theorem dX11_freeWay_20 : decode cX11_freeWay 20 = .ok (.iadd, 1) := by decide +kernel
theorem dX11_freeWay_21 : decode cX11_freeWay 21 = .ok (.if_icmp .ge 20, 3) := by decide +kernel
theorem dX11_freeWay_24 : decode cX11_freeWay 24 = .ok (.aload_n 0, 1) := by decide +kernel
theorem dX11_freeWay_25 : decode cX11_freeWay 25 = .ok (.getfield 108, 3) := by decide +kernel
theorem dX11_freeWay_28 : decode cX11_freeWay 28 = .ok (.iload_n 3, 1) := by decide +kernel
theorem dX11_freeWay_29 : decode cX11_freeWay 29 = .ok (.iaload, 1) := by decide +kernel
theorem dX11_freeWay_30 : decode cX11_freeWay 30 = .ok (.ifCond .ne 5, 3) := by decide +kernel
theorem dX11_freeWay_33 : decode cX11_freeWay 33 = .ok (.iload_n 3, 1) := by decide +kernel
theorem dX11_freeWay_34 : decode cX11_freeWay 34 = .ok (.ireturn, 1) := by decide +kernel
theorem dX11_freeWay_35 : decode cX11_freeWay 35 = .ok (.iinc 3 1, 3) := by decide +kernel
theorem dX11_freeWay_38 : decode cX11_freeWay 38 = .ok (.goto (-31), 3) := by decide +kernel
theorem dX11_freeWay_41 : decode cX11_freeWay 41 = .ok (.iconst (-1), 1) := by decide +kernel
theorem dX11_freeWay_42 : decode cX11_freeWay 42 = .ok (.ireturn, 1) := by decide +kernel
theorem dX11_blank_0 : decode cX11_blank 0 = .ok (.aload_n 0, 1) := by decide +kernel
theorem dX11_blank_1 : decode cX11_blank 1 = .ok (.getfield 148, 3) := by decide +kernel
theorem dX11_blank_4 : decode cX11_blank 4 = .ok (.iconst 0, 1) := by decide +kernel
theorem dX11_blank_5 : decode cX11_blank 5 = .ok (.iload_n 1, 1) := by decide +kernel
theorem dX11_blank_6 : decode cX11_blank 6 = .ok (.iastore, 1) := by decide +kernel
theorem dX11_blank_7 : decode cX11_blank 7 = .ok (.aload_n 0, 1) := by decide +kernel
theorem dX11_blank_8 : decode cX11_blank 8 = .ok (.getfield 148, 3) := by decide +kernel
theorem dX11_blank_11 : decode cX11_blank 11 = .ok (.iconst 1, 1) := by decide +kernel
theorem dX11_blank_12 : decode cX11_blank 12 = .ok (.iload_n 2, 1) := by decide +kernel
theorem dX11_blank_13 : decode cX11_blank 13 = .ok (.iastore, 1) := by decide +kernel
theorem dX11_blank_14 : decode cX11_blank 14 = .ok (.aload_n 0, 1) := by decide +kernel
theorem dX11_blank_15 : decode cX11_blank 15 = .ok (.getfield 148, 3) := by decide +kernel
theorem dX11_blank_18 : decode cX11_blank 18 = .ok (.iconst 2, 1) := by decide +kernel
theorem dX11_blank_19 : decode cX11_blank 19 = .ok (.iload_n 3, 1) := by decide +kernel
theorem dX11_blank_20 : decode cX11_blank 20 = .ok (.iastore, 1) := by decide +kernel
theorem dX11_blank_21 : decode cX11_blank 21 = .ok (.aload_n 0, 1) := by decide +kernel
theorem dX11_blank_22 : decode cX11_blank 22 = .ok (.getfield 148, 3) := by decide +kernel
theorem dX11_blank_25 : decode cX11_blank 25 = .ok (.iconst 3, 1) := by decide +kernel
theorem dX11_blank_26 : decode cX11_blank 26 = .ok (.iload 4, 2) := by decide +kernel
theorem dX11_blank_28 : decode cX11_blank 28 = .ok (.iastore, 1) := by decide +kernel
theorem dX11_blank_29 : decode cX11_blank 29 = .ok (.iconst 4, 1) := by decide +kernel
theorem dX11_blank_30 : decode cX11_blank 30 = .ok (.istore 5, 2) := by decide +kernel
theorem dX11_blank_32 : decode cX11_blank 32 = .ok (.iload 5, 2) := by decide +kernel
theorem dX11_blank_34 : decode cX11_blank 34 = .ok (.bipush 9, 2) := by decide +kernel
theorem dX11_blank_36 : decode cX11_blank 36 = .ok (.if_icmp .ge 17, 3) := by decide +kernel
theorem dX11_blank_39 : decode cX11_blank 39 = .ok (.aload_n 0, 1) := by decide +kernel
theorem dX11_blank_40 : decode cX11_blank 40 = .ok (.getfield 148, 3) := by decide +kernel
theorem dX11_blank_43 : decode cX11_blank 43 = .ok (.iload 5, 2) := by decide +kernel
theorem dX11_blank_45 : decode cX11_blank 45 = .ok (.iconst 0, 1) := by decide +kernel
theorem dX11_blank_46 : decode cX11_blank 46 = .ok (.iastore, 1) := by decide +kernel
theorem dX11_blank_47 : decode cX11_blank 47 = .ok (.iinc 5 1, 3) := by decide +kernel
theorem dX11_blank_50 : decode cX11_blank 50 = .ok (.goto (-18), 3) := by decide +kernel
theorem dX11_blank_53 : decode cX11_blank 53 = .ok (.return_, 1) := by decide +kernel
theorem dX11_withWords_0 : decode cX11_withWords 0 = .ok (.aload_n 0, 1) := by decide +kernel
theorem dX11_withWords_1 : decode cX11_withWords 1 = .ok (.getfield 148, 3) := by decide +kernel
theorem dX11_withWords_4 : decode cX11_withWords 4 = .ok (.iconst 4, 1) := by decide +kernel
theorem dX11_withWords_5 : decode cX11_withWords 5 = .ok (.iconst 1, 1) := by decide +kernel
theorem dX11_withWords_6 : decode cX11_withWords 6 = .ok (.iastore, 1) := by decide +kernel
theorem dX11_withWords_7 : decode cX11_withWords 7 = .ok (.iconst 0, 1) := by decide +kernel
theorem dX11_withWords_8 : decode cX11_withWords 8 = .ok (.istore_n 2, 1) := by decide +kernel
theorem dX11_withWords_9 : decode cX11_withWords 9 = .ok (.iload_n 2, 1) := by decide +kernel
theorem dX11_withWords_10 : decode cX11_withWords 10 = .ok (.iconst 4, 1) := by decide +kernel
theorem dX11_withWords_11 : decode cX11_withWords 11 = .ok (.if_icmp .ge 27, 3) := by decide +kernel
theorem dX11_withWords_14 : decode cX11_withWords 14 = .ok (.aload_n 0, 1) := by decide +kernel
