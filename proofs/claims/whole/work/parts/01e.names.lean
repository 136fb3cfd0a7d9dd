theorem dX8_unionRule_191 : decode cX8_unionRule 191 = .ok (.iconst 2, 1) := by decide +kernel
theorem dX8_unionRule_192 : decode cX8_unionRule 192 = .ok (.if_icmp .ne 15, 3) := by decide +kernel
theorem dX8_unionRule_195 : decode cX8_unionRule 195 = .ok (.aload_n 0, 1) := by decide +kernel
theorem dX8_unionRule_196 : decode cX8_unionRule 196 = .ok (.iload_n 2, 1) := by decide +kernel
theorem dX8_unionRule_197 : decode cX8_unionRule 197 = .ok (.invokevirtual 152, 3) := by decide +kernel
theorem dX8_unionRule_200 : decode cX8_unionRule 200 = .ok (.ifCond .eq 7, 3) := by decide +kernel
theorem dX8_unionRule_203 : decode cX8_unionRule 203 = .ok (.iconst 1, 1) := by decide +kernel
theorem dX8_unionRule_204 : decode cX8_unionRule 204 = .ok (.goto 4, 3) := by decide +kernel
theorem dX8_unionRule_207 : decode cX8_unionRule 207 = .ok (.iconst 0, 1) := by decide +kernel
theorem dX8_unionRule_208 : decode cX8_unionRule 208 = .ok (.ireturn, 1) := by decide +kernel
theorem dX8_unionRule_209 : decode cX8_unionRule 209 = .ok (.aload_n 0, 1) := by decide +kernel
theorem dX8_unionRule_210 : decode cX8_unionRule 210 = .ok (.getfield 7, 3) := by decide +kernel
theorem dX8_unionRule_213 : decode cX8_unionRule 213 = .ok (.iload_n 3, 1) := by decide +kernel
theorem dX8_unionRule_214 : decode cX8_unionRule 214 = .ok (.iaload, 1) := by decide +kernel
theorem dX8_unionRule_215 : decode cX8_unionRule 215 = .ok (.bipush 8, 2) := by decide +kernel
theorem dX8_unionRule_217 : decode cX8_unionRule 217 = .ok (.if_icmp .ne 22, 3) := by decide +kernel
theorem dX8_unionRule_220 : decode cX8_unionRule 220 = .ok (.aload_n 0, 1) := by decide +kernel
theorem dX8_unionRule_221 : decode cX8_unionRule 221 = .ok (.iload_n 2, 1) := by decide +kernel
theorem dX8_unionRule_222 : decode cX8_unionRule 222 = .ok (.iload_n 3, 1) := by decide +kernel
theorem dX8_unionRule_223 : decode cX8_unionRule 223 = .ok (.iconst 1, 1) := by decide +kernel
theorem dX8_unionRule_224 : decode cX8_unionRule 224 = .ok (.iadd, 1) := by decide +kernel
theorem dX8_unionRule_225 : decode cX8_unionRule 225 = .ok (.invokevirtual 158, 3) := by decide +kernel
theorem dX8_unionRule_228 : decode cX8_unionRule 228 = .ok (.ifCond .eq 11, 3) := by decide +kernel
theorem dX8_unionRule_231 : decode cX8_unionRule 231 = .ok (.aload_n 0, 1) := by decide +kernel
theorem dX8_unionRule_232 : decode cX8_unionRule 232 = .ok (.iload_n 3, 1) := by decide +kernel
theorem dX8_unionRule_233 : decode cX8_unionRule 233 = .ok (.invokevirtual 152, 3) := by decide +kernel
theorem dX8_unionRule_236 : decode cX8_unionRule 236 = .ok (.goto 38, 3) := by decide +kernel
theorem dX8_unionRule_239 : decode cX8_unionRule 239 = .ok (.aload_n 0, 1) := by decide +kernel
theorem dX8_unionRule_240 : decode cX8_unionRule 240 = .ok (.getfield 7, 3) := by decide +kernel
theorem dX8_unionRule_243 : decode cX8_unionRule 243 = .ok (.iload_n 2, 1) := by decide +kernel
theorem dX8_unionRule_244 : decode cX8_unionRule 244 = .ok (.iaload, 1) := by decide +kernel
theorem dX8_unionRule_245 : decode cX8_unionRule 245 = .ok (.bipush 8, 2) := by decide +kernel
theorem dX8_unionRule_247 : decode cX8_unionRule 247 = .ok (.if_icmp .ne 26, 3) := by decide +kernel
theorem dX8_unionRule_250 : decode cX8_unionRule 250 = .ok (.aload_n 0, 1) := by decide +kernel
theorem dX8_unionRule_251 : decode cX8_unionRule 251 = .ok (.iload_n 2, 1) := by decide +kernel
theorem dX8_unionRule_252 : decode cX8_unionRule 252 = .ok (.iconst 1, 1) := by decide +kernel
theorem dX8_unionRule_253 : decode cX8_unionRule 253 = .ok (.iadd, 1) := by decide +kernel
theorem dX8_unionRule_254 : decode cX8_unionRule 254 = .ok (.iload_n 3, 1) := by decide +kernel
theorem dX8_unionRule_255 : decode cX8_unionRule 255 = .ok (.invokevirtual 158, 3) := by decide +kernel
theorem dX8_unionRule_258 : decode cX8_unionRule 258 = .ok (.ifCond .eq 15, 3) := by decide +kernel
theorem dX8_unionRule_261 : decode cX8_unionRule 261 = .ok (.aload_n 0, 1) := by decide +kernel
theorem dX8_unionRule_262 : decode cX8_unionRule 262 = .ok (.iload_n 2, 1) := by decide +kernel
theorem dX8_unionRule_263 : decode cX8_unionRule 263 = .ok (.invokevirtual 152, 3) := by decide +kernel
theorem dX8_unionRule_266 : decode cX8_unionRule 266 = .ok (.ifCond .eq 7, 3) := by decide +kernel
theorem dX8_unionRule_269 : decode cX8_unionRule 269 = .ok (.iconst 1, 1) := by decide +kernel
theorem dX8_unionRule_270 : decode cX8_unionRule 270 = .ok (.goto 4, 3) := by decide +kernel
theorem dX8_unionRule_273 : decode cX8_unionRule 273 = .ok (.iconst 0, 1) := by decide +kernel
theorem dX8_unionRule_274 : decode cX8_unionRule 274 = .ok (.ireturn, 1) := by decide +kernel
theorem dX8_unionRule_275 : decode cX8_unionRule 275 = .ok (.aload_n 0, 1) := by decide +kernel
theorem dX8_unionRule_276 : decode cX8_unionRule 276 = .ok (.iload_n 2, 1) := by decide +kernel
theorem dX8_unionRule_277 : decode cX8_unionRule 277 = .ok (.iload_n 3, 1) := by decide +kernel
theorem dX8_unionRule_278 : decode cX8_unionRule 278 = .ok (.invokevirtual 161, 3) := by decide +kernel
theorem dX8_unionRule_281 : decode cX8_unionRule 281 = .ok (.ifCond .eq 29, 3) := by decide +kernel
theorem dX8_unionRule_284 : decode cX8_unionRule 284 = .ok (.aload_n 0, 1) := by decide +kernel
theorem dX8_unionRule_285 : decode cX8_unionRule 285 = .ok (.iload_n 2, 1) := by decide +kernel
theorem dX8_unionRule_286 : decode cX8_unionRule 286 = .ok (.iconst 1, 1) := by decide +kernel
theorem dX8_unionRule_287 : decode cX8_unionRule 287 = .ok (.iadd, 1) := by decide +kernel
theorem dX8_unionRule_288 : decode cX8_unionRule 288 = .ok (.iload_n 3, 1) := by decide +kernel
theorem dX8_unionRule_289 : decode cX8_unionRule 289 = .ok (.iconst 1, 1) := by decide +kernel
theorem dX8_unionRule_290 : decode cX8_unionRule 290 = .ok (.iadd, 1) := by decide +kernel
theorem dX8_unionRule_291 : decode cX8_unionRule 291 = .ok (.invokevirtual 158, 3) := by decide +kernel
theorem dX8_unionRule_294 : decode cX8_unionRule 294 = .ok (.ifCond .eq 16, 3) := by decide +kernel
theorem dX8_unionRule_297 : decode cX8_unionRule 297 = .ok (.aload_n 0, 1) := by decide +kernel
theorem dX8_unionRule_298 : decode cX8_unionRule 298 = .ok (.iload_n 2, 1) := by decide +kernel
theorem dX8_unionRule_299 : decode cX8_unionRule 299 = .ok (.iload_n 3, 1) := by decide +kernel
theorem dX8_unionRule_300 : decode cX8_unionRule 300 = .ok (.invokevirtual 164, 3) := by decide +kernel
theorem dX8_unionRule_303 : decode cX8_unionRule 303 = .ok (.ifCond .eq 7, 3) := by decide +kernel
theorem dX8_unionRule_306 : decode cX8_unionRule 306 = .ok (.iconst 1, 1) := by decide +kernel
theorem dX8_unionRule_307 : decode cX8_unionRule 307 = .ok (.goto 4, 3) := by decide +kernel
theorem dX8_unionRule_310 : decode cX8_unionRule 310 = .ok (.iconst 0, 1) := by decide +kernel
theorem dX8_unionRule_311 : decode cX8_unionRule 311 = .ok (.ireturn, 1) := by decide +kernel
theorem dX8_unionRule_312 : decode cX8_unionRule 312 = .ok (.aload_n 0, 1) := by decide +kernel
theorem dX8_unionRule_313 : decode cX8_unionRule 313 = .ok (.iload_n 2, 1) := by decide +kernel
theorem dX8_unionRule_314 : decode cX8_unionRule 314 = .ok (.iload_n 3, 1) := by decide +kernel
theorem dX8_unionRule_315 : decode cX8_unionRule 315 = .ok (.invokevirtual 161, 3) := by decide +kernel
theorem dX8_unionRule_318 : decode cX8_unionRule 318 = .ok (.ifCond .eq 37, 3) := by decide +kernel
theorem dX8_unionRule_321 : decode cX8_unionRule 321 = .ok (.aload_n 0, 1) := by decide +kernel
theorem dX8_unionRule_322 : decode cX8_unionRule 322 = .ok (.aload_n 0, 1) := by decide +kernel
theorem dX8_unionRule_323 : decode cX8_unionRule 323 = .ok (.iload_n 2, 1) := by decide +kernel
theorem dX8_unionRule_324 : decode cX8_unionRule 324 = .ok (.iconst 1, 1) := by decide +kernel
theorem dX8_unionRule_325 : decode cX8_unionRule 325 = .ok (.iadd, 1) := by decide +kernel
theorem dX8_unionRule_326 : decode cX8_unionRule 326 = .ok (.invokevirtual 88, 3) := by decide +kernel
theorem dX8_unionRule_329 : decode cX8_unionRule 329 = .ok (.aload_n 0, 1) := by decide +kernel
theorem dX8_unionRule_330 : decode cX8_unionRule 330 = .ok (.iload_n 3, 1) := by decide +kernel
theorem dX8_unionRule_331 : decode cX8_unionRule 331 = .ok (.iconst 1, 1) := by decide +kernel
theorem dX8_unionRule_332 : decode cX8_unionRule 332 = .ok (.iadd, 1) := by decide +kernel
theorem dX8_unionRule_333 : decode cX8_unionRule 333 = .ok (.invokevirtual 88, 3) := by decide +kernel
theorem dX8_unionRule_336 : decode cX8_unionRule 336 = .ok (.invokevirtual 158, 3) := by decide +kernel
theorem dX8_unionRule_339 : decode cX8_unionRule 339 = .ok (.ifCond .eq 16, 3) := by decide +kernel
theorem dX8_unionRule_342 : decode cX8_unionRule 342 = .ok (.aload_n 0, 1) := by decide +kernel
theorem dX8_unionRule_343 : decode cX8_unionRule 343 = .ok (.iload_n 2, 1) := by decide +kernel
theorem dX8_unionRule_344 : decode cX8_unionRule 344 = .ok (.iload_n 3, 1) := by decide +kernel
theorem dX8_unionRule_345 : decode cX8_unionRule 345 = .ok (.invokevirtual 167, 3) := by decide +kernel
theorem dX8_unionRule_348 : decode cX8_unionRule 348 = .ok (.ifCond .eq 7, 3) := by decide +kernel
theorem dX8_unionRule_351 : decode cX8_unionRule 351 = .ok (.iconst 1, 1) := by decide +kernel
theorem dX8_unionRule_352 : decode cX8_unionRule 352 = .ok (.goto 4, 3) := by decide +kernel
theorem dX8_unionRule_355 : decode cX8_unionRule 355 = .ok (.iconst 0, 1) := by decide +kernel
theorem dX8_unionRule_356 : decode cX8_unionRule 356 = .ok (.ireturn, 1) := by decide +kernel
theorem dX8_unionRule_357 : decode cX8_unionRule 357 = .ok (.aload_n 0, 1) := by decide +kernel
theorem dX8_unionRule_358 : decode cX8_unionRule 358 = .ok (.iload_n 2, 1) := by decide +kernel
theorem dX8_unionRule_359 : decode cX8_unionRule 359 = .ok (.iload_n 3, 1) := by decide +kernel
theorem dX8_unionRule_360 : decode cX8_unionRule 360 = .ok (.invokevirtual 170, 3) := by decide +kernel
theorem dX8_unionRule_363 : decode cX8_unionRule 363 = .ok (.ireturn, 1) := by decide +kernel
theorem dX8_unionRule_364 : decode cX8_unionRule 364 = .ok (.aload_n 0, 1) := by decide +kernel
theorem dX8_unionRule_365 : decode cX8_unionRule 365 = .ok (.iload_n 2, 1) := by decide +kernel
theorem dX8_unionRule_366 : decode cX8_unionRule 366 = .ok (.iload_n 3, 1) := by decide +kernel
theorem dX8_unionRule_367 : decode cX8_unionRule 367 = .ok (.invokevirtual 173, 3) := by decide +kernel
theorem dX8_unionRule_370 : decode cX8_unionRule 370 = .ok (.ireturn, 1) := by decide +kernel
theorem dX8_unionRule_371 : decode cX8_unionRule 371 = .ok (.iconst 0, 1) := by decide +kernel
theorem dX8_unionRule_372 : decode cX8_unionRule 372 = .ok (.ireturn, 1) := by decide +kernel
theorem dX8_bothConcatenations_0 : decode cX8_bothConcatenations 0 = .ok (.aload_n 0, 1) := by decide +kernel
theorem dX8_bothConcatenations_1 : decode cX8_bothConcatenations 1 = .ok (.getfield 7, 3) := by decide +kernel
theorem dX8_bothConcatenations_4 : decode cX8_bothConcatenations 4 = .ok (.iload_n 1, 1) := by decide +kernel
theorem dX8_bothConcatenations_5 : decode cX8_bothConcatenations 5 = .ok (.iaload, 1) := by decide +kernel
theorem dX8_bothConcatenations_6 : decode cX8_bothConcatenations 6 = .ok (.bipush 7, 2) := by decide +kernel
theorem dX8_bothConcatenations_8 : decode cX8_bothConcatenations 8 = .ok (.if_icmp .ne 18, 3) := by decide +kernel
theorem dX8_bothConcatenations_11 : decode cX8_bothConcatenations 11 = .ok (.aload_n 0, 1) := by decide +kernel
theorem dX8_bothConcatenations_12 : decode cX8_bothConcatenations 12 = .ok (.getfield 7, 3) := by decide +kernel
theorem dX8_bothConcatenations_15 : decode cX8_bothConcatenations 15 = .ok (.iload_n 2, 1) := by decide +kernel
theorem dX8_bothConcatenations_16 : decode cX8_bothConcatenations 16 = .ok (.iaload, 1) := by decide +kernel
theorem dX8_bothConcatenations_17 : decode cX8_bothConcatenations 17 = .ok (.bipush 7, 2) := by decide +kernel
theorem dX8_bothConcatenations_19 : decode cX8_bothConcatenations 19 = .ok (.if_icmp .ne 7, 3) := by decide +kernel
theorem dX8_bothConcatenations_22 : decode cX8_bothConcatenations 22 = .ok (.iconst 1, 1) := by decide +kernel
theorem dX8_bothConcatenations_23 : decode cX8_bothConcatenations 23 = .ok (.goto 4, 3) := by decide +kernel
theorem dX8_bothConcatenations_26 : decode cX8_bothConcatenations 26 = .ok (.iconst 0, 1) := by decide +kernel
theorem dX8_bothConcatenations_27 : decode cX8_bothConcatenations 27 = .ok (.ireturn, 1) := by decide +kernel
set_option maxRecDepth 20000 in
theorem ggX8_factorsLeft_X8_emits : GoodIn wsX8_factorsLeft wsX8_emits := goodIn_r _ [5, 6, 7, 21, 22, 23, 24, 25, 26, 27, 28, 29, 30, 31, 32, 33, 34, 35, 36, 37, 38, 39, 40, 41, 42, 43, 44, 45, 46, 47, 48, 49, 50] (by decide +kernel) (by decide +kernel)
set_option maxRecDepth 20000 in
theorem gX8_factorsLeft_X8_emits : GoodIn wsX8_factorsLeft (wsV RX8 149 RX8 yX8_emits wsX8_emits) := goodIn_app (goodIn_of _ (by decide +kernel)) ggX8_factorsLeft_X8_emits
set_option maxRecDepth 20000 in
theorem ggX8_factorsLeft_X8_copies : GoodIn wsX8_factorsLeft wsX8_copies := goodIn_r _ [11, 12, 13, 14, 15, 4, 16, 1, 2, 3, 5, 6, 7, 21, 22, 23, 24, 25, 26, 27, 28, 29, 30, 31, 32, 33, 34, 35, 36, 37, 38, 39, 40, 41, 42, 43, 44, 45, 46, 47, 48, 49, 50] (by decide +kernel) (by decide +kernel)
set_option maxRecDepth 20000 in
theorem gX8_factorsLeft_X8_copies : GoodIn wsX8_factorsLeft (wsV RX8 152 RX8 yX8_copies wsX8_copies) := goodIn_app (goodIn_of _ (by decide +kernel)) ggX8_factorsLeft_X8_copies
set_option maxRecDepth 20000 in
theorem ggX8_factorsLeft_X8_endOf : GoodIn wsX8_factorsLeft wsX8_endOf := goodIn_r _ [16, 12, 21, 22, 23, 24, 25, 26, 27, 28, 29, 30, 31, 32, 33, 34, 35, 36, 37, 38, 39, 40, 41, 42, 43, 44, 45, 46, 47, 48, 49, 50] (by decide +kernel) (by decide +kernel)
set_option maxRecDepth 20000 in
theorem gX8_factorsLeft_X8_endOf : GoodIn wsX8_factorsLeft (wsV RX8 88 RX8 yX8_endOf wsX8_endOf) := goodIn_app (goodIn_of _ (by decide +kernel)) ggX8_factorsLeft_X8_endOf
set_option maxRecDepth 20000 in
theorem ggX8_factorsLeft_X8_writes : GoodIn wsX8_factorsLeft wsX8_writes := goodIn_r _ [20, 1, 2, 3, 4, 5, 6, 7, 8, 9, 10, 11, 12, 13, 14, 15, 16, 21, 22, 23, 24, 25, 26, 27, 28, 29, 30, 31, 32, 33, 34, 35, 36, 37, 38, 39, 40, 41, 42, 43, 44, 45, 46, 47, 48, 49, 50] (by decide +kernel) (by decide +kernel)
set_option maxRecDepth 20000 in
theorem gX8_factorsLeft_X8_writes : GoodIn wsX8_factorsLeft (wsV RX8 155 RX8 yX8_writes wsX8_writes) := goodIn_app (goodIn_of _ (by decide +kernel)) ggX8_factorsLeft_X8_writes
theorem dX8_factorsLeft_0 : decode cX8_factorsLeft 0 = .ok (.aload_n 0, 1) := by decide +kernel
theorem dX8_factorsLeft_1 : decode cX8_factorsLeft 1 = .ok (.bipush 7, 2) := by decide +kernel
theorem dX8_factorsLeft_3 : decode cX8_factorsLeft 3 = .ok (.invokevirtual 149, 3) := by decide +kernel
theorem dX8_factorsLeft_6 : decode cX8_factorsLeft 6 = .ok (.pop, 1) := by decide +kernel
theorem dX8_factorsLeft_7 : decode cX8_factorsLeft 7 = .ok (.aload_n 0, 1) := by decide +kernel
theorem dX8_factorsLeft_8 : decode cX8_factorsLeft 8 = .ok (.iload_n 1, 1) := by decide +kernel
theorem dX8_factorsLeft_9 : decode cX8_factorsLeft 9 = .ok (.iconst 1, 1) := by decide +kernel
theorem dX8_factorsLeft_10 : decode cX8_factorsLeft 10 = .ok (.iadd, 1) := by decide +kernel
theorem dX8_factorsLeft_11 : decode cX8_factorsLeft 11 = .ok (.invokevirtual 152, 3) := by decide +kernel
theorem dX8_factorsLeft_14 : decode cX8_factorsLeft 14 = .ok (.pop, 1) := by decide +kernel
theorem dX8_factorsLeft_15 : decode cX8_factorsLeft 15 = .ok (.aload_n 0, 1) := by decide +kernel
theorem dX8_factorsLeft_16 : decode cX8_factorsLeft 16 = .ok (.bipush 6, 2) := by decide +kernel
theorem dX8_factorsLeft_18 : decode cX8_factorsLeft 18 = .ok (.aload_n 0, 1) := by decide +kernel
theorem dX8_factorsLeft_19 : decode cX8_factorsLeft 19 = .ok (.iload_n 1, 1) := by decide +kernel
theorem dX8_factorsLeft_20 : decode cX8_factorsLeft 20 = .ok (.iconst 1, 1) := by decide +kernel
theorem dX8_factorsLeft_21 : decode cX8_factorsLeft 21 = .ok (.iadd, 1) := by decide +kernel
theorem dX8_factorsLeft_22 : decode cX8_factorsLeft 22 = .ok (.invokevirtual 88, 3) := by decide +kernel
theorem dX8_factorsLeft_25 : decode cX8_factorsLeft 25 = .ok (.aload_n 0, 1) := by decide +kernel
theorem dX8_factorsLeft_26 : decode cX8_factorsLeft 26 = .ok (.iload_n 2, 1) := by decide +kernel
theorem dX8_factorsLeft_27 : decode cX8_factorsLeft 27 = .ok (.iconst 1, 1) := by decide +kernel
theorem dX8_factorsLeft_28 : decode cX8_factorsLeft 28 = .ok (.iadd, 1) := by decide +kernel
theorem dX8_factorsLeft_29 : decode cX8_factorsLeft 29 = .ok (.invokevirtual 88, 3) := by decide +kernel
theorem dX8_factorsLeft_32 : decode cX8_factorsLeft 32 = .ok (.invokevirtual 155, 3) := by decide +kernel
theorem dX8_factorsLeft_35 : decode cX8_factorsLeft 35 = .ok (.ireturn, 1) := by decide +kernel
set_option maxRecDepth 20000 in
theorem ggX8_factorsRight_X8_emits : GoodIn wsX8_factorsRight wsX8_emits := goodIn_r _ [5, 6, 7, 21, 22, 23, 24, 25, 26, 27, 28, 29, 30, 31, 32, 33, 34, 35, 36, 37, 38, 39, 40, 41, 42, 43, 44, 45, 46, 47, 48, 49, 50] (by decide +kernel) (by decide +kernel)
set_option maxRecDepth 20000 in
theorem gX8_factorsRight_X8_emits : GoodIn wsX8_factorsRight (wsV RX8 149 RX8 yX8_emits wsX8_emits) := goodIn_app (goodIn_of _ (by decide +kernel)) ggX8_factorsRight_X8_emits
set_option maxRecDepth 20000 in
theorem ggX8_factorsRight_X8_writes : GoodIn wsX8_factorsRight wsX8_writes := goodIn_r _ [11, 1, 2, 3, 4, 5, 6, 7, 12, 13, 14, 15, 16, 17, 18, 19, 20, 21, 22, 23, 24, 25, 26, 27, 28, 29, 30, 31, 32, 33, 34, 35, 36, 37, 38, 39, 40, 41, 42, 43, 44, 45, 46, 47, 48, 49, 50] (by decide +kernel) (by decide +kernel)
set_option maxRecDepth 20000 in
theorem gX8_factorsRight_X8_writes : GoodIn wsX8_factorsRight (wsV RX8 155 RX8 yX8_writes wsX8_writes) := goodIn_app (goodIn_of _ (by decide +kernel)) ggX8_factorsRight_X8_writes
set_option maxRecDepth 20000 in
theorem ggX8_factorsRight_X8_endOf : GoodIn wsX8_factorsRight wsX8_endOf := goodIn_r _ [20, 16, 21, 22, 23, 24, 25, 26, 27, 28, 29, 30, 31, 32, 33, 34, 35, 36, 37, 38, 39, 40, 41, 42, 43, 44, 45, 46, 47, 48, 49, 50] (by decide +kernel) (by decide +kernel)
set_option maxRecDepth 20000 in
theorem gX8_factorsRight_X8_endOf : GoodIn wsX8_factorsRight (wsV RX8 88 RX8 yX8_endOf wsX8_endOf) := goodIn_app (goodIn_of _ (by decide +kernel)) ggX8_factorsRight_X8_endOf
set_option maxRecDepth 20000 in
theorem ggX8_factorsRight_X8_copies : GoodIn wsX8_factorsRight wsX8_copies := goodIn_r _ [15, 16, 17, 18, 19, 4, 20, 1, 2, 3, 5, 6, 7, 21, 22, 23, 24, 25, 26, 27, 28, 29, 30, 31, 32, 33, 34, 35, 36, 37, 38, 39, 40, 41, 42, 43, 44, 45, 46, 47, 48, 49, 50] (by decide +kernel) (by decide +kernel)
set_option maxRecDepth 20000 in
theorem gX8_factorsRight_X8_copies : GoodIn wsX8_factorsRight (wsV RX8 152 RX8 yX8_copies wsX8_copies) := goodIn_app (goodIn_of _ (by decide +kernel)) ggX8_factorsRight_X8_copies
theorem dX8_factorsRight_0 : decode cX8_factorsRight 0 = .ok (.aload_n 0, 1) := by decide +kernel
theorem dX8_factorsRight_1 : decode cX8_factorsRight 1 = .ok (.bipush 7, 2) := by decide +kernel
theorem dX8_factorsRight_3 : decode cX8_factorsRight 3 = .ok (.invokevirtual 149, 3) := by decide +kernel
theorem dX8_factorsRight_6 : decode cX8_factorsRight 6 = .ok (.pop, 1) := by decide +kernel
theorem dX8_factorsRight_7 : decode cX8_factorsRight 7 = .ok (.aload_n 0, 1) := by decide +kernel
theorem dX8_factorsRight_8 : decode cX8_factorsRight 8 = .ok (.bipush 6, 2) := by decide +kernel
theorem dX8_factorsRight_10 : decode cX8_factorsRight 10 = .ok (.iload_n 1, 1) := by decide +kernel
theorem dX8_factorsRight_11 : decode cX8_factorsRight 11 = .ok (.iconst 1, 1) := by decide +kernel
theorem dX8_factorsRight_12 : decode cX8_factorsRight 12 = .ok (.iadd, 1) := by decide +kernel
theorem dX8_factorsRight_13 : decode cX8_factorsRight 13 = .ok (.iload_n 2, 1) := by decide +kernel
theorem dX8_factorsRight_14 : decode cX8_factorsRight 14 = .ok (.iconst 1, 1) := by decide +kernel
theorem dX8_factorsRight_15 : decode cX8_factorsRight 15 = .ok (.iadd, 1) := by decide +kernel
theorem dX8_factorsRight_16 : decode cX8_factorsRight 16 = .ok (.invokevirtual 155, 3) := by decide +kernel
theorem dX8_factorsRight_19 : decode cX8_factorsRight 19 = .ok (.pop, 1) := by decide +kernel
theorem dX8_factorsRight_20 : decode cX8_factorsRight 20 = .ok (.aload_n 0, 1) := by decide +kernel
theorem dX8_factorsRight_21 : decode cX8_factorsRight 21 = .ok (.aload_n 0, 1) := by decide +kernel
theorem dX8_factorsRight_22 : decode cX8_factorsRight 22 = .ok (.iload_n 1, 1) := by decide +kernel
theorem dX8_factorsRight_23 : decode cX8_factorsRight 23 = .ok (.iconst 1, 1) := by decide +kernel
theorem dX8_factorsRight_24 : decode cX8_factorsRight 24 = .ok (.iadd, 1) := by decide +kernel
theorem dX8_factorsRight_25 : decode cX8_factorsRight 25 = .ok (.invokevirtual 88, 3) := by decide +kernel
theorem dX8_factorsRight_28 : decode cX8_factorsRight 28 = .ok (.invokevirtual 152, 3) := by decide +kernel
theorem dX8_factorsRight_31 : decode cX8_factorsRight 31 = .ok (.ireturn, 1) := by decide +kernel
set_option maxRecDepth 20000 in
theorem ggX8_emptyOrPlus_X8_isPlus : GoodIn wsX8_emptyOrPlus wsX8_isPlus := goodIn_r _ [6, 1, 7, 8, 9, 5, 10, 11, 12, 13, 14, 33, 34, 35, 36, 37, 38, 39, 40, 41, 42, 43, 44, 45, 46, 47, 48, 49, 50, 51, 52, 53, 54, 55, 56, 57, 58, 59, 60, 61, 62] (by decide +kernel) (by decide +kernel)
set_option maxRecDepth 20000 in
theorem gX8_emptyOrPlus_X8_isPlus : GoodIn wsX8_emptyOrPlus (wsV RX8 176 RX8 yX8_isPlus wsX8_isPlus) := goodIn_app (goodIn_of _ (by decide +kernel)) ggX8_emptyOrPlus_X8_isPlus
set_option maxRecDepth 20000 in
theorem ggX8_emptyOrPlus_X8_plainOf : GoodIn wsX8_emptyOrPlus wsX8_plainOf := goodIn_r _ [18, 7, 8, 9, 5, 10, 1, 33, 34, 35, 36, 37, 38, 39, 40, 41, 42, 43, 44, 45, 46, 47, 48, 49, 50, 51, 52, 53, 54, 55, 56, 57, 58, 59, 60, 61, 62] (by decide +kernel) (by decide +kernel)
set_option maxRecDepth 20000 in
theorem gX8_emptyOrPlus_X8_plainOf : GoodIn wsX8_emptyOrPlus (wsV RX8 180 RX8 yX8_plainOf wsX8_plainOf) := goodIn_app (goodIn_of _ (by decide +kernel)) ggX8_emptyOrPlus_X8_plainOf
set_option maxRecDepth 20000 in
theorem ggX8_emptyOrPlus_X8_starOf : GoodIn wsX8_emptyOrPlus wsX8_starOf := goodIn_r _ [22, 23, 24, 25, 5, 26, 27, 28, 29, 30, 31, 32, 1, 7, 8, 9, 10, 33, 34, 35, 36, 37, 38, 39, 40, 41, 42, 43, 44, 45, 46, 47, 48, 49, 50, 51, 52, 53, 54, 55, 56, 57, 58, 59, 60, 61, 62] (by decide +kernel) (by decide +kernel)
set_option maxRecDepth 20000 in
theorem gX8_emptyOrPlus_X8_starOf : GoodIn wsX8_emptyOrPlus (wsV RX8 184 RX8 yX8_starOf wsX8_starOf) := goodIn_app (goodIn_of _ (by decide +kernel)) ggX8_emptyOrPlus_X8_starOf
theorem dX8_emptyOrPlus_0 : decode cX8_emptyOrPlus 0 = .ok (.iconst 0, 1) := by decide +kernel
theorem dX8_emptyOrPlus_1 : decode cX8_emptyOrPlus 1 = .ok (.istore_n 3, 1) := by decide +kernel
theorem dX8_emptyOrPlus_2 : decode cX8_emptyOrPlus 2 = .ok (.iload_n 3, 1) := by decide +kernel
theorem dX8_emptyOrPlus_3 : decode cX8_emptyOrPlus 3 = .ok (.iconst 4, 1) := by decide +kernel
theorem dX8_emptyOrPlus_4 : decode cX8_emptyOrPlus 4 = .ok (.if_icmp .ge 82, 3) := by decide +kernel
theorem dX8_emptyOrPlus_7 : decode cX8_emptyOrPlus 7 = .ok (.iload_n 3, 1) := by decide +kernel
theorem dX8_emptyOrPlus_8 : decode cX8_emptyOrPlus 8 = .ok (.iconst 2, 1) := by decide +kernel
theorem dX8_emptyOrPlus_9 : decode cX8_emptyOrPlus 9 = .ok (.if_icmp .ge 7, 3) := by decide +kernel
theorem dX8_emptyOrPlus_12 : decode cX8_emptyOrPlus 12 = .ok (.iload_n 1, 1) := by decide +kernel
theorem dX8_emptyOrPlus_13 : decode cX8_emptyOrPlus 13 = .ok (.goto 4, 3) := by decide +kernel
theorem dX8_emptyOrPlus_16 : decode cX8_emptyOrPlus 16 = .ok (.iload_n 2, 1) := by decide +kernel
theorem dX8_emptyOrPlus_17 : decode cX8_emptyOrPlus 17 = .ok (.istore 4, 2) := by decide +kernel
theorem dX8_emptyOrPlus_19 : decode cX8_emptyOrPlus 19 = .ok (.iload_n 3, 1) := by decide +kernel
theorem dX8_emptyOrPlus_20 : decode cX8_emptyOrPlus 20 = .ok (.iconst 2, 1) := by decide +kernel
theorem dX8_emptyOrPlus_21 : decode cX8_emptyOrPlus 21 = .ok (.if_icmp .ge 7, 3) := by decide +kernel
theorem dX8_emptyOrPlus_24 : decode cX8_emptyOrPlus 24 = .ok (.iload_n 2, 1) := by decide +kernel
theorem dX8_emptyOrPlus_25 : decode cX8_emptyOrPlus 25 = .ok (.goto 4, 3) := by decide +kernel
theorem dX8_emptyOrPlus_28 : decode cX8_emptyOrPlus 28 = .ok (.iload_n 1, 1) := by decide +kernel
theorem dX8_emptyOrPlus_29 : decode cX8_emptyOrPlus 29 = .ok (.istore 5, 2) := by decide +kernel
theorem dX8_emptyOrPlus_31 : decode cX8_emptyOrPlus 31 = .ok (.iload_n 3, 1) := by decide +kernel
theorem dX8_emptyOrPlus_32 : decode cX8_emptyOrPlus 32 = .ok (.iconst 2, 1) := by decide +kernel
theorem dX8_emptyOrPlus_33 : decode cX8_emptyOrPlus 33 = .ok (.irem, 1) := by decide +kernel
theorem dX8_emptyOrPlus_34 : decode cX8_emptyOrPlus 34 = .ok (.iconst 1, 1) := by decide +kernel
theorem dX8_emptyOrPlus_35 : decode cX8_emptyOrPlus 35 = .ok (.if_icmp .ne 7, 3) := by decide +kernel
theorem dX8_emptyOrPlus_38 : decode cX8_emptyOrPlus 38 = .ok (.iconst 1, 1) := by decide +kernel
theorem dX8_emptyOrPlus_39 : decode cX8_emptyOrPlus 39 = .ok (.goto 4, 3) := by decide +kernel
theorem dX8_emptyOrPlus_42 : decode cX8_emptyOrPlus 42 = .ok (.iconst 0, 1) := by decide +kernel
theorem dX8_emptyOrPlus_43 : decode cX8_emptyOrPlus 43 = .ok (.istore 6, 2) := by decide +kernel
theorem dX8_emptyOrPlus_45 : decode cX8_emptyOrPlus 45 = .ok (.aload_n 0, 1) := by decide +kernel
theorem dX8_emptyOrPlus_46 : decode cX8_emptyOrPlus 46 = .ok (.getfield 7, 3) := by decide +kernel
theorem dX8_emptyOrPlus_49 : decode cX8_emptyOrPlus 49 = .ok (.iload 4, 2) := by decide +kernel
theorem dX8_emptyOrPlus_51 : decode cX8_emptyOrPlus 51 = .ok (.iaload, 1) := by decide +kernel
theorem dX8_emptyOrPlus_52 : decode cX8_emptyOrPlus 52 = .ok (.iconst 2, 1) := by decide +kernel
theorem dX8_emptyOrPlus_53 : decode cX8_emptyOrPlus 53 = .ok (.if_icmp .ne 27, 3) := by decide +kernel
theorem dX8_emptyOrPlus_56 : decode cX8_emptyOrPlus 56 = .ok (.aload_n 0, 1) := by decide +kernel
theorem dX8_emptyOrPlus_57 : decode cX8_emptyOrPlus 57 = .ok (.iload 5, 2) := by decide +kernel
theorem dX8_emptyOrPlus_59 : decode cX8_emptyOrPlus 59 = .ok (.iload 6, 2) := by decide +kernel
theorem dX8_emptyOrPlus_61 : decode cX8_emptyOrPlus 61 = .ok (.invokevirtual 176, 3) := by decide +kernel
theorem dX8_emptyOrPlus_64 : decode cX8_emptyOrPlus 64 = .ok (.ifCond .eq 16, 3) := by decide +kernel
theorem dX8_emptyOrPlus_67 : decode cX8_emptyOrPlus 67 = .ok (.aload_n 0, 1) := by decide +kernel
theorem dX8_emptyOrPlus_68 : decode cX8_emptyOrPlus 68 = .ok (.aload_n 0, 1) := by decide +kernel
theorem dX8_emptyOrPlus_69 : decode cX8_emptyOrPlus 69 = .ok (.iload 5, 2) := by decide +kernel
theorem dX8_emptyOrPlus_71 : decode cX8_emptyOrPlus 71 = .ok (.iload 6, 2) := by decide +kernel
theorem dX8_emptyOrPlus_73 : decode cX8_emptyOrPlus 73 = .ok (.invokevirtual 180, 3) := by decide +kernel
theorem dX8_emptyOrPlus_76 : decode cX8_emptyOrPlus 76 = .ok (.invokevirtual 184, 3) := by decide +kernel
theorem dX8_emptyOrPlus_79 : decode cX8_emptyOrPlus 79 = .ok (.ireturn, 1) := by decide +kernel
theorem dX8_emptyOrPlus_80 : decode cX8_emptyOrPlus 80 = .ok (.iinc 3 1, 3) := by decide +kernel
theorem dX8_emptyOrPlus_83 : decode cX8_emptyOrPlus 83 = .ok (.goto (-81), 3) := by decide +kernel
theorem dX8_emptyOrPlus_86 : decode cX8_emptyOrPlus 86 = .ok (.iconst 0, 1) := by decide +kernel
theorem dX8_emptyOrPlus_87 : decode cX8_emptyOrPlus 87 = .ok (.ireturn, 1) := by decide +kernel
set_option maxRecDepth 20000 in
theorem ggX8_absorbs_X8_areSame : GoodIn wsX8_absorbs wsX8_areSame := goodIn_r _ [6, 1, 7, 8, 9, 5, 10, 25, 26, 27, 28, 29, 30, 31, 32, 33, 34, 35, 36, 37, 38, 39, 40, 41, 42, 43, 44, 45, 46, 47, 48, 49, 50, 51, 52, 53, 54] (by decide +kernel) (by decide +kernel)
set_option maxRecDepth 20000 in
theorem gX8_absorbs_X8_areSame : GoodIn wsX8_absorbs (wsV RX8 158 RX8 yX8_areSame wsX8_areSame) := goodIn_app (goodIn_of _ (by decide +kernel)) ggX8_absorbs_X8_areSame
set_option maxRecDepth 20000 in
theorem ggX8_absorbs_X8_copies : GoodIn wsX8_absorbs wsX8_copies := goodIn_r _ [14, 1, 7, 8, 9, 5, 10, 15, 16, 17, 18, 19, 20, 25, 26, 27, 28, 29, 30, 31, 32, 33, 34, 35, 36, 37, 38, 39, 40, 41, 42, 43, 44, 45, 46, 47, 48, 49, 50, 51, 52, 53, 54] (by decide +kernel) (by decide +kernel)
set_option maxRecDepth 20000 in
theorem gX8_absorbs_X8_copies : GoodIn wsX8_absorbs (wsV RX8 152 RX8 yX8_copies wsX8_copies) := goodIn_app (goodIn_of _ (by decide +kernel)) ggX8_absorbs_X8_copies
set_option maxRecDepth 20000 in
theorem ggX8_absorbs_X8_endOf : GoodIn wsX8_absorbs wsX8_endOf := goodIn_r _ [10, 1, 25, 26, 27, 28, 29, 30, 31, 32, 33, 34, 35, 36, 37, 38, 39, 40, 41, 42, 43, 44, 45, 46, 47, 48, 49, 50, 51, 52, 53, 54] (by decide +kernel) (by decide +kernel)
set_option maxRecDepth 20000 in
theorem gX8_absorbs_X8_endOf : GoodIn wsX8_absorbs (wsV RX8 88 RX8 yX8_endOf wsX8_endOf) := goodIn_app (goodIn_of _ (by decide +kernel)) ggX8_absorbs_X8_endOf
set_option maxRecDepth 20000 in
theorem ggX8_absorbs_X8_writes : GoodIn wsX8_absorbs wsX8_writes := goodIn_r _ [24, 15, 16, 17, 5, 18, 19, 20, 11, 12, 13, 14, 1, 7, 8, 9, 10, 25, 26, 27, 28, 29, 30, 31, 32, 33, 34, 35, 36, 37, 38, 39, 40, 41, 42, 43, 44, 45, 46, 47, 48, 49, 50, 51, 52, 53, 54] (by decide +kernel) (by decide +kernel)
set_option maxRecDepth 20000 in
theorem gX8_absorbs_X8_writes : GoodIn wsX8_absorbs (wsV RX8 155 RX8 yX8_writes wsX8_writes) := goodIn_app (goodIn_of _ (by decide +kernel)) ggX8_absorbs_X8_writes
theorem dX8_absorbs_0 : decode cX8_absorbs 0 = .ok (.aload_n 0, 1) := by decide +kernel
theorem dX8_absorbs_1 : decode cX8_absorbs 1 = .ok (.getfield 7, 3) := by decide +kernel
theorem dX8_absorbs_4 : decode cX8_absorbs 4 = .ok (.iload_n 2, 1) := by decide +kernel
theorem dX8_absorbs_5 : decode cX8_absorbs 5 = .ok (.iaload, 1) := by decide +kernel
theorem dX8_absorbs_6 : decode cX8_absorbs 6 = .ok (.bipush 6, 2) := by decide +kernel
theorem dX8_absorbs_8 : decode cX8_absorbs 8 = .ok (.if_icmp .eq 5, 3) := by decide +kernel
theorem dX8_absorbs_11 : decode cX8_absorbs 11 = .ok (.iconst 0, 1) := by decide +kernel
theorem dX8_absorbs_12 : decode cX8_absorbs 12 = .ok (.ireturn, 1) := by decide +kernel
theorem dX8_absorbs_13 : decode cX8_absorbs 13 = .ok (.aload_n 0, 1) := by decide +kernel
theorem dX8_absorbs_14 : decode cX8_absorbs 14 = .ok (.iload_n 1, 1) := by decide +kernel
theorem dX8_absorbs_15 : decode cX8_absorbs 15 = .ok (.iload_n 2, 1) := by decide +kernel
theorem dX8_absorbs_16 : decode cX8_absorbs 16 = .ok (.iconst 1, 1) := by decide +kernel
theorem dX8_absorbs_17 : decode cX8_absorbs 17 = .ok (.iadd, 1) := by decide +kernel
theorem dX8_absorbs_18 : decode cX8_absorbs 18 = .ok (.invokevirtual 158, 3) := by decide +kernel
theorem dX8_absorbs_21 : decode cX8_absorbs 21 = .ok (.ifCond .eq 9, 3) := by decide +kernel
theorem dX8_absorbs_24 : decode cX8_absorbs 24 = .ok (.aload_n 0, 1) := by decide +kernel
theorem dX8_absorbs_25 : decode cX8_absorbs 25 = .ok (.iload_n 2, 1) := by decide +kernel
theorem dX8_absorbs_26 : decode cX8_absorbs 26 = .ok (.invokevirtual 152, 3) := by decide +kernel
theorem dX8_absorbs_29 : decode cX8_absorbs 29 = .ok (.ireturn, 1) := by decide +kernel
theorem dX8_absorbs_30 : decode cX8_absorbs 30 = .ok (.aload_n 0, 1) := by decide +kernel
theorem dX8_absorbs_31 : decode cX8_absorbs 31 = .ok (.iload_n 1, 1) := by decide +kernel
theorem dX8_absorbs_32 : decode cX8_absorbs 32 = .ok (.aload_n 0, 1) := by decide +kernel
theorem dX8_absorbs_33 : decode cX8_absorbs 33 = .ok (.iload_n 2, 1) := by decide +kernel
theorem dX8_absorbs_34 : decode cX8_absorbs 34 = .ok (.iconst 1, 1) := by decide +kernel
theorem dX8_absorbs_35 : decode cX8_absorbs 35 = .ok (.iadd, 1) := by decide +kernel
theorem dX8_absorbs_36 : decode cX8_absorbs 36 = .ok (.invokevirtual 88, 3) := by decide +kernel
theorem dX8_absorbs_39 : decode cX8_absorbs 39 = .ok (.invokevirtual 158, 3) := by decide +kernel
theorem dX8_absorbs_42 : decode cX8_absorbs 42 = .ok (.ifCond .eq 20, 3) := by decide +kernel
theorem dX8_absorbs_45 : decode cX8_absorbs 45 = .ok (.aload_n 0, 1) := by decide +kernel
theorem dX8_absorbs_46 : decode cX8_absorbs 46 = .ok (.bipush 6, 2) := by decide +kernel
theorem dX8_absorbs_48 : decode cX8_absorbs 48 = .ok (.iload_n 1, 1) := by decide +kernel
theorem dX8_absorbs_49 : decode cX8_absorbs 49 = .ok (.iload_n 2, 1) := by decide +kernel
theorem dX8_absorbs_50 : decode cX8_absorbs 50 = .ok (.iconst 1, 1) := by decide +kernel
theorem dX8_absorbs_51 : decode cX8_absorbs 51 = .ok (.iadd, 1) := by decide +kernel
theorem dX8_absorbs_52 : decode cX8_absorbs 52 = .ok (.invokevirtual 155, 3) := by decide +kernel
theorem dX8_absorbs_55 : decode cX8_absorbs 55 = .ok (.ifCond .eq 7, 3) := by decide +kernel
theorem dX8_absorbs_58 : decode cX8_absorbs 58 = .ok (.iconst 1, 1) := by decide +kernel
theorem dX8_absorbs_59 : decode cX8_absorbs 59 = .ok (.goto 4, 3) := by decide +kernel
theorem dX8_absorbs_62 : decode cX8_absorbs 62 = .ok (.iconst 0, 1) := by decide +kernel
theorem dX8_absorbs_63 : decode cX8_absorbs 63 = .ok (.ireturn, 1) := by decide +kernel
set_option maxRecDepth 20000 in
theorem ggX8_concatenationRule_X8_emits : GoodIn wsX8_concatenationRule wsX8_emits := goodIn_r _ [6, 7, 8, 21, 22, 23, 24, 25, 26, 27, 28, 29, 30, 31, 32, 33, 34, 35, 36, 37, 38, 39, 40, 41, 42, 43, 44, 45, 46, 47, 48, 49, 50] (by decide +kernel) (by decide +kernel)
set_option maxRecDepth 20000 in
theorem gX8_concatenationRule_X8_emits : GoodIn wsX8_concatenationRule (wsV RX8 149 RX8 yX8_emits wsX8_emits) := goodIn_app (goodIn_of _ (by decide +kernel)) ggX8_concatenationRule_X8_emits
set_option maxRecDepth 20000 in
theorem ggX8_concatenationRule_X8_copies : GoodIn wsX8_concatenationRule wsX8_copies := goodIn_r _ [12, 1, 13, 14, 15, 5, 16, 2, 3, 4, 6, 7, 8, 21, 22, 23, 24, 25, 26, 27, 28, 29, 30, 31, 32, 33, 34, 35, 36, 37, 38, 39, 40, 41, 42, 43, 44, 45, 46, 47, 48, 49, 50] (by decide +kernel) (by decide +kernel)
set_option maxRecDepth 20000 in
theorem gX8_concatenationRule_X8_copies : GoodIn wsX8_concatenationRule (wsV RX8 152 RX8 yX8_copies wsX8_copies) := goodIn_app (goodIn_of _ (by decide +kernel)) ggX8_concatenationRule_X8_copies
set_option maxRecDepth 20000 in
theorem ggX8_concatenationRule_X8_areSame : GoodIn wsX8_concatenationRule wsX8_areSame := goodIn_r _ [20, 1, 13, 14, 15, 5, 16, 21, 22, 23, 24, 25, 26, 27, 28, 29, 30, 31, 32, 33, 34, 35, 36, 37, 38, 39, 40, 41, 42, 43, 44, 45, 46, 47, 48, 49, 50] (by decide +kernel) (by decide +kernel)
set_option maxRecDepth 20000 in
theorem gX8_concatenationRule_X8_areSame : GoodIn wsX8_concatenationRule (wsV RX8 158 RX8 yX8_areSame wsX8_areSame) := goodIn_app (goodIn_of _ (by decide +kernel)) ggX8_concatenationRule_X8_areSame
theorem dX8_concatenationRule_0 : decode cX8_concatenationRule 0 = .ok (.iload_n 1, 1) := by decide +kernel
theorem dX8_concatenationRule_1 : decode cX8_concatenationRule 1 = .ok (.lookupswitch 145 #[(1, 35), (2, 69), (7, 111)], 35) := by decide +kernel
theorem dX8_concatenationRule_36 : decode cX8_concatenationRule 36 = .ok (.aload_n 0, 1) := by decide +kernel
theorem dX8_concatenationRule_37 : decode cX8_concatenationRule 37 = .ok (.getfield 7, 3) := by decide +kernel
theorem dX8_concatenationRule_40 : decode cX8_concatenationRule 40 = .ok (.iload_n 2, 1) := by decide +kernel
theorem dX8_concatenationRule_41 : decode cX8_concatenationRule 41 = .ok (.iaload, 1) := by decide +kernel
theorem dX8_concatenationRule_42 : decode cX8_concatenationRule 42 = .ok (.iconst 1, 1) := by decide +kernel
theorem dX8_concatenationRule_43 : decode cX8_concatenationRule 43 = .ok (.if_icmp .eq 13, 3) := by decide +kernel
theorem dX8_concatenationRule_46 : decode cX8_concatenationRule 46 = .ok (.aload_n 0, 1) := by decide +kernel
theorem dX8_concatenationRule_47 : decode cX8_concatenationRule 47 = .ok (.getfield 7, 3) := by decide +kernel
theorem dX8_concatenationRule_50 : decode cX8_concatenationRule 50 = .ok (.iload_n 3, 1) := by decide +kernel
theorem dX8_concatenationRule_51 : decode cX8_concatenationRule 51 = .ok (.iaload, 1) := by decide +kernel
theorem dX8_concatenationRule_52 : decode cX8_concatenationRule 52 = .ok (.iconst 1, 1) := by decide +kernel
theorem dX8_concatenationRule_53 : decode cX8_concatenationRule 53 = .ok (.if_icmp .ne 15, 3) := by decide +kernel
theorem dX8_concatenationRule_56 : decode cX8_concatenationRule 56 = .ok (.aload_n 0, 1) := by decide +kernel
theorem dX8_concatenationRule_57 : decode cX8_concatenationRule 57 = .ok (.iconst 1, 1) := by decide +kernel
theorem dX8_concatenationRule_58 : decode cX8_concatenationRule 58 = .ok (.invokevirtual 149, 3) := by decide +kernel
theorem dX8_concatenationRule_61 : decode cX8_concatenationRule 61 = .ok (.ifCond .eq 7, 3) := by decide +kernel
theorem dX8_concatenationRule_64 : decode cX8_concatenationRule 64 = .ok (.iconst 1, 1) := by decide +kernel
theorem dX8_concatenationRule_65 : decode cX8_concatenationRule 65 = .ok (.goto 4, 3) := by decide +kernel
theorem dX8_concatenationRule_68 : decode cX8_concatenationRule 68 = .ok (.iconst 0, 1) := by decide +kernel
theorem dX8_concatenationRule_69 : decode cX8_concatenationRule 69 = .ok (.ireturn, 1) := by decide +kernel
theorem dX8_concatenationRule_70 : decode cX8_concatenationRule 70 = .ok (.aload_n 0, 1) := by decide +kernel
theorem dX8_concatenationRule_71 : decode cX8_concatenationRule 71 = .ok (.getfield 7, 3) := by decide +kernel
theorem dX8_concatenationRule_74 : decode cX8_concatenationRule 74 = .ok (.iload_n 2, 1) := by decide +kernel
theorem dX8_concatenationRule_75 : decode cX8_concatenationRule 75 = .ok (.iaload, 1) := by decide +kernel
theorem dX8_concatenationRule_76 : decode cX8_concatenationRule 76 = .ok (.iconst 2, 1) := by decide +kernel
theorem dX8_concatenationRule_77 : decode cX8_concatenationRule 77 = .ok (.if_icmp .ne 11, 3) := by decide +kernel
theorem dX8_concatenationRule_80 : decode cX8_concatenationRule 80 = .ok (.aload_n 0, 1) := by decide +kernel
theorem dX8_concatenationRule_81 : decode cX8_concatenationRule 81 = .ok (.iload_n 3, 1) := by decide +kernel
theorem dX8_concatenationRule_82 : decode cX8_concatenationRule 82 = .ok (.invokevirtual 152, 3) := by decide +kernel
theorem dX8_concatenationRule_85 : decode cX8_concatenationRule 85 = .ok (.goto 26, 3) := by decide +kernel
theorem dX8_concatenationRule_88 : decode cX8_concatenationRule 88 = .ok (.aload_n 0, 1) := by decide +kernel
theorem dX8_concatenationRule_89 : decode cX8_concatenationRule 89 = .ok (.getfield 7, 3) := by decide +kernel
theorem dX8_concatenationRule_92 : decode cX8_concatenationRule 92 = .ok (.iload_n 3, 1) := by decide +kernel
theorem dX8_concatenationRule_93 : decode cX8_concatenationRule 93 = .ok (.iaload, 1) := by decide +kernel
theorem dX8_concatenationRule_94 : decode cX8_concatenationRule 94 = .ok (.iconst 2, 1) := by decide +kernel
theorem dX8_concatenationRule_95 : decode cX8_concatenationRule 95 = .ok (.if_icmp .ne 15, 3) := by decide +kernel
theorem dX8_concatenationRule_98 : decode cX8_concatenationRule 98 = .ok (.aload_n 0, 1) := by decide +kernel
theorem dX8_concatenationRule_99 : decode cX8_concatenationRule 99 = .ok (.iload_n 2, 1) := by decide +kernel
theorem dX8_concatenationRule_100 : decode cX8_concatenationRule 100 = .ok (.invokevirtual 152, 3) := by decide +kernel
theorem dX8_concatenationRule_103 : decode cX8_concatenationRule 103 = .ok (.ifCond .eq 7, 3) := by decide +kernel
theorem dX8_concatenationRule_106 : decode cX8_concatenationRule 106 = .ok (.iconst 1, 1) := by decide +kernel
theorem dX8_concatenationRule_107 : decode cX8_concatenationRule 107 = .ok (.goto 4, 3) := by decide +kernel
theorem dX8_concatenationRule_110 : decode cX8_concatenationRule 110 = .ok (.iconst 0, 1) := by decide +kernel
theorem dX8_concatenationRule_111 : decode cX8_concatenationRule 111 = .ok (.ireturn, 1) := by decide +kernel
theorem dX8_concatenationRule_112 : decode cX8_concatenationRule 112 = .ok (.aload_n 0, 1) := by decide +kernel
theorem dX8_concatenationRule_113 : decode cX8_concatenationRule 113 = .ok (.getfield 7, 3) := by decide +kernel
theorem dX8_concatenationRule_116 : decode cX8_concatenationRule 116 = .ok (.iload_n 2, 1) := by decide +kernel
theorem dX8_concatenationRule_117 : decode cX8_concatenationRule 117 = .ok (.iaload, 1) := by decide +kernel
theorem dX8_concatenationRule_118 : decode cX8_concatenationRule 118 = .ok (.bipush 8, 2) := by decide +kernel
theorem dX8_concatenationRule_120 : decode cX8_concatenationRule 120 = .ok (.if_icmp .ne 24, 3) := by decide +kernel
theorem dX8_concatenationRule_123 : decode cX8_concatenationRule 123 = .ok (.aload_n 0, 1) := by decide +kernel
theorem dX8_concatenationRule_124 : decode cX8_concatenationRule 124 = .ok (.iload_n 2, 1) := by decide +kernel
theorem dX8_concatenationRule_125 : decode cX8_concatenationRule 125 = .ok (.iload_n 3, 1) := by decide +kernel
theorem dX8_concatenationRule_126 : decode cX8_concatenationRule 126 = .ok (.invokevirtual 158, 3) := by decide +kernel
theorem dX8_concatenationRule_129 : decode cX8_concatenationRule 129 = .ok (.ifCond .eq 15, 3) := by decide +kernel
theorem dX8_concatenationRule_132 : decode cX8_concatenationRule 132 = .ok (.aload_n 0, 1) := by decide +kernel
theorem dX8_concatenationRule_133 : decode cX8_concatenationRule 133 = .ok (.iload_n 2, 1) := by decide +kernel
theorem dX8_concatenationRule_134 : decode cX8_concatenationRule 134 = .ok (.invokevirtual 152, 3) := by decide +kernel
theorem dX8_concatenationRule_137 : decode cX8_concatenationRule 137 = .ok (.ifCond .eq 7, 3) := by decide +kernel
theorem dX8_concatenationRule_140 : decode cX8_concatenationRule 140 = .ok (.iconst 1, 1) := by decide +kernel
theorem dX8_concatenationRule_141 : decode cX8_concatenationRule 141 = .ok (.goto 4, 3) := by decide +kernel
theorem dX8_concatenationRule_144 : decode cX8_concatenationRule 144 = .ok (.iconst 0, 1) := by decide +kernel
theorem dX8_concatenationRule_145 : decode cX8_concatenationRule 145 = .ok (.ireturn, 1) := by decide +kernel
theorem dX8_concatenationRule_146 : decode cX8_concatenationRule 146 = .ok (.iconst 0, 1) := by decide +kernel
theorem dX8_concatenationRule_147 : decode cX8_concatenationRule 147 = .ok (.ireturn, 1) := by decide +kernel
set_option maxRecDepth 20000 in
theorem ggX8_starRule_X8_endOf : GoodIn wsX8_starRule wsX8_endOf := goodIn_r _ [6, 1, 29, 30, 31, 32, 33, 34, 35, 36, 37, 38, 39, 40, 41, 42, 43, 44, 45, 46, 47, 48, 49, 50, 51, 52, 53, 54, 55, 56, 57, 58] (by decide +kernel) (by decide +kernel)
set_option maxRecDepth 20000 in
theorem gX8_starRule_X8_endOf : GoodIn wsX8_starRule (wsV RX8 88 RX8 yX8_endOf wsX8_endOf) := goodIn_app (goodIn_of _ (by decide +kernel)) ggX8_starRule_X8_endOf
set_option maxRecDepth 20000 in
theorem ggX8_starRule_X8_emits : GoodIn wsX8_starRule wsX8_emits := goodIn_r _ [10, 11, 12, 29, 30, 31, 32, 33, 34, 35, 36, 37, 38, 39, 40, 41, 42, 43, 44, 45, 46, 47, 48, 49, 50, 51, 52, 53, 54, 55, 56, 57, 58] (by decide +kernel) (by decide +kernel)
set_option maxRecDepth 20000 in
theorem gX8_starRule_X8_emits : GoodIn wsX8_starRule (wsV RX8 149 RX8 yX8_emits wsX8_emits) := goodIn_app (goodIn_of _ (by decide +kernel)) ggX8_starRule_X8_emits
set_option maxRecDepth 20000 in
theorem ggX8_starRule_X8_copies : GoodIn wsX8_starRule wsX8_copies := goodIn_r _ [16, 1, 2, 3, 4, 5, 6, 7, 8, 9, 10, 11, 12, 29, 30, 31, 32, 33, 34, 35, 36, 37, 38, 39, 40, 41, 42, 43, 44, 45, 46, 47, 48, 49, 50, 51, 52, 53, 54, 55, 56, 57, 58] (by decide +kernel) (by decide +kernel)
set_option maxRecDepth 20000 in
theorem gX8_starRule_X8_copies : GoodIn wsX8_starRule (wsV RX8 152 RX8 yX8_copies wsX8_copies) := goodIn_app (goodIn_of _ (by decide +kernel)) ggX8_starRule_X8_copies
set_option maxRecDepth 20000 in
theorem ggX8_starRule_X8_starOf : GoodIn wsX8_starRule wsX8_starOf := goodIn_r _ [20, 7, 8, 9, 5, 10, 11, 12, 13, 14, 15, 16, 1, 2, 3, 4, 6, 29, 30, 31, 32, 33, 34, 35, 36, 37, 38, 39, 40, 41, 42, 43, 44, 45, 46, 47, 48, 49, 50, 51, 52, 53, 54, 55, 56, 57, 58] (by decide +kernel) (by decide +kernel)
set_option maxRecDepth 20000 in
theorem gX8_starRule_X8_starOf : GoodIn wsX8_starRule (wsV RX8 184 RX8 yX8_starOf wsX8_starOf) := goodIn_app (goodIn_of _ (by decide +kernel)) ggX8_starRule_X8_starOf
set_option maxRecDepth 20000 in
theorem ggX8_starRule_X8_starOfUnion : GoodIn wsX8_starRule wsX8_starOfUnion := goodIn_r _ [24, 7, 8, 9, 5, 10, 11, 12, 25, 26, 27, 28, 13, 14, 15, 16, 1, 2, 3, 4, 6, 29, 30, 31, 32, 33, 34, 35, 36, 37, 38, 39, 40, 41, 42, 43, 44, 45, 46, 47, 48, 49, 50, 51, 52, 53, 54, 55, 56, 57, 58] (by decide +kernel) (by decide +kernel)
set_option maxRecDepth 20000 in
theorem gX8_starRule_X8_starOfUnion : GoodIn wsX8_starRule (wsV RX8 187 RX8 yX8_starOfUnion wsX8_starOfUnion) := goodIn_app (goodIn_of _ (by decide +kernel)) ggX8_starRule_X8_starOfUnion
theorem dX8_starRule_0 : decode cX8_starRule 0 = .ok (.iload_n 2, 1) := by decide +kernel
theorem dX8_starRule_1 : decode cX8_starRule 1 = .ok (.iconst 1, 1) := by decide +kernel
theorem dX8_starRule_2 : decode cX8_starRule 2 = .ok (.iadd, 1) := by decide +kernel
theorem dX8_starRule_3 : decode cX8_starRule 3 = .ok (.istore_n 3, 1) := by decide +kernel
theorem dX8_starRule_4 : decode cX8_starRule 4 = .ok (.aload_n 0, 1) := by decide +kernel
theorem dX8_starRule_5 : decode cX8_starRule 5 = .ok (.getfield 7, 3) := by decide +kernel
theorem dX8_starRule_8 : decode cX8_starRule 8 = .ok (.iload_n 2, 1) := by decide +kernel
theorem dX8_starRule_9 : decode cX8_starRule 9 = .ok (.iaload, 1) := by decide +kernel
theorem dX8_starRule_10 : decode cX8_starRule 10 = .ok (.bipush 6, 2) := by decide +kernel
theorem dX8_starRule_12 : decode cX8_starRule 12 = .ok (.if_icmp .eq 14, 3) := by decide +kernel
theorem dX8_starRule_15 : decode cX8_starRule 15 = .ok (.aload_n 0, 1) := by decide +kernel
theorem dX8_starRule_16 : decode cX8_starRule 16 = .ok (.getfield 7, 3) := by decide +kernel
theorem dX8_starRule_19 : decode cX8_starRule 19 = .ok (.iload_n 2, 1) := by decide +kernel
theorem dX8_starRule_20 : decode cX8_starRule 20 = .ok (.iaload, 1) := by decide +kernel
theorem dX8_starRule_21 : decode cX8_starRule 21 = .ok (.bipush 7, 2) := by decide +kernel
theorem dX8_starRule_23 : decode cX8_starRule 23 = .ok (.if_icmp .ne 11, 3) := by decide +kernel
theorem dX8_starRule_26 : decode cX8_starRule 26 = .ok (.aload_n 0, 1) := by decide +kernel
theorem dX8_starRule_27 : decode cX8_starRule 27 = .ok (.iload_n 3, 1) := by decide +kernel
theorem dX8_starRule_28 : decode cX8_starRule 28 = .ok (.invokevirtual 88, 3) := by decide +kernel
theorem dX8_starRule_31 : decode cX8_starRule 31 = .ok (.goto 4, 3) := by decide +kernel
theorem dX8_starRule_34 : decode cX8_starRule 34 = .ok (.iload_n 2, 1) := by decide +kernel
theorem dX8_starRule_35 : decode cX8_starRule 35 = .ok (.istore 4, 2) := by decide +kernel
theorem dX8_starRule_37 : decode cX8_starRule 37 = .ok (.iload_n 1, 1) := by decide +kernel
theorem dX8_starRule_38 : decode cX8_starRule 38 = .ok (.tableswitch 290 3 14 #[62, 290, 86, 111, 290, 290, 290, 290, 290, 290, 169, 236], 62) := by decide +kernel
theorem dX8_starRule_100 : decode cX8_starRule 100 = .ok (.aload_n 0, 1) := by decide +kernel
theorem dX8_starRule_101 : decode cX8_starRule 101 = .ok (.getfield 7, 3) := by decide +kernel
theorem dX8_starRule_104 : decode cX8_starRule 104 = .ok (.iload_n 2, 1) := by decide +kernel
theorem dX8_starRule_105 : decode cX8_starRule 105 = .ok (.iaload, 1) := by decide +kernel
theorem dX8_starRule_106 : decode cX8_starRule 106 = .ok (.iconst 2, 1) := by decide +kernel
theorem dX8_starRule_107 : decode cX8_starRule 107 = .ok (.if_icmp .gt 15, 3) := by decide +kernel
theorem dX8_starRule_110 : decode cX8_starRule 110 = .ok (.aload_n 0, 1) := by decide +kernel
theorem dX8_starRule_111 : decode cX8_starRule 111 = .ok (.iconst 2, 1) := by decide +kernel
theorem dX8_starRule_112 : decode cX8_starRule 112 = .ok (.invokevirtual 149, 3) := by decide +kernel
theorem dX8_starRule_115 : decode cX8_starRule 115 = .ok (.ifCond .eq 7, 3) := by decide +kernel
theorem dX8_starRule_118 : decode cX8_starRule 118 = .ok (.iconst 1, 1) := by decide +kernel
theorem dX8_starRule_119 : decode cX8_starRule 119 = .ok (.goto 4, 3) := by decide +kernel
theorem dX8_starRule_122 : decode cX8_starRule 122 = .ok (.iconst 0, 1) := by decide +kernel
theorem dX8_starRule_123 : decode cX8_starRule 123 = .ok (.ireturn, 1) := by decide +kernel
theorem dX8_starRule_124 : decode cX8_starRule 124 = .ok (.aload_n 0, 1) := by decide +kernel
theorem dX8_starRule_125 : decode cX8_starRule 125 = .ok (.getfield 7, 3) := by decide +kernel
theorem dX8_starRule_128 : decode cX8_starRule 128 = .ok (.iload_n 2, 1) := by decide +kernel
theorem dX8_starRule_129 : decode cX8_starRule 129 = .ok (.iaload, 1) := by decide +kernel
theorem dX8_starRule_130 : decode cX8_starRule 130 = .ok (.bipush 8, 2) := by decide +kernel
theorem dX8_starRule_132 : decode cX8_starRule 132 = .ok (.if_icmp .ne 15, 3) := by decide +kernel
theorem dX8_starRule_135 : decode cX8_starRule 135 = .ok (.aload_n 0, 1) := by decide +kernel
theorem dX8_starRule_136 : decode cX8_starRule 136 = .ok (.iload_n 2, 1) := by decide +kernel
theorem dX8_starRule_137 : decode cX8_starRule 137 = .ok (.invokevirtual 152, 3) := by decide +kernel
theorem dX8_starRule_140 : decode cX8_starRule 140 = .ok (.ifCond .eq 7, 3) := by decide +kernel
theorem dX8_starRule_143 : decode cX8_starRule 143 = .ok (.iconst 1, 1) := by decide +kernel
theorem dX8_starRule_144 : decode cX8_starRule 144 = .ok (.goto 4, 3) := by decide +kernel
theorem dX8_starRule_147 : decode cX8_starRule 147 = .ok (.iconst 0, 1) := by decide +kernel
theorem dX8_starRule_148 : decode cX8_starRule 148 = .ok (.ireturn, 1) := by decide +kernel
theorem dX8_starRule_149 : decode cX8_starRule 149 = .ok (.aload_n 0, 1) := by decide +kernel
theorem dX8_starRule_150 : decode cX8_starRule 150 = .ok (.getfield 7, 3) := by decide +kernel
theorem dX8_starRule_153 : decode cX8_starRule 153 = .ok (.iload_n 2, 1) := by decide +kernel
theorem dX8_starRule_154 : decode cX8_starRule 154 = .ok (.iaload, 1) := by decide +kernel
theorem dX8_starRule_155 : decode cX8_starRule 155 = .ok (.bipush 6, 2) := by decide +kernel
theorem dX8_starRule_157 : decode cX8_starRule 157 = .ok (.if_icmp .ne 48, 3) := by decide +kernel
theorem dX8_starRule_160 : decode cX8_starRule 160 = .ok (.aload_n 0, 1) := by decide +kernel
theorem dX8_starRule_161 : decode cX8_starRule 161 = .ok (.getfield 7, 3) := by decide +kernel
theorem dX8_starRule_164 : decode cX8_starRule 164 = .ok (.iload_n 3, 1) := by decide +kernel
theorem dX8_starRule_165 : decode cX8_starRule 165 = .ok (.iaload, 1) := by decide +kernel
theorem dX8_starRule_166 : decode cX8_starRule 166 = .ok (.iconst 2, 1) := by decide +kernel
theorem dX8_starRule_167 : decode cX8_starRule 167 = .ok (.if_icmp .ne 15, 3) := by decide +kernel
theorem dX8_starRule_170 : decode cX8_starRule 170 = .ok (.aload_n 0, 1) := by decide +kernel
theorem dX8_starRule_171 : decode cX8_starRule 171 = .ok (.iload 4, 2) := by decide +kernel
theorem dX8_starRule_173 : decode cX8_starRule 173 = .ok (.invokevirtual 184, 3) := by decide +kernel
theorem dX8_starRule_176 : decode cX8_starRule 176 = .ok (.ifCond .eq 29, 3) := by decide +kernel
theorem dX8_starRule_179 : decode cX8_starRule 179 = .ok (.goto 22, 3) := by decide +kernel
theorem dX8_starRule_182 : decode cX8_starRule 182 = .ok (.aload_n 0, 1) := by decide +kernel
theorem dX8_starRule_183 : decode cX8_starRule 183 = .ok (.getfield 7, 3) := by decide +kernel
theorem dX8_starRule_186 : decode cX8_starRule 186 = .ok (.iload 4, 2) := by decide +kernel
theorem dX8_starRule_188 : decode cX8_starRule 188 = .ok (.iaload, 1) := by decide +kernel
theorem dX8_starRule_189 : decode cX8_starRule 189 = .ok (.iconst 2, 1) := by decide +kernel
theorem dX8_starRule_190 : decode cX8_starRule 190 = .ok (.if_icmp .ne 15, 3) := by decide +kernel
theorem dX8_starRule_193 : decode cX8_starRule 193 = .ok (.aload_n 0, 1) := by decide +kernel
theorem dX8_starRule_194 : decode cX8_starRule 194 = .ok (.iload_n 3, 1) := by decide +kernel
theorem dX8_starRule_195 : decode cX8_starRule 195 = .ok (.invokevirtual 184, 3) := by decide +kernel
theorem dX8_starRule_198 : decode cX8_starRule 198 = .ok (.ifCond .eq 7, 3) := by decide +kernel
theorem dX8_starRule_201 : decode cX8_starRule 201 = .ok (.iconst 1, 1) := by decide +kernel
theorem dX8_starRule_202 : decode cX8_starRule 202 = .ok (.goto 4, 3) := by decide +kernel
theorem dX8_starRule_205 : decode cX8_starRule 205 = .ok (.iconst 0, 1) := by decide +kernel
theorem dX8_starRule_206 : decode cX8_starRule 206 = .ok (.ireturn, 1) := by decide +kernel
theorem dX8_starRule_207 : decode cX8_starRule 207 = .ok (.aload_n 0, 1) := by decide +kernel
theorem dX8_starRule_208 : decode cX8_starRule 208 = .ok (.getfield 7, 3) := by decide +kernel
theorem dX8_starRule_211 : decode cX8_starRule 211 = .ok (.iload_n 2, 1) := by decide +kernel
theorem dX8_starRule_212 : decode cX8_starRule 212 = .ok (.iaload, 1) := by decide +kernel
theorem dX8_starRule_213 : decode cX8_starRule 213 = .ok (.bipush 6, 2) := by decide +kernel
theorem dX8_starRule_215 : decode cX8_starRule 215 = .ok (.if_icmp .ne 57, 3) := by decide +kernel
theorem dX8_starRule_218 : decode cX8_starRule 218 = .ok (.aload_n 0, 1) := by decide +kernel
theorem dX8_starRule_219 : decode cX8_starRule 219 = .ok (.getfield 7, 3) := by decide +kernel
theorem dX8_starRule_222 : decode cX8_starRule 222 = .ok (.iload_n 3, 1) := by decide +kernel
theorem dX8_starRule_223 : decode cX8_starRule 223 = .ok (.iaload, 1) := by decide +kernel
theorem dX8_starRule_224 : decode cX8_starRule 224 = .ok (.bipush 8, 2) := by decide +kernel
theorem dX8_starRule_226 : decode cX8_starRule 226 = .ok (.if_icmp .ne 18, 3) := by decide +kernel
theorem dX8_starRule_229 : decode cX8_starRule 229 = .ok (.aload_n 0, 1) := by decide +kernel
theorem dX8_starRule_230 : decode cX8_starRule 230 = .ok (.iload_n 3, 1) := by decide +kernel
theorem dX8_starRule_231 : decode cX8_starRule 231 = .ok (.iconst 1, 1) := by decide +kernel
theorem dX8_starRule_232 : decode cX8_starRule 232 = .ok (.iadd, 1) := by decide +kernel
theorem dX8_starRule_233 : decode cX8_starRule 233 = .ok (.iload 4, 2) := by decide +kernel
theorem dX8_starRule_235 : decode cX8_starRule 235 = .ok (.invokevirtual 187, 3) := by decide +kernel
theorem dX8_starRule_238 : decode cX8_starRule 238 = .ok (.ifCond .eq 34, 3) := by decide +kernel
theorem dX8_starRule_241 : decode cX8_starRule 241 = .ok (.goto 27, 3) := by decide +kernel
theorem dX8_starRule_244 : decode cX8_starRule 244 = .ok (.aload_n 0, 1) := by decide +kernel
theorem dX8_starRule_245 : decode cX8_starRule 245 = .ok (.getfield 7, 3) := by decide +kernel
theorem dX8_starRule_248 : decode cX8_starRule 248 = .ok (.iload 4, 2) := by decide +kernel
theorem dX8_starRule_250 : decode cX8_starRule 250 = .ok (.iaload, 1) := by decide +kernel
theorem dX8_starRule_251 : decode cX8_starRule 251 = .ok (.bipush 8, 2) := by decide +kernel
theorem dX8_starRule_253 : decode cX8_starRule 253 = .ok (.if_icmp .ne 19, 3) := by decide +kernel
theorem dX8_starRule_256 : decode cX8_starRule 256 = .ok (.aload_n 0, 1) := by decide +kernel
theorem dX8_starRule_257 : decode cX8_starRule 257 = .ok (.iload_n 3, 1) := by decide +kernel
theorem dX8_starRule_258 : decode cX8_starRule 258 = .ok (.iload 4, 2) := by decide +kernel
theorem dX8_starRule_260 : decode cX8_starRule 260 = .ok (.iconst 1, 1) := by decide +kernel
theorem dX8_starRule_261 : decode cX8_starRule 261 = .ok (.iadd, 1) := by decide +kernel
theorem dX8_starRule_262 : decode cX8_starRule 262 = .ok (.invokevirtual 187, 3) := by decide +kernel
theorem dX8_starRule_265 : decode cX8_starRule 265 = .ok (.ifCond .eq 7, 3) := by decide +kernel
theorem dX8_starRule_268 : decode cX8_starRule 268 = .ok (.iconst 1, 1) := by decide +kernel
theorem dX8_starRule_269 : decode cX8_starRule 269 = .ok (.goto 4, 3) := by decide +kernel
theorem dX8_starRule_272 : decode cX8_starRule 272 = .ok (.iconst 0, 1) := by decide +kernel
theorem dX8_starRule_273 : decode cX8_starRule 273 = .ok (.ireturn, 1) := by decide +kernel
theorem dX8_starRule_274 : decode cX8_starRule 274 = .ok (.aload_n 0, 1) := by decide +kernel
theorem dX8_starRule_275 : decode cX8_starRule 275 = .ok (.getfield 7, 3) := by decide +kernel
theorem dX8_starRule_278 : decode cX8_starRule 278 = .ok (.iload_n 2, 1) := by decide +kernel
theorem dX8_starRule_279 : decode cX8_starRule 279 = .ok (.iaload, 1) := by decide +kernel
theorem dX8_starRule_280 : decode cX8_starRule 280 = .ok (.bipush 7, 2) := by decide +kernel
theorem dX8_starRule_282 : decode cX8_starRule 282 = .ok (.if_icmp .ne 44, 3) := by decide +kernel
theorem dX8_starRule_285 : decode cX8_starRule 285 = .ok (.aload_n 0, 1) := by decide +kernel
theorem dX8_starRule_286 : decode cX8_starRule 286 = .ok (.getfield 7, 3) := by decide +kernel
theorem dX8_starRule_289 : decode cX8_starRule 289 = .ok (.iload_n 3, 1) := by decide +kernel
theorem dX8_starRule_290 : decode cX8_starRule 290 = .ok (.iaload, 1) := by decide +kernel
theorem dX8_starRule_291 : decode cX8_starRule 291 = .ok (.bipush 8, 2) := by decide +kernel
theorem dX8_starRule_293 : decode cX8_starRule 293 = .ok (.if_icmp .ne 33, 3) := by decide +kernel
theorem dX8_starRule_296 : decode cX8_starRule 296 = .ok (.aload_n 0, 1) := by decide +kernel
theorem dX8_starRule_297 : decode cX8_starRule 297 = .ok (.getfield 7, 3) := by decide +kernel
theorem dX8_starRule_300 : decode cX8_starRule 300 = .ok (.iload 4, 2) := by decide +kernel
theorem dX8_starRule_302 : decode cX8_starRule 302 = .ok (.iaload, 1) := by decide +kernel
theorem dX8_starRule_303 : decode cX8_starRule 303 = .ok (.bipush 8, 2) := by decide +kernel
theorem dX8_starRule_305 : decode cX8_starRule 305 = .ok (.if_icmp .ne 21, 3) := by decide +kernel
theorem dX8_starRule_308 : decode cX8_starRule 308 = .ok (.aload_n 0, 1) := by decide +kernel
theorem dX8_starRule_309 : decode cX8_starRule 309 = .ok (.iload_n 3, 1) := by decide +kernel
theorem dX8_starRule_310 : decode cX8_starRule 310 = .ok (.iconst 1, 1) := by decide +kernel
theorem dX8_starRule_311 : decode cX8_starRule 311 = .ok (.iadd, 1) := by decide +kernel
theorem dX8_starRule_312 : decode cX8_starRule 312 = .ok (.iload 4, 2) := by decide +kernel
theorem dX8_starRule_314 : decode cX8_starRule 314 = .ok (.iconst 1, 1) := by decide +kernel
theorem dX8_starRule_315 : decode cX8_starRule 315 = .ok (.iadd, 1) := by decide +kernel
theorem dX8_starRule_316 : decode cX8_starRule 316 = .ok (.invokevirtual 187, 3) := by decide +kernel
theorem dX8_starRule_319 : decode cX8_starRule 319 = .ok (.ifCond .eq 7, 3) := by decide +kernel
theorem dX8_starRule_322 : decode cX8_starRule 322 = .ok (.iconst 1, 1) := by decide +kernel
theorem dX8_starRule_323 : decode cX8_starRule 323 = .ok (.goto 4, 3) := by decide +kernel
theorem dX8_starRule_326 : decode cX8_starRule 326 = .ok (.iconst 0, 1) := by decide +kernel
theorem dX8_starRule_327 : decode cX8_starRule 327 = .ok (.ireturn, 1) := by decide +kernel
theorem dX8_starRule_328 : decode cX8_starRule 328 = .ok (.iconst 0, 1) := by decide +kernel
theorem dX8_starRule_329 : decode cX8_starRule 329 = .ok (.ireturn, 1) := by decide +kernel
set_option maxRecDepth 20000 in
theorem ggX8_applies_X8_starRule : GoodIn wsX8_applies wsX8_starRule := goodIn_r _ [7, 2, 8, 9, 10, 6, 11, 12, 13, 14, 15, 16, 1, 17, 18, 19, 20, 21, 22, 23, 24, 25, 26, 27, 28, 29, 30, 31, 32, 73, 74, 75, 76, 77, 78, 79, 80, 81, 82, 83, 84, 85, 86, 87, 88, 89, 90, 91, 92, 93, 94, 95, 96, 97, 98, 99, 100, 101, 102] (by decide +kernel) (by decide +kernel)
set_option maxRecDepth 20000 in
theorem gX8_applies_X8_starRule : GoodIn wsX8_applies (wsV RX8 190 RX8 yX8_starRule wsX8_starRule) := goodIn_app (goodIn_of _ (by decide +kernel)) ggX8_applies_X8_starRule
set_option maxRecDepth 20000 in
theorem ggX8_applies_X8_endOf : GoodIn wsX8_applies wsX8_endOf := goodIn_r _ [11, 2, 73, 74, 75, 76, 77, 78, 79, 80, 81, 82, 83, 84, 85, 86, 87, 88, 89, 90, 91, 92, 93, 94, 95, 96, 97, 98, 99, 100, 101, 102] (by decide +kernel) (by decide +kernel)
set_option maxRecDepth 20000 in
theorem gX8_applies_X8_endOf : GoodIn wsX8_applies (wsV RX8 88 RX8 yX8_endOf wsX8_endOf) := goodIn_app (goodIn_of _ (by decide +kernel)) ggX8_applies_X8_endOf
set_option maxRecDepth 20000 in
theorem ggX8_applies_X8_unionRule : GoodIn wsX8_applies wsX8_unionRule := goodIn_r _ [36, 2, 17, 18, 19, 6, 20, 8, 9, 10, 11, 12, 13, 14, 15, 16, 1, 37, 38, 39, 40, 41, 42, 43, 44, 45, 46, 47, 48, 29, 30, 31, 32, 49, 50, 51, 52, 53, 54, 55, 56, 57, 58, 59, 60, 61, 62, 63, 64, 21, 22, 23, 24, 65, 66, 67, 68, 73, 74, 75, 76, 77, 78, 79, 80, 81, 82, 83, 84, 85, 86, 87, 88, 89, 90, 91, 92, 93, 94, 95, 96, 97, 98, 99, 100, 101, 102] (by decide +kernel) (by decide +kernel)
set_option maxRecDepth 20000 in
theorem gX8_applies_X8_unionRule : GoodIn wsX8_applies (wsV RX8 193 RX8 yX8_unionRule wsX8_unionRule) := goodIn_app (goodIn_of _ (by decide +kernel)) ggX8_applies_X8_unionRule
set_option maxRecDepth 20000 in
theorem ggX8_applies_X8_concatenationRule : GoodIn wsX8_applies wsX8_concatenationRule := goodIn_r _ [72, 2, 12, 13, 14, 6, 15, 16, 1, 17, 18, 19, 20, 8, 9, 10, 11, 37, 38, 39, 40, 73, 74, 75, 76, 77, 78, 79, 80, 81, 82, 83, 84, 85, 86, 87, 88, 89, 90, 91, 92, 93, 94, 95, 96, 97, 98, 99, 100, 101, 102] (by decide +kernel) (by decide +kernel)
set_option maxRecDepth 20000 in
theorem gX8_applies_X8_concatenationRule : GoodIn wsX8_applies (wsV RX8 196 RX8 yX8_concatenationRule wsX8_concatenationRule) := goodIn_app (goodIn_of _ (by decide +kernel)) ggX8_applies_X8_concatenationRule
theorem dX8_applies_0 : decode cX8_applies 0 = .ok (.aload_n 0, 1) := by decide +kernel
theorem dX8_applies_1 : decode cX8_applies 1 = .ok (.iconst 0, 1) := by decide +kernel
theorem dX8_applies_2 : decode cX8_applies 2 = .ok (.putfield 146, 3) := by decide +kernel
theorem dX8_applies_5 : decode cX8_applies 5 = .ok (.aload_n 0, 1) := by decide +kernel
theorem dX8_applies_6 : decode cX8_applies 6 = .ok (.getfield 7, 3) := by decide +kernel
theorem dX8_applies_9 : decode cX8_applies 9 = .ok (.iload_n 2, 1) := by decide +kernel
theorem dX8_applies_10 : decode cX8_applies 10 = .ok (.iaload, 1) := by decide +kernel
theorem dX8_applies_11 : decode cX8_applies 11 = .ok (.istore_n 3, 1) := by decide +kernel
theorem dX8_applies_12 : decode cX8_applies 12 = .ok (.iload_n 3, 1) := by decide +kernel
theorem dX8_applies_13 : decode cX8_applies 13 = .ok (.bipush 6, 2) := by decide +kernel
theorem dX8_applies_15 : decode cX8_applies 15 = .ok (.if_icmp .ge 5, 3) := by decide +kernel
theorem dX8_applies_18 : decode cX8_applies 18 = .ok (.iconst 0, 1) := by decide +kernel
theorem dX8_applies_19 : decode cX8_applies 19 = .ok (.ireturn, 1) := by decide +kernel
theorem dX8_applies_20 : decode cX8_applies 20 = .ok (.iload_n 2, 1) := by decide +kernel
theorem dX8_applies_21 : decode cX8_applies 21 = .ok (.iconst 1, 1) := by decide +kernel
theorem dX8_applies_22 : decode cX8_applies 22 = .ok (.iadd, 1) := by decide +kernel
theorem dX8_applies_23 : decode cX8_applies 23 = .ok (.istore 4, 2) := by decide +kernel
theorem dX8_applies_25 : decode cX8_applies 25 = .ok (.iload_n 3, 1) := by decide +kernel
theorem dX8_applies_26 : decode cX8_applies 26 = .ok (.bipush 8, 2) := by decide +kernel
theorem dX8_applies_28 : decode cX8_applies 28 = .ok (.if_icmp .ne 13, 3) := by decide +kernel
theorem dX8_applies_31 : decode cX8_applies 31 = .ok (.aload_n 0, 1) := by decide +kernel
theorem dX8_applies_32 : decode cX8_applies 32 = .ok (.iload_n 1, 1) := by decide +kernel
theorem dX8_applies_33 : decode cX8_applies 33 = .ok (.iload 4, 2) := by decide +kernel
theorem dX8_applies_35 : decode cX8_applies 35 = .ok (.invokevirtual 190, 3) := by decide +kernel
theorem dX8_applies_38 : decode cX8_applies 38 = .ok (.goto 38, 3) := by decide +kernel
theorem dX8_applies_41 : decode cX8_applies 41 = .ok (.iload_n 3, 1) := by decide +kernel
theorem dX8_applies_42 : decode cX8_applies 42 = .ok (.bipush 6, 2) := by decide +kernel
theorem dX8_applies_44 : decode cX8_applies 44 = .ok (.if_icmp .ne 19, 3) := by decide +kernel
theorem dX8_applies_47 : decode cX8_applies 47 = .ok (.aload_n 0, 1) := by decide +kernel
theorem dX8_applies_48 : decode cX8_applies 48 = .ok (.iload_n 1, 1) := by decide +kernel
theorem dX8_applies_49 : decode cX8_applies 49 = .ok (.iload 4, 2) := by decide +kernel
theorem dX8_applies_51 : decode cX8_applies 51 = .ok (.aload_n 0, 1) := by decide +kernel
theorem dX8_applies_52 : decode cX8_applies 52 = .ok (.iload 4, 2) := by decide +kernel
theorem dX8_applies_54 : decode cX8_applies 54 = .ok (.invokevirtual 88, 3) := by decide +kernel
theorem dX8_applies_57 : decode cX8_applies 57 = .ok (.invokevirtual 193, 3) := by decide +kernel
theorem dX8_applies_60 : decode cX8_applies 60 = .ok (.goto 16, 3) := by decide +kernel
theorem dX8_applies_63 : decode cX8_applies 63 = .ok (.aload_n 0, 1) := by decide +kernel
theorem dX8_applies_64 : decode cX8_applies 64 = .ok (.iload_n 1, 1) := by decide +kernel
theorem dX8_applies_65 : decode cX8_applies 65 = .ok (.iload 4, 2) := by decide +kernel
theorem dX8_applies_67 : decode cX8_applies 67 = .ok (.aload_n 0, 1) := by decide +kernel
theorem dX8_applies_68 : decode cX8_applies 68 = .ok (.iload 4, 2) := by decide +kernel
theorem dX8_applies_70 : decode cX8_applies 70 = .ok (.invokevirtual 88, 3) := by decide +kernel
theorem dX8_applies_73 : decode cX8_applies 73 = .ok (.invokevirtual 196, 3) := by decide +kernel
theorem dX8_applies_76 : decode cX8_applies 76 = .ok (.ireturn, 1) := by decide +kernel
set_option maxRecDepth 20000 in
theorem ggX8_replaced_X8_endOf : GoodIn wsX8_replaced wsX8_endOf := goodIn_r _ [10, 2, 11, 12, 13, 14, 15, 16, 17, 18, 19, 20, 21, 22, 23, 24, 25, 26, 27, 28, 29, 30, 31, 32, 33, 34, 35, 36, 37, 38, 39, 40] (by decide +kernel) (by decide +kernel)
set_option maxRecDepth 20000 in
theorem gX8_replaced_X8_endOf : GoodIn wsX8_replaced (wsV RX8 88 RX8 yX8_endOf wsX8_endOf) := goodIn_app (goodIn_of _ (by decide +kernel)) ggX8_replaced_X8_endOf
theorem dX8_replaced_0 : decode cX8_replaced 0 = .ok (.lconst 0, 1) := by decide +kernel
theorem dX8_replaced_1 : decode cX8_replaced 1 = .ok (.lstore_n 2, 1) := by decide +kernel
theorem dX8_replaced_2 : decode cX8_replaced 2 = .ok (.aload_n 0, 1) := by decide +kernel
theorem dX8_replaced_3 : decode cX8_replaced 3 = .ok (.iload_n 1, 1) := by decide +kernel
theorem dX8_replaced_4 : decode cX8_replaced 4 = .ok (.invokevirtual 88, 3) := by decide +kernel
theorem dX8_replaced_7 : decode cX8_replaced 7 = .ok (.istore 4, 2) := by decide +kernel
theorem dX8_replaced_9 : decode cX8_replaced 9 = .ok (.iconst 0, 1) := by decide +kernel
theorem dX8_replaced_10 : decode cX8_replaced 10 = .ok (.istore 5, 2) := by decide +kernel
theorem dX8_replaced_12 : decode cX8_replaced 12 = .ok (.iload 5, 2) := by decide +kernel
theorem dX8_replaced_14 : decode cX8_replaced 14 = .ok (.iload_n 1, 1) := by decide +kernel
theorem dX8_replaced_15 : decode cX8_replaced 15 = .ok (.if_icmp .ge 24, 3) := by decide +kernel
theorem dX8_replaced_18 : decode cX8_replaced 18 = .ok (.ldc2_w 82, 3) := by decide +kernel
theorem dX8_replaced_21 : decode cX8_replaced 21 = .ok (.lload_n 2, 1) := by decide +kernel
theorem dX8_replaced_22 : decode cX8_replaced 22 = .ok (.lmul, 1) := by decide +kernel
theorem dX8_replaced_23 : decode cX8_replaced 23 = .ok (.aload_n 0, 1) := by decide +kernel
theorem dX8_replaced_24 : decode cX8_replaced 24 = .ok (.getfield 7, 3) := by decide +kernel
theorem dX8_replaced_27 : decode cX8_replaced 27 = .ok (.iload 5, 2) := by decide +kernel
theorem dX8_replaced_29 : decode cX8_replaced 29 = .ok (.iaload, 1) := by decide +kernel
theorem dX8_replaced_30 : decode cX8_replaced 30 = .ok (.i2l, 1) := by decide +kernel
theorem dX8_replaced_31 : decode cX8_replaced 31 = .ok (.ladd, 1) := by decide +kernel
theorem dX8_replaced_32 : decode cX8_replaced 32 = .ok (.lstore_n 2, 1) := by decide +kernel
theorem dX8_replaced_33 : decode cX8_replaced 33 = .ok (.iinc 5 1, 3) := by decide +kernel
theorem dX8_replaced_36 : decode cX8_replaced 36 = .ok (.goto (-24), 3) := by decide +kernel
theorem dX8_replaced_39 : decode cX8_replaced 39 = .ok (.iconst 0, 1) := by decide +kernel
theorem dX8_replaced_40 : decode cX8_replaced 40 = .ok (.istore 5, 2) := by decide +kernel
theorem dX8_replaced_42 : decode cX8_replaced 42 = .ok (.iload 5, 2) := by decide +kernel
theorem dX8_replaced_44 : decode cX8_replaced 44 = .ok (.aload_n 0, 1) := by decide +kernel
theorem dX8_replaced_45 : decode cX8_replaced 45 = .ok (.getfield 146, 3) := by decide +kernel
theorem dX8_replaced_48 : decode cX8_replaced 48 = .ok (.if_icmp .ge 24, 3) := by decide +kernel
theorem dX8_replaced_51 : decode cX8_replaced 51 = .ok (.ldc2_w 82, 3) := by decide +kernel
theorem dX8_replaced_54 : decode cX8_replaced 54 = .ok (.lload_n 2, 1) := by decide +kernel
theorem dX8_replaced_55 : decode cX8_replaced 55 = .ok (.lmul, 1) := by decide +kernel
theorem dX8_replaced_56 : decode cX8_replaced 56 = .ok (.aload_n 0, 1) := by decide +kernel
theorem dX8_replaced_57 : decode cX8_replaced 57 = .ok (.getfield 55, 3) := by decide +kernel
theorem dX8_replaced_60 : decode cX8_replaced 60 = .ok (.iload 5, 2) := by decide +kernel
theorem dX8_replaced_62 : decode cX8_replaced 62 = .ok (.iaload, 1) := by decide +kernel
theorem dX8_replaced_63 : decode cX8_replaced 63 = .ok (.i2l, 1) := by decide +kernel
theorem dX8_replaced_64 : decode cX8_replaced 64 = .ok (.ladd, 1) := by decide +kernel
theorem dX8_replaced_65 : decode cX8_replaced 65 = .ok (.lstore_n 2, 1) := by decide +kernel
theorem dX8_replaced_66 : decode cX8_replaced 66 = .ok (.iinc 5 1, 3) := by decide +kernel
theorem dX8_replaced_69 : decode cX8_replaced 69 = .ok (.goto (-27), 3) := by decide +kernel
theorem dX8_replaced_72 : decode cX8_replaced 72 = .ok (.iload 4, 2) := by decide +kernel
theorem dX8_replaced_74 : decode cX8_replaced 74 = .ok (.istore 5, 2) := by decide +kernel
theorem dX8_replaced_76 : decode cX8_replaced 76 = .ok (.iload 5, 2) := by decide +kernel
theorem dX8_replaced_78 : decode cX8_replaced 78 = .ok (.aload_n 0, 1) := by decide +kernel
theorem dX8_replaced_79 : decode cX8_replaced 79 = .ok (.getfield 78, 3) := by decide +kernel
theorem dX8_replaced_82 : decode cX8_replaced 82 = .ok (.if_icmp .ge 24, 3) := by decide +kernel
theorem dX8_replaced_85 : decode cX8_replaced 85 = .ok (.ldc2_w 82, 3) := by decide +kernel
theorem dX8_replaced_88 : decode cX8_replaced 88 = .ok (.lload_n 2, 1) := by decide +kernel
theorem dX8_replaced_89 : decode cX8_replaced 89 = .ok (.lmul, 1) := by decide +kernel
theorem dX8_replaced_90 : decode cX8_replaced 90 = .ok (.aload_n 0, 1) := by decide +kernel
theorem dX8_replaced_91 : decode cX8_replaced 91 = .ok (.getfield 7, 3) := by decide +kernel
theorem dX8_replaced_94 : decode cX8_replaced 94 = .ok (.iload 5, 2) := by decide +kernel
theorem dX8_replaced_96 : decode cX8_replaced 96 = .ok (.iaload, 1) := by decide +kernel
theorem dX8_replaced_97 : decode cX8_replaced 97 = .ok (.i2l, 1) := by decide +kernel
theorem dX8_replaced_98 : decode cX8_replaced 98 = .ok (.ladd, 1) := by decide +kernel
theorem dX8_replaced_99 : decode cX8_replaced 99 = .ok (.lstore_n 2, 1) := by decide +kernel
theorem dX8_replaced_100 : decode cX8_replaced 100 = .ok (.iinc 5 1, 3) := by decide +kernel
theorem dX8_replaced_103 : decode cX8_replaced 103 = .ok (.goto (-27), 3) := by decide +kernel
theorem dX8_replaced_106 : decode cX8_replaced 106 = .ok (.lload_n 2, 1) := by decide +kernel
theorem dX8_replaced_107 : decode cX8_replaced 107 = .ok (.lreturn, 1) := by decide +kernel
set_option maxRecDepth 20000 in
theorem ggX8_isRule_X8_within : GoodIn wsX8_isRule wsX8_within := goodIn_r _ [4] (by decide +kernel) (by decide +kernel)
set_option maxRecDepth 20000 in
theorem gX8_isRule_X8_within : GoodIn wsX8_isRule (va_wsS RX8 84 yX8_within wsX8_within) := goodIn_app (goodIn_of _ (by decide +kernel)) ggX8_isRule_X8_within
theorem dX8_isRule_0 : decode cX8_isRule 0 = .ok (.iload_n 0, 1) := by decide +kernel
theorem dX8_isRule_1 : decode cX8_isRule 1 = .ok (.iconst 0, 1) := by decide +kernel
theorem dX8_isRule_2 : decode cX8_isRule 2 = .ok (.bipush 15, 2) := by decide +kernel
theorem dX8_isRule_4 : decode cX8_isRule 4 = .ok (.invokestatic 84, 3) := by decide +kernel
theorem dX8_isRule_7 : decode cX8_isRule 7 = .ok (.ireturn, 1) := by decide +kernel
set_option maxRecDepth 20000 in
theorem ggX8_isApplicable_X8_parses : GoodIn wsX8_isApplicable wsX8_parses := goodIn_r _ [6, 1, 7, 8, 9, 10, 5, 11, 89, 90, 91, 92, 93, 94, 95, 96, 97, 98, 99, 100, 101, 102, 103, 104, 105, 106, 107, 108, 109, 110, 111, 112, 113, 114, 115, 116, 117, 118] (by decide +kernel) (by decide +kernel)
set_option maxRecDepth 20000 in
theorem gX8_isApplicable_X8_parses : GoodIn wsX8_isApplicable (wsV RX8 92 RX8 yX8_parses wsX8_parses) := goodIn_app (goodIn_of _ (by decide +kernel)) ggX8_isApplicable_X8_parses
set_option maxRecDepth 20000 in
theorem ggX8_isApplicable_X8_isRule : GoodIn wsX8_isApplicable wsX8_isRule := goodIn_r _ [14, 9, 10, 5, 11] (by decide +kernel) (by decide +kernel)
set_option maxRecDepth 20000 in
theorem gX8_isApplicable_X8_isRule : GoodIn wsX8_isApplicable (va_wsS RX8 199 yX8_isRule wsX8_isRule) := goodIn_app (goodIn_of _ (by decide +kernel)) ggX8_isApplicable_X8_isRule
set_option maxRecDepth 20000 in
theorem ggX8_isApplicable_X8_within : GoodIn wsX8_isApplicable wsX8_within := goodIn_r _ [11] (by decide +kernel) (by decide +kernel)
set_option maxRecDepth 20000 in
theorem gX8_isApplicable_X8_within : GoodIn wsX8_isApplicable (va_wsS RX8 84 yX8_within wsX8_within) := goodIn_app (goodIn_of _ (by decide +kernel)) ggX8_isApplicable_X8_within
set_option maxRecDepth 20000 in
theorem ggX8_isApplicable_X8_applies : GoodIn wsX8_isApplicable wsX8_applies := goodIn_r _ [18, 19, 8, 20, 21, 22, 5, 23, 24, 25, 26, 27, 28, 29, 30, 31, 32, 33, 34, 35, 36, 37, 38, 39, 40, 41, 42, 43, 44, 45, 46, 47, 48, 49, 50, 51, 52, 53, 54, 55, 56, 57, 58, 59, 60, 61, 62, 63, 64, 65, 66, 67, 68, 69, 70, 71, 72, 73, 74, 75, 76, 77, 78, 79, 80, 81, 82, 83, 84, 85, 86, 87, 88, 89, 90, 91, 92, 93, 94, 95, 96, 97, 98, 99, 100, 101, 102, 103, 104, 105, 106, 107, 108, 109, 110, 111, 112, 113, 114, 115, 116, 117, 118] (by decide +kernel) (by decide +kernel)
set_option maxRecDepth 20000 in
theorem gX8_isApplicable_X8_applies : GoodIn wsX8_isApplicable (wsV RX8 202 RX8 yX8_applies wsX8_applies) := goodIn_app (goodIn_of _ (by decide +kernel)) ggX8_isApplicable_X8_applies
theorem dX8_isApplicable_0 : decode cX8_isApplicable 0 = .ok (.aload_n 0, 1) := by decide +kernel
theorem dX8_isApplicable_1 : decode cX8_isApplicable 1 = .ok (.lload_n 1, 1) := by decide +kernel
theorem dX8_isApplicable_2 : decode cX8_isApplicable 2 = .ok (.invokevirtual 92, 3) := by decide +kernel
theorem dX8_isApplicable_5 : decode cX8_isApplicable 5 = .ok (.ifCond .ne 5, 3) := by decide +kernel
theorem dX8_isApplicable_8 : decode cX8_isApplicable 8 = .ok (.iconst (-1), 1) := by decide +kernel
theorem dX8_isApplicable_9 : decode cX8_isApplicable 9 = .ok (.ireturn, 1) := by decide +kernel
theorem dX8_isApplicable_10 : decode cX8_isApplicable 10 = .ok (.iload_n 3, 1) := by decide +kernel
theorem dX8_isApplicable_11 : decode cX8_isApplicable 11 = .ok (.invokestatic 199, 3) := by decide +kernel
theorem dX8_isApplicable_14 : decode cX8_isApplicable 14 = .ok (.ifCond .ne 6, 3) := by decide +kernel
theorem dX8_isApplicable_17 : decode cX8_isApplicable 17 = .ok (.bipush (-2), 2) := by decide +kernel
theorem dX8_isApplicable_19 : decode cX8_isApplicable 19 = .ok (.ireturn, 1) := by decide +kernel
theorem dX8_isApplicable_20 : decode cX8_isApplicable 20 = .ok (.iload 4, 2) := by decide +kernel
theorem dX8_isApplicable_22 : decode cX8_isApplicable 22 = .ok (.iconst 0, 1) := by decide +kernel
theorem dX8_isApplicable_23 : decode cX8_isApplicable 23 = .ok (.aload_n 0, 1) := by decide +kernel
theorem dX8_isApplicable_24 : decode cX8_isApplicable 24 = .ok (.getfield 78, 3) := by decide +kernel
theorem dX8_isApplicable_27 : decode cX8_isApplicable 27 = .ok (.iconst 1, 1) := by decide +kernel
theorem dX8_isApplicable_28 : decode cX8_isApplicable 28 = .ok (.isub, 1) := by decide +kernel
theorem dX8_isApplicable_29 : decode cX8_isApplicable 29 = .ok (.invokestatic 84, 3) := by decide +kernel
theorem dX8_isApplicable_32 : decode cX8_isApplicable 32 = .ok (.ifCond .ne 6, 3) := by decide +kernel
theorem dX8_isApplicable_35 : decode cX8_isApplicable 35 = .ok (.bipush (-3), 2) := by decide +kernel
theorem dX8_isApplicable_37 : decode cX8_isApplicable 37 = .ok (.ireturn, 1) := by decide +kernel
theorem dX8_isApplicable_38 : decode cX8_isApplicable 38 = .ok (.aload_n 0, 1) := by decide +kernel
theorem dX8_isApplicable_39 : decode cX8_isApplicable 39 = .ok (.iload_n 3, 1) := by decide +kernel
theorem dX8_isApplicable_40 : decode cX8_isApplicable 40 = .ok (.iload 4, 2) := by decide +kernel
theorem dX8_isApplicable_42 : decode cX8_isApplicable 42 = .ok (.invokevirtual 202, 3) := by decide +kernel
theorem dX8_isApplicable_45 : decode cX8_isApplicable 45 = .ok (.ifCond .eq 7, 3) := by decide +kernel
theorem dX8_isApplicable_48 : decode cX8_isApplicable 48 = .ok (.iconst 1, 1) := by decide +kernel
theorem dX8_isApplicable_49 : decode cX8_isApplicable 49 = .ok (.goto 4, 3) := by decide +kernel
theorem dX8_isApplicable_52 : decode cX8_isApplicable 52 = .ok (.iconst 0, 1) := by decide +kernel
theorem dX8_isApplicable_53 : decode cX8_isApplicable 53 = .ok (.ireturn, 1) := by decide +kernel
set_option maxRecDepth 20000 in
theorem ggX8_rewrite_X8_isApplicable : GoodIn wsX8_rewrite wsX8_isApplicable := goodIn_r _ [6, 7, 8, 9, 10, 5, 11, 12, 13, 14, 15, 16, 17, 18, 19, 20, 21, 22, 23, 24, 25, 26, 27, 28, 29, 30, 31, 32, 33, 34, 35, 36, 37, 38, 39, 40, 41, 42, 43, 44, 45, 46, 47, 48, 49, 50, 51, 52, 53, 54, 55, 56, 57, 58, 59, 60, 61, 62, 63, 64, 65, 66, 67, 68, 69, 70, 71, 72, 73, 74, 75, 76, 77, 78, 79, 80, 81, 82, 83, 84, 85, 86, 87, 88, 89, 90, 91, 92, 93, 98, 99, 100, 101, 102, 103, 104, 105, 106, 107, 108, 109, 110, 111, 112, 113, 114, 115, 116, 117, 118, 119, 120, 121, 122, 123, 124, 125, 126, 127] (by decide +kernel) (by decide +kernel)
set_option maxRecDepth 20000 in
theorem gX8_rewrite_X8_isApplicable : GoodIn wsX8_rewrite (wsV RX8 205 RX8 yX8_isApplicable wsX8_isApplicable) := goodIn_app (goodIn_of _ (by decide +kernel)) ggX8_rewrite_X8_isApplicable
set_option maxRecDepth 20000 in
theorem ggX8_rewrite_X8_replaced : GoodIn wsX8_rewrite wsX8_replaced := goodIn_r _ [97, 12, 13, 24, 37, 7, 29, 30, 31, 5, 32, 98, 99, 100, 101, 102, 103, 104, 105, 106, 107, 108, 109, 110, 111, 112, 113, 114, 115, 116, 117, 118, 119, 120, 121, 122, 123, 124, 125, 126, 127] (by decide +kernel) (by decide +kernel)
set_option maxRecDepth 20000 in
theorem gX8_rewrite_X8_replaced : GoodIn wsX8_rewrite (wsV RX8 211 RX8 yX8_replaced wsX8_replaced) := goodIn_app (goodIn_of _ (by decide +kernel)) ggX8_rewrite_X8_replaced
theorem dX8_rewrite_0 : decode cX8_rewrite 0 = .ok (.aload_n 0, 1) := by decide +kernel
theorem dX8_rewrite_1 : decode cX8_rewrite 1 = .ok (.lload_n 1, 1) := by decide +kernel
theorem dX8_rewrite_2 : decode cX8_rewrite 2 = .ok (.iload_n 3, 1) := by decide +kernel
theorem dX8_rewrite_3 : decode cX8_rewrite 3 = .ok (.iload 4, 2) := by decide +kernel
theorem dX8_rewrite_5 : decode cX8_rewrite 5 = .ok (.invokevirtual 205, 3) := by decide +kernel
theorem dX8_rewrite_8 : decode cX8_rewrite 8 = .ok (.istore 5, 2) := by decide +kernel
theorem dX8_rewrite_10 : decode cX8_rewrite 10 = .ok (.iload 5, 2) := by decide +kernel
theorem dX8_rewrite_12 : decode cX8_rewrite 12 = .ok (.ifCond .ge 9, 3) := by decide +kernel
theorem dX8_rewrite_15 : decode cX8_rewrite 15 = .ok (.iload 5, 2) := by decide +kernel
theorem dX8_rewrite_17 : decode cX8_rewrite 17 = .ok (.i2l, 1) := by decide +kernel
theorem dX8_rewrite_18 : decode cX8_rewrite 18 = .ok (.goto 20, 3) := by decide +kernel
theorem dX8_rewrite_21 : decode cX8_rewrite 21 = .ok (.iload 5, 2) := by decide +kernel
theorem dX8_rewrite_23 : decode cX8_rewrite 23 = .ok (.ifCond .ne 9, 3) := by decide +kernel
theorem dX8_rewrite_26 : decode cX8_rewrite 26 = .ok (.ldc2_w 209, 3) := by decide +kernel
theorem dX8_rewrite_29 : decode cX8_rewrite 29 = .ok (.goto 9, 3) := by decide +kernel
theorem dX8_rewrite_32 : decode cX8_rewrite 32 = .ok (.aload_n 0, 1) := by decide +kernel
theorem dX8_rewrite_33 : decode cX8_rewrite 33 = .ok (.iload 4, 2) := by decide +kernel
theorem dX8_rewrite_35 : decode cX8_rewrite 35 = .ok (.invokevirtual 211, 3) := by decide +kernel
theorem dX8_rewrite_38 : decode cX8_rewrite 38 = .ok (.lreturn, 1) := by decide +kernel
set_option maxRecDepth 20000 in
theorem ggX8_firstStep_X8_applies : GoodIn wsX8_firstStep wsX8_applies := goodIn_r _ [6, 7, 8, 9, 10, 11, 5, 12, 13, 14, 15, 16, 17, 18, 19, 20, 21, 22, 23, 24, 25, 26, 27, 28, 29, 30, 31, 32, 33, 34, 35, 36, 37, 38, 39, 40, 41, 42, 43, 44, 45, 46, 47, 48, 49, 50, 51, 52, 53, 54, 55, 56, 57, 58, 59, 60, 61, 62, 63, 64, 65, 66, 67, 68, 69, 70, 71, 72, 73, 74, 75, 76, 77, 78, 79, 80, 81, 82, 83, 84, 85, 86, 87, 88, 89, 90, 91, 92, 93, 94, 95, 96, 97, 98, 99, 100, 101, 102, 103, 104, 105, 106, 107] (by decide +kernel) (by decide +kernel)
set_option maxRecDepth 20000 in
theorem gX8_firstStep_X8_applies : GoodIn wsX8_firstStep (wsV RX8 202 RX8 yX8_applies wsX8_applies) := goodIn_app (goodIn_of _ (by decide +kernel)) ggX8_firstStep_X8_applies
theorem dX8_firstStep_0 : decode cX8_firstStep 0 = .ok (.iconst 0, 1) := by decide +kernel
theorem dX8_firstStep_1 : decode cX8_firstStep 1 = .ok (.istore_n 1, 1) := by decide +kernel
theorem dX8_firstStep_2 : decode cX8_firstStep 2 = .ok (.iload_n 1, 1) := by decide +kernel
theorem dX8_firstStep_3 : decode cX8_firstStep 3 = .ok (.bipush 16, 2) := by decide +kernel
theorem dX8_firstStep_5 : decode cX8_firstStep 5 = .ok (.aload_n 0, 1) := by decide +kernel
theorem dX8_firstStep_6 : decode cX8_firstStep 6 = .ok (.getfield 78, 3) := by decide +kernel
theorem dX8_firstStep_9 : decode cX8_firstStep 9 = .ok (.imul, 1) := by decide +kernel
theorem dX8_firstStep_10 : decode cX8_firstStep 10 = .ok (.if_icmp .ge 26, 3) := by decide +kernel
theorem dX8_firstStep_13 : decode cX8_firstStep 13 = .ok (.aload_n 0, 1) := by decide +kernel
theorem dX8_firstStep_14 : decode cX8_firstStep 14 = .ok (.iload_n 1, 1) := by decide +kernel
theorem dX8_firstStep_15 : decode cX8_firstStep 15 = .ok (.bipush 16, 2) := by decide +kernel
theorem dX8_firstStep_17 : decode cX8_firstStep 17 = .ok (.irem, 1) := by decide +kernel
theorem dX8_firstStep_18 : decode cX8_firstStep 18 = .ok (.iload_n 1, 1) := by decide +kernel
theorem dX8_firstStep_19 : decode cX8_firstStep 19 = .ok (.bipush 16, 2) := by decide +kernel
theorem dX8_firstStep_21 : decode cX8_firstStep 21 = .ok (.idiv, 1) := by decide +kernel
theorem dX8_firstStep_22 : decode cX8_firstStep 22 = .ok (.invokevirtual 202, 3) := by decide +kernel
theorem dX8_firstStep_25 : decode cX8_firstStep 25 = .ok (.ifCond .eq 5, 3) := by decide +kernel
theorem dX8_firstStep_28 : decode cX8_firstStep 28 = .ok (.iload_n 1, 1) := by decide +kernel
theorem dX8_firstStep_29 : decode cX8_firstStep 29 = .ok (.ireturn, 1) := by decide +kernel
theorem dX8_firstStep_30 : decode cX8_firstStep 30 = .ok (.iinc 1 1, 3) := by decide +kernel
theorem dX8_firstStep_33 : decode cX8_firstStep 33 = .ok (.goto (-31), 3) := by decide +kernel
theorem dX8_firstStep_36 : decode cX8_firstStep 36 = .ok (.bipush (-9), 2) := by decide +kernel
theorem dX8_firstStep_38 : decode cX8_firstStep 38 = .ok (.ireturn, 1) := by decide +kernel
set_option maxRecDepth 20000 in
theorem ggX8_firstPosition_X8_parses : GoodIn wsX8_firstPosition wsX8_parses := goodIn_r _ [5, 6, 7, 8, 9, 10, 4, 11, 90, 91, 92, 93, 94, 95, 96, 97, 98, 99, 100, 101, 102, 103, 104, 105, 106, 107, 108, 109, 110, 111, 112, 113, 114, 115, 116, 117, 118, 119] (by decide +kernel) (by decide +kernel)
set_option maxRecDepth 20000 in
theorem gX8_firstPosition_X8_parses : GoodIn wsX8_firstPosition (wsV RX8 92 RX8 yX8_parses wsX8_parses) := goodIn_app (goodIn_of _ (by decide +kernel)) ggX8_firstPosition_X8_parses
set_option maxRecDepth 20000 in
theorem ggX8_firstPosition_X8_firstStep : GoodIn wsX8_firstPosition wsX8_firstStep := goodIn_r _ [15, 6, 16, 17, 18, 4, 19, 20, 8, 21, 22, 23, 24, 25, 26, 27, 28, 29, 30, 31, 32, 33, 34, 35, 36, 37, 38, 39, 40, 41, 42, 43, 44, 45, 46, 47, 48, 49, 50, 51, 52, 53, 54, 55, 56, 57, 58, 59, 60, 61, 62, 63, 64, 65, 66, 67, 68, 69, 70, 71, 72, 73, 74, 75, 76, 77, 78, 79, 80, 81, 82, 83, 84, 85, 86, 87, 88, 89, 90, 91, 92, 93, 94, 95, 96, 97, 98, 99, 100, 101, 102, 103, 104, 105, 106, 107, 108, 109, 110, 111, 112, 113, 114, 115, 116, 117, 118, 119] (by decide +kernel) (by decide +kernel)
set_option maxRecDepth 20000 in
theorem gX8_firstPosition_X8_firstStep : GoodIn wsX8_firstPosition (wsV RX8 215 RX8 yX8_firstStep wsX8_firstStep) := goodIn_app (goodIn_of _ (by decide +kernel)) ggX8_firstPosition_X8_firstStep
theorem dX8_firstPosition_0 : decode cX8_firstPosition 0 = .ok (.aload_n 0, 1) := by decide +kernel
theorem dX8_firstPosition_1 : decode cX8_firstPosition 1 = .ok (.lload_n 1, 1) := by decide +kernel
theorem dX8_firstPosition_2 : decode cX8_firstPosition 2 = .ok (.invokevirtual 92, 3) := by decide +kernel
theorem dX8_firstPosition_5 : decode cX8_firstPosition 5 = .ok (.ifCond .ne 5, 3) := by decide +kernel
theorem dX8_firstPosition_8 : decode cX8_firstPosition 8 = .ok (.iconst (-1), 1) := by decide +kernel
theorem dX8_firstPosition_9 : decode cX8_firstPosition 9 = .ok (.ireturn, 1) := by decide +kernel
theorem dX8_firstPosition_10 : decode cX8_firstPosition 10 = .ok (.aload_n 0, 1) := by decide +kernel
theorem dX8_firstPosition_11 : decode cX8_firstPosition 11 = .ok (.invokevirtual 215, 3) := by decide +kernel
theorem dX8_firstPosition_14 : decode cX8_firstPosition 14 = .ok (.istore_n 3, 1) := by decide +kernel
theorem dX8_firstPosition_15 : decode cX8_firstPosition 15 = .ok (.iload_n 3, 1) := by decide +kernel
theorem dX8_firstPosition_16 : decode cX8_firstPosition 16 = .ok (.bipush (-9), 2) := by decide +kernel
theorem dX8_firstPosition_18 : decode cX8_firstPosition 18 = .ok (.if_icmp .ne 8, 3) := by decide +kernel
theorem dX8_firstPosition_21 : decode cX8_firstPosition 21 = .ok (.bipush (-9), 2) := by decide +kernel
theorem dX8_firstPosition_23 : decode cX8_firstPosition 23 = .ok (.goto 7, 3) := by decide +kernel
theorem dX8_firstPosition_26 : decode cX8_firstPosition 26 = .ok (.iload_n 3, 1) := by decide +kernel
theorem dX8_firstPosition_27 : decode cX8_firstPosition 27 = .ok (.bipush 16, 2) := by decide +kernel
theorem dX8_firstPosition_29 : decode cX8_firstPosition 29 = .ok (.idiv, 1) := by decide +kernel
theorem dX8_firstPosition_30 : decode cX8_firstPosition 30 = .ok (.ireturn, 1) := by decide +kernel
set_option maxRecDepth 20000 in
theorem ggX8_firstRule_X8_parses : GoodIn wsX8_firstRule wsX8_parses := goodIn_r _ [5, 6, 7, 8, 9, 10, 4, 11, 90, 91, 92, 93, 94, 95, 96, 97, 98, 99, 100, 101, 102, 103, 104, 105, 106, 107, 108, 109, 110, 111, 112, 113, 114, 115, 116, 117, 118, 119] (by decide +kernel) (by decide +kernel)
set_option maxRecDepth 20000 in
theorem gX8_firstRule_X8_parses : GoodIn wsX8_firstRule (wsV RX8 92 RX8 yX8_parses wsX8_parses) := goodIn_app (goodIn_of _ (by decide +kernel)) ggX8_firstRule_X8_parses
set_option maxRecDepth 20000 in
theorem ggX8_firstRule_X8_firstStep : GoodIn wsX8_firstRule wsX8_firstStep := goodIn_r _ [15, 6, 16, 17, 18, 4, 19, 20, 8, 21, 22, 23, 24, 25, 26, 27, 28, 29, 30, 31, 32, 33, 34, 35, 36, 37, 38, 39, 40, 41, 42, 43, 44, 45, 46, 47, 48, 49, 50, 51, 52, 53, 54, 55, 56, 57, 58, 59, 60, 61, 62, 63, 64, 65, 66, 67, 68, 69, 70, 71, 72, 73, 74, 75, 76, 77, 78, 79, 80, 81, 82, 83, 84, 85, 86, 87, 88, 89, 90, 91, 92, 93, 94, 95, 96, 97, 98, 99, 100, 101, 102, 103, 104, 105, 106, 107, 108, 109, 110, 111, 112, 113, 114, 115, 116, 117, 118, 119] (by decide +kernel) (by decide +kernel)
set_option maxRecDepth 20000 in
theorem gX8_firstRule_X8_firstStep : GoodIn wsX8_firstRule (wsV RX8 215 RX8 yX8_firstStep wsX8_firstStep) := goodIn_app (goodIn_of _ (by decide +kernel)) ggX8_firstRule_X8_firstStep
theorem dX8_firstRule_0 : decode cX8_firstRule 0 = .ok (.aload_n 0, 1) := by decide +kernel
theorem dX8_firstRule_1 : decode cX8_firstRule 1 = .ok (.lload_n 1, 1) := by decide +kernel
theorem dX8_firstRule_2 : decode cX8_firstRule 2 = .ok (.invokevirtual 92, 3) := by decide +kernel
theorem dX8_firstRule_5 : decode cX8_firstRule 5 = .ok (.ifCond .ne 5, 3) := by decide +kernel
theorem dX8_firstRule_8 : decode cX8_firstRule 8 = .ok (.iconst (-1), 1) := by decide +kernel
theorem dX8_firstRule_9 : decode cX8_firstRule 9 = .ok (.ireturn, 1) := by decide +kernel
theorem dX8_firstRule_10 : decode cX8_firstRule 10 = .ok (.aload_n 0, 1) := by decide +kernel
theorem dX8_firstRule_11 : decode cX8_firstRule 11 = .ok (.invokevirtual 215, 3) := by decide +kernel
theorem dX8_firstRule_14 : decode cX8_firstRule 14 = .ok (.istore_n 3, 1) := by decide +kernel
theorem dX8_firstRule_15 : decode cX8_firstRule 15 = .ok (.iload_n 3, 1) := by decide +kernel
theorem dX8_firstRule_16 : decode cX8_firstRule 16 = .ok (.bipush (-9), 2) := by decide +kernel
theorem dX8_firstRule_18 : decode cX8_firstRule 18 = .ok (.if_icmp .ne 8, 3) := by decide +kernel
theorem dX8_firstRule_21 : decode cX8_firstRule 21 = .ok (.bipush (-9), 2) := by decide +kernel
theorem dX8_firstRule_23 : decode cX8_firstRule 23 = .ok (.goto 7, 3) := by decide +kernel
theorem dX8_firstRule_26 : decode cX8_firstRule 26 = .ok (.iload_n 3, 1) := by decide +kernel
theorem dX8_firstRule_27 : decode cX8_firstRule 27 = .ok (.bipush 16, 2) := by decide +kernel
theorem dX8_firstRule_29 : decode cX8_firstRule 29 = .ok (.irem, 1) := by decide +kernel
theorem dX8_firstRule_30 : decode cX8_firstRule 30 = .ok (.ireturn, 1) := by decide +kernel
set_option maxRecDepth 20000 in
theorem ggX8_load_X8_parses : GoodIn wsX8_load wsX8_parses := goodIn_r _ [8, 3, 9, 10, 11, 12, 7, 13, 14, 15, 16, 17, 18, 19, 20, 21, 22, 23, 24, 25, 26, 27, 28, 29, 30, 31, 32, 33, 34, 35, 36, 37, 38, 39, 40, 41, 42, 43] (by decide +kernel) (by decide +kernel)
set_option maxRecDepth 20000 in
theorem gX8_load_X8_parses : GoodIn wsX8_load (wsV RX8 92 RX8 yX8_parses wsX8_parses) := goodIn_app (goodIn_of _ (by decide +kernel)) ggX8_load_X8_parses
theorem dX8_load_0 : decode cX8_load 0 = .ok (.aload_n 0, 1) := by decide +kernel
theorem dX8_load_1 : decode cX8_load 1 = .ok (.lload_n 1, 1) := by decide +kernel
theorem dX8_load_2 : decode cX8_load 2 = .ok (.invokevirtual 92, 3) := by decide +kernel
theorem dX8_load_5 : decode cX8_load 5 = .ok (.ifCond .ne 5, 3) := by decide +kernel
theorem dX8_load_8 : decode cX8_load 8 = .ok (.iconst (-1), 1) := by decide +kernel
theorem dX8_load_9 : decode cX8_load 9 = .ok (.ireturn, 1) := by decide +kernel
theorem dX8_load_10 : decode cX8_load 10 = .ok (.aload_n 0, 1) := by decide +kernel
theorem dX8_load_11 : decode cX8_load 11 = .ok (.lload_n 1, 1) := by decide +kernel
theorem dX8_load_12 : decode cX8_load 12 = .ok (.putfield 74, 3) := by decide +kernel
theorem dX8_load_15 : decode cX8_load 15 = .ok (.aload_n 0, 1) := by decide +kernel
theorem dX8_load_16 : decode cX8_load 16 = .ok (.iconst 0, 1) := by decide +kernel
theorem dX8_load_17 : decode cX8_load 17 = .ok (.putfield 219, 3) := by decide +kernel
theorem dX8_load_20 : decode cX8_load 20 = .ok (.aload_n 0, 1) := by decide +kernel
theorem dX8_load_21 : decode cX8_load 21 = .ok (.getfield 78, 3) := by decide +kernel
theorem dX8_load_24 : decode cX8_load 24 = .ok (.ireturn, 1) := by decide +kernel
theorem dX8_current_0 : decode cX8_current 0 = .ok (.aload_n 0, 1) := by decide +kernel
theorem dX8_current_1 : decode cX8_current 1 = .ok (.getfield 74, 3) := by decide +kernel
theorem dX8_current_4 : decode cX8_current 4 = .ok (.lreturn, 1) := by decide +kernel
theorem dX8_records_0 : decode cX8_records 0 = .ok (.aload_n 0, 1) := by decide +kernel
theorem dX8_records_1 : decode cX8_records 1 = .ok (.getfield 58, 3) := by decide +kernel
theorem dX8_records_4 : decode cX8_records 4 = .ok (.aload_n 0, 1) := by decide +kernel
theorem dX8_records_5 : decode cX8_records 5 = .ok (.getfield 219, 3) := by decide +kernel
theorem dX8_records_8 : decode cX8_records 8 = .ok (.iload_n 1, 1) := by decide +kernel
theorem dX8_records_9 : decode cX8_records 9 = .ok (.iastore, 1) := by decide +kernel
theorem dX8_records_10 : decode cX8_records 10 = .ok (.aload_n 0, 1) := by decide +kernel
theorem dX8_records_11 : decode cX8_records 11 = .ok (.getfield 61, 3) := by decide +kernel
theorem dX8_records_14 : decode cX8_records 14 = .ok (.aload_n 0, 1) := by decide +kernel
theorem dX8_records_15 : decode cX8_records 15 = .ok (.getfield 219, 3) := by decide +kernel
theorem dX8_records_18 : decode cX8_records 18 = .ok (.iload_n 2, 1) := by decide +kernel
theorem dX8_records_19 : decode cX8_records 19 = .ok (.iastore, 1) := by decide +kernel
theorem dX8_records_20 : decode cX8_records 20 = .ok (.aload_n 0, 1) := by decide +kernel
theorem dX8_records_21 : decode cX8_records 21 = .ok (.getfield 64, 3) := by decide +kernel
theorem dX8_records_24 : decode cX8_records 24 = .ok (.aload_n 0, 1) := by decide +kernel
theorem dX8_records_25 : decode cX8_records 25 = .ok (.getfield 219, 3) := by decide +kernel
theorem dX8_records_28 : decode cX8_records 28 = .ok (.aload_n 0, 1) := by decide +kernel
theorem dX8_records_29 : decode cX8_records 29 = .ok (.getfield 74, 3) := by decide +kernel
theorem dX8_records_32 : decode cX8_records 32 = .ok (.lastore, 1) := by decide +kernel
theorem dX8_records_33 : decode cX8_records 33 = .ok (.aload_n 0, 1) := by decide +kernel
theorem dX8_records_34 : decode cX8_records 34 = .ok (.dup, 1) := by decide +kernel
theorem dX8_records_35 : decode cX8_records 35 = .ok (.getfield 219, 3) := by decide +kernel
theorem dX8_records_38 : decode cX8_records 38 = .ok (.iconst 1, 1) := by decide +kernel
theorem dX8_records_39 : decode cX8_records 39 = .ok (.iadd, 1) := by decide +kernel
theorem dX8_records_40 : decode cX8_records 40 = .ok (.putfield 219, 3) := by decide +kernel
theorem dX8_records_43 : decode cX8_records 43 = .ok (.aload_n 0, 1) := by decide +kernel
theorem dX8_records_44 : decode cX8_records 44 = .ok (.lload_n 3, 1) := by decide +kernel
theorem dX8_records_45 : decode cX8_records 45 = .ok (.putfield 74, 3) := by decide +kernel
theorem dX8_records_48 : decode cX8_records 48 = .ok (.return_, 1) := by decide +kernel
set_option maxRecDepth 20000 in
theorem ggX8_apply_X8_rewrite : GoodIn wsX8_apply wsX8_rewrite := goodIn_r _ [6, 7, 8, 9, 10, 5, 11, 12, 13, 14, 15, 16, 17, 18, 19, 20, 21, 22, 23, 24, 25, 26, 27, 28, 29, 30, 31, 32, 33, 34, 35, 36, 37, 38, 39, 40, 41, 42, 43, 44, 45, 46, 47, 48, 49, 50, 51, 52, 53, 54, 55, 56, 57, 58, 59, 60, 61, 62, 63, 64, 65, 66, 67, 68, 69, 70, 71, 72, 73, 74, 75, 76, 77, 78, 79, 80, 81, 82, 83, 84, 85, 86, 87, 88, 89, 90, 91, 92, 93, 94, 95, 96, 97, 98, 99, 100, 101, 102, 115, 116, 117, 118, 119, 120, 121, 122, 123, 124, 125, 126, 127, 128, 129, 130, 131, 132, 133, 134, 135, 136, 137, 138, 139, 140, 141, 142, 143, 144] (by decide +kernel) (by decide +kernel)
set_option maxRecDepth 20000 in
theorem gX8_apply_X8_rewrite : GoodIn wsX8_apply (wsV RX8 222 RX8 yX8_rewrite wsX8_rewrite) := goodIn_app (goodIn_of _ (by decide +kernel)) ggX8_apply_X8_rewrite
set_option maxRecDepth 20000 in
theorem ggX8_apply_X8_records : GoodIn wsX8_apply wsX8_records := goodIn_r _ [106, 107, 108, 109, 110, 1, 115, 116, 117, 118, 119, 120, 121, 122, 123, 124, 125, 126, 127, 128, 129, 130, 131, 132, 133, 134, 135, 136, 137, 138, 139, 140, 141, 142, 143, 144] (by decide +kernel) (by decide +kernel)
set_option maxRecDepth 20000 in
theorem gX8_apply_X8_records : GoodIn wsX8_apply (wsV RX8 226 RX8 yX8_records wsX8_records) := goodIn_app (goodIn_of _ (by decide +kernel)) ggX8_apply_X8_records
set_option maxRecDepth 20000 in
theorem ggX8_apply_X8_size : GoodIn wsX8_apply wsX8_size := goodIn_r _ [114, 12, 13, 14, 15, 5, 16, 17, 18, 19, 20, 21, 115, 116, 117, 118, 119, 120, 121, 122, 123, 124, 125, 126, 127, 128, 129, 130, 131, 132, 133, 134, 135, 136, 137, 138, 139, 140, 141, 142, 143, 144] (by decide +kernel) (by decide +kernel)
set_option maxRecDepth 20000 in
theorem gX8_apply_X8_size : GoodIn wsX8_apply (wsV RX8 230 RX8 yX8_size wsX8_size) := goodIn_app (goodIn_of _ (by decide +kernel)) ggX8_apply_X8_size
theorem dX8_apply_0 : decode cX8_apply 0 = .ok (.aload_n 0, 1) := by decide +kernel
theorem dX8_apply_1 : decode cX8_apply 1 = .ok (.aload_n 0, 1) := by decide +kernel
theorem dX8_apply_2 : decode cX8_apply 2 = .ok (.getfield 74, 3) := by decide +kernel
theorem dX8_apply_5 : decode cX8_apply 5 = .ok (.iload_n 1, 1) := by decide +kernel
theorem dX8_apply_6 : decode cX8_apply 6 = .ok (.iload_n 2, 1) := by decide +kernel
theorem dX8_apply_7 : decode cX8_apply 7 = .ok (.invokevirtual 222, 3) := by decide +kernel
theorem dX8_apply_10 : decode cX8_apply 10 = .ok (.lstore_n 3, 1) := by decide +kernel
theorem dX8_apply_11 : decode cX8_apply 11 = .ok (.lload_n 3, 1) := by decide +kernel
theorem dX8_apply_12 : decode cX8_apply 12 = .ok (.lconst 0, 1) := by decide +kernel
theorem dX8_apply_13 : decode cX8_apply 13 = .ok (.lcmp, 1) := by decide +kernel
theorem dX8_apply_14 : decode cX8_apply 14 = .ok (.ifCond .ge 6, 3) := by decide +kernel
theorem dX8_apply_17 : decode cX8_apply 17 = .ok (.lload_n 3, 1) := by decide +kernel
theorem dX8_apply_18 : decode cX8_apply 18 = .ok (.l2i, 1) := by decide +kernel
theorem dX8_apply_19 : decode cX8_apply 19 = .ok (.ireturn, 1) := by decide +kernel
theorem dX8_apply_20 : decode cX8_apply 20 = .ok (.aload_n 0, 1) := by decide +kernel
theorem dX8_apply_21 : decode cX8_apply 21 = .ok (.iload_n 1, 1) := by decide +kernel
theorem dX8_apply_22 : decode cX8_apply 22 = .ok (.iload_n 2, 1) := by decide +kernel
theorem dX8_apply_23 : decode cX8_apply 23 = .ok (.lload_n 3, 1) := by decide +kernel
theorem dX8_apply_24 : decode cX8_apply 24 = .ok (.invokevirtual 226, 3) := by decide +kernel
theorem dX8_apply_27 : decode cX8_apply 27 = .ok (.aload_n 0, 1) := by decide +kernel
theorem dX8_apply_28 : decode cX8_apply 28 = .ok (.aload_n 0, 1) := by decide +kernel
theorem dX8_apply_29 : decode cX8_apply 29 = .ok (.getfield 74, 3) := by decide +kernel
theorem dX8_apply_32 : decode cX8_apply 32 = .ok (.invokevirtual 230, 3) := by decide +kernel
theorem dX8_apply_35 : decode cX8_apply 35 = .ok (.ireturn, 1) := by decide +kernel
set_option maxRecDepth 20000 in
theorem ggX8_simplify_X8_parses : GoodIn wsX8_simplify wsX8_parses := goodIn_r _ [6, 7, 8, 9, 10, 11, 5, 12, 103, 104, 105, 106, 107, 108, 109, 110, 111, 112, 113, 114, 115, 116, 117, 118, 119, 120, 121, 122, 123, 124, 125, 126, 127, 128, 129, 130, 131, 132] (by decide +kernel) (by decide +kernel)
set_option maxRecDepth 20000 in
theorem gX8_simplify_X8_parses : GoodIn wsX8_simplify (wsV RX8 92 RX8 yX8_parses wsX8_parses) := goodIn_app (goodIn_of _ (by decide +kernel)) ggX8_simplify_X8_parses
set_option maxRecDepth 20000 in
theorem ggX8_simplify_X8_firstStep : GoodIn wsX8_simplify wsX8_firstStep := goodIn_r _ [16, 7, 17, 18, 19, 5, 20, 21, 9, 22, 23, 24, 25, 26, 27, 28, 29, 30, 31, 32, 33, 34, 35, 36, 37, 38, 39, 40, 41, 42, 43, 44, 45, 46, 47, 48, 49, 50, 51, 52, 53, 54, 55, 56, 57, 58, 59, 60, 61, 62, 63, 64, 65, 66, 67, 68, 69, 70, 71, 72, 73, 74, 75, 76, 77, 78, 79, 80, 81, 82, 83, 84, 85, 86, 87, 88, 89, 90, 103, 104, 105, 106, 107, 108, 109, 110, 111, 112, 113, 114, 115, 116, 117, 118, 119, 120, 121, 122, 123, 124, 125, 126, 127, 128, 129, 130, 131, 132] (by decide +kernel) (by decide +kernel)
set_option maxRecDepth 20000 in
theorem gX8_simplify_X8_firstStep : GoodIn wsX8_simplify (wsV RX8 215 RX8 yX8_firstStep wsX8_firstStep) := goodIn_app (goodIn_of _ (by decide +kernel)) ggX8_simplify_X8_firstStep
set_option maxRecDepth 20000 in
theorem ggX8_simplify_X8_replaced : GoodIn wsX8_simplify wsX8_replaced := goodIn_r _ [94, 8, 9, 21, 34, 7, 26, 27, 28, 5, 29, 103, 104, 105, 106, 107, 108, 109, 110, 111, 112, 113, 114, 115, 116, 117, 118, 119, 120, 121, 122, 123, 124, 125, 126, 127, 128, 129, 130, 131, 132] (by decide +kernel) (by decide +kernel)
set_option maxRecDepth 20000 in
theorem gX8_simplify_X8_replaced : GoodIn wsX8_simplify (wsV RX8 211 RX8 yX8_replaced wsX8_replaced) := goodIn_app (goodIn_of _ (by decide +kernel)) ggX8_simplify_X8_replaced
set_option maxRecDepth 20000 in
theorem ggX8_simplify_X8_records : GoodIn wsX8_simplify wsX8_records := goodIn_r _ [98, 99, 100, 101, 102, 1, 103, 104, 105, 106, 107, 108, 109, 110, 111, 112, 113, 114, 115, 116, 117, 118, 119, 120, 121, 122, 123, 124, 125, 126, 127, 128, 129, 130, 131, 132] (by decide +kernel) (by decide +kernel)
set_option maxRecDepth 20000 in
theorem gX8_simplify_X8_records : GoodIn wsX8_simplify (wsV RX8 226 RX8 yX8_records wsX8_records) := goodIn_app (goodIn_of _ (by decide +kernel)) ggX8_simplify_X8_records
theorem dX8_simplify_0 : decode cX8_simplify 0 = .ok (.iconst 0, 1) := by decide +kernel
theorem dX8_simplify_1 : decode cX8_simplify 1 = .ok (.istore_n 1, 1) := by decide +kernel
theorem dX8_simplify_2 : decode cX8_simplify 2 = .ok (.aload_n 0, 1) := by decide +kernel
theorem dX8_simplify_3 : decode cX8_simplify 3 = .ok (.aload_n 0, 1) := by decide +kernel
theorem dX8_simplify_4 : decode cX8_simplify 4 = .ok (.getfield 74, 3) := by decide +kernel
theorem dX8_simplify_7 : decode cX8_simplify 7 = .ok (.invokevirtual 92, 3) := by decide +kernel
theorem dX8_simplify_10 : decode cX8_simplify 10 = .ok (.pop, 1) := by decide +kernel
theorem dX8_simplify_11 : decode cX8_simplify 11 = .ok (.aload_n 0, 1) := by decide +kernel
theorem dX8_simplify_12 : decode cX8_simplify 12 = .ok (.invokevirtual 215, 3) := by decide +kernel
theorem dX8_simplify_15 : decode cX8_simplify 15 = .ok (.istore_n 2, 1) := by decide +kernel
theorem dX8_simplify_16 : decode cX8_simplify 16 = .ok (.iload_n 2, 1) := by decide +kernel
theorem dX8_simplify_17 : decode cX8_simplify 17 = .ok (.bipush (-9), 2) := by decide +kernel
theorem dX8_simplify_19 : decode cX8_simplify 19 = .ok (.if_icmp .eq 43, 3) := by decide +kernel
theorem dX8_simplify_22 : decode cX8_simplify 22 = .ok (.aload_n 0, 1) := by decide +kernel
theorem dX8_simplify_23 : decode cX8_simplify 23 = .ok (.iload_n 2, 1) := by decide +kernel
theorem dX8_simplify_24 : decode cX8_simplify 24 = .ok (.bipush 16, 2) := by decide +kernel
theorem dX8_simplify_26 : decode cX8_simplify 26 = .ok (.irem, 1) := by decide +kernel
theorem dX8_simplify_27 : decode cX8_simplify 27 = .ok (.iload_n 2, 1) := by decide +kernel
theorem dX8_simplify_28 : decode cX8_simplify 28 = .ok (.bipush 16, 2) := by decide +kernel
theorem dX8_simplify_30 : decode cX8_simplify 30 = .ok (.idiv, 1) := by decide +kernel
theorem dX8_simplify_31 : decode cX8_simplify 31 = .ok (.aload_n 0, 1) := by decide +kernel
theorem dX8_simplify_32 : decode cX8_simplify 32 = .ok (.iload_n 2, 1) := by decide +kernel
theorem dX8_simplify_33 : decode cX8_simplify 33 = .ok (.bipush 16, 2) := by decide +kernel
theorem dX8_simplify_35 : decode cX8_simplify 35 = .ok (.idiv, 1) := by decide +kernel
theorem dX8_simplify_36 : decode cX8_simplify 36 = .ok (.invokevirtual 211, 3) := by decide +kernel
theorem dX8_simplify_39 : decode cX8_simplify 39 = .ok (.invokevirtual 226, 3) := by decide +kernel
theorem dX8_simplify_42 : decode cX8_simplify 42 = .ok (.iinc 1 1, 3) := by decide +kernel
theorem dX8_simplify_45 : decode cX8_simplify 45 = .ok (.aload_n 0, 1) := by decide +kernel
theorem dX8_simplify_46 : decode cX8_simplify 46 = .ok (.aload_n 0, 1) := by decide +kernel
theorem dX8_simplify_47 : decode cX8_simplify 47 = .ok (.getfield 74, 3) := by decide +kernel
theorem dX8_simplify_50 : decode cX8_simplify 50 = .ok (.invokevirtual 92, 3) := by decide +kernel
theorem dX8_simplify_53 : decode cX8_simplify 53 = .ok (.pop, 1) := by decide +kernel
theorem dX8_simplify_54 : decode cX8_simplify 54 = .ok (.aload_n 0, 1) := by decide +kernel
theorem dX8_simplify_55 : decode cX8_simplify 55 = .ok (.invokevirtual 215, 3) := by decide +kernel
theorem dX8_simplify_58 : decode cX8_simplify 58 = .ok (.istore_n 2, 1) := by decide +kernel
theorem dX8_simplify_59 : decode cX8_simplify 59 = .ok (.goto (-43), 3) := by decide +kernel
theorem dX8_simplify_62 : decode cX8_simplify 62 = .ok (.iload_n 1, 1) := by decide +kernel
theorem dX8_simplify_63 : decode cX8_simplify 63 = .ok (.ireturn, 1) := by decide +kernel
set_option maxRecDepth 20000 in
theorem ggX8_undo_X8_within : GoodIn wsX8_undo wsX8_within := goodIn_r _ [7] (by decide +kernel) (by decide +kernel)
set_option maxRecDepth 20000 in
theorem gX8_undo_X8_within : GoodIn wsX8_undo (va_wsS RX8 84 yX8_within wsX8_within) := goodIn_app (goodIn_of _ (by decide +kernel)) ggX8_undo_X8_within
theorem dX8_undo_0 : decode cX8_undo 0 = .ok (.iload_n 1, 1) := by decide +kernel
theorem dX8_undo_1 : decode cX8_undo 1 = .ok (.iconst 0, 1) := by decide +kernel
theorem dX8_undo_2 : decode cX8_undo 2 = .ok (.aload_n 0, 1) := by decide +kernel
theorem dX8_undo_3 : decode cX8_undo 3 = .ok (.getfield 219, 3) := by decide +kernel
theorem dX8_undo_6 : decode cX8_undo 6 = .ok (.invokestatic 84, 3) := by decide +kernel
theorem dX8_undo_9 : decode cX8_undo 9 = .ok (.ifCond .ne 6, 3) := by decide +kernel
theorem dX8_undo_12 : decode cX8_undo 12 = .ok (.bipush (-5), 2) := by decide +kernel
theorem dX8_undo_14 : decode cX8_undo 14 = .ok (.ireturn, 1) := by decide +kernel
theorem dX8_undo_15 : decode cX8_undo 15 = .ok (.aload_n 0, 1) := by decide +kernel
theorem dX8_undo_16 : decode cX8_undo 16 = .ok (.dup, 1) := by decide +kernel
theorem dX8_undo_17 : decode cX8_undo 17 = .ok (.getfield 219, 3) := by decide +kernel
theorem dX8_undo_20 : decode cX8_undo 20 = .ok (.iload_n 1, 1) := by decide +kernel
theorem dX8_undo_21 : decode cX8_undo 21 = .ok (.isub, 1) := by decide +kernel
theorem dX8_undo_22 : decode cX8_undo 22 = .ok (.putfield 219, 3) := by decide +kernel
theorem dX8_undo_25 : decode cX8_undo 25 = .ok (.aload_n 0, 1) := by decide +kernel
theorem dX8_undo_26 : decode cX8_undo 26 = .ok (.iload_n 1, 1) := by decide +kernel
theorem dX8_undo_27 : decode cX8_undo 27 = .ok (.ifCond .le 15, 3) := by decide +kernel
theorem dX8_undo_30 : decode cX8_undo 30 = .ok (.aload_n 0, 1) := by decide +kernel
theorem dX8_undo_31 : decode cX8_undo 31 = .ok (.getfield 64, 3) := by decide +kernel
theorem dX8_undo_34 : decode cX8_undo 34 = .ok (.aload_n 0, 1) := by decide +kernel
theorem dX8_undo_35 : decode cX8_undo 35 = .ok (.getfield 219, 3) := by decide +kernel
theorem dX8_undo_38 : decode cX8_undo 38 = .ok (.laload, 1) := by decide +kernel
theorem dX8_undo_39 : decode cX8_undo 39 = .ok (.goto 7, 3) := by decide +kernel
theorem dX8_undo_42 : decode cX8_undo 42 = .ok (.aload_n 0, 1) := by decide +kernel
theorem dX8_undo_43 : decode cX8_undo 43 = .ok (.getfield 74, 3) := by decide +kernel
theorem dX8_undo_46 : decode cX8_undo 46 = .ok (.putfield 74, 3) := by decide +kernel
theorem dX8_undo_49 : decode cX8_undo 49 = .ok (.aload_n 0, 1) := by decide +kernel
theorem dX8_undo_50 : decode cX8_undo 50 = .ok (.getfield 219, 3) := by decide +kernel
theorem dX8_undo_53 : decode cX8_undo 53 = .ok (.ireturn, 1) := by decide +kernel
theorem dX8_stepCount_0 : decode cX8_stepCount 0 = .ok (.aload_n 0, 1) := by decide +kernel
theorem dX8_stepCount_1 : decode cX8_stepCount 1 = .ok (.getfield 219, 3) := by decide +kernel
theorem dX8_stepCount_4 : decode cX8_stepCount 4 = .ok (.ireturn, 1) := by decide +kernel
set_option maxRecDepth 20000 in
theorem ggX8_stepRule_X8_within : GoodIn wsX8_stepRule wsX8_within := goodIn_r _ [6] (by decide +kernel) (by decide +kernel)
set_option maxRecDepth 20000 in
theorem gX8_stepRule_X8_within : GoodIn wsX8_stepRule (va_wsS RX8 84 yX8_within wsX8_within) := goodIn_app (goodIn_of _ (by decide +kernel)) ggX8_stepRule_X8_within
theorem dX8_stepRule_0 : decode cX8_stepRule 0 = .ok (.iload_n 1, 1) := by decide +kernel
theorem dX8_stepRule_1 : decode cX8_stepRule 1 = .ok (.iconst 0, 1) := by decide +kernel
theorem dX8_stepRule_2 : decode cX8_stepRule 2 = .ok (.aload_n 0, 1) := by decide +kernel
theorem dX8_stepRule_3 : decode cX8_stepRule 3 = .ok (.getfield 219, 3) := by decide +kernel
theorem dX8_stepRule_6 : decode cX8_stepRule 6 = .ok (.iconst 1, 1) := by decide +kernel
theorem dX8_stepRule_7 : decode cX8_stepRule 7 = .ok (.isub, 1) := by decide +kernel
theorem dX8_stepRule_8 : decode cX8_stepRule 8 = .ok (.invokestatic 84, 3) := by decide +kernel
theorem dX8_stepRule_11 : decode cX8_stepRule 11 = .ok (.ifCond .eq 12, 3) := by decide +kernel
theorem dX8_stepRule_14 : decode cX8_stepRule 14 = .ok (.aload_n 0, 1) := by decide +kernel
theorem dX8_stepRule_15 : decode cX8_stepRule 15 = .ok (.getfield 58, 3) := by decide +kernel
theorem dX8_stepRule_18 : decode cX8_stepRule 18 = .ok (.iload_n 1, 1) := by decide +kernel
theorem dX8_stepRule_19 : decode cX8_stepRule 19 = .ok (.iaload, 1) := by decide +kernel
theorem dX8_stepRule_20 : decode cX8_stepRule 20 = .ok (.goto 5, 3) := by decide +kernel
theorem dX8_stepRule_23 : decode cX8_stepRule 23 = .ok (.bipush (-5), 2) := by decide +kernel
theorem dX8_stepRule_25 : decode cX8_stepRule 25 = .ok (.ireturn, 1) := by decide +kernel
set_option maxRecDepth 20000 in
theorem ggX8_stepPosition_X8_within : GoodIn wsX8_stepPosition wsX8_within := goodIn_r _ [6] (by decide +kernel) (by decide +kernel)
set_option maxRecDepth 20000 in
theorem gX8_stepPosition_X8_within : GoodIn wsX8_stepPosition (va_wsS RX8 84 yX8_within wsX8_within) := goodIn_app (goodIn_of _ (by decide +kernel)) ggX8_stepPosition_X8_within
theorem dX8_stepPosition_0 : decode cX8_stepPosition 0 = .ok (.iload_n 1, 1) := by decide +kernel
theorem dX8_stepPosition_1 : decode cX8_stepPosition 1 = .ok (.iconst 0, 1) := by decide +kernel
theorem dX8_stepPosition_2 : decode cX8_stepPosition 2 = .ok (.aload_n 0, 1) := by decide +kernel
theorem dX8_stepPosition_3 : decode cX8_stepPosition 3 = .ok (.getfield 219, 3) := by decide +kernel
theorem dX8_stepPosition_6 : decode cX8_stepPosition 6 = .ok (.iconst 1, 1) := by decide +kernel
theorem dX8_stepPosition_7 : decode cX8_stepPosition 7 = .ok (.isub, 1) := by decide +kernel
theorem dX8_stepPosition_8 : decode cX8_stepPosition 8 = .ok (.invokestatic 84, 3) := by decide +kernel
theorem dX8_stepPosition_11 : decode cX8_stepPosition 11 = .ok (.ifCond .eq 12, 3) := by decide +kernel
theorem dX8_stepPosition_14 : decode cX8_stepPosition 14 = .ok (.aload_n 0, 1) := by decide +kernel
theorem dX8_stepPosition_15 : decode cX8_stepPosition 15 = .ok (.getfield 61, 3) := by decide +kernel
theorem dX8_stepPosition_18 : decode cX8_stepPosition 18 = .ok (.iload_n 1, 1) := by decide +kernel
theorem dX8_stepPosition_19 : decode cX8_stepPosition 19 = .ok (.iaload, 1) := by decide +kernel
theorem dX8_stepPosition_20 : decode cX8_stepPosition 20 = .ok (.goto 5, 3) := by decide +kernel
theorem dX8_stepPosition_23 : decode cX8_stepPosition 23 = .ok (.bipush (-5), 2) := by decide +kernel
theorem dX8_stepPosition_25 : decode cX8_stepPosition 25 = .ok (.ireturn, 1) := by decide +kernel
set_option maxRecDepth 20000 in
theorem ggX8_applicableCount_X8_parses : GoodIn wsX8_applicableCount wsX8_parses := goodIn_r _ [7, 2, 8, 9, 10, 11, 6, 12, 87, 88, 89, 90, 91, 92, 93, 94, 95, 96, 97, 98, 99, 100, 101, 102, 103, 104, 105, 106, 107, 108, 109, 110, 111, 112, 113, 114, 115, 116] (by decide +kernel) (by decide +kernel)
set_option maxRecDepth 20000 in
theorem gX8_applicableCount_X8_parses : GoodIn wsX8_applicableCount (wsV RX8 92 RX8 yX8_parses wsX8_parses) := goodIn_app (goodIn_of _ (by decide +kernel)) ggX8_applicableCount_X8_parses
set_option maxRecDepth 20000 in
theorem ggX8_applicableCount_X8_applies : GoodIn wsX8_applicableCount wsX8_applies := goodIn_r _ [16, 17, 9, 18, 19, 20, 6, 21, 22, 23, 24, 25, 26, 27, 28, 29, 30, 31, 32, 33, 34, 35, 36, 37, 38, 39, 40, 41, 42, 43, 44, 45, 46, 47, 48, 49, 50, 51, 52, 53, 54, 55, 56, 57, 58, 59, 60, 61, 62, 63, 64, 65, 66, 67, 68, 69, 70, 71, 72, 73, 74, 75, 76, 77, 78, 79, 80, 81, 82, 83, 84, 85, 86, 87, 88, 89, 90, 91, 92, 93, 94, 95, 96, 97, 98, 99, 100, 101, 102, 103, 104, 105, 106, 107, 108, 109, 110, 111, 112, 113, 114, 115, 116] (by decide +kernel) (by decide +kernel)
set_option maxRecDepth 20000 in
theorem gX8_applicableCount_X8_applies : GoodIn wsX8_applicableCount (wsV RX8 202 RX8 yX8_applies wsX8_applies) := goodIn_app (goodIn_of _ (by decide +kernel)) ggX8_applicableCount_X8_applies
theorem dX8_applicableCount_0 : decode cX8_applicableCount 0 = .ok (.aload_n 0, 1) := by decide +kernel
theorem dX8_applicableCount_1 : decode cX8_applicableCount 1 = .ok (.aload_n 0, 1) := by decide +kernel
theorem dX8_applicableCount_2 : decode cX8_applicableCount 2 = .ok (.getfield 74, 3) := by decide +kernel
theorem dX8_applicableCount_5 : decode cX8_applicableCount 5 = .ok (.invokevirtual 92, 3) := by decide +kernel
theorem dX8_applicableCount_8 : decode cX8_applicableCount 8 = .ok (.pop, 1) := by decide +kernel
theorem dX8_applicableCount_9 : decode cX8_applicableCount 9 = .ok (.iconst 0, 1) := by decide +kernel
theorem dX8_applicableCount_10 : decode cX8_applicableCount 10 = .ok (.istore_n 1, 1) := by decide +kernel
theorem dX8_applicableCount_11 : decode cX8_applicableCount 11 = .ok (.iconst 0, 1) := by decide +kernel
theorem dX8_applicableCount_12 : decode cX8_applicableCount 12 = .ok (.istore_n 2, 1) := by decide +kernel
theorem dX8_applicableCount_13 : decode cX8_applicableCount 13 = .ok (.iload_n 2, 1) := by decide +kernel
theorem dX8_applicableCount_14 : decode cX8_applicableCount 14 = .ok (.bipush 16, 2) := by decide +kernel
theorem dX8_applicableCount_16 : decode cX8_applicableCount 16 = .ok (.aload_n 0, 1) := by decide +kernel
theorem dX8_applicableCount_17 : decode cX8_applicableCount 17 = .ok (.getfield 78, 3) := by decide +kernel
theorem dX8_applicableCount_20 : decode cX8_applicableCount 20 = .ok (.imul, 1) := by decide +kernel
theorem dX8_applicableCount_21 : decode cX8_applicableCount 21 = .ok (.if_icmp .ge 32, 3) := by decide +kernel
theorem dX8_applicableCount_24 : decode cX8_applicableCount 24 = .ok (.iload_n 1, 1) := by decide +kernel
theorem dX8_applicableCount_25 : decode cX8_applicableCount 25 = .ok (.aload_n 0, 1) := by decide +kernel
theorem dX8_applicableCount_26 : decode cX8_applicableCount 26 = .ok (.iload_n 2, 1) := by decide +kernel
theorem dX8_applicableCount_27 : decode cX8_applicableCount 27 = .ok (.bipush 16, 2) := by decide +kernel
theorem dX8_applicableCount_29 : decode cX8_applicableCount 29 = .ok (.irem, 1) := by decide +kernel
theorem dX8_applicableCount_30 : decode cX8_applicableCount 30 = .ok (.iload_n 2, 1) := by decide +kernel
theorem dX8_applicableCount_31 : decode cX8_applicableCount 31 = .ok (.bipush 16, 2) := by decide +kernel
theorem dX8_applicableCount_33 : decode cX8_applicableCount 33 = .ok (.idiv, 1) := by decide +kernel
theorem dX8_applicableCount_34 : decode cX8_applicableCount 34 = .ok (.invokevirtual 202, 3) := by decide +kernel
theorem dX8_applicableCount_37 : decode cX8_applicableCount 37 = .ok (.ifCond .eq 7, 3) := by decide +kernel
theorem dX8_applicableCount_40 : decode cX8_applicableCount 40 = .ok (.iconst 1, 1) := by decide +kernel
theorem dX8_applicableCount_41 : decode cX8_applicableCount 41 = .ok (.goto 4, 3) := by decide +kernel
theorem dX8_applicableCount_44 : decode cX8_applicableCount 44 = .ok (.iconst 0, 1) := by decide +kernel
theorem dX8_applicableCount_45 : decode cX8_applicableCount 45 = .ok (.iadd, 1) := by decide +kernel
theorem dX8_applicableCount_46 : decode cX8_applicableCount 46 = .ok (.istore_n 1, 1) := by decide +kernel
theorem dX8_applicableCount_47 : decode cX8_applicableCount 47 = .ok (.iinc 2 1, 3) := by decide +kernel
theorem dX8_applicableCount_50 : decode cX8_applicableCount 50 = .ok (.goto (-37), 3) := by decide +kernel
theorem dX8_applicableCount_53 : decode cX8_applicableCount 53 = .ok (.iload_n 1, 1) := by decide +kernel
theorem dX8_applicableCount_54 : decode cX8_applicableCount 54 = .ok (.ireturn, 1) := by decide +kernel
theorem dX8_meets_0 : decode cX8_meets 0 = .ok (.iconst 0, 1) := by decide +kernel
theorem dX8_meets_1 : decode cX8_meets 1 = .ok (.istore 4, 2) := by decide +kernel
theorem dX8_meets_3 : decode cX8_meets 3 = .ok (.iload 4, 2) := by decide +kernel
theorem dX8_meets_5 : decode cX8_meets 5 = .ok (.aload_n 0, 1) := by decide +kernel
theorem dX8_meets_6 : decode cX8_meets 6 = .ok (.getfield 234, 3) := by decide +kernel
theorem dX8_meets_9 : decode cX8_meets 9 = .ok (.if_icmp .ge 23, 3) := by decide +kernel
theorem dX8_meets_12 : decode cX8_meets 12 = .ok (.aload_n 0, 1) := by decide +kernel
theorem dX8_meets_13 : decode cX8_meets 13 = .ok (.getfield 68, 3) := by decide +kernel
theorem dX8_meets_16 : decode cX8_meets 16 = .ok (.iload 4, 2) := by decide +kernel
theorem dX8_meets_18 : decode cX8_meets 18 = .ok (.laload, 1) := by decide +kernel
theorem dX8_meets_19 : decode cX8_meets 19 = .ok (.lload_n 1, 1) := by decide +kernel
theorem dX8_meets_20 : decode cX8_meets 20 = .ok (.lcmp, 1) := by decide +kernel
theorem dX8_meets_21 : decode cX8_meets 21 = .ok (.ifCond .ne 5, 3) := by decide +kernel
theorem dX8_meets_24 : decode cX8_meets 24 = .ok (.iconst 1, 1) := by decide +kernel
theorem dX8_meets_25 : decode cX8_meets 25 = .ok (.ireturn, 1) := by decide +kernel
theorem dX8_meets_26 : decode cX8_meets 26 = .ok (.iinc 4 1, 3) := by decide +kernel
theorem dX8_meets_29 : decode cX8_meets 29 = .ok (.goto (-26), 3) := by decide +kernel
theorem dX8_meets_32 : decode cX8_meets 32 = .ok (.aload_n 0, 1) := by decide +kernel
theorem dX8_meets_33 : decode cX8_meets 33 = .ok (.getfield 234, 3) := by decide +kernel
theorem dX8_meets_36 : decode cX8_meets 36 = .ok (.bipush 60, 2) := by decide +kernel
theorem dX8_meets_38 : decode cX8_meets 38 = .ok (.if_icmp .ne 5, 3) := by decide +kernel
theorem dX8_meets_41 : decode cX8_meets 41 = .ok (.iconst 0, 1) := by decide +kernel
theorem dX8_meets_42 : decode cX8_meets 42 = .ok (.ireturn, 1) := by decide +kernel
theorem dX8_meets_43 : decode cX8_meets 43 = .ok (.aload_n 0, 1) := by decide +kernel
theorem dX8_meets_44 : decode cX8_meets 44 = .ok (.getfield 68, 3) := by decide +kernel
theorem dX8_meets_47 : decode cX8_meets 47 = .ok (.aload_n 0, 1) := by decide +kernel
theorem dX8_meets_48 : decode cX8_meets 48 = .ok (.getfield 234, 3) := by decide +kernel
theorem dX8_meets_51 : decode cX8_meets 51 = .ok (.lload_n 1, 1) := by decide +kernel
theorem dX8_meets_52 : decode cX8_meets 52 = .ok (.lastore, 1) := by decide +kernel
theorem dX8_meets_53 : decode cX8_meets 53 = .ok (.aload_n 0, 1) := by decide +kernel
theorem dX8_meets_54 : decode cX8_meets 54 = .ok (.getfield 71, 3) := by decide +kernel
theorem dX8_meets_57 : decode cX8_meets 57 = .ok (.aload_n 0, 1) := by decide +kernel
theorem dX8_meets_58 : decode cX8_meets 58 = .ok (.getfield 234, 3) := by decide +kernel
theorem dX8_meets_61 : decode cX8_meets 61 = .ok (.iload_n 3, 1) := by decide +kernel
theorem dX8_meets_62 : decode cX8_meets 62 = .ok (.iastore, 1) := by decide +kernel
theorem dX8_meets_63 : decode cX8_meets 63 = .ok (.aload_n 0, 1) := by decide +kernel
theorem dX8_meets_64 : decode cX8_meets 64 = .ok (.dup, 1) := by decide +kernel
theorem dX8_meets_65 : decode cX8_meets 65 = .ok (.getfield 234, 3) := by decide +kernel
theorem dX8_meets_68 : decode cX8_meets 68 = .ok (.iconst 1, 1) := by decide +kernel
theorem dX8_meets_69 : decode cX8_meets 69 = .ok (.iadd, 1) := by decide +kernel
theorem dX8_meets_70 : decode cX8_meets 70 = .ok (.putfield 234, 3) := by decide +kernel
theorem dX8_meets_73 : decode cX8_meets 73 = .ok (.iconst 1, 1) := by decide +kernel
theorem dX8_meets_74 : decode cX8_meets 74 = .ok (.ireturn, 1) := by decide +kernel
set_option maxRecDepth 20000 in
theorem ggX8_expands_X8_parses : GoodIn wsX8_expands wsX8_parses := goodIn_r _ [8, 2, 9, 10, 11, 12, 7, 13, 97, 98, 99, 100, 101, 102, 103, 104, 105, 106, 107, 108, 109, 110, 111, 112, 113, 114, 115, 116, 117, 118, 119, 120, 121, 122, 123, 124, 125, 126] (by decide +kernel) (by decide +kernel)
set_option maxRecDepth 20000 in
theorem gX8_expands_X8_parses : GoodIn wsX8_expands (wsV RX8 92 RX8 yX8_parses wsX8_parses) := goodIn_app (goodIn_of _ (by decide +kernel)) ggX8_expands_X8_parses
set_option maxRecDepth 20000 in
theorem ggX8_expands_X8_applies : GoodIn wsX8_expands wsX8_applies := goodIn_r _ [17, 18, 10, 19, 20, 21, 7, 22, 23, 24, 25, 26, 27, 28, 29, 30, 31, 32, 33, 34, 35, 36, 37, 38, 39, 40, 41, 42, 43, 44, 45, 46, 47, 48, 49, 50, 51, 52, 53, 54, 55, 56, 57, 58, 59, 60, 61, 62, 63, 64, 65, 66, 67, 68, 69, 70, 71, 72, 73, 74, 75, 76, 77, 78, 79, 80, 81, 82, 83, 84, 85, 86, 87, 97, 98, 99, 100, 101, 102, 103, 104, 105, 106, 107, 108, 109, 110, 111, 112, 113, 114, 115, 116, 117, 118, 119, 120, 121, 122, 123, 124, 125, 126] (by decide +kernel) (by decide +kernel)
set_option maxRecDepth 20000 in
theorem gX8_expands_X8_applies : GoodIn wsX8_expands (wsV RX8 202 RX8 yX8_applies wsX8_applies) := goodIn_app (goodIn_of _ (by decide +kernel)) ggX8_expands_X8_applies
set_option maxRecDepth 20000 in
theorem ggX8_expands_X8_replaced : GoodIn wsX8_expands wsX8_replaced := goodIn_r _ [91, 9, 10, 18, 31, 2, 23, 24, 25, 7, 26, 97, 98, 99, 100, 101, 102, 103, 104, 105, 106, 107, 108, 109, 110, 111, 112, 113, 114, 115, 116, 117, 118, 119, 120, 121, 122, 123, 124, 125, 126] (by decide +kernel) (by decide +kernel)
set_option maxRecDepth 20000 in
theorem gX8_expands_X8_replaced : GoodIn wsX8_expands (wsV RX8 211 RX8 yX8_replaced wsX8_replaced) := goodIn_app (goodIn_of _ (by decide +kernel)) ggX8_expands_X8_replaced
set_option maxRecDepth 20000 in
theorem ggX8_expands_X8_meets : GoodIn wsX8_expands wsX8_meets := goodIn_r _ [95, 96, 1, 3, 97, 98, 99, 100, 101, 102, 103, 104, 105, 106, 107, 108, 109, 110, 111, 112, 113, 114, 115, 116, 117, 118, 119, 120, 121, 122, 123, 124, 125, 126] (by decide +kernel) (by decide +kernel)
set_option maxRecDepth 20000 in
theorem gX8_expands_X8_meets : GoodIn wsX8_expands (wsV RX8 237 RX8 yX8_meets wsX8_meets) := goodIn_app (goodIn_of _ (by decide +kernel)) ggX8_expands_X8_meets
theorem dX8_expands_0 : decode cX8_expands 0 = .ok (.aload_n 0, 1) := by decide +kernel
theorem dX8_expands_1 : decode cX8_expands 1 = .ok (.aload_n 0, 1) := by decide +kernel
theorem dX8_expands_2 : decode cX8_expands 2 = .ok (.getfield 68, 3) := by decide +kernel
theorem dX8_expands_5 : decode cX8_expands 5 = .ok (.iload_n 1, 1) := by decide +kernel
theorem dX8_expands_6 : decode cX8_expands 6 = .ok (.laload, 1) := by decide +kernel
theorem dX8_expands_7 : decode cX8_expands 7 = .ok (.invokevirtual 92, 3) := by decide +kernel
theorem dX8_expands_10 : decode cX8_expands 10 = .ok (.pop, 1) := by decide +kernel
theorem dX8_expands_11 : decode cX8_expands 11 = .ok (.iconst 0, 1) := by decide +kernel
theorem dX8_expands_12 : decode cX8_expands 12 = .ok (.istore_n 2, 1) := by decide +kernel
theorem dX8_expands_13 : decode cX8_expands 13 = .ok (.iload_n 2, 1) := by decide +kernel
theorem dX8_expands_14 : decode cX8_expands 14 = .ok (.bipush 16, 2) := by decide +kernel
theorem dX8_expands_16 : decode cX8_expands 16 = .ok (.aload_n 0, 1) := by decide +kernel
theorem dX8_expands_17 : decode cX8_expands 17 = .ok (.getfield 78, 3) := by decide +kernel
theorem dX8_expands_20 : decode cX8_expands 20 = .ok (.imul, 1) := by decide +kernel
theorem dX8_expands_21 : decode cX8_expands 21 = .ok (.if_icmp .ge 49, 3) := by decide +kernel
theorem dX8_expands_24 : decode cX8_expands 24 = .ok (.aload_n 0, 1) := by decide +kernel
theorem dX8_expands_25 : decode cX8_expands 25 = .ok (.iload_n 2, 1) := by decide +kernel
theorem dX8_expands_26 : decode cX8_expands 26 = .ok (.bipush 16, 2) := by decide +kernel
theorem dX8_expands_28 : decode cX8_expands 28 = .ok (.irem, 1) := by decide +kernel
theorem dX8_expands_29 : decode cX8_expands 29 = .ok (.iload_n 2, 1) := by decide +kernel
theorem dX8_expands_30 : decode cX8_expands 30 = .ok (.bipush 16, 2) := by decide +kernel
theorem dX8_expands_32 : decode cX8_expands 32 = .ok (.idiv, 1) := by decide +kernel
theorem dX8_expands_33 : decode cX8_expands 33 = .ok (.invokevirtual 202, 3) := by decide +kernel
theorem dX8_expands_36 : decode cX8_expands 36 = .ok (.ifCond .eq 28, 3) := by decide +kernel
theorem dX8_expands_39 : decode cX8_expands 39 = .ok (.aload_n 0, 1) := by decide +kernel
theorem dX8_expands_40 : decode cX8_expands 40 = .ok (.aload_n 0, 1) := by decide +kernel
theorem dX8_expands_41 : decode cX8_expands 41 = .ok (.iload_n 2, 1) := by decide +kernel
theorem dX8_expands_42 : decode cX8_expands 42 = .ok (.bipush 16, 2) := by decide +kernel
theorem dX8_expands_44 : decode cX8_expands 44 = .ok (.idiv, 1) := by decide +kernel
theorem dX8_expands_45 : decode cX8_expands 45 = .ok (.invokevirtual 211, 3) := by decide +kernel
theorem dX8_expands_48 : decode cX8_expands 48 = .ok (.aload_n 0, 1) := by decide +kernel
theorem dX8_expands_49 : decode cX8_expands 49 = .ok (.getfield 71, 3) := by decide +kernel
theorem dX8_expands_52 : decode cX8_expands 52 = .ok (.iload_n 1, 1) := by decide +kernel
theorem dX8_expands_53 : decode cX8_expands 53 = .ok (.iaload, 1) := by decide +kernel
theorem dX8_expands_54 : decode cX8_expands 54 = .ok (.iconst 1, 1) := by decide +kernel
theorem dX8_expands_55 : decode cX8_expands 55 = .ok (.iadd, 1) := by decide +kernel
theorem dX8_expands_56 : decode cX8_expands 56 = .ok (.invokevirtual 237, 3) := by decide +kernel
theorem dX8_expands_59 : decode cX8_expands 59 = .ok (.ifCond .ne 5, 3) := by decide +kernel
theorem dX8_expands_62 : decode cX8_expands 62 = .ok (.iconst 0, 1) := by decide +kernel
theorem dX8_expands_63 : decode cX8_expands 63 = .ok (.ireturn, 1) := by decide +kernel
theorem dX8_expands_64 : decode cX8_expands 64 = .ok (.iinc 2 1, 3) := by decide +kernel
theorem dX8_expands_67 : decode cX8_expands 67 = .ok (.goto (-54), 3) := by decide +kernel
theorem dX8_expands_70 : decode cX8_expands 70 = .ok (.iconst 1, 1) := by decide +kernel
theorem dX8_expands_71 : decode cX8_expands 71 = .ok (.ireturn, 1) := by decide +kernel
set_option maxRecDepth 20000 in
theorem ggX8_searches_X8_meets : GoodIn wsX8_searches wsX8_meets := goodIn_r _ [9, 1, 10, 11, 107, 108, 109, 110, 111, 112, 113, 114, 115, 116, 117, 118, 119, 120, 121, 122, 123, 124, 125, 126, 127, 128, 129, 130, 131, 132, 133, 134, 135, 136] (by decide +kernel) (by decide +kernel)
set_option maxRecDepth 20000 in
theorem gX8_searches_X8_meets : GoodIn wsX8_searches (wsV RX8 237 RX8 yX8_meets wsX8_meets) := goodIn_app (goodIn_of _ (by decide +kernel)) ggX8_searches_X8_meets
set_option maxRecDepth 20000 in
theorem ggX8_searches_X8_size : GoodIn wsX8_searches wsX8_size := goodIn_r _ [15, 4, 16, 17, 18, 8, 19, 20, 21, 22, 23, 24, 107, 108, 109, 110, 111, 112, 113, 114, 115, 116, 117, 118, 119, 120, 121, 122, 123, 124, 125, 126, 127, 128, 129, 130, 131, 132, 133, 134, 135, 136] (by decide +kernel) (by decide +kernel)
set_option maxRecDepth 20000 in
theorem gX8_searches_X8_size : GoodIn wsX8_searches (wsV RX8 230 RX8 yX8_size wsX8_size) := goodIn_app (goodIn_of _ (by decide +kernel)) ggX8_searches_X8_size
set_option maxRecDepth 20000 in
theorem ggX8_searches_X8_expands : GoodIn wsX8_searches wsX8_expands := goodIn_r _ [28, 10, 4, 11, 16, 17, 18, 8, 19, 20, 21, 22, 23, 24, 29, 30, 31, 32, 33, 34, 35, 36, 37, 38, 39, 40, 41, 42, 43, 44, 45, 46, 47, 48, 49, 50, 51, 52, 53, 54, 55, 56, 57, 58, 59, 60, 61, 62, 63, 64, 65, 66, 67, 68, 69, 70, 71, 72, 73, 74, 75, 76, 77, 78, 79, 80, 81, 82, 83, 84, 85, 86, 87, 88, 89, 90, 91, 92, 93, 94, 95, 96, 97, 98, 99, 100, 101, 102, 103, 104, 105, 106, 5, 6, 7, 9, 1, 107, 108, 109, 110, 111, 112, 113, 114, 115, 116, 117, 118, 119, 120, 121, 122, 123, 124, 125, 126, 127, 128, 129, 130, 131, 132, 133, 134, 135, 136] (by decide +kernel) (by decide +kernel)
set_option maxRecDepth 20000 in
theorem gX8_searches_X8_expands : GoodIn wsX8_searches (wsV RX8 244 RX8 yX8_expands wsX8_expands) := goodIn_app (goodIn_of _ (by decide +kernel)) ggX8_searches_X8_expands
theorem dX8_searches_0 : decode cX8_searches 0 = .ok (.aload_n 0, 1) := by decide +kernel
theorem dX8_searches_1 : decode cX8_searches 1 = .ok (.iconst 0, 1) := by decide +kernel
theorem dX8_searches_2 : decode cX8_searches 2 = .ok (.putfield 234, 3) := by decide +kernel
theorem dX8_searches_5 : decode cX8_searches 5 = .ok (.aload_n 0, 1) := by decide +kernel
theorem dX8_searches_6 : decode cX8_searches 6 = .ok (.aload_n 0, 1) := by decide +kernel
theorem dX8_searches_7 : decode cX8_searches 7 = .ok (.getfield 74, 3) := by decide +kernel
theorem dX8_searches_10 : decode cX8_searches 10 = .ok (.iconst 0, 1) := by decide +kernel
theorem dX8_searches_11 : decode cX8_searches 11 = .ok (.invokevirtual 237, 3) := by decide +kernel
theorem dX8_searches_14 : decode cX8_searches 14 = .ok (.pop, 1) := by decide +kernel
theorem dX8_searches_15 : decode cX8_searches 15 = .ok (.aload_n 0, 1) := by decide +kernel
theorem dX8_searches_16 : decode cX8_searches 16 = .ok (.iconst 0, 1) := by decide +kernel
theorem dX8_searches_17 : decode cX8_searches 17 = .ok (.putfield 241, 3) := by decide +kernel
theorem dX8_searches_20 : decode cX8_searches 20 = .ok (.aload_n 0, 1) := by decide +kernel
theorem dX8_searches_21 : decode cX8_searches 21 = .ok (.aload_n 0, 1) := by decide +kernel
theorem dX8_searches_22 : decode cX8_searches 22 = .ok (.getfield 74, 3) := by decide +kernel
theorem dX8_searches_25 : decode cX8_searches 25 = .ok (.invokevirtual 230, 3) := by decide +kernel
theorem dX8_searches_28 : decode cX8_searches 28 = .ok (.istore_n 1, 1) := by decide +kernel
theorem dX8_searches_29 : decode cX8_searches 29 = .ok (.iconst 0, 1) := by decide +kernel
theorem dX8_searches_30 : decode cX8_searches 30 = .ok (.istore_n 2, 1) := by decide +kernel
theorem dX8_searches_31 : decode cX8_searches 31 = .ok (.iload_n 2, 1) := by decide +kernel
theorem dX8_searches_32 : decode cX8_searches 32 = .ok (.aload_n 0, 1) := by decide +kernel
theorem dX8_searches_33 : decode cX8_searches 33 = .ok (.getfield 234, 3) := by decide +kernel
theorem dX8_searches_36 : decode cX8_searches 36 = .ok (.if_icmp .ge 56, 3) := by decide +kernel
theorem dX8_searches_39 : decode cX8_searches 39 = .ok (.aload_n 0, 1) := by decide +kernel
theorem dX8_searches_40 : decode cX8_searches 40 = .ok (.iload_n 2, 1) := by decide +kernel
theorem dX8_searches_41 : decode cX8_searches 41 = .ok (.invokevirtual 244, 3) := by decide +kernel
theorem dX8_searches_44 : decode cX8_searches 44 = .ok (.ifCond .ne 5, 3) := by decide +kernel
theorem dX8_searches_47 : decode cX8_searches 47 = .ok (.iconst 0, 1) := by decide +kernel
theorem dX8_searches_48 : decode cX8_searches 48 = .ok (.ireturn, 1) := by decide +kernel
theorem dX8_searches_49 : decode cX8_searches 49 = .ok (.aload_n 0, 1) := by decide +kernel
theorem dX8_searches_50 : decode cX8_searches 50 = .ok (.aload_n 0, 1) := by decide +kernel
theorem dX8_searches_51 : decode cX8_searches 51 = .ok (.getfield 78, 3) := by decide +kernel
theorem dX8_searches_54 : decode cX8_searches 54 = .ok (.iload_n 1, 1) := by decide +kernel
theorem dX8_searches_55 : decode cX8_searches 55 = .ok (.if_icmp .ge 7, 3) := by decide +kernel
theorem dX8_searches_58 : decode cX8_searches 58 = .ok (.iload_n 2, 1) := by decide +kernel
theorem dX8_searches_59 : decode cX8_searches 59 = .ok (.goto 7, 3) := by decide +kernel
theorem dX8_searches_62 : decode cX8_searches 62 = .ok (.aload_n 0, 1) := by decide +kernel
theorem dX8_searches_63 : decode cX8_searches 63 = .ok (.getfield 241, 3) := by decide +kernel
theorem dX8_searches_66 : decode cX8_searches 66 = .ok (.putfield 241, 3) := by decide +kernel
theorem dX8_searches_69 : decode cX8_searches 69 = .ok (.aload_n 0, 1) := by decide +kernel
theorem dX8_searches_70 : decode cX8_searches 70 = .ok (.getfield 78, 3) := by decide +kernel
theorem dX8_searches_73 : decode cX8_searches 73 = .ok (.iload_n 1, 1) := by decide +kernel
theorem dX8_searches_74 : decode cX8_searches 74 = .ok (.if_icmp .ge 10, 3) := by decide +kernel
theorem dX8_searches_77 : decode cX8_searches 77 = .ok (.aload_n 0, 1) := by decide +kernel
theorem dX8_searches_78 : decode cX8_searches 78 = .ok (.getfield 78, 3) := by decide +kernel
theorem dX8_searches_81 : decode cX8_searches 81 = .ok (.goto 4, 3) := by decide +kernel
theorem dX8_searches_84 : decode cX8_searches 84 = .ok (.iload_n 1, 1) := by decide +kernel
theorem dX8_searches_85 : decode cX8_searches 85 = .ok (.istore_n 1, 1) := by decide +kernel
theorem dX8_searches_86 : decode cX8_searches 86 = .ok (.iinc 2 1, 3) := by decide +kernel
theorem dX8_searches_89 : decode cX8_searches 89 = .ok (.goto (-58), 3) := by decide +kernel
theorem dX8_searches_92 : decode cX8_searches 92 = .ok (.iconst 1, 1) := by decide +kernel
theorem dX8_searches_93 : decode cX8_searches 93 = .ok (.ireturn, 1) := by decide +kernel
set_option maxRecDepth 20000 in
theorem ggX8_smallest_X8_searches : GoodIn wsX8_smallest wsX8_searches := goodIn_r _ [8, 9, 10, 2, 11, 12, 13, 14, 7, 15, 1, 16, 17, 18, 19, 20, 21, 22, 23, 24, 25, 26, 27, 28, 29, 30, 31, 32, 33, 34, 35, 36, 37, 38, 39, 40, 41, 42, 43, 44, 45, 46, 47, 48, 49, 50, 51, 52, 53, 54, 55, 56, 57, 58, 59, 60, 61, 62, 63, 64, 65, 66, 67, 68, 69, 70, 71, 72, 73, 74, 75, 76, 77, 78, 79, 80, 81, 82, 83, 84, 85, 86, 87, 88, 89, 90, 91, 92, 93, 94, 95, 96, 97, 98, 99, 100, 101, 102, 103, 104, 105, 106, 107, 108, 109, 110, 111, 112, 113, 114, 115, 116, 117, 118, 119, 120, 121, 122, 123, 124, 125, 126, 127, 128, 129, 130, 131, 132, 133, 134, 135, 136, 137, 138, 139, 140, 141] (by decide +kernel) (by decide +kernel)
set_option maxRecDepth 20000 in
theorem gX8_smallest_X8_searches : GoodIn wsX8_smallest (wsV RX8 247 RX8 yX8_searches wsX8_searches) := goodIn_app (goodIn_of _ (by decide +kernel)) ggX8_smallest_X8_searches
theorem dX8_smallest_0 : decode cX8_smallest 0 = .ok (.aload_n 0, 1) := by decide +kernel
theorem dX8_smallest_1 : decode cX8_smallest 1 = .ok (.invokevirtual 247, 3) := by decide +kernel
theorem dX8_smallest_4 : decode cX8_smallest 4 = .ok (.ifCond .eq 15, 3) := by decide +kernel
theorem dX8_smallest_7 : decode cX8_smallest 7 = .ok (.aload_n 0, 1) := by decide +kernel
theorem dX8_smallest_8 : decode cX8_smallest 8 = .ok (.getfield 68, 3) := by decide +kernel
theorem dX8_smallest_11 : decode cX8_smallest 11 = .ok (.aload_n 0, 1) := by decide +kernel
theorem dX8_smallest_12 : decode cX8_smallest 12 = .ok (.getfield 241, 3) := by decide +kernel
theorem dX8_smallest_15 : decode cX8_smallest 15 = .ok (.laload, 1) := by decide +kernel
theorem dX8_smallest_16 : decode cX8_smallest 16 = .ok (.goto 6, 3) := by decide +kernel
theorem dX8_smallest_19 : decode cX8_smallest 19 = .ok (.ldc2_w 251, 3) := by decide +kernel
theorem dX8_smallest_22 : decode cX8_smallest 22 = .ok (.lreturn, 1) := by decide +kernel
set_option maxRecDepth 20000 in
theorem ggX8_smallestDistance_X8_searches : GoodIn wsX8_smallestDistance wsX8_searches := goodIn_r _ [7, 8, 9, 2, 10, 11, 12, 13, 6, 14, 15, 1, 16, 17, 18, 19, 20, 21, 22, 23, 24, 25, 26, 27, 28, 29, 30, 31, 32, 33, 34, 35, 36, 37, 38, 39, 40, 41, 42, 43, 44, 45, 46, 47, 48, 49, 50, 51, 52, 53, 54, 55, 56, 57, 58, 59, 60, 61, 62, 63, 64, 65, 66, 67, 68, 69, 70, 71, 72, 73, 74, 75, 76, 77, 78, 79, 80, 81, 82, 83, 84, 85, 86, 87, 88, 89, 90, 91, 92, 93, 94, 95, 96, 97, 98, 99, 100, 101, 102, 103, 104, 105, 106, 107, 108, 109, 110, 111, 112, 113, 114, 115, 116, 117, 118, 119, 120, 121, 122, 123, 124, 125, 126, 127, 128, 129, 130, 131, 132, 133, 134, 135, 136, 137, 138, 139, 140] (by decide +kernel) (by decide +kernel)
set_option maxRecDepth 20000 in
theorem gX8_smallestDistance_X8_searches : GoodIn wsX8_smallestDistance (wsV RX8 247 RX8 yX8_searches wsX8_searches) := goodIn_app (goodIn_of _ (by decide +kernel)) ggX8_smallestDistance_X8_searches
theorem dX8_smallestDistance_0 : decode cX8_smallestDistance 0 = .ok (.aload_n 0, 1) := by decide +kernel
theorem dX8_smallestDistance_1 : decode cX8_smallestDistance 1 = .ok (.invokevirtual 247, 3) := by decide +kernel
theorem dX8_smallestDistance_4 : decode cX8_smallestDistance 4 = .ok (.ifCond .eq 15, 3) := by decide +kernel
theorem dX8_smallestDistance_7 : decode cX8_smallestDistance 7 = .ok (.aload_n 0, 1) := by decide +kernel
theorem dX8_smallestDistance_8 : decode cX8_smallestDistance 8 = .ok (.getfield 71, 3) := by decide +kernel
theorem dX8_smallestDistance_11 : decode cX8_smallestDistance 11 = .ok (.aload_n 0, 1) := by decide +kernel
theorem dX8_smallestDistance_12 : decode cX8_smallestDistance 12 = .ok (.getfield 241, 3) := by decide +kernel
theorem dX8_smallestDistance_15 : decode cX8_smallestDistance 15 = .ok (.iaload, 1) := by decide +kernel
theorem dX8_smallestDistance_16 : decode cX8_smallestDistance 16 = .ok (.goto 5, 3) := by decide +kernel
theorem dX8_smallestDistance_19 : decode cX8_smallestDistance 19 = .ok (.bipush (-6), 2) := by decide +kernel
theorem dX8_smallestDistance_21 : decode cX8_smallestDistance 21 = .ok (.ireturn, 1) := by decide +kernel
set_option maxRecDepth 20000 in
theorem ggX8_reachableCount_X8_searches : GoodIn wsX8_reachableCount wsX8_searches := goodIn_r _ [6, 1, 7, 8, 9, 10, 11, 12, 5, 13, 14, 15, 16, 17, 18, 19, 20, 21, 22, 23, 24, 25, 26, 27, 28, 29, 30, 31, 32, 33, 34, 35, 36, 37, 38, 39, 40, 41, 42, 43, 44, 45, 46, 47, 48, 49, 50, 51, 52, 53, 54, 55, 56, 57, 58, 59, 60, 61, 62, 63, 64, 65, 66, 67, 68, 69, 70, 71, 72, 73, 74, 75, 76, 77, 78, 79, 80, 81, 82, 83, 84, 85, 86, 87, 88, 89, 90, 91, 92, 93, 94, 95, 96, 97, 98, 99, 100, 101, 102, 103, 104, 105, 106, 107, 108, 109, 110, 111, 112, 113, 114, 115, 116, 117, 118, 119, 120, 121, 122, 123, 124, 125, 126, 127, 128, 129, 130, 131, 132, 133, 134, 135, 136, 137, 138, 139, 140] (by decide +kernel) (by decide +kernel)
set_option maxRecDepth 20000 in
theorem gX8_reachableCount_X8_searches : GoodIn wsX8_reachableCount (wsV RX8 247 RX8 yX8_searches wsX8_searches) := goodIn_app (goodIn_of _ (by decide +kernel)) ggX8_reachableCount_X8_searches
theorem dX8_reachableCount_0 : decode cX8_reachableCount 0 = .ok (.aload_n 0, 1) := by decide +kernel
theorem dX8_reachableCount_1 : decode cX8_reachableCount 1 = .ok (.invokevirtual 247, 3) := by decide +kernel
theorem dX8_reachableCount_4 : decode cX8_reachableCount 4 = .ok (.ifCond .eq 10, 3) := by decide +kernel
theorem dX8_reachableCount_7 : decode cX8_reachableCount 7 = .ok (.aload_n 0, 1) := by decide +kernel
theorem dX8_reachableCount_8 : decode cX8_reachableCount 8 = .ok (.getfield 234, 3) := by decide +kernel
theorem dX8_reachableCount_11 : decode cX8_reachableCount 11 = .ok (.goto 5, 3) := by decide +kernel
theorem dX8_reachableCount_14 : decode cX8_reachableCount 14 = .ok (.bipush (-6), 2) := by decide +kernel
theorem dX8_reachableCount_16 : decode cX8_reachableCount 16 = .ok (.ireturn, 1) := by decide +kernel
theorem dJ9_max_7cf53_0 : decode cJ9_max_7cf53 0 = .ok (.iload_n 0, 1) := by decide +kernel
theorem dJ9_max_7cf53_1 : decode cJ9_max_7cf53 1 = .ok (.iload_n 1, 1) := by decide +kernel
theorem dJ9_max_7cf53_2 : decode cJ9_max_7cf53 2 = .ok (.if_icmp .lt 7, 3) := by decide +kernel
theorem dJ9_max_7cf53_5 : decode cJ9_max_7cf53 5 = .ok (.iload_n 0, 1) := by decide +kernel
theorem dJ9_max_7cf53_6 : decode cJ9_max_7cf53 6 = .ok (.goto 4, 3) := by decide +kernel
theorem dJ9_max_7cf53_9 : decode cJ9_max_7cf53 9 = .ok (.iload_n 1, 1) := by decide +kernel
theorem dJ9_max_7cf53_10 : decode cJ9_max_7cf53 10 = .ok (.ireturn, 1) := by decide +kernel
theorem dJ7_fill_53178_0 : decode cJ7_fill_53178 0 = .ok (.iconst 0, 1) := by decide +kernel
theorem dJ7_fill_53178_1 : decode cJ7_fill_53178 1 = .ok (.istore_n 2, 1) := by decide +kernel
theorem dJ7_fill_53178_2 : decode cJ7_fill_53178 2 = .ok (.aload_n 0, 1) := by decide +kernel
theorem dJ7_fill_53178_3 : decode cJ7_fill_53178 3 = .ok (.arraylength, 1) := by decide +kernel
theorem dJ7_fill_53178_4 : decode cJ7_fill_53178 4 = .ok (.istore_n 3, 1) := by decide +kernel
theorem dJ7_fill_53178_5 : decode cJ7_fill_53178 5 = .ok (.iload_n 2, 1) := by decide +kernel
theorem dJ7_fill_53178_6 : decode cJ7_fill_53178 6 = .ok (.iload_n 3, 1) := by decide +kernel
theorem dJ7_fill_53178_7 : decode cJ7_fill_53178 7 = .ok (.if_icmp .ge 13, 3) := by decide +kernel
theorem dJ7_fill_53178_10 : decode cJ7_fill_53178 10 = .ok (.aload_n 0, 1) := by decide +kernel
theorem dJ7_fill_53178_11 : decode cJ7_fill_53178 11 = .ok (.iload_n 2, 1) := by decide +kernel
theorem dJ7_fill_53178_12 : decode cJ7_fill_53178 12 = .ok (.iload_n 1, 1) := by decide +kernel
theorem dJ7_fill_53178_13 : decode cJ7_fill_53178 13 = .ok (.iastore, 1) := by decide +kernel
theorem dJ7_fill_53178_14 : decode cJ7_fill_53178 14 = .ok (.iinc 2 1, 3) := by decide +kernel
theorem dJ7_fill_53178_17 : decode cJ7_fill_53178 17 = .ok (.goto (-12), 3) := by decide +kernel
theorem dJ7_fill_53178_20 : decode cJ7_fill_53178 20 = .ok (.return_, 1) := by decide +kernel
set_option maxRecDepth 20000 in
theorem ggL_law_X7_init : GoodIn wsL_law wsX7_init := goodIn_r _ [9, 10, 11, 12, 13, 14, 15, 16, 17, 18, 19, 20, 21, 22, 23, 24, 25, 26, 27, 28, 29, 30, 31, 32, 33, 34, 35, 36, 37, 38, 39, 40, 41, 42, 43, 44, 45, 46, 47, 48, 49, 50, 51, 52, 53, 54, 55, 56, 57, 58, 59, 60, 61, 62, 63, 64, 65, 66, 67, 68, 69, 70, 71, 72, 792, 793, 794, 795, 755, 756, 757, 758, 759, 760, 761, 796, 797, 798, 799, 800, 801, 802, 803, 804, 805, 806, 807, 808, 809, 810, 811, 812, 813, 814, 815, 816, 817] (by decide +kernel) (by decide +kernel)
set_option maxRecDepth 20000 in
theorem gL_law_X7_init : GoodIn wsL_law (wsX7_init) := ggL_law_X7_init
set_option maxRecDepth 20000 in
theorem ggL_law_X8_init : GoodIn wsL_law wsX8_init := goodIn_r _ [75, 76, 11, 12, 38, 77, 78, 46, 79, 80, 81, 82, 83, 84, 85, 86, 87, 88, 89, 90, 91, 92, 93, 94, 95, 41, 96, 97, 98, 99, 762, 763, 764, 765, 766, 767, 768, 769, 770, 771, 772, 773, 774, 775, 776, 777, 778, 779, 780, 781, 782, 783, 784, 785, 786, 787, 788, 789, 790, 791] (by decide +kernel) (by decide +kernel)
set_option maxRecDepth 20000 in
theorem gL_law_X8_init : GoodIn wsL_law (wsX8_init) := ggL_law_X8_init
set_option maxRecDepth 20000 in
theorem ggL_law_X7_size : GoodIn wsL_law wsX7_size := goodIn_r _ [103, 16, 104, 105, 106, 15, 107, 108, 39, 40, 42, 109, 110, 111, 112, 113, 114, 115, 116, 117, 118, 119, 120, 121, 122, 123, 124, 755, 756, 757, 758, 759, 760, 761, 792, 793, 794, 795] (by decide +kernel) (by decide +kernel)
set_option maxRecDepth 20000 in
theorem gL_law_X7_size : GoodIn wsL_law (wsV RL 15 RX7 yX7_size wsX7_size) := goodIn_app (goodIn_of _ (by decide +kernel)) ggL_law_X7_size
set_option maxRecDepth 20000 in
theorem ggL_law_X8_size : GoodIn wsL_law wsX8_size := goodIn_r _ [128, 129, 130, 131, 132, 5, 133, 134, 77, 135, 136, 137, 762, 763, 764, 765, 766, 767, 768, 769, 770, 771, 772, 773, 774, 775, 776, 777, 778, 779, 780, 781, 782, 783, 784, 785, 786, 787, 788, 789, 790, 791] (by decide +kernel) (by decide +kernel)
set_option maxRecDepth 20000 in
theorem gL_law_X8_size : GoodIn wsL_law (wsV RL 19 RX8 yX8_size wsX8_size) := goodIn_app (goodIn_of _ (by decide +kernel)) ggL_law_X8_size
set_option maxRecDepth 20000 in
theorem ggL_law_X7_starHeight : GoodIn wsL_law wsX7_starHeight := goodIn_r _ [141, 16, 104, 105, 106, 15, 107, 108, 39, 40, 42, 109, 110, 111, 112, 113, 114, 115, 116, 117, 118, 119, 120, 142, 143, 144, 145, 146, 147, 148, 149, 150, 151, 152, 153, 755, 756, 757, 758, 759, 760, 761, 792, 793, 794, 795] (by decide +kernel) (by decide +kernel)
set_option maxRecDepth 20000 in
theorem gL_law_X7_starHeight : GoodIn wsL_law (wsV RL 20 RX7 yX7_starHeight wsX7_starHeight) := goodIn_app (goodIn_of _ (by decide +kernel)) ggL_law_X7_starHeight
set_option maxRecDepth 20000 in
theorem ggL_law_X8_starHeight : GoodIn wsL_law wsX8_starHeight := goodIn_r _ [157, 129, 77, 78, 130, 131, 132, 5, 133, 134, 135, 136, 137, 762, 763, 764, 765, 766, 767, 768, 769, 770, 771, 772, 773, 774, 775, 776, 777, 778, 779, 780, 781, 782, 783, 784, 785, 786, 787, 788, 789, 790, 791] (by decide +kernel) (by decide +kernel)
set_option maxRecDepth 20000 in
theorem gL_law_X8_starHeight : GoodIn wsL_law (wsV RL 23 RX8 yX8_starHeight wsX8_starHeight) := goodIn_app (goodIn_of _ (by decide +kernel)) ggL_law_X8_starHeight
set_option maxRecDepth 20000 in
theorem ggL_law_X7_matchesEmptyWord : GoodIn wsL_law wsX7_matchesEmptyWord := goodIn_r _ [161, 16, 20, 104, 105, 106, 15, 107, 108, 39, 40, 42, 109, 110, 111, 112, 113, 114, 115, 116, 117, 118, 119, 120, 162, 163, 164, 19, 165, 50, 51, 166, 48, 47, 49, 167, 168, 169, 170, 171, 172, 122, 123, 124, 173, 174, 175, 176, 177, 178, 179, 180, 181, 182, 183, 184, 185, 186, 187, 188, 189, 190, 191, 192, 193, 194, 195, 196, 197, 198, 199, 200, 201, 202, 203, 204, 205, 206, 207, 208, 209, 210, 211, 212, 755, 756, 757, 758, 759, 760, 761, 792, 793, 794, 795, 796, 797, 798, 799, 800, 801, 802] (by decide +kernel) (by decide +kernel)
set_option maxRecDepth 20000 in
theorem gL_law_X7_matchesEmptyWord : GoodIn wsL_law (wsV RL 24 RX7 yX7_matchesEmptyWord wsX7_matchesEmptyWord) := goodIn_app (goodIn_of _ (by decide +kernel)) ggL_law_X7_matchesEmptyWord
set_option maxRecDepth 20000 in
theorem ggL_law_X8_matchesEmptyWord : GoodIn wsL_law wsX8_matchesEmptyWord := goodIn_r _ [216, 79, 130, 131, 132, 5, 133, 129, 134, 77, 135, 136, 137, 217, 218, 219, 220, 221, 83, 82, 86, 85, 84, 80, 81, 222, 223, 224, 225, 226, 227, 228, 229, 230, 231, 232, 233, 762, 763, 764, 765, 766, 767, 768, 769, 770, 771, 772, 773, 774, 775, 776, 777, 778, 779, 780, 781, 782, 783, 784, 785, 786, 787, 788, 789, 790, 791] (by decide +kernel) (by decide +kernel)
set_option maxRecDepth 20000 in
theorem gL_law_X8_matchesEmptyWord : GoodIn wsL_law (wsV RL 27 RX8 yX8_matchesEmptyWord wsX8_matchesEmptyWord) := goodIn_app (goodIn_of _ (by decide +kernel)) ggL_law_X8_matchesEmptyWord
set_option maxRecDepth 20000 in
theorem ggL_law_X7_countWords : GoodIn wsL_law wsX7_countWords := goodIn_r _ [237, 16, 20, 104, 105, 106, 15, 107, 108, 39, 40, 42, 109, 110, 111, 112, 113, 114, 115, 116, 117, 118, 119, 120, 162, 163, 164, 19, 165, 50, 51, 166, 48, 47, 49, 167, 168, 169, 170, 171, 172, 122, 123, 124, 173, 174, 175, 176, 177, 178, 179, 180, 181, 182, 183, 184, 185, 186, 187, 188, 189, 190, 191, 192, 193, 194, 195, 196, 197, 198, 199, 200, 201, 202, 203, 204, 205, 206, 207, 208, 238, 239, 240, 241, 242, 243, 244, 245, 210, 211, 212, 246, 247, 248, 249, 250, 251, 252, 253, 755, 756, 757, 758, 759, 760, 761, 792, 793, 794, 795, 796, 797, 798, 799, 800, 801, 802] (by decide +kernel) (by decide +kernel)
set_option maxRecDepth 20000 in
theorem gL_law_X7_countWords : GoodIn wsL_law (wsV RL 28 RX7 yX7_countWords wsX7_countWords) := goodIn_app (goodIn_of _ (by decide +kernel)) ggL_law_X7_countWords
set_option maxRecDepth 20000 in
theorem ggL_law_X8_countWords : GoodIn wsL_law wsX8_countWords := goodIn_r _ [257, 130, 131, 132, 5, 133, 129, 134, 77, 135, 136, 137, 217, 218, 219, 220, 221, 83, 82, 86, 85, 84, 79, 80, 81, 222, 223, 224, 225, 226, 227, 228, 229, 230, 231, 232, 233, 258, 259, 260, 261, 262, 263, 264, 265, 762, 763, 764, 765, 766, 767, 768, 769, 770, 771, 772, 773, 774, 775, 776, 777, 778, 779, 780, 781, 782, 783, 784, 785, 786, 787, 788, 789, 790, 791] (by decide +kernel) (by decide +kernel)
set_option maxRecDepth 20000 in
theorem gL_law_X8_countWords : GoodIn wsL_law (wsV RL 32 RX8 yX8_countWords wsX8_countWords) := goodIn_app (goodIn_of _ (by decide +kernel)) ggL_law_X8_countWords
set_option maxRecDepth 20000 in
theorem ggL_law_X7_differenceLength : GoodIn wsL_law wsX7_differenceLength := goodIn_r _ [269, 25, 270, 271, 272, 2, 273, 16, 20, 21, 104, 105, 106, 15, 107, 108, 39, 40, 42, 109, 110, 111, 112, 113, 114, 115, 116, 117, 118, 119, 120, 162, 163, 164, 19, 165, 50, 51, 166, 48, 47, 49, 167, 168, 169, 170, 171, 172, 122, 123, 124, 173, 174, 175, 176, 177, 178, 179, 180, 181, 182, 183, 184, 185, 186, 187, 188, 189, 190, 191, 192, 193, 194, 195, 196, 197, 198, 199, 200, 201, 202, 203, 204, 205, 206, 207, 208, 274, 275, 276, 24, 277, 55, 278, 279, 280, 281, 282, 283, 284, 56, 57, 58, 59, 285, 286, 287, 288, 289, 290, 291, 292, 293, 210, 211, 212, 294, 295, 296, 297, 298, 247, 248, 249, 299, 251, 252, 253, 300, 301, 302, 303, 304, 305, 306, 307, 755, 756, 757, 758, 759, 760, 761, 792, 793, 794, 795, 796, 797, 798, 799, 800, 801, 802, 803, 804, 805, 806, 807, 808, 809] (by decide +kernel) (by decide +kernel)
set_option maxRecDepth 20000 in
theorem gL_law_X7_differenceLength : GoodIn wsL_law (wsV RL 33 RX7 yX7_differenceLength wsX7_differenceLength) := goodIn_app (goodIn_of _ (by decide +kernel)) ggL_law_X7_differenceLength
set_option maxRecDepth 20000 in
theorem ggL_law_X8_differenceLength : GoodIn wsL_law wsX8_differenceLength := goodIn_r _ [311, 312, 130, 131, 132, 5, 133, 129, 134, 77, 135, 136, 137, 313, 314, 315, 316, 317, 318, 90, 217, 218, 219, 220, 221, 83, 82, 86, 85, 84, 79, 80, 81, 222, 223, 224, 225, 226, 227, 228, 229, 230, 231, 232, 233, 319, 320, 321, 322, 262, 263, 264, 265, 323, 324, 325, 326, 91, 92, 258, 259, 260, 261, 327, 328, 329, 330, 88, 762, 763, 764, 765, 766, 767, 768, 769, 770, 771, 772, 773, 774, 775, 776, 777, 778, 779, 780, 781, 782, 783, 784, 785, 786, 787, 788, 789, 790, 791] (by decide +kernel) (by decide +kernel)
set_option maxRecDepth 20000 in
theorem gL_law_X8_differenceLength : GoodIn wsL_law (wsV RL 37 RX8 yX8_differenceLength wsX8_differenceLength) := goodIn_app (goodIn_of _ (by decide +kernel)) ggL_law_X8_differenceLength
set_option maxRecDepth 20000 in
theorem ggL_law_X7_differenceSymbol : GoodIn wsL_law wsX7_differenceSymbol := goodIn_r _ [334, 25, 270, 271, 272, 2, 273, 16, 20, 21, 104, 105, 106, 15, 107, 108, 39, 40, 42, 109, 110, 111, 112, 113, 114, 115, 116, 117, 118, 119, 120, 162, 163, 164, 19, 165, 50, 51, 166, 48, 47, 49, 167, 168, 169, 170, 171, 172, 122, 123, 124, 173, 174, 175, 176, 177, 178, 179, 180, 181, 182, 183, 184, 185, 186, 187, 188, 189, 190, 191, 192, 193, 194, 195, 196, 197, 198, 199, 200, 201, 202, 203, 204, 205, 206, 207, 208, 274, 275, 276, 24, 277, 55, 278, 279, 280, 281, 282, 283, 284, 56, 57, 58, 59, 285, 286, 287, 288, 289, 290, 291, 292, 293, 210, 211, 212, 294, 295, 296, 297, 298, 247, 248, 249, 299, 251, 252, 253, 300, 301, 302, 303, 304, 305, 306, 307, 335, 336, 337, 338, 339, 755, 756, 757, 758, 759, 760, 761, 792, 793, 794, 795, 796, 797, 798, 799, 800, 801, 802, 803, 804, 805, 806, 807, 808, 809] (by decide +kernel) (by decide +kernel)
set_option maxRecDepth 20000 in
theorem gL_law_X7_differenceSymbol : GoodIn wsL_law (wsV RL 38 RX7 yX7_differenceSymbol wsX7_differenceSymbol) := goodIn_app (goodIn_of _ (by decide +kernel)) ggL_law_X7_differenceSymbol
set_option maxRecDepth 20000 in
theorem ggL_law_X8_differenceSymbol : GoodIn wsL_law wsX8_differenceSymbol := goodIn_r _ [343, 312, 92, 130, 131, 132, 5, 133, 129, 134, 77, 135, 136, 137, 313, 314, 315, 316, 317, 318, 90, 217, 218, 219, 220, 221, 83, 82, 86, 85, 84, 79, 80, 81, 222, 223, 224, 225, 226, 227, 228, 229, 230, 231, 232, 233, 319, 320, 321, 322, 262, 263, 264, 265, 323, 324, 325, 326, 91, 258, 259, 260, 261, 327, 328, 329, 330, 88, 762, 763, 764, 765, 766, 767, 768, 769, 770, 771, 772, 773, 774, 775, 776, 777, 778, 779, 780, 781, 782, 783, 784, 785, 786, 787, 788, 789, 790, 791] (by decide +kernel) (by decide +kernel)
set_option maxRecDepth 20000 in
theorem gL_law_X8_differenceSymbol : GoodIn wsL_law (wsV RL 42 RX8 yX8_differenceSymbol wsX8_differenceSymbol) := goodIn_app (goodIn_of _ (by decide +kernel)) ggL_law_X8_differenceSymbol
set_option maxRecDepth 20000 in
theorem ggL_law_X7_isApplicable : GoodIn wsL_law wsX7_isApplicable := goodIn_r _ [347, 16, 104, 105, 106, 15, 107, 108, 39, 40, 42, 109, 110, 111, 112, 113, 114, 115, 116, 117, 118, 119, 120, 348, 349, 2, 350, 351, 352, 353, 354, 355, 356, 357, 358, 359, 360, 361, 362, 363, 186, 187, 188, 364, 178, 179, 180, 365, 182, 183, 184, 366, 367, 368, 369, 370, 371, 372, 373, 374, 375, 376, 377, 378, 379, 380, 381, 382, 383, 384, 385, 386, 387, 388, 389, 390, 391, 392, 393, 394, 395, 396, 397, 398, 399, 400, 401, 402, 403, 404, 405, 406, 407, 408, 409, 410, 411, 412, 413, 414, 415, 416, 417, 418, 419, 420, 421, 422, 423, 424, 425, 426, 427, 428, 429, 430, 431, 432, 433, 434, 435, 436, 437, 438, 755, 756, 757, 758, 759, 760, 761, 792, 793, 794, 795] (by decide +kernel) (by decide +kernel)
set_option maxRecDepth 20000 in
theorem gL_law_X7_isApplicable : GoodIn wsL_law (wsV RL 43 RX7 yX7_isApplicable wsX7_isApplicable) := goodIn_app (goodIn_of _ (by decide +kernel)) ggL_law_X7_isApplicable
set_option maxRecDepth 20000 in
theorem ggL_law_X8_isApplicable : GoodIn wsL_law wsX8_isApplicable := goodIn_r _ [442, 129, 130, 131, 132, 5, 133, 134, 77, 135, 136, 137, 443, 444, 445, 446, 447, 448, 449, 450, 451, 452, 453, 454, 455, 456, 457, 458, 459, 460, 461, 462, 93, 463, 464, 465, 466, 467, 468, 469, 470, 471, 472, 473, 474, 475, 476, 477, 478, 479, 480, 481, 482, 483, 484, 485, 486, 487, 488, 489, 490, 491, 492, 493, 494, 495, 496, 497, 498, 499, 500, 501, 502, 503, 504, 505, 506, 507, 508, 509, 510, 511, 512, 513, 514, 515, 516, 517, 518, 762, 763, 764, 765, 766, 767, 768, 769, 770, 771, 772, 773, 774, 775, 776, 777, 778, 779, 780, 781, 782, 783, 784, 785, 786, 787, 788, 789, 790, 791] (by decide +kernel) (by decide +kernel)
set_option maxRecDepth 20000 in
theorem gL_law_X8_isApplicable : GoodIn wsL_law (wsV RL 47 RX8 yX8_isApplicable wsX8_isApplicable) := goodIn_app (goodIn_of _ (by decide +kernel)) ggL_law_X8_isApplicable
set_option maxRecDepth 20000 in
theorem ggL_law_X7_rewrite : GoodIn wsL_law wsX7_rewrite := goodIn_r _ [522, 16, 523, 104, 105, 106, 15, 107, 108, 39, 40, 42, 109, 110, 111, 112, 113, 114, 115, 116, 117, 118, 119, 120, 524, 525, 2, 526, 527, 348, 349, 350, 351, 352, 353, 354, 528, 360, 357, 361, 362, 363, 186, 187, 188, 364, 178, 179, 180, 365, 182, 183, 184, 366, 367, 368, 369, 370, 371, 372, 373, 374, 375, 376, 377, 378, 379, 380, 381, 382, 383, 384, 385, 386, 387, 388, 389, 390, 391, 392, 393, 394, 395, 396, 397, 398, 399, 400, 401, 402, 403, 404, 405, 406, 407, 408, 409, 410, 411, 412, 413, 414, 415, 416, 417, 418, 419, 420, 421, 422, 423, 424, 425, 426, 427, 428, 429, 430, 431, 432, 433, 434, 435, 436, 437, 438, 529, 530, 531, 532, 533, 755, 756, 757, 758, 759, 760, 761, 792, 793, 794, 795] (by decide +kernel) (by decide +kernel)
set_option maxRecDepth 20000 in
theorem gL_law_X7_rewrite : GoodIn wsL_law (wsV RL 48 RX7 yX7_rewrite wsX7_rewrite) := goodIn_app (goodIn_of _ (by decide +kernel)) ggL_law_X7_rewrite
set_option maxRecDepth 20000 in
theorem ggL_law_X8_rewrite : GoodIn wsL_law wsX8_rewrite := goodIn_r _ [537, 538, 539, 440, 441, 5, 442, 129, 130, 131, 132, 133, 134, 77, 135, 136, 137, 443, 444, 445, 446, 447, 448, 449, 450, 451, 452, 453, 454, 455, 456, 457, 458, 459, 460, 461, 462, 93, 463, 464, 465, 466, 467, 468, 469, 470, 471, 472, 473, 474, 475, 476, 477, 478, 479, 480, 481, 482, 483, 484, 485, 486, 487, 488, 489, 490, 491, 492, 493, 494, 495, 496, 497, 498, 499, 500, 501, 502, 503, 504, 505, 506, 507, 508, 509, 510, 511, 512, 513, 514, 515, 516, 517, 518, 540, 541, 542, 543, 762, 763, 764, 765, 766, 767, 768, 769, 770, 771, 772, 773, 774, 775, 776, 777, 778, 779, 780, 781, 782, 783, 784, 785, 786, 787, 788, 789, 790, 791] (by decide +kernel) (by decide +kernel)
set_option maxRecDepth 20000 in
theorem gL_law_X8_rewrite : GoodIn wsL_law (wsV RL 52 RX8 yX8_rewrite wsX8_rewrite) := goodIn_app (goodIn_of _ (by decide +kernel)) ggL_law_X8_rewrite
set_option maxRecDepth 20000 in
theorem ggL_law_X7_firstPosition : GoodIn wsL_law wsX7_firstPosition := goodIn_r _ [547, 16, 104, 105, 106, 15, 107, 108, 39, 40, 42, 109, 110, 111, 112, 113, 114, 115, 116, 117, 118, 119, 120, 548, 549, 357, 550, 551, 122, 123, 124, 552, 553, 554, 359, 360, 361, 362, 363, 186, 187, 188, 364, 178, 179, 180, 365, 182, 183, 184, 366, 367, 368, 369, 370, 371, 372, 373, 374, 375, 376, 377, 378, 379, 380, 381, 382, 383, 384, 385, 386, 387, 388, 389, 390, 391, 392, 393, 394, 395, 396, 397, 398, 399, 400, 401, 402, 403, 404, 405, 406, 407, 408, 409, 410, 411, 412, 413, 414, 415, 416, 417, 418, 419, 420, 421, 422, 423, 424, 425, 426, 427, 428, 429, 430, 431, 432, 433, 434, 435, 436, 437, 438, 755, 756, 757, 758, 759, 760, 761, 792, 793, 794, 795] (by decide +kernel) (by decide +kernel)
set_option maxRecDepth 20000 in
theorem gL_law_X7_firstPosition : GoodIn wsL_law (wsV RL 53 RX7 yX7_firstPosition wsX7_firstPosition) := goodIn_app (goodIn_of _ (by decide +kernel)) ggL_law_X7_firstPosition
set_option maxRecDepth 20000 in
theorem ggL_law_X8_firstPosition : GoodIn wsL_law wsX8_firstPosition := goodIn_r _ [558, 130, 131, 132, 5, 133, 129, 134, 77, 135, 136, 137, 559, 560, 561, 562, 446, 447, 448, 449, 450, 451, 452, 453, 454, 455, 456, 457, 458, 459, 460, 461, 462, 93, 463, 464, 465, 466, 467, 468, 469, 470, 471, 472, 473, 474, 475, 476, 477, 478, 479, 480, 481, 482, 483, 484, 485, 486, 487, 488, 489, 490, 491, 492, 493, 494, 495, 496, 497, 498, 499, 500, 501, 502, 503, 504, 505, 506, 507, 508, 509, 510, 511, 512, 513, 514, 515, 516, 517, 518, 762, 763, 764, 765, 766, 767, 768, 769, 770, 771, 772, 773, 774, 775, 776, 777, 778, 779, 780, 781, 782, 783, 784, 785, 786, 787, 788, 789, 790, 791] (by decide +kernel) (by decide +kernel)
set_option maxRecDepth 20000 in
theorem gL_law_X8_firstPosition : GoodIn wsL_law (wsV RL 56 RX8 yX8_firstPosition wsX8_firstPosition) := goodIn_app (goodIn_of _ (by decide +kernel)) ggL_law_X8_firstPosition
set_option maxRecDepth 20000 in
theorem ggL_law_X7_firstRule : GoodIn wsL_law wsX7_firstRule := goodIn_r _ [566, 16, 104, 105, 106, 15, 107, 108, 39, 40, 42, 109, 110, 111, 112, 113, 114, 115, 116, 117, 118, 119, 120, 548, 549, 357, 550, 551, 122, 123, 124, 552, 553, 554, 359, 360, 361, 362, 363, 186, 187, 188, 364, 178, 179, 180, 365, 182, 183, 184, 366, 367, 368, 369, 370, 371, 372, 373, 374, 375, 376, 377, 378, 379, 380, 381, 382, 383, 384, 385, 386, 387, 388, 389, 390, 391, 392, 393, 394, 395, 396, 397, 398, 399, 400, 401, 402, 403, 404, 405, 406, 407, 408, 409, 410, 411, 412, 413, 414, 415, 416, 417, 418, 419, 420, 421, 422, 423, 424, 425, 426, 427, 428, 429, 430, 431, 432, 433, 434, 435, 436, 437, 438, 567, 755, 756, 757, 758, 759, 760, 761, 792, 793, 794, 795] (by decide +kernel) (by decide +kernel)
set_option maxRecDepth 20000 in
theorem gL_law_X7_firstRule : GoodIn wsL_law (wsV RL 57 RX7 yX7_firstRule wsX7_firstRule) := goodIn_app (goodIn_of _ (by decide +kernel)) ggL_law_X7_firstRule
set_option maxRecDepth 20000 in
theorem ggL_law_X8_firstRule : GoodIn wsL_law wsX8_firstRule := goodIn_r _ [571, 130, 131, 132, 5, 133, 129, 134, 77, 135, 136, 137, 559, 560, 561, 562, 446, 447, 448, 449, 450, 451, 452, 453, 454, 455, 456, 457, 458, 459, 460, 461, 462, 93, 463, 464, 465, 466, 467, 468, 469, 470, 471, 472, 473, 474, 475, 476, 477, 478, 479, 480, 481, 482, 483, 484, 485, 486, 487, 488, 489, 490, 491, 492, 493, 494, 495, 496, 497, 498, 499, 500, 501, 502, 503, 504, 505, 506, 507, 508, 509, 510, 511, 512, 513, 514, 515, 516, 517, 518, 762, 763, 764, 765, 766, 767, 768, 769, 770, 771, 772, 773, 774, 775, 776, 777, 778, 779, 780, 781, 782, 783, 784, 785, 786, 787, 788, 789, 790, 791] (by decide +kernel) (by decide +kernel)
set_option maxRecDepth 20000 in
theorem gL_law_X8_firstRule : GoodIn wsL_law (wsV RL 60 RX8 yX8_firstRule wsX8_firstRule) := goodIn_app (goodIn_of _ (by decide +kernel)) ggL_law_X8_firstRule
set_option maxRecDepth 20000 in
theorem ggL_law_X7_load : GoodIn wsL_law wsX7_load := goodIn_r _ [575, 16, 34, 33, 104, 105, 106, 15, 107, 108, 39, 40, 42, 109, 110, 111, 112, 113, 114, 115, 116, 117, 118, 119, 120, 576, 577, 578, 32, 579, 580, 121, 122, 123, 124, 755, 756, 757, 758, 759, 760, 761, 792, 793, 794, 795, 814, 815, 816, 817] (by decide +kernel) (by decide +kernel)
set_option maxRecDepth 20000 in
theorem gL_law_X7_load : GoodIn wsL_law (wsV RL 61 RX7 yX7_load wsX7_load) := goodIn_app (goodIn_of _ (by decide +kernel)) ggL_law_X7_load
set_option maxRecDepth 20000 in
theorem ggL_law_X8_load : GoodIn wsL_law wsX8_load := goodIn_r _ [584, 99, 585, 129, 130, 131, 132, 5, 133, 134, 77, 135, 136, 137, 762, 763, 764, 765, 766, 767, 768, 769, 770, 771, 772, 773, 774, 775, 776, 777, 778, 779, 780, 781, 782, 783, 784, 785, 786, 787, 788, 789, 790, 791] (by decide +kernel) (by decide +kernel)
set_option maxRecDepth 20000 in
theorem gL_law_X8_load : GoodIn wsL_law (wsV RL 64 RX8 yX8_load wsX8_load) := goodIn_app (goodIn_of _ (by decide +kernel)) ggL_law_X8_load
set_option maxRecDepth 20000 in
theorem ggL_law_X7_current : GoodIn wsL_law wsX7_current := goodIn_r _ [589, 34, 755, 756, 757, 758, 759, 760, 761] (by decide +kernel) (by decide +kernel)
set_option maxRecDepth 20000 in
theorem gL_law_X7_current : GoodIn wsL_law (wsV RL 65 RX7 yX7_current wsX7_current) := goodIn_app (goodIn_of _ (by decide +kernel)) ggL_law_X7_current
set_option maxRecDepth 20000 in
theorem ggL_law_X8_current : GoodIn wsL_law wsX8_current := goodIn_r _ [593, 99, 762, 763, 764, 765, 766, 767, 768, 769, 770, 771, 772, 773, 774, 775, 776, 777, 778, 779, 780, 781, 782, 783, 784, 785, 786, 787, 788, 789, 790, 791] (by decide +kernel) (by decide +kernel)
