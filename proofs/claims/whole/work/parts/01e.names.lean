theorem dX8_unionRule_191 : decode cX8_unionRule 191 = .ok (.iconst 2, 1) := by decide +kernel
theorem dX8_unionRule_192 : decode cX8_unionRule 192 = .ok (.if_icmp .ne 15, 3) := by decide +kernel
theorem dX8_unionRule_195 : decode cX8_unionRule 195 = .ok (.aload_n 0, 1) := by decide +kernel
theorem dX8_unionRule_196 : decode cX8_unionRule 196 = .ok (.iload_n 2, 1) := by decide +kernel
theorem dX8_unionRule_197 : decode cX8_unionRule 197 = .ok (.invokevirtual 152, 3) := by decide +kernel
theorem dX8_unionRule_200 : decode cX8_unionRule 200 = .ok (.ifCond .eq 7, 3) := by decide +kernel
theorem dX8_unionRule_203 : decode cX8_unionRule 203 = .ok (.iconst 1, 1) := by decide +kernel
theorem dX8_unionRule_204 : decode cX8_unionRule 204 = .ok (.goto 4, 3) := by decide +kernel
theorem dX8_unionRule_207 : decode cX8_unionRule 207 = .ok (.iconst 0, 1) := by decide +kernel
theorem dX8_unionRule_208 : decode cX8_unionRule 208 = .ok (.ireturn, 1) := by decide +kernel
theorem dX8_unionRule_209 : decode cX8_unionRule 209 = .ok (.aload_n 0, 1) := by decide +kernel
theorem dX8_unionRule_210 : decode cX8_unionRule 210 = .ok (.getfield 7, 3) := by decide +kernel
theorem dX8_unionRule_213 : decode cX8_unionRule 213 = .ok (.iload_n 3, 1) := by decide +kernel
theorem dX8_unionRule_214 : decode cX8_unionRule 214 = .ok (.iaload, 1) := by decide +kernel
theorem dX8_unionRule_215 : decode cX8_unionRule 215 = .ok (.bipush 8, 2) := by decide +kernel
theorem dX8_unionRule_217 : decode cX8_unionRule 217 = .ok (.if_icmp .ne 22, 3) := by decide +kernel
theorem dX8_unionRule_220 : decode cX8_unionRule 220 = .ok (.aload_n 0, 1) := by decide +kernel
theorem dX8_unionRule_221 : decode cX8_unionRule 221 = .ok (.iload_n 2, 1) := by decide +kernel
theorem dX8_unionRule_222 : decode cX8_unionRule 222 = .ok (.iload_n 3, 1) := by decide +kernel
theorem dX8_unionRule_223 : decode cX8_unionRule 223 = .ok (.iconst 1, 1) := by decide +kernel
theorem dX8_unionRule_224 : decode cX8_unionRule 224 = .ok (.iadd, 1) := by decide +kernel
theorem dX8_unionRule_225 : decode cX8_unionRule 225 = .ok (.invokevirtual 158, 3) := by decide +kernel
theorem dX8_unionRule_228 : decode cX8_unionRule 228 = .ok (.ifCond .eq 11, 3) := by decide +kernel
theorem dX8_unionRule_231 : decode cX8_unionRule 231 = .ok (.aload_n 0, 1) := by decide +kernel
theorem dX8_unionRule_232 : decode cX8_unionRule 232 = .ok (.iload_n 3, 1) := by decide +kernel
theorem dX8_unionRule_233 : decode cX8_unionRule 233 = .ok (.invokevirtual 152, 3) := by decide +kernel
theorem dX8_unionRule_236 : decode cX8_unionRule 236 = .ok (.goto 38, 3) := by decide +kernel
theorem dX8_unionRule_239 : decode cX8_unionRule 239 = .ok (.aload_n 0, 1) := by decide +kernel
theorem dX8_unionRule_240 : decode cX8_unionRule 240 = .ok (.getfield 7, 3) := by decide +kernel
theorem dX8_unionRule_243 : decode cX8_unionRule 243 = .ok (.iload_n 2, 1) := by decide +kernel
theorem dX8_unionRule_244 : decode cX8_unionRule 244 = .ok (.iaload, 1) := by decide +kernel
theorem dX8_unionRule_245 : decode cX8_unionRule 245 = .ok (.bipush 8, 2) := by decide +kernel
theorem dX8_unionRule_247 : decode cX8_unionRule 247 = .ok (.if_icmp .ne 26, 3) := by decide +kernel
theorem dX8_unionRule_250 : decode cX8_unionRule 250 = .ok (.aload_n 0, 1) := by decide +kernel
theorem dX8_unionRule_251 : decode cX8_unionRule 251 = .ok (.iload_n 2, 1) := by decide +kernel
theorem dX8_unionRule_252 : decode cX8_unionRule 252 = .ok (.iconst 1, 1) := by decide +kernel
theorem dX8_unionRule_253 : decode cX8_unionRule 253 = .ok (.iadd, 1) := by decide +kernel
theorem dX8_unionRule_254 : decode cX8_unionRule 254 = .ok (.iload_n 3, 1) := by decide +kernel
theorem dX8_unionRule_255 : decode cX8_unionRule 255 = .ok (.invokevirtual 158, 3) := by decide +kernel
theorem dX8_unionRule_258 : decode cX8_unionRule 258 = .ok (.ifCond .eq 15, 3) := by decide +kernel
theorem dX8_unionRule_261 : decode cX8_unionRule 261 = .ok (.aload_n 0, 1) := by decide +kernel
theorem dX8_unionRule_262 : decode cX8_unionRule 262 = .ok (.iload_n 2, 1) := by decide +kernel
theorem dX8_unionRule_263 : decode cX8_unionRule 263 = .ok (.invokevirtual 152, 3) := by decide +kernel
theorem dX8_unionRule_266 : decode cX8_unionRule 266 = .ok (.ifCond .eq 7, 3) := by decide +kernel
theorem dX8_unionRule_269 : decode cX8_unionRule 269 = .ok (.iconst 1, 1) := by decide +kernel
theorem dX8_unionRule_270 : decode cX8_unionRule 270 = .ok (.goto 4, 3) := by decide +kernel
theorem dX8_unionRule_273 : decode cX8_unionRule 273 = .ok (.iconst 0, 1) := by decide +kernel
theorem dX8_unionRule_274 : decode cX8_unionRule 274 = .ok (.ireturn, 1) := by decide +kernel
theorem dX8_unionRule_275 : decode cX8_unionRule 275 = .ok (.aload_n 0, 1) := by decide +kernel
theorem dX8_unionRule_276 : decode cX8_unionRule 276 = .ok (.iload_n 2, 1) := by decide +kernel
theorem dX8_unionRule_277 : decode cX8_unionRule 277 = .ok (.iload_n 3, 1) := by decide +kernel
theorem dX8_unionRule_278 : decode cX8_unionRule 278 = .ok (.invokevirtual 161, 3) := by decide +kernel
theorem dX8_unionRule_281 : decode cX8_unionRule 281 = .ok (.ifCond .eq 29, 3) := by decide +kernel
theorem dX8_unionRule_284 : decode cX8_unionRule 284 = .ok (.aload_n 0, 1) := by decide +kernel
theorem dX8_unionRule_285 : decode cX8_unionRule 285 = .ok (.iload_n 2, 1) := by decide +kernel
theorem dX8_unionRule_286 : decode cX8_unionRule 286 = .ok (.iconst 1, 1) := by decide +kernel
theorem dX8_unionRule_287 : decode cX8_unionRule 287 = .ok (.iadd, 1) := by decide +kernel
theorem dX8_unionRule_288 : decode cX8_unionRule 288 = .ok (.iload_n 3, 1) := by decide +kernel
theorem dX8_unionRule_289 : decode cX8_unionRule 289 = .ok (.iconst 1, 1) := by decide +kernel
theorem dX8_unionRule_290 : decode cX8_unionRule 290 = .ok (.iadd, 1) := by decide +kernel
theorem dX8_unionRule_291 : decode cX8_unionRule 291 = .ok (.invokevirtual 158, 3) := by decide +kernel
theorem dX8_unionRule_294 : decode cX8_unionRule 294 = .ok (.ifCond .eq 16, 3) := by decide +kernel
theorem dX8_unionRule_297 : decode cX8_unionRule 297 = .ok (.aload_n 0, 1) := by decide +kernel
theorem dX8_unionRule_298 : decode cX8_unionRule 298 = .ok (.iload_n 2, 1) := by decide +kernel
theorem dX8_unionRule_299 : decode cX8_unionRule 299 = .ok (.iload_n 3, 1) := by decide +kernel
theorem dX8_unionRule_300 : decode cX8_unionRule 300 = .ok (.invokevirtual 164, 3) := by decide +kernel
theorem dX8_unionRule_303 : decode cX8_unionRule 303 = .ok (.ifCond .eq 7, 3) := by decide +kernel
theorem dX8_unionRule_306 : decode cX8_unionRule 306 = .ok (.iconst 1, 1) := by decide +kernel
theorem dX8_unionRule_307 : decode cX8_unionRule 307 = .ok (.goto 4, 3) := by decide +kernel
theorem dX8_unionRule_310 : decode cX8_unionRule 310 = .ok (.iconst 0, 1) := by decide +kernel
theorem dX8_unionRule_311 : decode cX8_unionRule 311 = .ok (.ireturn, 1) := by decide +kernel
theorem dX8_unionRule_312 : decode cX8_unionRule 312 = .ok (.aload_n 0, 1) := by decide +kernel
theorem dX8_unionRule_313 : decode cX8_unionRule 313 = .ok (.iload_n 2, 1) := by decide +kernel
theorem dX8_unionRule_314 : decode cX8_unionRule 314 = .ok (.iload_n 3, 1) := by decide +kernel
theorem dX8_unionRule_315 : decode cX8_unionRule 315 = .ok (.invokevirtual 161, 3) := by decide +kernel
theorem dX8_unionRule_318 : decode cX8_unionRule 318 = .ok (.ifCond .eq 37, 3) := by decide +kernel
theorem dX8_unionRule_321 : decode cX8_unionRule 321 = .ok (.aload_n 0, 1) := by decide +kernel
theorem dX8_unionRule_322 : decode cX8_unionRule 322 = .ok (.aload_n 0, 1) := by decide +kernel
theorem dX8_unionRule_323 : decode cX8_unionRule 323 = .ok (.iload_n 2, 1) := by decide +kernel
theorem dX8_unionRule_324 : decode cX8_unionRule 324 = .ok (.iconst 1, 1) := by decide +kernel
theorem dX8_unionRule_325 : decode cX8_unionRule 325 = .ok (.iadd, 1) := by decide +kernel
theorem dX8_unionRule_326 : decode cX8_unionRule 326 = .ok (.invokevirtual 88, 3) := by decide +kernel
theorem dX8_unionRule_329 : decode cX8_unionRule 329 = .ok (.aload_n 0, 1) := by decide +kernel
theorem dX8_unionRule_330 : decode cX8_unionRule 330 = .ok (.iload_n 3, 1) := by decide +kernel
theorem dX8_unionRule_331 : decode cX8_unionRule 331 = .ok (.iconst 1, 1) := by decide +kernel
theorem dX8_unionRule_332 : decode cX8_unionRule 332 = .ok (.iadd, 1) := by decide +kernel
theorem dX8_unionRule_333 : decode cX8_unionRule 333 = .ok (.invokevirtual 88, 3) := by decide +kernel
theorem dX8_unionRule_336 : decode cX8_unionRule 336 = .ok (.invokevirtual 158, 3) := by decide +kernel
theorem dX8_unionRule_339 : decode cX8_unionRule 339 = .ok (.ifCond .eq 16, 3) := by decide +kernel
theorem dX8_unionRule_342 : decode cX8_unionRule 342 = .ok (.aload_n 0, 1) := by decide +kernel
theorem dX8_unionRule_343 : decode cX8_unionRule 343 = .ok (.iload_n 2, 1) := by decide +kernel
theorem dX8_unionRule_344 : decode cX8_unionRule 344 = .ok (.iload_n 3, 1) := by decide +kernel
theorem dX8_unionRule_345 : decode cX8_unionRule 345 = .ok (.invokevirtual 167, 3) := by decide +kernel
theorem dX8_unionRule_348 : decode cX8_unionRule 348 = .ok (.ifCond .eq 7, 3) := by decide +kernel
theorem dX8_unionRule_351 : decode cX8_unionRule 351 = .ok (.iconst 1, 1) := by decide +kernel
theorem dX8_unionRule_352 : decode cX8_unionRule 352 = .ok (.goto 4, 3) := by decide +kernel
theorem dX8_unionRule_355 : decode cX8_unionRule 355 = .ok (.iconst 0, 1) := by decide +kernel
theorem dX8_unionRule_356 : decode cX8_unionRule 356 = .ok (.ireturn, 1) := by decide +kernel
theorem dX8_unionRule_357 : decode cX8_unionRule 357 = .ok (.aload_n 0, 1) := by decide +kernel
theorem dX8_unionRule_358 : decode cX8_unionRule 358 = .ok (.iload_n 2, 1) := by decide +kernel
theorem dX8_unionRule_359 : decode cX8_unionRule 359 = .ok (.iload_n 3, 1) := by decide +kernel
theorem dX8_unionRule_360 : decode cX8_unionRule 360 = .ok (.invokevirtual 170, 3) := by decide +kernel
theorem dX8_unionRule_363 : decode cX8_unionRule 363 = .ok (.ireturn, 1) := by decide +kernel
theorem dX8_unionRule_364 : decode cX8_unionRule 364 = .ok (.aload_n 0, 1) := by decide +kernel
theorem dX8_unionRule_365 : decode cX8_unionRule 365 = .ok (.iload_n 2, 1) := by decide +kernel
theorem dX8_unionRule_366 : decode cX8_unionRule 366 = .ok (.iload_n 3, 1) := by decide +kernel
theorem dX8_unionRule_367 : decode cX8_unionRule 367 = .ok (.invokevirtual 173, 3) := by decide +kernel
theorem dX8_unionRule_370 : decode cX8_unionRule 370 = .ok (.ireturn, 1) := by decide +kernel
theorem dX8_unionRule_371 : decode cX8_unionRule 371 = .ok (.iconst 0, 1) := by decide +kernel
theorem dX8_unionRule_372 : decode cX8_unionRule 372 = .ok (.ireturn, 1) := by decide +kernel
theorem dX8_bothConcatenations_0 : decode cX8_bothConcatenations 0 = .ok (.aload_n 0, 1) := by decide +kernel
theorem dX8_bothConcatenations_1 : decode cX8_bothConcatenations 1 = .ok (.getfield 7, 3) := by decide +kernel
theorem dX8_bothConcatenations_4 : decode cX8_bothConcatenations 4 = .ok (.iload_n 1, 1) := by decide +kernel
theorem dX8_bothConcatenations_5 : decode cX8_bothConcatenations 5 = .ok (.iaload, 1) := by decide +kernel
theorem dX8_bothConcatenations_6 : decode cX8_bothConcatenations 6 = .ok (.bipush 7, 2) := by decide +kernel
theorem dX8_bothConcatenations_8 : decode cX8_bothConcatenations 8 = .ok (.if_icmp .ne 18, 3) := by decide +kernel
theorem dX8_bothConcatenations_11 : decode cX8_bothConcatenations 11 = .ok (.aload_n 0, 1) := by decide +kernel
theorem dX8_bothConcatenations_12 : decode cX8_bothConcatenations 12 = .ok (.getfield 7, 3) := by decide +kernel
theorem dX8_bothConcatenations_15 : decode cX8_bothConcatenations 15 = .ok (.iload_n 2, 1) := by decide +kernel
theorem dX8_bothConcatenations_16 : decode cX8_bothConcatenations 16 = .ok (.iaload, 1) := by decide +kernel
theorem dX8_bothConcatenations_17 : decode cX8_bothConcatenations 17 = .ok (.bipush 7, 2) := by decide +kernel
theorem dX8_bothConcatenations_19 : decode cX8_bothConcatenations 19 = .ok (.if_icmp .ne 7, 3) := by decide +kernel
theorem dX8_bothConcatenations_22 : decode cX8_bothConcatenations 22 = .ok (.iconst 1, 1) := by decide +kernel
theorem dX8_bothConcatenations_23 : decode cX8_bothConcatenations 23 = .ok (.goto 4, 3) := by decide +kernel
theorem dX8_bothConcatenations_26 : decode cX8_bothConcatenations 26 = .ok (.iconst 0, 1) := by decide +kernel
theorem dX8_bothConcatenations_27 : decode cX8_bothConcatenations 27 = .ok (.ireturn, 1) := by decide +kernel
set_option maxRecDepth 20000 in
theorem ggX8_factorsLeft_X8_emits : GoodIn wsX8_factorsLeft wsX8_emits := goodIn_r _ [5, 6, 7, 21, 22, 23, 24, 25, 26, 27, 28, 29, 30, 31, 32, 33, 34, 35, 36, 37, 38, 39, 40, 41, 42, 43, 44, 45, 46, 47, 48, 49, 50] rfl (by decide +kernel)
set_option maxRecDepth 20000 in
theorem gX8_factorsLeft_X8_emits : GoodIn wsX8_factorsLeft (wsV RX8 149 RX8 yX8_emits wsX8_emits) := goodIn_app (goodIn_of _ (by decide +kernel)) ggX8_factorsLeft_X8_emits
set_option maxRecDepth 20000 in
theorem ggX8_factorsLeft_X8_copies : GoodIn wsX8_factorsLeft wsX8_copies := goodIn_r _ [11, 12, 13, 14, 15, 4, 16, 1, 2, 3, 5, 6, 7, 21, 22, 23, 24, 25, 26, 27, 28, 29, 30, 31, 32, 33, 34, 35, 36, 37, 38, 39, 40, 41, 42, 43, 44, 45, 46, 47, 48, 49, 50] rfl (by decide +kernel)
set_option maxRecDepth 20000 in
theorem gX8_factorsLeft_X8_copies : GoodIn wsX8_factorsLeft (wsV RX8 152 RX8 yX8_copies wsX8_copies) := goodIn_app (goodIn_of _ (by decide +kernel)) ggX8_factorsLeft_X8_copies
set_option maxRecDepth 20000 in
theorem ggX8_factorsLeft_X8_endOf : GoodIn wsX8_factorsLeft wsX8_endOf := goodIn_r _ [16, 12, 21, 22, 23, 24, 25, 26, 27, 28, 29, 30, 31, 32, 33, 34, 35, 36, 37, 38, 39, 40, 41, 42, 43, 44, 45, 46, 47, 48, 49, 50] rfl (by decide +kernel)
set_option maxRecDepth 20000 in
theorem gX8_factorsLeft_X8_endOf : GoodIn wsX8_factorsLeft (wsV RX8 88 RX8 yX8_endOf wsX8_endOf) := goodIn_app (goodIn_of _ (by decide +kernel)) ggX8_factorsLeft_X8_endOf
set_option maxRecDepth 20000 in
theorem ggX8_factorsLeft_X8_writes : GoodIn wsX8_factorsLeft wsX8_writes := goodIn_r _ [20, 1, 2, 3, 4, 5, 6, 7, 8, 9, 10, 11, 12, 13, 14, 15, 16, 21, 22, 23, 24, 25, 26, 27, 28, 29, 30, 31, 32, 33, 34, 35, 36, 37, 38, 39, 40, 41, 42, 43, 44, 45, 46, 47, 48, 49, 50] rfl (by decide +kernel)
set_option maxRecDepth 20000 in
theorem gX8_factorsLeft_X8_writes : GoodIn wsX8_factorsLeft (wsV RX8 155 RX8 yX8_writes wsX8_writes) := goodIn_app (goodIn_of _ (by decide +kernel)) ggX8_factorsLeft_X8_writes
theorem dX8_factorsLeft_0 : decode cX8_factorsLeft 0 = .ok (.aload_n 0, 1) := by decide +kernel
theorem dX8_factorsLeft_1 : decode cX8_factorsLeft 1 = .ok (.bipush 7, 2) := by decide +kernel
theorem dX8_factorsLeft_3 : decode cX8_factorsLeft 3 = .ok (.invokevirtual 149, 3) := by decide +kernel
theorem dX8_factorsLeft_6 : decode cX8_factorsLeft 6 = .ok (.pop, 1) := by decide +kernel
theorem dX8_factorsLeft_7 : decode cX8_factorsLeft 7 = .ok (.aload_n 0, 1) := by decide +kernel
theorem dX8_factorsLeft_8 : decode cX8_factorsLeft 8 = .ok (.iload_n 1, 1) := by decide +kernel
theorem dX8_factorsLeft_9 : decode cX8_factorsLeft 9 = .ok (.iconst 1, 1) := by decide +kernel
theorem dX8_factorsLeft_10 : decode cX8_factorsLeft 10 = .ok (.iadd, 1) := by decide +kernel
theorem dX8_factorsLeft_11 : decode cX8_factorsLeft 11 = .ok (.invokevirtual 152, 3) := by decide +kernel
theorem dX8_factorsLeft_14 : decode cX8_factorsLeft 14 = .ok (.pop, 1) := by decide +kernel
theorem dX8_factorsLeft_15 : decode cX8_factorsLeft 15 = .ok (.aload_n 0, 1) := by decide +kernel
theorem dX8_factorsLeft_16 : decode cX8_factorsLeft 16 = .ok (.bipush 6, 2) := by decide +kernel
theorem dX8_factorsLeft_18 : decode cX8_factorsLeft 18 = .ok (.aload_n 0, 1) := by decide +kernel
theorem dX8_factorsLeft_19 : decode cX8_factorsLeft 19 = .ok (.iload_n 1, 1) := by decide +kernel
theorem dX8_factorsLeft_20 : decode cX8_factorsLeft 20 = .ok (.iconst 1, 1) := by decide +kernel
theorem dX8_factorsLeft_21 : decode cX8_factorsLeft 21 = .ok (.iadd, 1) := by decide +kernel
theorem dX8_factorsLeft_22 : decode cX8_factorsLeft 22 = .ok (.invokevirtual 88, 3) := by decide +kernel
theorem dX8_factorsLeft_25 : decode cX8_factorsLeft 25 = .ok (.aload_n 0, 1) := by decide +kernel
theorem dX8_factorsLeft_26 : decode cX8_factorsLeft 26 = .ok (.iload_n 2, 1) := by decide +kernel
theorem dX8_factorsLeft_27 : decode cX8_factorsLeft 27 = .ok (.iconst 1, 1) := by decide +kernel
theorem dX8_factorsLeft_28 : decode cX8_factorsLeft 28 = .ok (.iadd, 1) := by decide +kernel
theorem dX8_factorsLeft_29 : decode cX8_factorsLeft 29 = .ok (.invokevirtual 88, 3) := by decide +kernel
theorem dX8_factorsLeft_32 : decode cX8_factorsLeft 32 = .ok (.invokevirtual 155, 3) := by decide +kernel
theorem dX8_factorsLeft_35 : decode cX8_factorsLeft 35 = .ok (.ireturn, 1) := by decide +kernel
set_option maxRecDepth 20000 in
theorem ggX8_factorsRight_X8_emits : GoodIn wsX8_factorsRight wsX8_emits := goodIn_r _ [5, 6, 7, 21, 22, 23, 24, 25, 26, 27, 28, 29, 30, 31, 32, 33, 34, 35, 36, 37, 38, 39, 40, 41, 42, 43, 44, 45, 46, 47, 48, 49, 50] rfl (by decide +kernel)
set_option maxRecDepth 20000 in
theorem gX8_factorsRight_X8_emits : GoodIn wsX8_factorsRight (wsV RX8 149 RX8 yX8_emits wsX8_emits) := goodIn_app (goodIn_of _ (by decide +kernel)) ggX8_factorsRight_X8_emits
set_option maxRecDepth 20000 in
theorem ggX8_factorsRight_X8_writes : GoodIn wsX8_factorsRight wsX8_writes := goodIn_r _ [11, 1, 2, 3, 4, 5, 6, 7, 12, 13, 14, 15, 16, 17, 18, 19, 20, 21, 22, 23, 24, 25, 26, 27, 28, 29, 30, 31, 32, 33, 34, 35, 36, 37, 38, 39, 40, 41, 42, 43, 44, 45, 46, 47, 48, 49, 50] rfl (by decide +kernel)
set_option maxRecDepth 20000 in
theorem gX8_factorsRight_X8_writes : GoodIn wsX8_factorsRight (wsV RX8 155 RX8 yX8_writes wsX8_writes) := goodIn_app (goodIn_of _ (by decide +kernel)) ggX8_factorsRight_X8_writes
set_option maxRecDepth 20000 in
theorem ggX8_factorsRight_X8_endOf : GoodIn wsX8_factorsRight wsX8_endOf := goodIn_r _ [20, 16, 21, 22, 23, 24, 25, 26, 27, 28, 29, 30, 31, 32, 33, 34, 35, 36, 37, 38, 39, 40, 41, 42, 43, 44, 45, 46, 47, 48, 49, 50] rfl (by decide +kernel)
set_option maxRecDepth 20000 in
theorem gX8_factorsRight_X8_endOf : GoodIn wsX8_factorsRight (wsV RX8 88 RX8 yX8_endOf wsX8_endOf) := goodIn_app (goodIn_of _ (by decide +kernel)) ggX8_factorsRight_X8_endOf
set_option maxRecDepth 20000 in
theorem ggX8_factorsRight_X8_copies : GoodIn wsX8_factorsRight wsX8_copies := goodIn_r _ [15, 16, 17, 18, 19, 4, 20, 1, 2, 3, 5, 6, 7, 21, 22, 23, 24, 25, 26, 27, 28, 29, 30, 31, 32, 33, 34, 35, 36, 37, 38, 39, 40, 41, 42, 43, 44, 45, 46, 47, 48, 49, 50] rfl (by decide +kernel)
set_option maxRecDepth 20000 in
theorem gX8_factorsRight_X8_copies : GoodIn wsX8_factorsRight (wsV RX8 152 RX8 yX8_copies wsX8_copies) := goodIn_app (goodIn_of _ (by decide +kernel)) ggX8_factorsRight_X8_copies
theorem dX8_factorsRight_0 : decode cX8_factorsRight 0 = .ok (.aload_n 0, 1) := by decide +kernel
theorem dX8_factorsRight_1 : decode cX8_factorsRight 1 = .ok (.bipush 7, 2) := by decide +kernel
theorem dX8_factorsRight_3 : decode cX8_factorsRight 3 = .ok (.invokevirtual 149, 3) := by decide +kernel
theorem dX8_factorsRight_6 : decode cX8_factorsRight 6 = .ok (.pop, 1) := by decide +kernel
theorem dX8_factorsRight_7 : decode cX8_factorsRight 7 = .ok (.aload_n 0, 1) := by decide +kernel
theorem dX8_factorsRight_8 : decode cX8_factorsRight 8 = .ok (.bipush 6, 2) := by decide +kernel
theorem dX8_factorsRight_10 : decode cX8_factorsRight 10 = .ok (.iload_n 1, 1) := by decide +kernel
theorem dX8_factorsRight_11 : decode cX8_factorsRight 11 = .ok (.iconst 1, 1) := by decide +kernel
theorem dX8_factorsRight_12 : decode cX8_factorsRight 12 = .ok (.iadd, 1) := by decide +kernel
theorem dX8_factorsRight_13 : decode cX8_factorsRight 13 = .ok (.iload_n 2, 1) := by decide +kernel
theorem dX8_factorsRight_14 : decode cX8_factorsRight 14 = .ok (.iconst 1, 1) := by decide +kernel
theorem dX8_factorsRight_15 : decode cX8_factorsRight 15 = .ok (.iadd, 1) := by decide +kernel
theorem dX8_factorsRight_16 : decode cX8_factorsRight 16 = .ok (.invokevirtual 155, 3) := by decide +kernel
theorem dX8_factorsRight_19 : decode cX8_factorsRight 19 = .ok (.pop, 1) := by decide +kernel
theorem dX8_factorsRight_20 : decode cX8_factorsRight 20 = .ok (.aload_n 0, 1) := by decide +kernel
theorem dX8_factorsRight_21 : decode cX8_factorsRight 21 = .ok (.aload_n 0, 1) := by decide +kernel
theorem dX8_factorsRight_22 : decode cX8_factorsRight 22 = .ok (.iload_n 1, 1) := by decide +kernel
theorem dX8_factorsRight_23 : decode cX8_factorsRight 23 = .ok (.iconst 1, 1) := by decide +kernel
theorem dX8_factorsRight_24 : decode cX8_factorsRight 24 = .ok (.iadd, 1) := by decide +kernel
theorem dX8_factorsRight_25 : decode cX8_factorsRight 25 = .ok (.invokevirtual 88, 3) := by decide +kernel
theorem dX8_factorsRight_28 : decode cX8_factorsRight 28 = .ok (.invokevirtual 152, 3) := by decide +kernel
theorem dX8_factorsRight_31 : decode cX8_factorsRight 31 = .ok (.ireturn, 1) := by decide +kernel
set_option maxRecDepth 20000 in
theorem ggX8_emptyOrPlus_X8_isPlus : GoodIn wsX8_emptyOrPlus wsX8_isPlus := goodIn_r _ [6, 1, 7, 8, 9, 5, 10, 11, 12, 13, 14, 33, 34, 35, 36, 37, 38, 39, 40, 41, 42, 43, 44, 45, 46, 47, 48, 49, 50, 51, 52, 53, 54, 55, 56, 57, 58, 59, 60, 61, 62] rfl (by decide +kernel)
set_option maxRecDepth 20000 in
theorem gX8_emptyOrPlus_X8_isPlus : GoodIn wsX8_emptyOrPlus (wsV RX8 176 RX8 yX8_isPlus wsX8_isPlus) := goodIn_app (goodIn_of _ (by decide +kernel)) ggX8_emptyOrPlus_X8_isPlus
set_option maxRecDepth 20000 in
theorem ggX8_emptyOrPlus_X8_plainOf : GoodIn wsX8_emptyOrPlus wsX8_plainOf := goodIn_r _ [18, 7, 8, 9, 5, 10, 1, 33, 34, 35, 36, 37, 38, 39, 40, 41, 42, 43, 44, 45, 46, 47, 48, 49, 50, 51, 52, 53, 54, 55, 56, 57, 58, 59, 60, 61, 62] rfl (by decide +kernel)
set_option maxRecDepth 20000 in
theorem gX8_emptyOrPlus_X8_plainOf : GoodIn wsX8_emptyOrPlus (wsV RX8 180 RX8 yX8_plainOf wsX8_plainOf) := goodIn_app (goodIn_of _ (by decide +kernel)) ggX8_emptyOrPlus_X8_plainOf
set_option maxRecDepth 20000 in
theorem ggX8_emptyOrPlus_X8_starOf : GoodIn wsX8_emptyOrPlus wsX8_starOf := goodIn_r _ [22, 23, 24, 25, 5, 26, 27, 28, 29, 30, 31, 32, 1, 7, 8, 9, 10, 33, 34, 35, 36, 37, 38, 39, 40, 41, 42, 43, 44, 45, 46, 47, 48, 49, 50, 51, 52, 53, 54, 55, 56, 57, 58, 59, 60, 61, 62] rfl (by decide +kernel)
set_option maxRecDepth 20000 in
theorem gX8_emptyOrPlus_X8_starOf : GoodIn wsX8_emptyOrPlus (wsV RX8 184 RX8 yX8_starOf wsX8_starOf) := goodIn_app (goodIn_of _ (by decide +kernel)) ggX8_emptyOrPlus_X8_starOf
theorem dX8_emptyOrPlus_0 : decode cX8_emptyOrPlus 0 = .ok (.iconst 0, 1) := by decide +kernel
theorem dX8_emptyOrPlus_1 : decode cX8_emptyOrPlus 1 = .ok (.istore_n 3, 1) := by decide +kernel
theorem dX8_emptyOrPlus_2 : decode cX8_emptyOrPlus 2 = .ok (.iload_n 3, 1) := by decide +kernel
theorem dX8_emptyOrPlus_3 : decode cX8_emptyOrPlus 3 = .ok (.iconst 4, 1) := by decide +kernel
theorem dX8_emptyOrPlus_4 : decode cX8_emptyOrPlus 4 = .ok (.if_icmp .ge 82, 3) := by decide +kernel
theorem dX8_emptyOrPlus_7 : decode cX8_emptyOrPlus 7 = .ok (.iload_n 3, 1) := by decide +kernel
theorem dX8_emptyOrPlus_8 : decode cX8_emptyOrPlus 8 = .ok (.iconst 2, 1) := by decide +kernel
theorem dX8_emptyOrPlus_9 : decode cX8_emptyOrPlus 9 = .ok (.if_icmp .ge 7, 3) := by decide +kernel
theorem dX8_emptyOrPlus_12 : decode cX8_emptyOrPlus 12 = .ok (.iload_n 1, 1) := by decide +kernel
theorem dX8_emptyOrPlus_13 : decode cX8_emptyOrPlus 13 = .ok (.goto 4, 3) := by decide +kernel
theorem dX8_emptyOrPlus_16 : decode cX8_emptyOrPlus 16 = .ok (.iload_n 2, 1) := by decide +kernel
theorem dX8_emptyOrPlus_17 : decode cX8_emptyOrPlus 17 = .ok (.istore 4, 2) := by decide +kernel
theorem dX8_emptyOrPlus_19 : decode cX8_emptyOrPlus 19 = .ok (.iload_n 3, 1) := by decide +kernel
theorem dX8_emptyOrPlus_20 : decode cX8_emptyOrPlus 20 = .ok (.iconst 2, 1) := by decide +kernel
theorem dX8_emptyOrPlus_21 : decode cX8_emptyOrPlus 21 = .ok (.if_icmp .ge 7, 3) := by decide +kernel
theorem dX8_emptyOrPlus_24 : decode cX8_emptyOrPlus 24 = .ok (.iload_n 2, 1) := by decide +kernel
theorem dX8_emptyOrPlus_25 : decode cX8_emptyOrPlus 25 = .ok (.goto 4, 3) := by decide +kernel
theorem dX8_emptyOrPlus_28 : decode cX8_emptyOrPlus 28 = .ok (.iload_n 1, 1) := by decide +kernel
theorem dX8_emptyOrPlus_29 : decode cX8_emptyOrPlus 29 = .ok (.istore 5, 2) := by decide +kernel
theorem dX8_emptyOrPlus_31 : decode cX8_emptyOrPlus 31 = .ok (.iload_n 3, 1) := by decide +kernel
theorem dX8_emptyOrPlus_32 : decode cX8_emptyOrPlus 32 = .ok (.iconst 2, 1) := by decide +kernel
theorem dX8_emptyOrPlus_33 : decode cX8_emptyOrPlus 33 = .ok (.irem, 1) := by decide +kernel
theorem dX8_emptyOrPlus_34 : decode cX8_emptyOrPlus 34 = .ok (.iconst 1, 1) := by decide +kernel
theorem dX8_emptyOrPlus_35 : decode cX8_emptyOrPlus 35 = .ok (.if_icmp .ne 7, 3) := by decide +kernel
theorem dX8_emptyOrPlus_38 : decode cX8_emptyOrPlus 38 = .ok (.iconst 1, 1) := by decide +kernel
theorem dX8_emptyOrPlus_39 : decode cX8_emptyOrPlus 39 = .ok (.goto 4, 3) := by decide +kernel
theorem dX8_emptyOrPlus_42 : decode cX8_emptyOrPlus 42 = .ok (.iconst 0, 1) := by decide +kernel
theorem dX8_emptyOrPlus_43 : decode cX8_emptyOrPlus 43 = .ok (.istore 6, 2) := by decide +kernel
theorem dX8_emptyOrPlus_45 : decode cX8_emptyOrPlus 45 = .ok (.aload_n 0, 1) := by decide +kernel
theorem dX8_emptyOrPlus_46 : decode cX8_emptyOrPlus 46 = .ok (.getfield 7, 3) := by decide +kernel
theorem dX8_emptyOrPlus_49 : decode cX8_emptyOrPlus 49 = .ok (.iload 4, 2) := by decide +kernel
theorem dX8_emptyOrPlus_51 : decode cX8_emptyOrPlus 51 = .ok (.iaload, 1) := by decide +kernel
theorem dX8_emptyOrPlus_52 : decode cX8_emptyOrPlus 52 = .ok (.iconst 2, 1) := by decide +kernel
theorem dX8_emptyOrPlus_53 : decode cX8_emptyOrPlus 53 = .ok (.if_icmp .ne 27, 3) := by decide +kernel
theorem dX8_emptyOrPlus_56 : decode cX8_emptyOrPlus 56 = .ok (.aload_n 0, 1) := by decide +kernel
theorem dX8_emptyOrPlus_57 : decode cX8_emptyOrPlus 57 = .ok (.iload 5, 2) := by decide +kernel
theorem dX8_emptyOrPlus_59 : decode cX8_emptyOrPlus 59 = .ok (.iload 6, 2) := by decide +kernel
theorem dX8_emptyOrPlus_61 : decode cX8_emptyOrPlus 61 = .ok (.invokevirtual 176, 3) := by decide +kernel
theorem dX8_emptyOrPlus_64 : decode cX8_emptyOrPlus 64 = .ok (.ifCond .eq 16, 3) := by decide +kernel
theorem dX8_emptyOrPlus_67 : decode cX8_emptyOrPlus 67 = .ok (.aload_n 0, 1) := by decide +kernel
theorem dX8_emptyOrPlus_68 : decode cX8_emptyOrPlus 68 = .ok (.aload_n 0, 1) := by decide +kernel
theorem dX8_emptyOrPlus_69 : decode cX8_emptyOrPlus 69 = .ok (.iload 5, 2) := by decide +kernel
theorem dX8_emptyOrPlus_71 : decode cX8_emptyOrPlus 71 = .ok (.iload 6, 2) := by decide +kernel
theorem dX8_emptyOrPlus_73 : decode cX8_emptyOrPlus 73 = .ok (.invokevirtual 180, 3) := by decide +kernel
theorem dX8_emptyOrPlus_76 : decode cX8_emptyOrPlus 76 = .ok (.invokevirtual 184, 3) := by decide +kernel
theorem dX8_emptyOrPlus_79 : decode cX8_emptyOrPlus 79 = .ok (.ireturn, 1) := by decide +kernel
theorem dX8_emptyOrPlus_80 : decode cX8_emptyOrPlus 80 = .ok (.iinc 3 1, 3) := by decide +kernel
theorem dX8_emptyOrPlus_83 : decode cX8_emptyOrPlus 83 = .ok (.goto (-81), 3) := by decide +kernel
theorem dX8_emptyOrPlus_86 : decode cX8_emptyOrPlus 86 = .ok (.iconst 0, 1) := by decide +kernel
theorem dX8_emptyOrPlus_87 : decode cX8_emptyOrPlus 87 = .ok (.ireturn, 1) := by decide +kernel
set_option maxRecDepth 20000 in
theorem ggX8_absorbs_X8_areSame : GoodIn wsX8_absorbs wsX8_areSame := goodIn_r _ [6, 1, 7, 8, 9, 5, 10, 25, 26, 27, 28, 29, 30, 31, 32, 33, 34, 35, 36, 37, 38, 39, 40, 41, 42, 43, 44, 45, 46, 47, 48, 49, 50, 51, 52, 53, 54] rfl (by decide +kernel)
set_option maxRecDepth 20000 in
theorem gX8_absorbs_X8_areSame : GoodIn wsX8_absorbs (wsV RX8 158 RX8 yX8_areSame wsX8_areSame) := goodIn_app (goodIn_of _ (by decide +kernel)) ggX8_absorbs_X8_areSame
set_option maxRecDepth 20000 in
theorem ggX8_absorbs_X8_copies : GoodIn wsX8_absorbs wsX8_copies := goodIn_r _ [14, 1, 7, 8, 9, 5, 10, 15, 16, 17, 18, 19, 20, 25, 26, 27, 28, 29, 30, 31, 32, 33, 34, 35, 36, 37, 38, 39, 40, 41, 42, 43, 44, 45, 46, 47, 48, 49, 50, 51, 52, 53, 54] rfl (by decide +kernel)
set_option maxRecDepth 20000 in
theorem gX8_absorbs_X8_copies : GoodIn wsX8_absorbs (wsV RX8 152 RX8 yX8_copies wsX8_copies) := goodIn_app (goodIn_of _ (by decide +kernel)) ggX8_absorbs_X8_copies
set_option maxRecDepth 20000 in
theorem ggX8_absorbs_X8_endOf : GoodIn wsX8_absorbs wsX8_endOf := goodIn_r _ [10, 1, 25, 26, 27, 28, 29, 30, 31, 32, 33, 34, 35, 36, 37, 38, 39, 40, 41, 42, 43, 44, 45, 46, 47, 48, 49, 50, 51, 52, 53, 54] rfl (by decide +kernel)
set_option maxRecDepth 20000 in
theorem gX8_absorbs_X8_endOf : GoodIn wsX8_absorbs (wsV RX8 88 RX8 yX8_endOf wsX8_endOf) := goodIn_app (goodIn_of _ (by decide +kernel)) ggX8_absorbs_X8_endOf
set_option maxRecDepth 20000 in
theorem ggX8_absorbs_X8_writes : GoodIn wsX8_absorbs wsX8_writes := goodIn_r _ [24, 15, 16, 17, 5, 18, 19, 20, 11, 12, 13, 14, 1, 7, 8, 9, 10, 25, 26, 27, 28, 29, 30, 31, 32, 33, 34, 35, 36, 37, 38, 39, 40, 41, 42, 43, 44, 45, 46, 47, 48, 49, 50, 51, 52, 53, 54] rfl (by decide +kernel)
set_option maxRecDepth 20000 in
theorem gX8_absorbs_X8_writes : GoodIn wsX8_absorbs (wsV RX8 155 RX8 yX8_writes wsX8_writes) := goodIn_app (goodIn_of _ (by decide +kernel)) ggX8_absorbs_X8_writes
theorem dX8_absorbs_0 : decode cX8_absorbs 0 = .ok (.aload_n 0, 1) := by decide +kernel
theorem dX8_absorbs_1 : decode cX8_absorbs 1 = .ok (.getfield 7, 3) := by decide +kernel
theorem dX8_absorbs_4 : decode cX8_absorbs 4 = .ok (.iload_n 2, 1) := by decide +kernel
theorem dX8_absorbs_5 : decode cX8_absorbs 5 = .ok (.iaload, 1) := by decide +kernel
theorem dX8_absorbs_6 : decode cX8_absorbs 6 = .ok (.bipush 6, 2) := by decide +kernel
theorem dX8_absorbs_8 : decode cX8_absorbs 8 = .ok (.if_icmp .eq 5, 3) := by decide +kernel
theorem dX8_absorbs_11 : decode cX8_absorbs 11 = .ok (.iconst 0, 1) := by decide +kernel
theorem dX8_absorbs_12 : decode cX8_absorbs 12 = .ok (.ireturn, 1) := by decide +kernel
theorem dX8_absorbs_13 : decode cX8_absorbs 13 = .ok (.aload_n 0, 1) := by decide +kernel
theorem dX8_absorbs_14 : decode cX8_absorbs 14 = .ok (.iload_n 1, 1) := by decide +kernel
theorem dX8_absorbs_15 : decode cX8_absorbs 15 = .ok (.iload_n 2, 1) := by decide +kernel
theorem dX8_absorbs_16 : decode cX8_absorbs 16 = .ok (.iconst 1, 1) := by decide +kernel
theorem dX8_absorbs_17 : decode cX8_absorbs 17 = .ok (.iadd, 1) := by decide +kernel
theorem dX8_absorbs_18 : decode cX8_absorbs 18 = .ok (.invokevirtual 158, 3) := by decide +kernel
theorem dX8_absorbs_21 : decode cX8_absorbs 21 = .ok (.ifCond .eq 9, 3) := by decide +kernel
theorem dX8_absorbs_24 : decode cX8_absorbs 24 = .ok (.aload_n 0, 1) := by decide +kernel
theorem dX8_absorbs_25 : decode cX8_absorbs 25 = .ok (.iload_n 2, 1) := by decide +kernel
theorem dX8_absorbs_26 : decode cX8_absorbs 26 = .ok (.invokevirtual 152, 3) := by decide +kernel
theorem dX8_absorbs_29 : decode cX8_absorbs 29 = .ok (.ireturn, 1) := by decide +kernel
theorem dX8_absorbs_30 : decode cX8_absorbs 30 = .ok (.aload_n 0, 1) := by decide +kernel
theorem dX8_absorbs_31 : decode cX8_absorbs 31 = .ok (.iload_n 1, 1) := by decide +kernel
theorem dX8_absorbs_32 : decode cX8_absorbs 32 = .ok (.aload_n 0, 1) := by decide +kernel
theorem dX8_absorbs_33 : decode cX8_absorbs 33 = .ok (.iload_n 2, 1) := by decide +kernel
theorem dX8_absorbs_34 : decode cX8_absorbs 34 = .ok (.iconst 1, 1) := by decide +kernel
theorem dX8_absorbs_35 : decode cX8_absorbs 35 = .ok (.iadd, 1) := by decide +kernel
theorem dX8_absorbs_36 : decode cX8_absorbs 36 = .ok (.invokevirtual 88, 3) := by decide +kernel
theorem dX8_absorbs_39 : decode cX8_absorbs 39 = .ok (.invokevirtual 158, 3) := by decide +kernel
theorem dX8_absorbs_42 : decode cX8_absorbs 42 = .ok (.ifCond .eq 20, 3) := by decide +kernel
theorem dX8_absorbs_45 : decode cX8_absorbs 45 = .ok (.aload_n 0, 1) := by decide +kernel
theorem dX8_absorbs_46 : decode cX8_absorbs 46 = .ok (.bipush 6, 2) := by decide +kernel
theorem dX8_absorbs_48 : decode cX8_absorbs 48 = .ok (.iload_n 1, 1) := by decide +kernel
theorem dX8_absorbs_49 : decode cX8_absorbs 49 = .ok (.iload_n 2, 1) := by decide +kernel
theorem dX8_absorbs_50 : decode cX8_absorbs 50 = .ok (.iconst 1, 1) := by decide +kernel
theorem dX8_absorbs_51 : decode cX8_absorbs 51 = .ok (.iadd, 1) := by decide +kernel
theorem dX8_absorbs_52 : decode cX8_absorbs 52 = .ok (.invokevirtual 155, 3) := by decide +kernel
theorem dX8_absorbs_55 : decode cX8_absorbs 55 = .ok (.ifCond .eq 7, 3) := by decide +kernel
theorem dX8_absorbs_58 : decode cX8_absorbs 58 = .ok (.iconst 1, 1) := by decide +kernel
theorem dX8_absorbs_59 : decode cX8_absorbs 59 = .ok (.goto 4, 3) := by decide +kernel
theorem dX8_absorbs_62 : decode cX8_absorbs 62 = .ok (.iconst 0, 1) := by decide +kernel
theorem dX8_absorbs_63 : decode cX8_absorbs 63 = .ok (.ireturn, 1) := by decide +kernel
set_option maxRecDepth 20000 in
theorem ggX8_concatenationRule_X8_emits : GoodIn wsX8_concatenationRule wsX8_emits := goodIn_r _ [6, 7, 8, 21, 22, 23, 24, 25, 26, 27, 28, 29, 30, 31, 32, 33, 34, 35, 36, 37, 38, 39, 40, 41, 42, 43, 44, 45, 46, 47, 48, 49, 50] rfl (by decide +kernel)
set_option maxRecDepth 20000 in
theorem gX8_concatenationRule_X8_emits : GoodIn wsX8_concatenationRule (wsV RX8 149 RX8 yX8_emits wsX8_emits) := goodIn_app (goodIn_of _ (by decide +kernel)) ggX8_concatenationRule_X8_emits
set_option maxRecDepth 20000 in
theorem ggX8_concatenationRule_X8_copies : GoodIn wsX8_concatenationRule wsX8_copies := goodIn_r _ [12, 1, 13, 14, 15, 5, 16, 2, 3, 4, 6, 7, 8, 21, 22, 23, 24, 25, 26, 27, 28, 29, 30, 31, 32, 33, 34, 35, 36, 37, 38, 39, 40, 41, 42, 43, 44, 45, 46, 47, 48, 49, 50] rfl (by decide +kernel)
set_option maxRecDepth 20000 in
theorem gX8_concatenationRule_X8_copies : GoodIn wsX8_concatenationRule (wsV RX8 152 RX8 yX8_copies wsX8_copies) := goodIn_app (goodIn_of _ (by decide +kernel)) ggX8_concatenationRule_X8_copies
set_option maxRecDepth 20000 in
theorem ggX8_concatenationRule_X8_areSame : GoodIn wsX8_concatenationRule wsX8_areSame := goodIn_r _ [20, 1, 13, 14, 15, 5, 16, 21, 22, 23, 24, 25, 26, 27, 28, 29, 30, 31, 32, 33, 34, 35, 36, 37, 38, 39, 40, 41, 42, 43, 44, 45, 46, 47, 48, 49, 50] rfl (by decide +kernel)
set_option maxRecDepth 20000 in
theorem gX8_concatenationRule_X8_areSame : GoodIn wsX8_concatenationRule (wsV RX8 158 RX8 yX8_areSame wsX8_areSame) := goodIn_app (goodIn_of _ (by decide +kernel)) ggX8_concatenationRule_X8_areSame
theorem dX8_concatenationRule_0 : decode cX8_concatenationRule 0 = .ok (.iload_n 1, 1) := by decide +kernel
theorem dX8_concatenationRule_1 : decode cX8_concatenationRule 1 = .ok (.lookupswitch 145 #[(1, 35), (2, 69), (7, 111)], 35) := by decide +kernel
theorem dX8_concatenationRule_36 : decode cX8_concatenationRule 36 = .ok (.aload_n 0, 1) := by decide +kernel
theorem dX8_concatenationRule_37 : decode cX8_concatenationRule 37 = .ok (.getfield 7, 3) := by decide +kernel
theorem dX8_concatenationRule_40 : decode cX8_concatenationRule 40 = .ok (.iload_n 2, 1) := by decide +kernel
theorem dX8_concatenationRule_41 : decode cX8_concatenationRule 41 = .ok (.iaload, 1) := by decide +kernel
theorem dX8_concatenationRule_42 : decode cX8_concatenationRule 42 = .ok (.iconst 1, 1) := by decide +kernel
theorem dX8_concatenationRule_43 : decode cX8_concatenationRule 43 = .ok (.if_icmp .eq 13, 3) := by decide +kernel
theorem dX8_concatenationRule_46 : decode cX8_concatenationRule 46 = .ok (.aload_n 0, 1) := by decide +kernel
theorem dX8_concatenationRule_47 : decode cX8_concatenationRule 47 = .ok (.getfield 7, 3) := by decide +kernel
theorem dX8_concatenationRule_50 : decode cX8_concatenationRule 50 = .ok (.iload_n 3, 1) := by decide +kernel
theorem dX8_concatenationRule_51 : decode cX8_concatenationRule 51 = .ok (.iaload, 1) := by decide +kernel
theorem dX8_concatenationRule_52 : decode cX8_concatenationRule 52 = .ok (.iconst 1, 1) := by decide +kernel
theorem dX8_concatenationRule_53 : decode cX8_concatenationRule 53 = .ok (.if_icmp .ne 15, 3) := by decide +kernel
theorem dX8_concatenationRule_56 : decode cX8_concatenationRule 56 = .ok (.aload_n 0, 1) := by decide +kernel
theorem dX8_concatenationRule_57 : decode cX8_concatenationRule 57 = .ok (.iconst 1, 1) := by decide +kernel
theorem dX8_concatenationRule_58 : decode cX8_concatenationRule 58 = .ok (.invokevirtual 149, 3) := by decide +kernel
theorem dX8_concatenationRule_61 : decode cX8_concatenationRule 61 = .ok (.ifCond .eq 7, 3) := by decide +kernel
theorem dX8_concatenationRule_64 : decode cX8_concatenationRule 64 = .ok (.iconst 1, 1) := by decide +kernel
theorem dX8_concatenationRule_65 : decode cX8_concatenationRule 65 = .ok (.goto 4, 3) := by decide +kernel
theorem dX8_concatenationRule_68 : decode cX8_concatenationRule 68 = .ok (.iconst 0, 1) := by decide +kernel
theorem dX8_concatenationRule_69 : decode cX8_concatenationRule 69 = .ok (.ireturn, 1) := by decide +kernel
theorem dX8_concatenationRule_70 : decode cX8_concatenationRule 70 = .ok (.aload_n 0, 1) := by decide +kernel
theorem dX8_concatenationRule_71 : decode cX8_concatenationRule 71 = .ok (.getfield 7, 3) := by decide +kernel
theorem dX8_concatenationRule_74 : decode cX8_concatenationRule 74 = .ok (.iload_n 2, 1) := by decide +kernel
theorem dX8_concatenationRule_75 : decode cX8_concatenationRule 75 = .ok (.iaload, 1) := by decide +kernel
theorem dX8_concatenationRule_76 : decode cX8_concatenationRule 76 = .ok (.iconst 2, 1) := by decide +kernel
theorem dX8_concatenationRule_77 : decode cX8_concatenationRule 77 = .ok (.if_icmp .ne 11, 3) := by decide +kernel
theorem dX8_concatenationRule_80 : decode cX8_concatenationRule 80 = .ok (.aload_n 0, 1) := by decide +kernel
theorem dX8_concatenationRule_81 : decode cX8_concatenationRule 81 = .ok (.iload_n 3, 1) := by decide +kernel
theorem dX8_concatenationRule_82 : decode cX8_concatenationRule 82 = .ok (.invokevirtual 152, 3) := by decide +kernel
theorem dX8_concatenationRule_85 : decode cX8_concatenationRule 85 = .ok (.goto 26, 3) := by decide +kernel
theorem dX8_concatenationRule_88 : decode cX8_concatenationRule 88 = .ok (.aload_n 0, 1) := by decide +kernel
theorem dX8_concatenationRule_89 : decode cX8_concatenationRule 89 = .ok (.getfield 7, 3) := by decide +kernel
theorem dX8_concatenationRule_92 : decode cX8_concatenationRule 92 = .ok (.iload_n 3, 1) := by decide +kernel
theorem dX8_concatenationRule_93 : decode cX8_concatenationRule 93 = .ok (.iaload, 1) := by decide +kernel
theorem dX8_concatenationRule_94 : decode cX8_concatenationRule 94 = .ok (.iconst 2, 1) := by decide +kernel
theorem dX8_concatenationRule_95 : decode cX8_concatenationRule 95 = .ok (.if_icmp .ne 15, 3) := by decide +kernel
theorem dX8_concatenationRule_98 : decode cX8_concatenationRule 98 = .ok (.aload_n 0, 1) := by decide +kernel
theorem dX8_concatenationRule_99 : decode cX8_concatenationRule 99 = .ok (.iload_n 2, 1) := by decide +kernel
theorem dX8_concatenationRule_100 : decode cX8_concatenationRule 100 = .ok (.invokevirtual 152, 3) := by decide +kernel
theorem dX8_concatenationRule_103 : decode cX8_concatenationRule 103 = .ok (.ifCond .eq 7, 3) := by decide +kernel
theorem dX8_concatenationRule_106 : decode cX8_concatenationRule 106 = .ok (.iconst 1, 1) := by decide +kernel
theorem dX8_concatenationRule_107 : decode cX8_concatenationRule 107 = .ok (.goto 4, 3) := by decide +kernel
theorem dX8_concatenationRule_110 : decode cX8_concatenationRule 110 = .ok (.iconst 0, 1) := by decide +kernel
theorem dX8_concatenationRule_111 : decode cX8_concatenationRule 111 = .ok (.ireturn, 1) := by decide +kernel
theorem dX8_concatenationRule_112 : decode cX8_concatenationRule 112 = .ok (.aload_n 0, 1) := by decide +kernel
theorem dX8_concatenationRule_113 : decode cX8_concatenationRule 113 = .ok (.getfield 7, 3) := by decide +kernel
theorem dX8_concatenationRule_116 : decode cX8_concatenationRule 116 = .ok (.iload_n 2, 1) := by decide +kernel
theorem dX8_concatenationRule_117 : decode cX8_concatenationRule 117 = .ok (.iaload, 1) := by decide +kernel
theorem dX8_concatenationRule_118 : decode cX8_concatenationRule 118 = .ok (.bipush 8, 2) := by decide +kernel
theorem dX8_concatenationRule_120 : decode cX8_concatenationRule 120 = .ok (.if_icmp .ne 24, 3) := by decide +kernel
theorem dX8_concatenationRule_123 : decode cX8_concatenationRule 123 = .ok (.aload_n 0, 1) := by decide +kernel
theorem dX8_concatenationRule_124 : decode cX8_concatenationRule 124 = .ok (.iload_n 2, 1) := by decide +kernel
theorem dX8_concatenationRule_125 : decode cX8_concatenationRule 125 = .ok (.iload_n 3, 1) := by decide +kernel
theorem dX8_concatenationRule_126 : decode cX8_concatenationRule 126 = .ok (.invokevirtual 158, 3) := by decide +kernel
theorem dX8_concatenationRule_129 : decode cX8_concatenationRule 129 = .ok (.ifCond .eq 15, 3) := by decide +kernel
theorem dX8_concatenationRule_132 : decode cX8_concatenationRule 132 = .ok (.aload_n 0, 1) := by decide +kernel
theorem dX8_concatenationRule_133 : decode cX8_concatenationRule 133 = .ok (.iload_n 2, 1) := by decide +kernel
theorem dX8_concatenationRule_134 : decode cX8_concatenationRule 134 = .ok (.invokevirtual 152, 3) := by decide +kernel
theorem dX8_concatenationRule_137 : decode cX8_concatenationRule 137 = .ok (.ifCond .eq 7, 3) := by decide +kernel
theorem dX8_concatenationRule_140 : decode cX8_concatenationRule 140 = .ok (.iconst 1, 1) := by decide +kernel
theorem dX8_concatenationRule_141 : decode cX8_concatenationRule 141 = .ok (.goto 4, 3) := by decide +kernel
theorem dX8_concatenationRule_144 : decode cX8_concatenationRule 144 = .ok (.iconst 0, 1) := by decide +kernel
theorem dX8_concatenationRule_145 : decode cX8_concatenationRule 145 = .ok (.ireturn, 1) := by decide +kernel
theorem dX8_concatenationRule_146 : decode cX8_concatenationRule 146 = .ok (.iconst 0, 1) := by decide +kernel
theorem dX8_concatenationRule_147 : decode cX8_concatenationRule 147 = .ok (.ireturn, 1) := by decide +kernel
set_option maxRecDepth 20000 in
theorem ggX8_starRule_X8_endOf : GoodIn wsX8_starRule wsX8_endOf := goodIn_r _ [6, 1, 29, 30, 31, 32, 33, 34, 35, 36, 37, 38, 39, 40, 41, 42, 43, 44, 45, 46, 47, 48, 49, 50, 51, 52, 53, 54, 55, 56, 57, 58] rfl (by decide +kernel)
set_option maxRecDepth 20000 in
theorem gX8_starRule_X8_endOf : GoodIn wsX8_starRule (wsV RX8 88 RX8 yX8_endOf wsX8_endOf) := goodIn_app (goodIn_of _ (by decide +kernel)) ggX8_starRule_X8_endOf
set_option maxRecDepth 20000 in
theorem ggX8_starRule_X8_emits : GoodIn wsX8_starRule wsX8_emits := goodIn_r _ [10, 11, 12, 29, 30, 31, 32, 33, 34, 35, 36, 37, 38, 39, 40, 41, 42, 43, 44, 45, 46, 47, 48, 49, 50, 51, 52, 53, 54, 55, 56, 57, 58] rfl (by decide +kernel)
set_option maxRecDepth 20000 in
theorem gX8_starRule_X8_emits : GoodIn wsX8_starRule (wsV RX8 149 RX8 yX8_emits wsX8_emits) := goodIn_app (goodIn_of _ (by decide +kernel)) ggX8_starRule_X8_emits
set_option maxRecDepth 20000 in
theorem ggX8_starRule_X8_copies : GoodIn wsX8_starRule wsX8_copies := goodIn_r _ [16, 1, 2, 3, 4, 5, 6, 7, 8, 9, 10, 11, 12, 29, 30, 31, 32, 33, 34, 35, 36, 37, 38, 39, 40, 41, 42, 43, 44, 45, 46, 47, 48, 49, 50, 51, 52, 53, 54, 55, 56, 57, 58] rfl (by decide +kernel)
set_option maxRecDepth 20000 in
theorem gX8_starRule_X8_copies : GoodIn wsX8_starRule (wsV RX8 152 RX8 yX8_copies wsX8_copies) := goodIn_app (goodIn_of _ (by decide +kernel)) ggX8_starRule_X8_copies
set_option maxRecDepth 20000 in
theorem ggX8_starRule_X8_starOf : GoodIn wsX8_starRule wsX8_starOf := goodIn_r _ [20, 7, 8, 9, 5, 10, 11, 12, 13, 14, 15, 16, 1, 2, 3, 4, 6, 29, 30, 31, 32, 33, 34, 35, 36, 37, 38, 39, 40, 41, 42, 43, 44, 45, 46, 47, 48, 49, 50, 51, 52, 53, 54, 55, 56, 57, 58] rfl (by decide +kernel)
set_option maxRecDepth 20000 in
theorem gX8_starRule_X8_starOf : GoodIn wsX8_starRule (wsV RX8 184 RX8 yX8_starOf wsX8_starOf) := goodIn_app (goodIn_of _ (by decide +kernel)) ggX8_starRule_X8_starOf
set_option maxRecDepth 20000 in
theorem ggX8_starRule_X8_starOfUnion : GoodIn wsX8_starRule wsX8_starOfUnion := goodIn_r _ [24, 7, 8, 9, 5, 10, 11, 12, 25, 26, 27, 28, 13, 14, 15, 16, 1, 2, 3, 4, 6, 29, 30, 31, 32, 33, 34, 35, 36, 37, 38, 39, 40, 41, 42, 43, 44, 45, 46, 47, 48, 49, 50, 51, 52, 53, 54, 55, 56, 57, 58] rfl (by decide +kernel)
set_option maxRecDepth 20000 in
theorem gX8_starRule_X8_starOfUnion : GoodIn wsX8_starRule (wsV RX8 187 RX8 yX8_starOfUnion wsX8_starOfUnion) := goodIn_app (goodIn_of _ (by decide +kernel)) ggX8_starRule_X8_starOfUnion
theorem dX8_starRule_0 : decode cX8_starRule 0 = .ok (.iload_n 2, 1) := by decide +kernel
theorem dX8_starRule_1 : decode cX8_starRule 1 = .ok (.iconst 1, 1) := by decide +kernel
theorem dX8_starRule_2 : decode cX8_starRule 2 = .ok (.iadd, 1) := by decide +kernel
theorem dX8_starRule_3 : decode cX8_starRule 3 = .ok (.istore_n 3, 1) := by decide +kernel
theorem dX8_starRule_4 : decode cX8_starRule 4 = .ok (.aload_n 0, 1) := by decide +kernel
theorem dX8_starRule_5 : decode cX8_starRule 5 = .ok (.getfield 7, 3) := by decide +kernel
theorem dX8_starRule_8 : decode cX8_starRule 8 = .ok (.iload_n 2, 1) := by decide +kernel
theorem dX8_starRule_9 : decode cX8_starRule 9 = .ok (.iaload, 1) := by decide +kernel
theorem dX8_starRule_10 : decode cX8_starRule 10 = .ok (.bipush 6, 2) := by decide +kernel
theorem dX8_starRule_12 : decode cX8_starRule 12 = .ok (.if_icmp .eq 14, 3) := by decide +kernel
theorem dX8_starRule_15 : decode cX8_starRule 15 = .ok (.aload_n 0, 1) := by decide +kernel
theorem dX8_starRule_16 : decode cX8_starRule 16 = .ok (.getfield 7, 3) := by decide +kernel
theorem dX8_starRule_19 : decode cX8_starRule 19 = .ok (.iload_n 2, 1) := by decide +kernel
theorem dX8_starRule_20 : decode cX8_starRule 20 = .ok (.iaload, 1) := by decide +kernel
theorem dX8_starRule_21 : decode cX8_starRule 21 = .ok (.bipush 7, 2) := by decide +kernel
theorem dX8_starRule_23 : decode cX8_starRule 23 = .ok (.if_icmp .ne 11, 3) := by decide +kernel
theorem dX8_starRule_26 : decode cX8_starRule 26 = .ok (.aload_n 0, 1) := by decide +kernel
theorem dX8_starRule_27 : decode cX8_starRule 27 = .ok (.iload_n 3, 1) := by decide +kernel
theorem dX8_starRule_28 : decode cX8_starRule 28 = .ok (.invokevirtual 88, 3) := by decide +kernel
theorem dX8_starRule_31 : decode cX8_starRule 31 = .ok (.goto 4, 3) := by decide +kernel
theorem dX8_starRule_34 : decode cX8_starRule 34 = .ok (.iload_n 2, 1) := by decide +kernel
theorem dX8_starRule_35 : decode cX8_starRule 35 = .ok (.istore 4, 2) := by decide +kernel
theorem dX8_starRule_37 : decode cX8_starRule 37 = .ok (.iload_n 1, 1) := by decide +kernel
theorem dX8_starRule_38 : decode cX8_starRule 38 = .ok (.tableswitch 290 3 14 #[62, 290, 86, 111, 290, 290, 290, 290, 290, 290, 169, 236], 62) := by decide +kernel
theorem dX8_starRule_100 : decode cX8_starRule 100 = .ok (.aload_n 0, 1) := by decide +kernel
theorem dX8_starRule_101 : decode cX8_starRule 101 = .ok (.getfield 7, 3) := by decide +kernel
theorem dX8_starRule_104 : decode cX8_starRule 104 = .ok (.iload_n 2, 1) := by decide +kernel
theorem dX8_starRule_105 : decode cX8_starRule 105 = .ok (.iaload, 1) := by decide +kernel
theorem dX8_starRule_106 : decode cX8_starRule 106 = .ok (.iconst 2, 1) := by decide +kernel
theorem dX8_starRule_107 : decode cX8_starRule 107 = .ok (.if_icmp .gt 15, 3) := by decide +kernel
theorem dX8_starRule_110 : decode cX8_starRule 110 = .ok (.aload_n 0, 1) := by decide +kernel
theorem dX8_starRule_111 : decode cX8_starRule 111 = .ok (.iconst 2, 1) := by decide +kernel
theorem dX8_starRule_112 : decode cX8_starRule 112 = .ok (.invokevirtual 149, 3) := by decide +kernel
theorem dX8_starRule_115 : decode cX8_starRule 115 = .ok (.ifCond .eq 7, 3) := by decide +kernel
theorem dX8_starRule_118 : decode cX8_starRule 118 = .ok (.iconst 1, 1) := by decide +kernel
theorem dX8_starRule_119 : decode cX8_starRule 119 = .ok (.goto 4, 3) := by decide +kernel
theorem dX8_starRule_122 : decode cX8_starRule 122 = .ok (.iconst 0, 1) := by decide +kernel
theorem dX8_starRule_123 : decode cX8_starRule 123 = .ok (.ireturn, 1) := by decide +kernel
theorem dX8_starRule_124 : decode cX8_starRule 124 = .ok (.aload_n 0, 1) := by decide +kernel
theorem dX8_starRule_125 : decode cX8_starRule 125 = .ok (.getfield 7, 3) := by decide +kernel
theorem dX8_starRule_128 : decode cX8_starRule 128 = .ok (.iload_n 2, 1) := by decide +kernel
theorem dX8_starRule_129 : decode cX8_starRule 129 = .ok (.iaload, 1) := by decide +kernel
theorem dX8_starRule_130 : decode cX8_starRule 130 = .ok (.bipush 8, 2) := by decide +kernel
theorem dX8_starRule_132 : decode cX8_starRule 132 = .ok (.if_icmp .ne 15, 3) := by decide +kernel
theorem dX8_starRule_135 : decode cX8_starRule 135 = .ok (.aload_n 0, 1) := by decide +kernel
theorem dX8_starRule_136 : decode cX8_starRule 136 = .ok (.iload_n 2, 1) := by decide +kernel
theorem dX8_starRule_137 : decode cX8_starRule 137 = .ok (.invokevirtual 152, 3) := by decide +kernel
theorem dX8_starRule_140 : decode cX8_starRule 140 = .ok (.ifCond .eq 7, 3) := by decide +kernel
theorem dX8_starRule_143 : decode cX8_starRule 143 = .ok (.iconst 1, 1) := by decide +kernel
theorem dX8_starRule_144 : decode cX8_starRule 144 = .ok (.goto 4, 3) := by decide +kernel
theorem dX8_starRule_147 : decode cX8_starRule 147 = .ok (.iconst 0, 1) := by decide +kernel
theorem dX8_starRule_148 : decode cX8_starRule 148 = .ok (.ireturn, 1) := by decide +kernel
theorem dX8_starRule_149 : decode cX8_starRule 149 = .ok (.aload_n 0, 1) := by decide +kernel
theorem dX8_starRule_150 : decode cX8_starRule 150 = .ok (.getfield 7, 3) := by decide +kernel
theorem dX8_starRule_153 : decode cX8_starRule 153 = .ok (.iload_n 2, 1) := by decide +kernel
theorem dX8_starRule_154 : decode cX8_starRule 154 = .ok (.iaload, 1) := by decide +kernel
theorem dX8_starRule_155 : decode cX8_starRule 155 = .ok (.bipush 6, 2) := by decide +kernel
theorem dX8_starRule_157 : decode cX8_starRule 157 = .ok (.if_icmp .ne 48, 3) := by decide +kernel
theorem dX8_starRule_160 : decode cX8_starRule 160 = .ok (.aload_n 0, 1) := by decide +kernel
theorem dX8_starRule_161 : decode cX8_starRule 161 = .ok (.getfield 7, 3) := by decide +kernel
theorem dX8_starRule_164 : decode cX8_starRule 164 = .ok (.iload_n 3, 1) := by decide +kernel
theorem dX8_starRule_165 : decode cX8_starRule 165 = .ok (.iaload, 1) := by decide +kernel
theorem dX8_starRule_166 : decode cX8_starRule 166 = .ok (.iconst 2, 1) := by decide +kernel
theorem dX8_starRule_167 : decode cX8_starRule 167 = .ok (.if_icmp .ne 15, 3) := by decide +kernel
theorem dX8_starRule_170 : decode cX8_starRule 170 = .ok (.aload_n 0, 1) := by decide +kernel
theorem dX8_starRule_171 : decode cX8_starRule 171 = .ok (.iload 4, 2) := by decide +kernel
theorem dX8_starRule_173 : decode cX8_starRule 173 = .ok (.invokevirtual 184, 3) := by decide +kernel
theorem dX8_starRule_176 : decode cX8_starRule 176 = .ok (.ifCond .eq 29, 3) := by decide +kernel
theorem dX8_starRule_179 : decode cX8_starRule 179 = .ok (.goto 22, 3) := by decide +kernel
theorem dX8_starRule_182 : decode cX8_starRule 182 = .ok (.aload_n 0, 1) := by decide +kernel
theorem dX8_starRule_183 : decode cX8_starRule 183 = .ok (.getfield 7, 3) := by decide +kernel
theorem dX8_starRule_186 : decode cX8_starRule 186 = .ok (.iload 4, 2) := by decide +kernel
theorem dX8_starRule_188 : decode cX8_starRule 188 = .ok (.iaload, 1) := by decide +kernel
theorem dX8_starRule_189 : decode cX8_starRule 189 = .ok (.iconst 2, 1) := by decide +kernel
theorem dX8_starRule_190 : decode cX8_starRule 190 = .ok (.if_icmp .ne 15, 3) := by decide +kernel
theorem dX8_starRule_193 : decode cX8_starRule 193 = .ok (.aload_n 0, 1) := by decide +kernel
theorem dX8_starRule_194 : decode cX8_starRule 194 = .ok (.iload_n 3, 1) := by decide +kernel
theorem dX8_starRule_195 : decode cX8_starRule 195 = .ok (.invokevirtual 184, 3) := by decide +kernel
theorem dX8_starRule_198 : decode cX8_starRule 198 = .ok (.ifCond .eq 7, 3) := by decide +kernel
theorem dX8_starRule_201 : decode cX8_starRule 201 = .ok (.iconst 1, 1) := by decide +kernel
theorem dX8_starRule_202 : decode cX8_starRule 202 = .ok (.goto 4, 3) := by decide +kernel
theorem dX8_starRule_205 : decode cX8_starRule 205 = .ok (.iconst 0, 1) := by decide +kernel
theorem dX8_starRule_206 : decode cX8_starRule 206 = .ok (.ireturn, 1) := by decide +kernel
theorem dX8_starRule_207 : decode cX8_starRule 207 = .ok (.aload_n 0, 1) := by decide +kernel
theorem dX8_starRule_208 : decode cX8_starRule 208 = .ok (.getfield 7, 3) := by decide +kernel
theorem dX8_starRule_211 : decode cX8_starRule 211 = .ok (.iload_n 2, 1) := by decide +kernel
theorem dX8_starRule_212 : decode cX8_starRule 212 = .ok (.iaload, 1) := by decide +kernel
theorem dX8_starRule_213 : decode cX8_starRule 213 = .ok (.bipush 6, 2) := by decide +kernel
theorem dX8_starRule_215 : decode cX8_starRule 215 = .ok (.if_icmp .ne 57, 3) := by decide +kernel
theorem dX8_starRule_218 : decode cX8_starRule 218 = .ok (.aload_n 0, 1) := by decide +kernel
theorem dX8_starRule_219 : decode cX8_starRule 219 = .ok (.getfield 7, 3) := by decide +kernel
theorem dX8_starRule_222 : decode cX8_starRule 222 = .ok (.iload_n 3, 1) := by decide +kernel
theorem dX8_starRule_223 : decode cX8_starRule 223 = .ok (.iaload, 1) := by decide +kernel
theorem dX8_starRule_224 : decode cX8_starRule 224 = .ok (.bipush 8, 2) := by decide +kernel
theorem dX8_starRule_226 : decode cX8_starRule 226 = .ok (.if_icmp .ne 18, 3) := by decide +kernel
theorem dX8_starRule_229 : decode cX8_starRule 229 = .ok (.aload_n 0, 1) := by decide +kernel
theorem dX8_starRule_230 : decode cX8_starRule 230 = .ok (.iload_n 3, 1) := by decide +kernel
theorem dX8_starRule_231 : decode cX8_starRule 231 = .ok (.iconst 1, 1) := by decide +kernel
theorem dX8_starRule_232 : decode cX8_starRule 232 = .ok (.iadd, 1) := by decide +kernel
theorem dX8_starRule_233 : decode cX8_starRule 233 = .ok (.iload 4, 2) := by decide +kernel
theorem dX8_starRule_235 : decode cX8_starRule 235 = .ok (.invokevirtual 187, 3) := by decide +kernel
theorem dX8_starRule_238 : decode cX8_starRule 238 = .ok (.ifCond .eq 34, 3) := by decide +kernel
theorem dX8_starRule_241 : decode cX8_starRule 241 = .ok (.goto 27, 3) := by decide +kernel
theorem dX8_starRule_244 : decode cX8_starRule 244 = .ok (.aload_n 0, 1) := by decide +kernel
theorem dX8_starRule_245 : decode cX8_starRule 245 = .ok (.getfield 7, 3) := by decide +kernel
theorem dX8_starRule_248 : decode cX8_starRule 248 = .ok (.iload 4, 2) := by decide +kernel
theorem dX8_starRule_250 : decode cX8_starRule 250 = .ok (.iaload, 1) := by decide +kernel
theorem dX8_starRule_251 : decode cX8_starRule 251 = .ok (.bipush 8, 2) := by decide +kernel
theorem dX8_starRule_253 : decode cX8_starRule 253 = .ok (.if_icmp .ne 19, 3) := by decide +kernel
theorem dX8_starRule_256 : decode cX8_starRule 256 = .ok (.aload_n 0, 1) := by decide +kernel
theorem dX8_starRule_257 : decode cX8_starRule 257 = .ok (.iload_n 3, 1) := by decide +kernel
theorem dX8_starRule_258 : decode cX8_starRule 258 = .ok (.iload 4, 2) := by decide +kernel
theorem dX8_starRule_260 : decode cX8_starRule 260 = .ok (.iconst 1, 1) := by decide +kernel
theorem dX8_starRule_261 : decode cX8_starRule 261 = .ok (.iadd, 1) := by decide +kernel
theorem dX8_starRule_262 : decode cX8_starRule 262 = .ok (.invokevirtual 187, 3) := by decide +kernel
theorem dX8_starRule_265 : decode cX8_starRule 265 = .ok (.ifCond .eq 7, 3) := by decide +kernel
theorem dX8_starRule_268 : decode cX8_starRule 268 = .ok (.iconst 1, 1) := by decide +kernel
theorem dX8_starRule_269 : decode cX8_starRule 269 = .ok (.goto 4, 3) := by decide +kernel
theorem dX8_starRule_272 : decode cX8_starRule 272 = .ok (.iconst 0, 1) := by decide +kernel
theorem dX8_starRule_273 : decode cX8_starRule 273 = .ok (.ireturn, 1) := by decide +kernel
theorem dX8_starRule_274 : decode cX8_starRule 274 = .ok (.aload_n 0, 1) := by decide +kernel
theorem dX8_starRule_275 : decode cX8_starRule 275 = .ok (.getfield 7, 3) := by decide +kernel
theorem dX8_starRule_278 : decode cX8_starRule 278 = .ok (.iload_n 2, 1) := by decide +kernel
theorem dX8_starRule_279 : decode cX8_starRule 279 = .ok (.iaload, 1) := by decide +kernel
theorem dX8_starRule_280 : decode cX8_starRule 280 = .ok (.bipush 7, 2) := by decide +kernel
theorem dX8_starRule_282 : decode cX8_starRule 282 = .ok (.if_icmp .ne 44, 3) := by decide +kernel
theorem dX8_starRule_285 : decode cX8_starRule 285 = .ok (.aload_n 0, 1) := by decide +kernel
theorem dX8_starRule_286 : decode cX8_starRule 286 = .ok (.getfield 7, 3) := by decide +kernel
theorem dX8_starRule_289 : decode cX8_starRule 289 = .ok (.iload_n 3, 1) := by decide +kernel
theorem dX8_starRule_290 : decode cX8_starRule 290 = .ok (.iaload, 1) := by decide +kernel
theorem dX8_starRule_291 : decode cX8_starRule 291 = .ok (.bipush 8, 2) := by decide +kernel
theorem dX8_starRule_293 : decode cX8_starRule 293 = .ok (.if_icmp .ne 33, 3) := by decide +kernel
theorem dX8_starRule_296 : decode cX8_starRule 296 = .ok (.aload_n 0, 1) := by decide +kernel
theorem dX8_starRule_297 : decode cX8_starRule 297 = .ok (.getfield 7, 3) := by decide +kernel
theorem dX8_starRule_300 : decode cX8_starRule 300 = .ok (.iload 4, 2) := by decide +kernel
theorem dX8_starRule_302 : decode cX8_starRule 302 = .ok (.iaload, 1) := by decide +kernel
theorem dX8_starRule_303 : decode cX8_starRule 303 = .ok (.bipush 8, 2) := by decide +kernel
theorem dX8_starRule_305 : decode cX8_starRule 305 = .ok (.if_icmp .ne 21, 3) := by decide +kernel
theorem dX8_starRule_308 : decode cX8_starRule 308 = .ok (.aload_n 0, 1) := by decide +kernel
theorem dX8_starRule_309 : decode cX8_starRule 309 = .ok (.iload_n 3, 1) := by decide +kernel
theorem dX8_starRule_310 : decode cX8_starRule 310 = .ok (.iconst 1, 1) := by decide +kernel
theorem dX8_starRule_311 : decode cX8_starRule 311 = .ok (.iadd, 1) := by decide +kernel
theorem dX8_starRule_312 : decode cX8_starRule 312 = .ok (.iload 4, 2) := by decide +kernel
theorem dX8_starRule_314 : decode cX8_starRule 314 = .ok (.iconst 1, 1) := by decide +kernel
theorem dX8_starRule_315 : decode cX8_starRule 315 = .ok (.iadd, 1) := by decide +kernel
theorem dX8_starRule_316 : decode cX8_starRule 316 = .ok (.invokevirtual 187, 3) := by decide +kernel
theorem dX8_starRule_319 : decode cX8_starRule 319 = .ok (.ifCond .eq 7, 3) := by decide +kernel
theorem dX8_starRule_322 : decode cX8_starRule 322 = .ok (.iconst 1, 1) := by decide +kernel
theorem dX8_starRule_323 : decode cX8_starRule 323 = .ok (.goto 4, 3) := by decide +kernel
theorem dX8_starRule_326 : decode cX8_starRule 326 = .ok (.iconst 0, 1) := by decide +kernel
theorem dX8_starRule_327 : decode cX8_starRule 327 = .ok (.ireturn, 1) := by decide +kernel
theorem dX8_starRule_328 : decode cX8_starRule 328 = .ok (.iconst 0, 1) := by decide +kernel
theorem dX8_starRule_329 : decode cX8_starRule 329 = .ok (.ireturn, 1) := by decide +kernel
set_option maxRecDepth 20000 in
theorem ggX8_applies_X8_starRule : GoodIn wsX8_applies wsX8_starRule := goodIn_r _ [7, 2, 8, 9, 10, 6, 11, 12, 13, 14, 15, 16, 1, 17, 18, 19, 20, 21, 22, 23, 24, 25, 26, 27, 28, 29, 30, 31, 32, 73, 74, 75, 76, 77, 78, 79, 80, 81, 82, 83, 84, 85, 86, 87, 88, 89, 90, 91, 92, 93, 94, 95, 96, 97, 98, 99, 100, 101, 102] rfl (by decide +kernel)
set_option maxRecDepth 20000 in
theorem gX8_applies_X8_starRule : GoodIn wsX8_applies (wsV RX8 190 RX8 yX8_starRule wsX8_starRule) := goodIn_app (goodIn_of _ (by decide +kernel)) ggX8_applies_X8_starRule
set_option maxRecDepth 20000 in
theorem ggX8_applies_X8_endOf : GoodIn wsX8_applies wsX8_endOf := goodIn_r _ [11, 2, 73, 74, 75, 76, 77, 78, 79, 80, 81, 82, 83, 84, 85, 86, 87, 88, 89, 90, 91, 92, 93, 94, 95, 96, 97, 98, 99, 100, 101, 102] rfl (by decide +kernel)
set_option maxRecDepth 20000 in
theorem gX8_applies_X8_endOf : GoodIn wsX8_applies (wsV RX8 88 RX8 yX8_endOf wsX8_endOf) := goodIn_app (goodIn_of _ (by decide +kernel)) ggX8_applies_X8_endOf
set_option maxRecDepth 20000 in
theorem ggX8_applies_X8_unionRule : GoodIn wsX8_applies wsX8_unionRule := goodIn_r _ [36, 2, 17, 18, 19, 6, 20, 8, 9, 10, 11, 12, 13, 14, 15, 16, 1, 37, 38, 39, 40, 41, 42, 43, 44, 45, 46, 47, 48, 29, 30, 31, 32, 49, 50, 51, 52, 53, 54, 55, 56, 57, 58, 59, 60, 61, 62, 63, 64, 21, 22, 23, 24, 65, 66, 67, 68, 73, 74, 75, 76, 77, 78, 79, 80, 81, 82, 83, 84, 85, 86, 87, 88, 89, 90, 91, 92, 93, 94, 95, 96, 97, 98, 99, 100, 101, 102] rfl (by decide +kernel)
set_option maxRecDepth 20000 in
theorem gX8_applies_X8_unionRule : GoodIn wsX8_applies (wsV RX8 193 RX8 yX8_unionRule wsX8_unionRule) := goodIn_app (goodIn_of _ (by decide +kernel)) ggX8_applies_X8_unionRule
set_option maxRecDepth 20000 in
theorem ggX8_applies_X8_concatenationRule : GoodIn wsX8_applies wsX8_concatenationRule := goodIn_r _ [72, 2, 12, 13, 14, 6, 15, 16, 1, 17, 18, 19, 20, 8, 9, 10, 11, 37, 38, 39, 40, 73, 74, 75, 76, 77, 78, 79, 80, 81, 82, 83, 84, 85, 86, 87, 88, 89, 90, 91, 92, 93, 94, 95, 96, 97, 98, 99, 100, 101, 102] rfl (by decide +kernel)
set_option maxRecDepth 20000 in
theorem gX8_applies_X8_concatenationRule : GoodIn wsX8_applies (wsV RX8 196 RX8 yX8_concatenationRule wsX8_concatenationRule) := goodIn_app (goodIn_of _ (by decide +kernel)) ggX8_applies_X8_concatenationRule
theorem dX8_applies_0 : decode cX8_applies 0 = .ok (.aload_n 0, 1) := by decide +kernel
theorem dX8_applies_1 : decode cX8_applies 1 = .ok (.iconst 0, 1) := by decide +kernel
theorem dX8_applies_2 : decode cX8_applies 2 = .ok (.putfield 146, 3) := by decide +kernel
theorem dX8_applies_5 : decode cX8_applies 5 = .ok (.aload_n 0, 1) := by decide +kernel
theorem dX8_applies_6 : decode cX8_applies 6 = .ok (.getfield 7, 3) := by decide +kernel
theorem dX8_applies_9 : decode cX8_applies 9 = .ok (.iload_n 2, 1) := by decide +kernel
theorem dX8_applies_10 : decode cX8_applies 10 = .ok (.iaload, 1) := by decide +kernel
theorem dX8_applies_11 : decode cX8_applies 11 = .ok (.istore_n 3, 1) := by decide +kernel
theorem dX8_applies_12 : decode cX8_applies 12 = .ok (.iload_n 3, 1) := by decide +kernel
theorem dX8_applies_13 : decode cX8_applies 13 = .ok (.bipush 6, 2) := by decide +kernel
theorem dX8_applies_15 : decode cX8_applies 15 = .ok (.if_icmp .ge 5, 3) := by decide +kernel
theorem dX8_applies_18 : decode cX8_applies 18 = .ok (.iconst 0, 1) := by decide +kernel
theorem dX8_applies_19 : decode cX8_applies 19 = .ok (.ireturn, 1) := by decide +kernel
theorem dX8_applies_20 : decode cX8_applies 20 = .ok (.iload_n 2, 1) := by decide +kernel
theorem dX8_applies_21 : decode cX8_applies 21 = .ok (.iconst 1, 1) := by decide +kernel
theorem dX8_applies_22 : decode cX8_applies 22 = .ok (.iadd, 1) := by decide +kernel
theorem dX8_applies_23 : decode cX8_applies 23 = .ok (.istore 4, 2) := by decide +kernel
theorem dX8_applies_25 : decode cX8_applies 25 = .ok (.iload_n 3, 1) := by decide +kernel
theorem dX8_applies_26 : decode cX8_applies 26 = .ok (.bipush 8, 2) := by decide +kernel
theorem dX8_applies_28 : decode cX8_applies 28 = .ok (.if_icmp .ne 13, 3) := by decide +kernel
theorem dX8_applies_31 : decode cX8_applies 31 = .ok (.aload_n 0, 1) := by decide +kernel
theorem dX8_applies_32 : decode cX8_applies 32 = .ok (.iload_n 1, 1) := by decide +kernel
theorem dX8_applies_33 : decode cX8_applies 33 = .ok (.iload 4, 2) := by decide +kernel
theorem dX8_applies_35 : decode cX8_applies 35 = .ok (.invokevirtual 190, 3) := by decide +kernel
theorem dX8_applies_38 : decode cX8_applies 38 = .ok (.goto 38, 3) := by decide +kernel
theorem dX8_applies_41 : decode cX8_applies 41 = .ok (.iload_n 3, 1) := by decide +kernel
theorem dX8_applies_42 : decode cX8_applies 42 = .ok (.bipush 6, 2) := by decide +kernel
theorem dX8_applies_44 : decode cX8_applies 44 = .ok (.if_icmp .ne 19, 3) := by decide +kernel
theorem dX8_applies_47 : decode cX8_applies 47 = .ok (.aload_n 0, 1) := by decide +kernel
theorem dX8_applies_48 : decode cX8_applies 48 = .ok (.iload_n 1, 1) := by decide +kernel
theorem dX8_applies_49 : decode cX8_applies 49 = .ok (.iload 4, 2) := by decide +kernel
theorem dX8_applies_51 : decode cX8_applies 51 = .ok (.aload_n 0, 1) := by decide +kernel
theorem dX8_applies_52 : decode cX8_applies 52 = .ok (.iload 4, 2) := by decide +kernel
theorem dX8_applies_54 : decode cX8_applies 54 = .ok (.invokevirtual 88, 3) := by decide +kernel
theorem dX8_applies_57 : decode cX8_applies 57 = .ok (.invokevirtual 193, 3) := by decide +kernel
theorem dX8_applies_60 : decode cX8_applies 60 = .ok (.goto 16, 3) := by decide +kernel
theorem dX8_applies_63 : decode cX8_applies 63 = .ok (.aload_n 0, 1) := by decide +kernel
theorem dX8_applies_64 : decode cX8_applies 64 = .ok (.iload_n 1, 1) := by decide +kernel
theorem dX8_applies_65 : decode cX8_applies 65 = .ok (.iload 4, 2) := by decide +kernel
theorem dX8_applies_67 : decode cX8_applies 67 = .ok (.aload_n 0, 1) := by decide +kernel
theorem dX8_applies_68 : decode cX8_applies 68 = .ok (.iload 4, 2) := by decide +kernel
theorem dX8_applies_70 : decode cX8_applies 70 = .ok (.invokevirtual 88, 3) := by decide +kernel
theorem dX8_applies_73 : decode cX8_applies 73 = .ok (.invokevirtual 196, 3) := by decide +kernel
theorem dX8_applies_76 : decode cX8_applies 76 = .ok (.ireturn, 1) := by decide +kernel
set_option maxRecDepth 20000 in
theorem ggX8_replaced_X8_endOf : GoodIn wsX8_replaced wsX8_endOf := goodIn_r _ [10, 2, 11, 12, 13, 14, 15, 16, 17, 18, 19, 20, 21, 22, 23, 24, 25, 26, 27, 28, 29, 30, 31, 32, 33, 34, 35, 36, 37, 38, 39, 40] rfl (by decide +kernel)
set_option maxRecDepth 20000 in
theorem gX8_replaced_X8_endOf : GoodIn wsX8_replaced (wsV RX8 88 RX8 yX8_endOf wsX8_endOf) := goodIn_app (goodIn_of _ (by decide +kernel)) ggX8_replaced_X8_endOf
theorem dX8_replaced_0 : decode cX8_replaced 0 = .ok (.lconst 0, 1) := by decide +kernel
theorem dX8_replaced_1 : decode cX8_replaced 1 = .ok (.lstore_n 2, 1) := by decide +kernel
theorem dX8_replaced_2 : decode cX8_replaced 2 = .ok (.aload_n 0, 1) := by decide +kernel
theorem dX8_replaced_3 : decode cX8_replaced 3 = .ok (.iload_n 1, 1) := by decide +kernel
theorem dX8_replaced_4 : decode cX8_replaced 4 = .ok (.invokevirtual 88, 3) := by decide +kernel
theorem dX8_replaced_7 : decode cX8_replaced 7 = .ok (.istore 4, 2) := by decide +kernel
theorem dX8_replaced_9 : decode cX8_replaced 9 = .ok (.iconst 0, 1) := by decide +kernel
theorem dX8_replaced_10 : decode cX8_replaced 10 = .ok (.istore 5, 2) := by decide +kernel
theorem dX8_replaced_12 : decode cX8_replaced 12 = .ok (.iload 5, 2) := by decide +kernel
theorem dX8_replaced_14 : decode cX8_replaced 14 = .ok (.iload_n 1, 1) := by decide +kernel
theorem dX8_replaced_15 : decode cX8_replaced 15 = .ok (.if_icmp .ge 24, 3) := by decide +kernel
theorem dX8_replaced_18 : decode cX8_replaced 18 = .ok (.ldc2_w 82, 3) := by decide +kernel
theorem dX8_replaced_21 : decode cX8_replaced 21 = .ok (.lload_n 2, 1) := by decide +kernel
theorem dX8_replaced_22 : decode cX8_replaced 22 = .ok (.lmul, 1) := by decide +kernel
theorem dX8_replaced_23 : decode cX8_replaced 23 = .ok (.aload_n 0, 1) := by decide +kernel
theorem dX8_replaced_24 : decode cX8_replaced 24 = .ok (.getfield 7, 3) := by decide +kernel
theorem dX8_replaced_27 : decode cX8_replaced 27 = .ok (.iload 5, 2) := by decide +kernel
theorem dX8_replaced_29 : decode cX8_replaced 29 = .ok (.iaload, 1) := by decide +kernel
theorem dX8_replaced_30 : decode cX8_replaced 30 = .ok (.i2l, 1) := by decide +kernel
theorem dX8_replaced_31 : decode cX8_replaced 31 = .ok (.ladd, 1) := by decide +kernel
theorem dX8_replaced_32 : decode cX8_replaced 32 = .ok (.lstore_n 2, 1) := by decide +kernel
theorem dX8_replaced_33 : decode cX8_replaced 33 = .ok (.iinc 5 1, 3) := by decide +kernel
theorem dX8_replaced_36 : decode cX8_replaced 36 = .ok (.goto (-24), 3) := by decide +kernel
theorem dX8_replaced_39 : decode cX8_replaced 39 = .ok (.iconst 0, 1) := by decide +kernel
theorem dX8_replaced_40 : decode cX8_replaced 40 = .ok (.istore 5, 2) := by decide +kernel
theorem dX8_replaced_42 : decode cX8_replaced 42 = .ok (.iload 5, 2) := by decide +kernel
theorem dX8_replaced_44 : decode cX8_replaced 44 = .ok (.aload_n 0, 1) := by decide +kernel
theorem dX8_replaced_45 : decode cX8_replaced 45 = .ok (.getfield 146, 3) := by decide +kernel
theorem dX8_replaced_48 : decode cX8_replaced 48 = .ok (.if_icmp .ge 24, 3) := by decide +kernel
theorem dX8_replaced_51 : decode cX8_replaced 51 = .ok (.ldc2_w 82, 3) := by decide +kernel
theorem dX8_replaced_54 : decode cX8_replaced 54 = .ok (.lload_n 2, 1) := by decide +kernel
theorem dX8_replaced_55 : decode cX8_replaced 55 = .ok (.lmul, 1) := by decide +kernel
theorem dX8_replaced_56 : decode cX8_replaced 56 = .ok (.aload_n 0, 1) := by decide +kernel
theorem dX8_replaced_57 : decode cX8_replaced 57 = .ok (.getfield 55, 3) := by decide +kernel
theorem dX8_replaced_60 : decode cX8_replaced 60 = .ok (.iload 5, 2) := by decide +kernel
theorem dX8_replaced_62 : decode cX8_replaced 62 = .ok (.iaload, 1) := by decide +kernel
