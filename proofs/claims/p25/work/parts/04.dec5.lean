theorem dL_canBegin_179 : decode cL_canBegin 179 = .ok (.ifCond .eq 7, 3) := by decide +kernel
theorem dL_canBegin_182 : decode cL_canBegin 182 = .ok (.iload_n 2, 1) := by decide +kernel
theorem dL_canBegin_183 : decode cL_canBegin 183 = .ok (.goto 7, 3) := by decide +kernel
theorem dL_canBegin_186 : decode cL_canBegin 186 = .ok (.iload_n 2, 1) := by decide +kernel
theorem dL_canBegin_187 : decode cL_canBegin 187 = .ok (.bipush 60, 2) := by decide +kernel
theorem dL_canBegin_189 : decode cL_canBegin 189 = .ok (.iadd, 1) := by decide +kernel
theorem dL_canBegin_190 : decode cL_canBegin 190 = .ok (.invokestatic 48, 3) := by decide +kernel
theorem dL_canBegin_193 : decode cL_canBegin 193 = .ok (.iadd, 1) := by decide +kernel
theorem dL_canBegin_194 : decode cL_canBegin 194 = .ok (.iload 14, 2) := by decide +kernel
theorem dL_canBegin_196 : decode cL_canBegin 196 = .ok (.if_icmp .ge 5, 3) := by decide +kernel
theorem dL_canBegin_199 : decode cL_canBegin 199 = .ok (.iconst 0, 1) := by decide +kernel
theorem dL_canBegin_200 : decode cL_canBegin 200 = .ok (.ireturn, 1) := by decide +kernel
theorem dL_canBegin_201 : decode cL_canBegin 201 = .ok (.iload 10, 2) := by decide +kernel
theorem dL_canBegin_203 : decode cL_canBegin 203 = .ok (.ifCond .ne 20, 3) := by decide +kernel
theorem dL_canBegin_206 : decode cL_canBegin 206 = .ok (.aload 7, 2) := by decide +kernel
theorem dL_canBegin_208 : decode cL_canBegin 208 = .ok (.iconst 2, 1) := by decide +kernel
theorem dL_canBegin_209 : decode cL_canBegin 209 = .ok (.iload_n 1, 1) := by decide +kernel
theorem dL_canBegin_210 : decode cL_canBegin 210 = .ok (.imul, 1) := by decide +kernel
theorem dL_canBegin_211 : decode cL_canBegin 211 = .ok (.iaload, 1) := by decide +kernel
theorem dL_canBegin_212 : decode cL_canBegin 212 = .ok (.aload 8, 2) := by decide +kernel
theorem dL_canBegin_214 : decode cL_canBegin 214 = .ok (.iconst 2, 1) := by decide +kernel
theorem dL_canBegin_215 : decode cL_canBegin 215 = .ok (.iload_n 0, 1) := by decide +kernel
theorem dL_canBegin_216 : decode cL_canBegin 216 = .ok (.imul, 1) := by decide +kernel
theorem dL_canBegin_217 : decode cL_canBegin 217 = .ok (.iaload, 1) := by decide +kernel
theorem dL_canBegin_218 : decode cL_canBegin 218 = .ok (.if_icmp .ge 5, 3) := by decide +kernel
theorem dL_canBegin_221 : decode cL_canBegin 221 = .ok (.iconst 0, 1) := by decide +kernel
theorem dL_canBegin_222 : decode cL_canBegin 222 = .ok (.ireturn, 1) := by decide +kernel
theorem dL_canBegin_223 : decode cL_canBegin 223 = .ok (.iconst 0, 1) := by decide +kernel
theorem dL_canBegin_224 : decode cL_canBegin 224 = .ok (.istore 15, 2) := by decide +kernel
theorem dL_canBegin_226 : decode cL_canBegin 226 = .ok (.iload 15, 2) := by decide +kernel
theorem dL_canBegin_228 : decode cL_canBegin 228 = .ok (.iload_n 3, 1) := by decide +kernel
theorem dL_canBegin_229 : decode cL_canBegin 229 = .ok (.if_icmp .ge 109, 3) := by decide +kernel
theorem dL_canBegin_232 : decode cL_canBegin 232 = .ok (.iload 10, 2) := by decide +kernel
theorem dL_canBegin_234 : decode cL_canBegin 234 = .ok (.ifCond .ne 49, 3) := by decide +kernel
theorem dL_canBegin_237 : decode cL_canBegin 237 = .ok (.aload 4, 2) := by decide +kernel
theorem dL_canBegin_239 : decode cL_canBegin 239 = .ok (.iload 15, 2) := by decide +kernel
theorem dL_canBegin_241 : decode cL_canBegin 241 = .ok (.aaload, 1) := by decide +kernel
theorem dL_canBegin_242 : decode cL_canBegin 242 = .ok (.iconst 5, 1) := by decide +kernel
theorem dL_canBegin_243 : decode cL_canBegin 243 = .ok (.iaload, 1) := by decide +kernel
theorem dL_canBegin_244 : decode cL_canBegin 244 = .ok (.ifCond .ne 39, 3) := by decide +kernel
theorem dL_canBegin_247 : decode cL_canBegin 247 = .ok (.aload 4, 2) := by decide +kernel
theorem dL_canBegin_249 : decode cL_canBegin 249 = .ok (.iload 15, 2) := by decide +kernel
theorem dL_canBegin_251 : decode cL_canBegin 251 = .ok (.aaload, 1) := by decide +kernel
theorem dL_canBegin_252 : decode cL_canBegin 252 = .ok (.iconst 4, 1) := by decide +kernel
theorem dL_canBegin_253 : decode cL_canBegin 253 = .ok (.iaload, 1) := by decide +kernel
theorem dL_canBegin_254 : decode cL_canBegin 254 = .ok (.iload_n 1, 1) := by decide +kernel
theorem dL_canBegin_255 : decode cL_canBegin 255 = .ok (.if_icmp .ne 28, 3) := by decide +kernel
theorem dL_canBegin_258 : decode cL_canBegin 258 = .ok (.aload 4, 2) := by decide +kernel
theorem dL_canBegin_260 : decode cL_canBegin 260 = .ok (.iload 15, 2) := by decide +kernel
theorem dL_canBegin_262 : decode cL_canBegin 262 = .ok (.aaload, 1) := by decide +kernel
theorem dL_canBegin_263 : decode cL_canBegin 263 = .ok (.iconst 0, 1) := by decide +kernel
theorem dL_canBegin_264 : decode cL_canBegin 264 = .ok (.iaload, 1) := by decide +kernel
theorem dL_canBegin_265 : decode cL_canBegin 265 = .ok (.iload_n 0, 1) := by decide +kernel
theorem dL_canBegin_266 : decode cL_canBegin 266 = .ok (.if_icmp .eq 17, 3) := by decide +kernel
theorem dL_canBegin_269 : decode cL_canBegin 269 = .ok (.iload_n 3, 1) := by decide +kernel
theorem dL_canBegin_270 : decode cL_canBegin 270 = .ok (.aload 4, 2) := by decide +kernel
theorem dL_canBegin_272 : decode cL_canBegin 272 = .ok (.iload 15, 2) := by decide +kernel
theorem dL_canBegin_274 : decode cL_canBegin 274 = .ok (.invokestatic 52, 3) := by decide +kernel
theorem dL_canBegin_277 : decode cL_canBegin 277 = .ok (.iload_n 2, 1) := by decide +kernel
theorem dL_canBegin_278 : decode cL_canBegin 278 = .ok (.if_icmp .le 5, 3) := by decide +kernel
theorem dL_canBegin_281 : decode cL_canBegin 281 = .ok (.iconst 0, 1) := by decide +kernel
theorem dL_canBegin_282 : decode cL_canBegin 282 = .ok (.ireturn, 1) := by decide +kernel
theorem dL_canBegin_283 : decode cL_canBegin 283 = .ok (.aload 4, 2) := by decide +kernel
theorem dL_canBegin_285 : decode cL_canBegin 285 = .ok (.iload 15, 2) := by decide +kernel
theorem dL_canBegin_287 : decode cL_canBegin 287 = .ok (.aaload, 1) := by decide +kernel
theorem dL_canBegin_288 : decode cL_canBegin 288 = .ok (.iconst 1, 1) := by decide +kernel
theorem dL_canBegin_289 : decode cL_canBegin 289 = .ok (.iaload, 1) := by decide +kernel
theorem dL_canBegin_290 : decode cL_canBegin 290 = .ok (.iload_n 2, 1) := by decide +kernel
theorem dL_canBegin_291 : decode cL_canBegin 291 = .ok (.isub, 1) := by decide +kernel
theorem dL_canBegin_292 : decode cL_canBegin 292 = .ok (.invokestatic 56, 3) := by decide +kernel
theorem dL_canBegin_295 : decode cL_canBegin 295 = .ok (.istore 16, 2) := by decide +kernel
theorem dL_canBegin_297 : decode cL_canBegin 297 = .ok (.iload 16, 2) := by decide +kernel
theorem dL_canBegin_299 : decode cL_canBegin 299 = .ok (.aload 4, 2) := by decide +kernel
theorem dL_canBegin_301 : decode cL_canBegin 301 = .ok (.iload 15, 2) := by decide +kernel
theorem dL_canBegin_303 : decode cL_canBegin 303 = .ok (.aaload, 1) := by decide +kernel
theorem dL_canBegin_304 : decode cL_canBegin 304 = .ok (.iconst 5, 1) := by decide +kernel
theorem dL_canBegin_305 : decode cL_canBegin 305 = .ok (.iaload, 1) := by decide +kernel
theorem dL_canBegin_306 : decode cL_canBegin 306 = .ok (.iconst 1, 1) := by decide +kernel
theorem dL_canBegin_307 : decode cL_canBegin 307 = .ok (.if_icmp .ne 7, 3) := by decide +kernel
theorem dL_canBegin_310 : decode cL_canBegin 310 = .ok (.iconst 1, 1) := by decide +kernel
theorem dL_canBegin_311 : decode cL_canBegin 311 = .ok (.goto 4, 3) := by decide +kernel
theorem dL_canBegin_314 : decode cL_canBegin 314 = .ok (.iconst 0, 1) := by decide +kernel
theorem dL_canBegin_315 : decode cL_canBegin 315 = .ok (.iload 10, 2) := by decide +kernel
theorem dL_canBegin_317 : decode cL_canBegin 317 = .ok (.if_icmp .ne 8, 3) := by decide +kernel
theorem dL_canBegin_320 : decode cL_canBegin 320 = .ok (.bipush 20, 2) := by decide +kernel
theorem dL_canBegin_322 : decode cL_canBegin 322 = .ok (.goto 5, 3) := by decide +kernel
theorem dL_canBegin_325 : decode cL_canBegin 325 = .ok (.bipush 60, 2) := by decide +kernel
theorem dL_canBegin_327 : decode cL_canBegin 327 = .ok (.if_icmp .ge 5, 3) := by decide +kernel
theorem dL_canBegin_330 : decode cL_canBegin 330 = .ok (.iconst 0, 1) := by decide +kernel
theorem dL_canBegin_331 : decode cL_canBegin 331 = .ok (.ireturn, 1) := by decide +kernel
theorem dL_canBegin_332 : decode cL_canBegin 332 = .ok (.iinc 15 1, 3) := by decide +kernel
theorem dL_canBegin_335 : decode cL_canBegin 335 = .ok (.goto (-109), 3) := by decide +kernel
theorem dL_canBegin_338 : decode cL_canBegin 338 = .ok (.aload 8, 2) := by decide +kernel
theorem dL_canBegin_340 : decode cL_canBegin 340 = .ok (.iconst 2, 1) := by decide +kernel
theorem dL_canBegin_341 : decode cL_canBegin 341 = .ok (.iload_n 0, 1) := by decide +kernel
theorem dL_canBegin_342 : decode cL_canBegin 342 = .ok (.imul, 1) := by decide +kernel
theorem dL_canBegin_343 : decode cL_canBegin 343 = .ok (.iaload, 1) := by decide +kernel
theorem dL_canBegin_344 : decode cL_canBegin 344 = .ok (.invokestatic 61, 3) := by decide +kernel
theorem dL_canBegin_347 : decode cL_canBegin 347 = .ok (.istore 15, 2) := by decide +kernel
theorem dL_canBegin_349 : decode cL_canBegin 349 = .ok (.iconst 0, 1) := by decide +kernel
theorem dL_canBegin_350 : decode cL_canBegin 350 = .ok (.istore 16, 2) := by decide +kernel
theorem dL_canBegin_352 : decode cL_canBegin 352 = .ok (.iload 16, 2) := by decide +kernel
theorem dL_canBegin_354 : decode cL_canBegin 354 = .ok (.bipush 60, 2) := by decide +kernel
theorem dL_canBegin_356 : decode cL_canBegin 356 = .ok (.if_icmp .ge 58, 3) := by decide +kernel
theorem dL_canBegin_359 : decode cL_canBegin 359 = .ok (.iload 10, 2) := by decide +kernel
theorem dL_canBegin_361 : decode cL_canBegin 361 = .ok (.ifCond .eq 13, 3) := by decide +kernel
theorem dL_canBegin_364 : decode cL_canBegin 364 = .ok (.iload 16, 2) := by decide +kernel
theorem dL_canBegin_366 : decode cL_canBegin 366 = .ok (.bipush 40, 2) := by decide +kernel
theorem dL_canBegin_368 : decode cL_canBegin 368 = .ok (.if_icmp .ge 40, 3) := by decide +kernel
theorem dL_canBegin_371 : decode cL_canBegin 371 = .ok (.goto 10, 3) := by decide +kernel
theorem dL_canBegin_374 : decode cL_canBegin 374 = .ok (.iload 16, 2) := by decide +kernel
theorem dL_canBegin_376 : decode cL_canBegin 376 = .ok (.bipush 20, 2) := by decide +kernel
theorem dL_canBegin_378 : decode cL_canBegin 378 = .ok (.if_icmp .lt 30, 3) := by decide +kernel
theorem dL_canBegin_381 : decode cL_canBegin 381 = .ok (.iload 15, 2) := by decide +kernel
theorem dL_canBegin_383 : decode cL_canBegin 383 = .ok (.ifCond .le 25, 3) := by decide +kernel
theorem dL_canBegin_386 : decode cL_canBegin 386 = .ok (.iload_n 3, 1) := by decide +kernel
theorem dL_canBegin_387 : decode cL_canBegin 387 = .ok (.aload 4, 2) := by decide +kernel
theorem dL_canBegin_389 : decode cL_canBegin 389 = .ok (.iload_n 2, 1) := by decide +kernel
theorem dL_canBegin_390 : decode cL_canBegin 390 = .ok (.iload 16, 2) := by decide +kernel
theorem dL_canBegin_392 : decode cL_canBegin 392 = .ok (.iadd, 1) := by decide +kernel
theorem dL_canBegin_393 : decode cL_canBegin 393 = .ok (.invokestatic 64, 3) := by decide +kernel
theorem dL_canBegin_396 : decode cL_canBegin 396 = .ok (.iload 15, 2) := by decide +kernel
theorem dL_canBegin_398 : decode cL_canBegin 398 = .ok (.iadd, 1) := by decide +kernel
theorem dL_canBegin_399 : decode cL_canBegin 399 = .ok (.aload 5, 2) := by decide +kernel
theorem dL_canBegin_401 : decode cL_canBegin 401 = .ok (.iconst 4, 1) := by decide +kernel
theorem dL_canBegin_402 : decode cL_canBegin 402 = .ok (.iaload, 1) := by decide +kernel
theorem dL_canBegin_403 : decode cL_canBegin 403 = .ok (.if_icmp .le 5, 3) := by decide +kernel
theorem dL_canBegin_406 : decode cL_canBegin 406 = .ok (.iconst 0, 1) := by decide +kernel
theorem dL_canBegin_407 : decode cL_canBegin 407 = .ok (.ireturn, 1) := by decide +kernel
theorem dL_canBegin_408 : decode cL_canBegin 408 = .ok (.iinc 16 1, 3) := by decide +kernel
theorem dL_canBegin_411 : decode cL_canBegin 411 = .ok (.goto (-59), 3) := by decide +kernel
theorem dL_canBegin_414 : decode cL_canBegin 414 = .ok (.aload 8, 2) := by decide +kernel
theorem dL_canBegin_416 : decode cL_canBegin 416 = .ok (.iconst 2, 1) := by decide +kernel
theorem dL_canBegin_417 : decode cL_canBegin 417 = .ok (.iload_n 0, 1) := by decide +kernel
theorem dL_canBegin_418 : decode cL_canBegin 418 = .ok (.imul, 1) := by decide +kernel
theorem dL_canBegin_419 : decode cL_canBegin 419 = .ok (.iaload, 1) := by decide +kernel
theorem dL_canBegin_420 : decode cL_canBegin 420 = .ok (.iload 10, 2) := by decide +kernel
theorem dL_canBegin_422 : decode cL_canBegin 422 = .ok (.iload_n 2, 1) := by decide +kernel
theorem dL_canBegin_423 : decode cL_canBegin 423 = .ok (.iload_n 3, 1) := by decide +kernel
theorem dL_canBegin_424 : decode cL_canBegin 424 = .ok (.aload 4, 2) := by decide +kernel
theorem dL_canBegin_426 : decode cL_canBegin 426 = .ok (.aload 5, 2) := by decide +kernel
theorem dL_canBegin_428 : decode cL_canBegin 428 = .ok (.aload 9, 2) := by decide +kernel
theorem dL_canBegin_430 : decode cL_canBegin 430 = .ok (.invokestatic 67, 3) := by decide +kernel
theorem dL_canBegin_433 : decode cL_canBegin 433 = .ok (.ifCond .lt 7, 3) := by decide +kernel
theorem dL_canBegin_436 : decode cL_canBegin 436 = .ok (.iconst 1, 1) := by decide +kernel
theorem dL_canBegin_437 : decode cL_canBegin 437 = .ok (.goto 4, 3) := by decide +kernel
theorem dL_canBegin_440 : decode cL_canBegin 440 = .ok (.iconst 0, 1) := by decide +kernel
theorem dL_canBegin_441 : decode cL_canBegin 441 = .ok (.ireturn, 1) := by decide +kernel
set_option maxRecDepth 20000 in
theorem ggL_told_X6_book : GoodIn wsL_told wsX6_book := goodIn_ca (goodIn_ca (goodIn_ca (goodIn_r _ [6, 7, 8, 9, 10, 11, 12, 13, 14, 15, 5, 16, 17, 18, 19, 20, 21, 22, 23, 24, 25, 26, 27, 28, 29, 30, 31, 32, 33, 34, 35, 36, 37, 38, 39, 40, 41, 42, 43, 44, 45, 46, 47, 48, 49, 50, 51, 52, 53, 54, 55, 56, 57, 58, 59, 60, 61, 62, 63, 64, 65, 66, 67, 68, 69, 70, 71, 72, 73, 74, 75, 76, 77, 78, 79, 80, 81, 82, 83, 84, 85, 86, 87, 88, 89, 90, 91, 92, 93, 94, 95, 96, 97, 98, 99, 100, 101, 102, 103, 104, 105, 106, 107, 108, 109, 110, 111, 112, 113, 114, 115, 116, 117, 118, 119, 120, 121, 122, 123, 124, 125, 126, 127, 128, 129, 130, 131, 132, 133, 134, 135, 136, 137, 138, 139, 140, 141, 142, 143, 144, 145, 146, 147, 148, 149, 150, 151, 152, 153, 154, 155, 156, 157, 158, 159, 160, 161, 162, 163, 164, 165, 166, 167, 168, 169, 170, 171, 172, 173, 174, 175, 176, 177, 178, 179, 180, 181, 182, 183, 184, 185, 186, 187, 188, 189, 190, 191, 192, 193, 194, 195, 196, 197, 198, 199, 200, 201, 202, 203, 204, 205, 206, 207, 208, 209, 210, 211, 212, 213, 214, 215, 216, 217, 218, 219, 220, 221, 222, 223, 224, 225, 226, 227, 228, 229, 230, 231, 232, 233, 234, 235, 236, 237, 238, 239, 240, 241, 242, 243, 244, 245, 246, 247, 248, 249, 250, 251, 252, 253, 254, 255, 256, 257, 258, 259, 260, 261, 262, 263, 264, 265, 266, 267, 268, 269, 270, 271, 272, 273, 274, 275, 276, 277, 278, 279, 280] (by decide +kernel) (by decide +kernel)) (goodIn_sub (fun _ h => List.mem_cons_of_mem _ (List.mem_append_left _ (List.mem_append_left _ (List.mem_append_right _ h)))) (by decide +kernel))) (goodIn_sub (fun _ h => List.mem_cons_of_mem _ (List.mem_append_left _ (List.mem_append_right _ h))) (by decide +kernel))) (goodIn_sub (fun _ h => List.mem_cons_of_mem _ (List.mem_append_right _ h)) (by decide +kernel))
set_option maxRecDepth 20000 in
theorem gL_told_X6_book : GoodIn wsL_told (wsV RL 75 RX6 yX6_book wsX6_book) := goodIn_app (goodIn_of _ (by decide +kernel)) ggL_told_X6_book
theorem dL_told_0 : decode cL_told 0 = .ok (.aload_n 0, 1) := by decide +kernel
theorem dL_told_1 : decode cL_told 1 = .ok (.iload_n 1, 1) := by decide +kernel
theorem dL_told_2 : decode cL_told 2 = .ok (.iload_n 2, 1) := by decide +kernel
theorem dL_told_3 : decode cL_told 3 = .ok (.iload_n 3, 1) := by decide +kernel
theorem dL_told_4 : decode cL_told 4 = .ok (.invokevirtual 75, 3) := by decide +kernel
theorem dL_told_7 : decode cL_told 7 = .ok (.ireturn, 1) := by decide +kernel
theorem dL_told_8 : decode cL_told 8 = .ok (.astore 4, 2) := by decide +kernel
theorem dL_told_10 : decode cL_told 10 = .ok (.bipush (-3), 2) := by decide +kernel
theorem dL_told_12 : decode cL_told 12 = .ok (.ireturn, 1) := by decide +kernel
set_option maxRecDepth 20000 in
theorem ggL_law_X6_init : GoodIn wsL_law wsX6_init := goodIn_r _ [7, 8, 9, 10, 11, 12, 13, 14, 15, 16, 17, 18, 19, 20, 21, 22, 23, 24, 25, 26, 27, 28, 3, 29, 30, 31, 32, 33, 34, 35, 36, 37, 38, 39, 40, 41, 42, 43, 44, 45, 46, 403, 404, 405, 395, 396, 397, 398, 399, 400, 401, 402, 406, 407, 408] (by decide +kernel) (by decide +kernel)
set_option maxRecDepth 20000 in
theorem gL_law_X6_init : GoodIn wsL_law (wsX6_init) := ggL_law_X6_init
set_option maxRecDepth 20000 in
theorem ggL_law_L_build : GoodIn wsL_law wsL_build := goodIn_ca (goodIn_ca (goodIn_ca (goodIn_k 50 rfl rfl (goodIn_r _ [3, 51, 52, 49, 53, 54, 55, 56, 57, 58, 59, 60, 61, 2, 62, 63, 64, 21, 14, 65, 66, 67, 68, 69, 70, 71, 72, 73, 74, 75, 17, 76, 77, 78, 79, 80, 13, 81, 29, 82, 83, 84, 85, 31, 86, 87, 88, 89, 30, 90, 91, 92, 93, 22, 23, 94, 95, 96, 97, 24, 98, 99, 100, 101, 18, 102, 103, 104, 105, 106, 107, 108, 109, 110, 111, 112, 113, 114, 115, 9, 10, 116, 117, 118, 119, 120, 121, 122, 123, 124, 36, 125, 126, 127, 128, 129, 130, 131, 132, 133, 134, 135, 136, 35, 137, 138, 139, 140, 141, 142, 143, 144, 145, 146, 147, 148, 149, 150, 151, 152, 153, 154, 155, 156, 157, 158, 159, 160, 161, 162, 163, 164, 165, 166, 167, 168, 169, 170, 171, 172, 173, 174, 19, 175, 176, 177, 178, 179, 180, 181, 182, 183, 184, 185, 186, 187, 188, 189, 20, 190, 191, 192, 193, 194, 195, 196, 197, 198, 199, 200, 201, 202, 203, 204, 205, 206, 395, 396, 397, 398, 399, 400, 401, 402, 403, 404, 405, 406, 407, 408, 409, 410, 411, 412, 413, 414, 415, 416, 417, 418, 419] (by decide +kernel) (by decide +kernel))) (goodIn_sub (fun _ h => List.mem_append_left _ (List.mem_append_left _ (List.mem_append_right _ h))) (by decide +kernel))) (goodIn_sub (fun _ h => List.mem_append_left _ (List.mem_append_right _ h)) (by decide +kernel))) (goodIn_sub (fun _ h => List.mem_append_right _ h) (by decide +kernel))
set_option maxRecDepth 20000 in
theorem gL_law_L_build : GoodIn wsL_law (va_wsS RL 95 yL_build wsL_build) := goodIn_app (goodIn_of _ (by decide +kernel)) ggL_law_L_build
set_option maxRecDepth 20000 in
theorem ggL_law_L_cell : GoodIn wsL_law wsL_cell := goodIn_r _ [53, 54] (by decide +kernel) (by decide +kernel)
set_option maxRecDepth 20000 in
theorem gL_law_L_cell : GoodIn wsL_law (va_wsS RL 9 yL_cell wsL_cell) := goodIn_app (goodIn_of _ (by decide +kernel)) ggL_law_L_cell
set_option maxRecDepth 20000 in
theorem ggL_law_L_below : GoodIn wsL_law wsL_below := goodIn_r _ [57, 58] (by decide +kernel) (by decide +kernel)
set_option maxRecDepth 20000 in
theorem gL_law_L_below : GoodIn wsL_law (va_wsS RL 15 yL_below wsL_below) := goodIn_app (goodIn_of _ (by decide +kernel)) ggL_law_L_below
set_option maxRecDepth 20000 in
theorem ggL_law_L_told : GoodIn wsL_law wsL_told := goodIn_ca (goodIn_ca (goodIn_ca (goodIn_r _ [209, 210, 211, 212, 213, 2, 214, 63, 64, 21, 215, 216, 217, 218, 219, 220, 221, 19, 18, 105, 106, 107, 17, 108, 77, 222, 223, 224, 205, 206, 65, 66, 67, 68, 69, 70, 71, 72, 109, 110, 111, 225, 226, 227, 228, 229, 230, 231, 232, 233, 234, 235, 236, 237, 238, 239, 240, 241, 242, 243, 244, 245, 246, 247, 248, 249, 36, 250, 251, 252, 253, 9, 10, 254, 255, 256, 257, 258, 259, 260, 261, 262, 263, 264, 265, 138, 139, 140, 266, 267, 268, 269, 270, 271, 272, 273, 274, 275, 276, 277, 278, 279, 22, 280, 281, 282, 283, 284, 285, 286, 287, 288, 289, 290, 291, 292, 293, 294, 14, 295, 296, 297, 13, 298, 31, 30, 29, 82, 83, 84, 85, 299, 300, 301, 302, 23, 303, 304, 305, 306, 307, 308, 309, 310, 24, 311, 312, 313, 314, 315, 316, 317, 318, 319, 320, 321, 322, 323, 324, 325, 326, 327, 328, 20, 329, 330, 331, 332, 192, 333, 199, 197, 334, 335, 336, 337, 200, 338, 339, 340, 341, 342, 343, 344, 345, 346, 347, 348, 349, 350, 351, 352, 353, 354, 355, 119, 120, 121, 122, 123, 124, 125, 126, 127, 128, 129, 130, 131, 132, 133, 134, 135, 136, 35, 137, 141, 142, 143, 144, 145, 146, 147, 148, 149, 150, 151, 152, 153, 154, 155, 156, 157, 158, 159, 160, 161, 162, 163, 164, 165, 166, 167, 168, 169, 170, 395, 396, 397, 398, 399, 400, 401, 402, 420, 421, 422, 423, 424, 425, 426, 406, 407, 408, 412, 413, 414, 415, 427, 428, 429, 430, 409, 410, 411, 403, 404, 405, 416, 417, 418, 419] (by decide +kernel) (by decide +kernel)) (goodIn_sub (fun _ h => List.mem_append_left _ (List.mem_append_left _ (List.mem_append_right _ h))) (by decide +kernel))) (goodIn_sub (fun _ h => List.mem_append_right _ h) (by decide +kernel))) (goodIn_sub (fun _ h => List.mem_append_left _ (List.mem_append_right _ h)) (by decide +kernel))
set_option maxRecDepth 20000 in
theorem gL_law_L_told : GoodIn wsL_law (va_wsS RL 87 yL_told wsL_told) := goodIn_app (goodIn_of _ (by decide +kernel)) ggL_law_L_told
set_option maxRecDepth 20000 in
theorem ggL_law_X6_earliest : GoodIn wsL_law wsX6_earliest := goodIn_ca (goodIn_ca (goodIn_r _ [359, 218, 219, 220, 2, 221, 19, 18, 105, 106, 107, 17, 108, 77, 222, 223, 224, 205, 206, 65, 66, 67, 68, 69, 70, 71, 72, 225, 226, 227, 228, 229, 230, 231, 232, 233, 234, 235, 236, 237, 238, 239, 240, 241, 242, 243, 244, 245, 246, 247, 248, 249, 36, 250, 251, 252, 253, 9, 10, 254, 255, 256, 257, 258, 259, 260, 261, 262, 263, 264, 265, 138, 139, 140, 266, 267, 268, 269, 21, 270, 271, 272, 273, 217, 274, 275, 276, 277, 278, 279, 22, 280, 281, 282, 283, 284, 285, 286, 287, 288, 289, 290, 291, 292, 293, 294, 14, 295, 296, 297, 13, 298, 31, 30, 29, 82, 83, 84, 85, 299, 300, 301, 302, 23, 303, 304, 305, 306, 307, 308, 309, 310, 24, 311, 312, 313, 314, 315, 316, 317, 318, 319, 320, 321, 322, 323, 324, 325, 326, 327, 328, 20, 329, 330, 331, 332, 192, 333, 199, 197, 334, 335, 336, 337, 200, 338, 339, 340, 341, 342, 395, 396, 397, 398, 399, 400, 401, 402, 406, 407, 408, 412, 413, 414, 415, 420, 421, 422, 423, 424, 425, 426, 427, 428, 429, 430, 409, 410, 411, 403, 404, 405, 416, 417, 418, 419] (by decide +kernel) (by decide +kernel)) (goodIn_sub (fun _ h => List.mem_append_right _ h) (by decide +kernel))) (goodIn_sub (fun _ h => List.mem_append_left _ (List.mem_append_right _ h)) (by decide +kernel))
set_option maxRecDepth 20000 in
theorem gL_law_X6_earliest : GoodIn wsL_law (wsV RL 85 RX6 yX6_earliest wsX6_earliest) := goodIn_app (goodIn_of _ (by decide +kernel)) ggL_law_X6_earliest
set_option maxRecDepth 20000 in
theorem ggL_law_X6_passage : GoodIn wsL_law wsX6_passage := goodIn_ca (goodIn_r _ [363, 205, 206, 21, 270, 105, 106, 107, 17, 108, 77, 222, 223, 2, 224, 234, 235, 236, 237, 238, 239, 240, 241, 242, 243, 244, 245, 246, 247, 248, 249, 36, 395, 396, 397, 398, 399, 400, 401, 402, 420, 421, 422, 423, 424, 425, 426, 427, 428, 429, 430, 412, 413, 414, 415, 416, 417, 418, 419, 409, 410, 411, 406, 407, 408] (by decide +kernel) (by decide +kernel)) (goodIn_sub (fun _ h => List.mem_append_right _ h) (by decide +kernel))
set_option maxRecDepth 20000 in
theorem gL_law_X6_passage : GoodIn wsL_law (wsV RL 91 RX6 yX6_passage wsX6_passage) := goodIn_app (goodIn_of _ (by decide +kernel)) ggL_law_X6_passage
set_option maxRecDepth 20000 in
theorem ggL_law_L_canBegin : GoodIn wsL_law wsL_canBegin := goodIn_k 366 rfl rfl (goodIn_r _ [367, 285, 139, 286, 368, 369, 49, 370, 371, 372, 373, 374, 375, 376, 377, 378, 379, 380, 381, 382, 383, 384, 385, 386] (by decide +kernel) (by decide +kernel))
set_option maxRecDepth 20000 in
theorem gL_law_L_canBegin : GoodIn wsL_law (va_wsS RL 71 yL_canBegin wsL_canBegin) := goodIn_app (goodIn_of _ (by decide +kernel)) ggL_law_L_canBegin
set_option maxRecDepth 20000 in
theorem ggL_law_X6_occupant : GoodIn wsL_law wsX6_occupant := goodIn_ca (goodIn_ca (goodIn_r _ [390, 18, 21, 270, 105, 106, 107, 17, 108, 77, 222, 223, 2, 224, 205, 206, 65, 66, 67, 68, 69, 70, 71, 72, 234, 235, 236, 237, 238, 239, 240, 241, 242, 243, 244, 245, 246, 247, 248, 249, 36, 391, 392, 393, 217, 394, 275, 351, 395, 396, 397, 398, 399, 400, 401, 402, 420, 421, 422, 423, 424, 425, 426, 427, 428, 429, 430, 409, 410, 411, 412, 413, 414, 415, 406, 407, 408] (by decide +kernel) (by decide +kernel)) (goodIn_sub (fun _ h => List.mem_append_right _ h) (by decide +kernel))) (goodIn_sub (fun _ h => List.mem_append_left _ (List.mem_append_right _ h)) (by decide +kernel))
set_option maxRecDepth 20000 in
theorem gL_law_X6_occupant : GoodIn wsL_law (wsV RL 101 RX6 yX6_occupant wsX6_occupant) := goodIn_app (goodIn_of _ (by decide +kernel)) ggL_law_X6_occupant
set_option maxRecDepth 20000 in
theorem ggL_law_L_leaves : GoodIn wsL_law wsL_leaves := goodIn_r _ [376, 377] (by decide +kernel) (by decide +kernel)
set_option maxRecDepth 20000 in
theorem gL_law_L_leaves : GoodIn wsL_law (va_wsS RL 52 yL_leaves wsL_leaves) := goodIn_app (goodIn_of _ (by decide +kernel)) ggL_law_L_leaves
set_option maxRecDepth 20000 in
theorem ggL_law_X6_count : GoodIn wsL_law wsX6_count := goodIn_ca (goodIn_r _ [204, 205, 206, 14, 18, 19, 20, 21, 105, 106, 107, 17, 108, 77, 395, 396, 397, 398, 399, 400, 401, 402, 403, 404, 405, 406, 407, 408] (by decide +kernel) (by decide +kernel)) (goodIn_sub (fun _ h => List.mem_append_right _ h) (by decide +kernel))
set_option maxRecDepth 20000 in
theorem gL_law_X6_count : GoodIn wsL_law (wsV RL 41 RX6 yX6_count wsX6_count) := goodIn_app (goodIn_of _ (by decide +kernel)) ggL_law_X6_count
theorem dL_law_0 : decode cL_law 0 = .ok (.new 20, 3) := by decide +kernel
theorem dL_law_3 : decode cL_law 3 = .ok (.dup, 1) := by decide +kernel
theorem dL_law_4 : decode cL_law 4 = .ok (.invokespecial 94, 3) := by decide +kernel
theorem dL_law_7 : decode cL_law 7 = .ok (.astore_n 1, 1) := by decide +kernel
theorem dL_law_8 : decode cL_law 8 = .ok (.bipush 20, 2) := by decide +kernel
theorem dL_law_10 : decode cL_law 10 = .ok (.newarray .int, 2) := by decide +kernel
theorem dL_law_12 : decode cL_law 12 = .ok (.astore_n 2, 1) := by decide +kernel
theorem dL_law_13 : decode cL_law 13 = .ok (.bipush 6, 2) := by decide +kernel
theorem dL_law_15 : decode cL_law 15 = .ok (.newarray .int, 2) := by decide +kernel
theorem dL_law_17 : decode cL_law 17 = .ok (.astore_n 3, 1) := by decide +kernel
theorem dL_law_18 : decode cL_law 18 = .ok (.bipush 12, 2) := by decide +kernel
theorem dL_law_20 : decode cL_law 20 = .ok (.newarray .int, 2) := by decide +kernel
theorem dL_law_22 : decode cL_law 22 = .ok (.astore 4, 2) := by decide +kernel
theorem dL_law_24 : decode cL_law 24 = .ok (.bipush 6, 2) := by decide +kernel
theorem dL_law_26 : decode cL_law 26 = .ok (.newarray .int, 2) := by decide +kernel
theorem dL_law_28 : decode cL_law 28 = .ok (.astore 5, 2) := by decide +kernel
theorem dL_law_30 : decode cL_law 30 = .ok (.aload_n 1, 1) := by decide +kernel
theorem dL_law_31 : decode cL_law 31 = .ok (.aload_n 0, 1) := by decide +kernel
theorem dL_law_32 : decode cL_law 32 = .ok (.iconst 0, 1) := by decide +kernel
theorem dL_law_33 : decode cL_law 33 = .ok (.aload_n 2, 1) := by decide +kernel
theorem dL_law_34 : decode cL_law 34 = .ok (.aload_n 3, 1) := by decide +kernel
theorem dL_law_35 : decode cL_law 35 = .ok (.aload 4, 2) := by decide +kernel
theorem dL_law_37 : decode cL_law 37 = .ok (.aload 5, 2) := by decide +kernel
theorem dL_law_39 : decode cL_law 39 = .ok (.invokestatic 95, 3) := by decide +kernel
theorem dL_law_42 : decode cL_law 42 = .ok (.astore 6, 2) := by decide +kernel
theorem dL_law_44 : decode cL_law 44 = .ok (.aload 6, 2) := by decide +kernel
theorem dL_law_46 : decode cL_law 46 = .ok (.ifnonnull 5, 3) := by decide +kernel
theorem dL_law_49 : decode cL_law 49 = .ok (.iconst 0, 1) := by decide +kernel
theorem dL_law_50 : decode cL_law 50 = .ok (.ireturn, 1) := by decide +kernel
theorem dL_law_51 : decode cL_law 51 = .ok (.bipush 40, 2) := by decide +kernel
theorem dL_law_53 : decode cL_law 53 = .ok (.anewarray 99, 3) := by decide +kernel
theorem dL_law_56 : decode cL_law 56 = .ok (.astore 7, 2) := by decide +kernel
theorem dL_law_58 : decode cL_law 58 = .ok (.iconst 0, 1) := by decide +kernel
theorem dL_law_59 : decode cL_law 59 = .ok (.istore 8, 2) := by decide +kernel
theorem dL_law_61 : decode cL_law 61 = .ok (.bipush 6, 2) := by decide +kernel
theorem dL_law_63 : decode cL_law 63 = .ok (.newarray .int, 2) := by decide +kernel
theorem dL_law_65 : decode cL_law 65 = .ok (.astore 9, 2) := by decide +kernel
theorem dL_law_67 : decode cL_law 67 = .ok (.iconst 0, 1) := by decide +kernel
theorem dL_law_68 : decode cL_law 68 = .ok (.istore 10, 2) := by decide +kernel
theorem dL_law_70 : decode cL_law 70 = .ok (.iload 10, 2) := by decide +kernel
theorem dL_law_72 : decode cL_law 72 = .ok (.bipush 10, 2) := by decide +kernel
theorem dL_law_74 : decode cL_law 74 = .ok (.if_icmp .ge 294, 3) := by decide +kernel
theorem dL_law_77 : decode cL_law 77 = .ok (.aload_n 0, 1) := by decide +kernel
theorem dL_law_78 : decode cL_law 78 = .ok (.bipush 6, 2) := by decide +kernel
theorem dL_law_80 : decode cL_law 80 = .ok (.iload 10, 2) := by decide +kernel
theorem dL_law_82 : decode cL_law 82 = .ok (.iadd, 1) := by decide +kernel
theorem dL_law_83 : decode cL_law 83 = .ok (.invokestatic 9, 3) := by decide +kernel
theorem dL_law_86 : decode cL_law 86 = .ok (.istore 11, 2) := by decide +kernel
theorem dL_law_88 : decode cL_law 88 = .ok (.iload 11, 2) := by decide +kernel
theorem dL_law_90 : decode cL_law 90 = .ok (.aload 6, 2) := by decide +kernel
theorem dL_law_92 : decode cL_law 92 = .ok (.iconst 2, 1) := by decide +kernel
theorem dL_law_93 : decode cL_law 93 = .ok (.iaload, 1) := by decide +kernel
theorem dL_law_94 : decode cL_law 94 = .ok (.invokestatic 15, 3) := by decide +kernel
theorem dL_law_97 : decode cL_law 97 = .ok (.istore 12, 2) := by decide +kernel
theorem dL_law_99 : decode cL_law 99 = .ok (.aload 9, 2) := by decide +kernel
theorem dL_law_101 : decode cL_law 101 = .ok (.iload 12, 2) := by decide +kernel
theorem dL_law_103 : decode cL_law 103 = .ok (.iaload, 1) := by decide +kernel
theorem dL_law_104 : decode cL_law 104 = .ok (.iconst 2, 1) := by decide +kernel
theorem dL_law_105 : decode cL_law 105 = .ok (.irem, 1) := by decide +kernel
theorem dL_law_106 : decode cL_law 106 = .ok (.iconst 1, 1) := by decide +kernel
theorem dL_law_107 : decode cL_law 107 = .ok (.if_icmp .ne 7, 3) := by decide +kernel
theorem dL_law_110 : decode cL_law 110 = .ok (.iconst (-1), 1) := by decide +kernel
theorem dL_law_111 : decode cL_law 111 = .ok (.goto 14, 3) := by decide +kernel
theorem dL_law_114 : decode cL_law 114 = .ok (.iload 11, 2) := by decide +kernel
theorem dL_law_116 : decode cL_law 116 = .ok (.iconst 3, 1) := by decide +kernel
theorem dL_law_117 : decode cL_law 117 = .ok (.ishr, 1) := by decide +kernel
theorem dL_law_118 : decode cL_law 118 = .ok (.aload 6, 2) := by decide +kernel
theorem dL_law_120 : decode cL_law 120 = .ok (.iconst 1, 1) := by decide +kernel
theorem dL_law_121 : decode cL_law 121 = .ok (.iaload, 1) := by decide +kernel
theorem dL_law_122 : decode cL_law 122 = .ok (.invokestatic 15, 3) := by decide +kernel
theorem dL_law_125 : decode cL_law 125 = .ok (.istore 13, 2) := by decide +kernel
theorem dL_law_127 : decode cL_law 127 = .ok (.iload 11, 2) := by decide +kernel
theorem dL_law_129 : decode cL_law 129 = .ok (.iconst 5, 1) := by decide +kernel
theorem dL_law_130 : decode cL_law 130 = .ok (.ishr, 1) := by decide +kernel
theorem dL_law_131 : decode cL_law 131 = .ok (.sipush 1000, 3) := by decide +kernel
theorem dL_law_134 : decode cL_law 134 = .ok (.invokestatic 15, 3) := by decide +kernel
theorem dL_law_137 : decode cL_law 137 = .ok (.istore 14, 2) := by decide +kernel
theorem dL_law_139 : decode cL_law 139 = .ok (.aload_n 1, 1) := by decide +kernel
theorem dL_law_140 : decode cL_law 140 = .ok (.iload 12, 2) := by decide +kernel
theorem dL_law_142 : decode cL_law 142 = .ok (.iload 13, 2) := by decide +kernel
theorem dL_law_144 : decode cL_law 144 = .ok (.iload 14, 2) := by decide +kernel
theorem dL_law_146 : decode cL_law 146 = .ok (.invokestatic 87, 3) := by decide +kernel
theorem dL_law_149 : decode cL_law 149 = .ok (.istore 15, 2) := by decide +kernel
theorem dL_law_151 : decode cL_law 151 = .ok (.iload 15, 2) := by decide +kernel
theorem dL_law_153 : decode cL_law 153 = .ok (.bipush (-3), 2) := by decide +kernel
theorem dL_law_155 : decode cL_law 155 = .ok (.if_icmp .ne 19, 3) := by decide +kernel
theorem dL_law_158 : decode cL_law 158 = .ok (.aload_n 1, 1) := by decide +kernel
theorem dL_law_159 : decode cL_law 159 = .ok (.iload 12, 2) := by decide +kernel
theorem dL_law_161 : decode cL_law 161 = .ok (.iload 13, 2) := by decide +kernel
theorem dL_law_163 : decode cL_law 163 = .ok (.iload 14, 2) := by decide +kernel
theorem dL_law_165 : decode cL_law 165 = .ok (.invokevirtual 85, 3) := by decide +kernel
theorem dL_law_168 : decode cL_law 168 = .ok (.iconst (-1), 1) := by decide +kernel
theorem dL_law_169 : decode cL_law 169 = .ok (.if_icmp .eq 193, 3) := by decide +kernel
theorem dL_law_172 : decode cL_law 172 = .ok (.iconst 0, 1) := by decide +kernel
theorem dL_law_173 : decode cL_law 173 = .ok (.ireturn, 1) := by decide +kernel
theorem dL_law_174 : decode cL_law 174 = .ok (.aload_n 1, 1) := by decide +kernel
theorem dL_law_175 : decode cL_law 175 = .ok (.iload 15, 2) := by decide +kernel
theorem dL_law_177 : decode cL_law 177 = .ok (.iconst 1, 1) := by decide +kernel
theorem dL_law_178 : decode cL_law 178 = .ok (.invokevirtual 91, 3) := by decide +kernel
theorem dL_law_181 : decode cL_law 181 = .ok (.istore 16, 2) := by decide +kernel
theorem dL_law_183 : decode cL_law 183 = .ok (.iload 15, 2) := by decide +kernel
theorem dL_law_185 : decode cL_law 185 = .ok (.iload 8, 2) := by decide +kernel
theorem dL_law_187 : decode cL_law 187 = .ok (.if_icmp .ne 10, 3) := by decide +kernel
theorem dL_law_190 : decode cL_law 190 = .ok (.iload 16, 2) := by decide +kernel
theorem dL_law_192 : decode cL_law 192 = .ok (.iload 14, 2) := by decide +kernel
theorem dL_law_194 : decode cL_law 194 = .ok (.if_icmp .ge 5, 3) := by decide +kernel
theorem dL_law_197 : decode cL_law 197 = .ok (.iconst 0, 1) := by decide +kernel
theorem dL_law_198 : decode cL_law 198 = .ok (.ireturn, 1) := by decide +kernel
theorem dL_law_199 : decode cL_law 199 = .ok (.iload 14, 2) := by decide +kernel
theorem dL_law_201 : decode cL_law 201 = .ok (.istore 17, 2) := by decide +kernel
theorem dL_law_203 : decode cL_law 203 = .ok (.iload 17, 2) := by decide +kernel
theorem dL_law_205 : decode cL_law 205 = .ok (.iload 16, 2) := by decide +kernel
theorem dL_law_207 : decode cL_law 207 = .ok (.if_icmp .ge 35, 3) := by decide +kernel
theorem dL_law_210 : decode cL_law 210 = .ok (.iload 12, 2) := by decide +kernel
theorem dL_law_212 : decode cL_law 212 = .ok (.iload 13, 2) := by decide +kernel
theorem dL_law_214 : decode cL_law 214 = .ok (.iload 17, 2) := by decide +kernel
theorem dL_law_216 : decode cL_law 216 = .ok (.iload 8, 2) := by decide +kernel
theorem dL_law_218 : decode cL_law 218 = .ok (.aload 7, 2) := by decide +kernel
theorem dL_law_220 : decode cL_law 220 = .ok (.aload 6, 2) := by decide +kernel
theorem dL_law_222 : decode cL_law 222 = .ok (.aload_n 2, 1) := by decide +kernel
theorem dL_law_223 : decode cL_law 223 = .ok (.aload_n 3, 1) := by decide +kernel
theorem dL_law_224 : decode cL_law 224 = .ok (.aload 4, 2) := by decide +kernel
theorem dL_law_226 : decode cL_law 226 = .ok (.aload 5, 2) := by decide +kernel
theorem dL_law_228 : decode cL_law 228 = .ok (.invokestatic 71, 3) := by decide +kernel
theorem dL_law_231 : decode cL_law 231 = .ok (.ifCond .eq 5, 3) := by decide +kernel
theorem dL_law_234 : decode cL_law 234 = .ok (.iconst 0, 1) := by decide +kernel
theorem dL_law_235 : decode cL_law 235 = .ok (.ireturn, 1) := by decide +kernel
theorem dL_law_236 : decode cL_law 236 = .ok (.iinc 17 1, 3) := by decide +kernel
theorem dL_law_239 : decode cL_law 239 = .ok (.goto (-36), 3) := by decide +kernel
theorem dL_law_242 : decode cL_law 242 = .ok (.iload 12, 2) := by decide +kernel
theorem dL_law_244 : decode cL_law 244 = .ok (.iload 13, 2) := by decide +kernel
theorem dL_law_246 : decode cL_law 246 = .ok (.iload 16, 2) := by decide +kernel
theorem dL_law_248 : decode cL_law 248 = .ok (.iload 8, 2) := by decide +kernel
theorem dL_law_250 : decode cL_law 250 = .ok (.aload 7, 2) := by decide +kernel
theorem dL_law_252 : decode cL_law 252 = .ok (.aload 6, 2) := by decide +kernel
theorem dL_law_254 : decode cL_law 254 = .ok (.aload_n 2, 1) := by decide +kernel
theorem dL_law_255 : decode cL_law 255 = .ok (.aload_n 3, 1) := by decide +kernel
theorem dL_law_256 : decode cL_law 256 = .ok (.aload 4, 2) := by decide +kernel
theorem dL_law_258 : decode cL_law 258 = .ok (.aload 5, 2) := by decide +kernel
theorem dL_law_260 : decode cL_law 260 = .ok (.invokestatic 71, 3) := by decide +kernel
theorem dL_law_263 : decode cL_law 263 = .ok (.ifCond .ne 5, 3) := by decide +kernel
theorem dL_law_266 : decode cL_law 266 = .ok (.iconst 0, 1) := by decide +kernel
theorem dL_law_267 : decode cL_law 267 = .ok (.ireturn, 1) := by decide +kernel
theorem dL_law_268 : decode cL_law 268 = .ok (.aload 7, 2) := by decide +kernel
theorem dL_law_270 : decode cL_law 270 = .ok (.iload 8, 2) := by decide +kernel
theorem dL_law_272 : decode cL_law 272 = .ok (.bipush 6, 2) := by decide +kernel
theorem dL_law_274 : decode cL_law 274 = .ok (.newarray .int, 2) := by decide +kernel
theorem dL_law_276 : decode cL_law 276 = .ok (.dup, 1) := by decide +kernel
theorem dL_law_277 : decode cL_law 277 = .ok (.iconst 0, 1) := by decide +kernel
theorem dL_law_278 : decode cL_law 278 = .ok (.iload 12, 2) := by decide +kernel
theorem dL_law_280 : decode cL_law 280 = .ok (.iastore, 1) := by decide +kernel
theorem dL_law_281 : decode cL_law 281 = .ok (.dup, 1) := by decide +kernel
theorem dL_law_282 : decode cL_law 282 = .ok (.iconst 1, 1) := by decide +kernel
theorem dL_law_283 : decode cL_law 283 = .ok (.iload 16, 2) := by decide +kernel
theorem dL_law_285 : decode cL_law 285 = .ok (.iastore, 1) := by decide +kernel
theorem dL_law_286 : decode cL_law 286 = .ok (.dup, 1) := by decide +kernel
theorem dL_law_287 : decode cL_law 287 = .ok (.iconst 2, 1) := by decide +kernel
theorem dL_law_288 : decode cL_law 288 = .ok (.aload_n 1, 1) := by decide +kernel
theorem dL_law_289 : decode cL_law 289 = .ok (.iload 8, 2) := by decide +kernel
theorem dL_law_291 : decode cL_law 291 = .ok (.iconst 2, 1) := by decide +kernel
theorem dL_law_292 : decode cL_law 292 = .ok (.invokevirtual 91, 3) := by decide +kernel
theorem dL_law_295 : decode cL_law 295 = .ok (.iastore, 1) := by decide +kernel
theorem dL_law_296 : decode cL_law 296 = .ok (.dup, 1) := by decide +kernel
theorem dL_law_297 : decode cL_law 297 = .ok (.iconst 3, 1) := by decide +kernel
theorem dL_law_298 : decode cL_law 298 = .ok (.aload_n 1, 1) := by decide +kernel
theorem dL_law_299 : decode cL_law 299 = .ok (.iload 8, 2) := by decide +kernel
theorem dL_law_301 : decode cL_law 301 = .ok (.iconst 3, 1) := by decide +kernel
theorem dL_law_302 : decode cL_law 302 = .ok (.invokevirtual 91, 3) := by decide +kernel
theorem dL_law_305 : decode cL_law 305 = .ok (.iastore, 1) := by decide +kernel
theorem dL_law_306 : decode cL_law 306 = .ok (.dup, 1) := by decide +kernel
theorem dL_law_307 : decode cL_law 307 = .ok (.iconst 4, 1) := by decide +kernel
theorem dL_law_308 : decode cL_law 308 = .ok (.aload_n 1, 1) := by decide +kernel
theorem dL_law_309 : decode cL_law 309 = .ok (.iload 8, 2) := by decide +kernel
theorem dL_law_311 : decode cL_law 311 = .ok (.iconst 4, 1) := by decide +kernel
theorem dL_law_312 : decode cL_law 312 = .ok (.invokevirtual 91, 3) := by decide +kernel
theorem dL_law_315 : decode cL_law 315 = .ok (.iastore, 1) := by decide +kernel
theorem dL_law_316 : decode cL_law 316 = .ok (.dup, 1) := by decide +kernel
theorem dL_law_317 : decode cL_law 317 = .ok (.iconst 5, 1) := by decide +kernel
theorem dL_law_318 : decode cL_law 318 = .ok (.aload_n 1, 1) := by decide +kernel
theorem dL_law_319 : decode cL_law 319 = .ok (.iload 8, 2) := by decide +kernel
theorem dL_law_321 : decode cL_law 321 = .ok (.iconst 5, 1) := by decide +kernel
theorem dL_law_322 : decode cL_law 322 = .ok (.invokevirtual 91, 3) := by decide +kernel
theorem dL_law_325 : decode cL_law 325 = .ok (.iastore, 1) := by decide +kernel
theorem dL_law_326 : decode cL_law 326 = .ok (.aastore, 1) := by decide +kernel
theorem dL_law_327 : decode cL_law 327 = .ok (.iinc 8 1, 3) := by decide +kernel
theorem dL_law_330 : decode cL_law 330 = .ok (.aload 9, 2) := by decide +kernel
theorem dL_law_332 : decode cL_law 332 = .ok (.iload 12, 2) := by decide +kernel
theorem dL_law_334 : decode cL_law 334 = .ok (.dup2, 1) := by decide +kernel
theorem dL_law_335 : decode cL_law 335 = .ok (.iaload, 1) := by decide +kernel
theorem dL_law_336 : decode cL_law 336 = .ok (.iconst 1, 1) := by decide +kernel
theorem dL_law_337 : decode cL_law 337 = .ok (.iadd, 1) := by decide +kernel
theorem dL_law_338 : decode cL_law 338 = .ok (.iastore, 1) := by decide +kernel
theorem dL_law_339 : decode cL_law 339 = .ok (.aload 7, 2) := by decide +kernel
theorem dL_law_341 : decode cL_law 341 = .ok (.iload 8, 2) := by decide +kernel
theorem dL_law_343 : decode cL_law 343 = .ok (.iconst 1, 1) := by decide +kernel
theorem dL_law_344 : decode cL_law 344 = .ok (.isub, 1) := by decide +kernel
theorem dL_law_345 : decode cL_law 345 = .ok (.aaload, 1) := by decide +kernel
theorem dL_law_346 : decode cL_law 346 = .ok (.iconst 5, 1) := by decide +kernel
theorem dL_law_347 : decode cL_law 347 = .ok (.iaload, 1) := by decide +kernel
theorem dL_law_348 : decode cL_law 348 = .ok (.iconst 1, 1) := by decide +kernel
theorem dL_law_349 : decode cL_law 349 = .ok (.aload 9, 2) := by decide +kernel
theorem dL_law_351 : decode cL_law 351 = .ok (.iload 12, 2) := by decide +kernel
theorem dL_law_353 : decode cL_law 353 = .ok (.iaload, 1) := by decide +kernel
theorem dL_law_354 : decode cL_law 354 = .ok (.iconst 2, 1) := by decide +kernel
theorem dL_law_355 : decode cL_law 355 = .ok (.irem, 1) := by decide +kernel
theorem dL_law_356 : decode cL_law 356 = .ok (.isub, 1) := by decide +kernel
theorem dL_law_357 : decode cL_law 357 = .ok (.if_icmp .eq 5, 3) := by decide +kernel
theorem dL_law_360 : decode cL_law 360 = .ok (.iconst 0, 1) := by decide +kernel
theorem dL_law_361 : decode cL_law 361 = .ok (.ireturn, 1) := by decide +kernel
theorem dL_law_362 : decode cL_law 362 = .ok (.iinc 10 1, 3) := by decide +kernel
theorem dL_law_365 : decode cL_law 365 = .ok (.goto (-295), 3) := by decide +kernel
theorem dL_law_368 : decode cL_law 368 = .ok (.iconst 0, 1) := by decide +kernel
theorem dL_law_369 : decode cL_law 369 = .ok (.istore 10, 2) := by decide +kernel
theorem dL_law_371 : decode cL_law 371 = .ok (.iload 10, 2) := by decide +kernel
theorem dL_law_373 : decode cL_law 373 = .ok (.sipush 2880, 3) := by decide +kernel
theorem dL_law_376 : decode cL_law 376 = .ok (.if_icmp .ge 148, 3) := by decide +kernel
theorem dL_law_379 : decode cL_law 379 = .ok (.iconst 0, 1) := by decide +kernel
theorem dL_law_380 : decode cL_law 380 = .ok (.istore 11, 2) := by decide +kernel
theorem dL_law_382 : decode cL_law 382 = .ok (.iconst 0, 1) := by decide +kernel
theorem dL_law_383 : decode cL_law 383 = .ok (.istore 12, 2) := by decide +kernel
theorem dL_law_385 : decode cL_law 385 = .ok (.iload 12, 2) := by decide +kernel
theorem dL_law_387 : decode cL_law 387 = .ok (.aload 6, 2) := by decide +kernel
theorem dL_law_389 : decode cL_law 389 = .ok (.iconst 1, 1) := by decide +kernel
theorem dL_law_390 : decode cL_law 390 = .ok (.iaload, 1) := by decide +kernel
theorem dL_law_391 : decode cL_law 391 = .ok (.if_icmp .ge 49, 3) := by decide +kernel
theorem dL_law_394 : decode cL_law 394 = .ok (.aload_n 1, 1) := by decide +kernel
theorem dL_law_395 : decode cL_law 395 = .ok (.iload 12, 2) := by decide +kernel
theorem dL_law_397 : decode cL_law 397 = .ok (.iload 10, 2) := by decide +kernel
theorem dL_law_399 : decode cL_law 399 = .ok (.invokevirtual 101, 3) := by decide +kernel
theorem dL_law_402 : decode cL_law 402 = .ok (.istore 13, 2) := by decide +kernel
theorem dL_law_404 : decode cL_law 404 = .ok (.iload 13, 2) := by decide +kernel
theorem dL_law_406 : decode cL_law 406 = .ok (.ifCond .ge 6, 3) := by decide +kernel
theorem dL_law_409 : decode cL_law 409 = .ok (.goto 25, 3) := by decide +kernel
theorem dL_law_412 : decode cL_law 412 = .ok (.iload 11, 2) := by decide +kernel
theorem dL_law_414 : decode cL_law 414 = .ok (.iload 13, 2) := by decide +kernel
theorem dL_law_416 : decode cL_law 416 = .ok (.ishr, 1) := by decide +kernel
theorem dL_law_417 : decode cL_law 417 = .ok (.iconst 1, 1) := by decide +kernel
theorem dL_law_418 : decode cL_law 418 = .ok (.iand, 1) := by decide +kernel
theorem dL_law_419 : decode cL_law 419 = .ok (.iconst 1, 1) := by decide +kernel
theorem dL_law_420 : decode cL_law 420 = .ok (.if_icmp .ne 5, 3) := by decide +kernel
theorem dL_law_423 : decode cL_law 423 = .ok (.iconst 0, 1) := by decide +kernel
theorem dL_law_424 : decode cL_law 424 = .ok (.ireturn, 1) := by decide +kernel
theorem dL_law_425 : decode cL_law 425 = .ok (.iload 11, 2) := by decide +kernel
theorem dL_law_427 : decode cL_law 427 = .ok (.iconst 1, 1) := by decide +kernel
theorem dL_law_428 : decode cL_law 428 = .ok (.iload 13, 2) := by decide +kernel
theorem dL_law_430 : decode cL_law 430 = .ok (.ishl, 1) := by decide +kernel
theorem dL_law_431 : decode cL_law 431 = .ok (.ior, 1) := by decide +kernel
theorem dL_law_432 : decode cL_law 432 = .ok (.istore 11, 2) := by decide +kernel
theorem dL_law_434 : decode cL_law 434 = .ok (.iinc 12 1, 3) := by decide +kernel
theorem dL_law_437 : decode cL_law 437 = .ok (.goto (-52), 3) := by decide +kernel
theorem dL_law_440 : decode cL_law 440 = .ok (.iconst 0, 1) := by decide +kernel
theorem dL_law_441 : decode cL_law 441 = .ok (.istore 12, 2) := by decide +kernel
theorem dL_law_443 : decode cL_law 443 = .ok (.iconst 0, 1) := by decide +kernel
theorem dL_law_444 : decode cL_law 444 = .ok (.istore 13, 2) := by decide +kernel
theorem dL_law_446 : decode cL_law 446 = .ok (.iload 13, 2) := by decide +kernel
theorem dL_law_448 : decode cL_law 448 = .ok (.iload 8, 2) := by decide +kernel
theorem dL_law_450 : decode cL_law 450 = .ok (.if_icmp .ge 59, 3) := by decide +kernel
theorem dL_law_453 : decode cL_law 453 = .ok (.aload 7, 2) := by decide +kernel
theorem dL_law_455 : decode cL_law 455 = .ok (.iload 13, 2) := by decide +kernel
theorem dL_law_457 : decode cL_law 457 = .ok (.aaload, 1) := by decide +kernel
theorem dL_law_458 : decode cL_law 458 = .ok (.iconst 5, 1) := by decide +kernel
theorem dL_law_459 : decode cL_law 459 = .ok (.iaload, 1) := by decide +kernel
theorem dL_law_460 : decode cL_law 460 = .ok (.ifCond .ne 43, 3) := by decide +kernel
theorem dL_law_463 : decode cL_law 463 = .ok (.aload 7, 2) := by decide +kernel
theorem dL_law_465 : decode cL_law 465 = .ok (.iload 13, 2) := by decide +kernel
theorem dL_law_467 : decode cL_law 467 = .ok (.aaload, 1) := by decide +kernel
theorem dL_law_468 : decode cL_law 468 = .ok (.iconst 1, 1) := by decide +kernel
theorem dL_law_469 : decode cL_law 469 = .ok (.iaload, 1) := by decide +kernel
theorem dL_law_470 : decode cL_law 470 = .ok (.iload 10, 2) := by decide +kernel
theorem dL_law_472 : decode cL_law 472 = .ok (.if_icmp .gt 31, 3) := by decide +kernel
theorem dL_law_475 : decode cL_law 475 = .ok (.iload 10, 2) := by decide +kernel
theorem dL_law_477 : decode cL_law 477 = .ok (.iload 8, 2) := by decide +kernel
theorem dL_law_479 : decode cL_law 479 = .ok (.aload 7, 2) := by decide +kernel
theorem dL_law_481 : decode cL_law 481 = .ok (.iload 13, 2) := by decide +kernel
theorem dL_law_483 : decode cL_law 483 = .ok (.invokestatic 52, 3) := by decide +kernel
theorem dL_law_486 : decode cL_law 486 = .ok (.if_icmp .ge 17, 3) := by decide +kernel
theorem dL_law_489 : decode cL_law 489 = .ok (.iload 12, 2) := by decide +kernel
theorem dL_law_491 : decode cL_law 491 = .ok (.iconst 1, 1) := by decide +kernel
theorem dL_law_492 : decode cL_law 492 = .ok (.aload 7, 2) := by decide +kernel
theorem dL_law_494 : decode cL_law 494 = .ok (.iload 13, 2) := by decide +kernel
theorem dL_law_496 : decode cL_law 496 = .ok (.aaload, 1) := by decide +kernel
theorem dL_law_497 : decode cL_law 497 = .ok (.iconst 0, 1) := by decide +kernel
theorem dL_law_498 : decode cL_law 498 = .ok (.iaload, 1) := by decide +kernel
theorem dL_law_499 : decode cL_law 499 = .ok (.ishl, 1) := by decide +kernel
theorem dL_law_500 : decode cL_law 500 = .ok (.ior, 1) := by decide +kernel
theorem dL_law_501 : decode cL_law 501 = .ok (.istore 12, 2) := by decide +kernel
theorem dL_law_503 : decode cL_law 503 = .ok (.iinc 13 1, 3) := by decide +kernel
theorem dL_law_506 : decode cL_law 506 = .ok (.goto (-60), 3) := by decide +kernel
theorem dL_law_509 : decode cL_law 509 = .ok (.iload 12, 2) := by decide +kernel
theorem dL_law_511 : decode cL_law 511 = .ok (.iload 11, 2) := by decide +kernel
theorem dL_law_513 : decode cL_law 513 = .ok (.if_icmp .eq 5, 3) := by decide +kernel
theorem dL_law_516 : decode cL_law 516 = .ok (.iconst 0, 1) := by decide +kernel
theorem dL_law_517 : decode cL_law 517 = .ok (.ireturn, 1) := by decide +kernel
theorem dL_law_518 : decode cL_law 518 = .ok (.iinc 10 13, 3) := by decide +kernel
theorem dL_law_521 : decode cL_law 521 = .ok (.goto (-150), 3) := by decide +kernel
theorem dL_law_524 : decode cL_law 524 = .ok (.aload_n 1, 1) := by decide +kernel
theorem dL_law_525 : decode cL_law 525 = .ok (.iconst 4, 1) := by decide +kernel
theorem dL_law_526 : decode cL_law 526 = .ok (.invokevirtual 41, 3) := by decide +kernel
theorem dL_law_529 : decode cL_law 529 = .ok (.iload 8, 2) := by decide +kernel
theorem dL_law_531 : decode cL_law 531 = .ok (.if_icmp .ne 7, 3) := by decide +kernel
theorem dL_law_534 : decode cL_law 534 = .ok (.iconst 1, 1) := by decide +kernel
theorem dL_law_535 : decode cL_law 535 = .ok (.goto 4, 3) := by decide +kernel
theorem dL_law_538 : decode cL_law 538 = .ok (.iconst 0, 1) := by decide +kernel
theorem dL_law_539 : decode cL_law 539 = .ok (.ireturn, 1) := by decide +kernel
abbrev vwCl : List vw_C := [(RJx4a65c, TJx4a65c, 3), (RX0, TX0, 3), (RX1, TX1, 7), (RX2, TX2, 4), (RX3, TX3, 4), (RX4, TX4, 4), (RX5, TX5, 3), (RX6, TX6, 8)]
